/-! The reference uses objects. -/
theorem cI_c : cI 1 (onS 0) ∧ cI 2 (onS 1) ∧ cI 4 (onS 2) ∧ cI 8 (onS 3) ∧ cI 16 (onS 4) ∧ cI 32 (onS 5) := by
  have i : ∀ x : Int, 0 ≤ x → x ≤ 32 → iR x := fun x h1 h2 => by unfold iR; omega
  refine ⟨⟨i _ (by decide) (by decide), ?_⟩, ⟨i _ (by decide) (by decide), ?_⟩, ⟨i _ (by decide) (by decide), ?_⟩, ⟨i _ (by decide) (by decide), ?_⟩, ⟨i _ (by decide) (by decide), ?_⟩, ⟨i _ (by decide) (by decide), ?_⟩⟩
  · decide +kernel
  · decide +kernel
  · decide +kernel
  · decide +kernel
  · decide +kernel
  · decide +kernel
/-- the errors as bits -/
def rzS (G : jZ) (σ : jG) (x : jC) (h : Nat) (u : jQ) : Nat → Bool := fun e => decide (e < 6) && pRz G σ x h u e
section ROB
variable {F : Int → Prop} {dn up : Int → Int} {S : nk_S} {P n : Nat} {us : List Int} {z : jL} {l : Nat} {t : Nat → Int} {G : jZ} {σ : jG} {x : jC} {h : Nat} {u : jQ}
theorem rz_1 {b : Bool} {e0 : Nat} (he : e0 < 6) (hr : ∀ e, e < 6 → pRz G σ x h u e = (b && decide (e = e0))) : nlR b e0 noS = rzS G σ x h u := by
  funext e
  unfold nlR rzS
  by_cases c : e < 6
  · rw [decide_eq_true c, Bool.true_and, hr e c]
    cases b with
    | false => rw [if_neg (by decide)]; rfl
    | true => rw [if_pos rfl]; show (false || decide (e = e0)) = _; rw [Bool.false_or, Bool.true_and]
  · rw [decide_eq_false c, Bool.false_and]
    cases b with
    | false => rw [if_neg (by decide)]; rfl
    | true => rw [if_pos rfl]; show (false || decide (e = e0)) = _; rw [Bool.false_or, decide_eq_false (by omega)]
theorem rz_0 (hr : ∀ e, e < 6 → pRz G σ x h u e = false) : noS = rzS G σ x h u := rz_1 (b := false) (e0 := 0) (by decide) (fun e q => by rw [hr e q]; rfl)
theorem rz_3 {b0 b1 b2 : Bool} {e0 e1 e2 : Nat} (he : e0 < 6 ∧ e1 < 6 ∧ e2 < 6) (hr : ∀ e, e < 6 → pRz G σ x h u e = ((b0 && decide (e = e0)) || (b1 && decide (e = e1)) || (b2 && decide (e = e2)))) : nlR b2 e2 (nlR b1 e1 (nlR b0 e0 noS)) = rzS G σ x h u := by
  have nl : ∀ (b : Bool) (e0 : Nat) (r : Nat → Bool) (e : Nat), nlR b e0 r e = (r e || (b && decide (e = e0))) := fun b e0 r e => by
    unfold nlR
    cases b with
    | false => rw [if_neg (by decide), Bool.false_and, Bool.or_false]
    | true => rw [if_pos rfl]; rfl
  funext e
  rw [nl, nl, nl]
  unfold rzS
  by_cases c : e < 6
  · rw [decide_eq_true c, Bool.true_and, hr e c]
    show ((false || _) || _ || _) = _
    rw [Bool.false_or]
  · rw [decide_eq_false c, Bool.false_and, decide_eq_false (show ¬ e = e0 by omega), decide_eq_false (show ¬ e = e1 by omega), decide_eq_false (show ¬ e = e2 by omega), Bool.and_false, Bool.and_false, Bool.and_false]
    rfl
/-- an error is raised -/
def rzW (b : Bool) (c : Int) (S : nk_S) : nk_S := if b = true then nk_wi S 121 39 (nk_ior (S.1 121 39) c) else S
theorem rzW_f {b : Bool} {c : Int} : nFr S (rzW b c S) ∧ (rzW b c S).1 121 25 = S.1 121 25 ∧ (rzW b c S).1 121 40 = S.1 121 40 ∧ (∀ a, a ≠ 121 → (rzW b c S).1 a = S.1 a) ∧ ∀ {t : Nat} {u : jQ}, rX S t u → rX (rzW b c S) t u := by
  unfold rzW
  cases b with
  | false => rw [if_neg (by decide)]; exact ⟨nFr_rfl, rfl, rfl, fun _ _ => rfl, fun q => q⟩
  | true =>
    rw [if_pos rfl]
    exact ⟨⟨rfl, fun a _ h => wi_n h, fun f _ h _ => by rw [wi_at, if_neg h]⟩, by rw [wi_at, if_neg (by decide)], by rw [wi_at, if_neg (by decide)], fun a h => wi_n h, fun {t u} hr k hk => rSo_c (fun q hq => by rw [wi_n (by unfold rWk; omega)]) (hr k hk)⟩
theorem rzW_r {b : Bool} {c : Int} {e : Nat} {r : Nat → Bool} (hc : cI c (onS e)) (hr : cI (S.1 121 39) r) : cI ((rzW b c S).1 121 39) (nlR b e r) := by
  unfold rzW nlR
  cases b with
  | false => rw [if_neg (by decide), if_neg (by decide)]; exact hr
  | true => rw [if_pos rfl, if_pos rfl, wi_at, if_pos rfl]; exact cI_or hr hc
/-- a reference is followed -/
theorem r_deref {s t : Nat} (hu : ∀ k, wOk F (u k)) (hs : 12 ≤ s ∧ s < t) (ht : t ≤ 24) (hr : rX S t u) : ∃ S', ja_X13_dereference 121 (s : Int) S = some (bi (pDr u s).isSome, S') ∧ xFr (rzW ((u s).2.2.1 62) 1 S) S' ∧ ∀ w, pDr u s = some w → rX S' t (qUp w s (wSt (u s) (sAnd (u s).2.2.1 sAl))) := by
  have h3 : cV (S.1 232 s) (u s).2.2.1 := (hr s hs.2).2.2.2.1
  obtain ⟨S', a1, a2, a3⟩ := x_keeps hu hs ht ((rzW_f (S := S) (b := (u s).2.2.1 62) (c := 1)).2.2.2.2 hr) cV_n62
  have b25 : ja_X13_dereference_b25 121 (s : Int) (rzW ((u s).2.2.1 62) 1 S) = some (bi (pDr u s).isSome, S') := by
    unfold ja_X13_dereference_b25
    rw [a1, bd_some, if_pos (bi_01 _), sAnd_al (hu s), qKp_al hu]
    unfold pDr
    cases hq : sEx (sAnd (u s).2.2.1 sAl) with
    | false => rw [if_neg (by decide)]; rfl
    | true => rw [if_pos rfl]; rfl
  refine ⟨S', ?_, a2, fun w q => ?_⟩
  · unfold ja_X13_dereference
    rw [if_pos (in_i (N := 24) (by omega)), jc_121_29, Int.toNat_natCast]
    cases hb : (u s).2.2.1 62 with
    | false =>
      rw [if_pos ((cV_bit h3).mpr hb)]
      rw [hb] at b25
      exact b25
    | true =>
      rw [if_neg (fun q => by rw [(cV_bit h3).mp q] at hb; cases hb), lt_eq]
      rw [hb] at b25
      exact b25
  · rw [sAnd_al (hu s), qKp_al hu] at a3
    unfold pDr at q
    cases hq : sEx (sAnd (u s).2.2.1 sAl) with
    | false => rw [hq, if_neg (by decide)] at q; cases q
    | true => rw [hq, if_pos rfl] at q; exact a3 w hq q
theorem fJ_al {f : Nat → Option jW} {s : Nat → Bool} : ∀ n, n ≤ 54 → fJ f (sAnd s sAl) n = fJ f s n := by
  intro n
  induction n with
  | zero => intro _; rfl
  | succ n ih =>
    intro hn
    rw [fJ, fJ, ih (by omega), show sAnd s sAl n = s n by unfold sAnd sAl; rw [decide_eq_true (by omega), Bool.and_true]]
/-- a row whose slot below the top is something new -/
theorem rX_pop {S S' : nk_S} {t r : Nat} {v w : jQ} {y q : jW} (hr : rX S t (qUp v r q)) (hw : w = v) (ht : r < t) (hf : ∀ a i, 229 ≤ a → a ≤ 237 → i ≠ r → S'.1 a i = S.1 a i) (hy : rSo S' rWk r y) : rX S' (r + 1) (qUp w r y) := by
  subst hw
  intro k hk
  by_cases e : k = r
  · rw [e, qUp_at]; exact hy
  · rw [qUp_ne e]
    have := hr k (by omega)
    rw [qUp_ne e] at this
    exact rSo_c (fun j hj => hf _ _ (by unfold rWk; omega) (by unfold rWk; omega) e) this
theorem rSo_7 {S : nk_S} {c k m : Nat} {w : jW} {v : Int} (hm : m < 12) (hc : c = 236 ∨ c = 237) (hw : rSo S rWk k w) (hf : w.2.2.2.2 = noS) (hv : cI v (onS m)) : rSo (nk_wi S c k v) rWk k (wFc w (onS ((if c = 236 then 24 else 36) + m))) := by
  obtain ⟨z0, z1, z2, z3, z4, z5, z6, z7, z8⟩ := hw
  rw [hf] at z5 z6 z7 z8
  have no : ∀ o o', o % 12 = 0 → o' % 12 = 0 → o ≠ o' → ∀ j, j < 12 → noS (o + j) = onS (o' + m) (o + j) := fun o o' h1 h2 h3 j hj => by
    show false = decide (o + j = o' + m)
    rw [decide_eq_false (by omega)]
  have ye : ∀ o, mI v (onS (o + m)) o := fun o => cI_e hv (fun j => by
    show decide (j = m) = (decide (j < 12) && decide (o + j = o + m))
    by_cases c : j = m
    · rw [decide_eq_true c, decide_eq_true (show j < 12 by omega), decide_eq_true (show o + j = o + m by omega)]; rfl
    · rw [decide_eq_false c, decide_eq_false (show ¬ o + j = o + m by omega), Bool.and_false])
  rcases hc with rfl | rfl
  · rw [if_pos rfl]
    refine ⟨?_, ?_, ?_, ?_, ?_, ?_, ?_, ?_, ?_⟩
    · show (nk_wi S 236 k v).1 229 k = _
      rw [wi_n (by decide)]; exact z0
    · show (nk_wi S 236 k v).1 230 k = _
      rw [wi_n (by decide)]; exact z1
    · show (nk_wi S 236 k v).1 231 k = _
      rw [wi_n (by decide)]; exact z2
    · show cV ((nk_wi S 236 k v).1 232 k) _
      rw [wi_n (by decide)]; exact z3
    · show (nk_wi S 236 k v).1 233 k = _
      rw [wi_n (by decide)]; exact z4
    · show mI ((nk_wi S 236 k v).1 234 k) (onS (24 + m)) 0
      rw [wi_n (by decide)]; exact mI_f z5 (no 0 24 (by decide) (by decide) (by decide))
    · show mI ((nk_wi S 236 k v).1 235 k) (onS (24 + m)) 12
      rw [wi_n (by decide)]; exact mI_f z6 (no 12 24 (by decide) (by decide) (by decide))
    · show mI ((nk_wi S 236 k v).1 236 k) (onS (24 + m)) 24
      rw [wi_at, if_pos rfl]; exact ye 24
    · show mI ((nk_wi S 236 k v).1 237 k) (onS (24 + m)) 36
      rw [wi_n (by decide)]; exact mI_f z8 (no 36 24 (by decide) (by decide) (by decide))
  · rw [if_neg (by decide)]
    refine ⟨?_, ?_, ?_, ?_, ?_, ?_, ?_, ?_, ?_⟩
    · show (nk_wi S 237 k v).1 229 k = _
      rw [wi_n (by decide)]; exact z0
    · show (nk_wi S 237 k v).1 230 k = _
      rw [wi_n (by decide)]; exact z1
    · show (nk_wi S 237 k v).1 231 k = _
      rw [wi_n (by decide)]; exact z2
    · show cV ((nk_wi S 237 k v).1 232 k) _
      rw [wi_n (by decide)]; exact z3
    · show (nk_wi S 237 k v).1 233 k = _
      rw [wi_n (by decide)]; exact z4
    · show mI ((nk_wi S 237 k v).1 234 k) (onS (36 + m)) 0
      rw [wi_n (by decide)]; exact mI_f z5 (no 0 36 (by decide) (by decide) (by decide))
    · show mI ((nk_wi S 237 k v).1 235 k) (onS (36 + m)) 12
      rw [wi_n (by decide)]; exact mI_f z6 (no 12 36 (by decide) (by decide) (by decide))
    · show mI ((nk_wi S 237 k v).1 236 k) (onS (36 + m)) 24
      rw [wi_n (by decide)]; exact mI_f z7 (no 24 36 (by decide) (by decide) (by decide))
    · show mI ((nk_wi S 237 k v).1 237 k) (onS (36 + m)) 36
      rw [wi_at, if_pos rfl]; exact ye 36
/-- after following a reference, what the table holds is left -/
theorem r_drv (hP : P = 122 ∨ P = 168) {d : Nat} (hd : 1 ≤ d ∧ d ≤ h) (h8 : h ≤ 8) {w : jQ} {y : jW} {s : Nat → Bool} {T : nk_S} (hx : rX T (12 + h) (qUp w (12 + h - d) y)) (hs : y.2.2.1 = s) {fr ap : Nat} (hap : ap = 1 ∨ ap = 48) (hfr : fr ≤ 3300) {f : Nat → Option jW} {K : Nat} (hv : ∀ k, k < 54 → s k = true → fr + ap * k < 3324 ∧ rVo T P (fr + ap * k) (f k)) (hk : ∀ k w, k < 54 → s k = true → f k = some w → vBr F w ∧ w.1 = K) : ∃ S', ja_X13_leaveValues 121 P (fr : Int) (ap : Int) (T.1 232 (12 + h - d)) (nk_wi T 121 25 ((12 + h - d : Nat) : Int)) = some (bi (fJ f s 54).isSome, S') ∧ uFr T S' ∧ S'.1 121 25 = ((12 + h - d + 1 : Nat) : Int) ∧ rSo S' rWk (12 + h - d) ((fJ f s 54).getD wU) ∧ ∀ q, rSo S' rWk (12 + h - d) q → rX S' (12 + h - d + 1) (qUp w (12 + h - d) q) := by
  have c3 : cV (T.1 232 (12 + h - d)) s := by
    have := (hx (12 + h - d) (by omega)).2.2.2.1
    rw [qUp_at, hs] at this
    exact this
  obtain ⟨S', a1, a2, a3, a4, a5⟩ := r_lvals (S := nk_wi T 121 25 ((12 + h - d : Nat) : Int)) (F := F) hP (t := 12 + h - d) (by omega) (u := qUp w (12 + h - d) y) ⟨by rw [wi_at, if_pos rfl], rX_w (rX_25 hx) (by omega) (fun _ _ => rfl)⟩ hap hfr c3 (f := f) (K := K) (fun k h1 h2 => ⟨(hv k h1 h2).1, rVo_c (fun a h3 h4 => by rw [wi_n (by omega)]) (hv k h1 h2).2⟩) hk
  refine ⟨S', a1, uFr_trans uFr_25 a2, a3, a5, fun q hq => rX_pop (rX_w (t' := 12 + h) hx (Nat.le_refl _) (fun _ _ => rfl)) rfl (by omega) (fun a i h1 h2 h3 => by rw [a4 a i h1 h2 h3, wi_n (by omega)]) hq⟩
/-- the length of an array -/
theorem r_length (hP : P = 122 ∨ P = 168) (hu : ∀ k, wOk F (u k)) (h1 : 1 ≤ h) (h8 : h ≤ 8) (hr : rRw S (12 + h) u) {σ : jG} (hG : rGm S P σ) (hk : ∀ k w, k < 54 → σ.1 (2646 + k) = some w → vBr F w ∧ w.1 = 1) : ∃ S', ja_X13_lengthOf 121 P S = some (bi (oB (pDr u (12 + h - 1)) fun v => oB (pLn σ (u (12 + h - 1)).2.2.1) fun l => some (qUp v (12 + h - 1) (wFc (wR l.2.1) (oOn (u (12 + h - 1)).2.2.2.1 24)))).isSome, S') ∧ uFr (rzW ((u (12 + h - 1)).2.2.1 62) 1 S) S' ∧ ∀ w, (oB (pDr u (12 + h - 1)) fun v => oB (pLn σ (u (12 + h - 1)).2.2.1) fun l => some (qUp v (12 + h - 1) (wFc (wR l.2.1) (oOn (u (12 + h - 1)).2.2.2.1 24)))) = some w → rRw S' (12 + h) w := by
  have e1 : ∀ _ : Unit, nk_w (((12 + h : Nat) : Int) - 1) = ((12 + h - 1 : Nat) : Int) := fun _ => top_w (d := 1) h8 (by omega)
  obtain ⟨T, a1, a2, a3⟩ := r_deref hu (s := 12 + h - 1) (t := 12 + h) ⟨by omega, by omega⟩ (by omega) hr.2
  obtain ⟨f1, f2, f3, f4, f5⟩ := rzW_f (S := S) (b := (u (12 + h - 1)).2.2.1 62) (c := 1)
  unfold ja_X13_lengthOf
  rw [hr.1, e1 (), lt_eq, a1, bd_some]
  cases hq : pDr u (12 + h - 1) with
  | none =>
    rw [if_pos (show bi (none : Option jQ).isSome = 0 from rfl)]
    exact ⟨T, rfl, xFr_u a2, fun w q => by cases q⟩
  | some v =>
    have x1 := a3 v hq
    have t25 : T.1 121 25 = ((12 + h : Nat) : Int) := by rw [a2.2 121 (by omega), f2]; exact hr.1
    have c4 : T.1 233 (12 + h - 1) = cpI (u (12 + h - 1)).2.2.2.1 := by
      have := (x1 (12 + h - 1) (by omega)).2.2.2.2.1
      rw [qUp_at] at this; exact this
    obtain ⟨S1, b1, b2, b3, b4, b5⟩ := r_drv (F := F) hP (d := 1) (h := h) (by omega) h8 x1 (s := sAnd (u (12 + h - 1)).2.2.1 sAl) rfl (fr := 2646) (ap := 1) (Or.inl rfl) (by omega) (f := fun k => σ.1 (2646 + k)) (K := 1) (fun k h1 h2 => ⟨by omega, by
      have := hG.1 (2646 + k) (by omega)
      rw [show rIx (2646 + k) = 2646 + 1 * k by unfold rIx; rw [if_pos (by omega)]; omega] at this
      exact rVo_c (fun a h3 h4 => by rw [a2.2 a (by omega), f4 a (by omega)]) this⟩) (fun k w h1 _ h3 => hk k w h1 h3)
    rw [fJ_al 54 (Nat.le_refl _)] at b1 b4
    have b1 : ja_X13_leaveValues 121 P 2646 1 (T.1 232 (12 + h - 1)) (nk_wi T 121 25 ((12 + h - 1 : Nat) : Int)) = some (bi (fJ (fun k => σ.1 (2646 + k)) (u (12 + h - 1)).2.2.1 54).isSome, S1) := b1
    rw [if_neg (show ¬ bi (some v).isSome = 0 from (by show ¬ (1 : Int) = 0; decide)), if_pos (in_i (N := 24) (by omega)), jc_121_29, jc_121_30, Int.toNat_natCast, lt_eq, lt_eq, t25, e1 (), lt_eq, b1, bd_some, c4]
    have pl : fJ (fun k => σ.1 (2646 + k)) (u (12 + h - 1)).2.2.1 54 = pLn σ (u (12 + h - 1)).2.2.1 := rfl
    rw [pl] at b4 ⊢
    have up : 12 + h - 1 + 1 = 12 + h := by omega
    rw [up] at b3 b5
    -- what is left is a number
    have num : ∀ lv, pLn σ (u (12 + h - 1)).2.2.1 = some lv → lv = wR lv.2.1 := fun lv hl => by
      have := fJ_b (F := F) (N := 54) (K := 1) (fun m w h1 _ h3 => hk m w h1 h3) 54 (Nat.le_refl _) lv hl
      exact vBr_1 this.1 this.2
    cases hc : (u (12 + h - 1)).2.2.2.1 with
    | none =>
      rw [if_pos (show cpI none < 0 by decide), if_pos (bi_01 _)]
      refine ⟨S1, ?_, uFr_trans (xFr_u a2) b2, fun w q => ?_⟩
      · cases hl : pLn σ (u (12 + h - 1)).2.2.1 <;> rfl
      · cases hl : pLn σ (u (12 + h - 1)).2.2.1 with
        | none => rw [hl] at q; cases q
        | some lv =>
          rw [hl] at q b4
          cases q
          have hn := num lv hl
          refine ⟨b3, b5 _ ?_⟩
          have e : wFc (wR lv.2.1) (oOn none 24) = lv := by rw [hn]; rfl
          rw [e]
          exact b4
    | some k =>
      have hk12 := (hu (12 + h - 1)).1 k hc
      rw [if_neg (show ¬ cpI (some k) < 0 by show ¬ (k : Int) < 0; omega), b3, e1 (), if_pos (in_i (N := 24) (by omega)), jc_121_33, Int.toNat_natCast, lt_eq, if_pos (bi_01 _)]
      obtain ⟨S2, hS2⟩ : ∃ S2, S2 = nk_wi S1 236 (12 + h - 1) (nk_ishl 1 (k : Int)) := ⟨_, rfl⟩
      have fS2 : wFo (12 + h - 1) S1 S2 := by rw [hS2]; exact wFo_wi (by omega)
      rw [show cpI (some k) = (k : Int) from rfl, ← hS2]
      refine ⟨S2, ?_, uFr_trans (uFr_trans (xFr_u a2) b2) (xFr_u (wFo_x fS2)), fun w q => ?_⟩
      · cases hl : pLn σ (u (12 + h - 1)).2.2.1 <;> rfl
      · cases hl : pLn σ (u (12 + h - 1)).2.2.1 with
        | none => rw [hl] at q; cases q
        | some lv =>
          rw [hl] at q b4
          cases q
          have hn := num lv hl
          have b4 : rSo S1 rWk (12 + h - 1) lv := b4
          have r7 := rSo_7 (c := 236) (k := 12 + h - 1) (m := k) hk12 (Or.inl rfl) b4 (by rw [hn]; rfl) (cI_on12 hk12)
          rw [if_pos rfl, ← hS2] at r7
          refine ⟨by rw [at_b fS2]; exact b3, ?_⟩
          have x5 := b5 _ b4
          have x6 := rX_up x5 (S' := S2) (b := 12 + h - 1) (fun a i h1 h2 h3 => fS2.2.2 a i h3) r7
          refine rX_w x6 (Nat.le_refl _) (fun j hj => ?_)
          by_cases e : j = 12 + h - 1
          · rw [e, qUp_at, qUp_at]
            have : wFc (wR lv.2.1) (oOn (some k) 24) = wFc lv (onS (24 + k)) := by
              rw [← hn]; rfl
            exact this.symm
          · rw [qUp_ne e, qUp_ne e, qUp_ne e]
end ROB
