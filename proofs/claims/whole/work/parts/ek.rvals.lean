/-! The reference leaves what sites hold; the sites of a type. -/
section RVA
variable {F : Int → Prop} {S : nk_S} {P : Nat}
theorem wJn_b {a c : jW} (ha : vBr F a) (hc : vBr F c) (hk : a.1 = c.1) : wJn a c = (c.1, (min a.2.1.1 c.2.1.1, max a.2.1.2 c.2.1.2), sOr a.2.2.1 c.2.2.1, none, noS) ∧ vBr F (wJn a c) ∧ (wJn a c).1 = c.1 := by
  have e : wJn a c = (c.1, (min a.2.1.1 c.2.1.1, max a.2.1.2 c.2.1.2), sOr a.2.2.1 c.2.2.1, none, noS) := by
    unfold wJn
    rw [if_pos ⟨hk, ha.2.2.2⟩, ha.2.1, hc.2.1, ha.2.2.1, hc.2.2.1, if_pos rfl, hk]
    rfl
  refine ⟨e, ⟨wJn_ok ha.1 hc.1, by rw [e], by rw [e], by rw [e]; exact hc.2.2.2⟩, by rw [e]⟩
theorem fJ_b {f : Nat → Option jW} {s : Nat → Bool} {K : Nat} {N : Nat} (hf : ∀ m w, m < N → s m = true → f m = some w → vBr F w ∧ w.1 = K) : ∀ n, n ≤ N → ∀ w, fJ f s n = some w → vBr F w ∧ w.1 = K := by
  intro n
  induction n with
  | zero => intro _ w q; cases q
  | succ n ih =>
    intro hn w q
    rw [fJ] at q
    by_cases c : s n = true
    · rw [if_pos c] at q
      cases hq : fJ f s n with
      | none =>
        rw [hq] at q
        exact hf n w (by omega) c q
      | some a =>
        rw [hq] at q
        have ha := ih (by omega) a hq
        cases hc : f n with
        | none => rw [hc] at q; cases q; exact ha
        | some v =>
          rw [hc] at q
          cases q
          have hv := hf n v (by omega) c hc
          have := wJn_b ha.1 hv.1 (by rw [ha.2, hv.2])
          exact ⟨this.2.1, by rw [this.2.2, hv.2]⟩
    · rw [if_neg c] at q
      cases hq : fJ f s n with
      | none => rw [hq] at q; cases q
      | some a => rw [hq] at q; cases q; exact ih (by omega) _ hq
/-- four numbers of a slot are written -/
def lvW (T : nk_S) (t : Nat) (lo hi si kd : Int) : nk_S := nk_wi (nk_wi (nk_wi (nk_wi T 230 t lo) 231 t hi) 232 t si) 229 t kd
theorem lvW_s {T : nk_S} {t : Nat} {w0 : jW} {lo hi si : Int} {kd : Nat} {s : Nat → Bool} (h : rSo T rWk t w0) (h1 : w0.2.2.2.1 = none) (h2 : w0.2.2.2.2 = noS) (hs : cV si s) : rSo (lvW T t lo hi si (kd : Int)) rWk t (kd, (lo, hi), s, none, noS) := by
  obtain ⟨z0, z1, z2, z3, z4, z5, z6, z7, z8⟩ := h
  rw [h1] at z4
  rw [h2] at z5 z6 z7 z8
  have nn : ∀ a, 233 ≤ a → (lvW T t lo hi si (kd : Int)).1 a = T.1 a := fun a ha => by
    unfold lvW
    rw [wi_n (by omega), wi_n (by omega), wi_n (by omega), wi_n (by omega)]
  refine ⟨?_, ?_, ?_, ?_, ?_, ?_, ?_, ?_, ?_⟩
  · show (lvW T t lo hi si (kd : Int)).1 229 t = (kd : Int)
    unfold lvW
    rw [wi_at, if_pos rfl]
  · show (lvW T t lo hi si (kd : Int)).1 230 t = lo
    unfold lvW
    rw [wi_n (by decide), wi_n (by decide), wi_n (by decide), wi_at, if_pos rfl]
  · show (lvW T t lo hi si (kd : Int)).1 231 t = hi
    unfold lvW
    rw [wi_n (by decide), wi_n (by decide), wi_at, if_pos rfl]
  · show cV ((lvW T t lo hi si (kd : Int)).1 232 t) s
    unfold lvW
    rw [wi_n (by decide), wi_at, if_pos rfl]; exact hs
  · show (lvW T t lo hi si (kd : Int)).1 233 t = _
    rw [nn 233 (by omega)]; exact z4
  · show mI ((lvW T t lo hi si (kd : Int)).1 234 t) _ 0
    rw [nn 234 (by omega)]; exact z5
  · show mI ((lvW T t lo hi si (kd : Int)).1 235 t) _ 12
    rw [nn 235 (by omega)]; exact z6
  · show mI ((lvW T t lo hi si (kd : Int)).1 236 t) _ 24
    rw [nn 236 (by omega)]; exact z7
  · show mI ((lvW T t lo hi si (kd : Int)).1 237 t) _ 36
    rw [nn 237 (by omega)]; exact z8
theorem lvW_f {T : nk_S} {t : Nat} {lo hi si kd : Int} : wFo t T (lvW T t lo hi si kd) := by
  unfold lvW
  exact wFo_trans (wFo_trans (wFo_trans (wFo_wi (by omega)) (wFo_wi (by omega))) (wFo_wi (by omega))) (wFo_wi (by omega))
theorem r_lvL (hP : P = 122 ∨ P = 168) {t : Nat} (h24 : t < 24) (h25 : S.1 121 25 = (t : Int)) {fr ap : Nat} (hap : ap = 1 ∨ ap = 48) (hfr : fr ≤ 3300) {x : Int} {set : Nat → Bool} (hx : cV x set) {f : Nat → Option jW} {K : Nat} (hv : ∀ s, s < 54 → set s = true → fr + ap * s < 3324 ∧ rVo S P (fr + ap * s) (f s)) (hk : ∀ s w, s < 54 → set s = true → f s = some w → vBr F w ∧ w.1 = K) : ∀ (d s m : Nat) (T : nk_S), s + d = 54 → d < m → wFo t S T → rSo T rWk t ((fJ f set s).getD wU) → ∃ T', ja_X13_leaveValues_L14 m 121 P (fr : Int) (ap : Int) x (bi (fJ f set s).isSome) (s : Int) T = some (bi (fJ f set 54).isSome, nk_wi T' 121 25 ((t + 1 : Nat) : Int)) ∧ wFo t S T' ∧ rSo T' rWk t ((fJ f set 54).getD wU) := by
  obtain ⟨c46, c47, c48, c49, -, -, -⟩ := jc_Pv hP
  intro d
  induction d with
  | zero =>
    intro s m T h1 h2 hf hr
    obtain ⟨m, rfl⟩ : ∃ q, m = q + 1 := ⟨m - 1, by omega⟩
    obtain rfl : s = 54 := by omega
    refine ⟨T, ?_, hf, hr⟩
    show ja_X13_leaveValues_b14 _ 121 P _ _ _ _ _ _ = _
    unfold ja_X13_leaveValues_b14
    have t25 : T.1 121 25 = (t : Int) := by rw [at_b hf, h25]
    rw [if_pos (by decide), t25, w_nat1 (by omega), lt_eq, if_pos (bi_01 _)]
  | succ d ih =>
    intro s m T h1 h2 hf hr
    obtain ⟨m, rfl⟩ : ∃ q, m = q + 1 := ⟨m - 1, by omega⟩
    have t25 : T.1 121 25 = (t : Int) := by rw [at_b hf, h25]
    have es : ∀ _ : Unit, nk_w ((s : Int) + 1) = ((s + 1 : Nat) : Int) := fun _ => w_nat1 (by omega)
    have ei : ∀ _ : Unit, nk_w ((fr : Int) + nk_w ((ap : Int) * (s : Int))) = ((fr + ap * s : Nat) : Int) := fun _ => by
      rcases hap with q | q
      · subst q
        rw [nk_w_id (z := ((1 : Nat) : Int) * (s : Int)) (by omega) (by omega), nk_w_id (z := (fr : Int) + ((1 : Nat) : Int) * (s : Int)) (by omega) (by omega)]
        omega
      · subst q
        rw [nk_w_id (z := ((48 : Nat) : Int) * (s : Int)) (by omega) (by omega), nk_w_id (z := (fr : Int) + ((48 : Nat) : Int) * (s : Int)) (by omega) (by omega)]
        omega
    have same : fJ f set (s + 1) = fJ f set s → ∃ T', ja_X13_leaveValues_L14 m 121 P (fr : Int) (ap : Int) x (bi (fJ f set s).isSome) ((s + 1 : Nat) : Int) T = some (bi (fJ f set 54).isSome, nk_wi T' 121 25 ((t + 1 : Nat) : Int)) ∧ wFo t S T' ∧ rSo T' rWk t ((fJ f set 54).getD wU) := fun q => by
      rw [← q] at hr ⊢
      exact ih (s + 1) m T (by omega) (by omega) hf hr
    show ∃ T', ja_X13_leaveValues_b14 (ja_X13_leaveValues_L14 m) 121 P (fr : Int) (ap : Int) x _ (s : Int) T = _ ∧ _
    unfold ja_X13_leaveValues_b14
    rw [if_neg (by omega), ei (), lt_eq, r_bit hx (by omega)]
    cases hset : set s with
    | false =>
      rw [if_pos (show bi false = 0 from rfl), es (), lt_eq]
      exact same (by rw [fJ, hset, if_neg (by decide)]; cases fJ f set s <;> rfl)
    | true =>
      obtain ⟨i1, i2⟩ := hv s (by omega) hset
      have i3 : rVo T P (fr + ap * s) (f s) := rVo_c (fun a h1 h2 => by rw [hf.2.1 a (by omega)]) i2
      rw [if_neg (show ¬ bi true = 0 by decide), if_pos (in_i (N := 3324) (by omega)), c46, Int.toNat_natCast]
      cases hfs : f s with
      | none =>
        rw [hfs] at i3
        rw [if_pos i3.1, es (), lt_eq]
        exact same (by rw [fJ, hset, if_pos rfl, hfs]; cases fJ f set s <;> rfl)
      | some v =>
        rw [hfs] at i3
        obtain ⟨z0, z1, z2, z3⟩ := i3
        obtain ⟨bv, kv⟩ := hk s v (by omega) hset hfs
        have v12 := vBr_k bv
        have ek : nk_i2b (v.1 : Int) = (v.1 : Int) := i2b_k (by omega)
        -- the rest, whatever low and high are
        have b139 : ∀ (lo hi : Int), ja_X13_leaveValues_b139 (ja_X13_leaveValues_L14 m) 121 P (fr : Int) (ap : Int) x (s : Int) ((fr + ap * s : Nat) : Int) 231 (t : Int) hi (nk_wi T 230 t lo) = ja_X13_leaveValues_L14 m 121 P (fr : Int) (ap : Int) x 1 ((s + 1 : Nat) : Int) (lvW T t lo hi (nk_lor (T.1 232 t) (T.1 (P + 42) (fr + ap * s))) (v.1 : Int)) := fun lo hi => by
          unfold ja_X13_leaveValues_b139
          rw [if_pos (in_i (N := 24) (by omega)), Int.toNat_natCast, lt_eq, wi_n (b := 121) (by decide), wi_n (b := 121) (by decide), t25, if_pos (in_i (N := 24) (by omega)), if_pos (in_i (N := 3324) (by omega)), jc_121_29, c49, Int.toNat_natCast, Int.toNat_natCast, wi_n (b := 232) (by decide), wi_n (b := 232) (by decide), wi_n (b := P + 42) (by omega), wi_n (b := P + 42) (by omega), lt_eq, wi_n (b := 121) (by decide), wi_n (b := 121) (by decide), wi_n (b := 121) (by decide), t25, if_pos (in_i (N := 24) (by omega)), jc_121_26, c46, Int.toNat_natCast, wi_n (b := P + 39) (by omega), wi_n (b := P + 39) (by omega), wi_n (b := P + 39) (by omega), z0, ek, lt_eq, es (), lt_eq]
          rfl
        have go : ∀ (lo hi : Int) (w : jW), fJ f set (s + 1) = some w → rSo (lvW T t lo hi (nk_lor (T.1 232 t) (T.1 (P + 42) (fr + ap * s))) (v.1 : Int)) rWk t w → ∃ T', ja_X13_leaveValues_L14 m 121 P (fr : Int) (ap : Int) x 1 ((s + 1 : Nat) : Int) (lvW T t lo hi (nk_lor (T.1 232 t) (T.1 (P + 42) (fr + ap * s))) (v.1 : Int)) = some (bi (fJ f set 54).isSome, nk_wi T' 121 25 ((t + 1 : Nat) : Int)) ∧ wFo t S T' ∧ rSo T' rWk t ((fJ f set 54).getD wU) := fun lo hi w hw hs => by
          have := ih (s + 1) m (lvW T t lo hi (nk_lor (T.1 232 t) (T.1 (P + 42) (fr + ap * s))) (v.1 : Int)) (by omega) (by omega) (wFo_trans hf lvW_f) (by rw [hw]; exact hs)
          rw [hw] at this
          exact this
        rw [if_neg (show ¬ T.1 (P + 39) (fr + ap * s) = 0 by rw [z0]; omega), t25, c47, jc_121_27, z1]
        cases hq : fJ f set s with
        | none =>
          rw [hq] at hr
          have hw : fJ f set (s + 1) = some v := by rw [fJ, hset, if_pos rfl, hfs, hq]; rfl
          rw [if_pos (show bi (none : Option jW).isSome = 0 from rfl)]
          unfold ja_X13_leaveValues_b96
          rw [if_pos (in_i (N := 24) (by omega)), Int.toNat_natCast, lt_eq, if_pos (show bi (none : Option jW).isSome = 0 from rfl), if_pos (in_i (N := 3324) (by omega)), jc_121_28, c48, Int.toNat_natCast, wi_n (b := 121) (by decide), wi_n (b := P + 41) (by omega), t25, z2, b139]
          refine go _ _ v hw ?_
          have r1 := lvW_s (lo := v.2.1.1) (hi := v.2.1.2) (kd := v.1) hr rfl rfl (cV_or hr.2.2.2.1 z3)
          have : (v.1, (v.2.1.1, v.2.1.2), sOr ((none : Option jW).getD wU).2.2.1 v.2.2.1, none, noS) = v := by
            obtain ⟨v1, v2, v3, v4, v5⟩ := v
            have q1 : v4 = none := bv.2.1
            have q2 : v5 = noS := bv.2.2.1
            rw [q1, q2]
            have : sOr ((none : Option jW).getD wU).2.2.1 v3 = v3 := funext fun j => by
              show (false || v3 j) = v3 j
              rw [Bool.false_or]
            dsimp only at this ⊢
            rw [this]
          rw [this] at r1
          exact r1
        | some w0 =>
          rw [hq] at hr
          have hr : rSo T rWk t w0 := hr
          have b0 := fJ_b (F := F) (N := 54) (K := K) hk s (by omega) w0 hq
          obtain ⟨j1, j2, j3⟩ := wJn_b b0.1 bv (by rw [b0.2, kv])
          have hw : fJ f set (s + 1) = some (wJn w0 v) := by rw [fJ, hset, if_pos rfl, hfs, hq]; rfl
          have y1 : T.1 230 t = w0.2.1.1 := hr.2.1
          have y2 : T.1 231 t = w0.2.1.2 := hr.2.2.1
          rw [if_neg (show ¬ bi (some w0).isSome = 0 from (by show ¬ (1 : Int) = 0; decide)), if_pos (in_i (N := 24) (by omega)), Int.toNat_natCast, y1, min_i, bd_some]
          unfold ja_X13_leaveValues_b96
          rw [if_pos (in_i (N := 24) (by omega)), Int.toNat_natCast, lt_eq, if_neg (show ¬ bi (some w0).isSome = 0 from (by show ¬ (1 : Int) = 0; decide)), wi_n (b := 121) (by decide), t25, if_pos (in_i (N := 24) (by omega)), if_pos (in_i (N := 3324) (by omega)), jc_121_28, c48, Int.toNat_natCast, Int.toNat_natCast, wi_n (b := 231) (by decide), wi_n (b := P + 41) (by omega), y2, z2, max_i, bd_some, b139]
          refine go _ _ _ hw ?_
          rw [j1]
          exact lvW_s hr b0.1.2.1 b0.1.2.2.1 (cV_or hr.2.2.2.1 z3)
/-- what the sites hold is left -/
theorem r_lvals (hP : P = 122 ∨ P = 168) {t : Nat} (h24 : t < 24) {u : jQ} (hr : rRw S t u) {fr ap : Nat} (hap : ap = 1 ∨ ap = 48) (hfr : fr ≤ 3300) {x : Int} {set : Nat → Bool} (hx : cV x set) {f : Nat → Option jW} {K : Nat} (hv : ∀ s, s < 54 → set s = true → fr + ap * s < 3324 ∧ rVo S P (fr + ap * s) (f s)) (hk : ∀ s w, s < 54 → set s = true → f s = some w → vBr F w ∧ w.1 = K) : ∃ S', ja_X13_leaveValues 121 P (fr : Int) (ap : Int) x S = some (bi (fJ f set 54).isSome, S') ∧ uFr S S' ∧ S'.1 121 25 = ((t + 1 : Nat) : Int) ∧ (∀ a i, 229 ≤ a → a ≤ 237 → i ≠ t → S'.1 a i = S.1 a i) ∧ rSo S' rWk t ((fJ f set 54).getD wU) := by
  obtain ⟨q1, q2⟩ := r_clear (S := S) h24
  obtain ⟨T, hT⟩ : ∃ T, T = w9 S 229 t wU9 := ⟨_, rfl⟩
  rw [← hT] at q1 q2
  have fT : wFo t S T := by rw [hT]; exact w9_f
  obtain ⟨bm, hbm⟩ := big_ge 100 (by decide)
  obtain ⟨T', g1, g2, g3⟩ := r_lvL (S := S) (F := F) hP h24 hr.1 hap hfr hx hv hk 54 0 nk_big T (by omega) (by omega) fT q2
  refine ⟨nk_wi T' 121 25 ((t + 1 : Nat) : Int), ?_, uFr_trans (xFr_u (wFo_x g2)) uFr_25, by rw [wi_at, if_pos rfl], fun a i h1 h2 h3 => by rw [wi_n (by omega), g2.2.2 a i h3], rSo_c (fun j hj => by rw [wi_n (by unfold rWk; omega)]) g3⟩
  unfold ja_X13_leaveValues
  rw [hr.1, q1, bd_some]
  exact g1
/-- the sites of a type -/
theorem r_sbL {us : List Int} {z : jL} (hP : P = 122 ∨ P = 168) (hU : rUs S P us) (hu : uOk us) (h32 : us.length ≤ 32) (hl : S.1 P 4 = (z.2.1.length : Int)) (h48 : z.2.1.length ≤ 48) (hs : sOk us z) (hty : ∀ s, s < 54 → sVd z s = true → S.1 (P + 20) s = rvU (sTp z s)) {t : Int} (vt : tV us t) : ∀ (d s m : Nat) (v : Int), s + d = 54 → d < m → cV v (fun j => decide (j < s) && pB us z t j) → ∃ v', ja_X13_sitesBelow_L5 m P (rvU t) v (s : Int) S = some (v', S) ∧ cV v' (pB us z t) := by
  obtain ⟨-, -, -, -, c27, -, -⟩ := jc_Pc hP
  have hpb : ∀ j, pB us z t j = true → j < 54 := fun j q => by
    unfold pB at q
    rw [Bool.and_eq_true] at q
    unfold sVd at q
    rw [Bool.or_eq_true, Bool.and_eq_true] at q
    rcases q.1 with r | r
    · have := of_decide_eq_true r; omega
    · exact of_decide_eq_true r.2
  intro d
  induction d with
  | zero =>
    intro s m v h1 h2 hv
    obtain ⟨m, rfl⟩ : ∃ q, m = q + 1 := ⟨m - 1, by omega⟩
    obtain rfl : s = 54 := by omega
    refine ⟨v, ?_, cV_e hv (fun j _ => ?_)⟩
    · show ja_X13_sitesBelow_b5 _ P _ _ _ _ = _
      unfold ja_X13_sitesBelow_b5
      rw [if_pos (by decide)]
    · by_cases c : j < 54
      · rw [decide_eq_true c, Bool.true_and]
      · rw [decide_eq_false c, Bool.false_and]
        cases hq : pB us z t j with
        | false => rfl
        | true => exact absurd (hpb j hq) c
  | succ d ih =>
    intro s m v h1 h2 hv
    obtain ⟨m, rfl⟩ : ∃ q, m = q + 1 := ⟨m - 1, by omega⟩
    have es : ∀ _ : Unit, nk_w ((s : Int) + 1) = ((s + 1 : Nat) : Int) := fun _ => w_nat1 (by omega)
    have step : ∀ v', cV v' (fun j => (decide (j < s) && pB us z t j) || (decide (j = s) && pB us z t s)) → ∃ v'', ja_X13_sitesBelow_L5 m P (rvU t) v' ((s + 1 : Nat) : Int) S = some (v'', S) ∧ cV v'' (pB us z t) := fun v' hv' => by
      refine ih (s + 1) m v' (by omega) (by omega) (cV_e hv' (fun j _ => ?_))
      by_cases c : j = s
      · subst c
        rw [decide_eq_false (show ¬ j < j by omega), decide_eq_true (show j < j + 1 by omega), decide_eq_true (show j = j from rfl)]
        rfl
      · rw [decide_eq_false c, Bool.false_and, Bool.or_false]
        by_cases c2 : j < s
        · rw [decide_eq_true c2, decide_eq_true (show j < s + 1 by omega)]
        · rw [decide_eq_false c2, decide_eq_false (show ¬ j < s + 1 by omega)]
    have skip : pB us z t s = false → ∃ v'', ja_X13_sitesBelow_L5 m P (rvU t) v ((s + 1 : Nat) : Int) S = some (v'', S) ∧ cV v'' (pB us z t) := fun q => step v (cV_e hv (fun j _ => by rw [q, Bool.and_false, Bool.or_false]))
    have b28 : sVd z s = true → ∃ v'', ja_X13_sitesBelow_b28 (ja_X13_sitesBelow_L5 m) P (rvU t) v (s : Int) S = some (v'', S) ∧ cV v'' (pB us z t) := fun hvd => by
      unfold ja_X13_sitesBelow_b28
      rw [if_pos (in_i (N := 54) (by omega)), c27, Int.toNat_natCast, hty s (by omega) hvd, m_isBe hP hU hu h32 (hs s hvd).1 vt, bd_some]
      have hp : pB us z t s = tLe us (sTp z s) t := by unfold pB; rw [hvd, Bool.true_and]
      cases hq : tLe us (sTp z s) t with
      | false =>
        rw [if_pos (show bi false = 0 from rfl), es (), lt_eq]
        exact skip (by rw [hp, hq])
      | true =>
        rw [if_neg (show ¬ bi true = 0 by decide), lt_eq, es (), lt_eq]
        refine step _ (cV_e (cV_or hv (cV_one (n := s) (by omega))) (fun j _ => ?_))
        show (_ || decide (j = s)) = _
        rw [hp, hq, Bool.and_true]
    show ∃ v'', ja_X13_sitesBelow_b5 (ja_X13_sitesBelow_L5 m) P (rvU t) v (s : Int) S = some (v'', S) ∧ _
    unfold ja_X13_sitesBelow_b5
    rw [if_neg (by omega), hl]
    by_cases c1 : s < z.2.1.length
    · rw [if_pos (by omega)]
      exact b28 (by unfold sVd; rw [decide_eq_true c1]; rfl)
    · rw [if_neg (by omega)]
      by_cases c2 : s < 48
      · rw [if_pos (by omega), es (), lt_eq]
        refine skip ?_
        unfold pB sVd
        rw [decide_eq_false c1, decide_eq_false (show ¬ 48 ≤ s by omega)]
        rfl
      · rw [if_neg (by omega)]
        exact b28 (by unfold sVd; rw [decide_eq_true (show 48 ≤ s by omega), decide_eq_true (show s < 54 by omega)]; exact Bool.or_true _)
theorem r_sBelow {us : List Int} {z : jL} (hP : P = 122 ∨ P = 168) (hU : rUs S P us) (hu : uOk us) (h32 : us.length ≤ 32) (hl : S.1 P 4 = (z.2.1.length : Int)) (h48 : z.2.1.length ≤ 48) (hs : sOk us z) (hty : ∀ s, s < 54 → sVd z s = true → S.1 (P + 20) s = rvU (sTp z s)) {t : Int} (vt : tV us t) : ∃ v, ja_X13_sitesBelow P (rvU t) S = some (v, S) ∧ cV v (pB us z t) := by
  obtain ⟨bm, hbm⟩ := big_ge 100 (by decide)
  unfold ja_X13_sitesBelow
  exact r_sbL hP hU hu h32 hl h48 hs hty vt 54 0 nk_big 0 (by omega) (by omega) (cV_e cV_0 (fun j _ => by rw [decide_eq_false (show ¬ j < 0 by omega)]; rfl))
end RVA
