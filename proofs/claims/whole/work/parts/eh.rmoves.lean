/-! The reference moves what is known. -/
section RMV
variable {F : Int → Prop} {dn up : Int → Int} {S : nk_S} {P n : Nat} {us : List Int} {z : jL} {l : Nat} {t : Nat → Int}
theorem jc_Pc (hP : P = 122 ∨ P = 168) : ja_c P 22 = P + 15 ∧ ja_c P 23 = P + 16 ∧ ja_c P 24 = P + 17 ∧ ja_c P 25 = P + 18 ∧ ja_c P 27 = P + 20 ∧ ja_c P 44 = P + 37 ∧ ja_c P 45 = P + 38 := by
  rcases hP with rfl | rfl <;> exact ⟨rfl, rfl, rfl, rfl, rfl, rfl, rfl⟩
theorem jc_Pv (hP : P = 122 ∨ P = 168) : ja_c P 46 = P + 39 ∧ ja_c P 47 = P + 40 ∧ ja_c P 48 = P + 41 ∧ ja_c P 49 = P + 42 ∧ ja_c P 50 = P + 43 ∧ ja_c P 51 = P + 44 ∧ ja_c P 52 = P + 45 := by
  rcases hP with rfl | rfl <;> exact ⟨rfl, rfl, rfl, rfl, rfl, rfl, rfl⟩
theorem rX_up {S S' : nk_S} {t b : Nat} {u : jQ} {w : jW} (hr : rX S t u) (hf : ∀ a i, 229 ≤ a → a ≤ 237 → i ≠ b → S'.1 a i = S.1 a i) (hw : rSo S' rWk b w) : rX S' t (qUp u b w) := by
  intro k hk
  by_cases e : k = b
  · rw [e, qUp_at]; exact hw
  · rw [qUp_ne e]
    exact rSo_c (fun j hj => hf _ _ (by unfold rWk; omega) (by unfold rWk; omega) e) (hr k hk)
theorem rX_top {S S' : nk_S} {t : Nat} {u : jQ} {w : jW} (hr : rX S t u) (hf : ∀ a i, 229 ≤ a → a ≤ 237 → i ≠ t → S'.1 a i = S.1 a i) (hw : rSo S' rWk t w) : rX S' (t + 1) (qUp u t w) := by
  intro k hk
  by_cases e : k = t
  · rw [e, qUp_at]; exact hw
  · rw [qUp_ne e]
    exact rSo_c (fun j hj => hf _ _ (by unfold rWk; omega) (by unfold rWk; omega) e) (hr k (by omega))
theorem wFo_x {k : Nat} {S S' : nk_S} (h : wFo k S S') : xFr S S' := ⟨h.1, h.2.1⟩
theorem rSo_4 {k : Nat} {w : jW} {c : Option Nat} (hw : rSo S rWk k w) : rSo (nk_wi S 233 k (cpI c)) rWk k (wCp w c) := by
  obtain ⟨z0, z1, z2, z3, z4, z5, z6, z7, z8⟩ := hw
  refine ⟨?_, ?_, ?_, ?_, ?_, ?_, ?_, ?_, ?_⟩
  · show (nk_wi S 233 k (cpI c)).1 229 k = _
    rw [wi_n (by decide)]; exact z0
  · show (nk_wi S 233 k (cpI c)).1 230 k = _
    rw [wi_n (by decide)]; exact z1
  · show (nk_wi S 233 k (cpI c)).1 231 k = _
    rw [wi_n (by decide)]; exact z2
  · show cV ((nk_wi S 233 k (cpI c)).1 232 k) _
    rw [wi_n (by decide)]; exact z3
  · show (nk_wi S 233 k (cpI c)).1 233 k = cpI c
    rw [wi_at, if_pos rfl]
  · show mI ((nk_wi S 233 k (cpI c)).1 234 k) _ 0
    rw [wi_n (by decide)]; exact z5
  · show mI ((nk_wi S 233 k (cpI c)).1 235 k) _ 12
    rw [wi_n (by decide)]; exact z6
  · show mI ((nk_wi S 233 k (cpI c)).1 236 k) _ 24
    rw [wi_n (by decide)]; exact z7
  · show mI ((nk_wi S 233 k (cpI c)).1 237 k) _ 36
    rw [wi_n (by decide)]; exact z8
/-- what goesBehind does, by its operation -/
theorem gb_plain (hP : P = 122 ∨ P = 168) {i : Nat} (hi : i < 1024) {o a : Int} (ho : S.1 (P + 15) i = o) (ha : S.1 (P + 16) i = a) :
    (o = 0 → ja_X13_goesBehind 121 P (i : Int) S = nk_bd (ja_X13_leaveRange 121 P a a S) fun _ S9 => some (1, S9))
    ∧ (o = 1 → ja_X13_goesBehind 121 P (i : Int) S = nk_bd (ja_X13_leaveSites 121 4611686018427387904 S) fun _ S9 => some (1, S9))
    ∧ (o = 2 → ja_X13_goesBehind 121 P (i : Int) S = nk_bd (ja_X13_put 121 a (S.1 121 25) S) fun _ S15 => if 0 ≤ (S15.1 121 25) ∧ (S15.1 121 25) < 24 then nk_lt (nk_wi S15 233 (S15.1 121 25).toNat a) fun S19 => nk_lt (nk_wi S19 121 25 (nk_w ((S19.1 121 25) + 1))) fun S21 => some (1, S21) else none)
    ∧ (o = 3 → ja_X13_goesBehind 121 P (i : Int) S = nk_bd (ja_X13_changing 121 a S) fun _ S24 => nk_bd (ja_X13_put 121 (nk_w ((S24.1 121 25) - 1)) a S24) fun _ S27 => if 0 ≤ a ∧ a < 24 then nk_lt (nk_wi S27 233 a.toNat (-1)) fun S31 => nk_lt (nk_wi S31 121 25 (nk_w ((S31.1 121 25) - 1))) fun S33 => some (1, S33) else none)
    ∧ (o = 4 → ja_X13_goesBehind 121 P (i : Int) S = nk_bd (ja_X13_changing 121 a S) fun _ S36 => if 0 ≤ a ∧ a < 24 then nk_bd (ja_X13_range 121 P a (nk_W ((S36.1 230 a.toNat) + (S36.1 (P + 17) i))) (nk_W ((S36.1 231 a.toNat) + (S36.1 (P + 17) i))) S36) fun _ S43 => some (1, S43) else none)
    ∧ (o = 5 → ja_X13_goesBehind 121 P (i : Int) S = nk_bd (ja_X13_put 121 (nk_w ((S.1 121 25) - 1)) (S.1 121 25) S) fun _ S46 => nk_lt (nk_wi S46 121 25 (nk_w ((S46.1 121 25) + 1))) fun S48 => some (1, S48))
    ∧ (o = 6 ∨ o = 45 → ja_X13_goesBehind 121 P (i : Int) S = some (1, nk_wi S 121 25 (nk_w ((S.1 121 25) - 1))))
    ∧ (o = 7 → ja_X13_goesBehind 121 P (i : Int) S = nk_bd (ja_X13_put 121 (nk_w ((S.1 121 25) - 1)) (S.1 121 25) S) fun _ S51 => nk_bd (ja_X13_put 121 (nk_w ((S51.1 121 25) - 2)) (nk_w ((S51.1 121 25) - 1)) S51) fun _ S54 => nk_bd (ja_X13_put 121 (S54.1 121 25) (nk_w ((S54.1 121 25) - 2)) S54) fun _ S57 => some (1, S57))
    ∧ (o = 19 → ja_X13_goesBehind 121 P (i : Int) S = some (1, S))
    ∧ (o = 44 → ja_X13_goesBehind 121 P (i : Int) S = nk_bd (ja_X13_leaveRange 121 P (-2147483648) 2147483647 S) fun _ S9 => some (1, S9)) := by
  obtain ⟨c22, c23, c24, -⟩ := jc_Pc hP
  have e : ja_X13_goesBehind 121 P (i : Int) S = ja_X13_goesBehind 121 P (i : Int) S := rfl
  conv at e => rhs; unfold ja_X13_goesBehind
  rw [if_pos (in_i (N := 1024) (by omega)), c22, c23, c24, Int.toNat_natCast, ho, ha, lt_eq, lt_eq, jc_121_30, jc_121_27, jc_121_28] at e
  refine ⟨fun q => ?_, fun q => ?_, fun q => ?_, fun q => ?_, fun q => ?_, fun q => ?_, fun q => ?_, fun q => ?_, fun q => ?_, fun q => ?_⟩
  · subst q; rw [e, if_pos rfl]
  · subst q; rw [e, if_neg (by decide), if_pos rfl]
  · subst q; rw [e, if_neg (by decide), if_neg (by decide), if_pos rfl]
  · subst q; rw [e, if_neg (by decide), if_neg (by decide), if_neg (by decide), if_pos rfl]
  · subst q; rw [e, if_neg (by decide), if_neg (by decide), if_neg (by decide), if_neg (by decide), if_pos rfl]
  · subst q; rw [e, if_neg (by decide), if_neg (by decide), if_neg (by decide), if_neg (by decide), if_neg (by decide), if_pos rfl]
  · rcases q with q | q
    · subst q; rw [e, if_neg (by decide), if_neg (by decide), if_neg (by decide), if_neg (by decide), if_neg (by decide), if_neg (by decide), if_pos rfl]
      unfold ja_X13_goesBehind_b441
      rw [lt_eq]
    · subst q; rw [e]; simp only [↓reduceIte, Int.reduceEq]
      unfold ja_X13_goesBehind_b441
      rw [lt_eq]
  · subst q; rw [e]; simp only [↓reduceIte, Int.reduceEq]
  · subst q; rw [e]; simp only [↓reduceIte, Int.reduceEq]
  · subst q; rw [e]; simp only [↓reduceIte, Int.reduceEq]
theorem wCh_ok {w : jW} (h : wOk F w) {a : Nat} : wOk F (wCh w a) := by
  obtain ⟨h1, h2, h3⟩ := h
  refine ⟨fun k hk => ?_, fun j hj => ?_, ?_⟩
  · have hk : (if w.2.2.2.1 = some a then none else w.2.2.2.1) = some k := hk
    split at hk
    · cases hk
    · exact h1 k hk
  · have hj : (w.2.2.2.2 j && !decide (j % 12 = a)) = true := hj
    rw [Bool.and_eq_true] at hj
    exact h2 j hj.1
  · rcases h3 with q | q | q
    · left
      rw [q]
      unfold wCh wU
      dsimp only
      rw [if_neg (fun r => by cases r)]
      rfl
    · exact Or.inr (Or.inl q)
    · exact Or.inr (Or.inr q)
theorem put_x {a b : Nat} (ha : a < 24) (hb : b < 24) (hne : a ≠ b) {w : jW} (ow : wOk F w) (hw : rSo S rWk a w) : ∃ S', ja_X13_put 121 (a : Int) (b : Int) S = some (0, S') ∧ wFo b S S' ∧ rSo S' rWk b w := by
  obtain ⟨q1, q2⟩ := r_put ha hb ow hw hne
  exact ⟨_, q1, w9_f, q2⟩
theorem at_b {k : Nat} {S S' : nk_S} (h : wFo k S S') : S'.1 121 25 = S.1 121 25 := by rw [h.2.1 121 (by omega)]
theorem r_moves (hP : P = 122 ∨ P = 168) (hT : thG F dn up) (ht : rTn S P n F) (hn : n ≤ 3079) {i : Nat} (hi : i < 1024) {x : jC} (ho : S.1 (P + 15) i = (x.1 : Int)) (ha : S.1 (P + 16) i = rA x) (hb : S.1 (P + 17) i = rB2 x) {h h' : Nat} (h8 : h ≤ 8) {u : jQ} (hv : vOk F us z l t u) (hr : rRw S (12 + h) u) (hh' : h' = h - tkT x.1 + lvT x.1) (htk : tkT x.1 ≤ h) (h8' : h' ≤ 8) (hx : x.1 ≤ 7 ∨ x.1 = 45 ∨ x.1 = 44 ∨ x.1 = 19) (h0 : x.1 = 0 → F x.2.1) (hl : x.1 = 2 ∨ x.1 = 3 ∨ x.1 = 4 → 0 ≤ x.2.1 ∧ x.2.1 < 12) (h4 : x.1 = 4 → (u x.2.1.toNat).1 = 1 ∧ iR x.2.2.1) {G : jZ} {σ : jG} (g1 : zDn G = dn) (g2 : zUp G = up) : ∃ S' v, ja_X13_goesBehind 121 P (i : Int) S = some (1, S') ∧ uFr S S' ∧ pGo G σ x h u = some v ∧ rRw S' (12 + h') v := by
  obtain ⟨b0, b1, b2, b3, b4, b5, b6, b7, b45⟩ := mv_tb
  have e1 : ∀ _ : Unit, nk_w (((12 + h : Nat) : Int) - 1) = ((12 + h - 1 : Nat) : Int) := fun _ => top_w (d := 1) h8 (by omega)
  have e2 : ∀ _ : Unit, nk_w (((12 + h : Nat) : Int) - 2) = ((12 + h - 2 : Nat) : Int) := fun _ => top_w (d := 2) h8 (by omega)
  have ep : ∀ _ : Unit, nk_w (((12 + h : Nat) : Int) + 1) = ((12 + h + 1 : Nat) : Int) := fun _ => w_nat1 (by omega)
  have pl := fun (_ : Unit) => gb_plain hP hi ho ha
  obtain ⟨o, ho'⟩ : ∃ o, o = x.1 := ⟨_, rfl⟩
  have hra : ∀ _ : Unit, x.1 ≤ 7 → rA x = x.2.1 := fun _ q => by unfold rA; rw [if_neg (by omega), if_neg (by omega)]
  have hrb : ∀ _ : Unit, x.1 ≤ 7 → rB2 x = x.2.2.1 := fun _ q => by unfold rB2; rw [if_neg (by omega)]
  by_cases c0 : x.1 = 0
  · rw [c0] at hh' htk
    have hF := h0 c0
    obtain ⟨S', s1, s2, s3⟩ := r_lv hP hT ht hn (t := 12 + h) (by omega) hr (Int.le_refl x.2.1)
    have eA : rAr dn up x.2.1 x.2.1 = (x.2.1, x.2.1) := by
      have := F_iR hT hF
      unfold iR at this
      unfold rAr
      rw [if_neg (by omega), (dnF_s hT hF).1, (dnF_s hT hF).2]
    rw [eA] at s3
    refine ⟨S', _, ?_, s2, by unfold pGo; rw [if_pos c0], ?_⟩
    · rw [(pl ()).1 (by omega), hra () (by omega), s1, bd_some]
    · rw [show 12 + h' = 12 + h + 1 by omega]; exact s3
  by_cases c1 : x.1 = 1
  · rw [c1] at hh' htk
    obtain ⟨S', s1, s2, s3⟩ := r_leaveS (t := 12 + h) (by omega) hr cV_62
    refine ⟨S', _, ?_, s2, by unfold pGo; rw [if_neg c0, if_pos c1], ?_⟩
    · rw [(pl ()).2.1 (by omega), s1, bd_some]
    · rw [show 12 + h' = 12 + h + 1 by omega]; exact s3
  by_cases c2 : x.1 = 2
  · rw [c2] at hh' htk
    have ha2 := hl (Or.inl c2)
    obtain ⟨a, hea⟩ : ∃ a : Nat, x.2.1 = (a : Int) := ⟨x.2.1.toNat, by omega⟩
    obtain ⟨T, q1, q2, q3⟩ := put_x (S := S) (a := a) (b := 12 + h) (by omega) (by omega) (by omega) (hv.1 a) (hr.2 a (by omega))
    have t25 : T.1 121 25 = ((12 + h : Nat) : Int) := by rw [at_b q2]; exact hr.1
    obtain ⟨T2, hT2⟩ : ∃ T2, T2 = nk_wi T 233 (12 + h) ((a : Nat) : Int) := ⟨_, rfl⟩
    have r2 : rSo T2 rWk (12 + h) (wCp (u a) (some a)) := by rw [hT2]; exact rSo_4 (c := some a) q3
    have f2 : wFo (12 + h) S T2 := by rw [hT2]; exact wFo_trans q2 (wFo_wi (by omega))
    refine ⟨nk_wi T2 121 25 ((12 + h + 1 : Nat) : Int), qUp u (12 + h) (wCp (u a) (some a)), ?_, uFr_trans (xFr_u (wFo_x f2)) uFr_25, by unfold pGo; rw [if_neg c0, if_neg c1, if_pos c2, hea, Int.toNat_natCast], ?_⟩
    · rw [(pl ()).2.2.1 (by omega), hra () (by omega), hea, hr.1, q1, bd_some, t25, if_pos (in_i (N := 24) (by omega)), Int.toNat_natCast, lt_eq, ← hT2, at_b f2, hr.1, ep (), lt_eq]
    · rw [show 12 + h' = 12 + h + 1 by omega]
      exact ⟨by rw [wi_at, if_pos rfl], rX_25 (rX_top hr.2 (fun a i h1 h2 h3 => f2.2.2 a i h3) r2)⟩
  by_cases c3 : x.1 = 3
  · rw [c3] at hh' htk
    have ha2 := hl (Or.inr (Or.inl c3))
    obtain ⟨a, hea⟩ : ∃ a : Nat, x.2.1 = (a : Int) := ⟨x.2.1.toNat, by omega⟩
    obtain ⟨T0, q0, f0, r0⟩ := r_change (S := S) (a := a) (t := 12 + h) (by omega) (by omega) hr
    obtain ⟨T, q1, q2, q3⟩ := put_x (F := F) (S := T0) (a := 12 + h - 1) (b := a) (by omega) (by omega) (by omega) (w := wCh (u (12 + h - 1)) a) (wCh_ok (hv.1 _)) (r0.2 (12 + h - 1) (by omega))
    obtain ⟨T2, hT2⟩ : ∃ T2, T2 = nk_wi T 233 a (-1) := ⟨_, rfl⟩
    have r2 : rSo T2 rWk a (wCp (wCh (u (12 + h - 1)) a) none) := by rw [hT2]; exact rSo_4 (c := none) q3
    have f2 : wFo a T0 T2 := by rw [hT2]; exact wFo_trans q2 (wFo_wi (by omega))
    have t25 : T2.1 121 25 = ((12 + h : Nat) : Int) := by rw [at_b f2]; exact r0.1
    refine ⟨nk_wi T2 121 25 ((12 + h - 1 : Nat) : Int), qUp (qCh u a) a (wCp (wCh (u (12 + h - 1)) a) none), ?_, uFr_trans f0 (uFr_trans (xFr_u (wFo_x f2)) uFr_25), by unfold pGo; rw [if_neg c0, if_neg c1, if_neg c2, if_pos c3, hea, Int.toNat_natCast], ?_⟩
    · rw [(pl ()).2.2.2.1 (by omega), hra () (by omega), hea, q0, bd_some, r0.1, e1 (), q1, bd_some, if_pos (in_i (N := 24) (by omega)), Int.toNat_natCast, lt_eq, ← hT2, t25, e1 (), lt_eq]
    · rw [show 12 + h' = 12 + h - 1 by omega]
      exact ⟨by rw [wi_at, if_pos rfl], rX_25 (rX_w (rX_up r0.2 (fun a i h1 h2 h3 => f2.2.2 a i h3) r2) (by omega) (fun _ _ => rfl))⟩
  by_cases c4 : x.1 = 4
  · rw [c4] at hh' htk
    have ha2 := hl (Or.inr (Or.inr c4))
    obtain ⟨k1, k2⟩ := h4 c4
    obtain ⟨a, hea⟩ : ∃ a : Nat, x.2.1 = (a : Int) := ⟨x.2.1.toNat, by omega⟩
    rw [hea, Int.toNat_natCast] at k1
    have rk := (wOk_1 (hv.1 a) k1).1
    have ri := rOk_iR hT rk
    have k2' := k2
    unfold iR2 iR at ri
    unfold iR at k2'
    have rl := rk.2.2
    obtain ⟨T0, q0, f0, r0⟩ := r_change (S := S) (a := a) (t := 12 + h) (by omega) (by omega) hr
    have z1 : T0.1 230 a = (u a).2.1.1 := (r0.2 a (by omega)).2.1
    have z2 : T0.1 231 a = (u a).2.1.2 := (r0.2 a (by omega)).2.2.1
    have z3 : T0.1 (P + 17) i = x.2.2.1 := by rw [f0.2.1 (P + 17) (by omega) (by omega), hb, hrb () (by omega)]
    obtain ⟨T1, s1, s2, s3⟩ := r_range hP hT (rTn_c (fun a h1 h2 => f0.2.1 a (by omega) h2) hP ht) hn (s := a) (by omega) (l := (u a).2.1.1 + x.2.2.1) (h := (u a).2.1.2 + x.2.2.1) (by omega) (by omega)
    refine ⟨T1, qUp (qCh u a) a (wR (kPlus dn up (u a).2.1 x.2.2.1)), ?_, uFr_trans f0 (xFr_u (wFo_x s2)), by unfold pGo; rw [if_neg c0, if_neg c1, if_neg c2, if_neg c3, if_pos c4, hea, Int.toNat_natCast, g1, g2], ?_⟩
    · rw [(pl ()).2.2.2.2.1 (by omega), hra () (by omega), hea, q0, bd_some, if_pos (in_i (N := 24) (by omega)), Int.toNat_natCast, z1, z2, z3, W_id (by unfold lR; omega), W_id (by unfold lR; omega), s1, bd_some]
    · rw [show 12 + h' = 12 + h by omega]
      exact ⟨by rw [at_b s2]; exact r0.1, rX_up r0.2 (fun a i h1 h2 h3 => s2.2.2 a i h3) s3⟩
  by_cases c5 : x.1 = 5
  · rw [c5] at hh' htk
    obtain ⟨T, q1, q2, q3⟩ := put_x (S := S) (a := 12 + h - 1) (b := 12 + h) (by omega) (by omega) (by omega) (hv.1 (12 + h - 1)) (hr.2 (12 + h - 1) (by omega))
    refine ⟨nk_wi T 121 25 ((12 + h + 1 : Nat) : Int), qUp u (12 + h) (u (12 + h - 1)), ?_, uFr_trans (xFr_u (wFo_x q2)) uFr_25, by unfold pGo; rw [if_neg c0, if_neg c1, if_neg c2, if_neg c3, if_neg c4, if_pos c5], ?_⟩
    · rw [(pl ()).2.2.2.2.2.1 (by omega), hr.1, e1 (), q1, bd_some, at_b q2, hr.1, ep (), lt_eq]
    · rw [show 12 + h' = 12 + h + 1 by omega]
      exact ⟨by rw [wi_at, if_pos rfl], rX_25 (rX_top hr.2 (fun a i h1 h2 h3 => q2.2.2 a i h3) q3)⟩
  by_cases c6 : x.1 = 6 ∨ x.1 = 45
  · have hp : 12 + h' = 12 + h - 1 := by
      rcases c6 with q | q
      · rw [q] at hh' htk; omega
      · rw [q] at hh' htk; omega
    refine ⟨nk_wi S 121 25 ((12 + h - 1 : Nat) : Int), u, ?_, uFr_25, by unfold pGo; rw [if_neg c0, if_neg c1, if_neg c2, if_neg c3, if_neg c4, if_neg c5, if_pos (by omega)], ?_⟩
    · rw [(pl ()).2.2.2.2.2.2.1 (by omega), hr.1, e1 ()]
    · rw [hp]
      exact ⟨by rw [wi_at, if_pos rfl], rX_25 (rX_w hr.2 (by omega) (fun _ _ => rfl))⟩
  by_cases c7 : x.1 = 7
  · rw [c7] at hh' htk
    have h2 : 2 ≤ h := by omega
    obtain ⟨T, q1, q2, q3⟩ := put_x (S := S) (a := 12 + h - 1) (b := 12 + h) (by omega) (by omega) (by omega) (hv.1 (12 + h - 1)) (hr.2 (12 + h - 1) (by omega))
    have x1 : rX T (12 + h + 1) (qUp u (12 + h) (u (12 + h - 1))) := rX_top hr.2 (fun a i h1 h2 h3 => q2.2.2 a i h3) q3
    have y2 : rSo T rWk (12 + h - 2) (u (12 + h - 2)) := by
      have := x1 (12 + h - 2) (by omega)
      rw [qUp_ne (by omega)] at this; exact this
    obtain ⟨T1, q4, q5, q6⟩ := put_x (S := T) (a := 12 + h - 2) (b := 12 + h - 1) (by omega) (by omega) (by omega) (hv.1 (12 + h - 2)) y2
    have x2 : rX T1 (12 + h + 1) (qUp (qUp u (12 + h) (u (12 + h - 1))) (12 + h - 1) (u (12 + h - 2))) := rX_up x1 (fun a i h1 h2 h3 => q5.2.2 a i h3) q6
    have y3 : rSo T1 rWk (12 + h) (u (12 + h - 1)) := by
      have := x2 (12 + h) (by omega)
      rw [qUp_ne (by omega), qUp_at] at this; exact this
    obtain ⟨T2, q7, q8, q9⟩ := put_x (S := T1) (a := 12 + h) (b := 12 + h - 2) (by omega) (by omega) (by omega) (hv.1 (12 + h - 1)) y3
    have x3 : rX T2 (12 + h + 1) (qUp (qUp (qUp u (12 + h) (u (12 + h - 1))) (12 + h - 1) (u (12 + h - 2))) (12 + h - 2) (u (12 + h - 1))) := rX_up x2 (fun a i h1 h2 h3 => q8.2.2 a i h3) q9
    refine ⟨T2, qUp (qUp u (12 + h - 1) (u (12 + h - 2))) (12 + h - 2) (u (12 + h - 1)), ?_, xFr_u (xFr_trans (xFr_trans (wFo_x q2) (wFo_x q5)) (wFo_x q8)), by unfold pGo; rw [if_neg c0, if_neg c1, if_neg c2, if_neg c3, if_neg c4, if_neg c5, if_neg (by omega), if_pos c7], ?_⟩
    · rw [(pl ()).2.2.2.2.2.2.2.1 (by omega), hr.1, e1 (), q1, bd_some, at_b q2, hr.1, e2 (), e1 (), q4, bd_some, at_b q5, at_b q2, hr.1, e2 (), q7, bd_some]
    · rw [show 12 + h' = 12 + h by omega]
      refine ⟨by rw [at_b q8, at_b q5, at_b q2]; exact hr.1, rX_w x3 (by omega) (fun k hk => ?_)⟩
      unfold qUp
      by_cases a1 : k = 12 + h - 2
      · rw [if_pos a1, if_pos a1]
      · rw [if_neg a1, if_neg a1]
        by_cases a2 : k = 12 + h - 1
        · rw [if_pos a2, if_pos a2]
        · rw [if_neg a2, if_neg a2, if_neg (by omega)]
  by_cases c19 : x.1 = 19
  · have h19 : tkT 19 = 0 ∧ lvT 19 = 0 := by decide +kernel
    rw [c19] at hh' htk
    refine ⟨S, u, (pl ()).2.2.2.2.2.2.2.2.1 (by omega), uFr_rfl, by unfold pGo; rw [if_neg c0, if_neg c1, if_neg c2, if_neg c3, if_neg c4, if_neg c5, if_pos (by omega)], ?_⟩
    rw [show 12 + h' = 12 + h by omega]; exact hr
  have c44 : x.1 = 44 := by omega
  have h44 : tkT 44 = 0 ∧ lvT 44 = 1 := by decide +kernel
  rw [c44] at hh' htk
  obtain ⟨S', s1, s2, s3⟩ := r_lv hP hT ht hn (t := 12 + h) (by omega) hr (show (-2147483648 : Int) ≤ 2147483647 by decide)
  rw [rAr_all hT] at s3
  refine ⟨S', qUp u (12 + h) (wR rAll), by rw [(pl ()).2.2.2.2.2.2.2.2.2 (by omega), s1, bd_some], s2, ?_, by rw [show 12 + h' = 12 + h + 1 by omega]; exact s3⟩
  unfold pGo
  rw [if_neg c0, if_neg c1, if_neg c2, if_neg c3, if_neg c4, if_neg c5, if_neg (by omega), if_neg c7, if_neg (by omega), if_neg (by omega), if_neg (by omega), if_neg (by omega), if_neg (by omega), if_neg (by omega), if_neg (by omega), if_neg (by omega), if_neg (by omega), if_neg (by omega), if_neg (by omega), if_neg (by omega), if_pos c44]
end RMV
