/-! Lines: the class's operands and instructions. -/
theorem fK8 : ∀ o : Nat, o < 46 → fK o = 8 → o = 35 ∨ o = 36 ∨ o = 39 ∨ o = 40 := by decide +kernel
theorem fKmk : ∀ o : Nat, o < 46 → (o = 30 ↔ fK o = 5) ∧ (o = 31 ↔ fK o = 6) ∧ (o = 0 ↔ fK o = 1) ∧ (o = 4 ↔ fK o = 3) := by decide +kernel
theorem isT_52 : isT (fx.getD 52 []) = true := (isT_iff _).mpr (Or.inl rfl)
section COP
variable {tx : List (List Int)} {Q c : Nat} {ns : List (List Int)} {us : List Int} {fl : List (List Int × Nat × Int)} {bl : List jB} {ls : List (List Int × Nat × Nat)} {en op b : Nat} {lc : Int} {z : jL}
theorem fT_E {a : Nat} (h : (fW tx 52 a || fC tx a) = true) : fT tx a = true := by
  rw [Bool.or_eq_true] at h
  unfold fT
  rcases h with h | h
  · rw [fW_at h]; exact isT_52
  · exact (isT_iff _).mpr (Or.inr (Or.inr (Or.inl ((shp_eq _).2.1.mpr (of_decide_eq_true h)))))
/-- a local's number -/
theorem c_loc (hQ : Q = 13 ∨ Q = 49) {S : nk_S} (h2 : S.2 85 1 = Q) (hb : b < 48) (hlc : S.1 (Q + 16) b = lc) {x : Int} (h3 : S.1 85 3 = x) : (if S.1 85 3 < 0 then some (0, S) else if 0 ≤ (b : Int) ∧ (b : Int) < 48 then (if S.1 (ja_c (ja_c (S.2 85 1) 1) 8) (b : Int).toNat ≤ S.1 85 3 then some (0, S) else some (1, S)) else none : Option (Int × nk_S)) = some (bi (decide (0 ≤ x ∧ x < lc)), S) := by
  rw [h2, (jc_Qf hQ).2.2.2.2, (jc_Q9 hQ).2.2.2.2.2.2.1, Int.toNat_natCast, hlc, h3]
  by_cases q : x < 0
  · rw [if_pos q, decide_eq_false (by omega)]; rfl
  · rw [if_neg q, if_pos (in_i (N := 48) (by omega))]
    by_cases q2 : lc ≤ x
    · rw [if_pos q2, decide_eq_false (by omega)]; rfl
    · rw [if_neg q2, decide_eq_true (by omega)]; rfl
theorem c_opnd (hQ : Q = 13 ∨ Q = 49) {S : nk_S} (hV : cVm S tx Q c ns us fl bl) (hu : uOk us) (hO : fOk us fl) (hOb : bOk us bl) (hL : cLb S c op ls) (hb : b < 48) (ho : S.1 (Q + 17) b = (op : Int)) (he : S.1 (Q + 19) b = (en : Int)) (hlc : S.1 (Q + 16) b = lc) {a o : Nat} (h46 : o < 46) (hf : (fOp tx (fK o) a).1 = true) (ha : a < 100000) (h3 : S.1 85 3 = 0) (h4 : S.1 85 4 = 0) : ∃ S', ja_X6_resolveOperands 85 (b : Int) (a : Int) (o : Int) S = some (bi (oX tx ns us fl bl ls en lc o a).isSome, S') ∧ gF Q S S' ∧ (∀ d, d ≠ 85 → S'.1 d = S.1 d) ∧ S'.1 85 2 = S.1 85 2 ∧ ∀ x y, oX tx ns us fl bl ls en lc o a = some (x, y) → S'.1 85 3 = x ∧ S'.1 85 4 = y := by
  have hV0 := hV
  obtain ⟨hC, hK, hM, hF, hB, h2⟩ := hV
  have hns := hK.2.2.1
  obtain ⟨k1, k2⟩ := fKv o h46
  have hk8 := fK8 o h46
  -- a value goes into the first operand
  have put : ∀ v : Int, ∃ A, A = nk_wi S 85 3 v ∧ gF Q S A ∧ (∀ d, d ≠ 85 → A.1 d = S.1 d) ∧ A.1 85 2 = S.1 85 2 ∧ A.1 85 3 = v ∧ A.1 85 4 = 0 ∧ A.2 85 1 = Q := fun v => ⟨_, rfl, gF_85 hQ (by omega), fun d hd => wi_n hd, by rw [wi_at, if_neg (by decide)], by rw [wi_at, if_pos rfl], by rw [wi_at, if_neg (by decide)]; exact h4, h2⟩
  unfold ja_X6_resolveOperands oX
  rw [jc_85_0, c_at0 hC, bd_some, if_pos (in_i (N := 46) (by omega)), lt_eq, Int.toNat_natCast, k1]
  have hk : fK o = 0 ∨ fK o = 1 ∨ fK o = 2 ∨ fK o = 3 ∨ fK o = 4 ∨ fK o = 5 ∨ fK o = 6 ∨ fK o = 7 ∨ fK o = 8 := by omega
  have h254 : fT tx a = true → ∃ S', ja_X6_resolveOperands_b254 85 (cw S tx a) S = some (bi (if tyC ns (tx.getD a []) = -2 then none else some (tyC ns (tx.getD a []), 0) : Option (Int × Int)).isSome, S') ∧ gF Q S S' ∧ (∀ d, d ≠ 85 → S'.1 d = S.1 d) ∧ S'.1 85 2 = S.1 85 2 ∧ ∀ x y, (if tyC ns (tx.getD a []) = -2 then none else some (tyC ns (tx.getD a []), 0) : Option (Int × Int)) = some (x, y) → S'.1 85 3 = x ∧ S'.1 85 4 = y := by
    intro hT
    unfold ja_X6_resolveOperands_b254
    rw [jc_85_0, c_ty hC hK hM (Or.inl hT), bd_some, lt_eq]
    obtain ⟨A, eA, A1, A2, A3, A4, A5, A6⟩ := put (tyC ns (tx.getD a []))
    rw [← eA, A4]
    by_cases q : tyC ns (tx.getD a []) = -2
    · rw [if_pos q, if_pos q]
      exact ⟨A, rfl, A1, A2, A3, fun x y h => by cases h⟩
    · rw [if_neg q, if_neg q]
      exact ⟨A, rfl, A1, A2, A3, fun x y h => by cases h; exact ⟨A4, A5⟩⟩
  rcases hk with e | e | e | e | e | e | e | e | e
  · rw [e]
    rw [if_neg (show ¬ ((0 : Nat) : Int) = 1 by decide), if_neg (show ¬ ((0 : Nat) : Int) = 2 by decide), if_neg (show ¬ ((0 : Nat) : Int) = 3 by decide), if_neg (show ¬ ((0 : Nat) : Int) = 4 by decide), if_neg (show ¬ ((0 : Nat) : Int) = 5 by decide), if_neg (show ¬ ((0 : Nat) : Int) = 6 by decide), if_neg (show ¬ ((0 : Nat) : Int) = 7 by decide), if_neg (show ¬ ((0 : Nat) : Int) = 8 by decide)]
    exact ⟨S, rfl, gF_rfl, fun _ _ => rfl, rfl, fun x y h => by cases h; exact ⟨h3, h4⟩⟩
  · rw [e] at hf ⊢
    have hU := (tk_ok hf).1
    obtain ⟨w, w1, w2, w3⟩ := c_num hC hM hU (fU_T hU)
    rw [if_pos (show ((1 : Nat) : Int) = 1 from rfl), w3, bd_some, lt_eq]
    obtain ⟨A, eA, A1, A2, A3, A4, A5, A6⟩ := put (nval (tx.getD a []))
    rw [← eA]
    exact ⟨A, rfl, A1, A2, A3, fun x y h => by cases h; exact ⟨A4, A5⟩⟩
  · rw [e] at hf ⊢
    have hU := (tk_ok hf).1
    obtain ⟨w, w1, w2, w3⟩ := c_num hC hM hU (fU_T hU)
    rw [if_neg (show ¬ ((2 : Nat) : Int) = 1 by decide), if_pos (show ((2 : Nat) : Int) = 2 from rfl), w3, bd_some, lt_eq]
    obtain ⟨A, eA, A1, A2, A3, A4, A5, A6⟩ := put (nval (tx.getD a []))
    rw [← eA, c_loc (lc := lc) hQ A6 hb (by rw [A2 _ (by omega)]; exact hlc) A4]
    by_cases q : 0 ≤ nval (tx.getD a []) ∧ nval (tx.getD a []) < lc
    · rw [if_pos q, decide_eq_true q]
      exact ⟨A, rfl, A1, A2, A3, fun x y h => by cases h; exact ⟨A4, A5⟩⟩
    · rw [if_neg q, decide_eq_false q]
      exact ⟨A, rfl, A1, A2, A3, fun x y h => by cases h⟩
  · rw [e] at hf ⊢
    have h' : (sq (tk (fU tx a) a) fun a => tk (fU tx a) a).1 = true := hf
    obtain ⟨g1, g2, g3⟩ := sq_ok h'
    have hU := (tk_ok g1).1
    rw [(tk_ok g1).2] at g2
    have hU2 := (tk_ok g2).1
    obtain ⟨w, w1, w2, w3⟩ := c_num hC hM hU (fU_T hU)
    obtain ⟨v, v1, v2, v3⟩ := c_num hC hM hU2 (fU_T hU2)
    rw [if_neg (show ¬ ((3 : Nat) : Int) = 1 by decide), if_neg (show ¬ ((3 : Nat) : Int) = 2 by decide), if_pos (show ((3 : Nat) : Int) = 3 from rfl), w_nat1 (by omega), c_at0 hC, bd_some, v3, bd_some, lt_eq]
    obtain ⟨D, hD⟩ : ∃ D, D = nk_wi S 85 4 (nval (tx.getD (a + 1) [])) := ⟨_, rfl⟩
    have D1 : gF Q S D := by rw [hD]; exact gF_85 hQ (by omega)
    have dn : ∀ d, d ≠ 85 → D.1 d = S.1 d := fun d hd => by rw [hD]; exact wi_n hd
    have CD := CF_gF hQ D1 hC
    have w3D : ja_X10_firstOf 2 (cw S tx a) D = some (nval (tx.getD a []), D) := by
      obtain ⟨w', w1', w2', w3'⟩ := c_num CD (cM_gF hQ D1 hM) hU (fU_T hU)
      have : cw D tx a = cw S tx a := by unfold cw; rw [dn 4 (by decide)]
      rw [← this]
      exact w3'
    rw [← hD, w3D, bd_some, lt_eq]
    obtain ⟨A, hA⟩ : ∃ A, A = nk_wi D 85 3 (nval (tx.getD a [])) := ⟨_, rfl⟩
    have A1 : gF Q S A := by rw [hA]; exact gF_trans D1 (gF_85 hQ (by omega))
    have A2 : ∀ d, d ≠ 85 → A.1 d = S.1 d := fun d hd => by rw [hA, wi_n hd, dn d hd]
    have A3 : A.1 85 2 = S.1 85 2 := by rw [hA, wi_at, if_neg (by decide), hD, wi_at, if_neg (by decide)]
    have A4 : A.1 85 3 = nval (tx.getD a []) := by rw [hA, wi_at, if_pos rfl]
    have A5 : A.1 85 4 = nval (tx.getD (a + 1) []) := by rw [hA, wi_at, if_neg (by decide), hD, wi_at, if_pos rfl]
    have A6 : A.2 85 1 = Q := by rw [A1.1]; exact h2
    rw [← hA, c_loc (lc := lc) hQ A6 hb (by rw [A2 _ (by omega)]; exact hlc) A4]
    by_cases q : 0 ≤ nval (tx.getD a []) ∧ nval (tx.getD a []) < lc
    · rw [if_pos q, if_pos q, decide_eq_true q]
      exact ⟨A, rfl, A1, A2, A3, fun x y h => by cases h; exact ⟨A4, A5⟩⟩
    · rw [if_neg q, if_neg q, decide_eq_false q]
      exact ⟨A, rfl, A1, A2, A3, fun x y h => by cases h⟩
  · rw [e] at hf ⊢
    have hN := (tk_ok hf).1
    rw [if_neg (show ¬ ((4 : Nat) : Int) = 1 by decide), if_neg (show ¬ ((4 : Nat) : Int) = 2 by decide), if_neg (show ¬ ((4 : Nat) : Int) = 3 by decide), if_pos (show ((4 : Nat) : Int) = 4 from rfl), c_labA hQ hC h2 hL hb ho hN, bd_some, lt_eq]
    obtain ⟨A, eA, A1, A2, A3, A4, A5, A6⟩ := put (lat ls (tx.getD a []))
    rw [← eA, A4, A6, (jc_Qf hQ).2.2.2.2, (jc_Qb hQ).2.2.1, Int.toNat_natCast, A2 _ (by omega), he]
    by_cases q : 0 ≤ lat ls (tx.getD a []) ∧ lat ls (tx.getD a []) < (en : Int)
    · rw [if_pos q, if_neg (show ¬ lat ls (tx.getD a []) < 0 by omega), if_pos (in_i (N := 48) (by omega)), if_neg (by omega)]
      exact ⟨A, rfl, A1, A2, A3, fun x y h => by cases h; exact ⟨A4, A5⟩⟩
    · rw [if_neg q]
      by_cases q2 : lat ls (tx.getD a []) < 0
      · rw [if_pos q2]
        exact ⟨A, rfl, A1, A2, A3, fun x y h => by cases h⟩
      · rw [if_neg q2, if_pos (in_i (N := 48) (by omega)), if_pos (by omega)]
        exact ⟨A, rfl, A1, A2, A3, fun x y h => by cases h⟩
  · rw [e] at hf ⊢
    have hCc := (tk_ok hf).1
    obtain ⟨w, w1, w2, w3⟩ := c_clsT hC hK hCc
    rw [if_neg (show ¬ ((5 : Nat) : Int) = 1 by decide), if_neg (show ¬ ((5 : Nat) : Int) = 2 by decide), if_neg (show ¬ ((5 : Nat) : Int) = 3 by decide), if_neg (show ¬ ((5 : Nat) : Int) = 4 by decide), if_pos (show ((5 : Nat) : Int) = 5 from rfl), w3, bd_some, lt_eq]
    obtain ⟨A, eA, A1, A2, A3, A4, A5, A6⟩ := put (amx (tx.getD a []) ns 0)
    rw [← eA, A4]
    by_cases q : 0 ≤ amx (tx.getD a []) ns 0
    · rw [if_pos q, if_neg (by omega)]
      exact ⟨A, rfl, A1, A2, A3, fun x y h => by cases h; exact ⟨A4, A5⟩⟩
    · rw [if_neg q, if_pos (by omega)]
      exact ⟨A, rfl, A1, A2, A3, fun x y h => by cases h⟩
  · rw [e] at hf ⊢
    rw [if_neg (show ¬ ((6 : Nat) : Int) = 1 by decide), if_neg (show ¬ ((6 : Nat) : Int) = 2 by decide), if_neg (show ¬ ((6 : Nat) : Int) = 3 by decide), if_neg (show ¬ ((6 : Nat) : Int) = 4 by decide), if_neg (show ¬ ((6 : Nat) : Int) = 5 by decide), if_pos (show ((6 : Nat) : Int) = 6 from rfl)]
    exact h254 (fT_E (tk_ok hf).1)
  · rw [e] at hf ⊢
    rw [if_neg (show ¬ ((7 : Nat) : Int) = 1 by decide), if_neg (show ¬ ((7 : Nat) : Int) = 2 by decide), if_neg (show ¬ ((7 : Nat) : Int) = 3 by decide), if_neg (show ¬ ((7 : Nat) : Int) = 4 by decide), if_neg (show ¬ ((7 : Nat) : Int) = 5 by decide), if_neg (show ¬ ((7 : Nat) : Int) = 6 by decide), if_pos (show ((7 : Nat) : Int) = 7 from rfl)]
    have h' := (tk_ok hf).1
    rw [Bool.and_eq_true] at h'
    exact h254 h'.1
  · rw [e] at hf ⊢
    rw [if_neg (show ¬ ((8 : Nat) : Int) = 1 by decide), if_neg (show ¬ ((8 : Nat) : Int) = 2 by decide), if_neg (show ¬ ((8 : Nat) : Int) = 3 by decide), if_neg (show ¬ ((8 : Nat) : Int) = 4 by decide), if_neg (show ¬ ((8 : Nat) : Int) = 5 by decide), if_neg (show ¬ ((8 : Nat) : Int) = 6 by decide), if_neg (show ¬ ((8 : Nat) : Int) = 7 by decide), if_pos (show ((8 : Nat) : Int) = 8 from rfl)]
    obtain ⟨A, A1, A2, A3, A4, A5⟩ := c_mem hQ hV0 hu hO hOb (tk_ok hf).1 (hk8 e)
    rw [A1, bd_some, if_pos (show bi _ = 0 ∨ bi _ = 1 by cases (oM ns us fl bl o (tx.getD a [])).isSome <;> decide)]
    exact ⟨A, rfl, A2, A3, A4, A5⟩
end COP
