/-! Lines: the class's instructions. -/
section CIN
variable {tx : List (List Int)} {Q c : Nat} {ns : List (List Int)} {us : List Int} {fl : List (List Int × Nat × Int)} {bl : List jB} {ls : List (List Int × Nat × Nat)} {en op b : Nat} {lc : Int} {z : jL}
theorem c_addS (hQ : Q = 13 ∨ Q = 49) {S : nk_S} {sl : List Int} (hS : cSl S Q sl) (h48 : sl.length < 48) (t : Int) : ∃ S', ja_X3_addSite Q t S = some ((sl.length : Int), S') ∧ S'.2 = S.2 ∧ (∀ d, d ≠ Q → d ≠ Q + 31 → S'.1 d = S.1 d) ∧ (∀ i, i ≠ 10 → S'.1 Q i = S.1 Q i) ∧ cSl S' Q (sl ++ [t]) := by
  obtain ⟨T, hT⟩ : ∃ T, T = nk_wi S (Q + 31) sl.length t := ⟨_, rfl⟩
  obtain ⟨U, hU⟩ : ∃ U, U = nk_wi T Q 10 ((sl.length + 1 : Nat) : Int) := ⟨_, rfl⟩
  have t10 : T.1 Q 10 = (sl.length : Int) := by rw [hT, wi_n (by omega)]; exact hS.1
  have u10 : U.1 Q 10 = ((sl.length + 1 : Nat) : Int) := by rw [hU, wi_at, if_pos rfl]
  have w1 : nk_w (((sl.length + 1 : Nat) : Int) - 1) = (sl.length : Int) := by
    rw [show ((sl.length + 1 : Nat) : Int) - 1 = (sl.length : Int) by omega]
    exact w_n0 (by omega)
  have un : ∀ d, d ≠ Q → d ≠ Q + 31 → U.1 d = S.1 d := fun d x y => by rw [hU, wi_n x, hT, wi_n y]
  refine ⟨U, ?_, by rw [hU, hT]; rfl, un, fun i hi => by rw [hU, wi_at, if_neg hi, hT, wi_n (by omega)], by rw [u10, List.length_append]; rfl, fun i x hx => ?_, fun i h1 h2 => ?_⟩
  · unfold ja_X3_addSite
    rw [hS.1, if_pos (in_i (N := 54) (by omega)), lt_eq, (jc_Qp hQ).2.2.2.2.2.2.2.1, Int.toNat_natCast, ← hT, t10, lt_eq, w_nat1 (by omega), ← hU, u10, w1]
  · rw [hU, wi_n (by omega), hT, wi_at]
    rcases fl_case hx with ⟨l1, e⟩ | ⟨l1, e⟩
    · rw [if_neg (by omega)]; exact hS.2.1 i x e
    · rw [if_pos l1, e]
  · rw [hU, wi_n (by omega), hT, wi_at, if_neg (by omega)]
    exact hS.2.2 i h1 h2
theorem cTh_add (hQ : Q = 13 ∨ Q = 49) {S : nk_S} {nl : List Int} (h : cTh S Q nl) (hl : nl.length < 1024) (x : Int) (h1 : -2147483648 ≤ x) (h2 : x ≤ 2147483647) : ∃ S', ja_X5_includeAround (Q + 23) x S = some (0, S') ∧ tF (Q + 23) S S' ∧ cTh S' Q (nl ++ [x]) := by
  obtain ⟨n, n1, n2⟩ := h
  have hR : Q + 23 = 36 ∨ Q + 23 = 72 := by omega
  obtain ⟨S', n', s1, s2, s3, s4⟩ := c_around hR x h1 h2 n2 (by omega)
  refine ⟨S', s1, s4, n', by rw [List.length_append, List.length_cons, List.length_nil]; omega, tC_iff s3 (fun y => ?_)⟩
  constructor
  · rintro ((h | ⟨w, w1, w2⟩) | h)
    · exact Or.inl h
    · exact Or.inr ⟨w, List.mem_append_left _ w1, w2⟩
    · exact Or.inr ⟨x, List.mem_append_right _ List.mem_cons_self, h⟩
  · rintro (h | ⟨w, w1, w2⟩)
    · exact Or.inl (Or.inl h)
    · rcases List.mem_append.mp w1 with e | e
      · exact Or.inl (Or.inr ⟨w, e, w2⟩)
      · have : w = x := by simpa using e
        subst this
        exact Or.inr w2
/-- one more instruction -/
theorem c_addC (hQ : Q = 13 ∨ Q = 49) {S : nk_S} {cl : List jC} {nl : List Int} (hC : cCd S Q cl) (hT : cTh S Q nl) (h1024 : cl.length < 1024) (hnl : nl.length ≤ cl.length) (o : Nat) (x y : Int) (t b : Nat) (hx : o = 0 → -2147483648 ≤ x ∧ x ≤ 2147483647) (hy : o = 4 → -2147483648 ≤ y ∧ y ≤ 2147483647) : ∃ S', ja_X3_add Q (o : Int) x y (t : Int) (b : Int) S = some (0, S') ∧ S'.2 = S.2 ∧ (∀ d, d ≠ Q → ¬ (Q + 23 ≤ d ∧ d ≤ Q + 29) → S'.1 d = S.1 d) ∧ (∀ i, i ≠ 3 → S'.1 Q i = S.1 Q i) ∧ cCd S' Q (cl ++ [(o, x, y, b, t)]) ∧ cTh S' Q (nl ++ nTh o x y) := by
  have hin : (0 : Int) ≤ (cl.length : Int) ∧ (cl.length : Int) < 1024 := in_i (N := 1024) (by omega)
  obtain ⟨j2, j4, j5, j6, j7, j8, -⟩ := jc_Qp hQ
  obtain ⟨T, hTT⟩ : ∃ T, T = nk_wi (nk_wi (nk_wi (nk_wi (nk_wi S (Q + 25) cl.length (o : Int)) (Q + 26) cl.length x) (Q + 27) cl.length y) (Q + 28) cl.length (t : Int)) (Q + 29) cl.length (b : Int) := ⟨_, rfl⟩
  obtain ⟨U, hU⟩ : ∃ U, U = nk_wi T Q 3 ((cl.length + 1 : Nat) : Int) := ⟨_, rfl⟩
  have t3 : T.1 Q 3 = (cl.length : Int) := by rw [hTT, wi_n (by omega), wi_n (by omega), wi_n (by omega), wi_n (by omega), wi_n (by omega)]; exact hC.1
  have un : ∀ d, d ≠ Q → ¬ (Q + 25 ≤ d ∧ d ≤ Q + 29) → U.1 d = S.1 d := fun d p q => by rw [hU, wi_n p, hTT, wi_n (by omega), wi_n (by omega), wi_n (by omega), wi_n (by omega), wi_n (by omega)]
  have uQ : ∀ i, i ≠ 3 → U.1 Q i = S.1 Q i := fun i hi => by rw [hU, wi_at, if_neg hi, hTT, wi_n (by omega), wi_n (by omega), wi_n (by omega), wi_n (by omega), wi_n (by omega)]
  have hCU : cCd U Q (cl ++ [(o, x, y, b, t)]) := by
    refine ⟨by rw [hU, wi_at, if_pos rfl, List.length_append]; rfl, fun i w hw => ?_⟩
    have r1 : U.1 (Q + 25) i = if i = cl.length then (o : Int) else S.1 (Q + 25) i := by rw [hU, wi_n (by omega), hTT, wi_n (by omega), wi_n (by omega), wi_n (by omega), wi_n (by omega), wi_at]
    have r2 : U.1 (Q + 26) i = if i = cl.length then x else S.1 (Q + 26) i := by rw [hU, wi_n (by omega), hTT, wi_n (by omega), wi_n (by omega), wi_n (by omega), wi_at, wi_n (by omega)]
    have r3 : U.1 (Q + 27) i = if i = cl.length then y else S.1 (Q + 27) i := by rw [hU, wi_n (by omega), hTT, wi_n (by omega), wi_n (by omega), wi_at, wi_n (by omega), wi_n (by omega)]
    have r4 : U.1 (Q + 28) i = if i = cl.length then (t : Int) else S.1 (Q + 28) i := by rw [hU, wi_n (by omega), hTT, wi_n (by omega), wi_at, wi_n (by omega), wi_n (by omega), wi_n (by omega)]
    have r5 : U.1 (Q + 29) i = if i = cl.length then (b : Int) else S.1 (Q + 29) i := by rw [hU, wi_n (by omega), hTT, wi_at, wi_n (by omega), wi_n (by omega), wi_n (by omega), wi_n (by omega)]
    rw [r1, r2, r3, r4, r5]
    rcases fl_case hw with ⟨l1, e⟩ | ⟨l1, e⟩
    · rw [if_neg (by omega), if_neg (by omega), if_neg (by omega), if_neg (by omega), if_neg (by omega)]
      exact hC.2 i w e
    · rw [if_pos l1, if_pos l1, if_pos l1, if_pos l1, if_pos l1, e]
      exact ⟨rfl, rfl, rfl, rfl, rfl⟩
  have hTU : cTh U Q nl := by
    unfold cTh tC at hT ⊢
    rw [un (Q + 23) (by omega) (by omega), un (Q + 23 + 1) (by omega) (by omega)]
    exact hT
  have e1 : ja_X3_add Q (o : Int) x y (t : Int) (b : Int) S = if (o : Int) = 0 then nk_bd (ja_X5_includeAround (Q + 23) x U) fun r24 S25 => ja_X3_add_b74 Q (o : Int) y S25 else ja_X3_add_b74 Q (o : Int) y U := by
    unfold ja_X3_add
    rw [hC.1, if_pos hin, lt_eq, j4, Int.toNat_natCast]
    rw [show (nk_wi S (Q + 25) cl.length (o : Int)).1 Q 3 = (cl.length : Int) by rw [wi_n (by omega)]; exact hC.1, if_pos hin, lt_eq, j5, Int.toNat_natCast]
    rw [show (nk_wi (nk_wi S (Q + 25) cl.length (o : Int)) (Q + 26) cl.length x).1 Q 3 = (cl.length : Int) by rw [wi_n (by omega), wi_n (by omega)]; exact hC.1, if_pos hin, lt_eq, j6, Int.toNat_natCast]
    rw [show (nk_wi (nk_wi (nk_wi S (Q + 25) cl.length (o : Int)) (Q + 26) cl.length x) (Q + 27) cl.length y).1 Q 3 = (cl.length : Int) by rw [wi_n (by omega), wi_n (by omega), wi_n (by omega)]; exact hC.1, if_pos hin, lt_eq, j7, Int.toNat_natCast]
    rw [show (nk_wi (nk_wi (nk_wi (nk_wi S (Q + 25) cl.length (o : Int)) (Q + 26) cl.length x) (Q + 27) cl.length y) (Q + 28) cl.length (t : Int)).1 Q 3 = (cl.length : Int) by rw [wi_n (by omega), wi_n (by omega), wi_n (by omega), wi_n (by omega)]; exact hC.1, if_pos hin, lt_eq, j8, Int.toNat_natCast, ← hTT, t3, lt_eq, w_nat1 (by omega), ← hU, j2]
  have cong : ∀ V : nk_S, tF (Q + 23) U V → cCd V Q (cl ++ [(o, x, y, b, t)]) ∧ V.2 = S.2 ∧ (∀ d, d ≠ Q → ¬ (Q + 23 ≤ d ∧ d ≤ Q + 29) → V.1 d = S.1 d) ∧ ∀ i, i ≠ 3 → V.1 Q i = S.1 Q i := by
    intro V hV
    have k := hV.2.1
    refine ⟨?_, by rw [hV.1, hU, hTT]; rfl, fun d p q => by rw [k d (by omega) (by omega), un d p (by omega)], fun i hi => by rw [k Q (by omega) (by omega), uQ i hi]⟩
    unfold cCd at hCU ⊢
    rw [k Q (by omega) (by omega), k (Q + 25) (by omega) (by omega), k (Q + 26) (by omega) (by omega), k (Q + 27) (by omega) (by omega), k (Q + 28) (by omega) (by omega), k (Q + 29) (by omega) (by omega)]
    exact hCU
  rw [e1]
  unfold nTh
  by_cases q0 : o = 0
  · obtain ⟨V, v1, v2, v3⟩ := cTh_add hQ hTU (by omega) x (hx q0).1 (hx q0).2
    obtain ⟨c1, c2, c3, c4⟩ := cong V v2
    rw [if_pos (show (o : Int) = 0 by omega), v1, bd_some, if_pos q0]
    unfold ja_X3_add_b74
    rw [if_neg (show ¬ (o : Int) = 4 by omega)]
    exact ⟨V, rfl, c2, c3, c4, c1, v3⟩
  · rw [if_neg (show ¬ (o : Int) = 0 by omega), if_neg q0]
    unfold ja_X3_add_b74
    by_cases q4 : o = 4
    · obtain ⟨V, v1, v2, v3⟩ := cTh_add hQ hTU (by omega) y (hy q4).1 (hy q4).2
      obtain ⟨c1, c2, c3, c4⟩ := cong V v2
      rw [if_pos (show (o : Int) = 4 by omega), j2, v1, bd_some, if_pos q4]
      exact ⟨V, rfl, c2, c3, c4, c1, v3⟩
    · obtain ⟨c1, c2, c3, c4⟩ := cong U ⟨rfl, fun _ _ _ => rfl, fun _ _ => rfl⟩
      rw [if_neg (show ¬ (o : Int) = 4 by omega), if_neg q4, List.append_nil]
      exact ⟨U, rfl, c2, c3, c4, c1, hTU⟩
theorem tyC_le {l : List Int} (hns : ns.length ≤ 32) : -2 ≤ tyC ns l ∧ tyC ns l ≤ 67 := by
  by_cases h : tyC ns l = -2
  · omega
  · rcases tyC_kind h with ⟨a1, a2⟩ | ⟨a1, a2⟩ | ⟨a1, a2⟩ | ⟨j, a1, a2, a3⟩ | ⟨j, a1, a2⟩
    · omega
    · omega
    · omega
    · have := at_lt a3; omega
    · have := at_lt a2; omega
theorem nval_rg {a : Nat} (h : fU tx a = true) : -2147483648 ≤ nval (tx.getD a []) ∧ nval (tx.getD a []) ≤ 2147483647 := by
  unfold fU isNum at h
  exact (of_decide_eq_true h).2.2.2
/-- what operands are -/
theorem oX_rg (hns : ns.length ≤ 32) {a o : Nat} (h46 : o < 46) (hf : (fOp tx (fK o) a).1 = true) {x y : Int} (h : oX tx ns us fl bl ls en lc o a = some (x, y)) : (o = 0 → -2147483648 ≤ x ∧ x ≤ 2147483647) ∧ (o = 4 → -2147483648 ≤ y ∧ y ≤ 2147483647) ∧ (o = 30 → 0 ≤ x ∧ x < 32) ∧ (o = 31 → -2 ≤ x ∧ x ≤ 67) := by
  obtain ⟨m1, m2, m3, m4⟩ := fKmk o h46
  refine ⟨fun e => ?_, fun e => ?_, fun e => ?_, fun e => ?_⟩
  · have ek := m3.mp e
    unfold oX at h
    rw [ek] at h hf
    have := nval_rg (tk_ok hf).1
    cases h
    exact this
  · have ek := m4.mp e
    unfold oX at h
    rw [ek] at h hf
    have h' : (sq (tk (fU tx a) a) fun a => tk (fU tx a) a).1 = true := hf
    obtain ⟨g1, g2, g3⟩ := sq_ok h'
    rw [(tk_ok g1).2] at g2
    have := nval_rg (tk_ok g2).1
    by_cases q : 0 ≤ nval (tx.getD a []) ∧ nval (tx.getD a []) < lc
    · have h2 : (if 0 ≤ nval (tx.getD a []) ∧ nval (tx.getD a []) < lc then some (nval (tx.getD a []), nval (tx.getD (a + 1) [])) else none) = some (x, y) := h
      rw [if_pos q] at h2
      cases h2
      exact this
    · have h2 : (if 0 ≤ nval (tx.getD a []) ∧ nval (tx.getD a []) < lc then some (nval (tx.getD a []), nval (tx.getD (a + 1) [])) else none) = some (x, y) := h
      rw [if_neg q] at h2
      cases h2
  · have ek := m1.mp e
    unfold oX at h
    rw [ek] at h
    have h2 : (if 0 ≤ amx (tx.getD a []) ns 0 then some (amx (tx.getD a []) ns 0, (0 : Int)) else none) = some (x, y) := h
    by_cases q : 0 ≤ amx (tx.getD a []) ns 0
    · rw [if_pos q] at h2
      have := amx_rg (tx.getD a []) ns 0
      cases h2
      omega
    · rw [if_neg q] at h2; cases h2
  · have ek := m2.mp e
    unfold oX at h
    rw [ek] at h
    have h2 : (if tyC ns (tx.getD a []) = -2 then none else some (tyC ns (tx.getD a []), (0 : Int))) = some (x, y) := h
    by_cases q : tyC ns (tx.getD a []) = -2
    · rw [if_pos q] at h2; cases h2
    · rw [if_neg q] at h2
      have := tyC_le (ns := ns) (l := tx.getD a []) hns
      cases h2
      exact this
end CIN
