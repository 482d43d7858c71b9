/-! Lines: the class's labels. -/
theorem fKv : ∀ o : Nat, o < 46 → ((ja_ob 45).getD o 0).toInt = (fK o : Int) ∧ fK o < 9 := by decide +kernel
section CLB
variable {tx : List (List Int)} {Q c : Nat} {ns : List (List Int)} {us : List Int}
theorem fU_T {a : Nat} (h : fU tx a = true) : a < tx.length := by
  by_cases c : a < tx.length
  · exact c
  · unfold fU at h
    rw [List.getD_eq_getElem?_getD, List.getElem?_eq_none (by omega)] at h
    exfalso
    revert h
    decide +kernel
theorem fR_T {a : Nat} (h : fR tx a = true) : a < tx.length := by
  by_cases c : a < tx.length
  · exact c
  · unfold fR at h
    rw [List.getD_eq_getElem?_getD, List.getElem?_eq_none (by omega)] at h
    exfalso
    revert h
    decide +kernel
theorem cw_op {S : nk_S} (hC : CF S tx c) {a : Nat} (h : 0 ≤ fO tx a) (ha : a < tx.length) : cw S tx a = fO tx a := by
  obtain ⟨o, ho⟩ : ∃ o : Nat, fO tx a = (o : Int) := ⟨(fO tx a).toNat, (Int.toNat_of_nonneg h).symm⟩
  obtain ⟨h1, h2⟩ := fO_at ho
  rw [ho]
  refine (cw_iff hC (show o < 70 by omega) a).mpr ?_
  unfold fW
  refine decide_eq_true ?_
  rw [← h2, List.getD_eq_getElem?_getD, List.getElem?_eq_getElem ha]
  rfl
theorem fLine_len {a : Nat} (h : (fLine tx a).1 = true) : (fLine tx a).2 ≤ tx.length := by
  rcases ln_kind h with ⟨h1, h2, h3⟩ | ⟨-, h1, -, -, -, h2, h3⟩ | ⟨h1, h2, h3, h4, h5⟩
  · have := fW_T h1; omega
  · have := fC_T h2; omega
  · rw [h5]
    have hr := fO_rg (tx := tx) a
    obtain ⟨k1, k2⟩ := fKv (fO tx a).toNat (by omega)
    have hlen := op_len k2 h4
    have hal : a < tx.length := by
      by_cases e : a < tx.length
      · exact e
      · exfalso
        obtain ⟨o, ho⟩ : ∃ o : Nat, fO tx a = (o : Int) := ⟨(fO tx a).toNat, (Int.toNat_of_nonneg h3).symm⟩
        obtain ⟨z1, z2⟩ := fO_at ho
        rw [List.getD_eq_getElem?_getD, List.getElem?_eq_none (by omega)] at z2
        have := fx_len o (by omega)
        rw [← z2] at this
        simp at this
    generalize fK (fO tx a).toNat = k at *
    have hk : k = 0 ∨ k = 1 ∨ k = 2 ∨ k = 3 ∨ k = 4 ∨ k = 5 ∨ k = 6 ∨ k = 7 ∨ k = 8 := by omega
    rcases hk with rfl | rfl | rfl | rfl | rfl | rfl | rfl | rfl | rfl
    · simp at hlen; omega
    · have := fU_T (tk_ok h4).1; simp at hlen; omega
    · have := fU_T (tk_ok h4).1; simp at hlen; omega
    · have h' : (sq (tk (fU tx (a + 1)) (a + 1)) fun a => tk (fU tx a) a).1 = true := h4
      obtain ⟨g1, g2, g3⟩ := sq_ok h'
      have := fU_T (tk_ok g2).1
      rw [(tk_ok g1).2] at this
      simp at hlen; omega
    · have := fN_T (tk_ok h4).1; simp at hlen; omega
    · have := fC_T (tk_ok h4).1; simp at hlen; omega
    · have h' := (tk_ok h4).1
      rw [Bool.or_eq_true] at h'
      rcases h' with g | g
      · have := fW_T g; simp at hlen; omega
      · have := fC_T g; simp at hlen; omega
    · have h' := (tk_ok h4).1
      rw [Bool.and_eq_true] at h'
      have := fT_T h'.1; simp at hlen; omega
    · have := fR_T (tk_ok h4).1; simp at hlen; omega
theorem fO_T {a : Nat} (h : 0 ≤ fO tx a) : a < tx.length := by
  by_cases e : a < tx.length
  · exact e
  · exfalso
    obtain ⟨o, ho⟩ : ∃ o : Nat, fO tx a = (o : Int) := ⟨(fO tx a).toNat, (Int.toNat_of_nonneg h).symm⟩
    obtain ⟨z1, z2⟩ := fO_at ho
    rw [List.getD_eq_getElem?_getD, List.getElem?_eq_none (by omega)] at z2
    have := fx_len o (by omega)
    rw [← z2] at this
    simp at this
/-- how many tokens a line takes -/
theorem c_lineT {S : nk_S} (hC : CF S tx c) {a : Nat} (h : (fLine tx a).1 = true) : ja_X6_lineTokens 85 (a : Int) S = some ((((fLine tx a).2 - a : Nat) : Int), S) := by
  have hT := hC.2.2.2.2.1
  unfold ja_X6_lineTokens
  rw [jc_85_0]
  rcases ln_kind h with ⟨h1, h2, h3⟩ | ⟨h0, h1, -, -, -, h2, h3⟩ | ⟨h1, h2, h3, h4, h5⟩
  · have := fW_T h1
    rw [w_nat1 (by omega), c_at0 hC, bd_some, if_pos (show cw _ _ _ = 59 from (cw_iff hC (w := 59) (by decide) (a + 1)).mpr h1), h3, show a + 2 - a = 2 by omega]
    rfl
  · have := fC_T h2
    have e46 : cw S tx a = 46 := (cw_iff hC (w := 46) (by decide) a).mpr h1
    rw [w_nat1 (by omega), c_at0 hC, bd_some, if_neg (show ¬ cw _ _ _ = 59 from cw_ne hC (w := 59) (by decide) h0), c_at0 hC, bd_some, e46, if_neg (by decide), if_neg (by decide), h3, show a + 5 - a = 5 by omega]
    rfl
  · have hal := fO_T h3
    have hr := fO_rg (tx := tx) a
    obtain ⟨o, ho⟩ : ∃ o : Nat, fO tx a = (o : Int) := ⟨(fO tx a).toNat, (Int.toNat_of_nonneg h3).symm⟩
    obtain ⟨k1, k2⟩ := fKv o (by omega)
    rw [ho, Int.toNat_natCast] at h4 h5
    have hlen := op_len k2 h4
    rw [w_nat1 (by omega), c_at0 hC, bd_some, if_neg (show ¬ cw _ _ _ = 59 from cw_ne hC (w := 59) (by decide) h1), c_at0 hC, bd_some, cw_op hC h3 hal, ho, if_neg (by omega), if_pos (by omega), if_pos (in_i (N := 46) (by omega)), lt_eq, Int.toNat_natCast, k1, h5, hlen]
    by_cases q0 : fK o = 0
    · rw [if_pos (show (fK o : Int) = 0 by omega), if_pos q0, show a + 1 + 0 - a = 1 by omega]; rfl
    · rw [if_neg (show ¬ (fK o : Int) = 0 by omega), if_neg q0]
      by_cases q3 : fK o = 3
      · rw [if_pos (show (fK o : Int) = 3 by omega), if_pos q3, show a + 1 + 2 - a = 3 by omega]; rfl
      · rw [if_neg (show ¬ (fK o : Int) = 3 by omega), if_neg q3, show a + 1 + 1 - a = 2 by omega]; rfl
/-- what marking labels changes -/
def lMk (S S' : nk_S) (c op : Nat) (ls : List (List Int × Nat × Nat)) : Prop := S'.2 = S.2 ∧ (∀ b, b ≠ 10 → b ≠ 11 → S'.1 b = S.1 b) ∧ (∀ v, v < c → shp (wd S v) ≠ 1 → S'.1 10 v = S.1 10 v ∧ S'.1 11 v = S.1 11 v) ∧ ∀ v, v < c → shp (wd S v) = 1 → (if (op : Int) < S.1 10 v then S'.1 10 v = S.1 10 v ∧ S'.1 11 v = S.1 11 v else match lfd (wd S v) ls with
  | some q => S'.1 10 v = (q.1 : Int) ∧ S'.1 11 v = (q.2 : Int)
  | none => S'.1 10 v = S.1 10 v ∧ S'.1 11 v = S.1 11 v)
theorem lMk_rfl {S : nk_S} {op : Nat} : lMk S S c op [] := ⟨rfl, fun _ _ _ => rfl, fun _ _ _ => ⟨rfl, rfl⟩, fun v _ _ => by split <;> exact ⟨rfl, rfl⟩⟩
theorem CF_lw {S S' : nk_S} (h : ∀ b, b ≠ 10 → b ≠ 11 → S'.1 b = S.1 b) (hC : CF S tx c) : CF S' tx c := CF_c (h 2 (by decide) (by decide)) (h 3 (by decide) (by decide)) (h 4 (by decide) (by decide)) (h 5 (by decide) (by decide)) (h 6 (by decide) (by decide)) (h 9 (by decide) (by decide)) hC
theorem wd_lw {S S' : nk_S} (h : ∀ b, b ≠ 10 → b ≠ 11 → S'.1 b = S.1 b) (w : Nat) : wd S' w = wd S w := wd_congr (h 3 (by decide) (by decide)) (by rw [h 5 (by decide) (by decide)]) (by rw [h 6 (by decide) (by decide)])
theorem c_markL {op : Nat} : ∀ (d a k m n : Nat) (S : nk_S), CF S tx c → (fLines tx d a).1 = true → op < a → n ≤ a → k < a + 2000 → tx.length < a + m → ∃ S', ja_X6_markLabels_L15 m 85 (op : Int) (a : Int) (k : Int) (n : Int) S = some (((lbs tx d a k).2 : Int), S') ∧ lMk S S' c op (lbs tx d a k).1 := by
  intro d
  induction d with
  | zero => intro a k m n S _ h; cases h
  | succ d ih =>
    intro a k m n S hC h hop hn hk hm
    have hT := hC.2.2.2.2.1
    have hend := fLines_ok h
    rw [fLines] at h hend
    rw [lbs]
    have hal : a < tx.length := by
      cases h58 : fW tx 58 a with
      | true => exact fW_T h58
      | false =>
        rw [h58] at h
        simp only [Bool.false_eq_true, if_false] at h
        have h1 := (sq_ok h).1
        have l1 := fLine_len h1
        have l2 := fLine_lt h1
        omega
    obtain ⟨m, rfl⟩ : ∃ q, m = q + 1 := ⟨m - 1, by omega⟩
    have hstep : ja_X6_markLabels_L15 (m + 1) 85 (op : Int) (a : Int) (k : Int) (n : Int) S = ja_X6_markLabels_b15 (ja_X6_markLabels_L15 m) 85 (op : Int) (a : Int) (k : Int) (n : Int) S := rfl
    unfold ja_X6_markLabels_b15 at hstep
    rw [jc_85_0, if_neg (show ¬ (16000 : Int) ≤ (n : Int) by omega), hC.2.2.2.1, if_neg (show ¬ (tx.length : Int) ≤ (a : Int) by omega), c_at0 hC, bd_some] at hstep
    cases h58 : fW tx 58 a with
    | true =>
      rw [if_pos (show cw _ _ _ = 58 from (cw_iff hC (w := 58) (by decide) a).mpr h58)] at hstep
      simp only [if_true]
      exact ⟨S, hstep, lMk_rfl⟩
    | false =>
      rw [h58] at h hend
      simp only [Bool.false_eq_true, if_false] at h hend ⊢
      obtain ⟨h1, h2, h3⟩ := sq_ok h
      have l1 := fLine_len h1
      have l2 := fLine_lt h1
      rw [if_neg (show ¬ cw _ _ _ = 58 from cw_ne hC (w := 58) (by decide) h58), c_at0 hC, bd_some, w_nat1 (by omega), c_at0 hC, bd_some] at hstep
      -- the next line
      have hnx : ∀ (T : nk_S) (k' : Nat), CF T tx c → k' < (fLine tx a).2 + 2000 → ∃ S', ja_X6_markLabels_b109 (ja_X6_markLabels_L15 m) 85 (op : Int) (a : Int) (k' : Int) (n : Int) T = some (((lbs tx d (fLine tx a).2 k').2 : Int), S') ∧ lMk T S' c op (lbs tx d (fLine tx a).2 k').1 := by
        intro T k' hCT hk'
        obtain ⟨S', i1, i2⟩ := ih (fLine tx a).2 k' m (n + 1) T hCT h2 (by omega) (by omega) hk' (by omega)
        refine ⟨S', ?_, i2⟩
        have w2 : nk_w ((a : Int) + (((fLine tx a).2 - a : Nat) : Int)) = ((fLine tx a).2 : Int) := by
          rw [show (a : Int) + (((fLine tx a).2 - a : Nat) : Int) = ((fLine tx a).2 : Int) by omega]
          exact w_n0 (by omega)
        have n1 : n + 1 < 2147483648 := by omega
        unfold ja_X6_markLabels_b109
        rw [c_lineT hCT h1, bd_some, lt_eq, lt_eq, w2, w_nat1 n1]
        exact i1
      rcases ln_kind h1 with ⟨g1, g2, g3⟩ | ⟨g0, g1, -, -, -, g2, g3⟩ | ⟨g1, g2, g3, g4, g5⟩
      · -- a label
        rw [if_pos (show cw _ _ _ = 59 from (cw_iff hC (w := 59) (by decide) (a + 1)).mpr g1)] at hstep
        rw [if_pos g1]
        obtain ⟨w, w1, w2, w3⟩ := c_tok hC hal
        have ws : shp (wd S w) = 1 := by
          rw [w3]
          exact (shp_eq _).1.mpr (of_decide_eq_true g2)
        rw [w2, c_first hC w1, bd_some] at hstep
        rw [g3] at hnx
        by_cases q : (op : Int) < S.1 10 w
        · rw [if_pos q] at hstep
          obtain ⟨S', i1, i2, i3, i4, i5⟩ := hnx S k hC (by omega)
          refine ⟨S', by rw [hstep]; exact i1, i2, i3, i4, fun v hv hs => ?_⟩
          have := i5 v hv hs
          by_cases qv : (op : Int) < S.1 10 v
          · rw [if_pos qv] at this ⊢; exact this
          · rw [if_neg qv] at this ⊢
            have ne : ¬ tx.getD a [] = wd S v := by
              intro e
              have : w = v := hC.2.2.2.2.2.2.1 w v w1 hv (by rw [w3, e])
              subst this
              exact qv q
            rw [lfd, if_neg ne]
            exact this
        · rw [if_neg q, c_setM hC w1, bd_some] at hstep
          obtain ⟨T, hTT⟩ : ∃ T, T = nk_wi (nk_wi S 10 w (a : Int)) 11 w (k : Int) := ⟨_, rfl⟩
          rw [← hTT] at hstep
          have tn : ∀ b, b ≠ 10 → b ≠ 11 → T.1 b = S.1 b := fun b x y => by rw [hTT, wi_n y, wi_n x]
          have t10 : ∀ v, T.1 10 v = if v = w then (a : Int) else S.1 10 v := fun v => by
            rw [hTT, wi_n (by decide)]; simp only [wi_v, true_and]
          have t11 : ∀ v, T.1 11 v = if v = w then (k : Int) else S.1 11 v := fun v => by
            rw [hTT]; simp only [wi_v, true_and]; rw [if_neg (show ¬ ((11 : Nat) = 10 ∧ v = w) by omega)]
          obtain ⟨S', i1, i2, i3, i4, i5⟩ := hnx T k (CF_lw tn hC) (by omega)
          have wT : ∀ v, wd T v = wd S v := wd_lw tn
          refine ⟨S', by rw [hstep]; exact i1, by rw [i2, hTT]; rfl, fun b x y => by rw [i3 b x y, tn b x y], fun v hv hs => ?_, fun v hv hs => ?_⟩
          · have hne : v ≠ w := fun e => hs (by rw [e]; exact ws)
            have := i4 v hv (by rw [wT]; exact hs)
            rw [t10, t11, if_neg hne, if_neg hne] at this
            exact this
          · have := i5 v hv (by rw [wT]; exact hs)
            rw [wT, t10, t11] at this
            by_cases e : v = w
            · subst e
              rw [if_pos rfl, if_pos (show (op : Int) < (a : Int) by omega), if_pos rfl] at this
              rw [if_neg q, lfd, if_pos w3.symm]
              exact this
            · rw [if_neg e, if_neg e] at this
              have ne : ¬ tx.getD a [] = wd S v := by
                intro e2
                exact e (hC.2.2.2.2.2.2.1 w v w1 hv (by rw [w3, e2])).symm
              rw [lfd, if_neg ne]
              exact this
      · -- a catch
        rw [if_neg (show ¬ cw _ _ _ = 59 from cw_ne hC (w := 59) (by decide) g0), if_pos (show cw _ _ _ = 46 from (cw_iff hC (w := 46) (by decide) a).mpr g1)] at hstep
        rw [if_neg (show ¬ fW tx 59 (a + 1) = true by rw [g0]; decide), if_pos g1]
        rw [g3] at hnx
        obtain ⟨S', i1, i2⟩ := hnx S k hC (by omega)
        exact ⟨S', by rw [hstep]; exact i1, i2⟩
      · -- an instruction
        rw [if_neg (show ¬ cw _ _ _ = 59 from cw_ne hC (w := 59) (by decide) g1), if_neg (show ¬ cw _ _ _ = 46 from cw_ne hC (w := 46) (by decide) g2), lt_eq, w_nat1 (by omega)] at hstep
        rw [if_neg (show ¬ fW tx 59 (a + 1) = true by rw [g1]; decide), if_neg (show ¬ fW tx 46 a = true by rw [g2]; decide)]
        obtain ⟨S', i1, i2⟩ := hnx S (k + 1) hC (by omega)
        exact ⟨S', by rw [hstep]; exact i1, i2⟩
end CLB
