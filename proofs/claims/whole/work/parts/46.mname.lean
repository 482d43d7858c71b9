/-! The reference: names, arrays, references, numbers. -/
theorem mnm_39 {rec39 : Nat → Int → Int → nk_S → Option (Int × nk_S)} {l2 p c : Int} {S : nk_S} : (if c < 97 then ja_X13_isName_b68 rec39 121 l2 p c S else if c ≤ 122 then nk_lt (nk_w (p + 1)) fun v5 => rec39 121 l2 v5 S else ja_X13_isName_b68 rec39 121 l2 p c S) = if alc c = true then rec39 121 l2 (nk_w (p + 1)) S else some (0, S) := by
  unfold ja_X13_isName_b68 ja_X13_isName_b82 ja_X13_isName_b96 alc ltr
  simp only [lt_eq]
  by_cases h1 : 97 ≤ c ∧ c ≤ 122
  · rw [if_neg (by omega), if_pos (by omega), decide_eq_true (Or.inl h1)]; rfl
  · by_cases h2 : 65 ≤ c ∧ c ≤ 90
    · rw [if_pos (by omega), if_neg (by omega), if_pos (by omega), decide_eq_true (Or.inr h2)]; rfl
    · by_cases h3 : 48 ≤ c ∧ c ≤ 57
      · rw [if_pos (by omega), if_pos (by omega), if_neg (by omega), if_pos (by omega), decide_eq_false (by omega), decide_eq_true (Or.inr h3)]; rfl
      · by_cases h4 : c = 95
        · subst h4; rfl
        · have e : (decide (97 ≤ c ∧ c ≤ 122 ∨ 65 ≤ c ∧ c ≤ 90) || decide (c = 95 ∨ 48 ≤ c ∧ c ≤ 57)) = false := by
            rw [decide_eq_false (by omega), decide_eq_false (by omega)]; rfl
          rw [e]
          simp only [h4, if_false, Bool.false_eq_true]
          repeat' split
          all_goals first | rfl | omega
theorem mnm_L {S : nk_S} {t : Nat} (ht : t ≤ 16000) : ∀ (d m p : Nat), p + d = t → d < m → ja_X13_isName_L39 m 121 (t : Int) (p : Int) S = some (bi ((sg (S.1 215) p t).all alc), S) := by
  intro d
  induction d with
  | zero =>
    intro m p h1 h2
    obtain ⟨m, rfl⟩ : ∃ q, m = q + 1 := ⟨m - 1, by omega⟩
    show ja_X13_isName_b39 (ja_X13_isName_L39 m) 121 _ _ S = _
    unfold ja_X13_isName_b39
    rw [if_pos (by omega), sg_nil _ (by omega)]; rfl
  | succ d ih =>
    intro m p h1 h2
    obtain ⟨m, rfl⟩ : ∃ q, m = q + 1 := ⟨m - 1, by omega⟩
    have ih1 := ih m (p + 1) (by omega) (by omega)
    show ja_X13_isName_b39 (ja_X13_isName_L39 m) 121 _ _ S = _
    unfold ja_X13_isName_b39
    rw [if_neg (by omega), if_pos (in_i (N := 16000) (by omega)), lt_eq, jc_121_6, Int.toNat_natCast, mnm_39, w_nat1 (by omega), ih1, sg_cons _ (show p < t by omega), List.all_cons]
    cases alc (S.1 215 p) <;> rfl
theorem ltr_t {c : Int} (h : 97 ≤ c ∧ c ≤ 122 ∨ 65 ≤ c ∧ c ≤ 90) : ltr c = true := decide_eq_true h
theorem ltr_f {c : Int} (h : ¬ (97 ≤ c ∧ c ≤ 122 ∨ 65 ≤ c ∧ c ≤ 90)) : ltr c = false := decide_eq_false h
theorem alc_l {c : Int} (h : ltr c = true) : alc c = true := by unfold alc; rw [h]; rfl
theorem nm_t (c : Int) (A : Bool) (S : nk_S) : (if c < 97 then some (0, S) else if c ≤ 122 then some (bi (alc c && A), S) else some (0, S)) = some (bi (decide ((if (ltr c && A) = true then (if c < 97 then 2 else 1) else 0 : Int) = 1)), S) := by
  by_cases q1 : c < 97
  · simp only [q1, if_true]
    cases (ltr c && A) <;> rfl
  · simp only [q1, if_false]
    by_cases q2 : c ≤ 122
    · have hl := ltr_t (c := c) (by omega)
      simp only [q2, if_true, hl, alc_l hl, Bool.true_and]
      cases A <;> rfl
    · have hl := ltr_f (c := c) (by omega)
      simp only [q2, if_false, hl, Bool.false_and]
      rfl
theorem nm_f (c : Int) (A : Bool) (S : nk_S) : (if c < 65 then some (0, S) else if c ≤ 90 then some (bi (alc c && A), S) else some (0, S)) = some (bi (decide ((if (ltr c && A) = true then (if c < 97 then 2 else 1) else 0 : Int) = 2)), S) := by
  by_cases q1 : c < 65
  · have hl := ltr_f (c := c) (by omega)
    simp only [q1, if_true, hl, Bool.false_and]
    rfl
  · simp only [q1, if_false]
    by_cases q2 : c ≤ 90
    · have hl := ltr_t (c := c) (by omega)
      simp only [q2, if_true, hl, alc_l hl, Bool.true_and, show c < 97 by omega]
      cases A <;> rfl
    · simp only [q2, if_false]
      by_cases q3 : 97 ≤ c
      · simp only [show ¬ c < 97 by omega, if_false]
        cases (ltr c && A) <;> rfl
      · have hl := ltr_f (c := c) (by omega)
        simp only [hl, Bool.false_and]
        rfl
/-- the first of a name's letters: a .. z (1) or A .. Z (2) -/
theorem m_name1 {S : nk_S} {f t : Nat} (hf : f ≤ 16001) (ht : t ≤ 16000) : ja_X13_isName 121 (f : Int) (t : Int) 97 122 S = some (bi (decide (nmS (sg (S.1 215) f t) = 1)), S) := by
  unfold ja_X13_isName
  by_cases h1 : (t : Int) ≤ (f : Int)
  · rw [if_pos h1, sg_nil _ (by omega)]; rfl
  · rw [if_neg h1, w_sub (by omega) (by omega)]
    by_cases h2 : (24 : Int) < ((t - f : Nat) : Int)
    · rw [if_pos h2]
      unfold nmS; rw [sg_len, if_neg (by omega)]; rfl
    · rw [if_neg h2, if_pos (in_i (N := 16000) (by omega)), jc_121_6, Int.toNat_natCast, mnm_L ht (t - f) nk_big f (by omega) (by unfold nk_big; omega)]
      unfold nmS
      rw [sg_len, if_pos (show t - f ≤ 24 by omega), sg_cons _ (show f < t by omega), List.all_cons]
      exact nm_t _ _ _
theorem m_name2 {S : nk_S} {f t : Nat} (hf : f ≤ 16001) (ht : t ≤ 16000) : ja_X13_isName 121 (f : Int) (t : Int) 65 90 S = some (bi (decide (nmS (sg (S.1 215) f t) = 2)), S) := by
  unfold ja_X13_isName
  by_cases h1 : (t : Int) ≤ (f : Int)
  · rw [if_pos h1, sg_nil _ (by omega)]; rfl
  · rw [if_neg h1, w_sub (by omega) (by omega)]
    by_cases h2 : (24 : Int) < ((t - f : Nat) : Int)
    · rw [if_pos h2]
      unfold nmS; rw [sg_len, if_neg (by omega)]; rfl
    · rw [if_neg h2, if_pos (in_i (N := 16000) (by omega)), jc_121_6, Int.toNat_natCast, mnm_L ht (t - f) nk_big f (by omega) (by unfold nk_big; omega)]
      unfold nmS
      rw [sg_len, if_pos (show t - f ≤ 24 by omega), sg_cons _ (show f < t by omega), List.all_cons]
      exact nm_f _ _ _
section MWS
variable {S : nk_S} {tx : List (List Int)}
theorem m_small (hM : MW S tx) (i : Nat) (hi : i < 2000000) : ja_X13_isSmallName 121 (i : Int) S = some (bi (decide (nmS (tx.getD i []) = 1)), S) := by
  obtain ⟨h1, h2, h3⟩ := hM
  unfold ja_X13_isSmallName
  rw [h1]
  by_cases c : (tx.length : Int) ≤ (i : Int)
  · rw [if_pos c, List.getD_eq_getElem?_getD, List.getElem?_eq_none (by omega)]; rfl
  · have hlt : i < tx.length := by omega
    obtain ⟨f, t, e1, e2, e3, e4, e5⟩ := h3 i _ (List.getElem?_eq_getElem hlt)
    have hn := m_name1 (S := S) (f := f) (t := t) (by omega) e4
    rw [if_neg c, if_pos (in_i (N := 16002) (by omega)), jc_121_8, jc_121_9, Int.toNat_natCast, e1, e2, hn, bd_some, e5, List.getD_eq_getElem?_getD, List.getElem?_eq_getElem hlt, Option.getD_some]
    cases decide (nmS tx[i] = 1) <;> rfl
theorem m_class (hM : MW S tx) (i : Nat) (hi : i < 2000000) : ja_X13_isClassName 121 (i : Int) S = some (bi (decide (nmS (tx.getD i []) = 2)), S) := by
  obtain ⟨h1, h2, h3⟩ := hM
  unfold ja_X13_isClassName
  rw [h1]
  by_cases c : (tx.length : Int) ≤ (i : Int)
  · rw [if_pos c, List.getD_eq_getElem?_getD, List.getElem?_eq_none (by omega)]; rfl
  · have hlt : i < tx.length := by omega
    obtain ⟨f, t, e1, e2, e3, e4, e5⟩ := h3 i _ (List.getElem?_eq_getElem hlt)
    have hn := m_name2 (S := S) (f := f) (t := t) (by omega) e4
    rw [if_neg c, if_pos (in_i (N := 16002) (by omega)), jc_121_8, jc_121_9, Int.toNat_natCast, e1, e2, hn, bd_some, e5, List.getD_eq_getElem?_getD, List.getElem?_eq_getElem hlt, Option.getD_some]
    cases decide (nmS tx[i] = 2) <;> rfl
end MWS
