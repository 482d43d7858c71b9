/-! Names of classes: the reference, from the beginning. -/
section MNB
variable {tx : List (List Int)} {P : Nat}
theorem us8_v : us8.getD 0 0 = -1 ∧ us8.getD 1 0 = 0 ∧ ∀ j, 2 ≤ j → j < 8 → us8.getD j 0 = 1 := by
  refine ⟨rfl, rfl, fun j h1 h2 => ?_⟩
  have : j = 2 ∨ j = 3 ∨ j = 4 ∨ j = 5 ∨ j = 6 ∨ j = 7 := by omega
  rcases this with rfl | rfl | rfl | rfl | rfl | rfl <;> rfl
theorem m_ini (hP : P = 122 ∨ P = 168) : ∀ (e j m : Nat) (S : nk_S), j + e = 8 → e < m → ∃ S', ja_X13_classNames_L7 m 121 P (j : Int) S = ja_X13_classNames_L45 nk_big 121 P 0 S' ∧ S'.2 = S.2 ∧ (∀ b, b ≠ P + 1 → S'.1 b = S.1 b) ∧ ∀ i, S'.1 (P + 1) i = if j ≤ i ∧ i < 8 then us8.getD i 0 else S.1 (P + 1) i := by
  intro e
  induction e with
  | zero =>
    intro j m S h1 h2
    obtain ⟨m, rfl⟩ : ∃ q, m = q + 1 := ⟨m - 1, by omega⟩
    refine ⟨S, ?_, rfl, fun _ _ => rfl, fun i => ?_⟩
    · show ja_X13_classNames_b7 (ja_X13_classNames_L7 m) 121 P (j : Int) S = _
      unfold ja_X13_classNames_b7
      rw [if_pos (by omega)]
    · rw [if_neg (by omega)]
  | succ e ih =>
    intro j m S h1 h2
    obtain ⟨m, rfl⟩ : ∃ q, m = q + 1 := ⟨m - 1, by omega⟩
    obtain ⟨S', i1, i2, i3, i4⟩ := ih (j + 1) m (nk_wi S (P + 1) j (us8.getD j 0)) (by omega) (by omega)
    refine ⟨S', ?_, i2, fun b hb => by rw [i3 b hb, wi_n hb], fun i => ?_⟩
    · rw [← i1]
      show ja_X13_classNames_b7 (ja_X13_classNames_L7 m) 121 P (j : Int) S = _
      unfold ja_X13_classNames_b7
      obtain ⟨u0, u1, u2⟩ := us8_v
      have hin : (0 : Int) ≤ (j : Int) ∧ (j : Int) < 32 := in_i (N := 32) (by omega)
      rw [if_neg (by omega), jc_P8 hP, Int.toNat_natCast]
      by_cases q0 : (j : Int) = 0
      · rw [if_pos q0, if_pos hin, lt_eq, lt_eq, show us8.getD j 0 = -1 by rw [show j = 0 by omega]; exact u0, w_nat1 (by omega)]
      · rw [if_neg q0]
        by_cases q1 : (j : Int) = 1
        · rw [if_pos q1, if_pos hin, lt_eq, lt_eq, show us8.getD j 0 = 0 by rw [show j = 1 by omega]; exact u1, w_nat1 (by omega)]
        · rw [if_neg q1, if_pos hin, lt_eq, lt_eq, u2 j (by omega) (by omega), w_nat1 (by omega)]
    · rw [i4]
      simp only [wi_v, true_and]
      by_cases q : j + 1 ≤ i ∧ i < 8
      · rw [if_pos q, if_pos (by omega)]
      · rw [if_neg q]
        by_cases q2 : i = j
        · rw [if_pos q2, if_pos (by omega), q2]
        · rw [if_neg q2, if_neg (by omega)]
/-- the reference looks at the names of classes -/
theorem m_names (hP : P = 122 ∨ P = 168) {S : nk_S} (hM : MW S tx) (h : (fProg tx 20000 20000 0).1 = true) : ∃ S', mcA (fCls tx 20000 0 kC8 us8).1 (ja_X13_classNames 121 P S) S' ∧ MW S' tx ∧ rC S' tx P (fCls tx 20000 0 kC8 us8).2.1 (fCls tx 20000 0 kC8 us8).2.2 ∧ mcF P S S' := by
  obtain ⟨m, hm⟩ := big_ge 20000 (by decide)
  obtain ⟨S1, s1, s2, s3, s4⟩ := m_ini hP 8 0 nk_big (nk_wi S P 0 0) (by omega) (by omega)
  have hPn : 121 ≠ P ∧ 215 ≠ P ∧ 216 ≠ P ∧ 217 ≠ P ∧ 121 ≠ P + 1 ∧ 215 ≠ P + 1 ∧ 216 ≠ P + 1 ∧ 217 ≠ P + 1 := by rcases hP with rfl | rfl <;> decide
  obtain ⟨x1, x2, x3, x4, y1, y2, y3, y4⟩ := hPn
  have pall : ∀ b, b ≠ P → b ≠ P + 1 → S1.1 b = S.1 b := fun b x y => by rw [s3 b y, wi_n x]
  have hM1 : MW S1 tx := MW_c (by rw [pall 121 x1 y1]) (pall 216 x3 y3) (pall 217 x4 y4) (pall 215 x2 y2) hM
  have hC1 : rC S1 tx P kC8 us8 := by
    have h8 := kC8_len
    refine ⟨?_, by omega, by rw [h8]; rfl, fun j hj => ?_, ⟨[], by rw [List.append_nil]⟩, fun j h1 h2 => by omega⟩
    · rw [s3 P (by omega), h8]; simp only [wi_v, and_self, if_true]; rfl
    · rw [s4, if_pos (by omega)]
  obtain ⟨S', i1, i2, i3, i4⟩ := m_clsL hP 20000 0 nk_big kC8 us8 S1 hM1 hC1 h (by rw [kC8_len]; rfl) (by omega) (by omega)
  refine ⟨S', ?_, i2, i3, mcF_trans ⟨?_, ?_, ?_, ?_⟩ i4⟩
  · have e : ja_X13_classNames 121 P S = ja_X13_classNames_L45 nk_big 121 P ((0 : Nat) : Int) S1 := by
      unfold ja_X13_classNames
      rw [lt_eq]
      exact s1
    rw [e]
    exact i1
  · rw [s2]; rfl
  · intro b _ _ z w; exact pall b z w
  · intro i _; rw [pall 121 x1 y1]
  · intro i hi; rw [s3 P (by omega)]; simp only [wi_v, hi, and_false, if_false]
end MNB
