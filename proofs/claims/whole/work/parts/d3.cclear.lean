/-! The class begins with nothing reached and nothing waiting. -/
section CCR
variable {S : nk_S} {H lc : Nat → Nat}
theorem c_fill97 : ∀ (d i m : Nat) (T : nk_S), i + d = 16 → d < m → (∀ k, k < i → T.1 97 k = 0) → ∃ S', ja_J7_fill_d0a16_L6 m 97 16 0 (i : Int) 16 T = some (0, S') ∧ S'.2 = T.2 ∧ (∀ a, a ≠ 97 → S'.1 a = T.1 a) ∧ ∀ k, k < 16 → S'.1 97 k = 0 := by
  intro d
  induction d with
  | zero =>
    intro i m T h1 h2 h3
    obtain ⟨m, rfl⟩ : ∃ q, m = q + 1 := ⟨m - 1, by omega⟩
    refine ⟨T, ?_, rfl, fun _ _ => rfl, fun k hk => h3 k (by omega)⟩
    show ja_J7_fill_d0a16_b6 (ja_J7_fill_d0a16_L6 m) 97 16 0 (i : Int) 16 T = _
    unfold ja_J7_fill_d0a16_b6
    rw [if_pos (by omega)]
  | succ d ih =>
    intro i m T h1 h2 h3
    obtain ⟨m, rfl⟩ : ∃ q, m = q + 1 := ⟨m - 1, by omega⟩
    obtain ⟨S', s1, s2, s3, s4⟩ := ih (i + 1) m (nk_wi T 97 i 0) (by omega) (by omega) (fun k hk => by
      rw [wi_at]
      by_cases c : k = i
      · rw [if_pos c]
      · rw [if_neg c]; exact h3 k (by omega))
    refine ⟨S', ?_, by rw [s2]; rfl, fun a ha => by rw [s3 a ha, wi_n ha], s4⟩
    show ja_J7_fill_d0a16_b6 (ja_J7_fill_d0a16_L6 m) 97 16 0 (i : Int) 16 T = _
    unfold ja_J7_fill_d0a16_b6
    rw [if_neg (by omega), if_pos (by omega), Int.toNat_natCast, lt_eq, w_nat1 (by omega), lt_eq]
    exact s1
theorem c_clr96 : ∀ (d i m : Nat) (T : nk_S), i + d = 1024 → d < m → (∀ k, k < i → T.1 96 k = 0) → ∃ S', ja_X7_clear_L2 m 93 (i : Int) T = some (0, S') ∧ S'.2 = T.2 ∧ (∀ a, a ≠ 96 → a ≠ 97 → S'.1 a = T.1 a) ∧ (∀ k, k < 1024 → S'.1 96 k = 0) ∧ ∀ k, k < 16 → S'.1 97 k = 0 := by
  intro d
  induction d with
  | zero =>
    intro i m T h1 h2 h3
    obtain ⟨m, rfl⟩ : ∃ q, m = q + 1 := ⟨m - 1, by omega⟩
    obtain ⟨bm, hbm⟩ := big_ge 100 (by decide)
    obtain ⟨S', s1, s2, s3, s4⟩ := c_fill97 16 0 nk_big T (by omega) (by omega) (fun k hk => by omega)
    have s1' : ja_J7_fill_d0a16_L6 nk_big 97 16 0 0 16 T = some (0, S') := s1
    refine ⟨S', ?_, s2, fun a _ ha => s3 a ha, fun k hk => by rw [s3 96 (by decide)]; exact h3 k (by omega), s4⟩
    show ja_X7_clear_b2 (ja_X7_clear_L2 m) 93 (i : Int) T = _
    unfold ja_X7_clear_b2 ja_J7_fill_d0a16
    rw [if_pos (by omega), lt_eq, jc_93_3]
    have s1'' : ja_J7_fill_d0a16_L6 nk_big 97 16 0 0 ((16 : Nat) : Int) T = some (0, S') := s1'
    rw [s1'', bd_some]
  | succ d ih =>
    intro i m T h1 h2 h3
    obtain ⟨m, rfl⟩ : ∃ q, m = q + 1 := ⟨m - 1, by omega⟩
    obtain ⟨S', s1, s2, s3, s4, s5⟩ := ih (i + 1) m (nk_wi T 96 i 0) (by omega) (by omega) (fun k hk => by
      rw [wi_at]
      by_cases c : k = i
      · rw [if_pos c]
      · rw [if_neg c]; exact h3 k (by omega))
    refine ⟨S', ?_, by rw [s2]; rfl, fun a ha hb => by rw [s3 a ha hb, wi_n ha], s4, s5⟩
    show ja_X7_clear_b2 (ja_X7_clear_L2 m) 93 (i : Int) T = _
    unfold ja_X7_clear_b2
    rw [if_neg (by omega), if_pos (in_i (N := 1024) (by omega)), jc_93_2, Int.toNat_natCast, lt_eq, w_nat1 (by omega), lt_eq]
    exact s1
theorem c_clr7 : ∃ S', ja_X7_clear 93 S = some (0, S') ∧ S'.2 = S.2 ∧ (∀ a, a ≠ 96 → a ≠ 97 → S'.1 a = S.1 a) ∧ cAm H lc S' (fun _ => none) ∧ cWt S' (fun _ => false) := by
  obtain ⟨bm, hbm⟩ := big_ge 2000 (by decide)
  obtain ⟨S', s1, s2, s3, s4, s5⟩ := c_clr96 1024 0 nk_big S (by omega) (by omega) (fun k hk => by omega)
  refine ⟨S', s1, s2, s3, ⟨fun i hi => s4 i hi, fun i u hu => by cases hu⟩, fun k hk => by rw [s5 k hk]; exact cV_0.1, fun i hi => ?_⟩
  rw [s5 (i / 64) (by omega), lb_0]
end CCR
