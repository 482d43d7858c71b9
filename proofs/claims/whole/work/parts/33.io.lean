/-! What both sides hold of bytes fed, the text, the input, the latest run's answers; feed, end, input and the plain answers. -/
theorem wi_v (S : nk_S) (a k : Nat) (x : Int) (b i : Nat) : (nk_wi S a k x).1 b i = if b = a ∧ i = k then x else S.1 b i := rfl
theorem cp_v (S : nk_S) (a0 sp a dp n b i : Nat) : (nk_cp S a0 sp a dp n).1 b i = if b = a ∧ dp ≤ i ∧ i < dp + n then S.1 a0 (sp + (i - dp)) else S.1 b i := rfl
def io_f (S : nk_S) : Prop := S.1 0 1 = S.1 121 4 ∧ 0 ≤ S.1 121 4 ∧ S.1 121 4 ≤ 16000 ∧ S.1 0 2 = S.1 121 5 ∧ 0 ≤ S.1 121 5 ∧ S.1 121 5 ≤ 65536 ∧ ∀ k : Nat, (k : Int) < S.1 121 4 → S.1 1 k = S.1 214 k ∧ -128 ≤ S.1 214 k ∧ S.1 214 k < 128
def io_t (S : nk_S) : Prop := S.1 2 1 = 360 ∧ S.1 2 2 = 360 + S.1 121 7 ∧ 0 ≤ S.1 121 7 ∧ S.1 121 7 ≤ 16000 ∧ ∀ k : Nat, (k : Int) < S.1 121 7 → S.1 3 (360 + k) = S.1 215 k ∧ -128 ≤ S.1 215 k ∧ S.1 215 k < 128
def io_i (S : nk_S) : Prop := S.1 0 12 = S.1 121 55 ∧ 0 ≤ S.1 121 55 ∧ S.1 121 55 ≤ 256 ∧ ∀ k : Nat, k < 256 → S.1 112 k = if (k : Int) < S.1 121 55 then S.1 248 k else 0
def io_o (S : nk_S) : Prop := S.1 113 14 = S.1 121 58 ∧ S.1 113 15 = S.1 121 59 ∧ S.1 113 16 = S.1 121 60 ∧ S.1 113 17 = S.1 121 57 ∧ S.1 113 19 = S.1 121 62 ∧ ∀ k : Nat, (k : Int) < S.1 121 57 → k < 256 → S.1 120 k = S.1 249 k
/-- what else is known is kept where these cells alone change -/
def io_g (S S' : nk_S) : Prop := S'.2 = S.2 ∧ (∀ a, a ≠ 0 → a ≠ 1 → a ≠ 2 → a ≠ 3 → a ≠ 112 → a ≠ 121 → a ≠ 214 → a ≠ 215 → a ≠ 248 → S'.1 a = S.1 a) ∧ S'.1 0 6 = S.1 0 6 ∧ S'.1 121 2 = S.1 121 2 ∧ (∀ k, k ≠ 2 → S'.1 2 k = S.1 2 k) ∧ ∀ k, k < 360 → S'.1 3 k = S.1 3 k
def io_I (Rest : nk_S → Prop) (S : nk_S) : Prop := io_f S ∧ io_t S ∧ S.1 0 7 = S.1 121 12 ∧ io_i S ∧ io_o S ∧ Rest S
theorem io_steps {Rest : nk_S → Prop} : jb_two (io_I Rest) (ja_X11_steps 0) (ja_X13_steps 121) := fun S h => ⟨S.1 121 58, S, S, by rw [← h.2.2.2.2.1.1]; rfl, rfl, h⟩
theorem io_place {Rest : nk_S → Prop} : jb_two (io_I Rest) (ja_X11_place 0) (ja_X13_place 121) := fun S h => ⟨S.1 121 59, S, S, by rw [← h.2.2.2.2.1.2.1]; rfl, rfl, h⟩
theorem io_thrown {Rest : nk_S → Prop} : jb_two (io_I Rest) (ja_X11_thrown 0) (ja_X13_thrown 121) := fun S h => ⟨S.1 121 60, S, S, by rw [← h.2.2.2.2.1.2.2.1]; rfl, rfl, h⟩
theorem io_written {Rest : nk_S → Prop} : jb_two (io_I Rest) (ja_X11_written 0) (ja_X13_written 121) := fun S h => ⟨S.1 121 57, S, S, by rw [← h.2.2.2.2.1.2.2.2.1]; rfl, rfl, h⟩
theorem io_strays {Rest : nk_S → Prop} : jb_two (io_I Rest) (ja_X11_strays 0) (ja_X13_strays 121) := fun S h => ⟨S.1 121 62, S, S, by rw [← h.2.2.2.2.1.2.2.2.2.1]; rfl, rfl, h⟩
theorem io_faultAt {Rest : nk_S → Prop} : jb_two (io_I Rest) (ja_X11_faultAt 0) (ja_X13_faultAt 121) := fun S h => ⟨S.1 121 12, S, S, by rw [← h.2.2.1]; rfl, rfl, h⟩
theorem jb_pure {Inv : nk_S → Prop} {f g : nk_S → Option (Int × nk_S)} (h : ∀ S, Inv S → ∃ r, f S = some (r, S) ∧ g S = some (r, S)) : jb_two Inv f g := fun S hi => by
  obtain ⟨r, h1, h2⟩ := h S hi
  exact ⟨r, S, S, h1, h2, hi⟩
theorem io_out {Rest : nk_S → Prop} (a : Int32) : jb_two (io_I Rest) (ja_X11_out 0 a.toInt) (ja_X13_out 121 a.toInt) := by
  refine jb_pure (fun S h => ?_)
  obtain ⟨-, -, -, o4, -, o6⟩ := h.2.2.2.2.1
  simp only [ja_X11_out, ja_X13_out, jc_0_13, jc_113_18, jc_121_51, o4]
  by_cases h1 : a.toInt < 0
  · simp only [h1, if_true]; exact ⟨_, rfl, rfl⟩
  · simp only [h1, if_false]
    by_cases h2 : (256 : Int) ≤ a.toInt
    · simp only [h2, if_true]
      refine ⟨0, rfl, ?_⟩
      split <;> rfl
    · simp only [h2, if_false]
      by_cases h3 : a.toInt < S.1 121 57
      · refine ⟨S.1 249 a.toInt.toNat, ?_, ?_⟩
        · rw [if_pos h3, if_pos ⟨by omega, by omega⟩, o6 a.toInt.toNat (by omega) (by omega)]
        · rw [if_neg (by omega), if_pos ⟨by omega, by omega⟩]
      · refine ⟨0, ?_, ?_⟩
        · rw [if_neg h3]
        · rw [if_pos (by omega)]
section IOF
variable {Rest : nk_S → Prop} (hR : ∀ S S', io_g S S' → Rest S → Rest S')
theorem io_input (hR : ∀ S S', io_g S S' → Rest S → Rest S') (a : Int32) : jb_two (io_I Rest) (ja_X11_input 0 a.toInt) (ja_X13_input 121 a.toInt) := by
  intro S h
  obtain ⟨h1, h2, h3, h4, h5, h6⟩ := id h
  obtain ⟨i1, i2, i3, i4⟩ := id h4
  by_cases hc : S.1 121 55 < 256
  · have c1 : 0 ≤ S.1 121 55 ∧ S.1 121 55 < 256 := ⟨i2, hc⟩
    have c2 : nk_w (S.1 121 55 + 1) = S.1 121 55 + 1 := nk_w_id (by omega) (by omega)
    have c3 : ¬ S.1 121 55 = 256 := by omega
    refine ⟨1, nk_wi (nk_wi S 112 (S.1 121 55).toNat a.toInt) 0 12 (S.1 121 55 + 1), nk_wi (nk_wi (nk_wi (nk_wi S 112 (S.1 121 55).toNat a.toInt) 0 12 (S.1 121 55 + 1)) 248 (S.1 121 55).toNat a.toInt) 121 55 (S.1 121 55 + 1), ?_, ?_, ?_⟩
    · simp +decide only [ja_X11_input, jc_0_11, lt_eq, i1, hc, c1, c2, wi_v, if_true, and_self, if_false, false_and]
    · simp +decide only [ja_X13_input, jc_121_50, lt_eq, c1, c2, c3, wi_v, if_true, and_self, if_false, false_and]
    · refine ⟨?_, ?_, ?_, ?_, ?_, hR S _ ⟨rfl, fun b b0 b1 b2 b3 b4 b5 b6 b7 b8 => ?_, ?_, ?_, fun k hk => ?_, fun k hk => ?_⟩ h6⟩
      · unfold io_f at h1 ⊢; simp +decide only [wi_v, if_false, false_and] at h1 ⊢; exact h1
      · unfold io_t at h2 ⊢; simp +decide only [wi_v, if_false, false_and] at h2 ⊢; exact h2
      · simp +decide only [wi_v, if_false]; exact h3
      · unfold io_i
        simp +decide only [wi_v, if_false, if_true, false_and, true_and, and_self]
        refine ⟨by omega, by omega, fun k hk => ?_⟩
        have := i4 k hk
        by_cases e : k = (S.1 121 55).toNat
        · subst e
          rw [if_pos rfl, if_pos rfl, if_pos (by omega)]
        · simp only [e, if_false]
          rw [this]
          by_cases e2 : (k : Int) < S.1 121 55
          · rw [if_pos e2, if_pos (by omega)]
          · rw [if_neg e2, if_neg (by omega)]
      · unfold io_o at h5 ⊢; simp +decide only [wi_v, if_false, false_and] at h5 ⊢; exact h5
      · funext i; simp +decide only [wi_v, b0, b4, b5, b8, false_and, if_false]
      · simp +decide only [wi_v, if_false, false_and]
      · simp +decide only [wi_v, if_false, false_and]
      · simp +decide only [wi_v, false_and, if_false]
      · simp +decide only [wi_v, false_and, if_false]
  · have c3 : S.1 121 55 = 256 := by omega
    refine ⟨0, S, S, ?_, ?_, h⟩
    · simp only [ja_X11_input, i1, hc, if_false]
    · simp only [ja_X13_input, c3, if_true]
end IOF
