/-! The bytes that both store are the same. -/
theorem fb_eq (w : Int32) : fb_c w 24 = fb_m w 24 ∧ fb_c w 16 = fb_m w 16 ∧ fb_c w 8 = fb_m w 8 ∧ fb_c w 0 = fb_m w 0 := by
  have key : ∀ (s : Int32) (k : Nat), k ≤ 24 → (s.toUInt32 &&& Int32.toUInt32 31).toBitVec.toNat = k → (s &&& 31).toBitVec.toNat = k → (((w.toUInt32 >>> (s.toUInt32 &&& Int32.toUInt32 31)).toInt32).toInt8) = (w >>> (s &&& 31)).toInt8 := by
    intro s k hk h1 h2
    refine Int8.toBitVec_inj.mp ?_
    sorry
  unfold fb_c fb_m
  refine ⟨?_, ?_, ?_, ?_⟩
  · rw [key 24 24 (by decide) (by decide +kernel) (by decide +kernel)]
  · rw [key 16 16 (by decide) (by decide +kernel) (by decide +kernel)]
  · rw [key 8 8 (by decide) (by decide +kernel) (by decide +kernel)]
  · rw [key 0 0 (by decide) (by decide +kernel) (by decide +kernel)]
