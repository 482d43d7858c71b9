/-! The bytes that both store are the same. -/
theorem fb_sh (x : BitVec 32) (s : Nat) (hs : s ≤ 24) : (x >>> s).signExtend 8 = (x.sshiftRight s).signExtend 8 := by
  refine BitVec.eq_of_getLsbD_eq (fun i hi => ?_)
  have h1 : i < 32 := by omega
  have h2 : s + i < 32 := by omega
  have h3 : ¬ 32 ≤ i := by omega
  rw [BitVec.getLsbD_signExtend, BitVec.getLsbD_signExtend, if_pos h1, if_pos h1, BitVec.getLsbD_ushiftRight, BitVec.getLsbD_sshiftRight, if_pos h2]
  simp [h3]
theorem fb_eq (w : Int32) : fb_c w 24 = fb_m w 24 ∧ fb_c w 16 = fb_m w 16 ∧ fb_c w 8 = fb_m w 8 ∧ fb_c w 0 = fb_m w 0 := by
  have k1 : (((w.toUInt32 >>> ((24 : Int32).toUInt32 &&& Int32.toUInt32 31)).toInt32).toInt8) = (w >>> ((24 : Int32) &&& 31)).toInt8 := Int8.toBitVec_inj.mp (fb_sh w.toBitVec 24 (by decide))
  have k2 : (((w.toUInt32 >>> ((16 : Int32).toUInt32 &&& Int32.toUInt32 31)).toInt32).toInt8) = (w >>> ((16 : Int32) &&& 31)).toInt8 := Int8.toBitVec_inj.mp (fb_sh w.toBitVec 16 (by decide))
  have k3 : (((w.toUInt32 >>> ((8 : Int32).toUInt32 &&& Int32.toUInt32 31)).toInt32).toInt8) = (w >>> ((8 : Int32) &&& 31)).toInt8 := Int8.toBitVec_inj.mp (fb_sh w.toBitVec 8 (by decide))
  have k4 : (((w.toUInt32 >>> ((0 : Int32).toUInt32 &&& Int32.toUInt32 31)).toInt32).toInt8) = (w >>> ((0 : Int32) &&& 31)).toInt8 := Int8.toBitVec_inj.mp (fb_sh w.toBitVec 0 (by decide))
  unfold fb_c fb_m
  rw [k1, k2, k3, k4]
  exact ⟨rfl, rfl, rfl, rfl⟩
