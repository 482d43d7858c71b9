/-! The class's masks of the classes above. -/
theorem ior_bv (x y : BitVec 32) : nk_ior x.toInt y.toInt = (x ||| y).toInt := by
  show (Int32.ofInt (Int32.ofBitVec x).toInt ||| Int32.ofInt (Int32.ofBitVec y).toInt).toInt = _
  rw [Int32.ofInt_toInt, Int32.ofInt_toInt]
  rfl
theorem iand_bv (x y : BitVec 32) : nk_iand x.toInt y.toInt = (x &&& y).toInt := by
  show (Int32.ofInt (Int32.ofBitVec x).toInt &&& Int32.ofInt (Int32.ofBitVec y).toInt).toInt = _
  rw [Int32.ofInt_toInt, Int32.ofInt_toInt]
  rfl
theorem ishl_1 : ∀ j : Nat, j < 32 → nk_ishl 1 (j : Int) = ((1#32) <<< j).toInt := by decide +kernel
theorem iushr_k : ∀ d : Nat, d < 32 → ((Int32.ofInt (d : Int)).toUInt32 &&& Int32.toUInt32 31) = UInt32.ofNat d := by decide +kernel
theorem iushr_bv (x : BitVec 32) (d : Nat) (hd : d < 32) : nk_iushr x.toInt (d : Int) = (x >>> d).toInt := by
  unfold nk_iushr
  rw [iushr_k d hd]
  show (((Int32.ofInt (Int32.ofBitVec x).toInt).toUInt32 >>> UInt32.ofNat d).toInt32).toInt = _
  rw [Int32.ofInt_toInt]
  have e : ((Int32.ofBitVec x).toUInt32 >>> UInt32.ofNat d).toBitVec = x >>> d := by
    rw [UInt32.toBitVec_shiftRight]
    show x >>> ((UInt32.ofNat d).toBitVec % 32).toNat = x >>> d
    congr 1
    have : (UInt32.ofNat d).toBitVec.toNat = d := by
      rw [UInt32.toNat_toBitVec, UInt32.toNat_ofNat']
      omega
    rw [BitVec.toNat_umod, this]
    show d % 32 = d
    omega
  show (((Int32.ofBitVec x).toUInt32 >>> UInt32.ofNat d).toBitVec).toInt = _
  rw [e]
theorem bit0 (y : BitVec 32) : nk_iand y.toInt 1 = 0 ↔ y.getLsbD 0 = false := by
  show nk_iand y.toInt (1#32).toInt = (0#32).toInt ↔ _
  rw [iand_bv, BitVec.toInt_inj]
  constructor
  · intro h
    have := congrArg (fun z => z.getLsbD 0) h
    simpa using this
  · intro h
    refine BitVec.eq_of_getLsbD_eq (fun i hi => ?_)
    rw [BitVec.getLsbD_and, BitVec.getLsbD_one]
    by_cases q : i = 0
    · subst q; rw [h]; simp
    · simp [q]
theorem bit_d (x : BitVec 32) (d : Nat) (hd : d < 32) : nk_iand (nk_iushr x.toInt (d : Int)) 1 = 0 ↔ x.getLsbD d = false := by
  rw [iushr_bv x d hd, bit0, BitVec.getLsbD_ushiftRight, Nat.add_zero]
theorem mask_bv {S : nk_S} {Q c : Nat} {ns : List (List Int)} {us : List Int} (hK : cC S Q c ns us) (hu : uOk us) : ∀ n j, j < n → j < ns.length → ∃ x : BitVec 32, S.1 (Q + 3) j = x.toInt ∧ ∀ d, d < 32 → x.getLsbD d = anc us j d := by
  obtain ⟨c1, c2, c3, c4, c5, c6, c7, c8⟩ := hK
  intro n
  induction n with
  | zero => intro j h; omega
  | succ n ih =>
    intro j h1 h2
    by_cases q : j = 0
    · subst q
      refine ⟨1#32, c6, fun d hd => ?_⟩
      rw [anc_0 hu, BitVec.getLsbD_one]
      by_cases e : d = 0
      · subst e; rfl
      · rw [decide_eq_false e, decide_eq_false (show ¬ 0 = d from fun x => e x.symm)]; rfl
    · obtain ⟨u, u1, u2, u3⟩ := c7 j (by omega) h2
      obtain ⟨x, x1, x2⟩ := ih u (by omega) (by omega)
      refine ⟨x ||| ((1#32) <<< j), ?_, fun d hd => ?_⟩
      · rw [u3, x1, ishl_1 j (by omega), ior_bv]
      · rw [anc_s hu (by omega) (by omega) (by omega) u1, BitVec.getLsbD_or, x2 d hd, BitVec.getLsbD_shiftLeft, BitVec.getLsbD_one]
        by_cases e : j = d
        · subst e; simp [hd]
        · rw [decide_eq_false e]
          by_cases e2 : d < j
          · simp [e2]
          · have : ¬ d - j = 0 := by omega
            simp [this]
theorem c_above {S : nk_S} {Q c : Nat} (hQ : Q = 13 ∨ Q = 49) {ns : List (List Int)} {us : List Int} (hK : cC S Q c ns us) (hu : uOk us) {j d : Nat} (hj : j < ns.length) (hd : d < 32) : ja_X1_isAbove (Q + 1) (d : Int) (j : Int) S = some (bi (anc us j d), S) := by
  obtain ⟨x, x1, x2⟩ := mask_bv hK hu _ j (Nat.lt_succ_self j) hj
  have := hK.2.2.1
  unfold ja_X1_isAbove
  rw [if_pos (in_i (N := 32) (by omega)), (jc_Q hQ).2.2, Int.toNat_natCast, x1]
  cases h : anc us j d with
  | false => rw [if_pos ((bit_d x d hd).mpr (by rw [x2 d hd]; exact h))]; rfl
  | true =>
    rw [if_neg (fun e => ?_)]
    · rfl
    · have := (bit_d x d hd).mp e
      rw [x2 d hd, h] at this
      cases this
