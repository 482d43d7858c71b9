/-! The class's longs: their bits. -/
def lb (x : Int) (j : Nat) : Bool := (Int64.ofInt x).toBitVec.getLsbD j
/-- a long -/
def lR (x : Int) : Prop := -9223372036854775808 ≤ x ∧ x < 9223372036854775808
theorem lb_and (x y : Int) (j : Nat) : lb (nk_land x y) j = (lb x j && lb y j) := by
  unfold lb nk_land
  rw [Int64.ofInt_toInt, Int64.toBitVec_and, BitVec.getLsbD_and]
theorem lb_or (x y : Int) (j : Nat) : lb (nk_lor x y) j = (lb x j || lb y j) := by
  unfold lb nk_lor
  rw [Int64.ofInt_toInt, Int64.toBitVec_or, BitVec.getLsbD_or]
theorem lb_xor (x y : Int) (j : Nat) : lb (nk_lxor x y) j = (lb x j ^^ lb y j) := by
  unfold lb nk_lxor
  rw [Int64.ofInt_toInt, Int64.toBitVec_xor, BitVec.getLsbD_xor]
theorem lR_i (x : Int64) : lR x.toInt := by
  have h1 := Int64.le_toInt x
  have h2 := Int64.toInt_lt x
  unfold lR
  omega
theorem lR_and (x y : Int) : lR (nk_land x y) := lR_i _
theorem lR_or (x y : Int) : lR (nk_lor x y) := lR_i _
theorem lR_xor (x y : Int) : lR (nk_lxor x y) := lR_i _
theorem lR_shl (x y : Int) : lR (nk_lshl x y) := lR_i _
theorem lR_shr (x y : Int) : lR (nk_lshr x y) := lR_i _
theorem lR_ushr (x y : Int) : lR (nk_lushr x y) := lR_i _
theorem lb_hi (x : Int) {j : Nat} (h : 64 ≤ j) : lb x j = false := BitVec.getLsbD_of_ge _ _ h
theorem lI {x : Int} (h : lR x) : (Int64.ofInt x).toInt = x := by
  rw [Int64.toInt_ofInt]
  unfold lR at h
  exact Int.bmod_eq_of_le (by show -(9223372036854775808 : Int) ≤ x; omega) (by show x < (9223372036854775808 : Int); omega)
theorem lb_ext {x y : Int} (hx : lR x) (hy : lR y) (h : ∀ j, j < 64 → lb x j = lb y j) : x = y := by
  have : (Int64.ofInt x).toBitVec = (Int64.ofInt y).toBitVec := BitVec.eq_of_getLsbD_eq (fun i hi => h i hi)
  have e : Int64.ofInt x = Int64.ofInt y := Int64.toBitVec_inj.mp this
  rw [← lI hx, ← lI hy, e]
theorem lb_n (c j : Nat) : lb (c : Int) j = (decide (j < 64) && c.testBit j) := by
  unfold lb
  rw [Int64.toBitVec_ofInt, BitVec.ofInt_natCast, BitVec.getLsbD_ofNat]
theorem sh_n : ∀ n : Nat, n < 64 → ((Int32.ofInt (n : Int)).toInt64 &&& 63).toBitVec.smod 64 = BitVec.ofNat 64 n := by decide +kernel
theorem sh_u : ∀ n : Nat, n < 64 → ((Int32.ofInt (n : Int)).toInt64.toUInt64 &&& Int64.toUInt64 63).toBitVec % 64 = BitVec.ofNat 64 n := by decide +kernel
theorem lb_shl {x : Int} {n : Nat} (hn : n < 64) (j : Nat) : lb (nk_lshl x (n : Int)) j = (decide (j < 64) && (!decide (j < n) && lb x (j - n))) := by
  unfold lb nk_lshl
  rw [Int64.ofInt_toInt, Int64.toBitVec_shiftLeft, sh_n n hn, BitVec.shiftLeft_eq', BitVec.toNat_ofNat, Nat.mod_eq_of_lt (by omega), BitVec.getLsbD_shiftLeft, Bool.and_assoc]
theorem lb_ushr {x : Int} {n : Nat} (hn : n < 64) (j : Nat) : lb (nk_lushr x (n : Int)) j = lb x (n + j) := by
  unfold lb nk_lushr
  rw [Int64.ofInt_toInt]
  show (((Int64.ofInt x).toUInt64 >>> ((Int32.ofInt (n : Int)).toInt64.toUInt64 &&& Int64.toUInt64 63))).toBitVec.getLsbD j = _
  rw [UInt64.toBitVec_shiftRight, sh_u n hn, BitVec.ushiftRight_eq', BitVec.toNat_ofNat, Nat.mod_eq_of_lt (by omega), BitVec.getLsbD_ushiftRight]
  rfl
theorem lb_m1 (j : Nat) (h : j < 64) : lb (-1) j = true := by
  have : ∀ j : Nat, j < 64 → lb (-1) j = true := by decide +kernel
  exact this j h
theorem lb_0 (j : Nat) : lb 0 j = false := by
  have := lb_n 0 j
  rw [Nat.zero_testBit, Bool.and_false] at this
  exact this
/-- a set as a long -/
def cV (x : Int) (s : Nat → Bool) : Prop := lR x ∧ ∀ j, j < 64 → lb x j = s j
theorem cV_u {x y : Int} {s : Nat → Bool} (h : cV x s) (k : cV y s) : x = y := lb_ext h.1 k.1 (fun j hj => by rw [h.2 j hj, k.2 j hj])
theorem cV_and {x y : Int} {s t : Nat → Bool} (h : cV x s) (k : cV y t) : cV (nk_land x y) (sAnd s t) := ⟨lR_and _ _, fun j hj => by rw [lb_and, h.2 j hj, k.2 j hj]; rfl⟩
theorem cV_or {x y : Int} {s t : Nat → Bool} (h : cV x s) (k : cV y t) : cV (nk_lor x y) (sOr s t) := ⟨lR_or _ _, fun j hj => by rw [lb_or, h.2 j hj, k.2 j hj]; rfl⟩
def sNo (s : Nat → Bool) : Nat → Bool := fun j => !s j
theorem cV_not {x : Int} {s : Nat → Bool} (h : cV x s) : cV (nk_lxor x (-1)) (sNo s) := ⟨lR_xor _ _, fun j hj => by
  rw [lb_xor, h.2 j hj, lb_m1 j hj]
  unfold sNo
  cases s j <;> rfl⟩
theorem cV_0 : cV 0 noS := ⟨by unfold lR; omega, fun j _ => by rw [lb_0]; rfl⟩
theorem cV_z {x : Int} {s : Nat → Bool} (h : cV x s) : x = 0 ↔ ∀ j, j < 64 → s j = false := by
  constructor
  · intro e j hj
    rw [e] at h
    rw [← h.2 j hj, lb_0]
  · intro e
    exact lb_ext h.1 (by unfold lR; omega) (fun j hj => by rw [h.2 j hj, lb_0, e j hj])
theorem cV_one {n : Nat} (hn : n < 64) : cV (nk_lshl 1 (n : Int)) (onS n) := by
  refine ⟨lR_shl _ _, fun j hj => ?_⟩
  rw [lb_shl hn, decide_eq_true hj, Bool.true_and]
  have e1 : ∀ i, lb 1 i = (decide (i < 64) && Nat.testBit 1 i) := fun i => lb_n 1 i
  rw [e1]
  unfold onS
  by_cases c : j = n
  · subst c
    rw [decide_eq_false (by omega), Nat.sub_self, decide_eq_true rfl]; rfl
  · rw [decide_eq_false c]
    by_cases d : j < n
    · rw [decide_eq_true d]; rfl
    · cases hq : Nat.testBit 1 (j - n) with
      | false => rw [Bool.and_false, Bool.and_false]
      | true =>
        have := Nat.testBit_one_eq_true_iff_self_eq_zero.mp hq
        omega
theorem cV_c {x : Int} {s : Nat → Bool} {y : Int} (h : cV x s) (e : x = y) : cV y s := by rw [← e]; exact h
/-! a range as a long -/
def pk (r : jR) : Int := r.1 * 4294967296 + r.2 % 4294967296
def iR (x : Int) : Prop := -2147483648 ≤ x ∧ x ≤ 2147483647
theorem bm_c {a c : Int} (h : a % 18446744073709551616 = c % 18446744073709551616) : a.bmod (2 ^ 64) = c.bmod (2 ^ 64) := by
  rw [Int.bmod_def, Int.bmod_def, show ((2 ^ 64 : Nat) : Int) = 18446744073709551616 by decide, h]
theorem lshl32 {x : Int} (h : iR x) : nk_lshl x 32 = x * 4294967296 := by
  unfold nk_lshl iR at *
  have : (Int64.ofInt x <<< ((Int32.ofInt (32 : Int)).toInt64 &&& 63)).toInt = (x * 4294967296).bmod (2 ^ 64) := by
    rw [show ((Int32.ofInt (32 : Int)).toInt64 &&& 63) = 32 by decide +kernel]
    rw [← Int64.toInt_toBitVec, Int64.toBitVec_shiftLeft]
    rw [show (32 : Int64).toBitVec.smod 64 = BitVec.ofNat 64 32 by decide +kernel, BitVec.shiftLeft_eq', show (BitVec.ofNat 64 32).toNat = 32 by decide, BitVec.toInt_shiftLeft, Int64.toBitVec_ofInt, BitVec.toNat_ofInt, Nat.shiftLeft_eq]
    apply bm_c
    rw [show ((2 ^ 64 : Nat) : Int) = 18446744073709551616 by decide]
    omega
  rw [this]
  exact Int.bmod_eq_of_le (by show -(9223372036854775808 : Int) ≤ _; omega) (by show _ < (9223372036854775808 : Int); omega)
def uN (x : Int) : Nat := (x % 18446744073709551616).toNat
theorem uN_b (x : Int) : (Int64.ofInt x).toBitVec.toNat = uN x := by
  rw [Int64.toBitVec_ofInt, BitVec.toNat_ofInt]
  rfl
theorem i64_n (y : Int64) : y.toInt = ((y.toBitVec.toNat : Nat) : Int).bmod (2 ^ 64) := by
  rw [← Int64.toInt_toBitVec, BitVec.toInt_eq_toNat_bmod]
theorem lor_n (x y : Int) : nk_lor x y = ((uN x ||| uN y : Nat) : Int).bmod (2 ^ 64) := by
  unfold nk_lor
  rw [i64_n, Int64.toBitVec_or, BitVec.toNat_or, uN_b, uN_b]
theorem land_n (x y : Int) : nk_land x y = ((uN x &&& uN y : Nat) : Int).bmod (2 ^ 64) := by
  unfold nk_land
  rw [i64_n, Int64.toBitVec_and, BitVec.toNat_and, uN_b, uN_b]
theorem bm_id {a : Int} (h : lR a) : a.bmod (2 ^ 64) = a := by
  unfold lR at h
  exact Int.bmod_eq_of_le (by show -(9223372036854775808 : Int) ≤ _; omega) (by show _ < (9223372036854775808 : Int); omega)
theorem land32 (x : Int) : nk_land x 4294967295 = x % 4294967296 := by
  rw [land_n, show uN 4294967295 = 2 ^ 32 - 1 by decide, Nat.and_two_pow_sub_one_eq_mod, show (2 : Nat) ^ 32 = 4294967296 by decide]
  have e : ((uN x % 4294967296 : Nat) : Int) = x % 4294967296 := by unfold uN; omega
  rw [e, bm_id (by unfold lR; omega)]
theorem pk_e {l h : Int} (hl : iR l) : nk_lor (nk_lshl l 32) (nk_land h 4294967295) = pk (l, h) := by
  rw [lshl32 hl, land32, lor_n]
  unfold iR at hl
  have e1 : uN (l * 4294967296) = 2 ^ 32 * (l % 4294967296).toNat := by
    unfold uN
    rw [show (2 : Nat) ^ 32 = 4294967296 by decide]
    omega
  have e2 : uN (h % 4294967296) = (h % 4294967296).toNat := by unfold uN; omega
  rw [e1, e2, ← Nat.two_pow_add_eq_or_of_lt (by show (h % 4294967296).toNat < 4294967296; omega), show (2 : Nat) ^ 32 = 4294967296 by decide]
  unfold pk
  dsimp only
  have e3 : l * 4294967296 + h % 4294967296 = (l * 4294967296 + h % 4294967296).bmod (2 ^ 64) := (bm_id (by unfold lR; omega)).symm
  rw [e3]
  apply bm_c
  omega
theorem lshr32 {x : Int} (h : lR x) : nk_lshr x 32 = x / 4294967296 := by
  unfold nk_lshr
  rw [show ((Int32.ofInt (32 : Int)).toInt64 &&& 63) = 32 by decide +kernel]
  rw [← Int64.toInt_toBitVec, Int64.toBitVec_shiftRight, show (32 : Int64).toBitVec.smod 64 = BitVec.ofNat 64 32 by decide +kernel, BitVec.sshiftRight_eq', BitVec.toInt_sshiftRight, Int64.toInt_toBitVec, lI h, Int.shiftRight_eq_div_pow]
  rfl
theorem nw_c {a c : Int} (h : a % 4294967296 = c % 4294967296) : nk_w a = nk_w c := by
  unfold nk_w
  rw [Int.bmod_def, Int.bmod_def, show ((2 ^ 32 : Nat) : Int) = 4294967296 by decide, h]
theorem pk_lR {r : jR} (h1 : iR r.1) : lR (pk r) := by
  unfold iR at h1
  unfold lR pk
  omega
theorem pk_lo {r : jR} (h1 : iR r.1) : nk_w (nk_lshr (pk r) 32) = r.1 := by
  rw [lshr32 (pk_lR h1)]
  unfold iR at h1
  have : pk r / 4294967296 = r.1 := by unfold pk; omega
  rw [this]
  exact nk_w_id (by omega) (by omega)
theorem pk_hi {r : jR} (h2 : iR r.2) : nk_w (pk r) = r.2 := by
  unfold iR at h2
  rw [show nk_w (pk r) = nk_w r.2 from nw_c (by unfold pk; omega)]
  exact nk_w_id (by omega) (by omega)
theorem pk_inj {r s : jR} (h1 : iR r.1) (h2 : iR r.2) (k1 : iR s.1) (k2 : iR s.2) (h : pk r = pk s) : r = s := by
  have e1 := pk_lo h1
  have e2 := pk_hi h2
  rw [h, pk_lo k1] at e1
  rw [h, pk_hi k2] at e2
  exact Prod.ext e1.symm e2.symm
