/-! The class takes the first instruction that waits. -/
/-- the first bit -/
def lwB (s : Nat → Bool) (p : Nat) : Prop := s p = true ∧ ∀ k, k < p → s k = false
theorem lb_neg (x : Int) {j : Nat} (hj : j < 64) : lb (nk_W (-x)) j = (lb x j ^^ decide (∃ k, k < j ∧ lb x k = true)) := by
  have e : (Int64.ofInt (nk_W (-x))).toBitVec = -(Int64.ofInt x).toBitVec := by
    have e1 : Int64.ofInt (nk_W (-x)) = -Int64.ofInt x := by
      rw [← Int64.ofInt_neg]
      apply Int64.toInt_inj.mp
      rw [Int64.toInt_ofInt, Int64.toInt_ofInt]
      unfold nk_W
      exact Int.bmod_bmod
    rw [e1, Int64.toBitVec_neg]
  unfold lb
  rw [e, BitVec.getLsbD_neg, decide_eq_true hj, Bool.true_and]
theorem c_low {x : Int} {s : Nat → Bool} (h : cV x s) {p : Nat} (hp : p < 64) (hl : lwB s p) (S : nk_S) : ∃ y, ja_J13_lowestOneBit_067f4 x S = some (y, S) ∧ cV y (onS p) := by
  refine ⟨_, rfl, lR_and _ _, fun j hj => ?_⟩
  rw [lb_and, lb_neg x hj, h.2 j hj]
  unfold onS
  by_cases c : j = p
  · rw [c, hl.1, decide_eq_true rfl, decide_eq_false]
    · rfl
    · rintro ⟨k, k1, k2⟩
      rw [h.2 k (by omega), hl.2 k k1] at k2
      cases k2
  · rw [decide_eq_false c]
    cases hs : s j with
    | false => rfl
    | true =>
      have hj' : p < j := by
        by_cases q : p < j
        · exact q
        · have := hl.2 j (by omega)
          rw [hs] at this; cases this
      rw [decide_eq_true (⟨p, hj', by rw [h.2 p hp]; exact hl.1⟩ : ∃ k, k < j ∧ lb x k = true)]
      rfl
/-! trailing zeros -/
def ib (x : Int) (j : Nat) : Bool := (Int32.ofInt x).toBitVec.getLsbD j
theorem ib_lb (x : Int) {j : Nat} (hj : j < 32) : ib x j = lb x j := by
  unfold ib lb
  rw [Int32.toBitVec_ofInt, Int64.toBitVec_ofInt]
  rw [BitVec.getLsbD, BitVec.getLsbD, BitVec.toNat_ofInt, BitVec.toNat_ofInt]
  have e : (x % ((2 ^ 32 : Nat) : Int)).toNat = (x % ((2 ^ 64 : Nat) : Int)).toNat % 2 ^ 32 := by
    rw [show ((2 ^ 32 : Nat) : Int) = 4294967296 by decide, show ((2 ^ 64 : Nat) : Int) = 18446744073709551616 by decide, show (2 : Nat) ^ 32 = 4294967296 by decide]
    omega
  rw [e, Nat.testBit_mod_two_pow, decide_eq_true hj, Bool.true_and]
theorem ib_w (x : Int) (j : Nat) : ib (nk_w x) j = ib x j := by
  unfold ib
  have : Int32.ofInt (nk_w x) = Int32.ofInt x := by
    apply Int32.toInt_inj.mp
    rw [Int32.toInt_ofInt, Int32.toInt_ofInt]
    unfold nk_w
    exact Int.bmod_bmod
  rw [this]
theorem tz_n (S : nk_S) : ∀ p : Nat, p < 32 → (if 0 < ((2 ^ p - 1 : Nat) : Int) then (if ((2 ^ p - 1 : Nat) : Int) ≤ 65536 then ja_J6_numberOfTrailingZeros_0f7a4_b34 ((2 ^ p - 1 : Nat) : Int) 1 S else nk_lt (nk_w (1 + 16)) fun v3 => nk_lt (nk_iushr ((2 ^ p - 1 : Nat) : Int) 16) fun v5 => ja_J6_numberOfTrailingZeros_0f7a4_b34 v5 v3 S) else some ((nk_iand ((2 ^ p - 1 : Nat) : Int) 32), S)) = some ((p : Int), S) := by
  intro p hp
  have h : p = 0 ∨ p = 1 ∨ p = 2 ∨ p = 3 ∨ p = 4 ∨ p = 5 ∨ p = 6 ∨ p = 7 ∨ p = 8 ∨ p = 9 ∨ p = 10 ∨ p = 11 ∨ p = 12 ∨ p = 13 ∨ p = 14 ∨ p = 15 ∨ p = 16 ∨ p = 17 ∨ p = 18 ∨ p = 19 ∨ p = 20 ∨ p = 21 ∨ p = 22 ∨ p = 23 ∨ p = 24 ∨ p = 25 ∨ p = 26 ∨ p = 27 ∨ p = 28 ∨ p = 29 ∨ p = 30 ∨ p = 31 := by omega
  rcases h with q | q | q | q | q | q | q | q | q | q | q | q | q | q | q | q | q | q | q | q | q | q | q | q | q | q | q | q | q | q | q | q <;> (subst q; rfl)
theorem tz_i {x : Int} {p : Nat} (hp : p < 32) (h1 : ib x p = true) (h2 : ∀ k, k < p → ib x k = false) (S : nk_S) : ja_J6_numberOfTrailingZeros_0f7a4 x S = some ((p : Int), S) := by
  have e : nk_iand (nk_ixor x (-1)) (nk_w (x - 1)) = ((2 ^ p - 1 : Nat) : Int) := by
    unfold nk_iand nk_ixor
    rw [Int32.ofInt_toInt]
    have e1 : Int32.ofInt (nk_w (x - 1)) = Int32.ofInt x - 1 := by
      have : Int32.ofInt (nk_w (x - 1)) = Int32.ofInt (x - 1) := by
        apply Int32.toInt_inj.mp
        rw [Int32.toInt_ofInt, Int32.toInt_ofInt]
        unfold nk_w
        exact Int.bmod_bmod
      rw [this, Int32.ofInt_sub]
      rfl
    have e2 : Int32.ofInt (-1) = -1 := by decide
    rw [e1, e2, i32_n]
    have e3 : ((Int32.ofInt x ^^^ -1) &&& (Int32.ofInt x - 1)).toBitVec = BitVec.ofNat 32 (2 ^ p - 1) := by
      rw [Int32.toBitVec_and, Int32.toBitVec_xor, Int32.toBitVec_sub]
      apply BitVec.eq_of_getLsbD_eq
      intro j hj
      rw [BitVec.getLsbD_and, BitVec.getLsbD_xor, BitVec.getLsbD_ofNat]
      have n1 : (-1 : Int32).toBitVec.getLsbD j = true := by
        have : (-1 : Int32).toBitVec = BitVec.allOnes 32 := by decide
        rw [this, BitVec.getLsbD_allOnes, decide_eq_true hj]
      have n2 : ((Int32.ofInt x).toBitVec - (1 : Int32).toBitVec).getLsbD j = !(ib x j ^^ decide (∃ k, k < j ∧ ib x k = true)) := by
        have : (Int32.ofInt x).toBitVec - (1 : Int32).toBitVec = ~~~(-(Int32.ofInt x).toBitVec) := by
          rw [BitVec.not_neg]; rfl
        rw [this, BitVec.getLsbD_not, decide_eq_true hj, Bool.true_and, BitVec.getLsbD_neg, decide_eq_true hj, Bool.true_and]
        rfl
      rw [n1, n2]
      show ((ib x j ^^ true) && !(ib x j ^^ decide (∃ k, k < j ∧ ib x k = true))) = (decide (j < 32) && (2 ^ p - 1).testBit j)
      rw [decide_eq_true hj, Bool.true_and, Nat.testBit_two_pow_sub_one]
      by_cases c : j < p
      · rw [h2 j c, decide_eq_true c, decide_eq_false]
        · rfl
        · rintro ⟨k, k1, k2⟩
          rw [h2 k (by omega)] at k2; cases k2
      · rw [decide_eq_false c]
        cases hb : ib x j with
        | true => rfl
        | false =>
          have : p < j := by
            by_cases q : p = j
            · rw [← q, h1] at hb; cases hb
            · omega
          rw [decide_eq_true (⟨p, this, h1⟩ : ∃ k, k < j ∧ ib x k = true)]
          rfl
    rw [e3, BitVec.toNat_ofNat]
    have hb : 2 ^ p ≤ 2 ^ 31 := Nat.pow_le_pow_right (by decide) (by omega)
    have hb1 := Nat.one_le_two_pow (n := p)
    have h31 : (2 : Nat) ^ 31 = 2147483648 := by decide
    have h32 : (2 : Nat) ^ 32 = 4294967296 := by decide
    rw [Nat.mod_eq_of_lt (by omega)]
    exact Int.bmod_eq_of_le (by show -(2147483648 : Int) ≤ _; omega) (by show _ < (2147483648 : Int); omega)
  unfold ja_J6_numberOfTrailingZeros_0f7a4
  rw [lt_eq, e]
  exact tz_n S p hp
theorem c_tz {x : Int} {s : Nat → Bool} (h : cV x s) {p : Nat} (hp : p < 64) (hl : lwB s p) (S : nk_S) : ja_J13_numberOfTrailingZeros_95d88 x S = some ((p : Int), S) := by
  unfold ja_J13_numberOfTrailingZeros_95d88
  rw [lt_eq]
  have hz : nk_w x = 0 ↔ ∀ j, j < 32 → s j = false := by
    constructor
    · intro e j hj
      have := ib_w x j
      rw [e] at this
      rw [← h.2 j (by omega), ← ib_lb x hj, ← this]
      unfold ib
      have : Int32.ofInt 0 = 0 := by decide
      rw [this]
      exact BitVec.getLsbD_zero
    · intro e
      have : Int32.ofInt (nk_w x) = Int32.ofInt 0 := by
        apply Int32.toBitVec_inj.mp
        apply BitVec.eq_of_getLsbD_eq
        intro j hj
        have e1 := ib_w x j
        unfold ib at e1
        rw [e1]
        have e2 := ib_lb x hj
        unfold ib at e2
        rw [e2, h.2 j (by omega), e j hj]
        have : Int32.ofInt 0 = 0 := by decide
        rw [this]
        exact BitVec.getLsbD_zero.symm
      have h2 := congrArg Int32.toInt this
      rw [Int32.toInt_ofInt, Int32.toInt_ofInt] at h2
      unfold nk_w at h2 ⊢
      rw [Int.bmod_bmod] at h2
      exact h2
  by_cases c : p < 32
  · rw [if_neg (fun e => by have := hz.mp e p c; rw [hl.1] at this; cases this), tz_i c (by rw [ib_w, ib_lb x c, h.2 p hp]; exact hl.1) (fun k hk => by rw [ib_w, ib_lb x (by omega), h.2 k (by omega)]; exact hl.2 k hk), bd_some]
  · have e32 : ∀ j, j < 32 → ib (nk_w (nk_lushr x 32)) j = s (32 + j) := by
      intro j hj
      have := lb_ushr (x := x) (n := 32) (by decide) j
      have this : lb (nk_lushr x 32) j = lb x (32 + j) := this
      rw [ib_w, ib_lb _ hj, this, h.2 _ (by omega)]
    rw [if_pos (hz.mpr (fun j hj => hl.2 j (by omega))), tz_i (p := p - 32) (by omega) (by rw [e32 _ (by omega), show 32 + (p - 32) = p by omega]; exact hl.1) (fun k hk => by rw [e32 k (by omega)]; exact hl.2 _ (by omega)), bd_some]
    rw [show (32 : Int) + ((p - 32 : Nat) : Int) = ((p : Nat) : Int) by omega, nk_w_id (by omega) (by omega)]
theorem ishl6 : ∀ w : Nat, w < 17 → nk_ishl (w : Int) 6 = ((w * 64 : Nat) : Int) := by decide +kernel
theorem lw_ex {s : Nat → Bool} {n : Nat} (h : ∃ j, j < n ∧ s j = true) : ∃ p, p < n ∧ lwB s p := by
  induction n with
  | zero => obtain ⟨j, h1, -⟩ := h; omega
  | succ n ih =>
    by_cases c : ∃ j, j < n ∧ s j = true
    · obtain ⟨p, p1, p2⟩ := ih c
      exact ⟨p, by omega, p2⟩
    · obtain ⟨j, h1, h2⟩ := h
      have hj : j = n := by
        by_cases q : j < n
        · exact absurd ⟨j, q, h2⟩ c
        · omega
      refine ⟨n, by omega, by rw [← hj]; exact h2, fun k hk => ?_⟩
      cases q : s k with
      | false => rfl
      | true => exact absurd ⟨k, hk, q⟩ c
/-- the answer: the first that waits from there on -/
def cTk (S : nk_S) (W : Nat → Bool) (f : Nat) (o : Option (Int × nk_S)) : Prop := ((∀ i, f ≤ i → i < 1024 → W i = false) ∧ o = some (-1, S)) ∨ ∃ i S', f ≤ i ∧ i < 1024 ∧ W i = true ∧ (∀ k, f ≤ k → k < i → W k = false) ∧ o = some ((i : Int), S') ∧ S'.2 = S.2 ∧ (∀ a, a ≠ 97 → S'.1 a = S.1 a) ∧ cWt S' (fun k => if k = i then false else W k)
theorem c_takeL {S : nk_S} {W : Nat → Bool} (hW : cWt S W) : ∀ (d w t m : Nat) (b : Int), w + d = 16 → t < 64 → (∀ j, j < 64 → lb b j = decide (t ≤ j)) → d < m → cTk S W (w * 64 + t) (ja_X7_takeWaiting_L15 m 93 b (w : Int) S) := by
  intro d
  induction d with
  | zero =>
    intro w t m b h1 h2 h3 h4
    obtain ⟨m, rfl⟩ : ∃ q, m = q + 1 := ⟨m - 1, by omega⟩
    left
    refine ⟨fun i a c => by omega, ?_⟩
    show ja_X7_takeWaiting_b15 (ja_X7_takeWaiting_L15 m) 93 b (w : Int) S = _
    unfold ja_X7_takeWaiting_b15
    rw [if_pos (by omega)]
  | succ d ih =>
    intro w t m b h1 h2 h3 h4
    obtain ⟨m, rfl⟩ : ∃ q, m = q + 1 := ⟨m - 1, by omega⟩
    have hc : cV (nk_land b (S.1 97 w)) (fun j => decide (t ≤ j) && W (w * 64 + j)) := by
      refine ⟨lR_and _ _, fun j hj => ?_⟩
      have := hW.2 (w * 64 + j) (by omega)
      rw [show (w * 64 + j) / 64 = w by omega, show (w * 64 + j) % 64 = j by omega] at this
      rw [lb_and, h3 j hj, this]
    have e0 : ja_X7_takeWaiting_L15 (m + 1) 93 b (w : Int) S = if nk_land b (S.1 97 w) = 0 then ja_X7_takeWaiting_L15 m 93 (-1) ((w + 1 : Nat) : Int) S else nk_bd (ja_J13_lowestOneBit_067f4 (nk_land b (S.1 97 w)) S) fun r7 S8 => nk_lt (nk_wi S8 97 w (nk_lxor (S.1 97 w) r7)) fun S10 => nk_bd (ja_J13_numberOfTrailingZeros_95d88 (nk_land b (S.1 97 w)) S10) fun r12 S13 => some ((nk_w ((nk_ishl (w : Int) 6) + r12)), S13) := by
      show ja_X7_takeWaiting_b15 (ja_X7_takeWaiting_L15 m) 93 b (w : Int) S = _
      unfold ja_X7_takeWaiting_b15
      rw [if_neg (by omega), if_pos (in_i (N := 16) (by omega)), lt_eq, jc_93_3, Int.toNat_natCast, w_nat1 (by omega)]
      rfl
    rw [e0]
    by_cases z : nk_land b (S.1 97 w) = 0
    · rw [if_pos z]
      have hz := (cV_z hc).mp z
      have hno : ∀ i, w * 64 + t ≤ i → i < (w + 1) * 64 → W i = false := by
        intro i a c
        have := hz (i - w * 64) (by omega)
        rw [decide_eq_true (show t ≤ i - w * 64 by omega), Bool.true_and, show w * 64 + (i - w * 64) = i by omega] at this
        exact this
      rcases ih (w + 1) 0 m (-1) (by omega) (by omega) (fun j hj => by rw [lb_m1 j hj, decide_eq_true (Nat.zero_le _)]) (by omega) with ⟨q1, q2⟩ | ⟨i, S', q1, q2, q3, q4, q5⟩
      · left
        refine ⟨fun i a c => ?_, q2⟩
        by_cases e : i < (w + 1) * 64
        · exact hno i a e
        · exact q1 i (by omega) c
      · right
        refine ⟨i, S', by omega, q2, q3, fun k a c => ?_, q5⟩
        by_cases e : k < (w + 1) * 64
        · exact hno k a e
        · exact q4 k (by omega) c
    · rw [if_neg z]
      obtain ⟨p, p1, p2⟩ := lw_ex (s := fun j => decide (t ≤ j) && W (w * 64 + j)) (n := 64) (by
        by_cases c : ∃ j, j < 64 ∧ (fun j => decide (t ≤ j) && W (w * 64 + j)) j = true
        · exact c
        · exfalso
          apply z
          refine (cV_z hc).mpr (fun j hj => ?_)
          cases q : (fun j => decide (t ≤ j) && W (w * 64 + j)) j with
          | false => exact q
          | true => exact absurd ⟨j, hj, q⟩ c)
      obtain ⟨y, y1, y2⟩ := c_low hc p1 p2 S
      rw [y1, bd_some, lt_eq, c_tz hc p1 p2, bd_some, ishl6 w (by omega), wiadd (by omega)]
      have hp := p2.1
      dsimp only at hp
      rw [Bool.and_eq_true] at hp
      have htp := of_decide_eq_true hp.1
      right
      refine ⟨w * 64 + p, _, by omega, by omega, hp.2, fun k a c => ?_, rfl, rfl, fun a ha => by rw [wi_n ha], fun k hk => ?_, fun k hk => ?_⟩
      · have := p2.2 (k - w * 64) (by omega)
        dsimp only at this
        rw [decide_eq_true (show t ≤ k - w * 64 by omega), Bool.true_and, show w * 64 + (k - w * 64) = k by omega] at this
        exact this
      · rw [wi_at]
        split
        · exact lR_xor _ _
        · exact hW.1 k hk
      · rw [wi_at]
        dsimp only
        by_cases c : k / 64 = w
        · rw [if_pos c, lb_xor, ← c, hW.2 k hk, y2.2 (k % 64) (by omega)]
          unfold onS
          by_cases e : k = w * 64 + p
          · rw [if_pos (by omega), decide_eq_true (by omega)]
            rw [show k = w * 64 + p from e, hp.2]; rfl
          · rw [if_neg (by omega), decide_eq_false (by omega)]
            cases W k <;> rfl
        · rw [if_neg c, if_neg (by omega)]
          exact hW.2 k hk
theorem c_take {S : nk_S} {W : Nat → Bool} (hW : cWt S W) {f : Nat} (hf : f ≤ 1024) : cTk S W f (ja_X7_takeWaiting 93 (f : Int) S) := by
  obtain ⟨bm, hbm⟩ := big_ge 100 (by decide)
  have h63 : nk_iand (f : Int) 63 = ((f % 64 : Nat) : Int) := by rw [iand63]; omega
  have := c_takeL hW (16 - f / 64) (f / 64) (f % 64) nk_big (nk_lshl (-1) (nk_iand (f : Int) 63)) (by omega) (by omega) (fun j hj => by
    rw [h63, lb_shl (by omega), decide_eq_true hj, Bool.true_and]
    by_cases c : f % 64 ≤ j
    · rw [decide_eq_true c, decide_eq_false (by omega), lb_m1 _ (by omega)]; rfl
    · rw [decide_eq_false c, decide_eq_true (by omega)]; rfl) (by omega)
  rw [show f / 64 * 64 + f % 64 = f by omega] at this
  unfold ja_X7_takeWaiting
  rw [lt_eq, lt_eq, ishr6 (by omega)]
  exact this
