/-! Types: below and join in the class. -/
theorem shr_b {a p k : Nat} (h1 : 2 ^ p ≤ a) (h2 : a < 2 ^ (p + 1)) (hk : k ≤ p) : 2 ^ (p - k) ≤ a >>> k ∧ a >>> k < 2 ^ (p - k + 1) := by
  rw [Nat.shiftRight_eq_div_pow]
  have hp : 0 < 2 ^ k := Nat.two_pow_pos k
  refine ⟨(Nat.le_div_iff_mul_le hp).mpr ?_, (Nat.div_lt_iff_lt_mul hp).mpr ?_⟩
  · rw [← Nat.pow_add, Nat.sub_add_cancel hk]; exact h1
  · rw [← Nat.pow_add, show p - k + 1 + k = p + 1 by omega]; exact h2
theorem lt_p {a p k : Nat} (h1 : 2 ^ p ≤ a) (h2 : a < 2 ^ (p + 1)) : a < 2 ^ k ↔ p < k := by
  constructor
  · intro h
    exact (Nat.pow_lt_pow_iff_right (by decide)).mp (Nat.lt_of_le_of_lt h1 h)
  · intro h
    exact Nat.lt_of_lt_of_le h2 (Nat.pow_le_pow_right (by decide) h)
theorem nl73 {S : nk_S} {a p : Nat} {l : Int} (h1 : 2 ^ p ≤ a) (h2 : a < 2 ^ (p + 1)) (hp : p < 2) (hl : 0 ≤ l ∧ l < 32) : ja_J6_numberOfLeadingZeros_0f7a4_b73 (a : Int) l S = some (l - (p : Int), S) := by
  have ha : a < 4 := (lt_p (k := 2) h1 h2).mpr hp
  have e : a >>> 1 = p := by
    have h12 : p = 0 ∨ p = 1 := by omega
    rcases h12 with rfl | rfl
    · have : a = 1 := by have := h1; have := h2; simp at *; omega
      rw [this]; rfl
    · have : a = 2 ∨ a = 3 := by have := h1; have := h2; simp at *; omega
      rcases this with rfl | rfl <;> rfl
  unfold ja_J6_numberOfLeadingZeros_0f7a4_b73
  have u : nk_iushr (a : Int) 1 = ((a >>> 1 : Nat) : Int) := iushr_n (a := a) (k := 1) (by omega) (by omega)
  rw [u, e, nk_w_id (by omega) (by omega)]
theorem nl61 {S : nk_S} {a p : Nat} {l : Int} (h1 : 2 ^ p ≤ a) (h2 : a < 2 ^ (p + 1)) (hp : p < 4) (hl : 2 ≤ l ∧ l < 32) : ja_J6_numberOfLeadingZeros_0f7a4_b61 (a : Int) l S = some (l - (p : Int), S) := by
  have ha : a < 16 := (lt_p (k := 4) h1 h2).mpr hp
  unfold ja_J6_numberOfLeadingZeros_0f7a4_b61
  have k4 := lt_p (k := 2) h1 h2
  by_cases c : p < 2
  · have : a < 4 := k4.mpr c
    rw [if_pos (by omega)]; exact nl73 h1 h2 c ⟨by omega, hl.2⟩
  · have : ¬ a < 4 := fun h => c (k4.mp h)
    have u : nk_iushr (a : Int) 2 = ((a >>> 2 : Nat) : Int) := iushr_n (a := a) (k := 2) (by omega) (by omega)
    obtain ⟨s1, s2⟩ := shr_b (k := 2) h1 h2 (by omega)
    have w : nk_w (l + (-2)) = l - 2 := by rw [show l + (-2) = l - 2 by omega]; exact nk_w_id (by omega) (by omega)
    rw [if_neg (by omega), lt_eq, lt_eq, u, w]
    clear w
    rw [nl73 s1 s2 (by omega) ⟨by omega, by omega⟩]
    congr 2
    omega
theorem nl48 {S : nk_S} {a p : Nat} {l : Int} (h1 : 2 ^ p ≤ a) (h2 : a < 2 ^ (p + 1)) (hp : p < 8) (hl : 6 ≤ l ∧ l < 32) : ja_J6_numberOfLeadingZeros_0f7a4_b48 (a : Int) l S = some (l - (p : Int), S) := by
  have ha : a < 256 := (lt_p (k := 8) h1 h2).mpr hp
  unfold ja_J6_numberOfLeadingZeros_0f7a4_b48
  have k4 := lt_p (k := 4) h1 h2
  by_cases c : p < 4
  · have : a < 16 := k4.mpr c
    rw [if_pos (by omega)]; exact nl61 h1 h2 c ⟨by omega, hl.2⟩
  · have : ¬ a < 16 := fun h => c (k4.mp h)
    have u : nk_iushr (a : Int) 4 = ((a >>> 4 : Nat) : Int) := iushr_n (a := a) (k := 4) (by omega) (by omega)
    obtain ⟨s1, s2⟩ := shr_b (k := 4) h1 h2 (by omega)
    have w : nk_w (l + (-4)) = l - 4 := by rw [show l + (-4) = l - 4 by omega]; exact nk_w_id (by omega) (by omega)
    rw [if_neg (by omega), lt_eq, lt_eq, u, w]
    clear w
    rw [nl61 s1 s2 (by omega) ⟨by omega, by omega⟩]
    congr 2
    omega
theorem nl33 {S : nk_S} {a p : Nat} {l : Int} (h1 : 2 ^ p ≤ a) (h2 : a < 2 ^ (p + 1)) (hp : p < 16) (hl : 14 ≤ l ∧ l < 32) : ja_J6_numberOfLeadingZeros_0f7a4_b33 (a : Int) l S = some (l - (p : Int), S) := by
  have ha : a < 65536 := (lt_p (k := 16) h1 h2).mpr hp
  unfold ja_J6_numberOfLeadingZeros_0f7a4_b33
  have k4 := lt_p (k := 8) h1 h2
  by_cases c : p < 8
  · have : a < 256 := k4.mpr c
    rw [if_pos (by omega)]; exact nl48 h1 h2 c ⟨by omega, hl.2⟩
  · have : ¬ a < 256 := fun h => c (k4.mp h)
    have u : nk_iushr (a : Int) 8 = ((a >>> 8 : Nat) : Int) := iushr_n (a := a) (k := 8) (by omega) (by omega)
    obtain ⟨s1, s2⟩ := shr_b (k := 8) h1 h2 (by omega)
    have w : nk_w (l + (-8)) = l - 8 := by rw [show l + (-8) = l - 8 by omega]; exact nk_w_id (by omega) (by omega)
    rw [if_neg (by omega), lt_eq, lt_eq, u, w]
    clear w
    rw [nl48 s1 s2 (by omega) ⟨by omega, by omega⟩]
    congr 2
    omega
theorem nl_n {S : nk_S} {a p : Nat} (h1 : 2 ^ p ≤ a) (h2 : a < 2 ^ (p + 1)) (hp : p < 31) : ja_J6_numberOfLeadingZeros_0f7a4 (a : Int) S = some (31 - (p : Int), S) := by
  have ha : a < 2147483648 := (lt_p (k := 31) h1 h2).mpr hp
  have h0 : 0 < a := Nat.lt_of_lt_of_le (Nat.two_pow_pos p) h1
  unfold ja_J6_numberOfLeadingZeros_0f7a4
  rw [if_pos (by omega)]
  have k4 := lt_p (k := 16) h1 h2
  by_cases c : p < 16
  · have : a < 65536 := k4.mpr c
    rw [if_pos (by omega)]; exact nl33 h1 h2 c ⟨by omega, by omega⟩
  · have : ¬ a < 65536 := fun h => c (k4.mp h)
    have u : nk_iushr (a : Int) 16 = ((a >>> 16 : Nat) : Int) := iushr_n (a := a) (k := 16) (by omega) (by omega)
    obtain ⟨s1, s2⟩ := shr_b (k := 16) h1 h2 (by omega)
    have w : nk_w (31 + (-16)) = 15 := by decide
    rw [if_neg (by omega), lt_eq, lt_eq, u, w, nl33 s1 s2 (by omega) ⟨by omega, by omega⟩]
    congr 2
    omega
theorem nl_bv {S : nk_S} (x : BitVec 32) {p : Nat} (hp : p < 32) (h1 : x.getLsbD p = true) (h2 : ∀ q, p < q → q < 32 → x.getLsbD q = false) : ja_J6_numberOfLeadingZeros_0f7a4 x.toInt S = some (31 - (p : Int), S) := by
  have l1 : 2 ^ p ≤ x.toNat := Nat.ge_two_pow_of_testBit (by rw [BitVec.testBit_toNat]; exact h1)
  have l2 : x.toNat < 2 ^ (p + 1) := by
    refine Nat.lt_pow_two_of_testBit _ fun i hi => ?_
    rw [BitVec.testBit_toNat]
    by_cases c : i < 32
    · exact h2 i hi c
    · exact BitVec.getLsbD_of_ge x i (by omega)
  have hlt := x.isLt
  rw [BitVec.toInt_eq_toNat_cond]
  by_cases c : p = 31
  · subst c
    have l1' : 2147483648 ≤ x.toNat := l1
    rw [if_neg (by omega)]
    unfold ja_J6_numberOfLeadingZeros_0f7a4
    have hlt' : x.toNat < 4294967296 := hlt
    rw [if_neg (by omega), if_neg (by omega)]
    rfl
  · have l3 : x.toNat < 2147483648 := Nat.lt_of_lt_of_le l2 (Nat.pow_le_pow_right (n := 2) (j := 31) (by decide) (by omega))
    rw [if_pos (by omega)]
    exact nl_n l1 l2 (by omega)
theorem iand1 {t : Int} (h : 0 ≤ t ∧ t < 100) : nk_iand t 1 = t % 2 := by
  have e : nk_iand (t.toNat : Int) ((1 : Nat) : Int) = ((t.toNat &&& 1 : Nat) : Int) := iand_n (by omega) (by decide)
  rw [Nat.and_one_is_mod] at e
  have e2 : (t.toNat : Int) = t := by omega
  have e3 : ((1 : Nat) : Int) = 1 := rfl
  rw [e2, e3] at e
  rw [e]
  omega
theorem cls_k : ∀ s : Nat, s < 100 → 4 ≤ s → nk_ishr (nk_w ((s : Int) - 4)) 1 = (((s - 4) / 2 : Nat) : Int) := by decide +kernel
theorem c_cls {S : nk_S} {t : Int} (h : 4 ≤ t ∧ t < 100) : ja_X1_classOf t S = some ((cl t : Int), S) := by
  have e := cls_k t.toNat (by omega) (by omega)
  have e2 : (t.toNat : Int) = t := by omega
  rw [e2] at e
  unfold ja_X1_classOf
  rw [e]
  unfold cl
  congr 2
  omega
section TYC
variable {us : List Int}
theorem mk_bv {S : nk_S} {Q : Nat} (hK : cU S Q us) (hu : uOk us) (h32 : us.length ≤ 32) : ∀ n j, j < n → j < us.length → ∃ x : BitVec 32, S.1 (Q + 3) j = x.toInt ∧ ∀ d, d < 32 → x.getLsbD d = anc us j d := by
  obtain ⟨c1, c5, c6, c7⟩ := hK
  intro n
  induction n with
  | zero => intro j h; omega
  | succ n ih =>
    intro j h1 h2
    by_cases q : j = 0
    · subst q
      refine ⟨1#32, c6, fun d hd => ?_⟩
      rw [anc_0 hu, BitVec.getLsbD_one]
      by_cases e : d = 0
      · subst e; rfl
      · rw [decide_eq_false e, decide_eq_false (show ¬ 0 = d from fun x => e x.symm)]; rfl
    · obtain ⟨u, u1, u2, u3⟩ := c7 j (by omega) h2
      obtain ⟨x, x1, x2⟩ := ih u (by omega) (by omega)
      refine ⟨x ||| ((1#32) <<< j), ?_, fun d hd => ?_⟩
      · rw [u3, x1, ishl_1 j (by omega), ior_bv]
      · rw [anc_s hu (by omega) (by omega) (by omega) u1, BitVec.getLsbD_or, x2 d hd, BitVec.getLsbD_shiftLeft, BitVec.getLsbD_one]
        by_cases e : j = d
        · subst e; simp [hd]
        · rw [decide_eq_false e]
          by_cases e2 : d < j
          · simp [e2]
          · have : ¬ d - j = 0 := by omega
            simp [this]
theorem c_ab {S : nk_S} {Q : Nat} (hQ : Q = 13 ∨ Q = 49) (hK : cU S Q us) (hu : uOk us) (h32 : us.length ≤ 32) {j d : Nat} (hj : j < us.length) (hd : d < 32) : ja_X1_isAbove (Q + 1) (d : Int) (j : Int) S = some (bi (anc us j d), S) := by
  obtain ⟨x, x1, x2⟩ := mk_bv hK hu h32 _ j (Nat.lt_succ_self j) hj
  unfold ja_X1_isAbove
  rw [if_pos (in_i (N := 32) (by omega)), (jc_Q hQ).2.2, Int.toNat_natCast, x1]
  cases h : anc us j d with
  | false => rw [if_pos ((bit_d x d hd).mpr (by rw [x2 d hd]; exact h))]; rfl
  | true =>
    rw [if_neg (fun e => ?_)]
    · rfl
    · have := (bit_d x d hd).mp e
      rw [x2 d hd, h] at this
      cases this
theorem c_isBe {S : nk_S} {Q : Nat} (hQ : Q = 13 ∨ Q = 49) (hK : cU S Q us) (hu : uOk us) (h32 : us.length ≤ 32) {s t : Int} (vs : tV us s) (vt : tV us t) : ja_X1_isBelow (Q + 1) s t S = some (bi (tLe us s t), S) := by
  have vs' := vs
  have vt' := vt
  unfold tV at vs' vt'
  unfold ja_X1_isBelow tLe
  by_cases c1 : s = t
  · rw [if_pos c1, if_pos c1]; rfl
  rw [if_neg c1, if_neg c1]
  by_cases c2 : t = 0
  · rw [if_pos c2, if_pos c2]; rfl
  rw [if_neg c2, if_neg c2]
  by_cases c3 : s < 2
  · rw [if_pos c3, if_pos c3]; rfl
  rw [if_neg c3, if_neg c3]
  by_cases c4 : 2 < t
  · rw [if_pos c4, if_pos c4]
    by_cases c5 : s = 2
    · rw [if_pos c5, if_pos c5]; rfl
    rw [if_neg c5, if_neg c5]
    by_cases c6 : t = 4
    · rw [if_pos c6, if_pos c6]; rfl
    rw [if_neg c6, if_neg c6]
    by_cases c7 : s = 3
    · rw [if_pos c7, if_pos c7]; rfl
    rw [if_neg c7, if_neg c7]
    by_cases c8 : t = 3
    · rw [if_pos c8, if_pos c8]; rfl
    rw [if_neg c8, if_neg c8, iand1 (by omega), iand1 (by omega)]
    by_cases c9 : s % 2 = t % 2
    · rw [if_pos c9, if_pos c9, c_cls (by omega), bd_some, c_cls (by omega), bd_some]
      have l1 := cl_lt vs (by omega)
      have l2 := cl_lt vt (by omega)
      rw [c_ab hQ hK hu h32 l1 (by omega), bd_some]
      cases anc us (cl s) (cl t) <;> rfl
    · rw [if_neg c9, if_neg c9]; rfl
  · rw [if_neg c4, if_neg c4]; rfl
theorem c_join {S : nk_S} {Q : Nat} (hQ : Q = 13 ∨ Q = 49) (hK : cU S Q us) (hu : uOk us) (h32 : us.length ≤ 32) {s t : Int} (vs : tV us s) (vt : tV us t) : ja_X1_join (Q + 1) s t S = some (tJn us s t, S) := by
  have vs' := vs
  have vt' := vt
  unfold tV at vs' vt'
  unfold ja_X1_join tJn
  by_cases c1 : s = t
  · rw [if_pos c1, if_pos c1]
  rw [if_neg c1, if_neg c1]
  by_cases c3 : s < 2
  · rw [if_pos c3, if_pos c3]
  rw [if_neg c3, if_neg c3]
  by_cases c4 : 2 ≤ t
  · rw [if_pos c4, if_pos c4]
    by_cases c5 : s = 2
    · rw [if_pos c5, if_pos c5]
    rw [if_neg c5, if_neg c5]
    by_cases c6 : t = 2
    · rw [if_pos c6, if_pos c6]
    rw [if_neg c6, if_neg c6]
    by_cases c7 : s = 3
    · rw [if_pos c7, if_pos c7]
    rw [if_neg c7, if_neg c7]
    by_cases c8 : t = 3
    · rw [if_pos c8, if_pos c8]
    rw [if_neg c8, if_neg c8, iand1 (by omega), iand1 (by omega)]
    by_cases c9 : s % 2 = t % 2
    · have l1 := cl_lt vs (by omega)
      have l2 := cl_lt vt (by omega)
      rw [if_pos c9, if_pos c9, c_cls (by omega), bd_some, if_pos (in_i (N := 32) (by omega)), c_cls (by omega), bd_some, if_pos (in_i (N := 32) (by omega)), (jc_Q hQ).2.2, Int.toNat_natCast, Int.toNat_natCast]
      obtain ⟨x, x1, x2⟩ := mk_bv hK hu h32 _ (cl s) (Nat.lt_succ_self _) l1
      obtain ⟨y, y1, y2⟩ := mk_bv hK hu h32 _ (cl t) (Nat.lt_succ_self _) l2
      obtain ⟨k1, k2, k3, k4⟩ := lca_k hu h32 l1 l2
      rw [x1, y1, lt_eq, iand_bv, nl_bv (p := lca us (cl s) (cl t)) (x &&& y) (by omega) (by rw [BitVec.getLsbD_and, x2 _ (by omega), y2 _ (by omega), k1, k2]; rfl) (fun q q1 q2 => ?_), bd_some]
      · have w1 : nk_w (31 - (31 - (lca us (cl s) (cl t) : Int))) = (lca us (cl s) (cl t) : Int) := by rw [show (31 : Int) - (31 - (lca us (cl s) (cl t) : Int)) = (lca us (cl s) (cl t) : Int) by omega]; exact nk_w_id (by omega) (by omega)
        have w2 : nk_w (2 * (lca us (cl s) (cl t) : Int)) = 2 * (lca us (cl s) (cl t) : Int) := nk_w_id (by omega) (by omega)
        have w3 : nk_w (4 + 2 * (lca us (cl s) (cl t) : Int)) = 4 + 2 * (lca us (cl s) (cl t) : Int) := nk_w_id (by omega) (by omega)
        have w4 : nk_w (4 + 2 * (lca us (cl s) (cl t) : Int) + s % 2) = 4 + 2 * (lca us (cl s) (cl t) : Int) + s % 2 := nk_w_id (by omega) (by omega)
        rw [w1, w2, w3, w4]
      · rw [BitVec.getLsbD_and, x2 q q2, y2 q q2]
        cases h1 : anc us (cl s) q with
        | false => rfl
        | true =>
          cases h2 : anc us (cl t) q with
          | false => rfl
          | true =>
            have := anc_le hu h32 _ _ _ (Nat.lt_succ_self _) (by omega) (k4 q h1 h2)
            omega
    · rw [if_neg c9, if_neg c9]
  · rw [if_neg c4, if_neg c4]
end TYC
