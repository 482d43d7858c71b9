/-! What words look like: names, numbers; the class's side. -/
def ltr (c : Int) : Bool := decide (97 ≤ c ∧ c ≤ 122 ∨ 65 ≤ c ∧ c ≤ 90)
def alc (c : Int) : Bool := ltr c || decide (c = 95 ∨ 48 ≤ c ∧ c ≤ 57)
/-- 1 a name, 2 a class's name, 0 neither -/
def nmS (l : List Int) : Int := if l.length ≤ 24 then (match l with
  | [] => 0
  | c :: r => if (ltr c && r.all alc) = true then (if c < 97 then 2 else 1) else 0) else 0
theorem sg_cons (g : Nat → Int) {p t : Nat} (h : p < t) : sg g p t = g p :: sg g (p + 1) t := by
  unfold sg
  rw [show t - p = (t - (p + 1)) + 1 by omega, List.range_succ_eq_map]
  simp only [List.map_cons, List.map_map, Nat.add_zero]
  congr 1
  refine List.map_congr_left (fun i _ => ?_)
  show g (p + (i + 1)) = g (p + 1 + i)
  congr 1; omega
theorem sg_nil (g : Nat → Int) {p t : Nat} (h : t ≤ p) : sg g p t = [] := by
  unfold sg; rw [show t - p = 0 by omega]; rfl
theorem ns_63 {rec17 : Nat → Int → Int → Int → nk_S → Option (Int × nk_S)} {l1 l2 l3 c : Int} {S : nk_S} : (if c < 97 then ja_X10_nameShape_b44 rec17 2 l1 l2 l3 c S else if c ≤ 122 then ja_X10_nameShape_b58 rec17 2 l1 l2 l3 c S else ja_X10_nameShape_b44 rec17 2 l1 l2 l3 c S) = ja_X10_nameShape_b63 rec17 2 l1 l2 l3 c (bi (ltr c)) S := by
  unfold ja_X10_nameShape_b44 ja_X10_nameShape_b58 ja_X10_nameShape_b62 ltr
  by_cases h1 : c < 97
  · rw [if_pos h1]
    by_cases h2 : c < 65
    · rw [if_pos h2, decide_eq_false (by omega)]; rfl
    · rw [if_neg h2]
      by_cases h3 : 90 < c
      · rw [if_pos h3, decide_eq_false (by omega)]; rfl
      · rw [if_neg h3, decide_eq_true (by omega)]; rfl
  · rw [if_neg h1]
    by_cases h2 : c ≤ 122
    · rw [if_pos h2, decide_eq_true (by omega)]; rfl
    · rw [if_neg h2, if_neg (by omega), if_pos (by omega), decide_eq_false (by omega)]; rfl
theorem ns_L {S : nk_S} {f t : Nat} (hft : f < t) (ht : t ≤ 16512) : ∀ (d m p : Nat), p + d = t → f < p → d < m → ja_X10_nameShape_L17 m 2 (f : Int) (t : Int) (p : Int) S = some ((if (sg (S.1 3) p t).all alc = true then (if S.1 3 f < 97 then 2 else 1) else 0 : Int), S) := by
  intro d
  induction d with
  | zero =>
    intro m p h1 h2 h3
    obtain ⟨m, rfl⟩ : ∃ q, m = q + 1 := ⟨m - 1, by omega⟩
    show ja_X10_nameShape_b17 (ja_X10_nameShape_L17 m) 2 _ _ _ S = _
    unfold ja_X10_nameShape_b17
    rw [if_pos (by omega), if_pos (in_i (N := 16512) (by omega)), jc_2_0, Int.toNat_natCast, sg_nil _ (by omega)]
    by_cases q : S.1 3 f < 97
    · rw [if_pos q, if_pos (show ([] : List Int).all alc = true from rfl), if_pos q]
    · rw [if_neg q, if_pos (show ([] : List Int).all alc = true from rfl), if_neg q]
  | succ d ih =>
    intro m p h1 h2 h3
    obtain ⟨m, rfl⟩ : ∃ q, m = q + 1 := ⟨m - 1, by omega⟩
    show ja_X10_nameShape_b17 (ja_X10_nameShape_L17 m) 2 _ _ _ S = _
    unfold ja_X10_nameShape_b17
    rw [if_neg (by omega), if_pos (in_i (N := 16512) (by omega)), lt_eq, jc_2_0, Int.toNat_natCast, ns_63, sg_cons _ (show p < t by omega), List.all_cons]
    have ih1 := ih m (p + 1) (by omega) (by omega) (by omega)
    have hne : ¬ (p : Int) = (f : Int) := by omega
    unfold ja_X10_nameShape_b63 alc
    have hw : nk_w ((p : Int) + 1) = ((p + 1 : Nat) : Int) := w_nat1 (by omega)
    rw [hw]
    simp only [lt_eq]
    rw [ih1]
    cases hl : ltr (S.1 3 p) with
    | true => rw [if_neg (show ¬ bi true = 0 by decide)]; simp only [Bool.true_or, Bool.true_and]; rfl
    | false =>
      rw [if_pos (show bi false = 0 from rfl), if_neg hne]
      simp only [Bool.false_or]
      by_cases q1 : S.1 3 p = 95
      · rw [if_pos q1, decide_eq_true (Or.inl q1)]; simp only [Bool.true_and]; rfl
      · rw [if_neg q1]
        by_cases q2 : S.1 3 p < 48
        · rw [if_pos q2, decide_eq_false (by omega)]; rfl
        · rw [if_neg q2]
          by_cases q3 : S.1 3 p ≤ 57
          · rw [if_pos q3, decide_eq_true (by omega)]; simp only [Bool.true_and]; rfl
          · rw [if_neg q3, decide_eq_false (by omega)]; rfl
theorem ns_c {S : nk_S} {f t : Nat} (hf : f ≤ 16513) (ht : t ≤ 16512) : ja_X10_nameShape 2 (f : Int) (t : Int) S = some (nmS (sg (S.1 3) f t), S) := by
  unfold ja_X10_nameShape nmS
  by_cases h1 : (t : Int) ≤ (f : Int)
  · rw [if_pos h1, sg_nil _ (by omega)]; rfl
  · rw [if_neg h1, w_sub (by omega) (by omega), sg_len]
    by_cases h2 : t - f ≤ 24
    · rw [if_pos (by omega), if_pos h2, sg_cons _ (show f < t by omega)]
      obtain ⟨m, hm⟩ := big_ge 20000 (by omega)
      rw [show nk_big = (m + 19999) + 1 by omega]
      show ja_X10_nameShape_b17 (ja_X10_nameShape_L17 (m + 19999)) 2 _ _ _ S = _
      unfold ja_X10_nameShape_b17
      rw [if_neg (by omega), if_pos (in_i (N := 16512) (by omega)), lt_eq, jc_2_0, Int.toNat_natCast, ns_63]
      unfold ja_X10_nameShape_b63
      cases hl : ltr (S.1 3 f) with
      | true =>
        rw [if_neg (show ¬ bi true = 0 by decide), lt_eq, w_nat1 (by omega), ns_L (by omega) ht (t - (f + 1)) _ (f + 1) (by omega) (by omega) (by omega)]
        simp only [hl, Bool.true_and]
      | false =>
        rw [if_pos (show bi false = 0 from rfl), if_pos rfl]
        simp only [hl, Bool.false_and, Bool.false_eq_true, if_false]
    · rw [if_neg (by omega), if_neg h2]
/-! numbers -/
def dgt (c : Int) : Bool := decide (48 ≤ c ∧ c ≤ 57)
def nv (v : Int) (l : List Int) : Int := l.foldl (fun v c => v * 10 + (c - 48)) v
def nbody (l : List Int) : List Int := match l with
  | c :: r => if c = 45 then r else c :: r
  | [] => []
def nneg (l : List Int) : Bool := match l with
  | c :: _ => decide (c = 45)
  | [] => false
def nval (l : List Int) : Int := if nneg l = true then -(nv 0 (nbody l)) else nv 0 (nbody l)
def isNum (l : List Int) : Bool := decide (1 ≤ (nbody l).length ∧ (nbody l).length ≤ 10 ∧ (nbody l).all dgt = true ∧ -2147483648 ≤ nval l ∧ nval l ≤ 2147483647)
theorem nk_W_id {z : Int} (h1 : -9223372036854775808 ≤ z) (h2 : z < 9223372036854775808) : nk_W z = z := Int.bmod_eq_of_le (by omega) (by omega)
theorem nk_w_rg (z : Int) : -2147483648 ≤ nk_w z ∧ nk_w z ≤ 2147483647 := by
  have h1 := Int.le_bmod (x := z) (m := 2 ^ 32) (by decide)
  have h2 := Int.bmod_lt (x := z) (m := 2 ^ 32) (by decide)
  exact ⟨h1, Int.le_of_lt_add_one h2⟩
theorem p10 {k : Nat} (h : k ≤ 10) : (1 : Int) ≤ 10 ^ k ∧ (10 : Int) ^ k ≤ 10000000000 := by
  match k, h with
  | 0, _ | 1, _ | 2, _ | 3, _ | 4, _ | 5, _ | 6, _ | 7, _ | 8, _ | 9, _ | 10, _ => exact ⟨by decide, by decide⟩
theorem p10s (k : Nat) : (10 : Int) ^ (k + 1) = 10 * 10 ^ k := by rw [Int.pow_succ, Int.mul_comm]
theorem na_L {S : nk_S} {t : Nat} {q : Int} (ht : t ≤ 16512) : ∀ (d m p k : Nat) (v : Int), p + d = t → d < m → k + d ≤ 10 → 0 ≤ v → v < 10 ^ k → (sg (S.1 3) p t).all dgt = true → ja_X10_numberAt_L33 m 2 (t : Int) q v (p : Int) S = some ((if q = 0 then nv v (sg (S.1 3) p t) else -(nv v (sg (S.1 3) p t)) : Int), S) ∧ 0 ≤ nv v (sg (S.1 3) p t) ∧ nv v (sg (S.1 3) p t) < 10 ^ (k + d) := by
  intro d
  induction d with
  | zero =>
    intro m p k v h1 h2 h3 h4 h5 h6
    obtain ⟨m, rfl⟩ : ∃ q, m = q + 1 := ⟨m - 1, by omega⟩
    have hp := p10 (show k ≤ 10 by omega)
    rw [sg_nil _ (by omega)]
    refine ⟨?_, h4, h5⟩
    show ja_X10_numberAt_b33 (ja_X10_numberAt_L33 m) 2 _ _ _ _ S = _
    unfold ja_X10_numberAt_b33
    rw [if_pos (by omega), nk_W_id (by omega) (by omega)]
    by_cases hq : q = 0
    · rw [if_pos hq, if_pos hq]; rfl
    · rw [if_neg hq, if_neg hq]; rfl
  | succ d ih =>
    intro m p k v h1 h2 h3 h4 h5 h6
    obtain ⟨m, rfl⟩ : ∃ q, m = q + 1 := ⟨m - 1, by omega⟩
    have hp := p10 (show k + 1 ≤ 10 by omega)
    have hps := p10s k
    rw [sg_cons _ (show p < t by omega)] at h6 ⊢
    rw [List.all_cons, Bool.and_eq_true] at h6
    have hd := h6.1
    unfold dgt at hd
    rw [decide_eq_true_eq] at hd
    have i1 : 0 ≤ v * 10 + (S.1 3 p - 48) := by omega
    have i2 : v * 10 + (S.1 3 p - 48) < 10 ^ (k + 1) := by omega
    have ih1 := ih m (p + 1) (k + 1) (v * 10 + (S.1 3 p - 48)) (by omega) (by omega) (by omega) i1 i2 h6.2
    rw [show k + (d + 1) = k + 1 + d by omega]
    refine ⟨?_, ih1.2⟩
    rw [show nv v (S.1 3 p :: sg (S.1 3) (p + 1) t) = nv (v * 10 + (S.1 3 p - 48)) (sg (S.1 3) (p + 1) t) from rfl, ← ih1.1]
    show ja_X10_numberAt_b33 (ja_X10_numberAt_L33 m) 2 _ _ _ _ S = _
    unfold ja_X10_numberAt_b33
    rw [if_neg (by omega), if_pos (in_i (N := 16512) (by omega)), lt_eq, lt_eq, jc_2_0, Int.toNat_natCast, nk_W_id (z := v * 10) (by omega) (by omega), nk_w_id (z := S.1 3 p - 48) (by omega) (by omega), nk_W_id (by omega) (by omega), w_nat1 (by omega)]
theorem sg_body {g : Nat → Int} {f t : Nat} (h : f < t) : nbody (sg g f t) = if g f = 45 then sg g (f + 1) t else sg g f t := by
  rw [sg_cons g h]; rfl
theorem sg_neg {g : Nat → Int} {f t : Nat} (h : f < t) : nneg (sg g f t) = decide (g f = 45) := by
  rw [sg_cons g h]; rfl
theorem na_c {S : nk_S} {f t : Nat} (hft : f < t) (ht : t ≤ 16512) (hl : (nbody (sg (S.1 3) f t)).length ≤ 10) (hd : (nbody (sg (S.1 3) f t)).all dgt = true) : ja_X10_numberAt 2 (f : Int) (t : Int) S = some (nval (sg (S.1 3) f t), S) ∧ -10000000000 < nval (sg (S.1 3) f t) ∧ nval (sg (S.1 3) f t) < 10000000000 := by
  unfold ja_X10_numberAt ja_X10_numberAt_b16 nval
  rw [sg_neg hft]
  rw [sg_body hft] at hl hd ⊢
  rw [if_pos (in_i (N := 16512) (by omega)), jc_2_0, Int.toNat_natCast]
  by_cases hc : S.1 3 f = 45
  · simp only [hc, if_true, decide_true] at hl hd ⊢
    rw [sg_len] at hl
    rw [if_neg (by decide), lt_eq, w_nat1 (by omega)]
    obtain ⟨e1, e2, e3⟩ := na_L (S := S) (q := 1) ht (t - (f + 1)) nk_big (f + 1) 0 0 (by omega) (by unfold nk_big; omega) (by omega) (by omega) (by decide) hd
    have := p10 (show 0 + (t - (f + 1)) ≤ 10 by omega)
    rw [e1, if_neg (by decide)]
    exact ⟨rfl, by omega, by omega⟩
  · simp only [hc, if_false, decide_false, Bool.false_eq_true] at hl hd ⊢
    rw [sg_len] at hl
    obtain ⟨e1, e2, e3⟩ := na_L (S := S) (q := 0) ht (t - f) nk_big f 0 0 (by omega) (by unfold nk_big; omega) (by omega) (by omega) (by decide) hd
    have := p10 (show 0 + (t - f) ≤ 10 by omega)
    rw [if_pos trivial, e1, if_pos rfl]
    exact ⟨rfl, by omega, by omega⟩
theorem in_L {S : nk_S} {f t : Nat} (ht : t ≤ 16512) : ∀ (d m p : Nat), p + d = t → d < m → ja_X10_isNumber_L39 m 2 (f : Int) (t : Int) (p : Int) S = if (sg (S.1 3) p t).all dgt = true then nk_bd (ja_X10_numberAt 2 (f : Int) (t : Int) S) (fun r1 S2 => if r1 = nk_w r1 then some (1, S2) else some (0, S2)) else some (0, S) := by
  intro d
  induction d with
  | zero =>
    intro m p h1 h2
    obtain ⟨m, rfl⟩ : ∃ q, m = q + 1 := ⟨m - 1, by omega⟩
    rw [sg_nil _ (by omega), if_pos (show ([] : List Int).all dgt = true from rfl)]
    show ja_X10_isNumber_b39 (ja_X10_isNumber_L39 m) 2 _ _ _ S = _
    unfold ja_X10_isNumber_b39
    rw [if_pos (by omega)]
  | succ d ih =>
    intro m p h1 h2
    obtain ⟨m, rfl⟩ : ∃ q, m = q + 1 := ⟨m - 1, by omega⟩
    rw [sg_cons _ (show p < t by omega), List.all_cons]
    have ih1 := ih m (p + 1) (by omega) (by omega)
    show ja_X10_isNumber_b39 (ja_X10_isNumber_L39 m) 2 _ _ _ S = _
    unfold ja_X10_isNumber_b39 dgt
    rw [if_neg (by omega), if_pos (in_i (N := 16512) (by omega)), jc_2_0, Int.toNat_natCast]
    by_cases q1 : S.1 3 p < 48
    · rw [if_pos q1, decide_eq_false (by omega)]; rfl
    · rw [if_neg q1]
      by_cases q2 : S.1 3 p ≤ 57
      · rw [if_pos q2, lt_eq, w_nat1 (by omega), ih1, decide_eq_true (by omega)]; rfl
      · rw [if_neg q2, decide_eq_false (by omega)]; rfl
theorem in_c {S : nk_S} {f t : Nat} (hft : f < t) (ht : t ≤ 16512) : ja_X10_isNumber 2 (f : Int) (t : Int) S = some (bi (isNum (sg (S.1 3) f t)), S) := by
  obtain ⟨b, hb1, hb2, hb3⟩ : ∃ b : Nat, f ≤ b ∧ nbody (sg (S.1 3) f t) = sg (S.1 3) b t ∧ ja_X10_isNumber 2 (f : Int) (t : Int) S = ja_X10_isNumber_b18 2 (f : Int) (t : Int) (b : Int) S ∧ b ≤ t := by
    unfold ja_X10_isNumber
    rw [if_pos (in_i (N := 16512) (by omega)), jc_2_0, Int.toNat_natCast, sg_body hft]
    by_cases hc : S.1 3 f = 45
    · rw [if_pos hc, if_pos hc, w_nat1 (by omega)]; exact ⟨f + 1, by omega, rfl, rfl, by omega⟩
    · rw [if_neg hc, if_neg hc]; exact ⟨f, by omega, rfl, rfl, by omega⟩
  rw [hb3.1]
  unfold ja_X10_isNumber_b18 isNum
  rw [w_sub hb3.2 (by omega), hb2, sg_len]
  by_cases c1 : t - b < 1
  · rw [if_pos (by omega), decide_eq_false (by omega)]; rfl
  · rw [if_neg (by omega)]
    by_cases c2 : t - b ≤ 10
    · rw [if_pos (by omega), in_L ht (t - b) nk_big b (by omega) (by unfold nk_big; omega)]
      by_cases c3 : (sg (S.1 3) b t).all dgt = true
      · obtain ⟨e1, e2, e3⟩ := na_c (S := S) hft ht (by rw [hb2, sg_len]; exact c2) (by rw [hb2]; exact c3)
        rw [if_pos c3, e1, bd_some]
        by_cases hr : -2147483648 ≤ nval (sg (S.1 3) f t) ∧ nval (sg (S.1 3) f t) ≤ 2147483647
        · rw [decide_eq_true ⟨by omega, c2, c3, hr⟩, if_pos (nk_w_id (by omega) (by omega)).symm]; rfl
        · rw [decide_eq_false (fun h => hr h.2.2.2), if_neg (fun e => hr ?_)]
          · rfl
          · have h1 := nk_w_rg (nval (sg (S.1 3) f t))
            rw [← e] at h1
            exact h1
      · rw [if_neg c3, decide_eq_false (fun h => c3 h.2.2.1)]; rfl
    · rw [if_neg (by omega), decide_eq_false (by omega)]; rfl
