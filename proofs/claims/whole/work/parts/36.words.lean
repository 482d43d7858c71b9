/-! The class's words: each is kept once, found by its hash. -/
/-- the bytes from f up to before t -/
def sg (g : Nat → Int) (f t : Nat) : List Int := (List.range (t - f)).map (fun i => g (f + i))
theorem sg_len (g : Nat → Int) (f t : Nat) : (sg g f t).length = t - f := by simp [sg]
theorem sg_get {g : Nat → Int} {f t i : Nat} (h : i < t - f) : (sg g f t)[i]? = some (g (f + i)) := by
  simp [sg, h]
theorem sg_eq {g h : Nat → Int} {f t f' t' : Nat} : sg g f t = sg h f' t' ↔ t - f = t' - f' ∧ ∀ i, i < t - f → g (f + i) = h (f' + i) := by
  constructor
  · intro e
    have e1 : t - f = t' - f' := by rw [← sg_len g f t, e, sg_len]
    refine ⟨e1, fun i hi => ?_⟩
    have e2 := sg_get (g := g) hi
    rw [e, sg_get (by omega)] at e2
    exact (Option.some.inj e2).symm
  · rintro ⟨e1, e2⟩
    unfold sg
    rw [← e1]
    exact List.map_congr_left (fun i hi => e2 i (List.mem_range.mp hi))
theorem w_nat {a i : Nat} (h : a + i < 2147483648) : nk_w ((a : Int) + (i : Int)) = ((a + i : Nat) : Int) := by
  rw [nk_w_id (by omega) (by omega)]; omega
theorem w_nat1 {a : Nat} (h : a + 1 < 2147483648) : nk_w ((a : Int) + 1) = ((a + 1 : Nat) : Int) := by
  rw [nk_w_id (by omega) (by omega)]; omega
theorem w_sub {a b : Nat} (hb : b ≤ a) (h : a < 2147483648) : nk_w ((a : Int) - (b : Int)) = ((a - b : Nat) : Int) := by
  rw [nk_w_id (by omega) (by omega)]; omega
theorem in_i {a : Nat} {N : Int} (h : (a : Int) < N) : 0 ≤ (a : Int) ∧ (a : Int) < N := ⟨by omega, h⟩
theorem iw_L {S : nk_S} {w a f n : Nat} (hw : w < 12288) (ha : S.1 5 w = (a : Int)) (h1 : a + n ≤ 16512) (h2 : f + n ≤ 16512) : ∀ (m i : Nat), i ≤ n → n < m + i → ∃ r : Int, ja_X10_isWord_L28 m 2 (w : Int) (f : Int) (n : Int) (i : Int) S = some (r, S) ∧ (r = 1 ∧ (∀ k, i ≤ k → k < n → S.1 3 (a + k) = S.1 3 (f + k)) ∨ r = 0 ∧ ¬ ∀ k, i ≤ k → k < n → S.1 3 (a + k) = S.1 3 (f + k)) := by
  intro m
  induction m with
  | zero => intro i h3 h4; omega
  | succ m ih =>
    intro i h3 h4
    show ∃ r : Int, ja_X10_isWord_b28 (ja_X10_isWord_L28 m) 2 (w : Int) (f : Int) (n : Int) (i : Int) S = some (r, S) ∧ _
    unfold ja_X10_isWord_b28
    by_cases hc : (n : Int) ≤ (i : Int)
    · rw [if_pos hc]
      exact ⟨1, rfl, Or.inl ⟨rfl, fun k k1 k2 => by omega⟩⟩
    · rw [if_neg hc, if_pos (in_i (N := 12288) (by omega)), jc_2_6, jc_2_0, Int.toNat_natCast, ha, w_nat (by omega), w_nat (by omega), if_pos (in_i (N := 16512) (by omega)), if_pos (in_i (N := 16512) (by omega)), Int.toNat_natCast, Int.toNat_natCast]
      by_cases he : S.1 3 (a + i) = S.1 3 (f + i)
      · rw [if_pos he, lt_eq, w_nat1 (by omega)]
        obtain ⟨r, e1, e2⟩ := ih (i + 1) (by omega) (by omega)
        refine ⟨r, e1, ?_⟩
        rcases e2 with ⟨q1, q2⟩ | ⟨q1, q2⟩
        · refine Or.inl ⟨q1, fun k k1 k2 => ?_⟩
          by_cases hk : k = i
          · subst hk; exact he
          · exact q2 k (by omega) k2
        · exact Or.inr ⟨q1, fun q => q2 (fun k k1 k2 => q k (by omega) k2)⟩
      · rw [if_neg he]
        exact ⟨0, rfl, Or.inr ⟨rfl, fun q => he (q i (by omega) (by omega))⟩⟩
/-- what stands at word w -/
def wd (S : nk_S) (w : Nat) : List Int := sg (S.1 3) (S.1 5 w).toNat (S.1 6 w).toNat
theorem iw {S : nk_S} {w a b f t : Nat} (hw : w < 12288) (ha : S.1 5 w = (a : Int)) (hb : S.1 6 w = (b : Int)) (hab : a ≤ b) (h1 : b ≤ 16512) (hft : f ≤ t) (h2 : t ≤ 16512) : ∃ r : Int, ja_X10_isWord 2 (w : Int) (f : Int) (t : Int) S = some (r, S) ∧ (r = 1 ∧ wd S w = sg (S.1 3) f t ∨ r = 0 ∧ ¬ wd S w = sg (S.1 3) f t) := by
  unfold ja_X10_isWord wd
  rw [lt_eq, w_sub hft (by omega), if_pos (in_i (N := 12288) (by omega)), jc_2_7, jc_2_6, Int.toNat_natCast, ha, hb, w_sub hab (by omega), Int.toNat_natCast, Int.toNat_natCast]
  by_cases hc : ((b - a : Nat) : Int) = ((t - f : Nat) : Int)
  · rw [if_pos hc]
    have hc' : b - a = t - f := by omega
    obtain ⟨r, e1, e2⟩ := iw_L (S := S) (w := w) (a := a) (f := f) (n := t - f) hw ha (by omega) (by omega) nk_big 0 (by omega) (by unfold nk_big; omega)
    refine ⟨r, e1, ?_⟩
    rcases e2 with ⟨q1, q2⟩ | ⟨q1, q2⟩
    · exact Or.inl ⟨q1, sg_eq.mpr ⟨hc', fun i hi => q2 i (by omega) (by omega)⟩⟩
    · exact Or.inr ⟨q1, fun e => q2 (fun k _ k2 => (sg_eq.mp e).2 k (by omega))⟩
  · rw [if_neg hc]
    refine ⟨0, rfl, Or.inr ⟨rfl, fun e => hc ?_⟩⟩
    have := (sg_eq.mp e).1
    omega
/-! the hash -/
def hs (l : List Int) : Int := l.foldl (fun h c => nk_w (nk_w (h * 31) + c)) 0
def hx (l : List Int) : Int := nk_iand (nk_ixor (hs l) (nk_iushr (hs l) 10)) 1023
theorem iand_mask (x : Int) (k : Nat) (hk : k < 31) : 0 ≤ nk_iand x ((2 ^ k - 1 : Nat) : Int) ∧ nk_iand x ((2 ^ k - 1 : Nat) : Int) < ((2 ^ k : Nat) : Int) := by
  have hp : 2 ^ k ≤ 2 ^ 30 := Nat.pow_le_pow_right (by decide) (by omega)
  have hp1 : 0 < 2 ^ k := Nat.two_pow_pos k
  have e1 : (nk_iand x ((2 ^ k - 1 : Nat) : Int)) = ((Int32.ofInt x).toBitVec &&& (Int32.ofInt ((2 ^ k - 1 : Nat) : Int)).toBitVec).toInt := rfl
  have e2 : (Int32.ofInt ((2 ^ k - 1 : Nat) : Int)).toBitVec = BitVec.ofNat 32 (2 ^ k - 1) := by
    show BitVec.ofInt 32 _ = _
    rw [BitVec.ofInt_natCast]
  rw [e1, e2]
  have e3 : ((Int32.ofInt x).toBitVec &&& BitVec.ofNat 32 (2 ^ k - 1)).toNat < 2 ^ k := by
    rw [BitVec.toNat_and, BitVec.toNat_ofNat, Nat.mod_eq_of_lt (by omega), Nat.and_two_pow_sub_one_eq_mod]
    exact Nat.mod_lt _ hp1
  rw [BitVec.toInt_eq_toNat_of_lt (by omega)]
  omega
theorem hx_rg (l : List Int) : 0 ≤ hx l ∧ hx l < 1024 := iand_mask _ 10 (by decide)
theorem sg_snoc (g : Nat → Int) (f i : Nat) (h : f ≤ i) : sg g f (i + 1) = sg g f i ++ [g i] := by
  unfold sg
  rw [show i + 1 - f = (i - f) + 1 by omega, List.range_succ, List.map_append]
  simp only [List.map_cons, List.map_nil]
  rw [show f + (i - f) = i by omega]
theorem hs_snoc (l : List Int) (c : Int) : hs (l ++ [c]) = nk_w (nk_w (hs l * 31) + c) := by
  unfold hs; rw [List.foldl_append]; rfl
