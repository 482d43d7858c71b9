/-! The class's program at the beginning. -/
section CCL
variable {R Q : Nat}
/-- the thresholds of the class: n of them, those of F -/
def tC (S : nk_S) (R n : Nat) (F : Int → Prop) : Prop := S.1 R 0 = (n : Int) ∧ srt (S.1 (R + 1)) n ∧ ∀ y, has (S.1 (R + 1)) n y ↔ F y
def tF (R : Nat) (S S' : nk_S) : Prop := S'.2 = S.2 ∧ (∀ b, b ≠ R → b ≠ R + 1 → S'.1 b = S.1 b) ∧ ∀ i, i ≠ 0 → S'.1 R i = S.1 R i
theorem tF_trans {S1 S2 S3 : nk_S} (h : tF R S1 S2) (h2 : tF R S2 S3) : tF R S1 S3 := ⟨h2.1.trans h.1, fun b x y => (h2.2.1 b x y).trans (h.2.1 b x y), fun i x => (h2.2.2 i x).trans (h.2.2 i x)⟩
theorem tC_iff {S : nk_S} {n : Nat} {F G : Int → Prop} (h : tC S R n F) (e : ∀ y, F y ↔ G y) : tC S R n G := ⟨h.1, h.2.1, fun y => (h.2.2 y).trans (e y)⟩
theorem c_in {S : nk_S} (hR : R = 36 ∨ R = 72) {n : Nat} {F : Int → Prop} (x : Int) (h : tC S R n F) (hn : n < 3079) : ∃ (S' : nk_S) (n' : Nat), ja_X5_include R x S = some (0, S') ∧ n' ≤ n + 1 ∧ tC S' R n' (fun y => F y ∨ y = x) ∧ tF R S S' := by
  obtain ⟨h1, h2, h3⟩ := h
  obtain ⟨S', n', e1, e2, e3, e4, e5, e6, e7, e8, e9⟩ := c_incl (x := x) hR h1 hn h2
  exact ⟨S', n', e1, e4, ⟨e2, e5, fun y => (e6 y).trans (or_congr (h3 y) Iff.rfl)⟩, e7, e8, e9⟩
/-- a number and its neighbours -/
def nbr (x y : Int) : Prop := y = x ∨ y = x - 1 ∧ -2147483648 < x ∨ y = x + 1 ∧ x < 2147483647
theorem c_around {S : nk_S} (hR : R = 36 ∨ R = 72) {n : Nat} {F : Int → Prop} (x : Int) (hx1 : -2147483648 ≤ x) (hx2 : x ≤ 2147483647) (h : tC S R n F) (hn : n + 2 < 3079) : ∃ (S' : nk_S) (n' : Nat), ja_X5_includeAround R x S = some (0, S') ∧ n' ≤ n + 3 ∧ tC S' R n' (fun y => F y ∨ nbr x y) ∧ tF R S S' := by
  have rest : ∀ (S : nk_S) (n0 : Nat) (G : Int → Prop), tC S R n0 G → n0 + 1 < 3079 → ∃ (S' : nk_S) (n' : Nat), ja_X5_includeAround_b13 R x S = some (0, S') ∧ n' ≤ n0 + 2 ∧ tC S' R n' (fun y => G y ∨ y = x ∨ y = x + 1 ∧ x < 2147483647) ∧ tF R S S' := by
    intro S n0 G hG hn0
    obtain ⟨S2, n2, a1, a2, a3, a4⟩ := c_in hR x hG (by omega)
    unfold ja_X5_includeAround_b13
    rw [a1, bd_some]
    by_cases c : x = 2147483647
    · rw [if_pos c]
      refine ⟨S2, n2, rfl, by omega, tC_iff a3 (fun y => ?_), a4⟩
      constructor
      · rintro (h | h)
        · exact Or.inl h
        · exact Or.inr (Or.inl h)
      · rintro (h | h | h)
        · exact Or.inl h
        · exact Or.inr h
        · omega
    · rw [if_neg c, nk_w_id (by omega) (by omega)]
      obtain ⟨S5, n5, b1, b2, b3, b4⟩ := c_in hR (x + 1) a3 (by omega)
      rw [b1, bd_some]
      refine ⟨S5, n5, rfl, by omega, tC_iff b3 (fun y => ?_), tF_trans a4 b4⟩
      constructor
      · rintro ((h | h) | h)
        · exact Or.inl h
        · exact Or.inr (Or.inl h)
        · exact Or.inr (Or.inr ⟨h, by omega⟩)
      · rintro (h | h | h)
        · exact Or.inl (Or.inl h)
        · exact Or.inl (Or.inr h)
        · exact Or.inr h.1
  unfold ja_X5_includeAround
  by_cases c : x = -2147483648
  · rw [if_pos c]
    obtain ⟨S', n', e1, e2, e3, e4⟩ := rest S n F h (by omega)
    refine ⟨S', n', e1, by omega, tC_iff e3 (fun y => ?_), e4⟩
    unfold nbr
    constructor
    · rintro (h | h | h)
      · exact Or.inl h
      · exact Or.inr (Or.inl h)
      · exact Or.inr (Or.inr (Or.inr h))
    · rintro (h | h | h | h)
      · exact Or.inl h
      · exact Or.inr (Or.inl h)
      · omega
      · exact Or.inr (Or.inr h)
  · rw [if_neg c, nk_w_id (by omega) (by omega)]
    obtain ⟨S2, n2, a1, a2, a3, a4⟩ := c_in hR (x - 1) h (by omega)
    rw [a1, bd_some]
    obtain ⟨S', n', e1, e2, e3, e4⟩ := rest S2 n2 _ a3 (by omega)
    refine ⟨S', n', e1, by omega, tC_iff e3 (fun y => ?_), tF_trans a4 e4⟩
    unfold nbr
    constructor
    · rintro ((h | h) | h | h)
      · exact Or.inl h
      · exact Or.inr (Or.inr (Or.inl ⟨h, by omega⟩))
      · exact Or.inr (Or.inl h)
      · exact Or.inr (Or.inr (Or.inr h))
    · rintro (h | h | h | h)
      · exact Or.inl (Or.inl h)
      · exact Or.inr (Or.inl h)
      · exact Or.inl (Or.inr h.1)
      · exact Or.inr (Or.inr h)
/-- the thresholds of every text -/
def th7 (y : Int) : Prop := y = -2147483648 ∨ y = -2147483647 ∨ y = -1 ∨ y = 0 ∨ y = 1 ∨ y = 2147483646 ∨ y = 2147483647
theorem c_thr0 (hR : R = 36 ∨ R = 72) (S : nk_S) : ∃ (S' : nk_S) (n : Nat), ja_X5_clear R S = some (0, S') ∧ n ≤ 7 ∧ tC S' R n th7 ∧ tF R S S' := by
  obtain ⟨S1, hS1⟩ : ∃ S1, S1 = nk_wi S R 0 0 := ⟨_, rfl⟩
  have t1 : tC S1 R 0 (fun _ => False) := ⟨by rw [hS1]; simp only [wi_v, and_self, if_true]; rfl, fun i j h1 h2 => by omega, fun y => ⟨fun h => by obtain ⟨i, hi, -⟩ := h; omega, fun h => h.elim⟩⟩
  have f1 : tF R S S1 := ⟨by rw [hS1]; rfl, fun b x _ => by rw [hS1, wi_n x], fun i hi => by rw [hS1]; simp only [wi_v, hi, and_false, if_false]⟩
  obtain ⟨S4, n4, a1, a2, a3, a4⟩ := c_in hR (-2147483648) t1 (by decide)
  obtain ⟨S7, n7, b1, b2, b3, b4⟩ := c_in hR (-2147483647) a3 (by omega)
  obtain ⟨S10, n10, c1, c2, c3, c4⟩ := c_around hR 0 (by decide) (by decide) b3 (by omega)
  obtain ⟨S13, n13, d1, d2, d3, d4⟩ := c_in hR 2147483646 c3 (by omega)
  obtain ⟨S16, n16, e1, e2, e3, e4⟩ := c_in hR 2147483647 d3 (by omega)
  refine ⟨S16, n16, ?_, by omega, tC_iff e3 (fun y => ?_), tF_trans f1 (tF_trans a4 (tF_trans b4 (tF_trans c4 (tF_trans d4 e4))))⟩
  · unfold ja_X5_clear
    rw [lt_eq, ← hS1, a1, bd_some, b1, bd_some, c1, bd_some, d1, bd_some, e1, bd_some]
  · unfold nbr th7
    simp only [false_or]
    omega
theorem jc_Q2 (hQ : Q = 13 ∨ Q = 49) : ja_c Q 1 = Q + 9 ∧ ja_c Q 2 = Q + 23 ∧ ja_c Q 11 = Q + 31 ∧ (Q + 23 = 36 ∨ Q + 23 = 72) := by rcases hQ with rfl | rfl <;> exact ⟨rfl, rfl, rfl, by decide⟩
theorem c_six (hQ : Q = 13 ∨ Q = 49) : ∀ (e k m : Nat) (S : nk_S), k + e = 6 → e < m → ∃ S', ja_X3_clear_L39 m Q (k : Int) S = some (0, S') ∧ S'.2 = S.2 ∧ (∀ b, b ≠ Q + 31 → S'.1 b = S.1 b) ∧ ∀ i, S'.1 (Q + 31) i = if 48 + k ≤ i ∧ i < 54 then ((8 + 2 * (i - 48) : Nat) : Int) else S.1 (Q + 31) i := by
  obtain ⟨-, -, j3, -⟩ := jc_Q2 hQ
  intro e
  induction e with
  | zero =>
    intro k m S h1 h2
    obtain ⟨m, rfl⟩ : ∃ q, m = q + 1 := ⟨m - 1, by omega⟩
    refine ⟨S, ?_, rfl, fun _ _ => rfl, fun i => by rw [if_neg (by omega)]⟩
    show ja_X3_clear_b39 (ja_X3_clear_L39 m) Q (k : Int) S = _
    unfold ja_X3_clear_b39
    rw [if_pos (by omega)]
  | succ e ih =>
    intro k m S h1 h2
    obtain ⟨m, rfl⟩ : ∃ q, m = q + 1 := ⟨m - 1, by omega⟩
    obtain ⟨S', i1, i2, i3, i4⟩ := ih (k + 1) m (nk_wi S (Q + 31) (48 + k) ((8 + 2 * k : Nat) : Int)) (by omega) (by omega)
    refine ⟨S', ?_, i2, fun b hb => by rw [i3 b hb, wi_n hb], fun i => ?_⟩
    · show ja_X3_clear_b39 (ja_X3_clear_L39 m) Q (k : Int) S = _
      unfold ja_X3_clear_b39
      have hin : (0 : Int) ≤ ((48 + k : Nat) : Int) ∧ ((48 + k : Nat) : Int) < 54 := in_i (N := 54) (by omega)
      have z1 : nk_w (4 + nk_w (2 * nk_w (2 + (k : Int)))) = ((8 + 2 * k : Nat) : Int) := by
        rw [nk_w_id (z := 2 + (k : Int)) (by omega) (by omega), nk_w_id (z := 2 * (2 + (k : Int))) (by omega) (by omega), nk_w_id (by omega) (by omega)]
        omega
      rw [if_neg (by omega), show (48 : Int) + (k : Int) = ((48 + k : Nat) : Int) by omega, w_n0 (by omega), if_pos hin, lt_eq, lt_eq, z1, j3, Int.toNat_natCast]
      clear z1
      rw [w_nat1 (by omega)]
      exact i1
    · rw [i4]
      simp only [wi_v, true_and]
      by_cases q : 48 + (k + 1) ≤ i ∧ i < 54
      · rw [if_pos q, if_pos (by omega)]
      · rw [if_neg q]
        by_cases q2 : i = 48 + k
        · rw [if_pos q2, if_pos (by omega), q2, show 48 + k - 48 = k by omega]
        · rw [if_neg q2, if_neg (by omega)]
end CCL
