/-! Thresholds: rows in rising order; the class's. -/
def srt (g : Nat → Int) (n : Nat) : Prop := ∀ i j, i < j → j < n → g i < g j
def has (g : Nat → Int) (n : Nat) (y : Int) : Prop := ∃ i, i < n ∧ g i = y
theorem srt_ins {g g' : Nat → Int} {n p : Nat} {x : Int} (hs : srt g n) (hp : p ≤ n) (h1 : ∀ i, i < p → g i < x) (h2 : ∀ i, p ≤ i → i < n → x < g i) (e1 : ∀ i, i < p → g' i = g i) (e2 : g' p = x) (e3 : ∀ i, p < i → i < n + 1 → g' i = g (i - 1)) : srt g' (n + 1) ∧ ∀ y, has g' (n + 1) y ↔ has g n y ∨ y = x := by
  refine ⟨fun i j hij hj => ?_, fun y => ⟨fun h => ?_, fun h => ?_⟩⟩
  · by_cases a1 : i < p
    · rw [e1 i a1]
      by_cases b1 : j < p
      · rw [e1 j b1]; exact hs i j hij (by omega)
      · by_cases b2 : j = p
        · rw [b2, e2]; exact h1 i a1
        · rw [e3 j (by omega) hj]
          exact hs i (j - 1) (by omega) (by omega)
    · by_cases a2 : i = p
      · rw [a2, e2, e3 j (by omega) hj]
        exact h2 (j - 1) (by omega) (by omega)
      · rw [e3 i (by omega) (by omega), e3 j (by omega) hj]
        exact hs (i - 1) (j - 1) (by omega) (by omega)
  · obtain ⟨i, hi, he⟩ := h
    by_cases a1 : i < p
    · left; exact ⟨i, by omega, by rw [← he, e1 i a1]⟩
    · by_cases a2 : i = p
      · right; rw [← he, a2, e2]
      · left; exact ⟨i - 1, by omega, by rw [← he, e3 i (by omega) hi]⟩
  · rcases h with ⟨i, hi, he⟩ | h
    · by_cases a1 : i < p
      · exact ⟨i, by omega, by rw [e1 i a1]; exact he⟩
      · exact ⟨i + 1, by omega, by rw [e3 (i + 1) (by omega) (by omega), Nat.add_sub_cancel]; exact he⟩
    · exact ⟨p, by omega, by rw [e2, h]⟩
/-- rising rows of the same numbers are the same -/
theorem srt_same {g h : Nat → Int} {n m : Nat} (hg : srt g n) (hh : srt h m) (he : ∀ y, has g n y ↔ has h m y) : n = m ∧ ∀ i, i < n → g i = h i := by
  have key : ∀ (g h : Nat → Int) (n m : Nat), srt g n → srt h m → (∀ y, has g n y ↔ has h m y) → ∀ i, i < n → i < m ∧ g i = h i := by
    intro g h n m hg hh he i
    induction i using Nat.strongRecOn with
    | ind i ih =>
      intro hi
      obtain ⟨j, hj, ej⟩ := (he (g i)).mp ⟨i, hi, rfl⟩
      have hji : i ≤ j := by
        by_cases c : i ≤ j
        · exact c
        · exfalso
          have := (ih j (by omega) (by omega)).2
          have := hg j i (by omega) hi
          omega
      refine ⟨by omega, ?_⟩
      obtain ⟨k, hk, ek⟩ := (he (h i)).mpr ⟨i, by omega, rfl⟩
      have hki : i ≤ k := by
        by_cases c : i ≤ k
        · exact c
        · exfalso
          have := (ih k (by omega) (by omega)).2
          have := hh k i (by omega) (by omega)
          omega
      have u1 : h i ≤ h j := by
        by_cases c : i = j
        · rw [c]; exact Int.le_refl _
        · have := hh i j (by omega) hj; omega
      have u2 : g i ≤ g k := by
        by_cases c : i = k
        · rw [c]; exact Int.le_refl _
        · have := hg i k (by omega) hk; omega
      omega
  have k1 := key g h n m hg hh he
  have k2 := key h g m n hh hg (fun y => (he y).symm)
  refine ⟨?_, fun i hi => (k1 i hi).2⟩
  by_cases c : n = m
  · exact c
  · exfalso
    by_cases c2 : n < m
    · have := (k2 n c2).1; omega
    · have := (k1 m (by omega)).1; omega
theorem half_q : ∀ q : Nat, q < 78 → ∀ r : Nat, r < 80 → nk_iushr ((80 * q + r : Nat) : Int) 1 = (((80 * q + r) / 2 : Nat) : Int) := by decide +kernel
theorem half_i (a : Nat) (h : a < 6200) : nk_iushr (a : Int) 1 = ((a / 2 : Nat) : Int) := by
  have := half_q (a / 80) (by omega) (a % 80) (by omega)
  rw [show 80 * (a / 80) + a % 80 = a by omega] at this
  exact this
section THC
variable {R : Nat}
theorem jc_R (hR : R = 36 ∨ R = 72) : ja_c R 1 = R + 1 := by rcases hR with rfl | rfl <;> rfl
theorem pl_L {S : nk_S} (hR : R = 36 ∨ R = 72) {n : Nat} {x : Int} (hn : n ≤ 3079) (hs : srt (S.1 (R + 1)) n) : ∀ (e lo hi m : Nat), hi - lo ≤ e → e < m → lo ≤ hi → hi ≤ n → (∀ i, i < lo → S.1 (R + 1) i < x) → (∀ i, hi ≤ i → i < n → x ≤ S.1 (R + 1) i) → ∃ p : Nat, ja_X5_placeOf_L7 m R x (lo : Int) (hi : Int) S = some ((p : Int), S) ∧ p ≤ n ∧ (∀ i, i < p → S.1 (R + 1) i < x) ∧ ∀ i, p ≤ i → i < n → x ≤ S.1 (R + 1) i := by
  intro e
  induction e with
  | zero =>
    intro lo hi m h1 h2 h3 h4 h5 h6
    obtain ⟨m, rfl⟩ : ∃ q, m = q + 1 := ⟨m - 1, by omega⟩
    obtain rfl : lo = hi := by omega
    refine ⟨lo, ?_, h4, h5, h6⟩
    show ja_X5_placeOf_b7 (ja_X5_placeOf_L7 m) R x (lo : Int) (lo : Int) S = _
    unfold ja_X5_placeOf_b7
    rw [if_pos (Int.le_refl _)]
  | succ e ih =>
    intro lo hi m h1 h2 h3 h4 h5 h6
    obtain ⟨m, rfl⟩ : ∃ q, m = q + 1 := ⟨m - 1, by omega⟩
    show ∃ p : Nat, ja_X5_placeOf_b7 (ja_X5_placeOf_L7 m) R x (lo : Int) (hi : Int) S = some ((p : Int), S) ∧ _
    unfold ja_X5_placeOf_b7
    by_cases q : hi ≤ lo
    · obtain rfl : lo = hi := by omega
      refine ⟨lo, ?_, h4, h5, h6⟩
      rw [if_pos (Int.le_refl _)]
    · have hmid : (lo + hi) / 2 < 3079 ∧ lo ≤ (lo + hi) / 2 ∧ (lo + hi) / 2 < hi := by omega
      obtain ⟨mid, hm⟩ : ∃ mid, mid = (lo + hi) / 2 := ⟨_, rfl⟩
      rw [← hm] at hmid
      obtain ⟨m1, m2, m3⟩ := hmid
      rw [if_neg (by omega), lt_eq, w_nat (by omega), half_i (lo + hi) (by omega), ← hm, if_pos (in_i (N := 3079) (by omega)), jc_R hR, Int.toNat_natCast]
      by_cases c : x ≤ S.1 (R + 1) mid
      · rw [if_pos c]
        refine ih lo mid m (by omega) (by omega) m2 (by omega) h5 (fun i x1 x2 => ?_)
        by_cases c2 : i = mid
        · rw [c2]; exact c
        · have := hs mid i (by omega) x2; omega
      · rw [if_neg c, lt_eq, w_nat1 (by omega)]
        refine ih (mid + 1) hi m (by omega) (by omega) (by omega) h4 (fun i x1 => ?_) h6
        by_cases c2 : i = mid
        · rw [c2]; omega
        · have := hs i mid (by omega) (by omega); omega
/-- the class takes in a threshold -/
theorem c_incl {S : nk_S} (hR : R = 36 ∨ R = 72) {n : Nat} {x : Int} (hc : S.1 R 0 = (n : Int)) (hn : n < 3079) (hs : srt (S.1 (R + 1)) n) : ∃ (S' : nk_S) (n' : Nat), ja_X5_include R x S = some (0, S') ∧ S'.1 R 0 = (n' : Int) ∧ n ≤ n' ∧ n' ≤ n + 1 ∧ srt (S'.1 (R + 1)) n' ∧ (∀ y, has (S'.1 (R + 1)) n' y ↔ has (S.1 (R + 1)) n y ∨ y = x) ∧ S'.2 = S.2 ∧ (∀ b, b ≠ R → b ≠ R + 1 → S'.1 b = S.1 b) ∧ ∀ i, i ≠ 0 → S'.1 R i = S.1 R i := by
  obtain ⟨m, hm⟩ := big_ge 4000 (by decide)
  obtain ⟨p, p1, p2, p3, p4⟩ := pl_L (x := x) hR (show n ≤ 3079 by omega) hs n 0 n nk_big (by omega) (by omega) (by omega) (Nat.le_refl _) (fun i hi => by omega) (fun i h1 h2 => by omega)
  have hpl : ja_X5_placeOf R x S = some ((p : Int), S) := by
    unfold ja_X5_placeOf
    rw [lt_eq, hc]
    exact p1
  have hput : (∀ i, p ≤ i → i < n → x < S.1 (R + 1) i) → ∃ (S' : nk_S) (n' : Nat), ja_X5_include_b24 R x (p : Int) S = some (0, S') ∧ S'.1 R 0 = (n' : Int) ∧ n ≤ n' ∧ n' ≤ n + 1 ∧ srt (S'.1 (R + 1)) n' ∧ (∀ y, has (S'.1 (R + 1)) n' y ↔ has (S.1 (R + 1)) n y ∨ y = x) ∧ S'.2 = S.2 ∧ (∀ b, b ≠ R → b ≠ R + 1 → S'.1 b = S.1 b) ∧ ∀ i, i ≠ 0 → S'.1 R i = S.1 R i := by
    intro p5
    obtain ⟨S3, hS3⟩ : ∃ S3, S3 = nk_cp S (R + 1) p (R + 1) (p + 1) (n - p) := ⟨_, rfl⟩
    obtain ⟨S6, hS6⟩ : ∃ S6, S6 = nk_wi S3 (R + 1) p x := ⟨_, rfl⟩
    obtain ⟨S8, hS8⟩ : ∃ S8, S8 = nk_wi S6 R 0 ((n + 1 : Nat) : Int) := ⟨_, rfl⟩
    have r3 : ∀ b, b ≠ R + 1 → S3.1 b = S.1 b := fun b hb => by rw [hS3]; exact cp_n hb
    have r6 : ∀ b, b ≠ R + 1 → S6.1 b = S.1 b := fun b hb => by rw [hS6, wi_n hb, r3 b hb]
    have row : ∀ i, S8.1 (R + 1) i = if i = p then x else if p + 1 ≤ i ∧ i < p + 1 + (n - p) then S.1 (R + 1) (p + (i - (p + 1))) else S.1 (R + 1) i := fun i => by
      rw [hS8, wi_n (by omega), hS6]
      simp only [wi_v, true_and]
      rw [hS3]
      simp only [cp_v, true_and]
    obtain ⟨q1, q2⟩ := srt_ins (g' := S8.1 (R + 1)) hs p2 p3 p5 (fun i hi => by rw [row, if_neg (by omega), if_neg (by omega)]) (by rw [row, if_pos rfl]) (fun i h1 h2 => by rw [row, if_neg (by omega), if_pos (by omega), show p + (i - (p + 1)) = i - 1 by omega])
    refine ⟨S8, n + 1, ?_, by rw [hS8]; simp only [wi_v, and_self, if_true], by omega, by omega, q1, q2, by rw [hS8, hS6, hS3]; rfl, fun b x1 x2 => by rw [hS8, wi_n x1, r6 b x2], fun i hi => by rw [hS8]; simp only [wi_v, hi, and_false, if_false]; rw [r6 R (by omega)]⟩
    unfold ja_X5_include_b24
    have hck : (0 : Int) ≤ (p : Int) ∧ (0 : Int) ≤ ((p + 1 : Nat) : Int) ∧ (0 : Int) ≤ ((n - p : Nat) : Int) ∧ (p : Int) + ((n - p : Nat) : Int) ≤ 3079 ∧ ((p + 1 : Nat) : Int) + ((n - p : Nat) : Int) ≤ 3079 := by omega
    have hin : (0 : Int) ≤ (p : Int) ∧ (p : Int) < 3079 := in_i (N := 3079) (by omega)
    rw [hc, if_pos (by omega), w_nat1 (by omega), w_sub p2 (by omega), if_pos hck, lt_eq, jc_R hR, Int.toNat_natCast, Int.toNat_natCast, Int.toNat_natCast, ← hS3, if_pos hin, lt_eq, ← hS6, lt_eq, r6 R (by omega), hc, w_nat1 (by omega), ← hS8]
  unfold ja_X5_include
  rw [hpl, bd_some, hc]
  by_cases c : n ≤ p
  · rw [if_pos (by omega)]
    exact hput (fun i h1 h2 => by omega)
  · rw [if_neg (by omega), if_pos (in_i (N := 3079) (by omega)), jc_R hR, Int.toNat_natCast]
    by_cases c2 : S.1 (R + 1) p = x
    · rw [if_pos c2]
      refine ⟨S, n, rfl, hc, by omega, by omega, hs, fun y => ⟨Or.inl, fun h => ?_⟩, rfl, fun _ _ _ => rfl, fun _ _ => rfl⟩
      rcases h with h | h
      · exact h
      · exact ⟨p, by omega, by rw [h]; exact c2⟩
    · rw [if_neg c2]
      refine hput (fun i h1 h2 => ?_)
      have := p4 p (Nat.le_refl _) (by omega)
      by_cases c3 : i = p
      · rw [c3]; omega
      · have := hs p i (by omega) h2; omega
end THC
