/-! Thresholds: the reference's. -/
section THM
variable {P : Nat}
theorem jc_P33 (hP : P = 122 ∨ P = 168) : ja_c P 33 = P + 26 := by rcases hP with rfl | rfl <;> rfl
theorem mt_sh (hP : P = 122 ∨ P = 168) {p n : Nat} {x : Int} (hx1 : -2147483648 ≤ x) (hx2 : x ≤ 2147483647) (hn : n < 3079) : ∀ (e k m : Nat) (S : nk_S), k = p + e → k ≤ n → e < m → S.1 P 7 = (n : Int) → ∃ S', ja_X13_threshold_L76 m P x (p : Int) (k : Int) S = some (0, S') ∧ S'.1 P 7 = ((n + 1 : Nat) : Int) ∧ (∀ i, S'.1 (P + 26) i = if i = p then x else if p < i ∧ i ≤ k then S.1 (P + 26) (i - 1) else S.1 (P + 26) i) ∧ S'.2 = S.2 ∧ (∀ b, b ≠ P → b ≠ P + 26 → S'.1 b = S.1 b) ∧ ∀ i, i ≠ 7 → S'.1 P i = S.1 P i := by
  intro e
  induction e with
  | zero =>
    intro k m S h1 h2 h3 hc
    obtain ⟨m, rfl⟩ : ∃ q, m = q + 1 := ⟨m - 1, by omega⟩
    obtain rfl : k = p := by omega
    obtain ⟨S3, hS3⟩ : ∃ S3, S3 = nk_wi S (P + 26) k x := ⟨_, rfl⟩
    have r3 : ∀ b, b ≠ P + 26 → S3.1 b = S.1 b := fun b hb => by rw [hS3]; exact wi_n hb
    refine ⟨nk_wi S3 P 7 ((n + 1 : Nat) : Int), ?_, by simp only [wi_v, and_self, if_true], fun i => ?_, by rw [hS3]; rfl, fun b x1 x2 => by rw [wi_n x1, r3 b x2], fun i hi => by simp only [wi_v, hi, and_false, if_false]; rw [r3 P (by omega)]⟩
    · show ja_X13_threshold_b76 (ja_X13_threshold_L76 m) P x (k : Int) (k : Int) S = _
      unfold ja_X13_threshold_b76
      rw [if_pos (Int.le_refl _), if_pos (in_i (N := 3079) (by omega)), lt_eq, jc_P33 hP, Int.toNat_natCast, nk_w_id hx1 (by omega), ← hS3, lt_eq, r3 P (by omega), hc, w_nat1 (by omega)]
    · rw [wi_n (by omega), hS3]
      simp only [wi_v, true_and]
      by_cases c : i = k
      · rw [if_pos c, if_pos c]
      · rw [if_neg c, if_neg c, if_neg (by omega)]
  | succ e ih =>
    intro k m S h1 h2 h3 hc
    obtain ⟨m, rfl⟩ : ∃ q, m = q + 1 := ⟨m - 1, by omega⟩
    obtain ⟨k, rfl⟩ : ∃ q, k = q + 1 := ⟨k - 1, by omega⟩
    obtain ⟨S10, hS10⟩ : ∃ S10, S10 = nk_wi S (P + 26) (k + 1) (S.1 (P + 26) k) := ⟨_, rfl⟩
    have r10 : ∀ b, b ≠ P + 26 → S10.1 b = S.1 b := fun b hb => by rw [hS10]; exact wi_n hb
    obtain ⟨S', i1, i2, i3, i4, i5, i6⟩ := ih k m S10 (by omega) (by omega) (by omega) (by rw [r10 P (by omega)]; exact hc)
    refine ⟨S', ?_, i2, fun i => ?_, by rw [i4, hS10]; rfl, fun b x1 x2 => by rw [i5 b x1 x2, r10 b x2], fun i hi => by rw [i6 i hi, r10 P (by omega)]⟩
    · show ja_X13_threshold_b76 (ja_X13_threshold_L76 m) P x (p : Int) ((k + 1 : Nat) : Int) S = _
      unfold ja_X13_threshold_b76
      have hk1 : (0 : Int) ≤ (k : Int) ∧ (k : Int) < 3079 := in_i (N := 3079) (by omega)
      have hk2 : (0 : Int) ≤ ((k + 1 : Nat) : Int) ∧ ((k + 1 : Nat) : Int) < 3079 := in_i (N := 3079) (by omega)
      rw [if_neg (by omega), show ((k + 1 : Nat) : Int) - 1 = (k : Int) by omega, show ((k + 1 : Nat) : Int) + -1 = (k : Int) by omega, w_n0 (by omega), if_pos hk1, if_pos hk2, lt_eq, jc_P33 hP, Int.toNat_natCast, Int.toNat_natCast, ← hS10, lt_eq]
      exact i1
    · rw [i3]
      have row : ∀ j, S10.1 (P + 26) j = if j = k + 1 then S.1 (P + 26) k else S.1 (P + 26) j := fun j => by rw [hS10]; simp only [wi_v, true_and]
      by_cases c : i = p
      · rw [if_pos c, if_pos c]
      · rw [if_neg c, if_neg c]
        by_cases c2 : p < i ∧ i ≤ k
        · rw [if_pos c2, if_pos (by omega), row, if_neg (by omega)]
        · rw [if_neg c2, row]
          by_cases c3 : i = k + 1
          · rw [if_pos c3, if_pos (by omega), c3, Nat.add_sub_cancel]
          · rw [if_neg c3, if_neg (by omega)]
theorem mt_at {S : nk_S} (hP : P = 122 ∨ P = 168) {n : Nat} {x : Int} (hn : n ≤ 3079) (hs : srt (S.1 (P + 26)) n) : ∀ (p m : Nat), p ≤ n → p < m → (∀ i, p ≤ i → i < n → x < S.1 (P + 26) i) → ∃ p' : Nat, ja_X13_threshold_L23 m P x (p : Int) S = ja_X13_threshold_b49 P x (p' : Int) S ∧ p' ≤ n ∧ (∀ i, i < p' → S.1 (P + 26) i ≤ x) ∧ ∀ i, p' ≤ i → i < n → x < S.1 (P + 26) i := by
  intro p
  induction p with
  | zero =>
    intro m h1 h2 h3
    obtain ⟨m, rfl⟩ : ∃ q, m = q + 1 := ⟨m - 1, by omega⟩
    refine ⟨0, ?_, h1, fun i hi => by omega, h3⟩
    show ja_X13_threshold_b23 (ja_X13_threshold_L23 m) P x ((0 : Nat) : Int) S = _
    unfold ja_X13_threshold_b23
    rw [if_pos (by decide)]
  | succ p ih =>
    intro m h1 h2 h3
    obtain ⟨m, rfl⟩ : ∃ q, m = q + 1 := ⟨m - 1, by omega⟩
    show ∃ p' : Nat, ja_X13_threshold_b23 (ja_X13_threshold_L23 m) P x ((p + 1 : Nat) : Int) S = _ ∧ _
    unfold ja_X13_threshold_b23
    have hk1 : (0 : Int) ≤ (p : Int) ∧ (p : Int) < 3079 := in_i (N := 3079) (by omega)
    rw [if_neg (by omega), show ((p + 1 : Nat) : Int) - 1 = (p : Int) by omega, show ((p + 1 : Nat) : Int) + -1 = (p : Int) by omega, w_n0 (by omega), if_pos hk1, jc_P33 hP, Int.toNat_natCast]
    by_cases c : S.1 (P + 26) p ≤ x
    · rw [if_pos c]
      refine ⟨p + 1, rfl, h1, fun i hi => ?_, h3⟩
      by_cases c2 : i = p
      · rw [c2]; exact c
      · have := hs i p (by omega) (by omega); omega
    · rw [if_neg c, lt_eq]
      refine ih m (by omega) (by omega) (fun i x1 x2 => ?_)
      by_cases c2 : i = p
      · rw [c2]; omega
      · exact h3 i (by omega) x2
/-- the reference takes in a threshold -/
theorem m_thr {S : nk_S} (hP : P = 122 ∨ P = 168) {n : Nat} {x : Int} (hx1 : -2147483648 ≤ x) (hx2 : x ≤ 2147483647) (hc : S.1 P 7 = (n : Int)) (hn : n < 3079) (hs : srt (S.1 (P + 26)) n) : ∃ (S' : nk_S) (n' : Nat), ja_X13_threshold 121 P x S = some (0, S') ∧ S'.1 P 7 = (n' : Int) ∧ n ≤ n' ∧ n' ≤ n + 1 ∧ srt (S'.1 (P + 26)) n' ∧ (∀ y, has (S'.1 (P + 26)) n' y ↔ has (S.1 (P + 26)) n y ∨ y = x) ∧ S'.2 = S.2 ∧ (∀ b, b ≠ P → b ≠ P + 26 → S'.1 b = S.1 b) ∧ ∀ i, i ≠ 7 → S'.1 P i = S.1 P i := by
  obtain ⟨m, hm⟩ := big_ge 4000 (by decide)
  obtain ⟨p, p1, p2, p3, p4⟩ := mt_at (x := x) hP (show n ≤ 3079 by omega) hs n nk_big (Nat.le_refl _) (by omega) (fun i h1 h2 => by omega)
  have hput : (∀ i, i < p → S.1 (P + 26) i < x) → ∃ (S' : nk_S) (n' : Nat), ja_X13_threshold_L76 nk_big P x (p : Int) (n : Int) S = some (0, S') ∧ S'.1 P 7 = (n' : Int) ∧ n ≤ n' ∧ n' ≤ n + 1 ∧ srt (S'.1 (P + 26)) n' ∧ (∀ y, has (S'.1 (P + 26)) n' y ↔ has (S.1 (P + 26)) n y ∨ y = x) ∧ S'.2 = S.2 ∧ (∀ b, b ≠ P → b ≠ P + 26 → S'.1 b = S.1 b) ∧ ∀ i, i ≠ 7 → S'.1 P i = S.1 P i := by
    intro p5
    obtain ⟨S', i1, i2, i3, i4, i5, i6⟩ := mt_sh hP (p := p) hx1 hx2 hn (n - p) n nk_big S (by omega) (Nat.le_refl _) (by omega) hc
    obtain ⟨q1, q2⟩ := srt_ins (g' := S'.1 (P + 26)) hs p2 p5 p4 (fun i hi => by rw [i3, if_neg (by omega), if_neg (by omega)]) (by rw [i3, if_pos rfl]) (fun i h1 h2 => by rw [i3, if_neg (by omega), if_pos (by omega)])
    exact ⟨S', n + 1, i1, i2, by omega, by omega, q1, q2, i4, i5, i6⟩
  unfold ja_X13_threshold
  rw [if_neg (by omega), if_pos hx2, lt_eq, hc, p1]
  unfold ja_X13_threshold_b49
  by_cases c : p = 0
  · rw [if_pos (by omega), lt_eq, hc]
    exact hput (fun i hi => by omega)
  · obtain ⟨r, hr⟩ : ∃ r, p = r + 1 := ⟨p - 1, by omega⟩
    have hk1 : (0 : Int) ≤ (r : Int) ∧ (r : Int) < 3079 := in_i (N := 3079) (by omega)
    rw [if_neg (by omega), show (p : Int) - 1 = (r : Int) by omega, w_n0 (by omega), if_pos hk1, jc_P33 hP, Int.toNat_natCast]
    by_cases c2 : S.1 (P + 26) r = x
    · rw [if_pos c2]
      refine ⟨S, n, rfl, hc, by omega, by omega, hs, fun y => ⟨Or.inl, fun h => ?_⟩, rfl, fun _ _ _ => rfl, fun _ _ => rfl⟩
      rcases h with h | h
      · exact h
      · exact ⟨r, by omega, by rw [h]; exact c2⟩
    · rw [if_neg c2, lt_eq, hc]
      refine hput (fun i hi => ?_)
      have := p3 r (by omega)
      by_cases c3 : i = r
      · rw [c3]; omega
      · have := hs i r (by omega) (by omega); omega
end THM
