/-! Both programs' classes at the beginning. -/
theorem fill_L {l0 n : Nat} {x : Int} (hn : n < 100000) : ∀ (e j m : Nat) (S : nk_S), j + e = n → e < m → ∃ S', ja_J7_fill_53178_L5 m l0 n x (j : Int) (n : Int) S = some (0, S') ∧ S'.2 = S.2 ∧ (∀ b, b ≠ l0 → S'.1 b = S.1 b) ∧ ∀ i, S'.1 l0 i = if j ≤ i ∧ i < n then x else S.1 l0 i := by
  intro e
  induction e with
  | zero =>
    intro j m S h1 h2
    obtain ⟨m, rfl⟩ : ∃ q, m = q + 1 := ⟨m - 1, by omega⟩
    refine ⟨S, ?_, rfl, fun _ _ => rfl, fun i => ?_⟩
    · show ja_J7_fill_53178_b5 (ja_J7_fill_53178_L5 m) l0 n x (j : Int) (n : Int) S = _
      unfold ja_J7_fill_53178_b5
      rw [if_pos (by omega)]
    · rw [if_neg (by omega)]
  | succ e ih =>
    intro j m S h1 h2
    obtain ⟨m, rfl⟩ : ∃ q, m = q + 1 := ⟨m - 1, by omega⟩
    obtain ⟨S', i1, i2, i3, i4⟩ := ih (j + 1) m (nk_wi S l0 j x) (by omega) (by omega)
    refine ⟨S', ?_, i2, fun b hb => by rw [i3 b hb, wi_n hb], fun i => ?_⟩
    · show ja_J7_fill_53178_b5 (ja_J7_fill_53178_L5 m) l0 n x (j : Int) (n : Int) S = _
      unfold ja_J7_fill_53178_b5
      rw [if_neg (by omega), if_pos (show (0 : Int) ≤ (j : Int) ∧ (j : Int) < (n : Int) by omega), lt_eq, lt_eq, w_nat1 (by omega), Int.toNat_natCast]
      exact i1
    · rw [i4]
      simp only [wi_v, true_and]
      by_cases q : j + 1 ≤ i ∧ i < n
      · rw [if_pos q, if_pos (by omega)]
      · rw [if_neg q]
        by_cases q2 : i = j
        · rw [if_pos q2, if_pos (by omega)]
        · rw [if_neg q2, if_neg (by omega)]
theorem fill_i {l0 n : Nat} {x : Int} (hn : n < 100000) (S : nk_S) : ∃ S', ja_J7_fill_53178 l0 n x S = some (0, S') ∧ S'.2 = S.2 ∧ (∀ b, b ≠ l0 → S'.1 b = S.1 b) ∧ ∀ i, S'.1 l0 i = if i < n then x else S.1 l0 i := by
  obtain ⟨m, hm⟩ := big_ge 100000 (by decide)
  obtain ⟨S', i1, i2, i3, i4⟩ := fill_L (l0 := l0) (x := x) hn n 0 nk_big S (by omega) (by omega)
  refine ⟨S', i1, i2, i3, fun i => ?_⟩
  rw [i4]
  by_cases q : i < n
  · rw [if_pos q, if_pos (by omega)]
  · rw [if_neg q, if_neg (by omega)]
section CIN
variable {Q P : Nat}
/-- the classes above, and the masks -/
def cU (S : nk_S) (Q : Nat) (us : List Int) : Prop := S.1 (Q + 1) 0 = (us.length : Int) ∧ (∀ j, j < us.length → S.1 (Q + 2) j = us.getD j 0) ∧ S.1 (Q + 3) 0 = 1 ∧ ∀ j, 0 < j → j < us.length → ∃ u : Nat, us.getD j 0 = (u : Int) ∧ u < j ∧ S.1 (Q + 3) j = nk_ior (S.1 (Q + 3) u) (nk_ishl 1 (j : Int))
/-- rows Q + 1 to Q + 4 alone change, of Q + 1 the number alone -/
def cUf (Q : Nat) (S S' : nk_S) : Prop := S'.2 = S.2 ∧ (∀ b, b ≠ Q + 1 → b ≠ Q + 2 → b ≠ Q + 3 → S'.1 b = S.1 b) ∧ ∀ i, i ≠ 0 → S'.1 (Q + 1) i = S.1 (Q + 1) i
theorem cUf_trans {S1 S2 S3 : nk_S} (h : cUf Q S1 S2) (h2 : cUf Q S2 S3) : cUf Q S1 S3 := ⟨h2.1.trans h.1, fun b x y z => (h2.2.1 b x y z).trans (h.2.1 b x y z), fun i x => (h2.2.2 i x).trans (h.2.2 i x)⟩
theorem c_addU {S : nk_S} (hQ : Q = 13 ∨ Q = 49) {us : List Int} {u : Nat} (h : cU S Q us) (h1 : us.length < 32) (h2 : u < us.length) : ∃ S', ja_X1_add (Q + 1) (u : Int) S = some ((us.length : Int), S') ∧ cU S' Q (us ++ [(u : Int)]) ∧ cUf Q S S' := by
  obtain ⟨g1, g2, g3, g4⟩ := h
  obtain ⟨S', s1, s2, s3, s4, s5, s6, s7⟩ := c_add (S := S) hQ (n := us.length) (u := u) g1 h1 h2
  refine ⟨S', s1, ⟨?_, fun j hj => ?_, ?_, fun j hj1 hj2 => ?_⟩, s2, s3, s4⟩
  · rw [s5]; simp only [List.length_append, List.length_cons, List.length_nil]
  · simp only [List.length_append, List.length_cons, List.length_nil] at hj
    rw [s6]
    by_cases e : j = us.length
    · rw [if_pos e, e, getD_end]
    · rw [if_neg e, getD_app _ _ _ _ (by omega)]; exact g2 j (by omega)
  · rw [s7, if_neg (by omega)]; exact g3
  · simp only [List.length_append, List.length_cons, List.length_nil] at hj2
    by_cases e : j = us.length
    · refine ⟨u, by rw [e, getD_end], by omega, ?_⟩
      rw [s7, if_pos e, s7, if_neg (by omega), e]
    · obtain ⟨z, z1, z2, z3⟩ := g4 j hj1 (by omega)
      refine ⟨z, by rw [getD_app _ _ _ _ (by omega)]; exact z1, z2, ?_⟩
      rw [s7, if_neg e, s7, if_neg (by omega)]
      exact z3
theorem c_clrL (hQ : Q = 13 ∨ Q = 49) : ∀ (e k m : Nat) (us : List Int) (S : nk_S), k + e = 8 → us.length = k → 2 ≤ k → e < m → cU S Q us → ∃ S', ja_X1_clear_L40 m (Q + 1) (k : Int) S = some (0, S') ∧ cU S' Q (us ++ List.replicate e 1) ∧ cUf Q S S' := by
  intro e
  induction e with
  | zero =>
    intro k m us S h1 h2 h3 h4 h5
    obtain ⟨m, rfl⟩ : ∃ q, m = q + 1 := ⟨m - 1, by omega⟩
    refine ⟨S, ?_, by rw [List.replicate_zero, List.append_nil]; exact h5, rfl, fun _ _ _ _ => rfl, fun _ _ => rfl⟩
    show ja_X1_clear_b40 (ja_X1_clear_L40 m) (Q + 1) (k : Int) S = _
    unfold ja_X1_clear_b40
    rw [if_pos (by omega)]
  | succ e ih =>
    intro k m us S h1 h2 h3 h4 h5
    obtain ⟨m, rfl⟩ : ∃ q, m = q + 1 := ⟨m - 1, by omega⟩
    obtain ⟨S2, s1, s2, s3⟩ := c_addU hQ (u := 1) h5 (by omega) (by omega)
    obtain ⟨S', i1, i2, i3⟩ := ih (k + 1) m (us ++ [1]) S2 (by omega) (by simp only [List.length_append, List.length_cons, List.length_nil]; omega) (by omega) (by omega) s2
    refine ⟨S', ?_, ?_, cUf_trans s3 i3⟩
    · show ja_X1_clear_b40 (ja_X1_clear_L40 m) (Q + 1) (k : Int) S = _
      unfold ja_X1_clear_b40
      have s1' : ja_X1_add (Q + 1) 1 S = some ((us.length : Int), S2) := s1
      rw [if_neg (by omega), s1', bd_some, lt_eq, w_nat1 (by omega)]
      exact i1
    · rw [List.replicate_succ, ← List.singleton_append, ← List.append_assoc]; exact i2
def us8 : List Int := [-1, 0, 1, 1, 1, 1, 1, 1]
theorem c_clear1 (hQ : Q = 13 ∨ Q = 49) (S : nk_S) : ∃ S', ja_X1_clear (Q + 1) S = some (0, S') ∧ S'.2 = S.2 ∧ (∀ b, b ≠ Q + 1 → b ≠ Q + 2 → b ≠ Q + 3 → b ≠ Q + 4 → S'.1 b = S.1 b) ∧ S'.1 (Q + 1) 4 = 0 ∧ (∀ i, i < 32 → S'.1 (Q + 4) i = 0) ∧ cU S' Q us8 := by
  obtain ⟨-, j1, j2⟩ := jc_Q hQ
  have j3 : ja_c (Q + 1) 3 = Q + 4 := by rcases hQ with rfl | rfl <;> rfl
  obtain ⟨S9, hS9⟩ : ∃ S9, S9 = nk_wi (nk_wi (nk_wi (nk_wi S (Q + 1) 0 1) (Q + 1) 4 0) (Q + 2) 0 (-1)) (Q + 3) 0 1 := ⟨_, rfl⟩
  obtain ⟨S13, f1, f2, f3, f4⟩ := fill_i (l0 := Q + 4) (n := 32) (x := 0) (by decide) S9
  have e0 : S13.1 (Q + 1) 0 = 1 := by
    rw [f3 (Q + 1) (by omega), hS9, wi_n (by omega), wi_n (by omega)]
    simp +decide only [wi_v, if_true, if_false, and_false]
  have e4 : S13.1 (Q + 1) 4 = 0 := by
    rw [f3 (Q + 1) (by omega), hS9, wi_n (by omega), wi_n (by omega)]
    simp +decide only [wi_v, and_self, if_true]
  have eu : S13.1 (Q + 2) 0 = -1 := by
    rw [f3 (Q + 2) (by omega), hS9, wi_n (by omega)]
    simp +decide only [wi_v, and_self, if_true]
  have ea : S13.1 (Q + 3) 0 = 1 := by
    rw [f3 (Q + 3) (by omega), hS9]
    simp +decide only [wi_v, and_self, if_true]
  have hU : cU S13 Q [-1] := by
    refine ⟨e0, fun j hj => ?_, ea, fun j h1 h2 => ?_⟩
    · simp only [List.length_cons, List.length_nil] at hj
      have : j = 0 := by omega
      rw [this]
      exact eu
    · simp only [List.length_cons, List.length_nil] at h2
      omega
  obtain ⟨S16, a1, a2, a3⟩ := c_addU hQ (u := 0) hU (by decide) (by decide)
  obtain ⟨m, hm⟩ := big_ge 7 (by decide)
  obtain ⟨S', i1, i2, i3⟩ := c_clrL hQ 6 2 nk_big [-1, 0] S16 rfl rfl (by decide) (by omega) a2
  have hfr := cUf_trans a3 i3
  refine ⟨S', ?_, ?_, ?_, ?_, ?_, i2⟩
  · unfold ja_X1_clear
    have a1' : ja_X1_add (Q + 1) 0 S13 = some (1, S16) := a1
    rw [lt_eq, lt_eq, lt_eq, lt_eq, j1, j2, j3, ← hS9, f1, bd_some, a1', bd_some]
    exact i1
  · rw [hfr.1, f2, hS9]; rfl
  · intro b x y z w
    rw [hfr.2.1 b x y z, f3 b w, hS9, wi_n z, wi_n y, wi_n x, wi_n x]
  · rw [hfr.2.2 4 (by decide)]; exact e4
  · intro i hi
    rw [hfr.2.1 (Q + 4) (by omega) (by omega) (by omega), f4, if_pos hi]
end CIN
