/-! Classes above classes. -/
def uOk (us : List Int) : Prop := us.getD 0 0 = -1 ∧ ∀ j, 0 < j → j < us.length → ∃ u : Nat, us.getD j 0 = (u : Int) ∧ u < j
def ancF (us : List Int) : Nat → Nat → Nat → Bool
  | 0, _, _ => false
  | n + 1, c, d => decide (c = d) || (decide (0 ≤ us.getD c 0) && ancF us n (us.getD c 0).toNat d)
/-- class d is class c or above it -/
def anc (us : List Int) (c d : Nat) : Bool := ancF us 64 c d
section ANC
variable {us : List Int}
theorem ancF_st (h : uOk us) {d : Nat} : ∀ n m c, c < n → c < m → c < us.length → ancF us n c d = ancF us m c d := by
  intro n
  induction n with
  | zero => intro m c h1; omega
  | succ n ih =>
    intro m c h1 h2 h3
    obtain ⟨m, rfl⟩ : ∃ q, m = q + 1 := ⟨m - 1, by omega⟩
    rw [ancF, ancF]
    by_cases q : c = 0
    · subst q
      rw [h.1]
      rfl
    · obtain ⟨u, u1, u2⟩ := h.2 c (by omega) h3
      rw [u1, Int.toNat_natCast, ih m u (by omega) (by omega) (by omega)]
theorem anc_0 (h : uOk us) (d : Nat) : anc us 0 d = decide (0 = d) := by
  unfold anc
  rw [ancF, h.1]
  simp
theorem anc_s (h : uOk us) {j u d : Nat} (hj : 0 < j) (hl : j < us.length) (h32 : us.length ≤ 32) (hu : us.getD j 0 = (u : Int)) : anc us j d = (decide (j = d) || anc us u d) := by
  obtain ⟨v, v1, v2⟩ := h.2 j hj hl
  have e : v = u := by omega
  subst e
  unfold anc
  rw [ancF, hu, Int.toNat_natCast, ancF_st h 63 64 v (by omega) (by omega) (by omega), decide_eq_true (show (0 : Int) ≤ (v : Int) by omega), Bool.true_and]
theorem anc_self (c : Nat) : anc us c c = true := by
  unfold anc
  rw [ancF, decide_eq_true rfl, Bool.true_or]
theorem anc_le (h : uOk us) (h32 : us.length ≤ 32) : ∀ n c d, c < n → c < us.length → anc us c d = true → d ≤ c := by
  intro n
  induction n with
  | zero => intro c d h1; omega
  | succ n ih =>
    intro c d h1 h2 h3
    by_cases q : c = 0
    · subst q
      rw [anc_0 h] at h3
      have := of_decide_eq_true h3
      omega
    · obtain ⟨u, u1, u2⟩ := h.2 c (by omega) h2
      rw [anc_s h (by omega) h2 h32 u1, Bool.or_eq_true] at h3
      rcases h3 with h3 | h3
      · have := of_decide_eq_true h3; omega
      · have := ih u d (by omega) (by omega) h3; omega
/-- those above one class stand in one row -/
theorem anc_row (h : uOk us) (h32 : us.length ≤ 32) : ∀ n c d e, c < n → c < us.length → anc us c d = true → anc us c e = true → d ≤ e → anc us e d = true := by
  intro n
  induction n with
  | zero => intro c d e h1; omega
  | succ n ih =>
    intro c d e h1 h2 h3 h4 h5
    by_cases q : c = 0
    · subst q
      rw [anc_0 h] at h3 h4
      have e1 := of_decide_eq_true h3
      have e2 := of_decide_eq_true h4
      rw [← e1, ← e2]
      exact anc_self 0
    · obtain ⟨u, u1, u2⟩ := h.2 c (by omega) h2
      by_cases q2 : c = e
      · rw [← q2]; exact h3
      · have k4 := h4
        rw [anc_s h (by omega) h2 h32 u1, decide_eq_false q2, Bool.false_or] at k4
        by_cases q3 : c = d
        · have := anc_le h h32 _ c e (Nat.lt_succ_self c) h2 h4
          omega
        · rw [anc_s h (by omega) h2 h32 u1, decide_eq_false q3, Bool.false_or] at h3
          exact ih u d e (by omega) (by omega) h3 k4 h5
theorem anc_trans (h : uOk us) (h32 : us.length ≤ 32) : ∀ n c d e, c < n → c < us.length → anc us c d = true → anc us d e = true → anc us c e = true := by
  intro n
  induction n with
  | zero => intro c d e h1; omega
  | succ n ih =>
    intro c d e h1 h2 h3 h4
    by_cases q : c = d
    · rw [q]; exact h4
    · by_cases q0 : c = 0
      · subst q0
        rw [anc_0 h] at h3
        exact absurd (of_decide_eq_true h3) q
      · obtain ⟨u, u1, u2⟩ := h.2 c (by omega) h2
        rw [anc_s h (by omega) h2 h32 u1, decide_eq_false q, Bool.false_or] at h3
        rw [anc_s h (by omega) h2 h32 u1, ih u d e (by omega) (by omega) h3 h4, Bool.or_true]
end ANC
theorem uOk_8 : uOk us8 := by
  refine ⟨rfl, fun j h1 h2 => ?_⟩
  have : j = 1 ∨ j = 2 ∨ j = 3 ∨ j = 4 ∨ j = 5 ∨ j = 6 ∨ j = 7 := by
    have : us8.length = 8 := rfl
    omega
  rcases this with rfl | rfl | rfl | rfl | rfl | rfl | rfl
  · exact ⟨0, rfl, by decide⟩
  · exact ⟨1, rfl, by decide⟩
  · exact ⟨1, rfl, by decide⟩
  · exact ⟨1, rfl, by decide⟩
  · exact ⟨1, rfl, by decide⟩
  · exact ⟨1, rfl, by decide⟩
  · exact ⟨1, rfl, by decide⟩
theorem fCls_uOk {tx : List (List Int)} : ∀ (d a : Nat) (ns : List (List Int)) (us : List Int), uOk us → us.length = ns.length → 8 ≤ ns.length → uOk (fCls tx d a ns us).2.2 := by
  intro d
  induction d with
  | zero => intro a ns us h _ _; exact h
  | succ d ih =>
    intro a ns us h h2 h8
    rw [fCls]
    split
    · exact h
    · split
      · exact h
      · split
        · exact h
        · rename_i q
          refine ih _ _ _ ?_ (by simp only [List.length_append, List.length_cons, List.length_nil]; omega) (by simp only [List.length_append, List.length_cons, List.length_nil]; omega)
          refine ⟨?_, fun j h1 hj => ?_⟩
          · rw [getD_app _ _ _ _ (by omega)]; exact h.1
          · simp only [List.length_append, List.length_cons, List.length_nil] at hj
            by_cases c : j = us.length
            · subst c
              rw [getD_end]
              have := amx_rg (tx.getD (a + 3) []) ns 0
              exact ⟨(amx (tx.getD (a + 3) []) ns 0).toNat, by omega, by omega⟩
            · rw [getD_app _ _ _ _ (by omega)]
              exact h.2 j h1 (by omega)
/-! the reference -/
theorem m_below {S : nk_S} {tx : List (List Int)} {P : Nat} (hP : P = 122 ∨ P = 168) {ns : List (List Int)} {us : List Int} (hC : rC S tx P ns us) (hu : uOk us) {d : Nat} : ∀ (n c m : Nat), c < n → c < ns.length → n < m → ja_X13_isAtOrBelow_L2 m P (d : Int) (c : Int) S = some (bi (anc us c d), S) := by
  obtain ⟨c1, c2, c3, c4, c5, c6⟩ := hC
  intro n
  induction n with
  | zero => intro c m h1; omega
  | succ n ih =>
    intro c m h1 h2 h3
    obtain ⟨m, rfl⟩ : ∃ q, m = q + 1 := ⟨m - 1, by omega⟩
    show ja_X13_isAtOrBelow_b2 (ja_X13_isAtOrBelow_L2 m) P (d : Int) (c : Int) S = _
    unfold ja_X13_isAtOrBelow_b2
    rw [if_neg (show ¬ (c : Int) < 0 by omega)]
    by_cases q : c = d
    · rw [if_pos (show (c : Int) = (d : Int) by omega), q, anc_self]
      unfold ja_X13_isAtOrBelow_b21
      rw [if_neg (by omega)]
      rfl
    · rw [if_neg (show ¬ (c : Int) = (d : Int) by omega), if_pos (in_i (N := 32) (by omega)), lt_eq, jc_P8 hP, Int.toNat_natCast, c4 c h2]
      by_cases q0 : c = 0
      · subst q0
        rw [hu.1]
        obtain ⟨m, rfl⟩ : ∃ q, m = q + 1 := ⟨m - 1, by omega⟩
        show ja_X13_isAtOrBelow_b2 (ja_X13_isAtOrBelow_L2 m) P (d : Int) (-1) S = _
        unfold ja_X13_isAtOrBelow_b2 ja_X13_isAtOrBelow_b21
        rw [if_pos (by decide), if_pos (by decide), anc_0 hu, decide_eq_false q]
        rfl
      · obtain ⟨u, u1, u2⟩ := hu.2 c (by omega) (by omega)
        rw [u1, ih u m (by omega) (by omega) (by omega), anc_s hu (by omega) (by omega) (by omega) u1, decide_eq_false q, Bool.false_or]
theorem m_anc {S : nk_S} {tx : List (List Int)} {P : Nat} (hP : P = 122 ∨ P = 168) {ns : List (List Int)} {us : List Int} (hC : rC S tx P ns us) (hu : uOk us) {c d : Nat} (hc : c < ns.length) : ja_X13_isAtOrBelow P (c : Int) (d : Int) S = some (bi (anc us c d), S) := by
  obtain ⟨m, hm⟩ := big_ge 100 (by decide)
  have := hC.2.1
  exact m_below hP hC hu 32 c nk_big (by omega) hc (by omega)
