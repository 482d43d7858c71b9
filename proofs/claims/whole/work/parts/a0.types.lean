/-! Types: below and join, one function for both sides. -/
section TYL
variable {us : List Int}
theorem anc_root (h : uOk us) (h32 : us.length ≤ 32) : ∀ n c, c < n → c < us.length → anc us c 0 = true := by
  intro n
  induction n with
  | zero => intro c h1; omega
  | succ n ih =>
    intro c h1 h2
    by_cases q : c = 0
    · subst q; exact anc_self 0
    · obtain ⟨u, u1, u2⟩ := h.2 c (by omega) h2
      rw [anc_s h (by omega) h2 h32 u1, ih u (by omega) (by omega), Bool.or_true]
/-- the nearest class above both -/
def lcF (us : List Int) : Nat → Nat → Nat → Nat
  | 0, a, _ => a
  | n + 1, a, b => if anc us b a = true then a else lcF us n (us.getD a 0).toNat b
def lca (us : List Int) (a b : Nat) : Nat := lcF us 64 a b
theorem lcF_k (h : uOk us) (h32 : us.length ≤ 32) {b : Nat} (hb : b < us.length) : ∀ n a, a < n → a < us.length → anc us a (lcF us n a b) = true ∧ anc us b (lcF us n a b) = true ∧ lcF us n a b ≤ a ∧ ∀ d, anc us a d = true → anc us b d = true → anc us (lcF us n a b) d = true := by
  intro n
  induction n with
  | zero => intro a h1; omega
  | succ n ih =>
    intro a h1 h2
    rw [lcF]
    by_cases c : anc us b a = true
    · rw [if_pos c]; exact ⟨anc_self a, c, Nat.le_refl _, fun d h _ => h⟩
    · rw [if_neg c]
      by_cases q : a = 0
      · subst q; exact absurd (anc_root h h32 _ b (Nat.lt_succ_self b) hb) c
      · obtain ⟨u, u1, u2⟩ := h.2 a (by omega) h2
        rw [u1, Int.toNat_natCast]
        obtain ⟨i1, i2, i3, i4⟩ := ih u (by omega) (by omega)
        refine ⟨?_, i2, by omega, fun d hd hbd => ?_⟩
        · rw [anc_s h (by omega) h2 h32 u1, i1, Bool.or_true]
        · rw [anc_s h (by omega) h2 h32 u1, Bool.or_eq_true] at hd
          rcases hd with hd | hd
          · have := of_decide_eq_true hd
            rw [← this] at hbd
            exact absurd hbd c
          · exact i4 d hd hbd
theorem lca_k (h : uOk us) (h32 : us.length ≤ 32) {a b : Nat} (ha : a < us.length) (hb : b < us.length) : anc us a (lca us a b) = true ∧ anc us b (lca us a b) = true ∧ lca us a b ≤ a ∧ ∀ d, anc us a d = true → anc us b d = true → anc us (lca us a b) d = true := lcF_k h h32 hb 64 a (by omega) ha
/-- a type's class -/
def cl (t : Int) : Nat := ((t - 4) / 2).toNat
def tV (us : List Int) (t : Int) : Prop := 0 ≤ t ∧ t < 4 + 2 * (us.length : Int)
def tLe (us : List Int) (s t : Int) : Bool := if s = t then true else if t = 0 then true else if s < 2 then false else if 2 < t then (if s = 2 then true else if t = 4 then true else if s = 3 then false else if t = 3 then false else if s % 2 = t % 2 then anc us (cl s) (cl t) else false) else false
def tJn (us : List Int) (s t : Int) : Int := if s = t then s else if s < 2 then 0 else if 2 ≤ t then (if s = 2 then t else if t = 2 then s else if s = 3 then 4 else if t = 3 then 4 else if s % 2 = t % 2 then 4 + 2 * (lca us (cl s) (cl t) : Int) + s % 2 else 4) else 0
theorem tLe_iff (s t : Int) : tLe us s t = true ↔ s = t ∨ t = 0 ∨ (2 ≤ s ∧ 2 < t ∧ (s = 2 ∨ t = 4 ∨ (s ≠ 3 ∧ t ≠ 3 ∧ s % 2 = t % 2 ∧ anc us (cl s) (cl t) = true))) := by
  unfold tLe
  by_cases c1 : s = t
  · rw [if_pos c1]; exact ⟨fun _ => Or.inl c1, fun _ => rfl⟩
  rw [if_neg c1]
  by_cases c2 : t = 0
  · rw [if_pos c2]; exact ⟨fun _ => Or.inr (Or.inl c2), fun _ => rfl⟩
  rw [if_neg c2]
  by_cases c3 : s < 2
  · rw [if_pos c3]; exact ⟨fun h => (by cases h), fun h => by omega⟩
  rw [if_neg c3]
  by_cases c4 : 2 < t
  · rw [if_pos c4]
    by_cases c5 : s = 2
    · rw [if_pos c5]; exact ⟨fun _ => Or.inr (Or.inr ⟨by omega, c4, Or.inl c5⟩), fun _ => rfl⟩
    rw [if_neg c5]
    by_cases c6 : t = 4
    · rw [if_pos c6]; exact ⟨fun _ => Or.inr (Or.inr ⟨by omega, c4, Or.inr (Or.inl c6)⟩), fun _ => rfl⟩
    rw [if_neg c6]
    by_cases c7 : s = 3
    · rw [if_pos c7]; exact ⟨fun h => (by cases h), fun h => by omega⟩
    rw [if_neg c7]
    by_cases c8 : t = 3
    · rw [if_pos c8]; exact ⟨fun h => (by cases h), fun h => by omega⟩
    rw [if_neg c8]
    by_cases c9 : s % 2 = t % 2
    · rw [if_pos c9]
      exact ⟨fun h => Or.inr (Or.inr ⟨by omega, c4, Or.inr (Or.inr ⟨c7, c8, c9, h⟩)⟩), fun h => by
        rcases h with h | h | ⟨_, _, h | h | h⟩
        · exact absurd h c1
        · exact absurd h c2
        · exact absurd h c5
        · exact absurd h c6
        · exact h.2.2.2⟩
    · rw [if_neg c9]; exact ⟨fun h => (by cases h), fun h => by omega⟩
  · rw [if_neg c4]; exact ⟨fun h => (by cases h), fun h => by omega⟩
theorem tLe_refl (s : Int) : tLe us s s = true := (tLe_iff s s).mpr (Or.inl rfl)
theorem cl_lt {t : Int} (h : tV us t) (h4 : 4 ≤ t) : cl t < us.length := by
  unfold cl tV at *
  omega
theorem tLe_trans (h : uOk us) (h32 : us.length ≤ 32) {s t r : Int} (vs : tV us s) (vr : tV us r) (h1 : tLe us s t = true) (h2 : tLe us t r = true) : tLe us s r = true := by
  rw [tLe_iff] at h1 h2 ⊢
  rcases h1 with a | a | ⟨a1, a2, a3⟩
  · rw [a]; exact h2
  · rcases h2 with b | b | b
    · exact Or.inr (Or.inl (by omega))
    · exact Or.inr (Or.inl b)
    · omega
  · rcases h2 with b | b | ⟨b1, b2, b3⟩
    · rw [← b]; exact Or.inr (Or.inr ⟨a1, a2, a3⟩)
    · exact Or.inr (Or.inl b)
    · refine Or.inr (Or.inr ⟨a1, b2, ?_⟩)
      rcases b3 with b | b | ⟨b4, b5, b6, b7⟩
      · omega
      · exact Or.inr (Or.inl b)
      · rcases a3 with a | a | ⟨a4, a5, a6, a7⟩
        · exact Or.inl a
        · have hz : cl t = 0 := by unfold cl; omega
          rw [hz, anc_0 h] at b7
          have := of_decide_eq_true b7
          unfold cl at this
          exact Or.inr (Or.inl (by omega))
        · by_cases q : s = 2
          · exact Or.inl q
          · exact Or.inr (Or.inr ⟨a4, b5, by omega, anc_trans h h32 _ _ _ _ (Nat.lt_succ_self _) (cl_lt vs (by omega)) a7 b7⟩)
theorem tLe_anti (h : uOk us) (h32 : us.length ≤ 32) {s t : Int} (vs : tV us s) (vt : tV us t) (h1 : tLe us s t = true) (h2 : tLe us t s = true) : s = t := by
  rw [tLe_iff] at h1 h2
  rcases h1 with a | a | ⟨a1, a2, a3⟩
  · exact a
  · rcases h2 with b | b | b
    · exact b.symm
    · omega
    · omega
  · rcases h2 with b | b | ⟨b1, b2, b3⟩
    · exact b.symm
    · omega
    · rcases a3 with a | a | ⟨a4, a5, a6, a7⟩
      · omega
      · rcases b3 with b | b | ⟨b4, b5, b6, b7⟩
        · omega
        · omega
        · have hz : cl t = 0 := by unfold cl; omega
          rw [hz, anc_0 h] at b7
          have := of_decide_eq_true b7
          unfold cl at this
          omega
      · rcases b3 with b | b | ⟨b4, b5, b6, b7⟩
        · omega
        · have hz : cl s = 0 := by unfold cl; omega
          rw [hz, anc_0 h] at a7
          have := of_decide_eq_true a7
          unfold cl at this
          omega
        · have l1 := anc_le h h32 _ _ _ (Nat.lt_succ_self _) (cl_lt vs (by omega)) a7
          have l2 := anc_le h h32 _ _ _ (Nat.lt_succ_self _) (cl_lt vt (by omega)) b7
          unfold cl at l1 l2
          omega
/-- the cases of a join -/
theorem tJn_k (s t : Int) : (s = t ∧ tJn us s t = s) ∨ (s ≠ t ∧ (s < 2 ∨ t < 2) ∧ tJn us s t = 0) ∨ (s = 2 ∧ 2 < t ∧ tJn us s t = t) ∨ (t = 2 ∧ 2 < s ∧ tJn us s t = s) ∨ (s ≠ t ∧ 2 < s ∧ 2 < t ∧ (s = 3 ∨ t = 3 ∨ s % 2 ≠ t % 2) ∧ tJn us s t = 4) ∨ (s ≠ t ∧ 3 < s ∧ 3 < t ∧ s % 2 = t % 2 ∧ tJn us s t = 4 + 2 * (lca us (cl s) (cl t) : Int) + s % 2) := by
  unfold tJn
  by_cases c1 : s = t
  · rw [if_pos c1]; exact Or.inl ⟨c1, rfl⟩
  rw [if_neg c1]
  by_cases c3 : s < 2
  · rw [if_pos c3]; exact Or.inr (Or.inl ⟨c1, Or.inl c3, rfl⟩)
  rw [if_neg c3]
  by_cases c4 : 2 ≤ t
  · rw [if_pos c4]
    by_cases c5 : s = 2
    · rw [if_pos c5]; exact Or.inr (Or.inr (Or.inl ⟨c5, by omega, rfl⟩))
    rw [if_neg c5]
    by_cases c6 : t = 2
    · rw [if_pos c6]; exact Or.inr (Or.inr (Or.inr (Or.inl ⟨c6, by omega, rfl⟩)))
    rw [if_neg c6]
    by_cases c7 : s = 3
    · rw [if_pos c7]; exact Or.inr (Or.inr (Or.inr (Or.inr (Or.inl ⟨c1, by omega, by omega, Or.inl c7, rfl⟩))))
    rw [if_neg c7]
    by_cases c8 : t = 3
    · rw [if_pos c8]; exact Or.inr (Or.inr (Or.inr (Or.inr (Or.inl ⟨c1, by omega, by omega, Or.inr (Or.inl c8), rfl⟩))))
    rw [if_neg c8]
    by_cases c9 : s % 2 = t % 2
    · rw [if_pos c9]; exact Or.inr (Or.inr (Or.inr (Or.inr (Or.inr ⟨c1, by omega, by omega, c9, rfl⟩))))
    · rw [if_neg c9]; exact Or.inr (Or.inr (Or.inr (Or.inr (Or.inl ⟨c1, by omega, by omega, Or.inr (Or.inr c9), rfl⟩))))
  · rw [if_neg c4]; exact Or.inr (Or.inl ⟨c1, Or.inr (by omega), rfl⟩)
theorem cl_j {L : Nat} {s : Int} : cl (4 + 2 * (L : Int) + s % 2) = L ∧ (4 + 2 * (L : Int) + s % 2) % 2 = s % 2 := by
  unfold cl
  omega
theorem tJn_v (h : uOk us) (h32 : us.length ≤ 32) {s t : Int} (h1 : 1 ≤ us.length) (vs : tV us s) (vt : tV us t) : tV us (tJn us s t) := by
  rcases tJn_k (us := us) s t with ⟨_, e⟩ | ⟨_, _, e⟩ | ⟨_, _, e⟩ | ⟨_, _, e⟩ | ⟨_, _, _, _, e⟩ | ⟨_, a1, a2, _, e⟩
  · rw [e]; exact vs
  · rw [e]; unfold tV; omega
  · rw [e]; exact vt
  · rw [e]; exact vs
  · rw [e]; unfold tV; omega
  · rw [e]
    have := (lca_k h h32 (cl_lt vs (by omega)) (cl_lt vt (by omega))).2.2.1
    have := cl_lt vs (by omega)
    unfold tV
    omega
theorem tJn_ub (h : uOk us) (h32 : us.length ≤ 32) {s t : Int} (vs : tV us s) (vt : tV us t) : tLe us s (tJn us s t) = true ∧ tLe us t (tJn us s t) = true := by
  rcases tJn_k (us := us) s t with ⟨a, e⟩ | ⟨_, _, e⟩ | ⟨a1, a2, e⟩ | ⟨a1, a2, e⟩ | ⟨_, a1, a2, _, e⟩ | ⟨_, a1, a2, a3, e⟩
  · rw [e, ← a]; exact ⟨tLe_refl _, tLe_refl _⟩
  · rw [e]; exact ⟨(tLe_iff _ _).mpr (Or.inr (Or.inl rfl)), (tLe_iff _ _).mpr (Or.inr (Or.inl rfl))⟩
  · rw [e]; exact ⟨(tLe_iff _ _).mpr (Or.inr (Or.inr ⟨by omega, a2, Or.inl a1⟩)), tLe_refl _⟩
  · rw [e]; exact ⟨tLe_refl _, (tLe_iff _ _).mpr (Or.inr (Or.inr ⟨by omega, a2, Or.inl a1⟩))⟩
  · rw [e]; exact ⟨(tLe_iff _ _).mpr (Or.inr (Or.inr ⟨by omega, by omega, Or.inr (Or.inl rfl)⟩)), (tLe_iff _ _).mpr (Or.inr (Or.inr ⟨by omega, by omega, Or.inr (Or.inl rfl)⟩))⟩
  · obtain ⟨k1, k2, k3, k4⟩ := lca_k h h32 (cl_lt vs (by omega)) (cl_lt vt (by omega))
    obtain ⟨j1, j2⟩ := cl_j (L := lca us (cl s) (cl t)) (s := s)
    rw [e]
    refine ⟨(tLe_iff _ _).mpr (Or.inr (Or.inr ⟨by omega, by omega, Or.inr (Or.inr ⟨by omega, by omega, by omega, ?_⟩)⟩)), (tLe_iff _ _).mpr (Or.inr (Or.inr ⟨by omega, by omega, Or.inr (Or.inr ⟨by omega, by omega, by omega, ?_⟩)⟩))⟩
    · rw [j1]; exact k1
    · rw [j1]; exact k2
/-- below a type other than unset: an arrow up the tree -/
theorem tLe_up {s r : Int} (h : tLe us s r = true) (h3 : 3 < s) (h0 : r ≠ 0) : r = 4 ∨ (3 < r ∧ r % 2 = s % 2 ∧ anc us (cl s) (cl r) = true) := by
  rcases (tLe_iff s r).mp h with a | a | ⟨a1, a2, a | a | ⟨a4, a5, a6, a7⟩⟩
  · right; rw [← a]; exact ⟨h3, rfl, anc_self _⟩
  · exact absurd a h0
  · omega
  · exact Or.inl a
  · exact Or.inr ⟨by omega, a6.symm, a7⟩
theorem tJn_lub (h : uOk us) (h32 : us.length ≤ 32) {s t r : Int} (vs : tV us s) (vt : tV us t) (h1 : tLe us s r = true) (h2 : tLe us t r = true) : tLe us (tJn us s t) r = true := by
  by_cases h0 : r = 0
  · exact (tLe_iff _ _).mpr (Or.inr (Or.inl h0))
  rcases tJn_k (us := us) s t with ⟨a, e⟩ | ⟨a, a1, e⟩ | ⟨a1, a2, e⟩ | ⟨a1, a2, e⟩ | ⟨a, a1, a2, a3, e⟩ | ⟨a, a1, a2, a3, e⟩
  · rw [e]; exact h1
  · exfalso
    rcases (tLe_iff s r).mp h1 with b | b | b
    · rcases (tLe_iff t r).mp h2 with c | c | c
      · omega
      · omega
      · omega
    · omega
    · rcases (tLe_iff t r).mp h2 with c | c | c
      · omega
      · omega
      · omega
  · rw [e]; exact h2
  · rw [e]; exact h1
  · rw [e]
    have : r = 4 := by
      rcases (tLe_iff s r).mp h1 with b | b | ⟨b1, b2, b | b | b⟩
      · rcases (tLe_iff t r).mp h2 with c | c | ⟨c1, c2, c | c | c⟩ <;> omega
      · omega
      · omega
      · exact b
      · rcases (tLe_iff t r).mp h2 with c | c | ⟨c1, c2, c | c | c⟩ <;> omega
    rw [this]; exact tLe_refl _
  · obtain ⟨k1, k2, k3, k4⟩ := lca_k h h32 (cl_lt vs (by omega)) (cl_lt vt (by omega))
    obtain ⟨j1, j2⟩ := cl_j (L := lca us (cl s) (cl t)) (s := s)
    rw [e]
    rcases tLe_up h1 a1 h0 with b | ⟨b1, b2, b3⟩
    · exact (tLe_iff _ _).mpr (Or.inr (Or.inr ⟨by omega, by omega, Or.inr (Or.inl b)⟩))
    rcases tLe_up h2 a2 h0 with c | ⟨c1, c2, c3⟩
    · exact (tLe_iff _ _).mpr (Or.inr (Or.inr ⟨by omega, by omega, Or.inr (Or.inl c)⟩))
    refine (tLe_iff _ _).mpr (Or.inr (Or.inr ⟨by omega, by omega, Or.inr (Or.inr ⟨by omega, by omega, by omega, ?_⟩)⟩))
    rw [j1]
    exact k4 _ b3 c3
/-- how far a type can rise -/
def rk (t : Int) : Nat := if t = 0 then 0 else if t = 1 then 1 else if t = 2 then 200 else if t = 3 then 2 else ((t - 4) / 2).toNat + 1 + (t % 2).toNat
theorem rk_le (h32 : us.length ≤ 32) {t : Int} (h : tV us t) : rk t ≤ 200 := by
  unfold rk tV at *
  split
  · omega
  · split
    · omega
    · split
      · omega
      · split <;> omega
theorem tJn_rk (h : uOk us) (h32 : us.length ≤ 32) {s t : Int} (vs : tV us s) (vt : tV us t) (hne : tJn us s t ≠ s) : rk (tJn us s t) < rk s := by
  unfold tV at vs vt
  rcases tJn_k (us := us) s t with ⟨a, e⟩ | ⟨a, a1, e⟩ | ⟨a1, a2, e⟩ | ⟨a1, a2, e⟩ | ⟨a, a1, a2, a3, e⟩ | ⟨a, a1, a2, a3, e⟩
  · exact absurd e hne
  · rw [e] at hne ⊢
    unfold rk
    rw [if_pos rfl, if_neg (Ne.symm hne)]
    split
    · omega
    · split
      · omega
      · split <;> omega
  · rw [e]
    unfold rk
    rw [if_neg (by omega), if_neg (by omega), if_neg (by omega), if_neg (show ¬ s = 0 by omega), if_neg (show ¬ s = 1 by omega), if_pos a1]
    split <;> omega
  · exact absurd e hne
  · rw [e] at hne ⊢
    unfold rk
    rw [if_neg (by decide), if_neg (by decide), if_neg (by decide), if_neg (by decide), if_neg (show ¬ s = 0 by omega), if_neg (show ¬ s = 1 by omega), if_neg (show ¬ s = 2 by omega)]
    split <;> omega
  · have l := (lca_k h h32 (cl_lt (us := us) (t := s) vs (by omega)) (cl_lt (us := us) (t := t) vt (by omega))).2.2.1
    rw [e] at hne ⊢
    unfold rk
    have e1 : cl s = ((s - 4) / 2).toNat := rfl
    rw [if_neg (by omega), if_neg (by omega), if_neg (by omega), if_neg (by omega), if_neg (show ¬ s = 0 by omega), if_neg (show ¬ s = 1 by omega), if_neg (show ¬ s = 2 by omega), if_neg (show ¬ s = 3 by omega)]
    omega
end TYL
