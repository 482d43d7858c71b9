/-! The proof: what is known of a slot; order and join. -/
abbrev jW : Type := Nat × jR × (Nat → Bool) × Option Nat × (Nat → Bool)
abbrev jQ : Type := Nat → jW
def noS : Nat → Bool := fun _ => false
def onS (k : Nat) : Nat → Bool := fun j => decide (j = k)
def wU : jW := (0, (0, 0), noS, none, noS)
def wR (r : jR) : jW := (1, r, noS, none, noS)
def wS (s : Nat → Bool) : jW := (2, (0, 0), s, none, noS)
def sLe (a c : Nat → Bool) : Prop := ∀ j, a j = true → c j = true
def wle (a c : jW) : Prop := c.1 = 0 ∨ (a.1 = c.1 ∧ rle a.2.1 c.2.1 ∧ sLe a.2.2.1 c.2.2.1 ∧ (c.2.2.2.1 = none ∨ c.2.2.2.1 = a.2.2.2.1) ∧ sLe c.2.2.2.2 a.2.2.2.2)
def rJn (a c : jR) : jR := (min a.1 c.1, max a.2 c.2)
def sOr (a c : Nat → Bool) : Nat → Bool := fun j => a j || c j
def sAnd (a c : Nat → Bool) : Nat → Bool := fun j => a j && c j
def wJn (a c : jW) : jW := if a.1 = c.1 ∧ a.1 ≠ 0 then (a.1, rJn a.2.1 c.2.1, sOr a.2.2.1 c.2.2.1, if a.2.2.2.1 = c.2.2.2.1 then a.2.2.2.1 else none, sAnd a.2.2.2.2 c.2.2.2.2) else wU
/-- a slot of the right form -/
def wOk (F : Int → Prop) (w : jW) : Prop := (∀ k, w.2.2.2.1 = some k → k < 12) ∧ (∀ j, w.2.2.2.2 j = true → j < 48) ∧ ((w = wU) ∨ (w.1 = 1 ∧ rOk F w.2.1 ∧ w.2.2.1 = noS) ∨ (w.1 = 2 ∧ w.2.1 = (0, 0) ∧ (∃ j, w.2.2.1 j = true) ∧ ∀ j, w.2.2.1 j = true → j < 54 ∨ j = 62))
section SLT
variable {F : Int → Prop}
theorem wOk_k {w : jW} (h : wOk F w) : w.1 ≤ 2 := by
  rcases h.2.2 with q | q | q
  · rw [q]; decide
  · omega
  · omega
theorem wOk_0 {w : jW} (h : wOk F w) (h0 : w.1 = 0) : w = wU := by
  rcases h.2.2 with q | q | q
  · exact q
  · omega
  · omega
theorem wOk_1 {w : jW} (h : wOk F w) (h1 : w.1 = 1) : rOk F w.2.1 ∧ w.2.2.1 = noS := by
  rcases h.2.2 with q | q | q
  · rw [q] at h1; cases h1
  · exact q.2
  · omega
theorem wOk_2 {w : jW} (h : wOk F w) (h2 : w.1 = 2) : w.2.1 = (0, 0) ∧ (∃ j, w.2.2.1 j = true) ∧ ∀ j, w.2.2.1 j = true → j < 54 ∨ j = 62 := by
  rcases h.2.2 with q | q | q
  · rw [q] at h2; cases h2
  · omega
  · exact q.2
theorem sLe_refl (a : Nat → Bool) : sLe a a := fun _ h => h
theorem sLe_trans {a c d : Nat → Bool} (h : sLe a c) (k : sLe c d) : sLe a d := fun j x => k j (h j x)
theorem sLe_anti {a c : Nat → Bool} (h : sLe a c) (k : sLe c a) : a = c := by
  funext j
  cases ha : a j with
  | true => rw [h j ha]
  | false =>
    cases hc : c j with
    | true => rw [k j hc] at ha; cases ha
    | false => rfl
theorem wle_refl (a : jW) : wle a a := Or.inr ⟨rfl, rle_refl _, sLe_refl _, Or.inr rfl, sLe_refl _⟩
theorem wle_trans {a c d : jW} (h : wle a c) (k : wle c d) : wle a d := by
  rcases k with k | ⟨k1, k2, k3, k4, k5⟩
  · exact Or.inl k
  · rcases h with h | ⟨h1, h2, h3, h4, h5⟩
    · exact Or.inl (by omega)
    · refine Or.inr ⟨h1.trans k1, rle_trans h2 k2, sLe_trans h3 k3, ?_, sLe_trans k5 h5⟩
      rcases k4 with k4 | k4
      · exact Or.inl k4
      · rcases h4 with h4 | h4
        · rw [h4] at k4; exact Or.inl k4
        · rw [k4]; exact Or.inr h4
theorem wle_anti {a c : jW} (ha : wOk F a) (hc : wOk F c) (h : wle a c) (k : wle c a) : a = c := by
  rcases h with h | ⟨h1, h2, h3, h4, h5⟩
  · rw [wOk_0 hc h]
    rcases k with k | ⟨k1, -⟩
    · exact wOk_0 ha k
    · exact wOk_0 ha (by omega)
  · rcases k with k | ⟨k1, k2, k3, k4, k5⟩
    · rw [wOk_0 ha k, wOk_0 hc (by omega)]
    · obtain ⟨a1, a2, a3, a4, a5⟩ := a
      obtain ⟨c1, c2, c3, c4, c5⟩ := c
      dsimp only at *
      have e1 : a2 = c2 := by
        obtain ⟨x, y⟩ := a2
        obtain ⟨x', y'⟩ := c2
        unfold rle at h2 k2
        dsimp only at h2 k2
        have : x = x' := by omega
        have : y = y' := by omega
        subst x y
        rfl
      have e2 := sLe_anti h3 k3
      have e3 := sLe_anti k5 h5
      have e4 : a4 = c4 := by
        rcases h4 with q | q
        · rcases k4 with r | r
          · rw [q, r]
          · rw [r]
        · rw [q]
      rw [h1, e1, e2, e3, e4]
theorem wU_top (a : jW) : wle a wU := Or.inl rfl
theorem wJn_ub (a c : jW) : wle a (wJn a c) ∧ wle c (wJn a c) := by
  unfold wJn
  by_cases q : a.1 = c.1 ∧ a.1 ≠ 0
  · rw [if_pos q]
    refine ⟨Or.inr ⟨rfl, ⟨?_, ?_⟩, fun j hj => ?_, ?_, fun j hj => ?_⟩, Or.inr ⟨q.1.symm, ⟨?_, ?_⟩, fun j hj => ?_, ?_, fun j hj => ?_⟩⟩
    · exact Int.min_le_left _ _
    · exact Int.le_max_left _ _
    · show (a.2.2.1 j || c.2.2.1 j) = true
      rw [hj]; rfl
    · dsimp only
      by_cases e : a.2.2.2.1 = c.2.2.2.1
      · rw [if_pos e]; exact Or.inr rfl
      · rw [if_neg e]; exact Or.inl rfl
    · have hj : (a.2.2.2.2 j && c.2.2.2.2 j) = true := hj
      rw [Bool.and_eq_true] at hj
      exact hj.1
    · exact Int.min_le_right _ _
    · exact Int.le_max_right _ _
    · show (a.2.2.1 j || c.2.2.1 j) = true
      rw [hj, Bool.or_true]
    · dsimp only
      by_cases e : a.2.2.2.1 = c.2.2.2.1
      · rw [if_pos e]; exact Or.inr e
      · rw [if_neg e]; exact Or.inl rfl
    · have hj : (a.2.2.2.2 j && c.2.2.2.2 j) = true := hj
      rw [Bool.and_eq_true] at hj
      exact hj.2
  · rw [if_neg q]; exact ⟨wU_top _, wU_top _⟩
theorem wJn_lub {a c d : jW} (h : wle a d) (k : wle c d) : wle (wJn a c) d := by
  rcases h with h | ⟨h1, h2, h3, h4, h5⟩
  · exact Or.inl h
  rcases k with k | ⟨k1, k2, k3, k4, k5⟩
  · exact Or.inl k
  by_cases z : d.1 = 0
  · exact Or.inl z
  unfold wJn
  rw [if_pos ⟨by omega, by omega⟩]
  refine Or.inr ⟨h1, ⟨?_, ?_⟩, fun j hj => ?_, ?_, fun j hj => ?_⟩
  · show d.2.1.1 ≤ min a.2.1.1 c.2.1.1
    unfold rle at h2 k2
    omega
  · show max a.2.1.2 c.2.1.2 ≤ d.2.1.2
    unfold rle at h2 k2
    omega
  · have hj : (a.2.2.1 j || c.2.2.1 j) = true := hj
    rw [Bool.or_eq_true] at hj
    exact hj.elim (h3 j) (k3 j)
  · dsimp only
    rcases h4 with e | e
    · exact Or.inl e
    · rcases k4 with f | f
      · exact Or.inl f
      · rw [if_pos (by rw [← e, ← f])]
        exact Or.inr e
  · show (a.2.2.2.2 j && c.2.2.2.2 j) = true
    rw [h5 j hj, k5 j hj]; rfl
theorem wU_ok : wOk F wU := ⟨(fun k h => by cases h), (fun j h => by cases h), Or.inl rfl⟩
theorem wR_ok {r : jR} (h : rOk F r) : wOk F (wR r) := ⟨(fun k h => by cases h), (fun j h => by cases h), Or.inr (Or.inl ⟨rfl, h, rfl⟩)⟩
theorem wS_ok {s : Nat → Bool} (h : ∃ j, s j = true) (h2 : ∀ j, s j = true → j < 54 ∨ j = 62) : wOk F (wS s) := ⟨(fun k h => by cases h), (fun j h => by cases h), Or.inr (Or.inr ⟨rfl, rfl, h, h2⟩)⟩
theorem wJn_ok {a c : jW} (ha : wOk F a) (hc : wOk F c) : wOk F (wJn a c) := by
  unfold wJn
  by_cases q : a.1 = c.1 ∧ a.1 ≠ 0
  · rw [if_pos q]
    refine ⟨fun k hk => ?_, fun j hj => ?_, ?_⟩
    · dsimp only at hk
      by_cases e : a.2.2.2.1 = c.2.2.2.1
      · rw [if_pos e] at hk; exact ha.1 k hk
      · rw [if_neg e] at hk; cases hk
    · have hj : (a.2.2.2.2 j && c.2.2.2.2 j) = true := hj
      rw [Bool.and_eq_true] at hj
      exact ha.2.1 j hj.1
    · have hk := wOk_k ha
      by_cases e1 : a.1 = 1
      · right; left
        obtain ⟨a1, a2⟩ := wOk_1 ha e1
        obtain ⟨c1, c2⟩ := wOk_1 hc (by omega)
        refine ⟨e1, ⟨(mm_F a1.1 c1.1).2, (mm_F a1.2.1 c1.2.1).1, ?_⟩, ?_⟩
        · show min a.2.1.1 c.2.1.1 ≤ max a.2.1.2 c.2.1.2
          have := a1.2.2
          omega
        · dsimp only
          rw [a2, c2]; rfl
      · right; right
        obtain ⟨a1, ⟨j, a2⟩, a3⟩ := wOk_2 ha (by omega)
        obtain ⟨c1, -, c3⟩ := wOk_2 hc (by omega)
        refine ⟨by dsimp only; omega, ?_, ⟨j, ?_⟩, fun j hj => ?_⟩
        · dsimp only
          rw [a1, c1]; rfl
        · show (a.2.2.1 j || c.2.2.1 j) = true
          rw [a2]; rfl
        · have hj : (a.2.2.1 j || c.2.2.1 j) = true := hj
          rw [Bool.or_eq_true] at hj
          exact hj.elim (a3 j) (c3 j)
  · rw [if_neg q]; exact wU_ok
/-! rows -/
def qUp (w : jQ) (k : Nat) (v : jW) : jQ := fun i => if i = k then v else w i
def qLe (a c : jQ) : Prop := ∀ k, wle (a k) (c k)
def qRs (lc h : Nat) (w : jQ) : jQ := fun k => if rel lc h k then w k else wU
theorem qUp_at (w : jQ) (k : Nat) (v : jW) : qUp w k v k = v := by unfold qUp; rw [if_pos rfl]
theorem qUp_ne {w : jQ} {k i : Nat} {v : jW} (h : i ≠ k) : qUp w k v i = w i := by unfold qUp; rw [if_neg h]
theorem qLe_up {a c : jQ} {k : Nat} {v v' : jW} (h : qLe a c) (hv : wle v v') : qLe (qUp a k v) (qUp c k v') := by
  intro i
  unfold qUp
  by_cases e : i = k
  · rw [if_pos e, if_pos e]; exact hv
  · rw [if_neg e, if_neg e]; exact h i
theorem qLe_rs {a c : jQ} {lc g : Nat} (h : qLe a c) : qLe (qRs lc g a) (qRs lc g c) := by
  intro i
  unfold qRs
  by_cases e : rel lc g i
  · rw [if_pos e, if_pos e]; exact h i
  · rw [if_neg e, if_neg e]; exact wle_refl _
end SLT
