/-! Types: what goes where; solutions. -/
def tUp (u : Nat → Int) (k : Nat) (v : Int) : Nat → Int := fun i => if i = k then v else u i
def tAr (t : Int) : Bool := decide (t = 3) || (decide (4 < t) && decide (t % 2 = 1))
def tEl (t : Int) : Int := if t = 3 then 1 else t - 1
/-- the type that an instruction leaves; -3: nothing goes on -/
def tLf (fl : List (List Int × Nat × Int)) (bl : List jB) (sl : List Int) (x : jC) (u : Nat → Int) (low : Nat) : Int :=
  if x.1 = 1 then 2 else if x.1 = 2 then u x.2.1.toNat else if x.1 = 30 ∨ x.1 = 31 then sl.getD x.2.2.1.toNat 0
  else if x.1 = 33 then (if u low = 2 then -3 else if tAr (u low) = true then tEl (u low) else 0)
  else if x.1 = 35 then (match fl[x.2.1.toNat]? with
    | some y => y.2.2
    | none => 0)
  else if x.1 = 37 then x.2.1 else if x.1 = 39 ∨ x.1 = 40 then (match bl[x.2.1.toNat]? with
    | some y => y.rs
    | none => 0) else 1
/-- what an instruction does to the types -/
def tPf (fl : List (List Int × Nat × Int)) (bl : List jB) (sl : List Int) (x : jC) (h : Nat) (u : Nat → Int) : Option (Nat → Int) :=
  if x.1 = 3 then some (tUp u x.2.1.toNat (u (12 + h - 1)))
  else if x.1 = 5 then some (tUp u (12 + h) (u (12 + h - 1)))
  else if x.1 = 7 then some (tUp (tUp u (12 + h - 2) (u (12 + h - 2 + 1))) (12 + h - 2 + 1) (u (12 + h - 2)))
  else if lvX bl x = 0 then some u
  else if tLf fl bl sl x u (12 + h - tkX bl x) = -3 then none else some (tUp u (12 + h - tkX bl x) (tLf fl bl sl x u (12 + h - tkX bl x)))
abbrev rel (lc h k : Nat) : Prop := k < lc ∨ (12 ≤ k ∧ k < 12 + h)
def rst (lc h : Nat) (w : Nat → Int) : Nat → Int := fun k => if rel lc h k then w k else 0
abbrev jX : Type := Nat → Option (Nat → Int)
def vle (us : List Int) (u w : Nat → Int) : Prop := ∀ k, tLe us (u k) (w k) = true
def tEd (fl : List (List Int × Nat × Int)) (bl : List jB) (z : jL) (b lc : Nat) (M : Nat → Nat) (i : Nat) (x : jC) (u : Nat → Int) (j : Nat) (w : Nat → Int) : Prop :=
  (∃ v, tPf fl bl z.2.1 x (hgt (M i)) u = some v ∧ w = rst lc (hgt (M j)) v ∧ ((fal x.1 = true ∧ j = i + 1) ∨ (19 ≤ x.1 ∧ x.1 ≤ 29 ∧ j = x.2.1.toNat))) ∨ ∃ (k : Nat) (y : Nat × Nat × Nat × Nat × Nat), z.2.2.1[k]? = some y ∧ y.1 = b ∧ y.2.1 ≤ i ∧ i < y.2.2.1 ∧ j = y.2.2.2.1 ∧ w = rst lc (hgt (M j)) (tUp u 12 (4 + 2 * (y.2.2.2.2 : Int)))
def tIn (x : jB) : Nat → Int := fun k => if k < x.ps.length then x.ps.getD k 0 else 0
/-- a row of types -/
def tRow (us : List Int) (lc h : Nat) (u : Nat → Int) : Prop := ∀ k, tV us (u k) ∧ (¬ rel lc h k → u k = 0)
def tOK (us : List Int) (lc : Nat) (M : Nat → Nat) (e : Nat × Nat × Nat × Nat) (X : jX) : Prop := ∀ i u, X i = some u → e.1 ≤ i ∧ i < e.2.1 ∧ M i ≠ 0 ∧ tRow us lc (hgt (M i)) u
def tBe (us : List Int) (X Y : jX) : Prop := ∀ i u, X i = some u → ∃ t, Y i = some t ∧ vle us u t
/-- all that goes out of where X stands comes in -/
def tCl (us : List Int) (fl : List (List Int × Nat × Int)) (bl : List jB) (z : jL) (b lc : Nat) (M : Nat → Nat) (X : jX) (i : Nat) : Prop := ∀ x u, z.1[i]? = some x → X i = some u → ∀ j w, tEd fl bl z b lc M i x u j w → ∃ t, X j = some t ∧ vle us w t
def tSol (us : List Int) (fl : List (List Int × Nat × Int)) (bl : List jB) (z : jL) (b : Nat) (xb : jB) (M : Nat → Nat) (e : Nat × Nat × Nat × Nat) (Y : jX) : Prop := tOK us xb.lc.toNat M e Y ∧ (∃ u, Y e.1 = some u ∧ vle us (tIn xb) u) ∧ ∀ i, tCl us fl bl z b xb.lc.toNat M Y i
section TSP
variable {ns : List (List Int)} {us : List Int} {fl : List (List Int × Nat × Int)} {bl : List jB} {z : jL}
theorem vle_refl (u : Nat → Int) : vle us u u := fun k => tLe_refl _
theorem vle_up {u w : Nat → Int} {k : Nat} {a c : Int} (h : vle us u w) (h2 : tLe us a c = true) : vle us (tUp u k a) (tUp w k c) := by
  intro i
  unfold tUp
  by_cases e : i = k
  · rw [if_pos e, if_pos e]; exact h2
  · rw [if_neg e, if_neg e]; exact h i
theorem vle_rst {lc h : Nat} {u w : Nat → Int} (hh : vle us u w) : vle us (rst lc h u) (rst lc h w) := by
  intro i
  unfold rst
  by_cases e : rel lc h i
  · rw [if_pos e, if_pos e]; exact hh i
  · rw [if_neg e, if_neg e]; exact tLe_refl _
theorem tE_mono {s t : Int} (h : tLe us s t = true) (h2 : s ≠ 2) : t ≠ 2 ∧ tLe us (if tAr s = true then tEl s else 0) (if tAr t = true then tEl t else 0) = true := by
  have ht : t ≠ 2 := by
    intro e
    rcases (tLe_iff s t).mp h with a | a | a <;> omega
  refine ⟨ht, ?_⟩
  by_cases c : tAr t = true
  · have c' : t = 3 ∨ (4 < t ∧ t % 2 = 1) := by
      unfold tAr at c
      simpa using c
    rcases (tLe_iff s t).mp h with a | a | ⟨a1, a2, a | a | ⟨a3, a4, a5, a6⟩⟩
    · rw [a]; exact tLe_refl _
    · omega
    · omega
    · omega
    · have hs : tAr s = true := by
        unfold tAr
        have : 4 < s ∧ s % 2 = 1 := by omega
        simp [this]
      rw [if_pos hs, if_pos c]
      unfold tEl
      rw [if_neg a3, if_neg a4]
      refine (tLe_iff _ _).mpr (Or.inr (Or.inr ⟨by omega, by omega, Or.inr (Or.inr ⟨by omega, by omega, by omega, ?_⟩)⟩))
      have e1 : cl (s - 1) = cl s := by unfold cl; omega
      have e2 : cl (t - 1) = cl t := by unfold cl; omega
      rw [e1, e2]; exact a6
  · rw [if_neg c]
    exact (tLe_iff _ _).mpr (Or.inr (Or.inl rfl))
theorem tLf_mono {sl : List Int} {x : jC} {u w : Nat → Int} {low : Nat} (h : vle us u w) (h3 : tLf fl bl sl x u low ≠ -3) : tLf fl bl sl x w low ≠ -3 ∨ x.1 ≠ 33 := by
  by_cases c : x.1 = 33
  · left
    unfold tLf at h3 ⊢
    rw [if_neg (by omega), if_neg (by omega), if_neg (by omega), if_pos c] at h3 ⊢
    have h2 : u low ≠ 2 := fun e => h3 (by rw [if_pos e])
    have ht := (tE_mono (h low) h2).1
    rw [if_neg ht]
    by_cases d : tAr (w low) = true
    · rw [if_pos d]
      unfold tEl
      unfold tAr at d
      by_cases e : w low = 3
      · rw [if_pos e]; decide
      · rw [if_neg e]
        have : 4 < w low := by
          simp [e] at d
          exact d.1
        omega
    · rw [if_neg d]; decide
  · exact Or.inr c
theorem tLf_le {sl : List Int} {x : jC} {u w : Nat → Int} {low : Nat} (h : vle us u w) (h3 : tLf fl bl sl x u low ≠ -3) : tLe us (tLf fl bl sl x u low) (tLf fl bl sl x w low) = true := by
  unfold tLf at h3 ⊢
  by_cases c1 : x.1 = 1
  · rw [if_pos c1, if_pos c1]; exact tLe_refl _
  rw [if_neg c1] at h3 ⊢
  rw [if_neg c1]
  by_cases c2 : x.1 = 2
  · rw [if_pos c2, if_pos c2]; exact h _
  rw [if_neg c2] at h3 ⊢
  rw [if_neg c2]
  by_cases c3 : x.1 = 30 ∨ x.1 = 31
  · rw [if_pos c3, if_pos c3]; exact tLe_refl _
  rw [if_neg c3] at h3 ⊢
  rw [if_neg c3]
  by_cases c4 : x.1 = 33
  · rw [if_pos c4] at h3 ⊢
    rw [if_pos c4]
    have h2 : u low ≠ 2 := fun e => h3 (by rw [if_pos e])
    obtain ⟨t1, t2⟩ := tE_mono (h low) h2
    rw [if_neg h2, if_neg t1]
    exact t2
  rw [if_neg c4, if_neg c4]
  exact tLe_refl _
theorem tPf_mono {sl : List Int} {x : jC} {h : Nat} {u w v : Nat → Int} (hle : vle us u w) (hw : ∀ k, 0 ≤ w k) (hn : x.1 = 30 ∨ x.1 = 31 ∨ x.1 = 35 ∨ x.1 = 37 ∨ x.1 = 39 ∨ x.1 = 40 → ∀ (a : Nat → Int) l, tLf fl bl sl x a l ≠ -3) (hp : tPf fl bl sl x h u = some v) : ∃ v', tPf fl bl sl x h w = some v' ∧ vle us v v' := by
  unfold tPf at hp ⊢
  by_cases c1 : x.1 = 3
  · rw [if_pos c1] at hp ⊢
    cases hp
    exact ⟨_, rfl, vle_up hle (hle _)⟩
  rw [if_neg c1] at hp ⊢
  by_cases c2 : x.1 = 5
  · rw [if_pos c2] at hp ⊢
    cases hp
    exact ⟨_, rfl, vle_up hle (hle _)⟩
  rw [if_neg c2] at hp ⊢
  by_cases c3 : x.1 = 7
  · rw [if_pos c3] at hp ⊢
    cases hp
    exact ⟨_, rfl, vle_up (vle_up hle (hle _)) (hle _)⟩
  rw [if_neg c3] at hp ⊢
  by_cases c4 : lvX bl x = 0
  · rw [if_pos c4] at hp ⊢
    cases hp
    exact ⟨_, rfl, hle⟩
  rw [if_neg c4] at hp ⊢
  by_cases c5 : tLf fl bl sl x u (12 + h - tkX bl x) = -3
  · rw [if_pos c5] at hp; cases hp
  rw [if_neg c5] at hp
  cases hp
  have ne : tLf fl bl sl x w (12 + h - tkX bl x) ≠ -3 := by
    rcases tLf_mono hle c5 with k | k
    · exact k
    · by_cases c6 : x.1 = 30 ∨ x.1 = 31 ∨ x.1 = 35 ∨ x.1 = 37 ∨ x.1 = 39 ∨ x.1 = 40
      · exact hn c6 _ _
      · unfold tLf
        by_cases d1 : x.1 = 1
        · rw [if_pos d1]; decide
        rw [if_neg d1]
        by_cases d2 : x.1 = 2
        · rw [if_pos d2]; have := hw x.2.1.toNat; omega
        rw [if_neg d2, if_neg (by omega), if_neg k, if_neg (by omega), if_neg (by omega), if_neg (by omega)]; decide
  rw [if_neg ne]
  exact ⟨_, rfl, vle_up hle (tLf_le hle c5)⟩
end TSP
