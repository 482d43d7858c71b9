/-! The thresholds of a program. -/
/-- the greatest of a list that is not above -/
def lDn (L : List Int) (v : Int) : Int := L.foldl (fun m y => if y ≤ v ∧ m < y then y else m) (-2147483648)
def lUp (L : List Int) (v : Int) : Int := L.foldl (fun m y => if v ≤ y ∧ y < m then y else m) 2147483647
theorem foldl_dn (v : Int) : ∀ (L : List Int) (m : Int), m ≤ v → (L.foldl (fun m y => if y ≤ v ∧ m < y then y else m) m = m ∨ L.foldl (fun m y => if y ≤ v ∧ m < y then y else m) m ∈ L) ∧ L.foldl (fun m y => if y ≤ v ∧ m < y then y else m) m ≤ v ∧ m ≤ L.foldl (fun m y => if y ≤ v ∧ m < y then y else m) m ∧ ∀ y ∈ L, y ≤ v → y ≤ L.foldl (fun m y => if y ≤ v ∧ m < y then y else m) m := by
  intro L
  induction L with
  | nil => intro m hm; exact ⟨Or.inl rfl, hm, Int.le_refl _, fun y hy => by cases hy⟩
  | cons a L ih =>
    intro m hm
    rw [List.foldl_cons]
    by_cases c : a ≤ v ∧ m < a
    · rw [if_pos c]
      obtain ⟨h1, h2, h3, h4⟩ := ih a c.1
      refine ⟨Or.inr ?_, h2, by omega, fun y hy hyv => ?_⟩
      · rcases h1 with q | q
        · rw [q]; exact List.mem_cons_self
        · exact List.mem_cons_of_mem _ q
      · rcases List.mem_cons.mp hy with q | q
        · rw [q]; exact h3
        · exact h4 y q hyv
    · rw [if_neg c]
      obtain ⟨h1, h2, h3, h4⟩ := ih m hm
      refine ⟨?_, h2, h3, fun y hy hyv => ?_⟩
      · rcases h1 with q | q
        · exact Or.inl q
        · exact Or.inr (List.mem_cons_of_mem _ q)
      · rcases List.mem_cons.mp hy with q | q
        · rw [q] at hyv ⊢; omega
        · exact h4 y q hyv
theorem foldl_up (v : Int) : ∀ (L : List Int) (m : Int), v ≤ m → (L.foldl (fun m y => if v ≤ y ∧ y < m then y else m) m = m ∨ L.foldl (fun m y => if v ≤ y ∧ y < m then y else m) m ∈ L) ∧ v ≤ L.foldl (fun m y => if v ≤ y ∧ y < m then y else m) m ∧ L.foldl (fun m y => if v ≤ y ∧ y < m then y else m) m ≤ m ∧ ∀ y ∈ L, v ≤ y → L.foldl (fun m y => if v ≤ y ∧ y < m then y else m) m ≤ y := by
  intro L
  induction L with
  | nil => intro m hm; exact ⟨Or.inl rfl, hm, Int.le_refl _, fun y hy => by cases hy⟩
  | cons a L ih =>
    intro m hm
    rw [List.foldl_cons]
    by_cases c : v ≤ a ∧ a < m
    · rw [if_pos c]
      obtain ⟨h1, h2, h3, h4⟩ := ih a c.1
      refine ⟨Or.inr ?_, h2, by omega, fun y hy hyv => ?_⟩
      · rcases h1 with q | q
        · rw [q]; exact List.mem_cons_self
        · exact List.mem_cons_of_mem _ q
      · rcases List.mem_cons.mp hy with q | q
        · rw [q]; exact h3
        · exact h4 y q hyv
    · rw [if_neg c]
      obtain ⟨h1, h2, h3, h4⟩ := ih m hm
      refine ⟨?_, h2, h3, fun y hy hyv => ?_⟩
      · rcases h1 with q | q
        · exact Or.inl q
        · exact Or.inr (List.mem_cons_of_mem _ q)
      · rcases List.mem_cons.mp hy with q | q
        · rw [q] at hyv ⊢; omega
        · exact h4 y q hyv
/-- a number and its neighbours -/
def lNb (x : Int) : List Int := [x, if -2147483648 < x then x - 1 else x, if x < 2147483647 then x + 1 else x]
def lTh : List Int → List Int
  | [] => [-2147483648, -2147483647, -1, 0, 1, 2147483646, 2147483647]
  | x :: l => lNb x ++ lTh l
theorem lNb_in (x y : Int) : y ∈ lNb x ↔ nbr x y := by
  unfold lNb nbr
  constructor
  · intro h
    rcases List.mem_cons.mp h with q | q
    · exact Or.inl q
    · rcases List.mem_cons.mp q with q | q
      · split at q
        · exact Or.inr (Or.inl ⟨q, by assumption⟩)
        · exact Or.inl q
      · rcases List.mem_cons.mp q with q | q
        · split at q
          · exact Or.inr (Or.inr ⟨q, by assumption⟩)
          · exact Or.inl q
        · cases q
  · intro h
    rcases h with q | ⟨q1, q2⟩ | ⟨q1, q2⟩
    · rw [q]; exact List.mem_cons_self
    · rw [if_pos q2, q1]; exact List.mem_cons_of_mem _ List.mem_cons_self
    · rw [if_pos q2, q1]; exact List.mem_cons_of_mem _ (List.mem_cons_of_mem _ List.mem_cons_self)
theorem lTh_in (y : Int) : ∀ l : List Int, y ∈ lTh l ↔ th7 y ∨ ∃ x ∈ l, nbr x y := by
  intro l
  induction l with
  | nil =>
    unfold lTh th7
    constructor
    · intro h
      left
      simpa using h
    · intro h
      rcases h with h | ⟨x, hx, -⟩
      · simpa using h
      · cases hx
  | cons a l ih =>
    unfold lTh
    rw [List.mem_append, lNb_in, ih]
    constructor
    · intro h
      rcases h with h | h | ⟨x, hx, h⟩
      · exact Or.inr ⟨a, List.mem_cons_self, h⟩
      · exact Or.inl h
      · exact Or.inr ⟨x, List.mem_cons_of_mem _ hx, h⟩
    · intro h
      rcases h with h | ⟨x, hx, h⟩
      · exact Or.inr (Or.inl h)
      · rcases List.mem_cons.mp hx with q | q
        · rw [q] at h; exact Or.inl h
        · exact Or.inr (Or.inr ⟨x, q, h⟩)
theorem lTh_len : ∀ l : List Int, (lTh l).length = 7 + 3 * l.length := by
  intro l
  induction l with
  | nil => rfl
  | cons a l ih =>
    unfold lTh
    rw [List.length_append, ih, List.length_cons]
    show 3 + (7 + 3 * l.length) = _
    omega
/-- the thresholds of numbers -/
theorem thr_ok {l : List Int} (hl : l.length ≤ 1024) (hr : ∀ v ∈ l, -2147483648 ≤ v ∧ v ≤ 2147483647) : thG (fun y => th7 y ∨ ∃ x ∈ l, nbr x y) (lDn (lTh l)) (lUp (lTh l)) ∧ thN (fun y => th7 y ∨ ∃ x ∈ l, nbr x y) (fun i => (lTh l).getD i 0) (lTh l).length := by
  have hF : ∀ y, (th7 y ∨ ∃ x ∈ l, nbr x y) → -2147483648 ≤ y ∧ y ≤ 2147483647 := fun y hy => by
    rcases hy with q | ⟨x, hx, q⟩
    · unfold th7 at q; omega
    · have := hr x hx
      unfold nbr at q
      omega
  refine ⟨⟨hF, Or.inl (by unfold th7; omega), Or.inl (by unfold th7; omega), Or.inl (by unfold th7; omega), Or.inl (by unfold th7; omega), Or.inl (by unfold th7; omega), fun v hv => ?_, fun v hv => ?_⟩, by rw [lTh_len]; omega, fun y => ?_⟩
  · obtain ⟨h1, h2, h3, h4⟩ := foldl_dn v (lTh l) (-2147483648) hv
    refine ⟨?_, h2, fun y hy hyv => h4 y ((lTh_in y l).mpr hy) hyv⟩
    rcases h1 with q | q
    · refine Or.inl ?_
      unfold lDn
      rw [q]
      exact Or.inl rfl
    · exact (lTh_in _ l).mp q
  · obtain ⟨h1, h2, h3, h4⟩ := foldl_up v (lTh l) 2147483647 hv
    refine ⟨?_, h2, fun y hy hyv => h4 y ((lTh_in y l).mpr hy) hyv⟩
    rcases h1 with q | q
    · refine Or.inl ?_
      unfold lUp
      rw [q]
      unfold th7
      omega
    · exact (lTh_in _ l).mp q
  · refine (lTh_in y l).symm.trans ?_
    constructor
    · intro h
      obtain ⟨i, hi, e⟩ := List.getElem_of_mem h
      refine ⟨i, hi, ?_⟩
      dsimp only
      rw [List.getD_eq_getElem?_getD, List.getElem?_eq_getElem hi, Option.getD_some]
      exact e
    · rintro ⟨i, hi, e⟩
      dsimp only at e
      rw [List.getD_eq_getElem?_getD, List.getElem?_eq_getElem hi, Option.getD_some] at e
      rw [← e]
      exact List.getElem_mem hi
