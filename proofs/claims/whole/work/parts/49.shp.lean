/-! What a shape says. -/
theorem nmS_all {l : List Int} (h : nmS l ≠ 0) : (∀ x ∈ l, alc x = true) ∧ ∃ c r, l = c :: r ∧ ltr c = true := by
  cases l with
  | nil => exact absurd rfl h
  | cons c r =>
    unfold nmS at h
    split at h
    · dsimp only at h
      cases hh : (ltr c && r.all alc) with
      | false => rw [hh] at h; exact absurd rfl h
      | true =>
        rw [Bool.and_eq_true] at hh
        refine ⟨fun x hx => ?_, c, r, rfl, hh.1⟩
        rcases List.mem_cons.mp hx with rfl | hx
        · exact alc_l hh.1
        · exact List.all_eq_true.mp hh.2 x hx
    · exact absurd rfl h
theorem isNum_all {l : List Int} (h : isNum l = true) : ∀ i, 1 ≤ i → ∀ x, l[i]? = some x → dgt x = true := by
  unfold isNum at h
  rw [decide_eq_true_eq] at h
  obtain ⟨-, -, h3, -⟩ := h
  intro i hi x hx
  cases l with
  | nil => cases hx
  | cons c r =>
    obtain ⟨j, rfl⟩ : ∃ j, i = j + 1 := ⟨i - 1, by omega⟩
    rw [List.getElem?_cons_succ] at hx
    have hm : x ∈ r := List.mem_of_getElem? hx
    simp only [nbody] at h3
    split at h3
    · exact List.all_eq_true.mp h3 x hm
    · exact List.all_eq_true.mp h3 x (List.mem_cons_of_mem _ hm)
theorem isNum_nm {l : List Int} (h : isNum l = true) : nmS l = 0 := by
  by_cases hn : nmS l = 0
  · exact hn
  · exfalso
    obtain ⟨-, c, r, rfl, hl⟩ := nmS_all hn
    unfold isNum at h
    rw [decide_eq_true_eq] at h
    obtain ⟨-, -, h3, -⟩ := h
    unfold ltr at hl
    rw [decide_eq_true_eq] at hl
    simp only [nbody] at h3
    rw [if_neg (by omega), List.all_cons, Bool.and_eq_true] at h3
    have := h3.1
    unfold dgt at this
    rw [decide_eq_true_eq] at this
    omega
theorem getD_some {l : List Int} {i : Nat} (h : i < l.length) : l[i]? = some (l.getD i 0) := by
  rw [List.getD_eq_getElem?_getD, List.getElem?_eq_getElem h]; rfl
theorem arE_last {l : List Int} (h : arE l = true) : 2 < l.length ∧ l[l.length - 1]? = some 93 ∧ l[l.length - 2]? = some 91 := by
  unfold arE at h
  rw [decide_eq_true_eq] at h
  refine ⟨h.1, ?_, ?_⟩
  · rw [getD_some (by omega), h.2.2]
  · rw [getD_some (by omega), h.2.1]
theorem arE_nm {l : List Int} (h : arE l = true) : nmS l = 0 ∧ isNum l = false := by
  obtain ⟨h1, h2, -⟩ := arE_last h
  refine ⟨?_, ?_⟩
  · by_cases hn : nmS l = 0
    · exact hn
    · have := (nmS_all hn).1 93 (List.mem_of_getElem? h2)
      exact absurd this (by decide)
  · cases hn : isNum l with
    | false => rfl
    | true =>
      have := isNum_all hn (l.length - 1) (by omega) 93 h2
      exact absurd this (by decide)
theorem arrQ_iff {l : List Int} : arrQ l = true ↔ arE l = true ∧ nmS (l.take (l.length - 2)) = 2 := by
  unfold arrQ arE
  rw [decide_eq_true_eq, decide_eq_true_eq]
  constructor
  · rintro ⟨a, b, c, d⟩; exact ⟨⟨a, b, c⟩, d⟩
  · rintro ⟨⟨a, b, c⟩, d⟩; exact ⟨a, b, c, d⟩
theorem dot_46 : ∀ {l : List Int}, dot l < l.length → l[dot l]? = some 46 := by
  intro l
  induction l with
  | nil => intro h; simp at h
  | cons c r ih =>
    intro h
    unfold dot at h ⊢
    rw [List.takeWhile_cons] at h ⊢
    by_cases q : c = 46
    · subst q; rfl
    · have e : (!(c == 46)) = true := by simp [q]
      simp only [e, if_true, List.length_cons] at h ⊢
      rw [List.getElem?_cons_succ]
      exact ih (by unfold dot; omega)
theorem refQ_nm {l : List Int} (h : refQ l = true) : nmS l = 0 ∧ isNum l = false ∧ arrQ l = false ∧ dot l < l.length := by
  unfold refQ at h
  rw [decide_eq_true_eq] at h
  obtain ⟨h1, h2⟩ := h
  have l1 := nmS_pos (l := l.take (dot l)) (by omega)
  have l2 := nmS_pos (l := l.drop (dot l + 1)) (by omega)
  rw [List.length_take] at l1
  rw [List.length_drop] at l2
  have h46 := dot_46 (l := l) (by omega)
  refine ⟨?_, ?_, ?_, by omega⟩
  · by_cases hn : nmS l = 0
    · exact hn
    · have := (nmS_all hn).1 46 (List.mem_of_getElem? h46)
      exact absurd this (by decide)
  · cases hn : isNum l with
    | false => rfl
    | true =>
      have := isNum_all hn (dot l) (by omega) 46 h46
      exact absurd this (by decide)
  · cases hn : arrQ l with
    | false => rfl
    | true =>
      obtain ⟨-, a2, -⟩ := arE_last (arrQ_iff.mp hn).1
      have hm : (93 : Int) ∈ l.drop (dot l + 1) := by
        refine List.mem_of_getElem? (i := l.length - 1 - (dot l + 1)) ?_
        rw [List.getElem?_drop, show dot l + 1 + (l.length - 1 - (dot l + 1)) = l.length - 1 by omega]
        exact a2
      have := (nmS_all (l := l.drop (dot l + 1)) (by omega)).1 93 hm
      exact absurd this (by decide)
theorem shp_eq (l : List Int) : (shp l = 1 ↔ nmS l = 1) ∧ (shp l = 2 ↔ nmS l = 2) ∧ (shp l = 3 ↔ isNum l = true) ∧ (shp l = 4 ↔ arrQ l = true) ∧ (shp l = 5 ↔ refQ l = true) := by
  have hv := nmS_v l
  have f3 : isNum l = true → nmS l = 0 := isNum_nm
  have f4 : arrQ l = true → nmS l = 0 ∧ isNum l = false := fun h => arE_nm (arrQ_iff.mp h).1
  have f5 : refQ l = true → nmS l = 0 ∧ isNum l = false ∧ arrQ l = false := fun h => ⟨(refQ_nm h).1, (refQ_nm h).2.1, (refQ_nm h).2.2.1⟩
  unfold shp
  by_cases h0 : nmS l = 0
  · simp only [h0, ne_eq, not_true_eq_false, if_false]
    cases h3 : isNum l with
    | true =>
      simp only [if_true]
      refine ⟨by omega, by omega, by simp, ⟨fun h => by omega, fun h => ?_⟩, ⟨fun h => by omega, fun h => ?_⟩⟩
      · have := (f4 h).2; rw [h3] at this; cases this
      · have := (f5 h).2.1; rw [h3] at this; cases this
    | false =>
      simp only [Bool.false_eq_true, if_false]
      cases h4 : arrQ l with
      | true =>
        simp only [if_true]
        refine ⟨by omega, by omega, by simp, by simp, ⟨fun h => by omega, fun h => ?_⟩⟩
        have := (f5 h).2.2; rw [h4] at this; cases this
      | false =>
        simp only [Bool.false_eq_true, if_false]
        cases refQ l <;> simp
  · have h3 : isNum l = false := by cases h : isNum l with | false => rfl | true => exact absurd (f3 h) h0
    have h4 : arrQ l = false := by cases h : arrQ l with | false => rfl | true => exact absurd (f4 h).1 h0
    have h5 : refQ l = false := by cases h : refQ l with | false => rfl | true => exact absurd (f5 h).1 h0
    rw [if_pos h0, h3, h4, h5]
    refine ⟨Iff.rfl, Iff.rfl, ⟨fun h => by omega, fun h => by cases h⟩, ⟨fun h => by omega, fun h => by cases h⟩, ⟨fun h => by omega, fun h => by cases h⟩⟩
/-- types -/
theorem isT_iff (l : List Int) : isT l = true ↔ l = fx.getD 52 [] ∨ l = fx.getD 54 [] ∨ shp l = 2 ∨ shp l = 4 := by
  have e1 : fx.getD 52 [] = [105, 110, 116] := by decide
  have e2 : fx.getD 54 [] = [105, 110, 116, 91, 93] := by decide
  rw [e1, e2, (shp_eq l).2.1, (shp_eq l).2.2.2.1, arrQ_iff]
  unfold isT tyB
  rw [decide_eq_true_eq]
  cases ha : arE l with
  | false =>
    simp only [Bool.false_eq_true, if_false, false_and, or_false]
    constructor
    · rintro (h | h)
      · exact Or.inl h
      · exact Or.inr (Or.inr h)
    · rintro (h | h | h)
      · exact Or.inl h
      · rw [h] at ha; exact absurd ha (by decide)
      · exact Or.inr h
  | true =>
    simp only [if_true, true_and]
    obtain ⟨a1, a2, a3⟩ := arE_last ha
    constructor
    · rintro (h | h)
      · refine Or.inr (Or.inl ?_)
        have hl : l.length = 5 := by
          have := congrArg List.length h
          rw [List.length_take] at this
          simp at this
          omega
        have e : l = l.take 3 ++ l.drop 3 := (List.take_append_drop 3 l).symm
        rw [hl] at h a2 a3
        have hd : l.drop 3 = [91, 93] := by
          rw [List.drop_eq_getElem_cons (by omega), List.drop_eq_getElem_cons (by omega), List.drop_eq_nil_of_le (by omega)]
          rw [List.getElem?_eq_getElem (by omega)] at a2 a3
          simp only [Nat.reduceSub, Option.some.injEq] at a2 a3
          rw [a2, a3]
        rw [e, h, hd]
        rfl
      · exact Or.inr (Or.inr (Or.inr h))
    · rintro (h | h | h | h)
      · rw [h] at ha; exact absurd ha (by decide)
      · left; rw [h]; rfl
      · have := (arE_nm ha).1; omega
      · exact Or.inr h
