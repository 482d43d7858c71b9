/-! Classes that are there; the static rows. -/
theorem mi_dat {Ts : List Cond} {cl : List vw_C} {s : State} {args : Array Value} (hC : mi_Cok Ts cl) (hts : ∀ w ∈ Ts, w.before args s = true) : ∃ (D : va_G) (cy : Nat → ClassId), va_K D cl (mi_tys cy) s := by
  have h1 : ∀ k : Nat, ∃ (q : ClassId × (Nat → Nat)), ∀ r, cl[k]? = some r → u_Kn s r.1 r.2.1 r.2.2 q.1 q.2 := by
    intro k
    cases hk : cl[k]? with
    | none => exact ⟨(0, fun _ => 0), fun r h => by cases h⟩
    | some r0 =>
      obtain ⟨C, T, N⟩ := r0
      obtain ⟨f1, -, -, f4, -⟩ := hC.2.1 k C T N hk
      obtain ⟨c, iS, h⟩ := u_known hts f1 (hts _ f4)
      exact ⟨(c, iS), fun r h' => by cases h'; exact h⟩
  have h2 : ∀ ty : FieldType, Cond.arrayClass ty ∈ Ts → ∃ cA : ClassId, ArrOfT s cA ty ∧ s.vm.findClass ("[" ++ ty.toString) = some cA := by
    intro ty h
    obtain ⟨c, k, comp, e1, e2, e3⟩ := Cond.arrayClass_spec (hts _ h)
    exact ⟨c, fun n z => ⟨fun k h => (by cases h), k, e2, comp, e3⟩, e1⟩
  obtain ⟨-, -, t0, t1, t2, t3⟩ := hC
  obtain ⟨c0, a0, b0⟩ := h2 _ t0
  obtain ⟨c1, a1, b1⟩ := h2 _ t1
  obtain ⟨c2, a2, b2⟩ := h2 _ t2
  obtain ⟨c3, a3, b3⟩ := h2 _ t3
  refine ⟨(fun k => (h1 k).choose.1, fun k => (h1 k).choose.2), fun t => match t with | 0 => c0 | 1 => c1 | 2 => c2 | _ => c3, fun k r hk => (h1 k).choose_spec r hk, fun k r hk => ?_⟩
  match k, hk with
  | 0, hk => cases hk; exact ⟨a0, b0⟩
  | 1, hk => cases hk; exact ⟨a1, b1⟩
  | 2, hk => cases hk; exact ⟨a2, b2⟩
  | 3, hk => cases hk; exact ⟨a3, b3⟩
  | k + 4, hk => cases hk
