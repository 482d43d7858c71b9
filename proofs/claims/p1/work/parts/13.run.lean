/-! The small machine: methods, calls, runs. -/
/-- a call: its kind (0 of an object, 1 a constructor, 2 a nest mate's constructor, 3 static, 4 Object's constructor, 5 of a text), the method's number, how many arguments, the object's class -/
abbrev mi_Call : Type := Nat × Nat × Nat × Nat
/-- a method: name, code, locals, result, instructions, links, calls -/
abbrev mi_Me : Type := MethodName × ByteArray × Nat × Option FieldType × List (Nat × Instr × Nat) × mi_Lk × (Nat → Option mi_Call)
def mi_ft (tab : List (Nat × Instr × Nat)) (pc : Nat) : Option (Instr × Nat) := (tab.find? (fun q => q.1 == pc)).map (fun q => q.2)
theorem mi_ft_mem {tab : List (Nat × Instr × Nat)} {pc : Nat} {i : Instr} {len : Nat} (h : mi_ft tab pc = some (i, len)) : (pc, i, len) ∈ tab := by
  unfold mi_ft at h
  cases hf : tab.find? (fun q => q.1 == pc) with
  | none => rw [hf] at h; cases h
  | some q =>
    rw [hf] at h
    have h1 := List.find?_some hf
    have h2 := List.mem_of_find?_eq_some hf
    obtain ⟨a, w⟩ := q
    simp only [beq_iff_eq] at h1
    simp only [Option.map_some, Option.some.injEq] at h
    subst h1; subst h
    exact h2
def mi_ret (ret : Option FieldType) (i : Instr) (st : List Value) : Option (Option Value) := match i with
  | .ireturn => match ret, st with
    | some ty, [.int v] => if narrow ty (.int v) = .int v then some (some (.int v)) else none
    | _, _ => none
  | .lreturn => match ret, st with
    | some .long, [.long v] => some (some (.long v))
    | _, _ => none
  | .return_ => match ret, st with
    | none, [] => some none
    | _, _ => none
  | _ => none
def mi_cat (vs : List Value) : Nat := (vs.map fun v => v.category).sum
/-- what a call instruction calls: the method, its arguments (the object first), what stays on the stack -/
def mi_inv (M : mi_Me) (ev : mi_Ev) (i : Instr) (st : List Value) (h : List mi_C) : Option (Nat × List Value × List Value) := match i with
  | .invokevirtual x => match M.2.2.2.2.2.2 x with
    | some (0, j, n, ci) => match st.drop n with
      | .ref a :: rest => match h[a]? with
        | some (.inl (cj, _)) => if cj = ci ∧ mi_cat rest ≤ 8 then some (j, .ref a :: (st.take n).reverse, rest) else none
        | _ => none
      | _ => none
    | some (5, j, n, _) => match st.drop n with
      | .retAddr a :: rest => match mi_os ev a with
        | some _ => if mi_cat rest ≤ 8 then some (j, .retAddr a :: (st.take n).reverse, rest) else none
        | none => none
      | _ => none
    | _ => none
  | .invokespecial x => match M.2.2.2.2.2.2 x with
    | some (1, j, n, _) => match st.drop n with
      | .ref a :: rest => if mi_cat rest ≤ 8 then some (j, .ref a :: (st.take n).reverse, rest) else none
      | _ => none
    | some (2, j, n, _) => match st.drop n with
      | .ref a :: rest => if mi_cat rest ≤ 8 then some (j, .ref a :: (st.take n).reverse, rest) else none
      | _ => none
    | _ => none
  | .invokestatic x => match M.2.2.2.2.2.2 x with
    | some (3, j, n, _) => if n ≤ st.length ∧ mi_cat (st.drop n) ≤ 8 then some (j, (st.take n).reverse, st.drop n) else none
    | _ => none
  | _ => none
def mi_cpy {α : Type} (z : α) (xs ys : List α) (sp dp n : Nat) : List α := (List.range (max ys.length (dp + n))).map (fun k => if dp ≤ k ∧ k < dp + n then xs.getD (sp + (k - dp)) z else ys.getD k z)
theorem mi_cpy_get {α : Type} (z : α) (xs ys : List α) (sp dp n : Nat) : (fun k => (mi_cpy z xs ys sp dp n).getD k z) = va_cpy (fun j => xs.getD j z) (fun j => ys.getD j z) sp dp n := by
  funext k
  unfold mi_cpy va_cpy
  simp only [List.getD_eq_getElem?_getD, List.getElem?_map]
  by_cases hk : k < max ys.length (dp + n)
  · rw [List.getElem?_range hk]
    simp
  · rw [List.getElem?_eq_none (by simp; omega)]
    rw [if_neg (by omega), List.getElem?_eq_none (by omega)]
    rfl
/-- what is done at once: Object's constructor, clone of a row of ints, a cast to it, arraycopy -/
def mi_nat (M : mi_Me) (i : Instr) (st : List Value) (h : List mi_C) (sl : Nat) : Option (List Value × List mi_C × Nat) := match i with
  | .invokespecial x => match M.2.2.2.2.2.2 x with
    | some (4, _, _, _) => match st with
      | .ref _ :: rest => if mi_cat rest ≤ 8 then some (rest, h, sl) else none
      | _ => none
    | _ => none
  | .invokevirtual x => match M.2.2.2.2.2.2 x with
    | some (6, _, _, _) => match st with
      | .ref a :: rest => match h[a]? with
        | some (.inr (1, n, .inl xs)) => if mi_cat rest ≤ 8 then some (.ref h.length :: rest, h ++ [.inr (1, n, .inl xs)], sl + n) else none
        | _ => none
      | _ => none
    | _ => none
  | .checkcast x => match M.2.2.2.2.2.2 x with
    | some (7, _, _, _) => match st with
      | .ref a :: rest => match h[a]? with
        | some (.inr (1, _, .inl _)) => some (.ref a :: rest, h, sl)
        | _ => none
      | _ => none
    | _ => none
  | .invokestatic x => match M.2.2.2.2.2.2 x with
    | some (8, _, _, _) => match st with
      | .int n :: .int dp :: .ref a :: .int sp :: .ref a0 :: rest => match h[a0]?, h[a]? with
        | some (.inr (t0, n0, .inl xs)), some (.inr (t, n1, .inl ys)) => if t0 = t ∧ t < 4 ∧ ¬ sp < 0 ∧ ¬ dp < 0 ∧ ¬ n < 0 ∧ sp.toNatClampNeg + n.toNatClampNeg ≤ n0 ∧ dp.toNatClampNeg + n.toNatClampNeg ≤ n1 ∧ (List.range n.toNatClampNeg).all (fun i => fits (mi_ty t) (.int (xs.getD (sp.toNatClampNeg + i) 0))) = true ∧ mi_cat rest ≤ 8 then some (rest, h.set a (.inr (t, n1, .inl (mi_cpy 0 xs ys sp.toNatClampNeg dp.toNatClampNeg n.toNatClampNeg))), sl) else none
        | some (.inr (t0, n0, .inr xs)), some (.inr (t, n1, .inr ys)) => if t0 = 2 ∧ t = 2 ∧ ¬ sp < 0 ∧ ¬ dp < 0 ∧ ¬ n < 0 ∧ sp.toNatClampNeg + n.toNatClampNeg ≤ n0 ∧ dp.toNatClampNeg + n.toNatClampNeg ≤ n1 ∧ mi_cat rest ≤ 8 then some (rest, h.set a (.inr (2, n1, .inr (mi_cpy 0 xs ys sp.toNatClampNeg dp.toNatClampNeg n.toNatClampNeg))), sl) else none
        | _, _ => none
      | _ => none
    | _ => none
  | _ => none
/-- a method's run from a frame on: its answer, the cells and slots behind it -/
def mi_run (Γ : Nat → Option mi_Me) (ev : mi_Ev) : Nat → Nat → mi_Fr → List mi_C → Nat → Option (Option Value × List mi_C × Nat)
  | 0, _, _, _, _ => none
  | n + 1, j, fr, h, sl => match Γ j with
    | none => none
    | some M => match mi_ft M.2.2.2.2.1 fr.1 with
      | none => none
      | some (i, _) => match mi_pure M.2.2.1 i fr.1 fr.2.1 fr.2.2 with
        | some fr' => mi_run Γ ev n j fr' h sl
        | none => match mi_heap M.2.2.2.2.2.1 ev i fr.1 fr.2.1 fr.2.2 h sl with
          | some (fr', h', sl') => mi_run Γ ev n j fr' h' sl'
          | none => match mi_ret M.2.2.2.1 i fr.2.2 with
            | some r => some (r, h, sl)
            | none => match mi_nat M i fr.2.2 h sl with
              | some (st', h', sl') => mi_run Γ ev n j (fr.1 + 3, fr.2.1, st') h' sl'
              | none => match mi_inv M ev i fr.2.2 h with
                | some (j', as, rest) => match Γ j' with
                  | none => none
                  | some M' => if (lg_sl as).length ≤ M'.2.2.1 ∧ 0 < h.length then
                      match mi_run Γ ev n j' (0, lv_args 0 as, []) h sl with
                      | some (r, h', sl') => mi_run Γ ev n j (fr.1 + 3, fr.2.1, r.toList ++ rest) h' sl'
                      | none => none
                    else none
                | none => none
theorem mi_heap_up {K : mi_Lk} {ev : mi_Ev} {i : Instr} {pc : Nat} {lv : mi_L} {st : List Value} {h h' : List mi_C} {sl sl' : Nat} {fr : mi_Fr} (hh : mi_heap K ev i pc lv st h sl = some (fr, h', sl')) : h.length ≤ h'.length ∧ sl ≤ sl' := by
  cases i with
  | getfield x => simp only [mi_heap] at hh; (repeat' split at hh) <;> cases hh <;> simp
  | putfield x => simp only [mi_heap] at hh; (repeat' split at hh) <;> cases hh <;> simp
  | iaload => simp only [mi_heap] at hh; (repeat' split at hh) <;> cases hh <;> simp
  | laload => simp only [mi_heap] at hh; (repeat' split at hh) <;> cases hh <;> simp
  | baload => simp only [mi_heap] at hh; (repeat' split at hh) <;> cases hh <;> simp
  | iastore => simp only [mi_heap] at hh; (repeat' split at hh) <;> cases hh <;> simp
  | lastore => simp only [mi_heap] at hh; (repeat' split at hh) <;> cases hh <;> simp
  | bastore => simp only [mi_heap] at hh; (repeat' split at hh) <;> cases hh <;> simp
  | arraylength => simp only [mi_heap] at hh; (repeat' split at hh) <;> cases hh <;> simp
  | ldc x => simp only [mi_heap] at hh; (repeat' split at hh) <;> cases hh <;> simp
  | ldc_w x => simp only [mi_heap] at hh; (repeat' split at hh) <;> cases hh <;> simp
  | ldc2_w x => simp only [mi_heap] at hh; (repeat' split at hh) <;> cases hh <;> simp
  | getstatic x => simp only [mi_heap] at hh; (repeat' split at hh) <;> cases hh <;> simp
  | new x => simp only [mi_heap] at hh; (repeat' split at hh) <;> cases hh <;> simp
  | newarray t => simp only [mi_heap] at hh; (repeat' split at hh) <;> cases hh <;> simp
  | _ => simp [mi_heap] at hh
theorem mi_nat_up {M : mi_Me} {i : Instr} {st st' : List Value} {h h' : List mi_C} {sl sl' : Nat} (hh : mi_nat M i st h sl = some (st', h', sl')) : h.length ≤ h'.length ∧ sl ≤ sl' := by
  cases i with
  | invokespecial x => simp only [mi_nat] at hh; (repeat' split at hh) <;> cases hh <;> simp
  | invokevirtual x => simp only [mi_nat] at hh; (repeat' split at hh) <;> cases hh <;> simp
  | checkcast x => simp only [mi_nat] at hh; (repeat' split at hh) <;> cases hh <;> simp
  | invokestatic x => simp only [mi_nat] at hh; (repeat' split at hh) <;> cases hh <;> simp
  | _ => simp [mi_nat] at hh
theorem mi_run_up (Γ : Nat → Option mi_Me) (ev : mi_Ev) : ∀ (n j : Nat) (fr : mi_Fr) (h : List mi_C) (sl : Nat) (r : Option Value) (h' : List mi_C) (sl' : Nat), mi_run Γ ev n j fr h sl = some (r, h', sl') → h.length ≤ h'.length ∧ sl ≤ sl' := by
  intro n
  induction n with
  | zero => intro j fr h sl r h' sl' e; cases e
  | succ n ih =>
    intro j fr h sl r h' sl' e
    rw [mi_run] at e
    split at e
    · cases e
    · split at e
      · cases e
      · split at e
        · exact ih _ _ _ _ _ _ _ e
        · split at e
          · rename_i hh
            have h1 := mi_heap_up hh
            have h2 := ih _ _ _ _ _ _ _ e
            omega
          · split at e
            · cases e; omega
            · split at e
              · rename_i hh
                have h1 := mi_nat_up hh
                have h2 := ih _ _ _ _ _ _ _ e
                omega
              · split at e
                · split at e
                  · cases e
                  · split at e
                    · split at e
                      · rename_i hh
                        have h1 := ih _ _ _ _ _ _ _ hh
                        have h2 := ih _ _ _ _ _ _ _ e
                        omega
                      · cases e
                    · cases e
                · cases e
