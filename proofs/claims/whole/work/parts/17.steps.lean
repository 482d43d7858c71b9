/-! Runs of the small machine, step by step. -/
section MS
variable {Γ : Nat → Option mi_Me} {ev : mi_Ev}
theorem mi_mono : ∀ (n j : Nat) (f : mi_Fr) (h : List mi_C) (sl : Nat) (r : Option Value × List mi_C × Nat), mi_run Γ ev n j f h sl = some r → mi_run Γ ev (n + 1) j f h sl = some r := by
  intro n
  induction n with
  | zero => intro j f h sl r e; cases e
  | succ n ih =>
    intro j f h sl r e
    rw [mi_run] at e
    rw [mi_run]
    cases hj : Γ j with
    | none => rw [hj] at e; cases e
    | some M =>
      rw [hj] at e
      dsimp only at e ⊢
      cases hf : mi_ft M.2.2.2.2.1 f.1 with
      | none => rw [hf] at e; cases e
      | some q =>
        rw [hf] at e
        obtain ⟨i, len⟩ := q
        dsimp only at e ⊢
        cases hp : mi_pure M.2.2.1 i f.1 f.2.1 f.2.2 with
        | some f' => rw [hp] at e; exact ih _ _ _ _ _ e
        | none =>
          rw [hp] at e
          dsimp only at e ⊢
          cases hh : mi_heap M.2.2.2.2.2.1 ev i f.1 f.2.1 f.2.2 h sl with
          | some q => rw [hh] at e; exact ih _ _ _ _ _ e
          | none =>
            rw [hh] at e
            dsimp only at e ⊢
            cases hr : mi_ret M.2.2.2.1 i f.2.2 with
            | some r1 => rw [hr] at e; exact e
            | none =>
              rw [hr] at e
              dsimp only at e ⊢
              cases hn : mi_nat M i f.2.2 h sl with
              | some q => rw [hn] at e; exact ih _ _ _ _ _ e
              | none =>
                rw [hn] at e
                dsimp only at e ⊢
                cases hi : mi_inv M ev i f.2.2 h with
                | none => rw [hi] at e; cases e
                | some q =>
                  rw [hi] at e
                  obtain ⟨j', as, rest⟩ := q
                  dsimp only at e ⊢
                  cases hj2 : Γ j' with
                  | none => rw [hj2] at e; cases e
                  | some M' =>
                    rw [hj2] at e
                    dsimp only at e ⊢
                    split at e
                    · rename_i hc
                      rw [if_pos hc]
                      cases hrun : mi_run Γ ev n j' (0, lv_args 0 as, []) h sl with
                      | none => rw [hrun] at e; cases e
                      | some q =>
                        rw [hrun] at e
                        rw [ih _ _ _ _ _ hrun]
                        exact ih _ _ _ _ _ e
                    · cases e
theorem mi_mono_le {n m j : Nat} {f : mi_Fr} {h : List mi_C} {sl : Nat} {r : Option Value × List mi_C × Nat} (e : mi_run Γ ev n j f h sl = some r) (hm : n ≤ m) : mi_run Γ ev m j f h sl = some r := by
  obtain ⟨d, rfl⟩ := Nat.le.dest hm
  induction d with
  | zero => exact e
  | succ d ih => exact mi_mono _ _ _ _ _ _ (ih (by omega))
/-- it comes to an answer -/
def mi_yes (Γ : Nat → Option mi_Me) (ev : mi_Ev) (j : Nat) (f : mi_Fr) (h : List mi_C) (sl : Nat) (r : Option Value × List mi_C × Nat) : Prop := ∃ n, mi_run Γ ev n j f h sl = some r
theorem mi_yes.of {n j : Nat} {f : mi_Fr} {h : List mi_C} {sl : Nat} {r : Option Value × List mi_C × Nat} (e : mi_run Γ ev n j f h sl = some r) : mi_yes Γ ev j f h sl r := ⟨n, e⟩
theorem mi_go_p {j : Nat} {M : mi_Me} {i : Instr} {len pc : Nat} {lv : mi_L} {st : List Value} {f' : mi_Fr} {h : List mi_C} {sl : Nat} {r : Option Value × List mi_C × Nat} (hj : Γ j = some M) (hf : mi_ft M.2.2.2.2.1 pc = some (i, len)) (hp : mi_pure M.2.2.1 i pc lv st = some f') (k : mi_yes Γ ev j f' h sl r) : mi_yes Γ ev j (pc, lv, st) h sl r := by
  obtain ⟨n, e⟩ := k
  refine ⟨n + 1, ?_⟩
  rw [mi_run, hj]
  dsimp only
  rw [hf]
  dsimp only
  rw [hp]
  exact e
theorem mi_go_h {j : Nat} {M : mi_Me} {i : Instr} {len pc : Nat} {lv : mi_L} {st : List Value} {f' : mi_Fr} {h h' : List mi_C} {sl sl' : Nat} {r : Option Value × List mi_C × Nat} (hj : Γ j = some M) (hf : mi_ft M.2.2.2.2.1 pc = some (i, len)) (hp : mi_pure M.2.2.1 i pc lv st = none) (hh : mi_heap M.2.2.2.2.2.1 ev i pc lv st h sl = some (f', h', sl')) (k : mi_yes Γ ev j f' h' sl' r) : mi_yes Γ ev j (pc, lv, st) h sl r := by
  obtain ⟨n, e⟩ := k
  refine ⟨n + 1, ?_⟩
  rw [mi_run, hj]
  dsimp only
  rw [hf]
  dsimp only
  rw [hp]
  dsimp only
  rw [hh]
  exact e
theorem mi_go_r {j : Nat} {M : mi_Me} {i : Instr} {len pc : Nat} {lv : mi_L} {st : List Value} {h : List mi_C} {sl : Nat} {r : Option Value} (hj : Γ j = some M) (hf : mi_ft M.2.2.2.2.1 pc = some (i, len)) (hp : mi_pure M.2.2.1 i pc lv st = none) (hh : mi_heap M.2.2.2.2.2.1 ev i pc lv st h sl = none) (hr : mi_ret M.2.2.2.1 i st = some r) : mi_yes Γ ev j (pc, lv, st) h sl (r, h, sl) := by
  refine ⟨1, ?_⟩
  rw [mi_run, hj]
  dsimp only
  rw [hf]
  dsimp only
  rw [hp]
  dsimp only
  rw [hh]
  dsimp only
  rw [hr]
theorem mi_go_n {j : Nat} {M : mi_Me} {i : Instr} {len pc : Nat} {lv : mi_L} {st st' : List Value} {h h' : List mi_C} {sl sl' : Nat} {r : Option Value × List mi_C × Nat} (hj : Γ j = some M) (hf : mi_ft M.2.2.2.2.1 pc = some (i, len)) (hp : mi_pure M.2.2.1 i pc lv st = none) (hh : mi_heap M.2.2.2.2.2.1 ev i pc lv st h sl = none) (hr : mi_ret M.2.2.2.1 i st = none) (hn : mi_nat M i st h sl = some (st', h', sl')) (k : mi_yes Γ ev j (pc + 3, lv, st') h' sl' r) : mi_yes Γ ev j (pc, lv, st) h sl r := by
  obtain ⟨n, e⟩ := k
  refine ⟨n + 1, ?_⟩
  rw [mi_run, hj]
  dsimp only
  rw [hf]
  dsimp only
  rw [hp]
  dsimp only
  rw [hh]
  dsimp only
  rw [hr]
  dsimp only
  rw [hn]
  exact e
theorem mi_go_c {j j' : Nat} {M M' : mi_Me} {i : Instr} {len pc : Nat} {lv : mi_L} {st as rest : List Value} {h h' : List mi_C} {sl sl' : Nat} {r : Option Value × List mi_C × Nat} {r' : Option Value} (hj : Γ j = some M) (hf : mi_ft M.2.2.2.2.1 pc = some (i, len)) (hp : mi_pure M.2.2.1 i pc lv st = none) (hh : mi_heap M.2.2.2.2.2.1 ev i pc lv st h sl = none) (hr : mi_ret M.2.2.2.1 i st = none) (hn : mi_nat M i st h sl = none) (hi : mi_inv M ev i st h = some (j', as, rest)) (hj2 : Γ j' = some M') (hc : (lg_sl as).length ≤ M'.2.2.1 ∧ 0 < h.length) (c : mi_yes Γ ev j' (0, lv_args 0 as, []) h sl (r', h', sl')) (k : mi_yes Γ ev j (pc + 3, lv, r'.toList ++ rest) h' sl' r) : mi_yes Γ ev j (pc, lv, st) h sl r := by
  obtain ⟨n, e⟩ := k
  obtain ⟨m, e2⟩ := c
  refine ⟨max n m + 1, ?_⟩
  rw [mi_run, hj]
  dsimp only
  rw [hf]
  dsimp only
  rw [hp]
  dsimp only
  rw [hh]
  dsimp only
  rw [hr]
  dsimp only
  rw [hn]
  dsimp only
  rw [hi]
  dsimp only
  rw [hj2]
  dsimp only
  rw [if_pos hc, mi_mono_le e2 (Nat.le_max_right n m)]
  exact mi_mono_le e (Nat.le_max_left n m)
end MS
/-- more arrays outside don't disturb a run -/
def mi_le (ev ev' : mi_Ev) : Prop := (∀ k v, mi_oa ev k = some v → mi_oa ev' k = some v) ∧ ev.2 = ev'.2
theorem mi_heap_ext {ev ev' : mi_Ev} (hx : mi_le ev ev') {K : mi_Lk} {i : Instr} {pc : Nat} {lv : mi_L} {st : List Value} {h : List mi_C} {sl : Nat} {r : mi_Fr × List mi_C × Nat} (e : mi_heap K ev i pc lv st h sl = some r) : mi_heap K ev' i pc lv st h sl = some r := by
  have h2 : ∀ a, mi_os ev' a = mi_os ev a := fun a => by unfold mi_os; rw [hx.2]
  cases i with
  | getfield x => simp only [mi_heap, h2] at e ⊢; exact e
  | iaload =>
    simp only [mi_heap] at e ⊢
    split at e
    · exact e
    · rename_i j a st1
      split at e
      · rename_i xs ho
        simp only [hx.1 _ _ ho]
        exact e
      · cases e
    · cases e
  | baload =>
    simp only [mi_heap] at e ⊢
    split at e
    · exact e
    · rename_i j a st1
      split at e
      · rename_i xs ho
        simp only [hx.1 _ _ ho]
        exact e
      · cases e
    · cases e
  | arraylength =>
    simp only [mi_heap] at e ⊢
    split at e
    · exact e
    · rename_i a st1
      split at e
      · rename_i t xs ho
        simp only [hx.1 _ _ ho]
        exact e
      · cases e
    · cases e
  | _ => exact e
theorem mi_inv_ext {ev ev' : mi_Ev} (hx : mi_le ev ev') (M : mi_Me) (i : Instr) (st : List Value) (h : List mi_C) : mi_inv M ev' i st h = mi_inv M ev i st h := by
  have h2 : ∀ a, mi_os ev' a = mi_os ev a := fun a => by unfold mi_os; rw [hx.2]
  cases i with
  | invokevirtual x => simp only [mi_inv, h2]
  | _ => rfl
theorem mi_ctl {M : mi_Me} {ev ev' : mi_Ev} {K : mi_Lk} {i : Instr} {pc : Nat} {lv : mi_L} {st : List Value} {h : List mi_C} {sl : Nat} (hc : (mi_ret M.2.2.2.1 i st).isSome = true ∨ (mi_nat M i st h sl).isSome = true ∨ (mi_inv M ev i st h).isSome = true) : mi_heap K ev' i pc lv st h sl = none := by
  cases i with
  | ireturn => rfl
  | lreturn => rfl
  | return_ => rfl
  | invokevirtual x => rfl
  | invokespecial x => rfl
  | invokestatic x => rfl
  | checkcast x => rfl
  | _ => simp [mi_ret, mi_nat, mi_inv] at hc
theorem mi_run_ext {Γ : Nat → Option mi_Me} {ev ev' : mi_Ev} (hx : mi_le ev ev') : ∀ (n j : Nat) (f : mi_Fr) (h : List mi_C) (sl : Nat) (r : Option Value × List mi_C × Nat), mi_run Γ ev n j f h sl = some r → mi_run Γ ev' n j f h sl = some r := by
  intro n
  induction n with
  | zero => intro j f h sl r e; cases e
  | succ n ih =>
    intro j f h sl r e
    rw [mi_run] at e
    rw [mi_run]
    cases hj : Γ j with
    | none => rw [hj] at e; cases e
    | some M =>
      rw [hj] at e
      dsimp only at e ⊢
      cases hf : mi_ft M.2.2.2.2.1 f.1 with
      | none => rw [hf] at e; cases e
      | some q =>
        rw [hf] at e
        obtain ⟨i, len⟩ := q
        dsimp only at e ⊢
        cases hp : mi_pure M.2.2.1 i f.1 f.2.1 f.2.2 with
        | some f' => rw [hp] at e; exact ih _ _ _ _ _ e
        | none =>
          rw [hp] at e
          dsimp only at e ⊢
          cases hh : mi_heap M.2.2.2.2.2.1 ev i f.1 f.2.1 f.2.2 h sl with
          | some q =>
            rw [hh] at e
            rw [mi_heap_ext hx hh]
            exact ih _ _ _ _ _ e
          | none =>
            rw [hh] at e
            dsimp only at e
            cases hr : mi_ret M.2.2.2.1 i f.2.2 with
            | some r1 =>
              rw [hr] at e
              rw [mi_ctl (M := M) (ev := ev) (Or.inl (by rw [hr]; rfl))]
              exact e
            | none =>
              rw [hr] at e
              dsimp only at e
              cases hn : mi_nat M i f.2.2 h sl with
              | some q =>
                rw [hn] at e
                rw [mi_ctl (M := M) (ev := ev) (Or.inr (Or.inl (by rw [hn]; rfl)))]
                exact ih _ _ _ _ _ e
              | none =>
                rw [hn] at e
                dsimp only at e
                cases hi : mi_inv M ev i f.2.2 h with
                | none => rw [hi] at e; cases e
                | some q =>
                  rw [hi] at e
                  rw [mi_ctl (M := M) (ev := ev) (Or.inr (Or.inr (by rw [hi]; rfl))), mi_inv_ext hx, hi]
                  obtain ⟨j', as, rest⟩ := q
                  dsimp only at e ⊢
                  cases hj2 : Γ j' with
                  | none => rw [hj2] at e; cases e
                  | some M' =>
                    rw [hj2] at e
                    dsimp only at e ⊢
                    split at e
                    · rename_i hc
                      rw [if_pos hc]
                      cases hrun : mi_run Γ ev n j' (0, lv_args 0 as, []) h sl with
                      | none => rw [hrun] at e; cases e
                      | some q =>
                        rw [hrun] at e
                        rw [ih _ _ _ _ _ hrun]
                        exact ih _ _ _ _ _ e
                    · cases e
