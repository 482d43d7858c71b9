/-! Long runs in pieces. -/
/-- a call that is next: the method, its arguments, what stays -/
def mi_pre (Γ : Nat → Option mi_Me) (ev : mi_Ev) (j : Nat) (f : mi_Fr) (h : List mi_C) (sl : Nat) : Option (Nat × List Value × List Value) := match Γ j with
  | none => none
  | some M => match mi_ft M.2.2.2.2.1 f.1 with
    | none => none
    | some (i, _) => match mi_pure M.2.2.1 i f.1 f.2.1 f.2.2 with
      | some _ => none
      | none => match mi_heap M.2.2.2.2.2.1 ev i f.1 f.2.1 f.2.2 h sl with
        | some _ => none
        | none => match mi_ret M.2.2.2.1 i f.2.2 with
          | some _ => none
          | none => match mi_nat M i f.2.2 h sl with
            | some _ => none
            | none => match mi_inv M ev i f.2.2 h with
              | none => none
              | some (j', as, rest) => match Γ j' with
                | none => none
                | some M' => if (lg_sl as).length ≤ M'.2.2.1 ∧ 0 < h.length then some (j', as, rest) else none
theorem mi_pre_yes {Γ : Nat → Option mi_Me} {ev : mi_Ev} {j j' pc : Nat} {lv : mi_L} {st as rest : List Value} {h h' : List mi_C} {sl sl' : Nat} {r : Option Value × List mi_C × Nat} {r' : Option Value} (hp : mi_pre Γ ev j (pc, lv, st) h sl = some (j', as, rest)) (c : mi_yes Γ ev j' (0, lv_args 0 as, []) h sl (r', h', sl')) (k : mi_yes Γ ev j (pc + 3, lv, r'.toList ++ rest) h' sl' r) : mi_yes Γ ev j (pc, lv, st) h sl r := by
  unfold mi_pre at hp
  split at hp
  · cases hp
  · rename_i M hj
    split at hp
    · cases hp
    · rename_i i len hf
      split at hp
      · cases hp
      · rename_i h1
        split at hp
        · cases hp
        · rename_i h2
          split at hp
          · cases hp
          · rename_i h3
            split at hp
            · cases hp
            · rename_i h4
              split at hp
              · cases hp
              · rename_i j2 as2 rest2 h5
                split at hp
                · cases hp
                · rename_i M' hj2
                  split at hp
                  · rename_i hc
                    cases hp
                    exact mi_go_c hj hf h1 h2 h3 h4 h5 hj2 hc c k
                  · cases hp
/-- one step of a frame, calls and all -/
def mi_one (Γ : Nat → Option mi_Me) (ev : mi_Ev) (N j : Nat) (f : mi_Fr) (h : List mi_C) (sl : Nat) : Option (mi_Fr × List mi_C × Nat) := match Γ j with
  | none => none
  | some M => match mi_ft M.2.2.2.2.1 f.1 with
    | none => none
    | some (i, _) => match mi_pure M.2.2.1 i f.1 f.2.1 f.2.2 with
      | some f' => some (f', h, sl)
      | none => match mi_heap M.2.2.2.2.2.1 ev i f.1 f.2.1 f.2.2 h sl with
        | some q => some q
        | none => match mi_ret M.2.2.2.1 i f.2.2 with
          | some _ => none
          | none => match mi_nat M i f.2.2 h sl with
            | some (st', h', sl') => some ((f.1 + 3, f.2.1, st'), h', sl')
            | none => match mi_inv M ev i f.2.2 h with
              | none => none
              | some (j', as, rest) => match Γ j' with
                | none => none
                | some M' => if (lg_sl as).length ≤ M'.2.2.1 ∧ 0 < h.length then match mi_run Γ ev N j' (0, lv_args 0 as, []) h sl with
                    | some (r, h', sl') => some ((f.1 + 3, f.2.1, r.toList ++ rest), h', sl')
                    | none => none
                  else none
theorem mi_one_yes {Γ : Nat → Option mi_Me} {ev : mi_Ev} {N j : Nat} {f f' : mi_Fr} {h h' : List mi_C} {sl sl' : Nat} {r : Option Value × List mi_C × Nat} (hp : mi_one Γ ev N j f h sl = some (f', h', sl')) (k : mi_yes Γ ev j f' h' sl' r) : mi_yes Γ ev j f h sl r := by
  obtain ⟨pc, lv, st⟩ := f
  unfold mi_one at hp
  split at hp
  · cases hp
  · rename_i M hj
    split at hp
    · cases hp
    · rename_i i len hf
      split at hp
      · rename_i f1 h1
        cases hp
        exact mi_go_p hj hf h1 k
      · rename_i h1
        split at hp
        · rename_i q h2
          cases hp
          exact mi_go_h hj hf h1 h2 k
        · rename_i h2
          split at hp
          · cases hp
          · rename_i h3
            split at hp
            · rename_i st1 hh1 sl1 h4
              cases hp
              exact mi_go_n hj hf h1 h2 h3 h4 k
            · rename_i h4
              split at hp
              · cases hp
              · rename_i j2 as2 rest2 h5
                split at hp
                · cases hp
                · rename_i M' hj2
                  split at hp
                  · rename_i hc
                    split at hp
                    · rename_i r1 hh1 sl1 h6
                      cases hp
                      exact mi_go_c hj hf h1 h2 h3 h4 h5 hj2 hc (mi_yes.of h6) k
                    · cases hp
                  · cases hp
def mi_stp (Γ : Nat → Option mi_Me) (ev : mi_Ev) (N j : Nat) : Nat → mi_Fr → List mi_C → Nat → Option (mi_Fr × List mi_C × Nat)
  | 0, f, h, sl => some (f, h, sl)
  | n + 1, f, h, sl => match mi_one Γ ev N j f h sl with
    | some (f', h', sl') => mi_stp Γ ev N j n f' h' sl'
    | none => none
theorem mi_stp_yes {Γ : Nat → Option mi_Me} {ev : mi_Ev} {N j : Nat} : ∀ {n : Nat} {f f' : mi_Fr} {h h' : List mi_C} {sl sl' : Nat} {r : Option Value × List mi_C × Nat}, mi_stp Γ ev N j n f h sl = some (f', h', sl') → mi_yes Γ ev j f' h' sl' r → mi_yes Γ ev j f h sl r := by
  intro n
  induction n with
  | zero => intro f f' h h' sl sl' r e k; cases e; exact k
  | succ n ih =>
    intro f f' h h' sl sl' r e k
    rw [mi_stp] at e
    split at e
    · rename_i f1 h1 sl1 h2
      exact mi_one_yes h2 (ih e k)
    · cases e
/-- what is outside, without the script -/
def mi_v0 : mi_Ev := (mi_e1, mi_e2, mi_e3, mi_e4, mi_e5)
theorem mi_v0_le (zs : List Int32) : mi_le mi_v0 (mi_ev zs) := by
  refine ⟨fun k v h => ?_, rfl⟩
  have hm := mi_oa_mem (t := v.1) (xs := v.2) h
  have hk : ∀ q ∈ mi_e1, q.1 ≠ 0 := by decide +kernel
  have h0 := hk _ hm
  dsimp only at h0
  unfold mi_oa at h ⊢
  rw [show (mi_ev zs).1 = (0, 1, zs) :: mi_e1 from rfl, List.find?_cons_of_neg (by simpa using fun e => h0 e.symm)]
  exact h
theorem mi_yes.ext {j : Nat} {f : mi_Fr} {h : List mi_C} {sl : Nat} {r : Option Value × List mi_C × Nat} (k : mi_yes mi_Γ mi_v0 j f h sl r) (zs : List Int32) : mi_yes mi_Γ (mi_ev zs) j f h sl r := by
  obtain ⟨n, e⟩ := k
  exact ⟨n, mi_run_ext (mi_v0_le zs) _ _ _ _ _ _ e⟩
def mi_eqC : mi_C → mi_C → Bool
  | .inl (a, fs), .inl (b, gs) => decide (a = b) && decide (fs = gs)
  | .inr (a, n, .inl xs), .inr (b, m, .inl ys) => decide (a = b) && decide (n = m) && decide (xs = ys)
  | .inr (a, n, .inr xs), .inr (b, m, .inr ys) => decide (a = b) && decide (n = m) && decide (xs = ys)
  | _, _ => false
theorem mi_eqC_ok : ∀ {a b : mi_C}, mi_eqC a b = true → a = b
  | .inl (a, fs), .inl (b, gs), h => by
    simp only [mi_eqC, Bool.and_eq_true, decide_eq_true_eq] at h
    rw [h.1, h.2]
  | .inr (a, n, .inl xs), .inr (b, m, .inl ys), h => by
    simp only [mi_eqC, Bool.and_eq_true, decide_eq_true_eq] at h
    rw [h.1.1, h.1.2, h.2]
  | .inr (a, n, .inr xs), .inr (b, m, .inr ys), h => by
    simp only [mi_eqC, Bool.and_eq_true, decide_eq_true_eq] at h
    rw [h.1.1, h.1.2, h.2]
  | .inl (a, fs), .inr (b, m, y), h => by simp [mi_eqC] at h
  | .inr (a, n, x), .inl (b, gs), h => by simp [mi_eqC] at h
  | .inr (a, n, .inl xs), .inr (b, m, .inr ys), h => by simp [mi_eqC] at h
  | .inr (a, n, .inr xs), .inr (b, m, .inl ys), h => by simp [mi_eqC] at h
def mi_eqH : List mi_C → List mi_C → Bool
  | [], [] => true
  | a :: h, b :: g => mi_eqC a b && mi_eqH h g
  | _, _ => false
theorem mi_eqH_ok : ∀ {h g : List mi_C}, mi_eqH h g = true → h = g
  | [], [], _ => rfl
  | a :: h, b :: g, e => by
    simp only [mi_eqH, Bool.and_eq_true] at e
    rw [mi_eqC_ok e.1, mi_eqH_ok e.2]
  | [], _ :: _, e => by simp [mi_eqH] at e
  | _ :: _, [], e => by simp [mi_eqH] at e
def mi_eqS (x : Option (mi_Fr × List mi_C × Nat)) (f : mi_Fr) (h : List mi_C) (sl : Nat) : Bool := match x with
  | some (f', h', sl') => decide (f'.1 = f.1) && decide (f'.2.1 = f.2.1) && decide (f'.2.2 = f.2.2) && mi_eqH h' h && decide (sl' = sl)
  | none => false
theorem mi_eqS_ok {x : Option (mi_Fr × List mi_C × Nat)} {f : mi_Fr} {h : List mi_C} {sl : Nat} (e : mi_eqS x f h sl = true) : x = some (f, h, sl) := by
  unfold mi_eqS at e
  split at e
  · rename_i f' h' sl'
    simp only [Bool.and_eq_true, decide_eq_true_eq] at e
    obtain ⟨⟨⟨⟨e1, e2⟩, e3⟩, e4⟩, e5⟩ := e
    obtain ⟨a, b, c⟩ := f
    obtain ⟨a', b', c'⟩ := f'
    dsimp only at e1 e2 e3
    rw [e1, e2, e3, mi_eqH_ok e4, e5]
  · cases e
def mi_eqA (x : Option (Option Value × List mi_C × Nat)) (r : Option Value) (h : List mi_C) (sl : Nat) : Bool := match x with
  | some (r', h', sl') => decide (r' = r) && mi_eqH h' h && decide (sl' = sl)
  | none => false
theorem mi_eqA_ok {x : Option (Option Value × List mi_C × Nat)} {r : Option Value} {h : List mi_C} {sl : Nat} (e : mi_eqA x r h sl = true) : x = some (r, h, sl) := by
  unfold mi_eqA at e
  split at e
  · rename_i r' h' sl'
    simp only [Bool.and_eq_true, decide_eq_true_eq] at e
    obtain ⟨⟨e1, e4⟩, e5⟩ := e
    rw [e1, mi_eqH_ok e4, e5]
  · cases e
