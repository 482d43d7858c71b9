/-! What is true of a program's lines. -/
def tOk (ns : List (List Int)) (t : Int) : Prop := t = 1 ∨ t = 3 ∨ ∃ c : Nat, c < ns.length ∧ (t = 4 + 2 * (c : Int) ∨ t = 5 + 2 * (c : Int))
/-- an instruction of a body from s to e -/
def cW (ns : List (List Int)) (us : List Int) (fl : List (List Int × Nat × Int)) (bl : List jB) (sl : List Int) (s e : Nat) (lc : Int) (x : jC) : Prop := x.1 < 46 ∧ (fK x.1 = 4 → ∃ t : Nat, x.2.1 = (t : Int) ∧ s ≤ t ∧ t < e) ∧ (fK x.1 = 2 ∨ fK x.1 = 3 → 0 ≤ x.2.1 ∧ x.2.1 < lc) ∧ (fK x.1 = 5 → ∃ c : Nat, x.2.1 = (c : Int) ∧ c < ns.length) ∧ (fK x.1 = 6 ∨ fK x.1 = 7 → tOk ns x.2.1 ∧ (fK x.1 = 6 → x.2.1 = 1 ∨ ∃ c : Nat, c < ns.length ∧ x.2.1 = 4 + 2 * (c : Int))) ∧ (x.1 = 35 ∨ x.1 = 36 → ∃ f c : Nat, x.2.1 = (f : Int) ∧ f < fl.length ∧ x.2.2.1 = (c : Int) ∧ c < ns.length ∧ ∃ y, fl[f]? = some y ∧ anc us c y.2.1 = true) ∧ (x.1 = 39 ∨ x.1 = 40 → ∃ (f c : Nat) (y : jB), x.2.1 = (f : Int) ∧ bl[f]? = some y ∧ y.me = decide (x.1 = 40) ∧ x.2.2.1 = (c : Int) ∧ c < ns.length ∧ anc us c y.ow = true) ∧ (x.1 = 30 ∨ x.1 = 31 → ∃ (k : Nat) (t : Int), x.2.2.1 = (k : Int) ∧ sl[k]? = some t ∧ [t] = sTy x.1 x.2.1) ∧ (x.1 = 0 → -2147483648 ≤ x.2.1 ∧ x.2.1 ≤ 2147483647) ∧ (x.1 = 4 → -2147483648 ≤ x.2.2.1 ∧ x.2.2.1 ≤ 2147483647)
def kWf (ns : List (List Int)) (us : List Int) (s e b : Nat) (x : Nat × Nat × Nat × Nat × Nat) : Prop := x.1 = b ∧ s ≤ x.2.1 ∧ x.2.1 < x.2.2.1 ∧ x.2.2.1 ≤ e ∧ s ≤ x.2.2.2.1 ∧ x.2.2.2.1 < e ∧ x.2.2.2.2 < ns.length ∧ anc us x.2.2.2.2 1 = true
section WF
variable {tx ns : List (List Int)} {us : List Int} {fl : List (List Int × Nat × Int)} {bl : List jB}
theorem cW_sl {sl sl' : List Int} {s e : Nat} {lc : Int} {x : jC} (h : cW ns us fl bl sl s e lc x) : cW ns us fl bl (sl ++ sl') s e lc x := by
  obtain ⟨h1, h2, h3, h4, h5, h6, h7, h8, h9⟩ := h
  refine ⟨h1, h2, h3, h4, h5, h6, h7, fun q => ?_, h9⟩
  obtain ⟨k, t, k1, k2, k3⟩ := h8 q
  exact ⟨k, t, k1, by rw [List.getElem?_append_left (at_lt k2)]; exact k2, k3⟩
theorem tyC_ok {l : List Int} (h : tyC ns l ≠ -2) (h2 : isT l = true) : tOk ns (tyC ns l) := by
  have hm := ty_m1 (ns := ns) h2
  rcases tyC_kind h with ⟨a1, a2⟩ | ⟨a1, a2⟩ | ⟨a1, a2⟩ | ⟨j, a1, a2, a3⟩ | ⟨j, a1, a2⟩
  · exact Or.inl a1
  · exact Or.inr (Or.inl a1)
  · exact absurd a1 hm
  · exact Or.inr (Or.inr ⟨j, at_lt a3, Or.inr a1⟩)
  · exact Or.inr (Or.inr ⟨j, at_lt a2, Or.inl a1⟩)
theorem fdL_rg {c : Nat} {n : List Int} : ∀ (l : List (List Int × Nat × Int)) (i : Nat), fdL us c n l i = -1 ∨ ∃ k x, fdL us c n l i = ((i + k : Nat) : Int) ∧ l[k]? = some x ∧ x.1 = n ∧ anc us c x.2.1 = true := by
  intro l
  induction l with
  | nil => intro i; exact Or.inl rfl
  | cons z l ih =>
    intro i
    rw [fdL]
    by_cases q : z.1 = n ∧ anc us c z.2.1 = true
    · rw [if_pos q]; exact Or.inr ⟨0, z, rfl, rfl, q⟩
    · rw [if_neg q]
      rcases ih (i + 1) with h | ⟨k, x, h1, h2⟩
      · exact Or.inl h
      · exact Or.inr ⟨k + 1, x, by rw [h1]; congr 1; omega, h2⟩
theorem fK_F : ∀ o : Nat, o < 46 → (fK o = 8 ↔ o = 35 ∨ o = 36 ∨ o = 39 ∨ o = 40) := by decide +kernel
theorem site_w {o : Nat} {x y : Int} {sl : List Int} : (o = 30 ∨ o = 31) → ∃ (k : Nat) (t : Int), (if o = 30 ∨ o = 31 then (sl.length : Int) else y) = (k : Int) ∧ (sl ++ sTy o x)[k]? = some t ∧ [t] = sTy o x := by
  intro q
  have e : ∃ t, [t] = sTy o x := by
    unfold sTy
    rcases q with q | q
    · rw [if_pos q]; exact ⟨_, rfl⟩
    · rw [if_neg (by omega), if_pos q]; exact ⟨_, rfl⟩
  obtain ⟨t, ht⟩ := e
  exact ⟨sl.length, t, by rw [if_pos q], by rw [← ht, List.getElem?_append_right (Nat.le_refl _), Nat.sub_self]; rfl, ht⟩
/-- operands are well-formed -/
theorem oX_w {ls : List (List Int × Nat × Nat)} {st en : Nat} {lc : Int} {sl : List Int} (hls : ∀ q ∈ ls, st ≤ q.2.2) {o a b t : Nat} (h46 : o < 46) (hf : (fOp tx (fK o) a).1 = true) (hns : ns.length ≤ 32) {x y : Int} (h : oX tx ns us fl bl ls en lc o a = some (x, y)) : cW ns us fl bl (sl ++ sTy o x) st en lc (o, x, if o = 30 ∨ o = 31 then (sl.length : Int) else y, b, t) := by
  obtain ⟨m30, m31, m0, m4⟩ := fKmk o h46
  have m37 := fK_37 o h46
  have m8 := fK_F o h46
  obtain ⟨r1, r2, r3, r4⟩ := oX_rg hns h46 hf h
  refine ⟨h46, fun e => ?_, fun e => ?_, fun e => ?_, fun e => ?_, fun e => ?_, fun e => ?_, site_w, r1, fun e => ?_⟩
  · have e' : fK o = 4 := e
    unfold oX at h
    rw [e'] at h
    have h2 : (if 0 ≤ lat ls (tx.getD a []) ∧ lat ls (tx.getD a []) < (en : Int) then some (lat ls (tx.getD a []), (0 : Int)) else none) = some (x, y) := h
    by_cases q : 0 ≤ lat ls (tx.getD a []) ∧ lat ls (tx.getD a []) < (en : Int)
    · rw [if_pos q] at h2
      cases h2
      unfold lat at q ⊢
      cases hl : lfd (tx.getD a []) ls with
      | none => rw [hl] at q; exact absurd q.1 (by decide)
      | some w =>
        rw [hl] at q
        have := hls _ (lfd_in hl)
        have q2 : (w.2 : Int) < (en : Int) := q.2
        exact ⟨w.2, rfl, this, by omega⟩
    · rw [if_neg q] at h2; cases h2
  · have e' : fK o = 2 ∨ fK o = 3 := e
    unfold oX at h
    rcases e' with e' | e'
    · rw [e'] at h
      have h2 : (if 0 ≤ nval (tx.getD a []) ∧ nval (tx.getD a []) < lc then some (nval (tx.getD a []), (0 : Int)) else none) = some (x, y) := h
      by_cases q : 0 ≤ nval (tx.getD a []) ∧ nval (tx.getD a []) < lc
      · rw [if_pos q] at h2; cases h2; exact q
      · rw [if_neg q] at h2; cases h2
    · rw [e'] at h
      have h2 : (if 0 ≤ nval (tx.getD a []) ∧ nval (tx.getD a []) < lc then some (nval (tx.getD a []), nval (tx.getD (a + 1) [])) else none) = some (x, y) := h
      by_cases q : 0 ≤ nval (tx.getD a []) ∧ nval (tx.getD a []) < lc
      · rw [if_pos q] at h2; cases h2; exact q
      · rw [if_neg q] at h2; cases h2
  · have e' : fK o = 5 := e
    unfold oX at h
    rw [e'] at h
    have h2 : (if 0 ≤ amx (tx.getD a []) ns 0 then some (amx (tx.getD a []) ns 0, (0 : Int)) else none) = some (x, y) := h
    by_cases q : 0 ≤ amx (tx.getD a []) ns 0
    · rw [if_pos q] at h2
      have := amx_rg (tx.getD a []) ns 0
      cases h2
      exact ⟨(amx (tx.getD a []) ns 0).toNat, by show amx (tx.getD a []) ns 0 = _; omega, by omega⟩
    · rw [if_neg q] at h2; cases h2
  · have e' : fK o = 6 ∨ fK o = 7 := e
    have hT : isT (tx.getD a []) = true := by
      rcases e' with e' | e'
      · rw [e'] at hf; exact fT_E (tk_ok hf).1
      · rw [e'] at hf
        have h' := (tk_ok hf).1
        rw [Bool.and_eq_true] at h'
        exact h'.1
    have h2 : (if tyC ns (tx.getD a []) = -2 then none else some (tyC ns (tx.getD a []), (0 : Int))) = some (x, y) := by
      unfold oX at h
      rcases e' with e' | e'
      · rw [e'] at h; exact h
      · rw [e'] at h; exact h
    by_cases q : tyC ns (tx.getD a []) = -2
    · rw [if_pos q] at h2; cases h2
    · rw [if_neg q] at h2
      cases h2
      refine ⟨tyC_ok q hT, fun e6 => ?_⟩
      have e6' : fK o = 6 := e6
      rw [e6'] at hf
      have h6 := (tk_ok hf).1
      rw [Bool.or_eq_true] at h6
      have h62 : tx.getD a [] = fx.getD 52 [] ∨ shp (tx.getD a []) = 2 := h6.elim (fun h => Or.inl (fW_at h)) (fun h => Or.inr ((shp_eq _).2.1.mpr (of_decide_eq_true h)))
      obtain ⟨f1, f2, f3, f4, f5, f6⟩ := fx_sh3
      rcases tyC_kind q with ⟨a1, a2⟩ | ⟨a1, a2⟩ | ⟨a1, a2⟩ | ⟨j, a1, a2, a3⟩ | ⟨j, a1, a2⟩
      · exact Or.inl a1
      · exfalso
        rcases h62 with h | h
        · rw [a2] at h; exact absurd (fx_inj 54 (by decide) 52 (by decide) h) (by decide)
        · rw [a2] at h; exact f5 h
      · exact absurd a1 (ty_m1 (ns := ns) hT)
      · exfalso
        rcases h62 with h | h
        · rw [h] at a2; exact f2 a2
        · rw [h] at a2; exact absurd a2 (by decide)
      · exact Or.inr ⟨j, at_lt a2, a1⟩
  · have e' : o = 35 ∨ o = 36 := e
    have ek : fK o = 8 := m8.mpr (by omega)
    unfold oX at h
    rw [ek] at h
    have h2 : oM ns us fl bl o (tx.getD a []) = some (x, y) := h
    unfold oM at h2
    have r := amx_rg ((tx.getD a []).take (dot (tx.getD a []))) ns 0
    by_cases q : amx ((tx.getD a []).take (dot (tx.getD a []))) ns 0 < 0
    · rw [if_pos q] at h2; cases h2
    rw [if_neg q, if_pos e'] at h2
    rcases fdL_rg (us := us) (c := (amx ((tx.getD a []).take (dot (tx.getD a []))) ns 0).toNat) (n := (tx.getD a []).drop (dot (tx.getD a []) + 1)) fl 0 with hh | ⟨k, z, k1, k2, k3, k4⟩
    · rw [hh, if_pos (by decide)] at h2; cases h2
    · rw [k1, if_neg (by omega)] at h2
      cases h2
      refine ⟨k, (amx ((tx.getD a []).take (dot (tx.getD a []))) ns 0).toNat, by show ((0 + k : Nat) : Int) = _; rw [Nat.zero_add], at_lt k2, ?_, by omega, z, k2, k4⟩
      show (if o = 30 ∨ o = 31 then (sl.length : Int) else amx ((tx.getD a []).take (dot (tx.getD a []))) ns 0) = _
      rw [if_neg (by omega)]
      omega
  · have e' : o = 39 ∨ o = 40 := e
    have ek : fK o = 8 := m8.mpr (by omega)
    unfold oX at h
    rw [ek] at h
    have h2 : oM ns us fl bl o (tx.getD a []) = some (x, y) := h
    unfold oM at h2
    have r := amx_rg ((tx.getD a []).take (dot (tx.getD a []))) ns 0
    by_cases q : amx ((tx.getD a []).take (dot (tx.getD a []))) ns 0 < 0
    · rw [if_pos q] at h2; cases h2
    rw [if_neg q, if_neg (by omega)] at h2
    rcases bdL_rg (us := us) (c := (amx ((tx.getD a []).take (dot (tx.getD a []))) ns 0).toNat) (n := (tx.getD a []).drop (dot (tx.getD a []) + 1)) bl 0 (-1) with hh | ⟨k, z, k1, k2, k3, k4⟩
    · rw [hh] at h2
      cases hb : bl[((-1 : Int)).toNat]? with
      | none => rw [hb] at h2; cases h2
      | some w =>
        rw [hb] at h2
        dsimp only at h2
        rw [if_pos (Or.inl (by decide))] at h2
        cases h2
    · rw [k1, Int.toNat_natCast, Nat.zero_add, k2] at h2
      dsimp only at h2
      by_cases q2 : (k : Int) < 0 ∨ ¬ z.me = decide (o = 40)
      · rw [if_pos q2] at h2; cases h2
      · rw [if_neg q2] at h2
        cases h2
        refine ⟨k, (amx ((tx.getD a []).take (dot (tx.getD a []))) ns 0).toNat, z, rfl, k2, ?_, ?_, by omega, k4⟩
        · by_cases q3 : z.me = decide (o = 40)
          · exact q3
          · exact absurd (Or.inr q3) q2
        · show (if o = 30 ∨ o = 31 then (sl.length : Int) else amx ((tx.getD a []).take (dot (tx.getD a []))) ns 0) = _
          rw [if_neg (by omega)]
          omega
  · have e' : o = 4 := e
    show -2147483648 ≤ (if o = 30 ∨ o = 31 then (sl.length : Int) else y) ∧ (if o = 30 ∨ o = 31 then (sl.length : Int) else y) ≤ 2147483647
    rw [if_neg (by omega)]
    exact r2 e'
end WF
