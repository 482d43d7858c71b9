/-! Runs that go on: what is wanted of the end stands in the goal; a call's answer is followed on in the same line. -/
def mi_ok (P : Option Value → List mi_C → Nat → Prop) (Γ : Nat → Option mi_Me) (ev : mi_Ev) (j : Nat) (f : mi_Fr) (h : List mi_C) (sl : Nat) : Prop := ∃ (r : Option Value) (h' : List mi_C) (sl' : Nat), mi_yes Γ ev j f h sl (r, h', sl') ∧ P r h' sl'
theorem mi_ok.mono {P Q : Option Value → List mi_C → Nat → Prop} {Γ : Nat → Option mi_Me} {ev : mi_Ev} {j : Nat} {f : mi_Fr} {h : List mi_C} {sl : Nat} (y : mi_ok Q Γ ev j f h sl) (k : ∀ r h' sl', Q r h' sl' → P r h' sl') : mi_ok P Γ ev j f h sl := by
  obtain ⟨r, h1, s1, y, q⟩ := y
  exact ⟨r, h1, s1, y, k _ _ _ q⟩
section MK
variable {Γ : Nat → Option mi_Me} {ev : mi_Ev} {P : Option Value → List mi_C → Nat → Prop} {j j' : Nat} {M M' : mi_Me} {i : Instr} {len pc : Nat} {lv : mi_L} {st : List Value} {h h' : List mi_C} {sl sl' : Nat}
theorem mk_p {f' : mi_Fr} (hj : Γ j = some M) (hf : mi_ft M.2.2.2.2.1 pc = some (i, len)) (hp : mi_pure M.2.2.1 i pc lv st = some f') (k : mi_ok P Γ ev j f' h sl) : mi_ok P Γ ev j (pc, lv, st) h sl := by
  obtain ⟨r, h1, s1, y, q⟩ := k
  exact ⟨r, h1, s1, mi_go_p hj hf hp y, q⟩
theorem mk_h {f' : mi_Fr} (hj : Γ j = some M) (hf : mi_ft M.2.2.2.2.1 pc = some (i, len)) (hp : mi_pure M.2.2.1 i pc lv st = none) (hh : mi_heap M.2.2.2.2.2.1 ev i pc lv st h sl = some (f', h', sl')) (k : mi_ok P Γ ev j f' h' sl') : mi_ok P Γ ev j (pc, lv, st) h sl := by
  obtain ⟨r, h1, s1, y, q⟩ := k
  exact ⟨r, h1, s1, mi_go_h hj hf hp hh y, q⟩
theorem mk_r {r : Option Value} (hj : Γ j = some M) (hf : mi_ft M.2.2.2.2.1 pc = some (i, len)) (hp : mi_pure M.2.2.1 i pc lv st = none) (hh : mi_heap M.2.2.2.2.2.1 ev i pc lv st h sl = none) (hr : mi_ret M.2.2.2.1 i st = some r) (q : P r h sl) : mi_ok P Γ ev j (pc, lv, st) h sl :=
  ⟨r, h, sl, mi_go_r hj hf hp hh hr, q⟩
theorem mk_n {st' : List Value} (hj : Γ j = some M) (hf : mi_ft M.2.2.2.2.1 pc = some (i, len)) (hp : mi_pure M.2.2.1 i pc lv st = none) (hh : mi_heap M.2.2.2.2.2.1 ev i pc lv st h sl = none) (hr : mi_ret M.2.2.2.1 i st = none) (hn : mi_nat M i st h sl = some (st', h', sl')) (k : mi_ok P Γ ev j (pc + 3, lv, st') h' sl') : mi_ok P Γ ev j (pc, lv, st) h sl := by
  obtain ⟨r, h1, s1, y, q⟩ := k
  exact ⟨r, h1, s1, mi_go_n hj hf hp hh hr hn y, q⟩
/-- a call whose run is known -/
theorem mk_y {as rest : List Value} {r' : Option Value} (hj : Γ j = some M) (hf : mi_ft M.2.2.2.2.1 pc = some (i, len)) (hp : mi_pure M.2.2.1 i pc lv st = none) (hh : mi_heap M.2.2.2.2.2.1 ev i pc lv st h sl = none) (hr : mi_ret M.2.2.2.1 i st = none) (hn : mi_nat M i st h sl = none) (hi : mi_inv M ev i st h = some (j', as, rest)) (hj2 : Γ j' = some M') (hc : (lg_sl as).length ≤ M'.2.2.1) (hz : 0 < h.length) (c : mi_yes Γ ev j' (0, lv_args 0 as, []) h sl (r', h', sl')) (k : mi_ok P Γ ev j (pc + 3, lv, r'.toList ++ rest) h' sl') : mi_ok P Γ ev j (pc, lv, st) h sl := by
  obtain ⟨r, h1, s1, y, q⟩ := k
  exact ⟨r, h1, s1, mi_go_c hj hf hp hh hr hn hi hj2 ⟨hc, hz⟩ c y, q⟩
/-- a call that is followed -/
theorem mk_c {as rest : List Value} (hj : Γ j = some M) (hf : mi_ft M.2.2.2.2.1 pc = some (i, len)) (hp : mi_pure M.2.2.1 i pc lv st = none) (hh : mi_heap M.2.2.2.2.2.1 ev i pc lv st h sl = none) (hr : mi_ret M.2.2.2.1 i st = none) (hn : mi_nat M i st h sl = none) (hi : mi_inv M ev i st h = some (j', as, rest)) (hj2 : Γ j' = some M') (hc : (lg_sl as).length ≤ M'.2.2.1) (hz : 0 < h.length) (c : mi_ok (fun r' h' sl' => mi_ok P Γ ev j (pc + 3, lv, r'.toList ++ rest) h' sl') Γ ev j' (0, lv_args 0 as, []) h sl) : mi_ok P Γ ev j (pc, lv, st) h sl := by
  obtain ⟨r', h', s', y, k⟩ := c
  exact mk_y hj hf hp hh hr hn hi hj2 hc hz y k
/-- a value that is told otherwise -/
theorem mk_v {pc' : Nat} {v v' : Value} {st' : List Value} (hj : Γ j = some M) (hf : mi_ft M.2.2.2.2.1 pc = some (i, len)) (hp : mi_pure M.2.2.1 i pc lv st = some (pc', lv, v :: st')) (hv : v = v') (k : mi_ok P Γ ev j (pc', lv, v' :: st') h sl) : mi_ok P Γ ev j (pc, lv, st) h sl := by
  subst hv; exact mk_p hj hf hp k
/-- an int that need not be known -/
theorem mk_e {pc' : Nat} {x : Int32} {st' : List Value} (hj : Γ j = some M) (hf : mi_ft M.2.2.2.2.1 pc = some (i, len)) (hp : mi_pure M.2.2.1 i pc lv st = some (pc', lv, .int x :: st')) (k : ∀ w : Int32, mi_ok P Γ ev j (pc', lv, .int w :: st') h sl) : mi_ok P Γ ev j (pc, lv, st) h sl := mk_p hj hf hp (k x)
theorem mk_i {pc' k : Nat} {n : Int} {x y : Int32} {lv' : mi_L} (hj : Γ j = some M) (hf : mi_ft M.2.2.2.2.1 pc = some (.iinc k n, len)) (hg : mi_get lv k = some (.int x)) (hk : k < M.2.2.1) (hv : x + Int32.ofInt n = y) (hl : mi_st1 lv k (.int y) = lv') (hpc : pc + 3 = pc') (c : mi_ok P Γ ev j (pc', lv', st) h sl) : mi_ok P Γ ev j (pc, lv, st) h sl := by
  subst hv; subst hl; subst hpc
  refine mk_p hj hf ?_ c
  simp only [mi_pure, hg, hk, if_true]
/-- a branch that is taken, a branch that is not -/
theorem mk_t {q : Bool} {off : Int} {t : Nat} {st' : List Value} (hj : Γ j = some M) (hf : mi_ft M.2.2.2.2.1 pc = some (i, len)) (hp : mi_pure M.2.2.1 i pc lv st = mi_br q pc off lv st') (hq : q = true) (ht : mi_tg pc off = some t) (k : mi_ok P Γ ev j (t, lv, st') h sl) : mi_ok P Γ ev j (pc, lv, st) h sl := by
  refine mk_p hj hf ?_ k
  rw [hp, hq, mi_br, ht]
theorem mk_f {q : Bool} {off : Int} {t pc' : Nat} {st' : List Value} (hj : Γ j = some M) (hf : mi_ft M.2.2.2.2.1 pc = some (i, len)) (hp : mi_pure M.2.2.1 i pc lv st = mi_br q pc off lv st') (hq : q = false) (ht : mi_tg pc off = some t) (hpc : pc + 3 = pc') (k : mi_ok P Γ ev j (pc', lv, st') h sl) : mi_ok P Γ ev j (pc, lv, st) h sl := by
  subst hpc
  refine mk_p hj hf ?_ k
  rw [hp, hq, mi_br, ht]
theorem mk_g {off : Int} {t : Nat} (hj : Γ j = some M) (hf : mi_ft M.2.2.2.2.1 pc = some (.goto off, len)) (ht : mi_tg pc off = some t) (k : mi_ok P Γ ev j (t, lv, st) h sl) : mi_ok P Γ ev j (pc, lv, st) h sl := by
  refine mk_p hj hf ?_ k
  rw [mi_pure, ht]; rfl
def mi_sw (pc : Nat) (dflt lo hi : Int) (offs : Array Int) (X : Int32) : Option Nat := if X.toInt < lo ∨ hi < X.toInt then mi_tg pc dflt else match offs[(X.toInt - lo).toNat]? with
  | some off => mi_tg pc off
  | none => none
theorem mk_s {dflt lo hi : Int} {offs : Array Int} {t : Nat} {x X : Int32} (hj : Γ j = some M) (hf : mi_ft M.2.2.2.2.1 pc = some (.tableswitch dflt lo hi offs, len)) (hx : x = X) (ht : mi_sw pc dflt lo hi offs X = some t) (k : mi_ok P Γ ev j (t, lv, st) h sl) : mi_ok P Γ ev j (pc, lv, .int x :: st) h sl := by
  subst hx
  refine mk_p hj hf ?_ k
  rw [mi_sw] at ht
  rw [mi_pure]
  split at ht
  · rename_i hc
    rw [if_pos hc, ht]; rfl
  · rename_i hc
    rw [if_neg hc]
    split at ht
    · rename_i off he
      rw [he]
      dsimp only
      rw [ht]; rfl
    · cases ht
theorem mk_d {dflt lo hi : Int} {offs : Array Int} {t : Nat} {x : Int32} (hj : Γ j = some M) (hf : mi_ft M.2.2.2.2.1 pc = some (.tableswitch dflt lo hi offs, len)) (hx : x.toInt < lo ∨ hi < x.toInt) (ht : mi_tg pc dflt = some t) (k : mi_ok P Γ ev j (t, lv, st) h sl) : mi_ok P Γ ev j (pc, lv, .int x :: st) h sl := by
  refine mk_p hj hf ?_ k
  rw [mi_pure, if_pos hx, ht]; rfl
theorem mh_getf {K : mi_Lk} {x ci k a : Nat} {fs : List Value} {v : Value} (hK : K.1 x = some (ci, k)) (hg : h[a]? = some (.inl (ci, fs))) (hv : fs[k]? = some v) : mi_heap K ev (.getfield x) pc lv (.ref a :: st) h sl = some ((pc + 3, lv, v :: st), h, sl) := by
  simp only [mi_heap, hK, hg, hv, if_true]
theorem mh_putf {K : mi_Lk} {x ci k a : Nat} {ty : FieldType} {fs fs' : List Value} {v : Value} (hK : K.2.1 x = some (ci, k, ty)) (hg : h[a]? = some (.inl (ci, fs))) (hk : k < fs.length) (h1 : fits ty v = true) (h2 : narrow ty v = v) (hs : fs.set k v = fs') : mi_heap K ev (.putfield x) pc lv (v :: .ref a :: st) h sl = some ((pc + 3, lv, st), h.set a (.inl (ci, fs')), sl) := by
  subst hs
  simp only [mi_heap, hK, hg]
  rw [if_pos ⟨trivial, hk, h1, h2⟩]
theorem mh_ial {K : mi_Lk} {a : Nat} {x v : Int32} {xs : List Int32} (ho : mi_oa ev a = some (1, xs)) (hi : mi_in x xs.length = true) (hv : xs.getD x.toNatClampNeg 0 = v) : mi_heap K ev .iaload pc lv (.int x :: .retAddr a :: st) h sl = some ((pc + 1, lv, .int v :: st), h, sl) := by
  simp only [mi_heap, ho, hi, hv, if_true]
theorem mh_ias {K : mi_Lk} {a n : Nat} {x v : Int32} {xs : List Int32} (hg : h[a]? = some (.inr (1, n, .inl xs))) (hi : mi_in x n = true) : mi_heap K ev .iastore pc lv (.int v :: .int x :: .ref a :: st) h sl = some ((pc + 1, lv, st), h.set a (.inr (1, n, .inl (mi_sl 0 xs x.toNatClampNeg v))), sl) := by
  simp only [mi_heap, hg, hi, if_true]
theorem mh_bas {K : mi_Lk} {a n : Nat} {x v : Int32} {xs : List Int32} (hg : h[a]? = some (.inr (0, n, .inl xs))) (hi : mi_in x n = true) : mi_heap K ev .bastore pc lv (.int v :: .int x :: .ref a :: st) h sl = some ((pc + 1, lv, st), h.set a (.inr (0, n, .inl (mi_sl 0 xs x.toNatClampNeg (vp_nar .byte v)))), sl) := by
  simp only [mi_heap, hg, hi, if_true]
theorem mh_len {K : mi_Lk} {a n t : Nat} {e : List Int32 ⊕ List Int64} {v : Int32} (hg : h[a]? = some (.inr (t, n, e))) (ht : t < 4) (hv : Int32.ofNat n = v) : mi_heap K ev .arraylength pc lv (.ref a :: st) h sl = some ((pc + 1, lv, .int v :: st), h, sl) := by
  subst hv
  simp only [mi_heap, hg, ht, if_true]
theorem mh_virt {x n a ci : Nat} {rest as : List Value} {fs : List Value} (hC : M.2.2.2.2.2.2 x = some (0, j', n, ci)) (hd : st.drop n = .ref a :: rest) (hg : h[a]? = some (.inl (ci, fs))) (hc : mi_cat rest ≤ 8) (ha : .ref a :: (st.take n).reverse = as) : mi_inv M ev (.invokevirtual x) st h = some (j', as, rest) := by
  subst ha
  simp only [mi_inv, hC, hd, hg]
  rw [if_pos ⟨trivial, hc⟩]
end MK
theorem mi_pos {h : List mi_C} {a : Nat} {c : mi_C} (g : h[a]? = some c) : 0 < h.length := by
  obtain ⟨h1, -⟩ := List.getElem?_eq_some_iff.mp g
  omega
theorem mi_gs {h : List mi_C} {a : Nat} {c c' : mi_C} (g : h[a]? = some c) : (h.set a c')[a]? = some c' := by
  obtain ⟨h1, -⟩ := List.getElem?_eq_some_iff.mp g
  rw [List.getElem?_set_self h1]
theorem mi_gn {h : List mi_C} {a b : Nat} {c c' : mi_C} (g : h[b]? = some c) (hab : a ≠ b) : (h.set a c')[b]? = some c := by
  rw [List.getElem?_set_ne hab]; exact g
section MKW
variable {Γ : Nat → Option mi_Me} {ev : mi_Ev} {P : Option Value → List mi_C → Nat → Prop} {j : Nat} {M : mi_Me} {i : Instr} {len pc : Nat} {lv : mi_L} {st : List Value} {h : List mi_C} {sl : Nat}
/-- a cell is written: what is known of the cells behind it -/
theorem mk_w {f' : mi_Fr} {a : Nat} {c : mi_C} (c' : mi_C) (hj : Γ j = some M) (hf : mi_ft M.2.2.2.2.1 pc = some (i, len)) (hp : mi_pure M.2.2.1 i pc lv st = none) (hh : mi_heap M.2.2.2.2.2.1 ev i pc lv st h sl = some (f', h.set a c', sl)) (g : h[a]? = some c) (k : ∀ h' : List mi_C, h'.length = h.length → h'[a]? = some c' → (∀ b, a ≠ b → h'[b]? = h[b]?) → mi_ok P Γ ev j f' h' sl) : mi_ok P Γ ev j (pc, lv, st) h sl :=
  mk_h hj hf hp hh (k _ List.length_set (mi_gs g) (fun _ hb => List.getElem?_set_ne hb))
/-- an element of a row of ints or bytes is written, and need not be known -/
theorem mk_wa {f' : mi_Fr} {a t n : Nat} {c : mi_C} {ys : List Int32} (hj : Γ j = some M) (hf : mi_ft M.2.2.2.2.1 pc = some (i, len)) (hp : mi_pure M.2.2.1 i pc lv st = none) (hh : mi_heap M.2.2.2.2.2.1 ev i pc lv st h sl = some (f', h.set a (.inr (t, n, .inl ys)), sl)) (g : h[a]? = some c) (k : ∀ (h' : List mi_C) (ys : List Int32), h'.length = h.length → h'[a]? = some (.inr (t, n, .inl ys)) → (∀ b, a ≠ b → h'[b]? = h[b]?) → mi_ok P Γ ev j f' h' sl) : mi_ok P Γ ev j (pc, lv, st) h sl :=
  mk_h hj hf hp hh (k _ ys List.length_set (mi_gs g) (fun _ hb => List.getElem?_set_ne hb))
end MKW
/-- the law's end, as it should be -/
def mi_fin (n sl : Nat) (r : Option Value) (h' : List mi_C) (sl' : Nat) : Prop := r = some (.int 1) ∧ h'.length = n ∧ sl' = sl
