/-! Steps with ints that are told by their toInt, and objects whose fields are known one by one (for calls in any state). -/
section MG
variable {Γ : Nat → Option mi_Me} {ev : mi_Ev} {P : Option Value → List mi_C → Nat → Prop} {j : Nat} {M : mi_Me} {i : Instr} {len pc : Nat} {lv : mi_L} {st : List Value} {h : List mi_C} {sl : Nat}
theorem mi_in_of {x : Int32} {n : Nat} (h0 : 0 ≤ x.toInt) (h1 : x.toInt < n) : mi_in x n = true := by
  unfold mi_in
  rw [decide_eq_true_eq]
  rintro (h | h)
  · rw [Int32.lt_iff_toInt_lt] at h
    have e : (0 : Int32).toInt = 0 := by decide +kernel
    omega
  · have e : x.toNatClampNeg = x.toInt.toNat := rfl
    omega
theorem mi_fk {fs : List Value} {k : Nat} {v : Value} (f : fs[k]? = some v) : k < fs.length := (List.getElem?_eq_some_iff.mp f).1
/-- a sum that is an int -/
theorem mk_add {x y : Int32} {pc' : Nat} (hj : Γ j = some M) (hf : mi_ft M.2.2.2.2.1 pc = some (.iadd, len)) (h1 : -2147483648 ≤ x.toInt + y.toInt) (h2 : x.toInt + y.toInt ≤ 2147483647) (hpc : pc + 1 = pc') (k : ∀ w : Int32, w = x + y → w.toInt = x.toInt + y.toInt → mi_ok P Γ ev j (pc', lv, .int w :: st) h sl) : mi_ok P Γ ev j (pc, lv, .int y :: .int x :: st) h sl := by
  subst hpc
  refine mk_p (f' := (pc + 1, lv, .int (x + y) :: st)) hj hf rfl (k _ rfl ?_)
  rw [Int32.toInt_add]
  exact Int.bmod_eq_of_le (by omega) (by omega)
/-- a field is written -/
theorem mk_wo {a ci k : Nat} {fs : List Value} {v v0 : Value} {x : Nat} {ty : FieldType} {pc' : Nat} (hj : Γ j = some M) (hf : mi_ft M.2.2.2.2.1 pc = some (.putfield x, len)) (hK : M.2.2.2.2.2.1.2.1 x = some (ci, k, ty)) (g : h[a]? = some (.inl (ci, fs))) (f : fs[k]? = some v0) (h1 : fits ty v = true) (h2 : narrow ty v = v) (hpc : pc + 3 = pc') (c : ∀ (h' : List mi_C) (fs' : List Value), h'.length = h.length → h'[a]? = some (.inl (ci, fs')) → fs' = fs.set k v → fs'[k]? = some v → (∀ q, k ≠ q → fs'[q]? = fs[q]?) → (∀ b, a ≠ b → h'[b]? = h[b]?) → mi_ok P Γ ev j (pc', lv, st) h' sl) : mi_ok P Γ ev j (pc, lv, v :: .ref a :: st) h sl := by
  subst hpc
  exact mk_h hj hf rfl (mh_putf hK g (mi_fk f) h1 h2 rfl) (c _ _ List.length_set (mi_gs g) rfl (List.getElem?_set_self (mi_fk f)) (fun _ hq => List.getElem?_set_ne hq) (fun _ hb => List.getElem?_set_ne hb))
/-- a byte is written -/
theorem mk_wb {a n : Nat} {x v : Int32} {xs : List Int32} {pc' : Nat} (hj : Γ j = some M) (hf : mi_ft M.2.2.2.2.1 pc = some (.bastore, len)) (g : h[a]? = some (.inr (0, n, .inl xs))) (hi : mi_in x n = true) (hpc : pc + 1 = pc') (c : ∀ (h' : List mi_C) (ys : List Int32), h'.length = h.length → h'[a]? = some (.inr (0, n, .inl ys)) → ys = mi_sl 0 xs x.toNatClampNeg (vp_nar .byte v) → (∀ b, a ≠ b → h'[b]? = h[b]?) → mi_ok P Γ ev j (pc', lv, st) h' sl) : mi_ok P Γ ev j (pc, lv, .int v :: .int x :: .ref a :: st) h sl := by
  subst hpc
  exact mk_h hj hf rfl (mh_bas g hi) (c _ _ List.length_set (mi_gs g) rfl (fun _ hb => List.getElem?_set_ne hb))
/-- an int is written into a row -/
theorem mk_wi {a n : Nat} {x v : Int32} {xs : List Int32} {pc' : Nat} (hj : Γ j = some M) (hf : mi_ft M.2.2.2.2.1 pc = some (.iastore, len)) (g : h[a]? = some (.inr (1, n, .inl xs))) (hi : mi_in x n = true) (hpc : pc + 1 = pc') (c : ∀ (h' : List mi_C) (ys : List Int32), h'.length = h.length → h'[a]? = some (.inr (1, n, .inl ys)) → ys = mi_sl 0 xs x.toNatClampNeg v → (∀ b, a ≠ b → h'[b]? = h[b]?) → mi_ok P Γ ev j (pc', lv, st) h' sl) : mi_ok P Γ ev j (pc, lv, .int v :: .int x :: .ref a :: st) h sl := by
  subst hpc
  exact mk_h hj hf rfl (mh_ias g hi) (c _ _ List.length_set (mi_gs g) rfl (fun _ hb => List.getElem?_set_ne hb))
theorem mr_i {ret : Option FieldType} {v : Int32} (e : ret = some .int) : mi_ret ret .ireturn [.int v] = some (some (.int v)) := by
  subst e
  show (if narrow FieldType.int (.int v) = .int v then some (some (Value.int v)) else none) = _
  exact if_pos (show narrow FieldType.int (Value.int v) = Value.int v from rfl)
end MG
