/-! Copies of bytes; a byte is read. -/
section MCP
variable {Γ : Nat → Option mi_Me} {ev : mi_Ev} {P : Option Value → List mi_C → Nat → Prop} {j : Nat} {M : mi_Me} {len pc : Nat} {lv : mi_L} {st : List Value} {h : List mi_C} {sl : Nat}
theorem mk_cp {x a0 a n0 n1 q1 q2 q3 S D K : Nat} {xs ys : List Int32} {sp dp n : Int32} {pc' : Nat} (hj : Γ j = some M) (hf : mi_ft M.2.2.2.2.1 pc = some (.invokestatic x, len)) (hC : M.2.2.2.2.2.2 x = some (8, q1, q2, q3)) (g0 : h[a0]? = some (.inr (0, n0, .inl xs))) (g1 : h[a]? = some (.inr (0, n1, .inl ys))) (hs : sp.toInt = (S : Int)) (hd : dp.toInt = (D : Int)) (hn : n.toInt = (K : Int)) (b0 : S + K ≤ n0) (b1 : D + K ≤ n1) (ft : ∀ i, fits .byte (.int (xs.getD i 0)) = true) (hc : mi_cat st ≤ 8) (hpc : pc + 3 = pc') (c : ∀ (h' : List mi_C) (zs : List Int32), h'.length = h.length → h'[a]? = some (.inr (0, n1, .inl zs)) → (∀ k, zs.getD k 0 = if D ≤ k ∧ k < D + K then xs.getD (S + (k - D)) 0 else ys.getD k 0) → (∀ b, a ≠ b → h'[b]? = h[b]?) → mi_ok P Γ ev j (pc', lv, st) h' sl) : mi_ok P Γ ev j (pc, lv, .int n :: .int dp :: .ref a :: .int sp :: .ref a0 :: st) h sl := by
  subst hpc
  have e0 : (0 : Int32).toInt = 0 := by decide +kernel
  have e1 : sp.toNatClampNeg = S := by have e : sp.toNatClampNeg = sp.toInt.toNat := rfl; omega
  have e2 : dp.toNatClampNeg = D := by have e : dp.toNatClampNeg = dp.toInt.toNat := rfl; omega
  have e3 : n.toNatClampNeg = K := by have e : n.toNatClampNeg = n.toInt.toNat := rfl; omega
  have k1 : ¬ sp < 0 := by rw [Int32.lt_iff_toInt_lt]; omega
  have k2 : ¬ dp < 0 := by rw [Int32.lt_iff_toInt_lt]; omega
  have k3 : ¬ n < 0 := by rw [Int32.lt_iff_toInt_lt]; omega
  refine mk_n hj hf rfl rfl rfl (st' := st) (h' := h.set a (.inr (0, n1, .inl (mi_cpy 0 xs ys S D K)))) (sl' := sl) ?_ (c _ _ List.length_set (mi_gs g1) (fun k => ?_) (fun _ hb => List.getElem?_set_ne hb))
  · simp only [mi_nat, hC, g0, g1, e1, e2, e3]
    have fa : (List.range K).all (fun i => fits (mi_ty 0) (.int (xs.getD (S + i) 0))) = true := List.all_eq_true.mpr (fun i _ => ft _)
    exact if_pos ⟨trivial, by decide, k1, k2, k3, b0, b1, fa, hc⟩
  · have e := congrFun (mi_cpy_get (0 : Int32) xs ys S D K) k
    exact e
/-- a byte is read -/
theorem mh_bal {K : mi_Lk} {a n : Nat} {x : Int32} {xs : List Int32} (hg : h[a]? = some (.inr (0, n, .inl xs))) (hi : mi_in x n = true) : mi_heap K ev .baload pc lv (.int x :: .ref a :: st) h sl = some ((pc + 1, lv, .int (xs.getD x.toNatClampNeg 0) :: st), h, sl) := by
  simp only [mi_heap, hg, hi, if_true]
/-- a local grows -/
theorem mk_is {pc' k : Nat} {n c : Int} {x : Int32} (hj : Γ j = some M) (hf : mi_ft M.2.2.2.2.1 pc = some (.iinc k n, len)) (hg : mi_get lv k = some (.int x)) (hk : k < M.2.2.1) (hv : (Int32.ofInt n).toInt = c) (h1 : -2147483648 ≤ x.toInt + c) (h2 : x.toInt + c ≤ 2147483647) (hpc : pc + 3 = pc') (q : ∀ w : Int32, w.toInt = x.toInt + c → mi_ok P Γ ev j (pc', mi_st1 lv k (.int w), st) h sl) : mi_ok P Γ ev j (pc, lv, st) h sl := by
  refine mk_i hj hf hg hk rfl rfl hpc (q _ ?_)
  rw [Int32.toInt_add, hv]
  exact Int.bmod_eq_of_le (by omega) (by omega)
end MCP
