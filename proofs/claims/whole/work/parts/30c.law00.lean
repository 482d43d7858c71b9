/-! The law, one call. -/
set_option maxRecDepth 20000 in
theorem lws_0 {N sl : Nat} {h : List mi_C} (hl : h.length = N) : mi_ok (mi_fin N sl) mi_Γ (mi_ev []) 0 (18, [(3, .int 0), (2, .ref 121), (1, .ref 0), (0, .retAddr 0)], []) h sl := by
  refine mk_p (M := mG_0) (i := .iload_n 3) (len := 1) (f' := (19, [(3, .int 0), (2, .ref 121), (1, .ref 0), (0, .retAddr 0)], [.int 0])) mJ_0 (by decide +kernel) rfl ?_
  refine mk_p (M := mG_0) (i := .aload_n 0) (len := 1) (f' := (20, [(3, .int 0), (2, .ref 121), (1, .ref 0), (0, .retAddr 0)], [.retAddr 0, .int 0])) mJ_0 (by decide +kernel) rfl ?_
  refine mk_h (M := mG_0) (i := .arraylength) (len := 1) (f' := (21, [(3, .int 0), (2, .ref 121), (1, .ref 0), (0, .retAddr 0)], [.int 0, .int 0])) (h' := h) (sl' := sl) mJ_0 (by decide +kernel) rfl rfl ?_
  refine mk_v (M := mG_0) (i := .bipush 6) (len := 2) (pc' := 23) (v' := .int 6) (st' := [.int 0, .int 0]) mJ_0 (by decide +kernel) rfl (by decide +kernel) ?_
  refine mk_v (M := mG_0) (i := .isub) (len := 1) (pc' := 24) (v' := .int (-6)) (st' := [.int 0]) mJ_0 (by decide +kernel) rfl (by decide +kernel) ?_
  refine mk_t (M := mG_0) (i := .if_icmp .gt 657) (len := 3) (q := decide (((-6) : Int32) < (0 : Int32))) (off := 657) (t := 681) (st' := []) mJ_0 (by decide +kernel) rfl (by decide +kernel) (by decide +kernel) ?_
  refine mk_v (M := mG_0) (i := .iconst 1) (len := 1) (pc' := 682) (v' := .int 1) (st' := []) mJ_0 (by decide +kernel) rfl (by decide +kernel) ?_
  refine mk_r (M := mG_0) (i := .ireturn) (len := 1) (r := some (.int 1)) mJ_0 (by decide +kernel) rfl rfl (by decide +kernel) ?_
  exact ⟨rfl, hl, rfl⟩
set_option maxRecDepth 20000 in
theorem lws_1 {N sl : Nat} {h : List mi_C} (a0 : Int32) (hl : h.length = N) : mi_ok (mi_fin N sl) mi_Γ (mi_ev [a0]) 0 (18, [(3, .int 0), (2, .ref 121), (1, .ref 0), (0, .retAddr 0)], []) h sl := by
  refine mk_p (M := mG_0) (i := .iload_n 3) (len := 1) (f' := (19, [(3, .int 0), (2, .ref 121), (1, .ref 0), (0, .retAddr 0)], [.int 0])) mJ_0 (by decide +kernel) rfl ?_
  refine mk_p (M := mG_0) (i := .aload_n 0) (len := 1) (f' := (20, [(3, .int 0), (2, .ref 121), (1, .ref 0), (0, .retAddr 0)], [.retAddr 0, .int 0])) mJ_0 (by decide +kernel) rfl ?_
  refine mk_h (M := mG_0) (i := .arraylength) (len := 1) (f' := (21, [(3, .int 0), (2, .ref 121), (1, .ref 0), (0, .retAddr 0)], [.int 1, .int 0])) (h' := h) (sl' := sl) mJ_0 (by decide +kernel) rfl rfl ?_
  refine mk_v (M := mG_0) (i := .bipush 6) (len := 2) (pc' := 23) (v' := .int 6) (st' := [.int 1, .int 0]) mJ_0 (by decide +kernel) rfl (by decide +kernel) ?_
  refine mk_v (M := mG_0) (i := .isub) (len := 1) (pc' := 24) (v' := .int (-5)) (st' := [.int 0]) mJ_0 (by decide +kernel) rfl (by decide +kernel) ?_
  refine mk_t (M := mG_0) (i := .if_icmp .gt 657) (len := 3) (q := decide (((-5) : Int32) < (0 : Int32))) (off := 657) (t := 681) (st' := []) mJ_0 (by decide +kernel) rfl (by decide +kernel) (by decide +kernel) ?_
  refine mk_v (M := mG_0) (i := .iconst 1) (len := 1) (pc' := 682) (v' := .int 1) (st' := []) mJ_0 (by decide +kernel) rfl (by decide +kernel) ?_
  refine mk_r (M := mG_0) (i := .ireturn) (len := 1) (r := some (.int 1)) mJ_0 (by decide +kernel) rfl rfl (by decide +kernel) ?_
  exact ⟨rfl, hl, rfl⟩
set_option maxRecDepth 20000 in
theorem lws_2 {N sl : Nat} {h : List mi_C} (a0 a1 : Int32) (hl : h.length = N) : mi_ok (mi_fin N sl) mi_Γ (mi_ev [a0, a1]) 0 (18, [(3, .int 0), (2, .ref 121), (1, .ref 0), (0, .retAddr 0)], []) h sl := by
  refine mk_p (M := mG_0) (i := .iload_n 3) (len := 1) (f' := (19, [(3, .int 0), (2, .ref 121), (1, .ref 0), (0, .retAddr 0)], [.int 0])) mJ_0 (by decide +kernel) rfl ?_
  refine mk_p (M := mG_0) (i := .aload_n 0) (len := 1) (f' := (20, [(3, .int 0), (2, .ref 121), (1, .ref 0), (0, .retAddr 0)], [.retAddr 0, .int 0])) mJ_0 (by decide +kernel) rfl ?_
  refine mk_h (M := mG_0) (i := .arraylength) (len := 1) (f' := (21, [(3, .int 0), (2, .ref 121), (1, .ref 0), (0, .retAddr 0)], [.int 2, .int 0])) (h' := h) (sl' := sl) mJ_0 (by decide +kernel) rfl rfl ?_
  refine mk_v (M := mG_0) (i := .bipush 6) (len := 2) (pc' := 23) (v' := .int 6) (st' := [.int 2, .int 0]) mJ_0 (by decide +kernel) rfl (by decide +kernel) ?_
  refine mk_v (M := mG_0) (i := .isub) (len := 1) (pc' := 24) (v' := .int (-4)) (st' := [.int 0]) mJ_0 (by decide +kernel) rfl (by decide +kernel) ?_
  refine mk_t (M := mG_0) (i := .if_icmp .gt 657) (len := 3) (q := decide (((-4) : Int32) < (0 : Int32))) (off := 657) (t := 681) (st' := []) mJ_0 (by decide +kernel) rfl (by decide +kernel) (by decide +kernel) ?_
  refine mk_v (M := mG_0) (i := .iconst 1) (len := 1) (pc' := 682) (v' := .int 1) (st' := []) mJ_0 (by decide +kernel) rfl (by decide +kernel) ?_
  refine mk_r (M := mG_0) (i := .ireturn) (len := 1) (r := some (.int 1)) mJ_0 (by decide +kernel) rfl rfl (by decide +kernel) ?_
  exact ⟨rfl, hl, rfl⟩
set_option maxRecDepth 20000 in
theorem lws_3 {N sl : Nat} {h : List mi_C} (a0 a1 a2 : Int32) (hl : h.length = N) : mi_ok (mi_fin N sl) mi_Γ (mi_ev [a0, a1, a2]) 0 (18, [(3, .int 0), (2, .ref 121), (1, .ref 0), (0, .retAddr 0)], []) h sl := by
  refine mk_p (M := mG_0) (i := .iload_n 3) (len := 1) (f' := (19, [(3, .int 0), (2, .ref 121), (1, .ref 0), (0, .retAddr 0)], [.int 0])) mJ_0 (by decide +kernel) rfl ?_
  refine mk_p (M := mG_0) (i := .aload_n 0) (len := 1) (f' := (20, [(3, .int 0), (2, .ref 121), (1, .ref 0), (0, .retAddr 0)], [.retAddr 0, .int 0])) mJ_0 (by decide +kernel) rfl ?_
  refine mk_h (M := mG_0) (i := .arraylength) (len := 1) (f' := (21, [(3, .int 0), (2, .ref 121), (1, .ref 0), (0, .retAddr 0)], [.int 3, .int 0])) (h' := h) (sl' := sl) mJ_0 (by decide +kernel) rfl rfl ?_
  refine mk_v (M := mG_0) (i := .bipush 6) (len := 2) (pc' := 23) (v' := .int 6) (st' := [.int 3, .int 0]) mJ_0 (by decide +kernel) rfl (by decide +kernel) ?_
  refine mk_v (M := mG_0) (i := .isub) (len := 1) (pc' := 24) (v' := .int (-3)) (st' := [.int 0]) mJ_0 (by decide +kernel) rfl (by decide +kernel) ?_
  refine mk_t (M := mG_0) (i := .if_icmp .gt 657) (len := 3) (q := decide (((-3) : Int32) < (0 : Int32))) (off := 657) (t := 681) (st' := []) mJ_0 (by decide +kernel) rfl (by decide +kernel) (by decide +kernel) ?_
  refine mk_v (M := mG_0) (i := .iconst 1) (len := 1) (pc' := 682) (v' := .int 1) (st' := []) mJ_0 (by decide +kernel) rfl (by decide +kernel) ?_
  refine mk_r (M := mG_0) (i := .ireturn) (len := 1) (r := some (.int 1)) mJ_0 (by decide +kernel) rfl rfl (by decide +kernel) ?_
  exact ⟨rfl, hl, rfl⟩
set_option maxRecDepth 20000 in
theorem lws_4 {N sl : Nat} {h : List mi_C} (a0 a1 a2 a3 : Int32) (hl : h.length = N) : mi_ok (mi_fin N sl) mi_Γ (mi_ev [a0, a1, a2, a3]) 0 (18, [(3, .int 0), (2, .ref 121), (1, .ref 0), (0, .retAddr 0)], []) h sl := by
  refine mk_p (M := mG_0) (i := .iload_n 3) (len := 1) (f' := (19, [(3, .int 0), (2, .ref 121), (1, .ref 0), (0, .retAddr 0)], [.int 0])) mJ_0 (by decide +kernel) rfl ?_
  refine mk_p (M := mG_0) (i := .aload_n 0) (len := 1) (f' := (20, [(3, .int 0), (2, .ref 121), (1, .ref 0), (0, .retAddr 0)], [.retAddr 0, .int 0])) mJ_0 (by decide +kernel) rfl ?_
  refine mk_h (M := mG_0) (i := .arraylength) (len := 1) (f' := (21, [(3, .int 0), (2, .ref 121), (1, .ref 0), (0, .retAddr 0)], [.int 4, .int 0])) (h' := h) (sl' := sl) mJ_0 (by decide +kernel) rfl rfl ?_
  refine mk_v (M := mG_0) (i := .bipush 6) (len := 2) (pc' := 23) (v' := .int 6) (st' := [.int 4, .int 0]) mJ_0 (by decide +kernel) rfl (by decide +kernel) ?_
  refine mk_v (M := mG_0) (i := .isub) (len := 1) (pc' := 24) (v' := .int (-2)) (st' := [.int 0]) mJ_0 (by decide +kernel) rfl (by decide +kernel) ?_
  refine mk_t (M := mG_0) (i := .if_icmp .gt 657) (len := 3) (q := decide (((-2) : Int32) < (0 : Int32))) (off := 657) (t := 681) (st' := []) mJ_0 (by decide +kernel) rfl (by decide +kernel) (by decide +kernel) ?_
  refine mk_v (M := mG_0) (i := .iconst 1) (len := 1) (pc' := 682) (v' := .int 1) (st' := []) mJ_0 (by decide +kernel) rfl (by decide +kernel) ?_
  refine mk_r (M := mG_0) (i := .ireturn) (len := 1) (r := some (.int 1)) mJ_0 (by decide +kernel) rfl rfl (by decide +kernel) ?_
  exact ⟨rfl, hl, rfl⟩
set_option maxRecDepth 20000 in
theorem lws_5 {N sl : Nat} {h : List mi_C} (a0 a1 a2 a3 a4 : Int32) (hl : h.length = N) : mi_ok (mi_fin N sl) mi_Γ (mi_ev [a0, a1, a2, a3, a4]) 0 (18, [(3, .int 0), (2, .ref 121), (1, .ref 0), (0, .retAddr 0)], []) h sl := by
  refine mk_p (M := mG_0) (i := .iload_n 3) (len := 1) (f' := (19, [(3, .int 0), (2, .ref 121), (1, .ref 0), (0, .retAddr 0)], [.int 0])) mJ_0 (by decide +kernel) rfl ?_
  refine mk_p (M := mG_0) (i := .aload_n 0) (len := 1) (f' := (20, [(3, .int 0), (2, .ref 121), (1, .ref 0), (0, .retAddr 0)], [.retAddr 0, .int 0])) mJ_0 (by decide +kernel) rfl ?_
  refine mk_h (M := mG_0) (i := .arraylength) (len := 1) (f' := (21, [(3, .int 0), (2, .ref 121), (1, .ref 0), (0, .retAddr 0)], [.int 5, .int 0])) (h' := h) (sl' := sl) mJ_0 (by decide +kernel) rfl rfl ?_
  refine mk_v (M := mG_0) (i := .bipush 6) (len := 2) (pc' := 23) (v' := .int 6) (st' := [.int 5, .int 0]) mJ_0 (by decide +kernel) rfl (by decide +kernel) ?_
  refine mk_v (M := mG_0) (i := .isub) (len := 1) (pc' := 24) (v' := .int (-1)) (st' := [.int 0]) mJ_0 (by decide +kernel) rfl (by decide +kernel) ?_
  refine mk_t (M := mG_0) (i := .if_icmp .gt 657) (len := 3) (q := decide (((-1) : Int32) < (0 : Int32))) (off := 657) (t := 681) (st' := []) mJ_0 (by decide +kernel) rfl (by decide +kernel) (by decide +kernel) ?_
  refine mk_v (M := mG_0) (i := .iconst 1) (len := 1) (pc' := 682) (v' := .int 1) (st' := []) mJ_0 (by decide +kernel) rfl (by decide +kernel) ?_
  refine mk_r (M := mG_0) (i := .ireturn) (len := 1) (r := some (.int 1)) mJ_0 (by decide +kernel) rfl rfl (by decide +kernel) ?_
  exact ⟨rfl, hl, rfl⟩
set_option maxRecDepth 20000 in
theorem lw1_1n {N sl : Nat} {h : List mi_C} (a0 a1 a2 a3 a4 a5 : Int32) (hk : a0 &&& 31 = 1) (c1 : -2147483648 ≤ a1.toInt) (c2 : a1.toInt ≤ -1) (hl : h.length = N) (g0 : h[0]? = some (.inl (11, [.ref 1, .int 0, .int 0, .ref 2, .ref 13, .ref 49, .int 0, .int (-1), .ref 85, .ref 86, .ref 92, .ref 112, .int 0, .ref 113]))) (g121 : h[121]? = some (.inl (13, [.ref 122, .ref 168, .int 0, .ref 214, .int 0, .int 0, .ref 215, .int 0, .ref 216, .ref 217, .int 0, .int 0, .int (-1), .ref 218, .ref 219, .ref 220, .ref 221, .ref 222, .ref 223, .int 0, .ref 224, .ref 225, .ref 226, .ref 227, .ref 228, .int 0, .ref 229, .ref 230, .ref 231, .ref 232, .ref 233, .ref 234, .ref 235, .ref 236, .ref 237, .ref 238, .int 0, .int 0, .int 0, .int 0, .long 0, .ref 239, .ref 240, .ref 241, .ref 242, .ref 243, .ref 244, .ref 245, .ref 246, .ref 247, .ref 248, .ref 249, .int 0, .int 0, .int 0, .int 0, .int 0, .int 0, .int 0, .int (-1), .int (-1), .int 0, .int 0, .int 0]))) : mi_ok (mi_fin N sl) mi_Γ (mi_ev [a0, a1, a2, a3, a4, a5]) 0 (18, [(3, .int 0), (2, .ref 121), (1, .ref 0), (0, .retAddr 0)], []) h sl := by
  refine mk_p (M := mG_0) (i := .iload_n 3) (len := 1) (f' := (19, [(3, .int 0), (2, .ref 121), (1, .ref 0), (0, .retAddr 0)], [.int 0])) mJ_0 (by decide +kernel) rfl ?_
  refine mk_p (M := mG_0) (i := .aload_n 0) (len := 1) (f' := (20, [(3, .int 0), (2, .ref 121), (1, .ref 0), (0, .retAddr 0)], [.retAddr 0, .int 0])) mJ_0 (by decide +kernel) rfl ?_
  refine mk_h (M := mG_0) (i := .arraylength) (len := 1) (f' := (21, [(3, .int 0), (2, .ref 121), (1, .ref 0), (0, .retAddr 0)], [.int 6, .int 0])) (h' := h) (sl' := sl) mJ_0 (by decide +kernel) rfl rfl ?_
  refine mk_v (M := mG_0) (i := .bipush 6) (len := 2) (pc' := 23) (v' := .int 6) (st' := [.int 6, .int 0]) mJ_0 (by decide +kernel) rfl (by decide +kernel) ?_
  refine mk_v (M := mG_0) (i := .isub) (len := 1) (pc' := 24) (v' := .int 0) (st' := [.int 0]) mJ_0 (by decide +kernel) rfl (by decide +kernel) ?_
  refine mk_f (M := mG_0) (i := .if_icmp .gt 657) (len := 3) (q := decide ((0 : Int32) < (0 : Int32))) (off := 657) (t := 681) (pc' := 27) (st' := []) mJ_0 (by decide +kernel) rfl (by decide +kernel) (by decide +kernel) rfl ?_
  refine mk_p (M := mG_0) (i := .aload_n 0) (len := 1) (f' := (28, [(3, .int 0), (2, .ref 121), (1, .ref 0), (0, .retAddr 0)], [.retAddr 0])) mJ_0 (by decide +kernel) rfl ?_
  refine mk_p (M := mG_0) (i := .iload_n 3) (len := 1) (f' := (29, [(3, .int 0), (2, .ref 121), (1, .ref 0), (0, .retAddr 0)], [.int 0, .retAddr 0])) mJ_0 (by decide +kernel) rfl ?_
  refine mk_h (M := mG_0) (i := .iaload) (len := 1) (f' := (30, [(3, .int 0), (2, .ref 121), (1, .ref 0), (0, .retAddr 0)], [.int a0])) (h' := h) (sl' := sl) mJ_0 (by decide +kernel) rfl (mh_ial (xs := [a0, a1, a2, a3, a4, a5]) (x := 0) rfl (show mi_in 0 6 = true by decide +kernel) rfl) ?_
  refine mk_v (M := mG_0) (i := .bipush 31) (len := 2) (pc' := 32) (v' := .int 31) (st' := [.int a0]) mJ_0 (by decide +kernel) rfl (by decide +kernel) ?_
  refine mk_p (M := mG_0) (i := .iand) (len := 1) (f' := (33, [(3, .int 0), (2, .ref 121), (1, .ref 0), (0, .retAddr 0)], [.int ((a0 &&& 31))])) mJ_0 (by decide +kernel) rfl ?_
  refine mk_s (M := mG_0) (len := 103) (dflt := 642) (lo := 0) (hi := 21) (offs := #[103, 166, 189, 202, 215, 238, 261, 285, 299, 332, 365, 398, 432, 475, 508, 531, 554, 567, 580, 593, 606, 629]) (X := 1) (t := 199) mJ_0 (by decide +kernel) hk (by decide +kernel) ?_
  refine mk_p (M := mG_0) (i := .aload_n 1) (len := 1) (f' := (200, [(3, .int 0), (2, .ref 121), (1, .ref 0), (0, .retAddr 0)], [.ref 0])) mJ_0 (by decide +kernel) rfl ?_
  refine mk_p (M := mG_0) (i := .aload_n 0) (len := 1) (f' := (201, [(3, .int 0), (2, .ref 121), (1, .ref 0), (0, .retAddr 0)], [.retAddr 0, .ref 0])) mJ_0 (by decide +kernel) rfl ?_
  refine mk_p (M := mG_0) (i := .iload_n 3) (len := 1) (f' := (202, [(3, .int 0), (2, .ref 121), (1, .ref 0), (0, .retAddr 0)], [.int 0, .retAddr 0, .ref 0])) mJ_0 (by decide +kernel) rfl ?_
  refine mk_v (M := mG_0) (i := .iconst 1) (len := 1) (pc' := 203) (v' := .int 1) (st' := [.int 0, .retAddr 0, .ref 0]) mJ_0 (by decide +kernel) rfl (by decide +kernel) ?_
  refine mk_v (M := mG_0) (i := .iadd) (len := 1) (pc' := 204) (v' := .int 1) (st' := [.retAddr 0, .ref 0]) mJ_0 (by decide +kernel) rfl (by decide +kernel) ?_
  refine mk_h (M := mG_0) (i := .iaload) (len := 1) (f' := (205, [(3, .int 0), (2, .ref 121), (1, .ref 0), (0, .retAddr 0)], [.int a1, .ref 0])) (h' := h) (sl' := sl) mJ_0 (by decide +kernel) rfl (mh_ial (xs := [a0, a1, a2, a3, a4, a5]) (x := 1) rfl (show mi_in 1 6 = true by decide +kernel) rfl) ?_
  refine mk_c (M := mG_0) (i := .invokevirtual 18) (len := 3) (M' := mG_26) (j' := 26) (as := [.ref 0, .int a1]) (rest := []) mJ_0 (by decide +kernel) rfl rfl rfl rfl (mh_virt (n := 1) (a := 0) (ci := 11) (by decide +kernel) rfl g0 (Nat.le_of_ble_eq_true rfl) rfl) mJ_26 (Nat.le_of_ble_eq_true rfl) (mi_pos g0) ?_
  show mi_ok _ mi_Γ (mi_ev [a0, a1, a2, a3, a4, a5]) 26 (0, [(0, .ref 0), (1, .int a1)], []) h sl
  refine mk_p (M := mG_26) (i := .iload_n 1) (len := 1) (f' := (1, [(0, .ref 0), (1, .int a1)], [.int a1])) mJ_26 (by decide +kernel) rfl ?_
  refine mk_t (M := mG_26) (i := .ifCond .lt 11) (len := 3) (q := decide (a1 < (0 : Int32))) (off := 11) (t := 12) (st' := []) mJ_26 (by decide +kernel) rfl (by have e : (0 : Int32).toInt = 0 := (by decide +kernel); simp only [decide_eq_true_eq, decide_eq_false_iff_not, Int32.lt_iff_toInt_lt, Int32.le_iff_toInt_le, ← Int32.toInt_inj, e]; omega) (by decide +kernel) ?_
  refine mk_v (M := mG_26) (i := .iconst 0) (len := 1) (pc' := 13) (v' := .int 0) (st' := []) mJ_26 (by decide +kernel) rfl (by decide +kernel) ?_
  refine mk_r (M := mG_26) (i := .ireturn) (len := 1) (r := some (.int 0)) mJ_26 (by decide +kernel) rfl rfl (by decide +kernel) ?_
  show mi_ok _ mi_Γ (mi_ev [a0, a1, a2, a3, a4, a5]) 0 (208, [(3, .int 0), (2, .ref 121), (1, .ref 0), (0, .retAddr 0)], [.int 0]) h sl
  refine mk_p (M := mG_0) (i := .aload_n 2) (len := 1) (f' := (209, [(3, .int 0), (2, .ref 121), (1, .ref 0), (0, .retAddr 0)], [.ref 121, .int 0])) mJ_0 (by decide +kernel) rfl ?_
  refine mk_p (M := mG_0) (i := .aload_n 0) (len := 1) (f' := (210, [(3, .int 0), (2, .ref 121), (1, .ref 0), (0, .retAddr 0)], [.retAddr 0, .ref 121, .int 0])) mJ_0 (by decide +kernel) rfl ?_
  refine mk_p (M := mG_0) (i := .iload_n 3) (len := 1) (f' := (211, [(3, .int 0), (2, .ref 121), (1, .ref 0), (0, .retAddr 0)], [.int 0, .retAddr 0, .ref 121, .int 0])) mJ_0 (by decide +kernel) rfl ?_
  refine mk_v (M := mG_0) (i := .iconst 1) (len := 1) (pc' := 212) (v' := .int 1) (st' := [.int 0, .retAddr 0, .ref 121, .int 0]) mJ_0 (by decide +kernel) rfl (by decide +kernel) ?_
  refine mk_v (M := mG_0) (i := .iadd) (len := 1) (pc' := 213) (v' := .int 1) (st' := [.retAddr 0, .ref 121, .int 0]) mJ_0 (by decide +kernel) rfl (by decide +kernel) ?_
  refine mk_h (M := mG_0) (i := .iaload) (len := 1) (f' := (214, [(3, .int 0), (2, .ref 121), (1, .ref 0), (0, .retAddr 0)], [.int a1, .ref 121, .int 0])) (h' := h) (sl' := sl) mJ_0 (by decide +kernel) rfl (mh_ial (xs := [a0, a1, a2, a3, a4, a5]) (x := 1) rfl (show mi_in 1 6 = true by decide +kernel) rfl) ?_
  refine mk_c (M := mG_0) (i := .invokevirtual 22) (len := 3) (M' := mG_57) (j' := 57) (as := [.ref 121, .int a1]) (rest := [.int 0]) mJ_0 (by decide +kernel) rfl rfl rfl rfl (mh_virt (n := 1) (a := 121) (ci := 13) (by decide +kernel) rfl g121 (Nat.le_of_ble_eq_true rfl) rfl) mJ_57 (Nat.le_of_ble_eq_true rfl) (mi_pos g121) ?_
  show mi_ok _ mi_Γ (mi_ev [a0, a1, a2, a3, a4, a5]) 57 (0, [(0, .ref 121), (1, .int a1)], []) h sl
  refine mk_p (M := mG_57) (i := .iload_n 1) (len := 1) (f' := (1, [(0, .ref 121), (1, .int a1)], [.int a1])) mJ_57 (by decide +kernel) rfl ?_
  refine mk_t (M := mG_57) (i := .ifCond .lt 11) (len := 3) (q := decide (a1 < (0 : Int32))) (off := 11) (t := 12) (st' := []) mJ_57 (by decide +kernel) rfl (by have e : (0 : Int32).toInt = 0 := (by decide +kernel); simp only [decide_eq_true_eq, decide_eq_false_iff_not, Int32.lt_iff_toInt_lt, Int32.le_iff_toInt_le, ← Int32.toInt_inj, e]; omega) (by decide +kernel) ?_
  refine mk_v (M := mG_57) (i := .iconst 0) (len := 1) (pc' := 13) (v' := .int 0) (st' := []) mJ_57 (by decide +kernel) rfl (by decide +kernel) ?_
  refine mk_r (M := mG_57) (i := .ireturn) (len := 1) (r := some (.int 0)) mJ_57 (by decide +kernel) rfl rfl (by decide +kernel) ?_
  show mi_ok _ mi_Γ (mi_ev [a0, a1, a2, a3, a4, a5]) 0 (217, [(3, .int 0), (2, .ref 121), (1, .ref 0), (0, .retAddr 0)], [.int 0, .int 0]) h sl
  refine mk_t (M := mG_0) (i := .if_icmp .eq 458) (len := 3) (q := decide ((0 : Int32) = (0 : Int32))) (off := 458) (t := 675) (st' := []) mJ_0 (by decide +kernel) rfl (by decide +kernel) (by decide +kernel) ?_
  refine mk_i (M := mG_0) (len := 3) (k := 3) (n := 6) (x := 0) (y := 6) (lv' := [(3, .int 6), (2, .ref 121), (1, .ref 0), (0, .retAddr 0)]) (pc' := 678) mJ_0 (by decide +kernel) rfl (by decide +kernel) (by decide +kernel) rfl rfl ?_
  refine mk_g (M := mG_0) (len := 3) (off := (-660)) (t := 18) mJ_0 (by decide +kernel) (by decide +kernel) ?_
  refine mk_p (M := mG_0) (i := .iload_n 3) (len := 1) (f' := (19, [(3, .int 6), (2, .ref 121), (1, .ref 0), (0, .retAddr 0)], [.int 6])) mJ_0 (by decide +kernel) rfl ?_
  refine mk_p (M := mG_0) (i := .aload_n 0) (len := 1) (f' := (20, [(3, .int 6), (2, .ref 121), (1, .ref 0), (0, .retAddr 0)], [.retAddr 0, .int 6])) mJ_0 (by decide +kernel) rfl ?_
  refine mk_h (M := mG_0) (i := .arraylength) (len := 1) (f' := (21, [(3, .int 6), (2, .ref 121), (1, .ref 0), (0, .retAddr 0)], [.int 6, .int 6])) (h' := h) (sl' := sl) mJ_0 (by decide +kernel) rfl rfl ?_
  refine mk_v (M := mG_0) (i := .bipush 6) (len := 2) (pc' := 23) (v' := .int 6) (st' := [.int 6, .int 6]) mJ_0 (by decide +kernel) rfl (by decide +kernel) ?_
  refine mk_v (M := mG_0) (i := .isub) (len := 1) (pc' := 24) (v' := .int 0) (st' := [.int 6]) mJ_0 (by decide +kernel) rfl (by decide +kernel) ?_
  refine mk_t (M := mG_0) (i := .if_icmp .gt 657) (len := 3) (q := decide ((0 : Int32) < (6 : Int32))) (off := 657) (t := 681) (st' := []) mJ_0 (by decide +kernel) rfl (by decide +kernel) (by decide +kernel) ?_
  refine mk_v (M := mG_0) (i := .iconst 1) (len := 1) (pc' := 682) (v' := .int 1) (st' := []) mJ_0 (by decide +kernel) rfl (by decide +kernel) ?_
  refine mk_r (M := mG_0) (i := .ireturn) (len := 1) (r := some (.int 1)) mJ_0 (by decide +kernel) rfl rfl (by decide +kernel) ?_
  exact ⟨rfl, hl, rfl⟩
set_option maxRecDepth 20000 in
theorem lw1_1p {N sl : Nat} {h : List mi_C} (a0 a1 a2 a3 a4 a5 : Int32) (hk : a0 &&& 31 = 1) (c1 : 1 ≤ a1.toInt) (c2 : a1.toInt ≤ 2147483647) (hl : h.length = N) (g0 : h[0]? = some (.inl (11, [.ref 1, .int 0, .int 0, .ref 2, .ref 13, .ref 49, .int 0, .int (-1), .ref 85, .ref 86, .ref 92, .ref 112, .int 0, .ref 113]))) (g121 : h[121]? = some (.inl (13, [.ref 122, .ref 168, .int 0, .ref 214, .int 0, .int 0, .ref 215, .int 0, .ref 216, .ref 217, .int 0, .int 0, .int (-1), .ref 218, .ref 219, .ref 220, .ref 221, .ref 222, .ref 223, .int 0, .ref 224, .ref 225, .ref 226, .ref 227, .ref 228, .int 0, .ref 229, .ref 230, .ref 231, .ref 232, .ref 233, .ref 234, .ref 235, .ref 236, .ref 237, .ref 238, .int 0, .int 0, .int 0, .int 0, .long 0, .ref 239, .ref 240, .ref 241, .ref 242, .ref 243, .ref 244, .ref 245, .ref 246, .ref 247, .ref 248, .ref 249, .int 0, .int 0, .int 0, .int 0, .int 0, .int 0, .int 0, .int (-1), .int (-1), .int 0, .int 0, .int 0]))) : mi_ok (mi_fin N sl) mi_Γ (mi_ev [a0, a1, a2, a3, a4, a5]) 0 (18, [(3, .int 0), (2, .ref 121), (1, .ref 0), (0, .retAddr 0)], []) h sl := by
  refine mk_p (M := mG_0) (i := .iload_n 3) (len := 1) (f' := (19, [(3, .int 0), (2, .ref 121), (1, .ref 0), (0, .retAddr 0)], [.int 0])) mJ_0 (by decide +kernel) rfl ?_
  refine mk_p (M := mG_0) (i := .aload_n 0) (len := 1) (f' := (20, [(3, .int 0), (2, .ref 121), (1, .ref 0), (0, .retAddr 0)], [.retAddr 0, .int 0])) mJ_0 (by decide +kernel) rfl ?_
  refine mk_h (M := mG_0) (i := .arraylength) (len := 1) (f' := (21, [(3, .int 0), (2, .ref 121), (1, .ref 0), (0, .retAddr 0)], [.int 6, .int 0])) (h' := h) (sl' := sl) mJ_0 (by decide +kernel) rfl rfl ?_
  refine mk_v (M := mG_0) (i := .bipush 6) (len := 2) (pc' := 23) (v' := .int 6) (st' := [.int 6, .int 0]) mJ_0 (by decide +kernel) rfl (by decide +kernel) ?_
  refine mk_v (M := mG_0) (i := .isub) (len := 1) (pc' := 24) (v' := .int 0) (st' := [.int 0]) mJ_0 (by decide +kernel) rfl (by decide +kernel) ?_
  refine mk_f (M := mG_0) (i := .if_icmp .gt 657) (len := 3) (q := decide ((0 : Int32) < (0 : Int32))) (off := 657) (t := 681) (pc' := 27) (st' := []) mJ_0 (by decide +kernel) rfl (by decide +kernel) (by decide +kernel) rfl ?_
  refine mk_p (M := mG_0) (i := .aload_n 0) (len := 1) (f' := (28, [(3, .int 0), (2, .ref 121), (1, .ref 0), (0, .retAddr 0)], [.retAddr 0])) mJ_0 (by decide +kernel) rfl ?_
  refine mk_p (M := mG_0) (i := .iload_n 3) (len := 1) (f' := (29, [(3, .int 0), (2, .ref 121), (1, .ref 0), (0, .retAddr 0)], [.int 0, .retAddr 0])) mJ_0 (by decide +kernel) rfl ?_
  refine mk_h (M := mG_0) (i := .iaload) (len := 1) (f' := (30, [(3, .int 0), (2, .ref 121), (1, .ref 0), (0, .retAddr 0)], [.int a0])) (h' := h) (sl' := sl) mJ_0 (by decide +kernel) rfl (mh_ial (xs := [a0, a1, a2, a3, a4, a5]) (x := 0) rfl (show mi_in 0 6 = true by decide +kernel) rfl) ?_
  refine mk_v (M := mG_0) (i := .bipush 31) (len := 2) (pc' := 32) (v' := .int 31) (st' := [.int a0]) mJ_0 (by decide +kernel) rfl (by decide +kernel) ?_
  refine mk_p (M := mG_0) (i := .iand) (len := 1) (f' := (33, [(3, .int 0), (2, .ref 121), (1, .ref 0), (0, .retAddr 0)], [.int ((a0 &&& 31))])) mJ_0 (by decide +kernel) rfl ?_
  refine mk_s (M := mG_0) (len := 103) (dflt := 642) (lo := 0) (hi := 21) (offs := #[103, 166, 189, 202, 215, 238, 261, 285, 299, 332, 365, 398, 432, 475, 508, 531, 554, 567, 580, 593, 606, 629]) (X := 1) (t := 199) mJ_0 (by decide +kernel) hk (by decide +kernel) ?_
  refine mk_p (M := mG_0) (i := .aload_n 1) (len := 1) (f' := (200, [(3, .int 0), (2, .ref 121), (1, .ref 0), (0, .retAddr 0)], [.ref 0])) mJ_0 (by decide +kernel) rfl ?_
  refine mk_p (M := mG_0) (i := .aload_n 0) (len := 1) (f' := (201, [(3, .int 0), (2, .ref 121), (1, .ref 0), (0, .retAddr 0)], [.retAddr 0, .ref 0])) mJ_0 (by decide +kernel) rfl ?_
  refine mk_p (M := mG_0) (i := .iload_n 3) (len := 1) (f' := (202, [(3, .int 0), (2, .ref 121), (1, .ref 0), (0, .retAddr 0)], [.int 0, .retAddr 0, .ref 0])) mJ_0 (by decide +kernel) rfl ?_
  refine mk_v (M := mG_0) (i := .iconst 1) (len := 1) (pc' := 203) (v' := .int 1) (st' := [.int 0, .retAddr 0, .ref 0]) mJ_0 (by decide +kernel) rfl (by decide +kernel) ?_
  refine mk_v (M := mG_0) (i := .iadd) (len := 1) (pc' := 204) (v' := .int 1) (st' := [.retAddr 0, .ref 0]) mJ_0 (by decide +kernel) rfl (by decide +kernel) ?_
  refine mk_h (M := mG_0) (i := .iaload) (len := 1) (f' := (205, [(3, .int 0), (2, .ref 121), (1, .ref 0), (0, .retAddr 0)], [.int a1, .ref 0])) (h' := h) (sl' := sl) mJ_0 (by decide +kernel) rfl (mh_ial (xs := [a0, a1, a2, a3, a4, a5]) (x := 1) rfl (show mi_in 1 6 = true by decide +kernel) rfl) ?_
  refine mk_c (M := mG_0) (i := .invokevirtual 18) (len := 3) (M' := mG_26) (j' := 26) (as := [.ref 0, .int a1]) (rest := []) mJ_0 (by decide +kernel) rfl rfl rfl rfl (mh_virt (n := 1) (a := 0) (ci := 11) (by decide +kernel) rfl g0 (Nat.le_of_ble_eq_true rfl) rfl) mJ_26 (Nat.le_of_ble_eq_true rfl) (mi_pos g0) ?_
  show mi_ok _ mi_Γ (mi_ev [a0, a1, a2, a3, a4, a5]) 26 (0, [(0, .ref 0), (1, .int a1)], []) h sl
  refine mk_p (M := mG_26) (i := .iload_n 1) (len := 1) (f' := (1, [(0, .ref 0), (1, .int a1)], [.int a1])) mJ_26 (by decide +kernel) rfl ?_
  refine mk_f (M := mG_26) (i := .ifCond .lt 11) (len := 3) (q := decide (a1 < (0 : Int32))) (off := 11) (t := 12) (pc' := 4) (st' := []) mJ_26 (by decide +kernel) rfl (by have e : (0 : Int32).toInt = 0 := (by decide +kernel); simp only [decide_eq_true_eq, decide_eq_false_iff_not, Int32.lt_iff_toInt_lt, Int32.le_iff_toInt_le, ← Int32.toInt_inj, e]; omega) (by decide +kernel) rfl ?_
  refine mk_p (M := mG_26) (i := .iload_n 1) (len := 1) (f' := (5, [(0, .ref 0), (1, .int a1)], [.int a1])) mJ_26 (by decide +kernel) rfl ?_
  refine mk_p (M := mG_26) (i := .aload_n 0) (len := 1) (f' := (6, [(0, .ref 0), (1, .int a1)], [.ref 0, .int a1])) mJ_26 (by decide +kernel) rfl ?_
  refine mk_h (M := mG_26) (i := .getfield 72) (len := 3) (f' := (9, [(0, .ref 0), (1, .int a1)], [.int 0, .int a1])) (h' := h) (sl' := sl) mJ_26 (by decide +kernel) rfl (mh_getf (ci := 11) (k := 1) (by decide +kernel) g0 rfl) ?_
  refine mk_f (M := mG_26) (i := .if_icmp .le 5) (len := 3) (q := decide (a1 ≤ (0 : Int32))) (off := 5) (t := 14) (pc' := 12) (st' := []) mJ_26 (by decide +kernel) rfl (by have e : (0 : Int32).toInt = 0 := (by decide +kernel); simp only [decide_eq_true_eq, decide_eq_false_iff_not, Int32.lt_iff_toInt_lt, Int32.le_iff_toInt_le, ← Int32.toInt_inj, e]; omega) (by decide +kernel) rfl ?_
  refine mk_v (M := mG_26) (i := .iconst 0) (len := 1) (pc' := 13) (v' := .int 0) (st' := []) mJ_26 (by decide +kernel) rfl (by decide +kernel) ?_
  refine mk_r (M := mG_26) (i := .ireturn) (len := 1) (r := some (.int 0)) mJ_26 (by decide +kernel) rfl rfl (by decide +kernel) ?_
  show mi_ok _ mi_Γ (mi_ev [a0, a1, a2, a3, a4, a5]) 0 (208, [(3, .int 0), (2, .ref 121), (1, .ref 0), (0, .retAddr 0)], [.int 0]) h sl
  refine mk_p (M := mG_0) (i := .aload_n 2) (len := 1) (f' := (209, [(3, .int 0), (2, .ref 121), (1, .ref 0), (0, .retAddr 0)], [.ref 121, .int 0])) mJ_0 (by decide +kernel) rfl ?_
  refine mk_p (M := mG_0) (i := .aload_n 0) (len := 1) (f' := (210, [(3, .int 0), (2, .ref 121), (1, .ref 0), (0, .retAddr 0)], [.retAddr 0, .ref 121, .int 0])) mJ_0 (by decide +kernel) rfl ?_
  refine mk_p (M := mG_0) (i := .iload_n 3) (len := 1) (f' := (211, [(3, .int 0), (2, .ref 121), (1, .ref 0), (0, .retAddr 0)], [.int 0, .retAddr 0, .ref 121, .int 0])) mJ_0 (by decide +kernel) rfl ?_
  refine mk_v (M := mG_0) (i := .iconst 1) (len := 1) (pc' := 212) (v' := .int 1) (st' := [.int 0, .retAddr 0, .ref 121, .int 0]) mJ_0 (by decide +kernel) rfl (by decide +kernel) ?_
  refine mk_v (M := mG_0) (i := .iadd) (len := 1) (pc' := 213) (v' := .int 1) (st' := [.retAddr 0, .ref 121, .int 0]) mJ_0 (by decide +kernel) rfl (by decide +kernel) ?_
  refine mk_h (M := mG_0) (i := .iaload) (len := 1) (f' := (214, [(3, .int 0), (2, .ref 121), (1, .ref 0), (0, .retAddr 0)], [.int a1, .ref 121, .int 0])) (h' := h) (sl' := sl) mJ_0 (by decide +kernel) rfl (mh_ial (xs := [a0, a1, a2, a3, a4, a5]) (x := 1) rfl (show mi_in 1 6 = true by decide +kernel) rfl) ?_
  refine mk_c (M := mG_0) (i := .invokevirtual 22) (len := 3) (M' := mG_57) (j' := 57) (as := [.ref 121, .int a1]) (rest := [.int 0]) mJ_0 (by decide +kernel) rfl rfl rfl rfl (mh_virt (n := 1) (a := 121) (ci := 13) (by decide +kernel) rfl g121 (Nat.le_of_ble_eq_true rfl) rfl) mJ_57 (Nat.le_of_ble_eq_true rfl) (mi_pos g121) ?_
  show mi_ok _ mi_Γ (mi_ev [a0, a1, a2, a3, a4, a5]) 57 (0, [(0, .ref 121), (1, .int a1)], []) h sl
  refine mk_p (M := mG_57) (i := .iload_n 1) (len := 1) (f' := (1, [(0, .ref 121), (1, .int a1)], [.int a1])) mJ_57 (by decide +kernel) rfl ?_
  refine mk_f (M := mG_57) (i := .ifCond .lt 11) (len := 3) (q := decide (a1 < (0 : Int32))) (off := 11) (t := 12) (pc' := 4) (st' := []) mJ_57 (by decide +kernel) rfl (by have e : (0 : Int32).toInt = 0 := (by decide +kernel); simp only [decide_eq_true_eq, decide_eq_false_iff_not, Int32.lt_iff_toInt_lt, Int32.le_iff_toInt_le, ← Int32.toInt_inj, e]; omega) (by decide +kernel) rfl ?_
  refine mk_p (M := mG_57) (i := .iload_n 1) (len := 1) (f' := (5, [(0, .ref 121), (1, .int a1)], [.int a1])) mJ_57 (by decide +kernel) rfl ?_
  refine mk_p (M := mG_57) (i := .aload_n 0) (len := 1) (f' := (6, [(0, .ref 121), (1, .int a1)], [.ref 121, .int a1])) mJ_57 (by decide +kernel) rfl ?_
  refine mk_h (M := mG_57) (i := .getfield 141) (len := 3) (f' := (9, [(0, .ref 121), (1, .int a1)], [.int 0, .int a1])) (h' := h) (sl' := sl) mJ_57 (by decide +kernel) rfl (mh_getf (ci := 13) (k := 4) (by decide +kernel) g121 rfl) ?_
  refine mk_f (M := mG_57) (i := .if_icmp .le 5) (len := 3) (q := decide (a1 ≤ (0 : Int32))) (off := 5) (t := 14) (pc' := 12) (st' := []) mJ_57 (by decide +kernel) rfl (by have e : (0 : Int32).toInt = 0 := (by decide +kernel); simp only [decide_eq_true_eq, decide_eq_false_iff_not, Int32.lt_iff_toInt_lt, Int32.le_iff_toInt_le, ← Int32.toInt_inj, e]; omega) (by decide +kernel) rfl ?_
  refine mk_v (M := mG_57) (i := .iconst 0) (len := 1) (pc' := 13) (v' := .int 0) (st' := []) mJ_57 (by decide +kernel) rfl (by decide +kernel) ?_
  refine mk_r (M := mG_57) (i := .ireturn) (len := 1) (r := some (.int 0)) mJ_57 (by decide +kernel) rfl rfl (by decide +kernel) ?_
  show mi_ok _ mi_Γ (mi_ev [a0, a1, a2, a3, a4, a5]) 0 (217, [(3, .int 0), (2, .ref 121), (1, .ref 0), (0, .retAddr 0)], [.int 0, .int 0]) h sl
  refine mk_t (M := mG_0) (i := .if_icmp .eq 458) (len := 3) (q := decide ((0 : Int32) = (0 : Int32))) (off := 458) (t := 675) (st' := []) mJ_0 (by decide +kernel) rfl (by decide +kernel) (by decide +kernel) ?_
  refine mk_i (M := mG_0) (len := 3) (k := 3) (n := 6) (x := 0) (y := 6) (lv' := [(3, .int 6), (2, .ref 121), (1, .ref 0), (0, .retAddr 0)]) (pc' := 678) mJ_0 (by decide +kernel) rfl (by decide +kernel) (by decide +kernel) rfl rfl ?_
  refine mk_g (M := mG_0) (len := 3) (off := (-660)) (t := 18) mJ_0 (by decide +kernel) (by decide +kernel) ?_
  refine mk_p (M := mG_0) (i := .iload_n 3) (len := 1) (f' := (19, [(3, .int 6), (2, .ref 121), (1, .ref 0), (0, .retAddr 0)], [.int 6])) mJ_0 (by decide +kernel) rfl ?_
  refine mk_p (M := mG_0) (i := .aload_n 0) (len := 1) (f' := (20, [(3, .int 6), (2, .ref 121), (1, .ref 0), (0, .retAddr 0)], [.retAddr 0, .int 6])) mJ_0 (by decide +kernel) rfl ?_
  refine mk_h (M := mG_0) (i := .arraylength) (len := 1) (f' := (21, [(3, .int 6), (2, .ref 121), (1, .ref 0), (0, .retAddr 0)], [.int 6, .int 6])) (h' := h) (sl' := sl) mJ_0 (by decide +kernel) rfl rfl ?_
  refine mk_v (M := mG_0) (i := .bipush 6) (len := 2) (pc' := 23) (v' := .int 6) (st' := [.int 6, .int 6]) mJ_0 (by decide +kernel) rfl (by decide +kernel) ?_
  refine mk_v (M := mG_0) (i := .isub) (len := 1) (pc' := 24) (v' := .int 0) (st' := [.int 6]) mJ_0 (by decide +kernel) rfl (by decide +kernel) ?_
  refine mk_t (M := mG_0) (i := .if_icmp .gt 657) (len := 3) (q := decide ((0 : Int32) < (6 : Int32))) (off := 657) (t := 681) (st' := []) mJ_0 (by decide +kernel) rfl (by decide +kernel) (by decide +kernel) ?_
  refine mk_v (M := mG_0) (i := .iconst 1) (len := 1) (pc' := 682) (v' := .int 1) (st' := []) mJ_0 (by decide +kernel) rfl (by decide +kernel) ?_
  refine mk_r (M := mG_0) (i := .ireturn) (len := 1) (r := some (.int 1)) mJ_0 (by decide +kernel) rfl rfl (by decide +kernel) ?_
  exact ⟨rfl, hl, rfl⟩
set_option maxRecDepth 20000 in
theorem lw1_3 {N sl : Nat} {h : List mi_C} (a0 a1 a2 a3 a4 a5 : Int32) (hk : a0 &&& 31 = 3) (hl : h.length = N) (g0 : h[0]? = some (.inl (11, [.ref 1, .int 0, .int 0, .ref 2, .ref 13, .ref 49, .int 0, .int (-1), .ref 85, .ref 86, .ref 92, .ref 112, .int 0, .ref 113]))) (g121 : h[121]? = some (.inl (13, [.ref 122, .ref 168, .int 0, .ref 214, .int 0, .int 0, .ref 215, .int 0, .ref 216, .ref 217, .int 0, .int 0, .int (-1), .ref 218, .ref 219, .ref 220, .ref 221, .ref 222, .ref 223, .int 0, .ref 224, .ref 225, .ref 226, .ref 227, .ref 228, .int 0, .ref 229, .ref 230, .ref 231, .ref 232, .ref 233, .ref 234, .ref 235, .ref 236, .ref 237, .ref 238, .int 0, .int 0, .int 0, .int 0, .long 0, .ref 239, .ref 240, .ref 241, .ref 242, .ref 243, .ref 244, .ref 245, .ref 246, .ref 247, .ref 248, .ref 249, .int 0, .int 0, .int 0, .int 0, .int 0, .int 0, .int 0, .int (-1), .int (-1), .int 0, .int 0, .int 0]))) : mi_ok (mi_fin N sl) mi_Γ (mi_ev [a0, a1, a2, a3, a4, a5]) 0 (18, [(3, .int 0), (2, .ref 121), (1, .ref 0), (0, .retAddr 0)], []) h sl := by
  refine mk_p (M := mG_0) (i := .iload_n 3) (len := 1) (f' := (19, [(3, .int 0), (2, .ref 121), (1, .ref 0), (0, .retAddr 0)], [.int 0])) mJ_0 (by decide +kernel) rfl ?_
  refine mk_p (M := mG_0) (i := .aload_n 0) (len := 1) (f' := (20, [(3, .int 0), (2, .ref 121), (1, .ref 0), (0, .retAddr 0)], [.retAddr 0, .int 0])) mJ_0 (by decide +kernel) rfl ?_
  refine mk_h (M := mG_0) (i := .arraylength) (len := 1) (f' := (21, [(3, .int 0), (2, .ref 121), (1, .ref 0), (0, .retAddr 0)], [.int 6, .int 0])) (h' := h) (sl' := sl) mJ_0 (by decide +kernel) rfl rfl ?_
  refine mk_v (M := mG_0) (i := .bipush 6) (len := 2) (pc' := 23) (v' := .int 6) (st' := [.int 6, .int 0]) mJ_0 (by decide +kernel) rfl (by decide +kernel) ?_
  refine mk_v (M := mG_0) (i := .isub) (len := 1) (pc' := 24) (v' := .int 0) (st' := [.int 0]) mJ_0 (by decide +kernel) rfl (by decide +kernel) ?_
  refine mk_f (M := mG_0) (i := .if_icmp .gt 657) (len := 3) (q := decide ((0 : Int32) < (0 : Int32))) (off := 657) (t := 681) (pc' := 27) (st' := []) mJ_0 (by decide +kernel) rfl (by decide +kernel) (by decide +kernel) rfl ?_
  refine mk_p (M := mG_0) (i := .aload_n 0) (len := 1) (f' := (28, [(3, .int 0), (2, .ref 121), (1, .ref 0), (0, .retAddr 0)], [.retAddr 0])) mJ_0 (by decide +kernel) rfl ?_
  refine mk_p (M := mG_0) (i := .iload_n 3) (len := 1) (f' := (29, [(3, .int 0), (2, .ref 121), (1, .ref 0), (0, .retAddr 0)], [.int 0, .retAddr 0])) mJ_0 (by decide +kernel) rfl ?_
  refine mk_h (M := mG_0) (i := .iaload) (len := 1) (f' := (30, [(3, .int 0), (2, .ref 121), (1, .ref 0), (0, .retAddr 0)], [.int a0])) (h' := h) (sl' := sl) mJ_0 (by decide +kernel) rfl (mh_ial (xs := [a0, a1, a2, a3, a4, a5]) (x := 0) rfl (show mi_in 0 6 = true by decide +kernel) rfl) ?_
  refine mk_v (M := mG_0) (i := .bipush 31) (len := 2) (pc' := 32) (v' := .int 31) (st' := [.int a0]) mJ_0 (by decide +kernel) rfl (by decide +kernel) ?_
  refine mk_p (M := mG_0) (i := .iand) (len := 1) (f' := (33, [(3, .int 0), (2, .ref 121), (1, .ref 0), (0, .retAddr 0)], [.int ((a0 &&& 31))])) mJ_0 (by decide +kernel) rfl ?_
  refine mk_s (M := mG_0) (len := 103) (dflt := 642) (lo := 0) (hi := 21) (offs := #[103, 166, 189, 202, 215, 238, 261, 285, 299, 332, 365, 398, 432, 475, 508, 531, 554, 567, 580, 593, 606, 629]) (X := 3) (t := 235) mJ_0 (by decide +kernel) hk (by decide +kernel) ?_
  refine mk_p (M := mG_0) (i := .aload_n 1) (len := 1) (f' := (236, [(3, .int 0), (2, .ref 121), (1, .ref 0), (0, .retAddr 0)], [.ref 0])) mJ_0 (by decide +kernel) rfl ?_
  refine mk_c (M := mG_0) (i := .invokevirtual 28) (len := 3) (M' := mG_32) (j' := 32) (as := [.ref 0]) (rest := []) mJ_0 (by decide +kernel) rfl rfl rfl rfl (mh_virt (n := 0) (a := 0) (ci := 11) (by decide +kernel) rfl g0 (Nat.le_of_ble_eq_true rfl) rfl) mJ_32 (Nat.le_of_ble_eq_true rfl) (mi_pos g0) ?_
  show mi_ok _ mi_Γ (mi_ev [a0, a1, a2, a3, a4, a5]) 32 (0, [(0, .ref 0)], []) h sl
  refine mk_p (M := mG_32) (i := .aload_n 0) (len := 1) (f' := (1, [(0, .ref 0)], [.ref 0])) mJ_32 (by decide +kernel) rfl ?_
  refine mk_h (M := mG_32) (i := .getfield 30) (len := 3) (f' := (4, [(0, .ref 0)], [.int (-1)])) (h' := h) (sl' := sl) mJ_32 (by decide +kernel) rfl (mh_getf (ci := 11) (k := 7) (by decide +kernel) g0 rfl) ?_
  refine mk_r (M := mG_32) (i := .ireturn) (len := 1) (r := some (.int (-1))) mJ_32 (by decide +kernel) rfl rfl (by decide +kernel) ?_
  show mi_ok _ mi_Γ (mi_ev [a0, a1, a2, a3, a4, a5]) 0 (239, [(3, .int 0), (2, .ref 121), (1, .ref 0), (0, .retAddr 0)], [.int (-1)]) h sl
  refine mk_p (M := mG_0) (i := .aload_n 2) (len := 1) (f' := (240, [(3, .int 0), (2, .ref 121), (1, .ref 0), (0, .retAddr 0)], [.ref 121, .int (-1)])) mJ_0 (by decide +kernel) rfl ?_
  refine mk_c (M := mG_0) (i := .invokevirtual 31) (len := 3) (M' := mG_63) (j' := 63) (as := [.ref 121]) (rest := [.int (-1)]) mJ_0 (by decide +kernel) rfl rfl rfl rfl (mh_virt (n := 0) (a := 121) (ci := 13) (by decide +kernel) rfl g121 (Nat.le_of_ble_eq_true rfl) rfl) mJ_63 (Nat.le_of_ble_eq_true rfl) (mi_pos g121) ?_
  show mi_ok _ mi_Γ (mi_ev [a0, a1, a2, a3, a4, a5]) 63 (0, [(0, .ref 121)], []) h sl
  refine mk_p (M := mG_63) (i := .aload_n 0) (len := 1) (f' := (1, [(0, .ref 121)], [.ref 121])) mJ_63 (by decide +kernel) rfl ?_
  refine mk_h (M := mG_63) (i := .getfield 33) (len := 3) (f' := (4, [(0, .ref 121)], [.int (-1)])) (h' := h) (sl' := sl) mJ_63 (by decide +kernel) rfl (mh_getf (ci := 13) (k := 12) (by decide +kernel) g121 rfl) ?_
  refine mk_r (M := mG_63) (i := .ireturn) (len := 1) (r := some (.int (-1))) mJ_63 (by decide +kernel) rfl rfl (by decide +kernel) ?_
  show mi_ok _ mi_Γ (mi_ev [a0, a1, a2, a3, a4, a5]) 0 (243, [(3, .int 0), (2, .ref 121), (1, .ref 0), (0, .retAddr 0)], [.int (-1), .int (-1)]) h sl
  refine mk_t (M := mG_0) (i := .if_icmp .eq 432) (len := 3) (q := decide (((-1) : Int32) = ((-1) : Int32))) (off := 432) (t := 675) (st' := []) mJ_0 (by decide +kernel) rfl (by decide +kernel) (by decide +kernel) ?_
  refine mk_i (M := mG_0) (len := 3) (k := 3) (n := 6) (x := 0) (y := 6) (lv' := [(3, .int 6), (2, .ref 121), (1, .ref 0), (0, .retAddr 0)]) (pc' := 678) mJ_0 (by decide +kernel) rfl (by decide +kernel) (by decide +kernel) rfl rfl ?_
  refine mk_g (M := mG_0) (len := 3) (off := (-660)) (t := 18) mJ_0 (by decide +kernel) (by decide +kernel) ?_
  refine mk_p (M := mG_0) (i := .iload_n 3) (len := 1) (f' := (19, [(3, .int 6), (2, .ref 121), (1, .ref 0), (0, .retAddr 0)], [.int 6])) mJ_0 (by decide +kernel) rfl ?_
  refine mk_p (M := mG_0) (i := .aload_n 0) (len := 1) (f' := (20, [(3, .int 6), (2, .ref 121), (1, .ref 0), (0, .retAddr 0)], [.retAddr 0, .int 6])) mJ_0 (by decide +kernel) rfl ?_
  refine mk_h (M := mG_0) (i := .arraylength) (len := 1) (f' := (21, [(3, .int 6), (2, .ref 121), (1, .ref 0), (0, .retAddr 0)], [.int 6, .int 6])) (h' := h) (sl' := sl) mJ_0 (by decide +kernel) rfl rfl ?_
  refine mk_v (M := mG_0) (i := .bipush 6) (len := 2) (pc' := 23) (v' := .int 6) (st' := [.int 6, .int 6]) mJ_0 (by decide +kernel) rfl (by decide +kernel) ?_
  refine mk_v (M := mG_0) (i := .isub) (len := 1) (pc' := 24) (v' := .int 0) (st' := [.int 6]) mJ_0 (by decide +kernel) rfl (by decide +kernel) ?_
  refine mk_t (M := mG_0) (i := .if_icmp .gt 657) (len := 3) (q := decide ((0 : Int32) < (6 : Int32))) (off := 657) (t := 681) (st' := []) mJ_0 (by decide +kernel) rfl (by decide +kernel) (by decide +kernel) ?_
  refine mk_v (M := mG_0) (i := .iconst 1) (len := 1) (pc' := 682) (v' := .int 1) (st' := []) mJ_0 (by decide +kernel) rfl (by decide +kernel) ?_
  refine mk_r (M := mG_0) (i := .ireturn) (len := 1) (r := some (.int 1)) mJ_0 (by decide +kernel) rfl rfl (by decide +kernel) ?_
  exact ⟨rfl, hl, rfl⟩
set_option maxRecDepth 20000 in
theorem lw1_4 {N sl : Nat} {h : List mi_C} (a0 a1 a2 a3 a4 a5 : Int32) (hk : a0 &&& 31 = 4) (hl : h.length = N) (g0 : h[0]? = some (.inl (11, [.ref 1, .int 0, .int 0, .ref 2, .ref 13, .ref 49, .int 0, .int (-1), .ref 85, .ref 86, .ref 92, .ref 112, .int 0, .ref 113]))) (g121 : h[121]? = some (.inl (13, [.ref 122, .ref 168, .int 0, .ref 214, .int 0, .int 0, .ref 215, .int 0, .ref 216, .ref 217, .int 0, .int 0, .int (-1), .ref 218, .ref 219, .ref 220, .ref 221, .ref 222, .ref 223, .int 0, .ref 224, .ref 225, .ref 226, .ref 227, .ref 228, .int 0, .ref 229, .ref 230, .ref 231, .ref 232, .ref 233, .ref 234, .ref 235, .ref 236, .ref 237, .ref 238, .int 0, .int 0, .int 0, .int 0, .long 0, .ref 239, .ref 240, .ref 241, .ref 242, .ref 243, .ref 244, .ref 245, .ref 246, .ref 247, .ref 248, .ref 249, .int 0, .int 0, .int 0, .int 0, .int 0, .int 0, .int 0, .int (-1), .int (-1), .int 0, .int 0, .int 0]))) : mi_ok (mi_fin N sl) mi_Γ (mi_ev [a0, a1, a2, a3, a4, a5]) 0 (18, [(3, .int 0), (2, .ref 121), (1, .ref 0), (0, .retAddr 0)], []) h sl := by
  refine mk_p (M := mG_0) (i := .iload_n 3) (len := 1) (f' := (19, [(3, .int 0), (2, .ref 121), (1, .ref 0), (0, .retAddr 0)], [.int 0])) mJ_0 (by decide +kernel) rfl ?_
  refine mk_p (M := mG_0) (i := .aload_n 0) (len := 1) (f' := (20, [(3, .int 0), (2, .ref 121), (1, .ref 0), (0, .retAddr 0)], [.retAddr 0, .int 0])) mJ_0 (by decide +kernel) rfl ?_
  refine mk_h (M := mG_0) (i := .arraylength) (len := 1) (f' := (21, [(3, .int 0), (2, .ref 121), (1, .ref 0), (0, .retAddr 0)], [.int 6, .int 0])) (h' := h) (sl' := sl) mJ_0 (by decide +kernel) rfl rfl ?_
  refine mk_v (M := mG_0) (i := .bipush 6) (len := 2) (pc' := 23) (v' := .int 6) (st' := [.int 6, .int 0]) mJ_0 (by decide +kernel) rfl (by decide +kernel) ?_
  refine mk_v (M := mG_0) (i := .isub) (len := 1) (pc' := 24) (v' := .int 0) (st' := [.int 0]) mJ_0 (by decide +kernel) rfl (by decide +kernel) ?_
  refine mk_f (M := mG_0) (i := .if_icmp .gt 657) (len := 3) (q := decide ((0 : Int32) < (0 : Int32))) (off := 657) (t := 681) (pc' := 27) (st' := []) mJ_0 (by decide +kernel) rfl (by decide +kernel) (by decide +kernel) rfl ?_
  refine mk_p (M := mG_0) (i := .aload_n 0) (len := 1) (f' := (28, [(3, .int 0), (2, .ref 121), (1, .ref 0), (0, .retAddr 0)], [.retAddr 0])) mJ_0 (by decide +kernel) rfl ?_
  refine mk_p (M := mG_0) (i := .iload_n 3) (len := 1) (f' := (29, [(3, .int 0), (2, .ref 121), (1, .ref 0), (0, .retAddr 0)], [.int 0, .retAddr 0])) mJ_0 (by decide +kernel) rfl ?_
  refine mk_h (M := mG_0) (i := .iaload) (len := 1) (f' := (30, [(3, .int 0), (2, .ref 121), (1, .ref 0), (0, .retAddr 0)], [.int a0])) (h' := h) (sl' := sl) mJ_0 (by decide +kernel) rfl (mh_ial (xs := [a0, a1, a2, a3, a4, a5]) (x := 0) rfl (show mi_in 0 6 = true by decide +kernel) rfl) ?_
  refine mk_v (M := mG_0) (i := .bipush 31) (len := 2) (pc' := 32) (v' := .int 31) (st' := [.int a0]) mJ_0 (by decide +kernel) rfl (by decide +kernel) ?_
  refine mk_p (M := mG_0) (i := .iand) (len := 1) (f' := (33, [(3, .int 0), (2, .ref 121), (1, .ref 0), (0, .retAddr 0)], [.int ((a0 &&& 31))])) mJ_0 (by decide +kernel) rfl ?_
  refine mk_s (M := mG_0) (len := 103) (dflt := 642) (lo := 0) (hi := 21) (offs := #[103, 166, 189, 202, 215, 238, 261, 285, 299, 332, 365, 398, 432, 475, 508, 531, 554, 567, 580, 593, 606, 629]) (X := 4) (t := 248) mJ_0 (by decide +kernel) hk (by decide +kernel) ?_
  refine mk_p (M := mG_0) (i := .aload_n 1) (len := 1) (f' := (249, [(3, .int 0), (2, .ref 121), (1, .ref 0), (0, .retAddr 0)], [.ref 0])) mJ_0 (by decide +kernel) rfl ?_
  refine mk_p (M := mG_0) (i := .aload_n 0) (len := 1) (f' := (250, [(3, .int 0), (2, .ref 121), (1, .ref 0), (0, .retAddr 0)], [.retAddr 0, .ref 0])) mJ_0 (by decide +kernel) rfl ?_
  refine mk_p (M := mG_0) (i := .iload_n 3) (len := 1) (f' := (251, [(3, .int 0), (2, .ref 121), (1, .ref 0), (0, .retAddr 0)], [.int 0, .retAddr 0, .ref 0])) mJ_0 (by decide +kernel) rfl ?_
  refine mk_v (M := mG_0) (i := .iconst 1) (len := 1) (pc' := 252) (v' := .int 1) (st' := [.int 0, .retAddr 0, .ref 0]) mJ_0 (by decide +kernel) rfl (by decide +kernel) ?_
  refine mk_v (M := mG_0) (i := .iadd) (len := 1) (pc' := 253) (v' := .int 1) (st' := [.retAddr 0, .ref 0]) mJ_0 (by decide +kernel) rfl (by decide +kernel) ?_
  refine mk_h (M := mG_0) (i := .iaload) (len := 1) (f' := (254, [(3, .int 0), (2, .ref 121), (1, .ref 0), (0, .retAddr 0)], [.int a1, .ref 0])) (h' := h) (sl' := sl) mJ_0 (by decide +kernel) rfl (mh_ial (xs := [a0, a1, a2, a3, a4, a5]) (x := 1) rfl (show mi_in 1 6 = true by decide +kernel) rfl) ?_
  refine mk_c (M := mG_0) (i := .invokevirtual 32) (len := 3) (M' := mG_47) (j' := 47) (as := [.ref 0, .int a1]) (rest := []) mJ_0 (by decide +kernel) rfl rfl rfl rfl (mh_virt (n := 1) (a := 0) (ci := 11) (by decide +kernel) rfl g0 (Nat.le_of_ble_eq_true rfl) rfl) mJ_47 (Nat.le_of_ble_eq_true rfl) (mi_pos g0) ?_
  show mi_ok _ mi_Γ (mi_ev [a0, a1, a2, a3, a4, a5]) 47 (0, [(0, .ref 0), (1, .int a1)], []) h sl
  refine mk_p (M := mG_47) (i := .aload_n 0) (len := 1) (f' := (1, [(0, .ref 0), (1, .int a1)], [.ref 0])) mJ_47 (by decide +kernel) rfl ?_
  refine mk_h (M := mG_47) (i := .getfield 108) (len := 3) (f' := (4, [(0, .ref 0), (1, .int a1)], [.int 0])) (h' := h) (sl' := sl) mJ_47 (by decide +kernel) rfl (mh_getf (ci := 11) (k := 6) (by decide +kernel) g0 rfl) ?_
  refine mk_f (M := mG_47) (i := .ifCond .ne 5) (len := 3) (q := decide (¬ (0 : Int32) = (0 : Int32))) (off := 5) (t := 9) (pc' := 7) (st' := []) mJ_47 (by decide +kernel) rfl (by decide +kernel) (by decide +kernel) rfl ?_
  refine mk_v (M := mG_47) (i := .iconst (-1)) (len := 1) (pc' := 8) (v' := .int (-1)) (st' := []) mJ_47 (by decide +kernel) rfl (by decide +kernel) ?_
  refine mk_r (M := mG_47) (i := .ireturn) (len := 1) (r := some (.int (-1))) mJ_47 (by decide +kernel) rfl rfl (by decide +kernel) ?_
  show mi_ok _ mi_Γ (mi_ev [a0, a1, a2, a3, a4, a5]) 0 (257, [(3, .int 0), (2, .ref 121), (1, .ref 0), (0, .retAddr 0)], [.int (-1)]) h sl
  refine mk_p (M := mG_0) (i := .aload_n 2) (len := 1) (f' := (258, [(3, .int 0), (2, .ref 121), (1, .ref 0), (0, .retAddr 0)], [.ref 121, .int (-1)])) mJ_0 (by decide +kernel) rfl ?_
  refine mk_p (M := mG_0) (i := .aload_n 0) (len := 1) (f' := (259, [(3, .int 0), (2, .ref 121), (1, .ref 0), (0, .retAddr 0)], [.retAddr 0, .ref 121, .int (-1)])) mJ_0 (by decide +kernel) rfl ?_
  refine mk_p (M := mG_0) (i := .iload_n 3) (len := 1) (f' := (260, [(3, .int 0), (2, .ref 121), (1, .ref 0), (0, .retAddr 0)], [.int 0, .retAddr 0, .ref 121, .int (-1)])) mJ_0 (by decide +kernel) rfl ?_
  refine mk_v (M := mG_0) (i := .iconst 1) (len := 1) (pc' := 261) (v' := .int 1) (st' := [.int 0, .retAddr 0, .ref 121, .int (-1)]) mJ_0 (by decide +kernel) rfl (by decide +kernel) ?_
  refine mk_v (M := mG_0) (i := .iadd) (len := 1) (pc' := 262) (v' := .int 1) (st' := [.retAddr 0, .ref 121, .int (-1)]) mJ_0 (by decide +kernel) rfl (by decide +kernel) ?_
  refine mk_h (M := mG_0) (i := .iaload) (len := 1) (f' := (263, [(3, .int 0), (2, .ref 121), (1, .ref 0), (0, .retAddr 0)], [.int a1, .ref 121, .int (-1)])) (h' := h) (sl' := sl) mJ_0 (by decide +kernel) rfl (mh_ial (xs := [a0, a1, a2, a3, a4, a5]) (x := 1) rfl (show mi_in 1 6 = true by decide +kernel) rfl) ?_
  refine mk_c (M := mG_0) (i := .invokevirtual 36) (len := 3) (M' := mG_81) (j' := 81) (as := [.ref 121, .int a1]) (rest := [.int (-1)]) mJ_0 (by decide +kernel) rfl rfl rfl rfl (mh_virt (n := 1) (a := 121) (ci := 13) (by decide +kernel) rfl g121 (Nat.le_of_ble_eq_true rfl) rfl) mJ_81 (Nat.le_of_ble_eq_true rfl) (mi_pos g121) ?_
  show mi_ok _ mi_Γ (mi_ev [a0, a1, a2, a3, a4, a5]) 81 (0, [(0, .ref 121), (1, .int a1)], []) h sl
  refine mk_p (M := mG_81) (i := .aload_n 0) (len := 1) (f' := (1, [(0, .ref 121), (1, .int a1)], [.ref 121])) mJ_81 (by decide +kernel) rfl ?_
  refine mk_h (M := mG_81) (i := .getfield 794) (len := 3) (f' := (4, [(0, .ref 121), (1, .int a1)], [.int 0])) (h' := h) (sl' := sl) mJ_81 (by decide +kernel) rfl (mh_getf (ci := 13) (k := 2) (by decide +kernel) g121 rfl) ?_
  refine mk_f (M := mG_81) (i := .ifCond .ne 5) (len := 3) (q := decide (¬ (0 : Int32) = (0 : Int32))) (off := 5) (t := 9) (pc' := 7) (st' := []) mJ_81 (by decide +kernel) rfl (by decide +kernel) (by decide +kernel) rfl ?_
  refine mk_v (M := mG_81) (i := .iconst (-1)) (len := 1) (pc' := 8) (v' := .int (-1)) (st' := []) mJ_81 (by decide +kernel) rfl (by decide +kernel) ?_
  refine mk_r (M := mG_81) (i := .ireturn) (len := 1) (r := some (.int (-1))) mJ_81 (by decide +kernel) rfl rfl (by decide +kernel) ?_
  show mi_ok _ mi_Γ (mi_ev [a0, a1, a2, a3, a4, a5]) 0 (266, [(3, .int 0), (2, .ref 121), (1, .ref 0), (0, .retAddr 0)], [.int (-1), .int (-1)]) h sl
  refine mk_t (M := mG_0) (i := .if_icmp .eq 409) (len := 3) (q := decide (((-1) : Int32) = ((-1) : Int32))) (off := 409) (t := 675) (st' := []) mJ_0 (by decide +kernel) rfl (by decide +kernel) (by decide +kernel) ?_
  refine mk_i (M := mG_0) (len := 3) (k := 3) (n := 6) (x := 0) (y := 6) (lv' := [(3, .int 6), (2, .ref 121), (1, .ref 0), (0, .retAddr 0)]) (pc' := 678) mJ_0 (by decide +kernel) rfl (by decide +kernel) (by decide +kernel) rfl rfl ?_
  refine mk_g (M := mG_0) (len := 3) (off := (-660)) (t := 18) mJ_0 (by decide +kernel) (by decide +kernel) ?_
  refine mk_p (M := mG_0) (i := .iload_n 3) (len := 1) (f' := (19, [(3, .int 6), (2, .ref 121), (1, .ref 0), (0, .retAddr 0)], [.int 6])) mJ_0 (by decide +kernel) rfl ?_
  refine mk_p (M := mG_0) (i := .aload_n 0) (len := 1) (f' := (20, [(3, .int 6), (2, .ref 121), (1, .ref 0), (0, .retAddr 0)], [.retAddr 0, .int 6])) mJ_0 (by decide +kernel) rfl ?_
  refine mk_h (M := mG_0) (i := .arraylength) (len := 1) (f' := (21, [(3, .int 6), (2, .ref 121), (1, .ref 0), (0, .retAddr 0)], [.int 6, .int 6])) (h' := h) (sl' := sl) mJ_0 (by decide +kernel) rfl rfl ?_
  refine mk_v (M := mG_0) (i := .bipush 6) (len := 2) (pc' := 23) (v' := .int 6) (st' := [.int 6, .int 6]) mJ_0 (by decide +kernel) rfl (by decide +kernel) ?_
  refine mk_v (M := mG_0) (i := .isub) (len := 1) (pc' := 24) (v' := .int 0) (st' := [.int 6]) mJ_0 (by decide +kernel) rfl (by decide +kernel) ?_
  refine mk_t (M := mG_0) (i := .if_icmp .gt 657) (len := 3) (q := decide ((0 : Int32) < (6 : Int32))) (off := 657) (t := 681) (st' := []) mJ_0 (by decide +kernel) rfl (by decide +kernel) (by decide +kernel) ?_
  refine mk_v (M := mG_0) (i := .iconst 1) (len := 1) (pc' := 682) (v' := .int 1) (st' := []) mJ_0 (by decide +kernel) rfl (by decide +kernel) ?_
  refine mk_r (M := mG_0) (i := .ireturn) (len := 1) (r := some (.int 1)) mJ_0 (by decide +kernel) rfl rfl (by decide +kernel) ?_
  exact ⟨rfl, hl, rfl⟩
