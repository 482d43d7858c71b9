/-! The law, one call. -/
set_option maxRecDepth 20000 in
theorem lw1_26 {N sl : Nat} {h : List mi_C} (a0 a1 a2 a3 a4 a5 : Int32) (hk : a0 &&& 31 = 26) (hl : h.length = N) (g0 : h[0]? = some (.inl (11, [.ref 1, .int 0, .int 0, .ref 2, .ref 13, .ref 49, .int 0, .int (-1), .ref 85, .ref 86, .ref 92, .ref 112, .int 0, .ref 113]))) : mi_ok (mi_fin N sl) mi_Γ (mi_ev [a0, a1, a2, a3, a4, a5]) 0 (18, [(3, .int 0), (2, .ref 121), (1, .ref 0), (0, .retAddr 0)], []) h sl := by
  refine mk_p (M := mG_0) (i := .iload_n 3) (len := 1) (f' := (19, [(3, .int 0), (2, .ref 121), (1, .ref 0), (0, .retAddr 0)], [.int 0])) mJ_0 (by decide +kernel) rfl ?_
  refine mk_p (M := mG_0) (i := .aload_n 0) (len := 1) (f' := (20, [(3, .int 0), (2, .ref 121), (1, .ref 0), (0, .retAddr 0)], [.retAddr 0, .int 0])) mJ_0 (by decide +kernel) rfl ?_
  refine mk_h (M := mG_0) (i := .arraylength) (len := 1) (f' := (21, [(3, .int 0), (2, .ref 121), (1, .ref 0), (0, .retAddr 0)], [.int 6, .int 0])) (h' := h) (sl' := sl) mJ_0 (by decide +kernel) rfl rfl ?_
  refine mk_v (M := mG_0) (i := .bipush 6) (len := 2) (pc' := 23) (v' := .int 6) (st' := [.int 6, .int 0]) mJ_0 (by decide +kernel) rfl (by decide +kernel) ?_
  refine mk_v (M := mG_0) (i := .isub) (len := 1) (pc' := 24) (v' := .int 0) (st' := [.int 0]) mJ_0 (by decide +kernel) rfl (by decide +kernel) ?_
  refine mk_f (M := mG_0) (i := .if_icmp .gt 657) (len := 3) (q := decide ((0 : Int32) < (0 : Int32))) (off := 657) (t := 681) (pc' := 27) (st' := []) mJ_0 (by decide +kernel) rfl (by decide +kernel) (by decide +kernel) rfl ?_
  refine mk_p (M := mG_0) (i := .aload_n 0) (len := 1) (f' := (28, [(3, .int 0), (2, .ref 121), (1, .ref 0), (0, .retAddr 0)], [.retAddr 0])) mJ_0 (by decide +kernel) rfl ?_
  refine mk_p (M := mG_0) (i := .iload_n 3) (len := 1) (f' := (29, [(3, .int 0), (2, .ref 121), (1, .ref 0), (0, .retAddr 0)], [.int 0, .retAddr 0])) mJ_0 (by decide +kernel) rfl ?_
  refine mk_h (M := mG_0) (i := .iaload) (len := 1) (f' := (30, [(3, .int 0), (2, .ref 121), (1, .ref 0), (0, .retAddr 0)], [.int a0])) (h' := h) (sl' := sl) mJ_0 (by decide +kernel) rfl (mh_ial (xs := [a0, a1, a2, a3, a4, a5]) (x := 0) rfl (show mi_in 0 6 = true by decide +kernel) rfl) ?_
  refine mk_v (M := mG_0) (i := .bipush 31) (len := 2) (pc' := 32) (v' := .int 31) (st' := [.int a0]) mJ_0 (by decide +kernel) rfl (by decide +kernel) ?_
  refine mk_p (M := mG_0) (i := .iand) (len := 1) (f' := (33, [(3, .int 0), (2, .ref 121), (1, .ref 0), (0, .retAddr 0)], [.int ((a0 &&& 31))])) mJ_0 (by decide +kernel) rfl ?_
  refine mk_s (M := mG_0) (len := 103) (dflt := 642) (lo := 0) (hi := 21) (offs := #[103, 166, 189, 202, 215, 238, 261, 285, 299, 332, 365, 398, 432, 475, 508, 531, 554, 567, 580, 593, 606, 629]) (X := 26) (t := 675) mJ_0 (by decide +kernel) hk (by decide +kernel) ?_
  refine mk_i (M := mG_0) (len := 3) (k := 3) (n := 6) (x := 0) (y := 6) (lv' := [(3, .int 6), (2, .ref 121), (1, .ref 0), (0, .retAddr 0)]) (pc' := 678) mJ_0 (by decide +kernel) rfl (by decide +kernel) (by decide +kernel) rfl rfl ?_
  refine mk_g (M := mG_0) (len := 3) (off := (-660)) (t := 18) mJ_0 (by decide +kernel) (by decide +kernel) ?_
  refine mk_p (M := mG_0) (i := .iload_n 3) (len := 1) (f' := (19, [(3, .int 6), (2, .ref 121), (1, .ref 0), (0, .retAddr 0)], [.int 6])) mJ_0 (by decide +kernel) rfl ?_
  refine mk_p (M := mG_0) (i := .aload_n 0) (len := 1) (f' := (20, [(3, .int 6), (2, .ref 121), (1, .ref 0), (0, .retAddr 0)], [.retAddr 0, .int 6])) mJ_0 (by decide +kernel) rfl ?_
  refine mk_h (M := mG_0) (i := .arraylength) (len := 1) (f' := (21, [(3, .int 6), (2, .ref 121), (1, .ref 0), (0, .retAddr 0)], [.int 6, .int 6])) (h' := h) (sl' := sl) mJ_0 (by decide +kernel) rfl rfl ?_
  refine mk_v (M := mG_0) (i := .bipush 6) (len := 2) (pc' := 23) (v' := .int 6) (st' := [.int 6, .int 6]) mJ_0 (by decide +kernel) rfl (by decide +kernel) ?_
  refine mk_v (M := mG_0) (i := .isub) (len := 1) (pc' := 24) (v' := .int 0) (st' := [.int 6]) mJ_0 (by decide +kernel) rfl (by decide +kernel) ?_
  refine mk_t (M := mG_0) (i := .if_icmp .gt 657) (len := 3) (q := decide ((0 : Int32) < (6 : Int32))) (off := 657) (t := 681) (st' := []) mJ_0 (by decide +kernel) rfl (by decide +kernel) (by decide +kernel) ?_
  refine mk_v (M := mG_0) (i := .iconst 1) (len := 1) (pc' := 682) (v' := .int 1) (st' := []) mJ_0 (by decide +kernel) rfl (by decide +kernel) ?_
  refine mk_r (M := mG_0) (i := .ireturn) (len := 1) (r := some (.int 1)) mJ_0 (by decide +kernel) rfl rfl (by decide +kernel) ?_
  exact ⟨rfl, hl, rfl⟩
set_option maxRecDepth 20000 in
theorem lw1_27 {N sl : Nat} {h : List mi_C} (a0 a1 a2 a3 a4 a5 : Int32) (hk : a0 &&& 31 = 27) (hl : h.length = N) (g0 : h[0]? = some (.inl (11, [.ref 1, .int 0, .int 0, .ref 2, .ref 13, .ref 49, .int 0, .int (-1), .ref 85, .ref 86, .ref 92, .ref 112, .int 0, .ref 113]))) : mi_ok (mi_fin N sl) mi_Γ (mi_ev [a0, a1, a2, a3, a4, a5]) 0 (18, [(3, .int 0), (2, .ref 121), (1, .ref 0), (0, .retAddr 0)], []) h sl := by
  refine mk_p (M := mG_0) (i := .iload_n 3) (len := 1) (f' := (19, [(3, .int 0), (2, .ref 121), (1, .ref 0), (0, .retAddr 0)], [.int 0])) mJ_0 (by decide +kernel) rfl ?_
  refine mk_p (M := mG_0) (i := .aload_n 0) (len := 1) (f' := (20, [(3, .int 0), (2, .ref 121), (1, .ref 0), (0, .retAddr 0)], [.retAddr 0, .int 0])) mJ_0 (by decide +kernel) rfl ?_
  refine mk_h (M := mG_0) (i := .arraylength) (len := 1) (f' := (21, [(3, .int 0), (2, .ref 121), (1, .ref 0), (0, .retAddr 0)], [.int 6, .int 0])) (h' := h) (sl' := sl) mJ_0 (by decide +kernel) rfl rfl ?_
  refine mk_v (M := mG_0) (i := .bipush 6) (len := 2) (pc' := 23) (v' := .int 6) (st' := [.int 6, .int 0]) mJ_0 (by decide +kernel) rfl (by decide +kernel) ?_
  refine mk_v (M := mG_0) (i := .isub) (len := 1) (pc' := 24) (v' := .int 0) (st' := [.int 0]) mJ_0 (by decide +kernel) rfl (by decide +kernel) ?_
  refine mk_f (M := mG_0) (i := .if_icmp .gt 657) (len := 3) (q := decide ((0 : Int32) < (0 : Int32))) (off := 657) (t := 681) (pc' := 27) (st' := []) mJ_0 (by decide +kernel) rfl (by decide +kernel) (by decide +kernel) rfl ?_
  refine mk_p (M := mG_0) (i := .aload_n 0) (len := 1) (f' := (28, [(3, .int 0), (2, .ref 121), (1, .ref 0), (0, .retAddr 0)], [.retAddr 0])) mJ_0 (by decide +kernel) rfl ?_
  refine mk_p (M := mG_0) (i := .iload_n 3) (len := 1) (f' := (29, [(3, .int 0), (2, .ref 121), (1, .ref 0), (0, .retAddr 0)], [.int 0, .retAddr 0])) mJ_0 (by decide +kernel) rfl ?_
  refine mk_h (M := mG_0) (i := .iaload) (len := 1) (f' := (30, [(3, .int 0), (2, .ref 121), (1, .ref 0), (0, .retAddr 0)], [.int a0])) (h' := h) (sl' := sl) mJ_0 (by decide +kernel) rfl (mh_ial (xs := [a0, a1, a2, a3, a4, a5]) (x := 0) rfl (show mi_in 0 6 = true by decide +kernel) rfl) ?_
  refine mk_v (M := mG_0) (i := .bipush 31) (len := 2) (pc' := 32) (v' := .int 31) (st' := [.int a0]) mJ_0 (by decide +kernel) rfl (by decide +kernel) ?_
  refine mk_p (M := mG_0) (i := .iand) (len := 1) (f' := (33, [(3, .int 0), (2, .ref 121), (1, .ref 0), (0, .retAddr 0)], [.int ((a0 &&& 31))])) mJ_0 (by decide +kernel) rfl ?_
  refine mk_s (M := mG_0) (len := 103) (dflt := 642) (lo := 0) (hi := 21) (offs := #[103, 166, 189, 202, 215, 238, 261, 285, 299, 332, 365, 398, 432, 475, 508, 531, 554, 567, 580, 593, 606, 629]) (X := 27) (t := 675) mJ_0 (by decide +kernel) hk (by decide +kernel) ?_
  refine mk_i (M := mG_0) (len := 3) (k := 3) (n := 6) (x := 0) (y := 6) (lv' := [(3, .int 6), (2, .ref 121), (1, .ref 0), (0, .retAddr 0)]) (pc' := 678) mJ_0 (by decide +kernel) rfl (by decide +kernel) (by decide +kernel) rfl rfl ?_
  refine mk_g (M := mG_0) (len := 3) (off := (-660)) (t := 18) mJ_0 (by decide +kernel) (by decide +kernel) ?_
  refine mk_p (M := mG_0) (i := .iload_n 3) (len := 1) (f' := (19, [(3, .int 6), (2, .ref 121), (1, .ref 0), (0, .retAddr 0)], [.int 6])) mJ_0 (by decide +kernel) rfl ?_
  refine mk_p (M := mG_0) (i := .aload_n 0) (len := 1) (f' := (20, [(3, .int 6), (2, .ref 121), (1, .ref 0), (0, .retAddr 0)], [.retAddr 0, .int 6])) mJ_0 (by decide +kernel) rfl ?_
  refine mk_h (M := mG_0) (i := .arraylength) (len := 1) (f' := (21, [(3, .int 6), (2, .ref 121), (1, .ref 0), (0, .retAddr 0)], [.int 6, .int 6])) (h' := h) (sl' := sl) mJ_0 (by decide +kernel) rfl rfl ?_
  refine mk_v (M := mG_0) (i := .bipush 6) (len := 2) (pc' := 23) (v' := .int 6) (st' := [.int 6, .int 6]) mJ_0 (by decide +kernel) rfl (by decide +kernel) ?_
  refine mk_v (M := mG_0) (i := .isub) (len := 1) (pc' := 24) (v' := .int 0) (st' := [.int 6]) mJ_0 (by decide +kernel) rfl (by decide +kernel) ?_
  refine mk_t (M := mG_0) (i := .if_icmp .gt 657) (len := 3) (q := decide ((0 : Int32) < (6 : Int32))) (off := 657) (t := 681) (st' := []) mJ_0 (by decide +kernel) rfl (by decide +kernel) (by decide +kernel) ?_
  refine mk_v (M := mG_0) (i := .iconst 1) (len := 1) (pc' := 682) (v' := .int 1) (st' := []) mJ_0 (by decide +kernel) rfl (by decide +kernel) ?_
  refine mk_r (M := mG_0) (i := .ireturn) (len := 1) (r := some (.int 1)) mJ_0 (by decide +kernel) rfl rfl (by decide +kernel) ?_
  exact ⟨rfl, hl, rfl⟩
set_option maxRecDepth 20000 in
theorem lw1_28 {N sl : Nat} {h : List mi_C} (a0 a1 a2 a3 a4 a5 : Int32) (hk : a0 &&& 31 = 28) (hl : h.length = N) (g0 : h[0]? = some (.inl (11, [.ref 1, .int 0, .int 0, .ref 2, .ref 13, .ref 49, .int 0, .int (-1), .ref 85, .ref 86, .ref 92, .ref 112, .int 0, .ref 113]))) : mi_ok (mi_fin N sl) mi_Γ (mi_ev [a0, a1, a2, a3, a4, a5]) 0 (18, [(3, .int 0), (2, .ref 121), (1, .ref 0), (0, .retAddr 0)], []) h sl := by
  refine mk_p (M := mG_0) (i := .iload_n 3) (len := 1) (f' := (19, [(3, .int 0), (2, .ref 121), (1, .ref 0), (0, .retAddr 0)], [.int 0])) mJ_0 (by decide +kernel) rfl ?_
  refine mk_p (M := mG_0) (i := .aload_n 0) (len := 1) (f' := (20, [(3, .int 0), (2, .ref 121), (1, .ref 0), (0, .retAddr 0)], [.retAddr 0, .int 0])) mJ_0 (by decide +kernel) rfl ?_
  refine mk_h (M := mG_0) (i := .arraylength) (len := 1) (f' := (21, [(3, .int 0), (2, .ref 121), (1, .ref 0), (0, .retAddr 0)], [.int 6, .int 0])) (h' := h) (sl' := sl) mJ_0 (by decide +kernel) rfl rfl ?_
  refine mk_v (M := mG_0) (i := .bipush 6) (len := 2) (pc' := 23) (v' := .int 6) (st' := [.int 6, .int 0]) mJ_0 (by decide +kernel) rfl (by decide +kernel) ?_
  refine mk_v (M := mG_0) (i := .isub) (len := 1) (pc' := 24) (v' := .int 0) (st' := [.int 0]) mJ_0 (by decide +kernel) rfl (by decide +kernel) ?_
  refine mk_f (M := mG_0) (i := .if_icmp .gt 657) (len := 3) (q := decide ((0 : Int32) < (0 : Int32))) (off := 657) (t := 681) (pc' := 27) (st' := []) mJ_0 (by decide +kernel) rfl (by decide +kernel) (by decide +kernel) rfl ?_
  refine mk_p (M := mG_0) (i := .aload_n 0) (len := 1) (f' := (28, [(3, .int 0), (2, .ref 121), (1, .ref 0), (0, .retAddr 0)], [.retAddr 0])) mJ_0 (by decide +kernel) rfl ?_
  refine mk_p (M := mG_0) (i := .iload_n 3) (len := 1) (f' := (29, [(3, .int 0), (2, .ref 121), (1, .ref 0), (0, .retAddr 0)], [.int 0, .retAddr 0])) mJ_0 (by decide +kernel) rfl ?_
  refine mk_h (M := mG_0) (i := .iaload) (len := 1) (f' := (30, [(3, .int 0), (2, .ref 121), (1, .ref 0), (0, .retAddr 0)], [.int a0])) (h' := h) (sl' := sl) mJ_0 (by decide +kernel) rfl (mh_ial (xs := [a0, a1, a2, a3, a4, a5]) (x := 0) rfl (show mi_in 0 6 = true by decide +kernel) rfl) ?_
  refine mk_v (M := mG_0) (i := .bipush 31) (len := 2) (pc' := 32) (v' := .int 31) (st' := [.int a0]) mJ_0 (by decide +kernel) rfl (by decide +kernel) ?_
  refine mk_p (M := mG_0) (i := .iand) (len := 1) (f' := (33, [(3, .int 0), (2, .ref 121), (1, .ref 0), (0, .retAddr 0)], [.int ((a0 &&& 31))])) mJ_0 (by decide +kernel) rfl ?_
  refine mk_s (M := mG_0) (len := 103) (dflt := 642) (lo := 0) (hi := 21) (offs := #[103, 166, 189, 202, 215, 238, 261, 285, 299, 332, 365, 398, 432, 475, 508, 531, 554, 567, 580, 593, 606, 629]) (X := 28) (t := 675) mJ_0 (by decide +kernel) hk (by decide +kernel) ?_
  refine mk_i (M := mG_0) (len := 3) (k := 3) (n := 6) (x := 0) (y := 6) (lv' := [(3, .int 6), (2, .ref 121), (1, .ref 0), (0, .retAddr 0)]) (pc' := 678) mJ_0 (by decide +kernel) rfl (by decide +kernel) (by decide +kernel) rfl rfl ?_
  refine mk_g (M := mG_0) (len := 3) (off := (-660)) (t := 18) mJ_0 (by decide +kernel) (by decide +kernel) ?_
  refine mk_p (M := mG_0) (i := .iload_n 3) (len := 1) (f' := (19, [(3, .int 6), (2, .ref 121), (1, .ref 0), (0, .retAddr 0)], [.int 6])) mJ_0 (by decide +kernel) rfl ?_
  refine mk_p (M := mG_0) (i := .aload_n 0) (len := 1) (f' := (20, [(3, .int 6), (2, .ref 121), (1, .ref 0), (0, .retAddr 0)], [.retAddr 0, .int 6])) mJ_0 (by decide +kernel) rfl ?_
  refine mk_h (M := mG_0) (i := .arraylength) (len := 1) (f' := (21, [(3, .int 6), (2, .ref 121), (1, .ref 0), (0, .retAddr 0)], [.int 6, .int 6])) (h' := h) (sl' := sl) mJ_0 (by decide +kernel) rfl rfl ?_
  refine mk_v (M := mG_0) (i := .bipush 6) (len := 2) (pc' := 23) (v' := .int 6) (st' := [.int 6, .int 6]) mJ_0 (by decide +kernel) rfl (by decide +kernel) ?_
  refine mk_v (M := mG_0) (i := .isub) (len := 1) (pc' := 24) (v' := .int 0) (st' := [.int 6]) mJ_0 (by decide +kernel) rfl (by decide +kernel) ?_
  refine mk_t (M := mG_0) (i := .if_icmp .gt 657) (len := 3) (q := decide ((0 : Int32) < (6 : Int32))) (off := 657) (t := 681) (st' := []) mJ_0 (by decide +kernel) rfl (by decide +kernel) (by decide +kernel) ?_
  refine mk_v (M := mG_0) (i := .iconst 1) (len := 1) (pc' := 682) (v' := .int 1) (st' := []) mJ_0 (by decide +kernel) rfl (by decide +kernel) ?_
  refine mk_r (M := mG_0) (i := .ireturn) (len := 1) (r := some (.int 1)) mJ_0 (by decide +kernel) rfl rfl (by decide +kernel) ?_
  exact ⟨rfl, hl, rfl⟩
set_option maxRecDepth 20000 in
theorem lw1_29 {N sl : Nat} {h : List mi_C} (a0 a1 a2 a3 a4 a5 : Int32) (hk : a0 &&& 31 = 29) (hl : h.length = N) (g0 : h[0]? = some (.inl (11, [.ref 1, .int 0, .int 0, .ref 2, .ref 13, .ref 49, .int 0, .int (-1), .ref 85, .ref 86, .ref 92, .ref 112, .int 0, .ref 113]))) : mi_ok (mi_fin N sl) mi_Γ (mi_ev [a0, a1, a2, a3, a4, a5]) 0 (18, [(3, .int 0), (2, .ref 121), (1, .ref 0), (0, .retAddr 0)], []) h sl := by
  refine mk_p (M := mG_0) (i := .iload_n 3) (len := 1) (f' := (19, [(3, .int 0), (2, .ref 121), (1, .ref 0), (0, .retAddr 0)], [.int 0])) mJ_0 (by decide +kernel) rfl ?_
  refine mk_p (M := mG_0) (i := .aload_n 0) (len := 1) (f' := (20, [(3, .int 0), (2, .ref 121), (1, .ref 0), (0, .retAddr 0)], [.retAddr 0, .int 0])) mJ_0 (by decide +kernel) rfl ?_
  refine mk_h (M := mG_0) (i := .arraylength) (len := 1) (f' := (21, [(3, .int 0), (2, .ref 121), (1, .ref 0), (0, .retAddr 0)], [.int 6, .int 0])) (h' := h) (sl' := sl) mJ_0 (by decide +kernel) rfl rfl ?_
  refine mk_v (M := mG_0) (i := .bipush 6) (len := 2) (pc' := 23) (v' := .int 6) (st' := [.int 6, .int 0]) mJ_0 (by decide +kernel) rfl (by decide +kernel) ?_
  refine mk_v (M := mG_0) (i := .isub) (len := 1) (pc' := 24) (v' := .int 0) (st' := [.int 0]) mJ_0 (by decide +kernel) rfl (by decide +kernel) ?_
  refine mk_f (M := mG_0) (i := .if_icmp .gt 657) (len := 3) (q := decide ((0 : Int32) < (0 : Int32))) (off := 657) (t := 681) (pc' := 27) (st' := []) mJ_0 (by decide +kernel) rfl (by decide +kernel) (by decide +kernel) rfl ?_
  refine mk_p (M := mG_0) (i := .aload_n 0) (len := 1) (f' := (28, [(3, .int 0), (2, .ref 121), (1, .ref 0), (0, .retAddr 0)], [.retAddr 0])) mJ_0 (by decide +kernel) rfl ?_
  refine mk_p (M := mG_0) (i := .iload_n 3) (len := 1) (f' := (29, [(3, .int 0), (2, .ref 121), (1, .ref 0), (0, .retAddr 0)], [.int 0, .retAddr 0])) mJ_0 (by decide +kernel) rfl ?_
  refine mk_h (M := mG_0) (i := .iaload) (len := 1) (f' := (30, [(3, .int 0), (2, .ref 121), (1, .ref 0), (0, .retAddr 0)], [.int a0])) (h' := h) (sl' := sl) mJ_0 (by decide +kernel) rfl (mh_ial (xs := [a0, a1, a2, a3, a4, a5]) (x := 0) rfl (show mi_in 0 6 = true by decide +kernel) rfl) ?_
  refine mk_v (M := mG_0) (i := .bipush 31) (len := 2) (pc' := 32) (v' := .int 31) (st' := [.int a0]) mJ_0 (by decide +kernel) rfl (by decide +kernel) ?_
  refine mk_p (M := mG_0) (i := .iand) (len := 1) (f' := (33, [(3, .int 0), (2, .ref 121), (1, .ref 0), (0, .retAddr 0)], [.int ((a0 &&& 31))])) mJ_0 (by decide +kernel) rfl ?_
  refine mk_s (M := mG_0) (len := 103) (dflt := 642) (lo := 0) (hi := 21) (offs := #[103, 166, 189, 202, 215, 238, 261, 285, 299, 332, 365, 398, 432, 475, 508, 531, 554, 567, 580, 593, 606, 629]) (X := 29) (t := 675) mJ_0 (by decide +kernel) hk (by decide +kernel) ?_
  refine mk_i (M := mG_0) (len := 3) (k := 3) (n := 6) (x := 0) (y := 6) (lv' := [(3, .int 6), (2, .ref 121), (1, .ref 0), (0, .retAddr 0)]) (pc' := 678) mJ_0 (by decide +kernel) rfl (by decide +kernel) (by decide +kernel) rfl rfl ?_
  refine mk_g (M := mG_0) (len := 3) (off := (-660)) (t := 18) mJ_0 (by decide +kernel) (by decide +kernel) ?_
  refine mk_p (M := mG_0) (i := .iload_n 3) (len := 1) (f' := (19, [(3, .int 6), (2, .ref 121), (1, .ref 0), (0, .retAddr 0)], [.int 6])) mJ_0 (by decide +kernel) rfl ?_
  refine mk_p (M := mG_0) (i := .aload_n 0) (len := 1) (f' := (20, [(3, .int 6), (2, .ref 121), (1, .ref 0), (0, .retAddr 0)], [.retAddr 0, .int 6])) mJ_0 (by decide +kernel) rfl ?_
  refine mk_h (M := mG_0) (i := .arraylength) (len := 1) (f' := (21, [(3, .int 6), (2, .ref 121), (1, .ref 0), (0, .retAddr 0)], [.int 6, .int 6])) (h' := h) (sl' := sl) mJ_0 (by decide +kernel) rfl rfl ?_
  refine mk_v (M := mG_0) (i := .bipush 6) (len := 2) (pc' := 23) (v' := .int 6) (st' := [.int 6, .int 6]) mJ_0 (by decide +kernel) rfl (by decide +kernel) ?_
  refine mk_v (M := mG_0) (i := .isub) (len := 1) (pc' := 24) (v' := .int 0) (st' := [.int 6]) mJ_0 (by decide +kernel) rfl (by decide +kernel) ?_
  refine mk_t (M := mG_0) (i := .if_icmp .gt 657) (len := 3) (q := decide ((0 : Int32) < (6 : Int32))) (off := 657) (t := 681) (st' := []) mJ_0 (by decide +kernel) rfl (by decide +kernel) (by decide +kernel) ?_
  refine mk_v (M := mG_0) (i := .iconst 1) (len := 1) (pc' := 682) (v' := .int 1) (st' := []) mJ_0 (by decide +kernel) rfl (by decide +kernel) ?_
  refine mk_r (M := mG_0) (i := .ireturn) (len := 1) (r := some (.int 1)) mJ_0 (by decide +kernel) rfl rfl (by decide +kernel) ?_
  exact ⟨rfl, hl, rfl⟩
set_option maxRecDepth 20000 in
theorem lw1_30 {N sl : Nat} {h : List mi_C} (a0 a1 a2 a3 a4 a5 : Int32) (hk : a0 &&& 31 = 30) (hl : h.length = N) (g0 : h[0]? = some (.inl (11, [.ref 1, .int 0, .int 0, .ref 2, .ref 13, .ref 49, .int 0, .int (-1), .ref 85, .ref 86, .ref 92, .ref 112, .int 0, .ref 113]))) : mi_ok (mi_fin N sl) mi_Γ (mi_ev [a0, a1, a2, a3, a4, a5]) 0 (18, [(3, .int 0), (2, .ref 121), (1, .ref 0), (0, .retAddr 0)], []) h sl := by
  refine mk_p (M := mG_0) (i := .iload_n 3) (len := 1) (f' := (19, [(3, .int 0), (2, .ref 121), (1, .ref 0), (0, .retAddr 0)], [.int 0])) mJ_0 (by decide +kernel) rfl ?_
  refine mk_p (M := mG_0) (i := .aload_n 0) (len := 1) (f' := (20, [(3, .int 0), (2, .ref 121), (1, .ref 0), (0, .retAddr 0)], [.retAddr 0, .int 0])) mJ_0 (by decide +kernel) rfl ?_
  refine mk_h (M := mG_0) (i := .arraylength) (len := 1) (f' := (21, [(3, .int 0), (2, .ref 121), (1, .ref 0), (0, .retAddr 0)], [.int 6, .int 0])) (h' := h) (sl' := sl) mJ_0 (by decide +kernel) rfl rfl ?_
  refine mk_v (M := mG_0) (i := .bipush 6) (len := 2) (pc' := 23) (v' := .int 6) (st' := [.int 6, .int 0]) mJ_0 (by decide +kernel) rfl (by decide +kernel) ?_
  refine mk_v (M := mG_0) (i := .isub) (len := 1) (pc' := 24) (v' := .int 0) (st' := [.int 0]) mJ_0 (by decide +kernel) rfl (by decide +kernel) ?_
  refine mk_f (M := mG_0) (i := .if_icmp .gt 657) (len := 3) (q := decide ((0 : Int32) < (0 : Int32))) (off := 657) (t := 681) (pc' := 27) (st' := []) mJ_0 (by decide +kernel) rfl (by decide +kernel) (by decide +kernel) rfl ?_
  refine mk_p (M := mG_0) (i := .aload_n 0) (len := 1) (f' := (28, [(3, .int 0), (2, .ref 121), (1, .ref 0), (0, .retAddr 0)], [.retAddr 0])) mJ_0 (by decide +kernel) rfl ?_
  refine mk_p (M := mG_0) (i := .iload_n 3) (len := 1) (f' := (29, [(3, .int 0), (2, .ref 121), (1, .ref 0), (0, .retAddr 0)], [.int 0, .retAddr 0])) mJ_0 (by decide +kernel) rfl ?_
  refine mk_h (M := mG_0) (i := .iaload) (len := 1) (f' := (30, [(3, .int 0), (2, .ref 121), (1, .ref 0), (0, .retAddr 0)], [.int a0])) (h' := h) (sl' := sl) mJ_0 (by decide +kernel) rfl (mh_ial (xs := [a0, a1, a2, a3, a4, a5]) (x := 0) rfl (show mi_in 0 6 = true by decide +kernel) rfl) ?_
  refine mk_v (M := mG_0) (i := .bipush 31) (len := 2) (pc' := 32) (v' := .int 31) (st' := [.int a0]) mJ_0 (by decide +kernel) rfl (by decide +kernel) ?_
  refine mk_p (M := mG_0) (i := .iand) (len := 1) (f' := (33, [(3, .int 0), (2, .ref 121), (1, .ref 0), (0, .retAddr 0)], [.int ((a0 &&& 31))])) mJ_0 (by decide +kernel) rfl ?_
  refine mk_s (M := mG_0) (len := 103) (dflt := 642) (lo := 0) (hi := 21) (offs := #[103, 166, 189, 202, 215, 238, 261, 285, 299, 332, 365, 398, 432, 475, 508, 531, 554, 567, 580, 593, 606, 629]) (X := 30) (t := 675) mJ_0 (by decide +kernel) hk (by decide +kernel) ?_
  refine mk_i (M := mG_0) (len := 3) (k := 3) (n := 6) (x := 0) (y := 6) (lv' := [(3, .int 6), (2, .ref 121), (1, .ref 0), (0, .retAddr 0)]) (pc' := 678) mJ_0 (by decide +kernel) rfl (by decide +kernel) (by decide +kernel) rfl rfl ?_
  refine mk_g (M := mG_0) (len := 3) (off := (-660)) (t := 18) mJ_0 (by decide +kernel) (by decide +kernel) ?_
  refine mk_p (M := mG_0) (i := .iload_n 3) (len := 1) (f' := (19, [(3, .int 6), (2, .ref 121), (1, .ref 0), (0, .retAddr 0)], [.int 6])) mJ_0 (by decide +kernel) rfl ?_
  refine mk_p (M := mG_0) (i := .aload_n 0) (len := 1) (f' := (20, [(3, .int 6), (2, .ref 121), (1, .ref 0), (0, .retAddr 0)], [.retAddr 0, .int 6])) mJ_0 (by decide +kernel) rfl ?_
  refine mk_h (M := mG_0) (i := .arraylength) (len := 1) (f' := (21, [(3, .int 6), (2, .ref 121), (1, .ref 0), (0, .retAddr 0)], [.int 6, .int 6])) (h' := h) (sl' := sl) mJ_0 (by decide +kernel) rfl rfl ?_
  refine mk_v (M := mG_0) (i := .bipush 6) (len := 2) (pc' := 23) (v' := .int 6) (st' := [.int 6, .int 6]) mJ_0 (by decide +kernel) rfl (by decide +kernel) ?_
  refine mk_v (M := mG_0) (i := .isub) (len := 1) (pc' := 24) (v' := .int 0) (st' := [.int 6]) mJ_0 (by decide +kernel) rfl (by decide +kernel) ?_
  refine mk_t (M := mG_0) (i := .if_icmp .gt 657) (len := 3) (q := decide ((0 : Int32) < (6 : Int32))) (off := 657) (t := 681) (st' := []) mJ_0 (by decide +kernel) rfl (by decide +kernel) (by decide +kernel) ?_
  refine mk_v (M := mG_0) (i := .iconst 1) (len := 1) (pc' := 682) (v' := .int 1) (st' := []) mJ_0 (by decide +kernel) rfl (by decide +kernel) ?_
  refine mk_r (M := mG_0) (i := .ireturn) (len := 1) (r := some (.int 1)) mJ_0 (by decide +kernel) rfl rfl (by decide +kernel) ?_
  exact ⟨rfl, hl, rfl⟩
set_option maxRecDepth 20000 in
theorem lw1_31 {N sl : Nat} {h : List mi_C} (a0 a1 a2 a3 a4 a5 : Int32) (hk : a0 &&& 31 = 31) (hl : h.length = N) (g0 : h[0]? = some (.inl (11, [.ref 1, .int 0, .int 0, .ref 2, .ref 13, .ref 49, .int 0, .int (-1), .ref 85, .ref 86, .ref 92, .ref 112, .int 0, .ref 113]))) : mi_ok (mi_fin N sl) mi_Γ (mi_ev [a0, a1, a2, a3, a4, a5]) 0 (18, [(3, .int 0), (2, .ref 121), (1, .ref 0), (0, .retAddr 0)], []) h sl := by
  refine mk_p (M := mG_0) (i := .iload_n 3) (len := 1) (f' := (19, [(3, .int 0), (2, .ref 121), (1, .ref 0), (0, .retAddr 0)], [.int 0])) mJ_0 (by decide +kernel) rfl ?_
  refine mk_p (M := mG_0) (i := .aload_n 0) (len := 1) (f' := (20, [(3, .int 0), (2, .ref 121), (1, .ref 0), (0, .retAddr 0)], [.retAddr 0, .int 0])) mJ_0 (by decide +kernel) rfl ?_
  refine mk_h (M := mG_0) (i := .arraylength) (len := 1) (f' := (21, [(3, .int 0), (2, .ref 121), (1, .ref 0), (0, .retAddr 0)], [.int 6, .int 0])) (h' := h) (sl' := sl) mJ_0 (by decide +kernel) rfl rfl ?_
  refine mk_v (M := mG_0) (i := .bipush 6) (len := 2) (pc' := 23) (v' := .int 6) (st' := [.int 6, .int 0]) mJ_0 (by decide +kernel) rfl (by decide +kernel) ?_
  refine mk_v (M := mG_0) (i := .isub) (len := 1) (pc' := 24) (v' := .int 0) (st' := [.int 0]) mJ_0 (by decide +kernel) rfl (by decide +kernel) ?_
  refine mk_f (M := mG_0) (i := .if_icmp .gt 657) (len := 3) (q := decide ((0 : Int32) < (0 : Int32))) (off := 657) (t := 681) (pc' := 27) (st' := []) mJ_0 (by decide +kernel) rfl (by decide +kernel) (by decide +kernel) rfl ?_
  refine mk_p (M := mG_0) (i := .aload_n 0) (len := 1) (f' := (28, [(3, .int 0), (2, .ref 121), (1, .ref 0), (0, .retAddr 0)], [.retAddr 0])) mJ_0 (by decide +kernel) rfl ?_
  refine mk_p (M := mG_0) (i := .iload_n 3) (len := 1) (f' := (29, [(3, .int 0), (2, .ref 121), (1, .ref 0), (0, .retAddr 0)], [.int 0, .retAddr 0])) mJ_0 (by decide +kernel) rfl ?_
  refine mk_h (M := mG_0) (i := .iaload) (len := 1) (f' := (30, [(3, .int 0), (2, .ref 121), (1, .ref 0), (0, .retAddr 0)], [.int a0])) (h' := h) (sl' := sl) mJ_0 (by decide +kernel) rfl (mh_ial (xs := [a0, a1, a2, a3, a4, a5]) (x := 0) rfl (show mi_in 0 6 = true by decide +kernel) rfl) ?_
  refine mk_v (M := mG_0) (i := .bipush 31) (len := 2) (pc' := 32) (v' := .int 31) (st' := [.int a0]) mJ_0 (by decide +kernel) rfl (by decide +kernel) ?_
  refine mk_p (M := mG_0) (i := .iand) (len := 1) (f' := (33, [(3, .int 0), (2, .ref 121), (1, .ref 0), (0, .retAddr 0)], [.int ((a0 &&& 31))])) mJ_0 (by decide +kernel) rfl ?_
  refine mk_s (M := mG_0) (len := 103) (dflt := 642) (lo := 0) (hi := 21) (offs := #[103, 166, 189, 202, 215, 238, 261, 285, 299, 332, 365, 398, 432, 475, 508, 531, 554, 567, 580, 593, 606, 629]) (X := 31) (t := 675) mJ_0 (by decide +kernel) hk (by decide +kernel) ?_
  refine mk_i (M := mG_0) (len := 3) (k := 3) (n := 6) (x := 0) (y := 6) (lv' := [(3, .int 6), (2, .ref 121), (1, .ref 0), (0, .retAddr 0)]) (pc' := 678) mJ_0 (by decide +kernel) rfl (by decide +kernel) (by decide +kernel) rfl rfl ?_
  refine mk_g (M := mG_0) (len := 3) (off := (-660)) (t := 18) mJ_0 (by decide +kernel) (by decide +kernel) ?_
  refine mk_p (M := mG_0) (i := .iload_n 3) (len := 1) (f' := (19, [(3, .int 6), (2, .ref 121), (1, .ref 0), (0, .retAddr 0)], [.int 6])) mJ_0 (by decide +kernel) rfl ?_
  refine mk_p (M := mG_0) (i := .aload_n 0) (len := 1) (f' := (20, [(3, .int 6), (2, .ref 121), (1, .ref 0), (0, .retAddr 0)], [.retAddr 0, .int 6])) mJ_0 (by decide +kernel) rfl ?_
  refine mk_h (M := mG_0) (i := .arraylength) (len := 1) (f' := (21, [(3, .int 6), (2, .ref 121), (1, .ref 0), (0, .retAddr 0)], [.int 6, .int 6])) (h' := h) (sl' := sl) mJ_0 (by decide +kernel) rfl rfl ?_
  refine mk_v (M := mG_0) (i := .bipush 6) (len := 2) (pc' := 23) (v' := .int 6) (st' := [.int 6, .int 6]) mJ_0 (by decide +kernel) rfl (by decide +kernel) ?_
  refine mk_v (M := mG_0) (i := .isub) (len := 1) (pc' := 24) (v' := .int 0) (st' := [.int 6]) mJ_0 (by decide +kernel) rfl (by decide +kernel) ?_
  refine mk_t (M := mG_0) (i := .if_icmp .gt 657) (len := 3) (q := decide ((0 : Int32) < (6 : Int32))) (off := 657) (t := 681) (st' := []) mJ_0 (by decide +kernel) rfl (by decide +kernel) (by decide +kernel) ?_
  refine mk_v (M := mG_0) (i := .iconst 1) (len := 1) (pc' := 682) (v' := .int 1) (st' := []) mJ_0 (by decide +kernel) rfl (by decide +kernel) ?_
  refine mk_r (M := mG_0) (i := .ireturn) (len := 1) (r := some (.int 1)) mJ_0 (by decide +kernel) rfl rfl (by decide +kernel) ?_
  exact ⟨rfl, hl, rfl⟩
