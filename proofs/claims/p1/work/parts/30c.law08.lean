/-! The law, one call. -/
set_option maxRecDepth 20000 in
theorem lw1_15 {N sl : Nat} {h : List mi_C} (a0 a1 a2 a3 a4 a5 : Int32) (hk : a0 &&& 31 = 15) (hl : h.length = N) (g0 : h[0]? = some (.inl (11, [.ref 1, .int 0, .int 0, .ref 2, .ref 13, .ref 49, .int 0, .int (-1), .ref 85, .ref 86, .ref 92, .ref 112, .int 0, .ref 113]))) (g121 : h[121]? = some (.inl (13, [.ref 122, .ref 168, .int 0, .ref 214, .int 0, .int 0, .ref 215, .int 0, .ref 216, .ref 217, .int 0, .int 0, .int (-1), .ref 218, .ref 219, .ref 220, .ref 221, .ref 222, .ref 223, .int 0, .ref 224, .ref 225, .ref 226, .ref 227, .ref 228, .int 0, .ref 229, .ref 230, .ref 231, .ref 232, .ref 233, .ref 234, .ref 235, .ref 236, .ref 237, .ref 238, .int 0, .int 0, .int 0, .int 0, .long 0, .ref 239, .ref 240, .ref 241, .ref 242, .ref 243, .ref 244, .ref 245, .ref 246, .ref 247, .ref 248, .ref 249, .int 0, .int 0, .int 0, .int 0, .int 0, .int 0, .int 0, .int (-1), .int (-1), .int 0, .int 0, .int 0]))) : mi_ok (mi_fin N sl) mi_Γ (mi_ev [a0, a1, a2, a3, a4, a5]) 0 (18, [(3, .int 0), (2, .ref 121), (1, .ref 0), (0, .retAddr 0)], []) h sl := by
  refine mk_p (M := mG_0) (i := .iload_n 3) (len := 1) (f' := (19, [(3, .int 0), (2, .ref 121), (1, .ref 0), (0, .retAddr 0)], [.int 0])) mJ_0 (by decide +kernel) rfl ?_
  refine mk_p (M := mG_0) (i := .aload_n 0) (len := 1) (f' := (20, [(3, .int 0), (2, .ref 121), (1, .ref 0), (0, .retAddr 0)], [.retAddr 0, .int 0])) mJ_0 (by decide +kernel) rfl ?_
  refine mk_h (M := mG_0) (i := .arraylength) (len := 1) (f' := (21, [(3, .int 0), (2, .ref 121), (1, .ref 0), (0, .retAddr 0)], [.int 6, .int 0])) (h' := h) (sl' := sl) mJ_0 (by decide +kernel) rfl rfl ?_
  refine mk_v (M := mG_0) (i := .bipush 6) (len := 2) (pc' := 23) (v' := .int 6) (st' := [.int 6, .int 0]) mJ_0 (by decide +kernel) rfl (by decide +kernel) ?_
  refine mk_v (M := mG_0) (i := .isub) (len := 1) (pc' := 24) (v' := .int 0) (st' := [.int 0]) mJ_0 (by decide +kernel) rfl (by decide +kernel) ?_
  refine mk_f (M := mG_0) (i := .if_icmp .gt 657) (len := 3) (q := decide ((0 : Int32) < (0 : Int32))) (off := 657) (t := 681) (pc' := 27) (st' := []) mJ_0 (by decide +kernel) rfl (by decide +kernel) (by decide +kernel) rfl ?_
  refine mk_p (M := mG_0) (i := .aload_n 0) (len := 1) (f' := (28, [(3, .int 0), (2, .ref 121), (1, .ref 0), (0, .retAddr 0)], [.retAddr 0])) mJ_0 (by decide +kernel) rfl ?_
  refine mk_p (M := mG_0) (i := .iload_n 3) (len := 1) (f' := (29, [(3, .int 0), (2, .ref 121), (1, .ref 0), (0, .retAddr 0)], [.int 0, .retAddr 0])) mJ_0 (by decide +kernel) rfl ?_
  refine mk_h (M := mG_0) (i := .iaload) (len := 1) (f' := (30, [(3, .int 0), (2, .ref 121), (1, .ref 0), (0, .retAddr 0)], [.int a0])) (h' := h) (sl' := sl) mJ_0 (by decide +kernel) rfl (mh_ial (xs := [a0, a1, a2, a3, a4, a5]) (x := 0) rfl (show mi_in 0 6 = true by decide +kernel) rfl) ?_
  refine mk_v (M := mG_0) (i := .bipush 31) (len := 2) (pc' := 32) (v' := .int 31) (st' := [.int a0]) mJ_0 (by decide +kernel) rfl (by decide +kernel) ?_
  refine mk_p (M := mG_0) (i := .iand) (len := 1) (f' := (33, [(3, .int 0), (2, .ref 121), (1, .ref 0), (0, .retAddr 0)], [.int ((a0 &&& 31))])) mJ_0 (by decide +kernel) rfl ?_
  refine mk_s (M := mG_0) (len := 103) (dflt := 642) (lo := 0) (hi := 21) (offs := #[103, 166, 189, 202, 215, 238, 261, 285, 299, 332, 365, 398, 432, 475, 508, 531, 554, 567, 580, 593, 606, 629]) (X := 15) (t := 564) mJ_0 (by decide +kernel) hk (by decide +kernel) ?_
  refine mk_p (M := mG_0) (i := .aload_n 1) (len := 1) (f' := (565, [(3, .int 0), (2, .ref 121), (1, .ref 0), (0, .retAddr 0)], [.ref 0])) mJ_0 (by decide +kernel) rfl ?_
  refine mk_p (M := mG_0) (i := .aload_n 0) (len := 1) (f' := (566, [(3, .int 0), (2, .ref 121), (1, .ref 0), (0, .retAddr 0)], [.retAddr 0, .ref 0])) mJ_0 (by decide +kernel) rfl ?_
  refine mk_p (M := mG_0) (i := .iload_n 3) (len := 1) (f' := (567, [(3, .int 0), (2, .ref 121), (1, .ref 0), (0, .retAddr 0)], [.int 0, .retAddr 0, .ref 0])) mJ_0 (by decide +kernel) rfl ?_
  refine mk_v (M := mG_0) (i := .iconst 1) (len := 1) (pc' := 568) (v' := .int 1) (st' := [.int 0, .retAddr 0, .ref 0]) mJ_0 (by decide +kernel) rfl (by decide +kernel) ?_
  refine mk_v (M := mG_0) (i := .iadd) (len := 1) (pc' := 569) (v' := .int 1) (st' := [.retAddr 0, .ref 0]) mJ_0 (by decide +kernel) rfl (by decide +kernel) ?_
  refine mk_h (M := mG_0) (i := .iaload) (len := 1) (f' := (570, [(3, .int 0), (2, .ref 121), (1, .ref 0), (0, .retAddr 0)], [.int a1, .ref 0])) (h' := h) (sl' := sl) mJ_0 (by decide +kernel) rfl (mh_ial (xs := [a0, a1, a2, a3, a4, a5]) (x := 1) rfl (show mi_in 1 6 = true by decide +kernel) rfl) ?_
  refine mk_c (M := mG_0) (i := .invokevirtual 82) (len := 3) (M' := mG_45) (j' := 45) (as := [.ref 0, .int a1]) (rest := []) mJ_0 (by decide +kernel) rfl rfl rfl rfl (mh_virt (n := 1) (a := 0) (ci := 11) (by decide +kernel) rfl g0 (Nat.le_of_ble_eq_true rfl) rfl) mJ_45 (Nat.le_of_ble_eq_true rfl) (mi_pos g0) ?_
  show mi_ok _ mi_Γ (mi_ev [a0, a1, a2, a3, a4, a5]) 45 (0, [(0, .ref 0), (1, .int a1)], []) h sl
  refine mk_p (M := mG_45) (i := .aload_n 0) (len := 1) (f' := (1, [(0, .ref 0), (1, .int a1)], [.ref 0])) mJ_45 (by decide +kernel) rfl ?_
  refine mk_h (M := mG_45) (i := .getfield 108) (len := 3) (f' := (4, [(0, .ref 0), (1, .int a1)], [.int 0])) (h' := h) (sl' := sl) mJ_45 (by decide +kernel) rfl (mh_getf (ci := 11) (k := 6) (by decide +kernel) g0 rfl) ?_
  refine mk_t (M := mG_45) (i := .ifCond .eq 14) (len := 3) (q := decide ((0 : Int32) = (0 : Int32))) (off := 14) (t := 18) (st' := []) mJ_45 (by decide +kernel) rfl (by decide +kernel) (by decide +kernel) ?_
  refine mk_v (M := mG_45) (i := .iconst (-1)) (len := 1) (pc' := 19) (v' := .int (-1)) (st' := []) mJ_45 (by decide +kernel) rfl (by decide +kernel) ?_
  refine mk_r (M := mG_45) (i := .ireturn) (len := 1) (r := some (.int (-1))) mJ_45 (by decide +kernel) rfl rfl (by decide +kernel) ?_
  show mi_ok _ mi_Γ (mi_ev [a0, a1, a2, a3, a4, a5]) 0 (573, [(3, .int 0), (2, .ref 121), (1, .ref 0), (0, .retAddr 0)], [.int (-1)]) h sl
  refine mk_p (M := mG_0) (i := .aload_n 2) (len := 1) (f' := (574, [(3, .int 0), (2, .ref 121), (1, .ref 0), (0, .retAddr 0)], [.ref 121, .int (-1)])) mJ_0 (by decide +kernel) rfl ?_
  refine mk_p (M := mG_0) (i := .aload_n 0) (len := 1) (f' := (575, [(3, .int 0), (2, .ref 121), (1, .ref 0), (0, .retAddr 0)], [.retAddr 0, .ref 121, .int (-1)])) mJ_0 (by decide +kernel) rfl ?_
  refine mk_p (M := mG_0) (i := .iload_n 3) (len := 1) (f' := (576, [(3, .int 0), (2, .ref 121), (1, .ref 0), (0, .retAddr 0)], [.int 0, .retAddr 0, .ref 121, .int (-1)])) mJ_0 (by decide +kernel) rfl ?_
  refine mk_v (M := mG_0) (i := .iconst 1) (len := 1) (pc' := 577) (v' := .int 1) (st' := [.int 0, .retAddr 0, .ref 121, .int (-1)]) mJ_0 (by decide +kernel) rfl (by decide +kernel) ?_
  refine mk_v (M := mG_0) (i := .iadd) (len := 1) (pc' := 578) (v' := .int 1) (st' := [.retAddr 0, .ref 121, .int (-1)]) mJ_0 (by decide +kernel) rfl (by decide +kernel) ?_
  refine mk_h (M := mG_0) (i := .iaload) (len := 1) (f' := (579, [(3, .int 0), (2, .ref 121), (1, .ref 0), (0, .retAddr 0)], [.int a1, .ref 121, .int (-1)])) (h' := h) (sl' := sl) mJ_0 (by decide +kernel) rfl (mh_ial (xs := [a0, a1, a2, a3, a4, a5]) (x := 1) rfl (show mi_in 1 6 = true by decide +kernel) rfl) ?_
  refine mk_c (M := mG_0) (i := .invokevirtual 85) (len := 3) (M' := mG_78) (j' := 78) (as := [.ref 121, .int a1]) (rest := [.int (-1)]) mJ_0 (by decide +kernel) rfl rfl rfl rfl (mh_virt (n := 1) (a := 121) (ci := 13) (by decide +kernel) rfl g121 (Nat.le_of_ble_eq_true rfl) rfl) mJ_78 (Nat.le_of_ble_eq_true rfl) (mi_pos g121) ?_
  show mi_ok _ mi_Γ (mi_ev [a0, a1, a2, a3, a4, a5]) 78 (0, [(0, .ref 121), (1, .int a1)], []) h sl
  refine mk_p (M := mG_78) (i := .aload_n 0) (len := 1) (f' := (1, [(0, .ref 121), (1, .int a1)], [.ref 121])) mJ_78 (by decide +kernel) rfl ?_
  refine mk_h (M := mG_78) (i := .getfield 794) (len := 3) (f' := (4, [(0, .ref 121), (1, .int a1)], [.int 0])) (h' := h) (sl' := sl) mJ_78 (by decide +kernel) rfl (mh_getf (ci := 13) (k := 2) (by decide +kernel) g121 rfl) ?_
  refine mk_t (M := mG_78) (i := .ifCond .eq 14) (len := 3) (q := decide ((0 : Int32) = (0 : Int32))) (off := 14) (t := 18) (st' := []) mJ_78 (by decide +kernel) rfl (by decide +kernel) (by decide +kernel) ?_
  refine mk_v (M := mG_78) (i := .iconst (-1)) (len := 1) (pc' := 19) (v' := .int (-1)) (st' := []) mJ_78 (by decide +kernel) rfl (by decide +kernel) ?_
  refine mk_r (M := mG_78) (i := .ireturn) (len := 1) (r := some (.int (-1))) mJ_78 (by decide +kernel) rfl rfl (by decide +kernel) ?_
  show mi_ok _ mi_Γ (mi_ev [a0, a1, a2, a3, a4, a5]) 0 (582, [(3, .int 0), (2, .ref 121), (1, .ref 0), (0, .retAddr 0)], [.int (-1), .int (-1)]) h sl
  refine mk_t (M := mG_0) (i := .if_icmp .eq 93) (len := 3) (q := decide (((-1) : Int32) = ((-1) : Int32))) (off := 93) (t := 675) (st' := []) mJ_0 (by decide +kernel) rfl (by decide +kernel) (by decide +kernel) ?_
  refine mk_i (M := mG_0) (len := 3) (k := 3) (n := 6) (x := 0) (y := 6) (lv' := [(3, .int 6), (2, .ref 121), (1, .ref 0), (0, .retAddr 0)]) (pc' := 678) mJ_0 (by decide +kernel) rfl (by decide +kernel) (by decide +kernel) rfl rfl ?_
  refine mk_g (M := mG_0) (len := 3) (off := (-660)) (t := 18) mJ_0 (by decide +kernel) (by decide +kernel) ?_
  refine mk_p (M := mG_0) (i := .iload_n 3) (len := 1) (f' := (19, [(3, .int 6), (2, .ref 121), (1, .ref 0), (0, .retAddr 0)], [.int 6])) mJ_0 (by decide +kernel) rfl ?_
  refine mk_p (M := mG_0) (i := .aload_n 0) (len := 1) (f' := (20, [(3, .int 6), (2, .ref 121), (1, .ref 0), (0, .retAddr 0)], [.retAddr 0, .int 6])) mJ_0 (by decide +kernel) rfl ?_
  refine mk_h (M := mG_0) (i := .arraylength) (len := 1) (f' := (21, [(3, .int 6), (2, .ref 121), (1, .ref 0), (0, .retAddr 0)], [.int 6, .int 6])) (h' := h) (sl' := sl) mJ_0 (by decide +kernel) rfl rfl ?_
  refine mk_v (M := mG_0) (i := .bipush 6) (len := 2) (pc' := 23) (v' := .int 6) (st' := [.int 6, .int 6]) mJ_0 (by decide +kernel) rfl (by decide +kernel) ?_
  refine mk_v (M := mG_0) (i := .isub) (len := 1) (pc' := 24) (v' := .int 0) (st' := [.int 6]) mJ_0 (by decide +kernel) rfl (by decide +kernel) ?_
  refine mk_t (M := mG_0) (i := .if_icmp .gt 657) (len := 3) (q := decide ((0 : Int32) < (6 : Int32))) (off := 657) (t := 681) (st' := []) mJ_0 (by decide +kernel) rfl (by decide +kernel) (by decide +kernel) ?_
  refine mk_v (M := mG_0) (i := .iconst 1) (len := 1) (pc' := 682) (v' := .int 1) (st' := []) mJ_0 (by decide +kernel) rfl (by decide +kernel) ?_
  refine mk_r (M := mG_0) (i := .ireturn) (len := 1) (r := some (.int 1)) mJ_0 (by decide +kernel) rfl rfl (by decide +kernel) ?_
  exact ⟨rfl, hl, rfl⟩
set_option maxRecDepth 20000 in
theorem lw1_16 {N sl : Nat} {h : List mi_C} (a0 a1 a2 a3 a4 a5 : Int32) (hk : a0 &&& 31 = 16) (hl : h.length = N) (g0 : h[0]? = some (.inl (11, [.ref 1, .int 0, .int 0, .ref 2, .ref 13, .ref 49, .int 0, .int (-1), .ref 85, .ref 86, .ref 92, .ref 112, .int 0, .ref 113]))) (g113 : h[113]? = some (.inl (2, [.ref 92, .ref 49, .ref 114, .ref 115, .ref 116, .int 0, .ref 117, .ref 118, .int 0, .ref 119, .ref 112, .int 0, .int 0, .int 0, .int 0, .int (-1), .int (-1), .int 0, .ref 120, .int 0]))) (g121 : h[121]? = some (.inl (13, [.ref 122, .ref 168, .int 0, .ref 214, .int 0, .int 0, .ref 215, .int 0, .ref 216, .ref 217, .int 0, .int 0, .int (-1), .ref 218, .ref 219, .ref 220, .ref 221, .ref 222, .ref 223, .int 0, .ref 224, .ref 225, .ref 226, .ref 227, .ref 228, .int 0, .ref 229, .ref 230, .ref 231, .ref 232, .ref 233, .ref 234, .ref 235, .ref 236, .ref 237, .ref 238, .int 0, .int 0, .int 0, .int 0, .long 0, .ref 239, .ref 240, .ref 241, .ref 242, .ref 243, .ref 244, .ref 245, .ref 246, .ref 247, .ref 248, .ref 249, .int 0, .int 0, .int 0, .int 0, .int 0, .int 0, .int 0, .int (-1), .int (-1), .int 0, .int 0, .int 0]))) : mi_ok (mi_fin N sl) mi_Γ (mi_ev [a0, a1, a2, a3, a4, a5]) 0 (18, [(3, .int 0), (2, .ref 121), (1, .ref 0), (0, .retAddr 0)], []) h sl := by
  refine mk_p (M := mG_0) (i := .iload_n 3) (len := 1) (f' := (19, [(3, .int 0), (2, .ref 121), (1, .ref 0), (0, .retAddr 0)], [.int 0])) mJ_0 (by decide +kernel) rfl ?_
  refine mk_p (M := mG_0) (i := .aload_n 0) (len := 1) (f' := (20, [(3, .int 0), (2, .ref 121), (1, .ref 0), (0, .retAddr 0)], [.retAddr 0, .int 0])) mJ_0 (by decide +kernel) rfl ?_
  refine mk_h (M := mG_0) (i := .arraylength) (len := 1) (f' := (21, [(3, .int 0), (2, .ref 121), (1, .ref 0), (0, .retAddr 0)], [.int 6, .int 0])) (h' := h) (sl' := sl) mJ_0 (by decide +kernel) rfl rfl ?_
  refine mk_v (M := mG_0) (i := .bipush 6) (len := 2) (pc' := 23) (v' := .int 6) (st' := [.int 6, .int 0]) mJ_0 (by decide +kernel) rfl (by decide +kernel) ?_
  refine mk_v (M := mG_0) (i := .isub) (len := 1) (pc' := 24) (v' := .int 0) (st' := [.int 0]) mJ_0 (by decide +kernel) rfl (by decide +kernel) ?_
  refine mk_f (M := mG_0) (i := .if_icmp .gt 657) (len := 3) (q := decide ((0 : Int32) < (0 : Int32))) (off := 657) (t := 681) (pc' := 27) (st' := []) mJ_0 (by decide +kernel) rfl (by decide +kernel) (by decide +kernel) rfl ?_
  refine mk_p (M := mG_0) (i := .aload_n 0) (len := 1) (f' := (28, [(3, .int 0), (2, .ref 121), (1, .ref 0), (0, .retAddr 0)], [.retAddr 0])) mJ_0 (by decide +kernel) rfl ?_
  refine mk_p (M := mG_0) (i := .iload_n 3) (len := 1) (f' := (29, [(3, .int 0), (2, .ref 121), (1, .ref 0), (0, .retAddr 0)], [.int 0, .retAddr 0])) mJ_0 (by decide +kernel) rfl ?_
  refine mk_h (M := mG_0) (i := .iaload) (len := 1) (f' := (30, [(3, .int 0), (2, .ref 121), (1, .ref 0), (0, .retAddr 0)], [.int a0])) (h' := h) (sl' := sl) mJ_0 (by decide +kernel) rfl (mh_ial (xs := [a0, a1, a2, a3, a4, a5]) (x := 0) rfl (show mi_in 0 6 = true by decide +kernel) rfl) ?_
  refine mk_v (M := mG_0) (i := .bipush 31) (len := 2) (pc' := 32) (v' := .int 31) (st' := [.int a0]) mJ_0 (by decide +kernel) rfl (by decide +kernel) ?_
  refine mk_p (M := mG_0) (i := .iand) (len := 1) (f' := (33, [(3, .int 0), (2, .ref 121), (1, .ref 0), (0, .retAddr 0)], [.int ((a0 &&& 31))])) mJ_0 (by decide +kernel) rfl ?_
  refine mk_s (M := mG_0) (len := 103) (dflt := 642) (lo := 0) (hi := 21) (offs := #[103, 166, 189, 202, 215, 238, 261, 285, 299, 332, 365, 398, 432, 475, 508, 531, 554, 567, 580, 593, 606, 629]) (X := 16) (t := 587) mJ_0 (by decide +kernel) hk (by decide +kernel) ?_
  refine mk_p (M := mG_0) (i := .aload_n 1) (len := 1) (f' := (588, [(3, .int 0), (2, .ref 121), (1, .ref 0), (0, .retAddr 0)], [.ref 0])) mJ_0 (by decide +kernel) rfl ?_
  refine mk_c (M := mG_0) (i := .invokevirtual 86) (len := 3) (M' := mG_49) (j' := 49) (as := [.ref 0]) (rest := []) mJ_0 (by decide +kernel) rfl rfl rfl rfl (mh_virt (n := 0) (a := 0) (ci := 11) (by decide +kernel) rfl g0 (Nat.le_of_ble_eq_true rfl) rfl) mJ_49 (Nat.le_of_ble_eq_true rfl) (mi_pos g0) ?_
  show mi_ok _ mi_Γ (mi_ev [a0, a1, a2, a3, a4, a5]) 49 (0, [(0, .ref 0)], []) h sl
  refine mk_p (M := mG_49) (i := .aload_n 0) (len := 1) (f' := (1, [(0, .ref 0)], [.ref 0])) mJ_49 (by decide +kernel) rfl ?_
  refine mk_h (M := mG_49) (i := .getfield 68) (len := 3) (f' := (4, [(0, .ref 0)], [.ref 113])) (h' := h) (sl' := sl) mJ_49 (by decide +kernel) rfl (mh_getf (ci := 11) (k := 13) (by decide +kernel) g0 rfl) ?_
  refine mk_h (M := mG_49) (i := .getfield 237) (len := 3) (f' := (7, [(0, .ref 0)], [.int 0])) (h' := h) (sl' := sl) mJ_49 (by decide +kernel) rfl (mh_getf (ci := 2) (k := 14) (by decide +kernel) g113 rfl) ?_
  refine mk_r (M := mG_49) (i := .ireturn) (len := 1) (r := some (.int 0)) mJ_49 (by decide +kernel) rfl rfl (by decide +kernel) ?_
  show mi_ok _ mi_Γ (mi_ev [a0, a1, a2, a3, a4, a5]) 0 (591, [(3, .int 0), (2, .ref 121), (1, .ref 0), (0, .retAddr 0)], [.int 0]) h sl
  refine mk_p (M := mG_0) (i := .aload_n 2) (len := 1) (f' := (592, [(3, .int 0), (2, .ref 121), (1, .ref 0), (0, .retAddr 0)], [.ref 121, .int 0])) mJ_0 (by decide +kernel) rfl ?_
  refine mk_c (M := mG_0) (i := .invokevirtual 89) (len := 3) (M' := mG_83) (j' := 83) (as := [.ref 121]) (rest := [.int 0]) mJ_0 (by decide +kernel) rfl rfl rfl rfl (mh_virt (n := 0) (a := 121) (ci := 13) (by decide +kernel) rfl g121 (Nat.le_of_ble_eq_true rfl) rfl) mJ_83 (Nat.le_of_ble_eq_true rfl) (mi_pos g121) ?_
  show mi_ok _ mi_Γ (mi_ev [a0, a1, a2, a3, a4, a5]) 83 (0, [(0, .ref 121)], []) h sl
  refine mk_p (M := mG_83) (i := .aload_n 0) (len := 1) (f' := (1, [(0, .ref 121)], [.ref 121])) mJ_83 (by decide +kernel) rfl ?_
  refine mk_h (M := mG_83) (i := .getfield 820) (len := 3) (f' := (4, [(0, .ref 121)], [.int 0])) (h' := h) (sl' := sl) mJ_83 (by decide +kernel) rfl (mh_getf (ci := 13) (k := 58) (by decide +kernel) g121 rfl) ?_
  refine mk_r (M := mG_83) (i := .ireturn) (len := 1) (r := some (.int 0)) mJ_83 (by decide +kernel) rfl rfl (by decide +kernel) ?_
  show mi_ok _ mi_Γ (mi_ev [a0, a1, a2, a3, a4, a5]) 0 (595, [(3, .int 0), (2, .ref 121), (1, .ref 0), (0, .retAddr 0)], [.int 0, .int 0]) h sl
  refine mk_t (M := mG_0) (i := .if_icmp .eq 80) (len := 3) (q := decide ((0 : Int32) = (0 : Int32))) (off := 80) (t := 675) (st' := []) mJ_0 (by decide +kernel) rfl (by decide +kernel) (by decide +kernel) ?_
  refine mk_i (M := mG_0) (len := 3) (k := 3) (n := 6) (x := 0) (y := 6) (lv' := [(3, .int 6), (2, .ref 121), (1, .ref 0), (0, .retAddr 0)]) (pc' := 678) mJ_0 (by decide +kernel) rfl (by decide +kernel) (by decide +kernel) rfl rfl ?_
  refine mk_g (M := mG_0) (len := 3) (off := (-660)) (t := 18) mJ_0 (by decide +kernel) (by decide +kernel) ?_
  refine mk_p (M := mG_0) (i := .iload_n 3) (len := 1) (f' := (19, [(3, .int 6), (2, .ref 121), (1, .ref 0), (0, .retAddr 0)], [.int 6])) mJ_0 (by decide +kernel) rfl ?_
  refine mk_p (M := mG_0) (i := .aload_n 0) (len := 1) (f' := (20, [(3, .int 6), (2, .ref 121), (1, .ref 0), (0, .retAddr 0)], [.retAddr 0, .int 6])) mJ_0 (by decide +kernel) rfl ?_
  refine mk_h (M := mG_0) (i := .arraylength) (len := 1) (f' := (21, [(3, .int 6), (2, .ref 121), (1, .ref 0), (0, .retAddr 0)], [.int 6, .int 6])) (h' := h) (sl' := sl) mJ_0 (by decide +kernel) rfl rfl ?_
  refine mk_v (M := mG_0) (i := .bipush 6) (len := 2) (pc' := 23) (v' := .int 6) (st' := [.int 6, .int 6]) mJ_0 (by decide +kernel) rfl (by decide +kernel) ?_
  refine mk_v (M := mG_0) (i := .isub) (len := 1) (pc' := 24) (v' := .int 0) (st' := [.int 6]) mJ_0 (by decide +kernel) rfl (by decide +kernel) ?_
  refine mk_t (M := mG_0) (i := .if_icmp .gt 657) (len := 3) (q := decide ((0 : Int32) < (6 : Int32))) (off := 657) (t := 681) (st' := []) mJ_0 (by decide +kernel) rfl (by decide +kernel) (by decide +kernel) ?_
  refine mk_v (M := mG_0) (i := .iconst 1) (len := 1) (pc' := 682) (v' := .int 1) (st' := []) mJ_0 (by decide +kernel) rfl (by decide +kernel) ?_
  refine mk_r (M := mG_0) (i := .ireturn) (len := 1) (r := some (.int 1)) mJ_0 (by decide +kernel) rfl rfl (by decide +kernel) ?_
  exact ⟨rfl, hl, rfl⟩
set_option maxRecDepth 20000 in
theorem lw1_17 {N sl : Nat} {h : List mi_C} (a0 a1 a2 a3 a4 a5 : Int32) (hk : a0 &&& 31 = 17) (hl : h.length = N) (g0 : h[0]? = some (.inl (11, [.ref 1, .int 0, .int 0, .ref 2, .ref 13, .ref 49, .int 0, .int (-1), .ref 85, .ref 86, .ref 92, .ref 112, .int 0, .ref 113]))) (g113 : h[113]? = some (.inl (2, [.ref 92, .ref 49, .ref 114, .ref 115, .ref 116, .int 0, .ref 117, .ref 118, .int 0, .ref 119, .ref 112, .int 0, .int 0, .int 0, .int 0, .int (-1), .int (-1), .int 0, .ref 120, .int 0]))) (g121 : h[121]? = some (.inl (13, [.ref 122, .ref 168, .int 0, .ref 214, .int 0, .int 0, .ref 215, .int 0, .ref 216, .ref 217, .int 0, .int 0, .int (-1), .ref 218, .ref 219, .ref 220, .ref 221, .ref 222, .ref 223, .int 0, .ref 224, .ref 225, .ref 226, .ref 227, .ref 228, .int 0, .ref 229, .ref 230, .ref 231, .ref 232, .ref 233, .ref 234, .ref 235, .ref 236, .ref 237, .ref 238, .int 0, .int 0, .int 0, .int 0, .long 0, .ref 239, .ref 240, .ref 241, .ref 242, .ref 243, .ref 244, .ref 245, .ref 246, .ref 247, .ref 248, .ref 249, .int 0, .int 0, .int 0, .int 0, .int 0, .int 0, .int 0, .int (-1), .int (-1), .int 0, .int 0, .int 0]))) : mi_ok (mi_fin N sl) mi_Γ (mi_ev [a0, a1, a2, a3, a4, a5]) 0 (18, [(3, .int 0), (2, .ref 121), (1, .ref 0), (0, .retAddr 0)], []) h sl := by
  refine mk_p (M := mG_0) (i := .iload_n 3) (len := 1) (f' := (19, [(3, .int 0), (2, .ref 121), (1, .ref 0), (0, .retAddr 0)], [.int 0])) mJ_0 (by decide +kernel) rfl ?_
  refine mk_p (M := mG_0) (i := .aload_n 0) (len := 1) (f' := (20, [(3, .int 0), (2, .ref 121), (1, .ref 0), (0, .retAddr 0)], [.retAddr 0, .int 0])) mJ_0 (by decide +kernel) rfl ?_
  refine mk_h (M := mG_0) (i := .arraylength) (len := 1) (f' := (21, [(3, .int 0), (2, .ref 121), (1, .ref 0), (0, .retAddr 0)], [.int 6, .int 0])) (h' := h) (sl' := sl) mJ_0 (by decide +kernel) rfl rfl ?_
  refine mk_v (M := mG_0) (i := .bipush 6) (len := 2) (pc' := 23) (v' := .int 6) (st' := [.int 6, .int 0]) mJ_0 (by decide +kernel) rfl (by decide +kernel) ?_
  refine mk_v (M := mG_0) (i := .isub) (len := 1) (pc' := 24) (v' := .int 0) (st' := [.int 0]) mJ_0 (by decide +kernel) rfl (by decide +kernel) ?_
  refine mk_f (M := mG_0) (i := .if_icmp .gt 657) (len := 3) (q := decide ((0 : Int32) < (0 : Int32))) (off := 657) (t := 681) (pc' := 27) (st' := []) mJ_0 (by decide +kernel) rfl (by decide +kernel) (by decide +kernel) rfl ?_
  refine mk_p (M := mG_0) (i := .aload_n 0) (len := 1) (f' := (28, [(3, .int 0), (2, .ref 121), (1, .ref 0), (0, .retAddr 0)], [.retAddr 0])) mJ_0 (by decide +kernel) rfl ?_
  refine mk_p (M := mG_0) (i := .iload_n 3) (len := 1) (f' := (29, [(3, .int 0), (2, .ref 121), (1, .ref 0), (0, .retAddr 0)], [.int 0, .retAddr 0])) mJ_0 (by decide +kernel) rfl ?_
  refine mk_h (M := mG_0) (i := .iaload) (len := 1) (f' := (30, [(3, .int 0), (2, .ref 121), (1, .ref 0), (0, .retAddr 0)], [.int a0])) (h' := h) (sl' := sl) mJ_0 (by decide +kernel) rfl (mh_ial (xs := [a0, a1, a2, a3, a4, a5]) (x := 0) rfl (show mi_in 0 6 = true by decide +kernel) rfl) ?_
  refine mk_v (M := mG_0) (i := .bipush 31) (len := 2) (pc' := 32) (v' := .int 31) (st' := [.int a0]) mJ_0 (by decide +kernel) rfl (by decide +kernel) ?_
  refine mk_p (M := mG_0) (i := .iand) (len := 1) (f' := (33, [(3, .int 0), (2, .ref 121), (1, .ref 0), (0, .retAddr 0)], [.int ((a0 &&& 31))])) mJ_0 (by decide +kernel) rfl ?_
  refine mk_s (M := mG_0) (len := 103) (dflt := 642) (lo := 0) (hi := 21) (offs := #[103, 166, 189, 202, 215, 238, 261, 285, 299, 332, 365, 398, 432, 475, 508, 531, 554, 567, 580, 593, 606, 629]) (X := 17) (t := 600) mJ_0 (by decide +kernel) hk (by decide +kernel) ?_
  refine mk_p (M := mG_0) (i := .aload_n 1) (len := 1) (f' := (601, [(3, .int 0), (2, .ref 121), (1, .ref 0), (0, .retAddr 0)], [.ref 0])) mJ_0 (by decide +kernel) rfl ?_
  refine mk_c (M := mG_0) (i := .invokevirtual 90) (len := 3) (M' := mG_44) (j' := 44) (as := [.ref 0]) (rest := []) mJ_0 (by decide +kernel) rfl rfl rfl rfl (mh_virt (n := 0) (a := 0) (ci := 11) (by decide +kernel) rfl g0 (Nat.le_of_ble_eq_true rfl) rfl) mJ_44 (Nat.le_of_ble_eq_true rfl) (mi_pos g0) ?_
  show mi_ok _ mi_Γ (mi_ev [a0, a1, a2, a3, a4, a5]) 44 (0, [(0, .ref 0)], []) h sl
  refine mk_p (M := mG_44) (i := .aload_n 0) (len := 1) (f' := (1, [(0, .ref 0)], [.ref 0])) mJ_44 (by decide +kernel) rfl ?_
  refine mk_h (M := mG_44) (i := .getfield 68) (len := 3) (f' := (4, [(0, .ref 0)], [.ref 113])) (h' := h) (sl' := sl) mJ_44 (by decide +kernel) rfl (mh_getf (ci := 11) (k := 13) (by decide +kernel) g0 rfl) ?_
  refine mk_h (M := mG_44) (i := .getfield 240) (len := 3) (f' := (7, [(0, .ref 0)], [.int (-1)])) (h' := h) (sl' := sl) mJ_44 (by decide +kernel) rfl (mh_getf (ci := 2) (k := 15) (by decide +kernel) g113 rfl) ?_
  refine mk_r (M := mG_44) (i := .ireturn) (len := 1) (r := some (.int (-1))) mJ_44 (by decide +kernel) rfl rfl (by decide +kernel) ?_
  show mi_ok _ mi_Γ (mi_ev [a0, a1, a2, a3, a4, a5]) 0 (604, [(3, .int 0), (2, .ref 121), (1, .ref 0), (0, .retAddr 0)], [.int (-1)]) h sl
  refine mk_p (M := mG_0) (i := .aload_n 2) (len := 1) (f' := (605, [(3, .int 0), (2, .ref 121), (1, .ref 0), (0, .retAddr 0)], [.ref 121, .int (-1)])) mJ_0 (by decide +kernel) rfl ?_
  refine mk_c (M := mG_0) (i := .invokevirtual 93) (len := 3) (M' := mG_77) (j' := 77) (as := [.ref 121]) (rest := [.int (-1)]) mJ_0 (by decide +kernel) rfl rfl rfl rfl (mh_virt (n := 0) (a := 121) (ci := 13) (by decide +kernel) rfl g121 (Nat.le_of_ble_eq_true rfl) rfl) mJ_77 (Nat.le_of_ble_eq_true rfl) (mi_pos g121) ?_
  show mi_ok _ mi_Γ (mi_ev [a0, a1, a2, a3, a4, a5]) 77 (0, [(0, .ref 121)], []) h sl
  refine mk_p (M := mG_77) (i := .aload_n 0) (len := 1) (f' := (1, [(0, .ref 121)], [.ref 121])) mJ_77 (by decide +kernel) rfl ?_
  refine mk_h (M := mG_77) (i := .getfield 135) (len := 3) (f' := (4, [(0, .ref 121)], [.int (-1)])) (h' := h) (sl' := sl) mJ_77 (by decide +kernel) rfl (mh_getf (ci := 13) (k := 59) (by decide +kernel) g121 rfl) ?_
  refine mk_r (M := mG_77) (i := .ireturn) (len := 1) (r := some (.int (-1))) mJ_77 (by decide +kernel) rfl rfl (by decide +kernel) ?_
  show mi_ok _ mi_Γ (mi_ev [a0, a1, a2, a3, a4, a5]) 0 (608, [(3, .int 0), (2, .ref 121), (1, .ref 0), (0, .retAddr 0)], [.int (-1), .int (-1)]) h sl
  refine mk_t (M := mG_0) (i := .if_icmp .eq 67) (len := 3) (q := decide (((-1) : Int32) = ((-1) : Int32))) (off := 67) (t := 675) (st' := []) mJ_0 (by decide +kernel) rfl (by decide +kernel) (by decide +kernel) ?_
  refine mk_i (M := mG_0) (len := 3) (k := 3) (n := 6) (x := 0) (y := 6) (lv' := [(3, .int 6), (2, .ref 121), (1, .ref 0), (0, .retAddr 0)]) (pc' := 678) mJ_0 (by decide +kernel) rfl (by decide +kernel) (by decide +kernel) rfl rfl ?_
  refine mk_g (M := mG_0) (len := 3) (off := (-660)) (t := 18) mJ_0 (by decide +kernel) (by decide +kernel) ?_
  refine mk_p (M := mG_0) (i := .iload_n 3) (len := 1) (f' := (19, [(3, .int 6), (2, .ref 121), (1, .ref 0), (0, .retAddr 0)], [.int 6])) mJ_0 (by decide +kernel) rfl ?_
  refine mk_p (M := mG_0) (i := .aload_n 0) (len := 1) (f' := (20, [(3, .int 6), (2, .ref 121), (1, .ref 0), (0, .retAddr 0)], [.retAddr 0, .int 6])) mJ_0 (by decide +kernel) rfl ?_
  refine mk_h (M := mG_0) (i := .arraylength) (len := 1) (f' := (21, [(3, .int 6), (2, .ref 121), (1, .ref 0), (0, .retAddr 0)], [.int 6, .int 6])) (h' := h) (sl' := sl) mJ_0 (by decide +kernel) rfl rfl ?_
  refine mk_v (M := mG_0) (i := .bipush 6) (len := 2) (pc' := 23) (v' := .int 6) (st' := [.int 6, .int 6]) mJ_0 (by decide +kernel) rfl (by decide +kernel) ?_
  refine mk_v (M := mG_0) (i := .isub) (len := 1) (pc' := 24) (v' := .int 0) (st' := [.int 6]) mJ_0 (by decide +kernel) rfl (by decide +kernel) ?_
  refine mk_t (M := mG_0) (i := .if_icmp .gt 657) (len := 3) (q := decide ((0 : Int32) < (6 : Int32))) (off := 657) (t := 681) (st' := []) mJ_0 (by decide +kernel) rfl (by decide +kernel) (by decide +kernel) ?_
  refine mk_v (M := mG_0) (i := .iconst 1) (len := 1) (pc' := 682) (v' := .int 1) (st' := []) mJ_0 (by decide +kernel) rfl (by decide +kernel) ?_
  refine mk_r (M := mG_0) (i := .ireturn) (len := 1) (r := some (.int 1)) mJ_0 (by decide +kernel) rfl rfl (by decide +kernel) ?_
  exact ⟨rfl, hl, rfl⟩
set_option maxRecDepth 20000 in
theorem lw1_18 {N sl : Nat} {h : List mi_C} (a0 a1 a2 a3 a4 a5 : Int32) (hk : a0 &&& 31 = 18) (hl : h.length = N) (g0 : h[0]? = some (.inl (11, [.ref 1, .int 0, .int 0, .ref 2, .ref 13, .ref 49, .int 0, .int (-1), .ref 85, .ref 86, .ref 92, .ref 112, .int 0, .ref 113]))) (g113 : h[113]? = some (.inl (2, [.ref 92, .ref 49, .ref 114, .ref 115, .ref 116, .int 0, .ref 117, .ref 118, .int 0, .ref 119, .ref 112, .int 0, .int 0, .int 0, .int 0, .int (-1), .int (-1), .int 0, .ref 120, .int 0]))) (g121 : h[121]? = some (.inl (13, [.ref 122, .ref 168, .int 0, .ref 214, .int 0, .int 0, .ref 215, .int 0, .ref 216, .ref 217, .int 0, .int 0, .int (-1), .ref 218, .ref 219, .ref 220, .ref 221, .ref 222, .ref 223, .int 0, .ref 224, .ref 225, .ref 226, .ref 227, .ref 228, .int 0, .ref 229, .ref 230, .ref 231, .ref 232, .ref 233, .ref 234, .ref 235, .ref 236, .ref 237, .ref 238, .int 0, .int 0, .int 0, .int 0, .long 0, .ref 239, .ref 240, .ref 241, .ref 242, .ref 243, .ref 244, .ref 245, .ref 246, .ref 247, .ref 248, .ref 249, .int 0, .int 0, .int 0, .int 0, .int 0, .int 0, .int 0, .int (-1), .int (-1), .int 0, .int 0, .int 0]))) : mi_ok (mi_fin N sl) mi_Γ (mi_ev [a0, a1, a2, a3, a4, a5]) 0 (18, [(3, .int 0), (2, .ref 121), (1, .ref 0), (0, .retAddr 0)], []) h sl := by
  refine mk_p (M := mG_0) (i := .iload_n 3) (len := 1) (f' := (19, [(3, .int 0), (2, .ref 121), (1, .ref 0), (0, .retAddr 0)], [.int 0])) mJ_0 (by decide +kernel) rfl ?_
  refine mk_p (M := mG_0) (i := .aload_n 0) (len := 1) (f' := (20, [(3, .int 0), (2, .ref 121), (1, .ref 0), (0, .retAddr 0)], [.retAddr 0, .int 0])) mJ_0 (by decide +kernel) rfl ?_
  refine mk_h (M := mG_0) (i := .arraylength) (len := 1) (f' := (21, [(3, .int 0), (2, .ref 121), (1, .ref 0), (0, .retAddr 0)], [.int 6, .int 0])) (h' := h) (sl' := sl) mJ_0 (by decide +kernel) rfl rfl ?_
  refine mk_v (M := mG_0) (i := .bipush 6) (len := 2) (pc' := 23) (v' := .int 6) (st' := [.int 6, .int 0]) mJ_0 (by decide +kernel) rfl (by decide +kernel) ?_
  refine mk_v (M := mG_0) (i := .isub) (len := 1) (pc' := 24) (v' := .int 0) (st' := [.int 0]) mJ_0 (by decide +kernel) rfl (by decide +kernel) ?_
  refine mk_f (M := mG_0) (i := .if_icmp .gt 657) (len := 3) (q := decide ((0 : Int32) < (0 : Int32))) (off := 657) (t := 681) (pc' := 27) (st' := []) mJ_0 (by decide +kernel) rfl (by decide +kernel) (by decide +kernel) rfl ?_
  refine mk_p (M := mG_0) (i := .aload_n 0) (len := 1) (f' := (28, [(3, .int 0), (2, .ref 121), (1, .ref 0), (0, .retAddr 0)], [.retAddr 0])) mJ_0 (by decide +kernel) rfl ?_
  refine mk_p (M := mG_0) (i := .iload_n 3) (len := 1) (f' := (29, [(3, .int 0), (2, .ref 121), (1, .ref 0), (0, .retAddr 0)], [.int 0, .retAddr 0])) mJ_0 (by decide +kernel) rfl ?_
  refine mk_h (M := mG_0) (i := .iaload) (len := 1) (f' := (30, [(3, .int 0), (2, .ref 121), (1, .ref 0), (0, .retAddr 0)], [.int a0])) (h' := h) (sl' := sl) mJ_0 (by decide +kernel) rfl (mh_ial (xs := [a0, a1, a2, a3, a4, a5]) (x := 0) rfl (show mi_in 0 6 = true by decide +kernel) rfl) ?_
  refine mk_v (M := mG_0) (i := .bipush 31) (len := 2) (pc' := 32) (v' := .int 31) (st' := [.int a0]) mJ_0 (by decide +kernel) rfl (by decide +kernel) ?_
  refine mk_p (M := mG_0) (i := .iand) (len := 1) (f' := (33, [(3, .int 0), (2, .ref 121), (1, .ref 0), (0, .retAddr 0)], [.int ((a0 &&& 31))])) mJ_0 (by decide +kernel) rfl ?_
  refine mk_s (M := mG_0) (len := 103) (dflt := 642) (lo := 0) (hi := 21) (offs := #[103, 166, 189, 202, 215, 238, 261, 285, 299, 332, 365, 398, 432, 475, 508, 531, 554, 567, 580, 593, 606, 629]) (X := 18) (t := 613) mJ_0 (by decide +kernel) hk (by decide +kernel) ?_
  refine mk_p (M := mG_0) (i := .aload_n 1) (len := 1) (f' := (614, [(3, .int 0), (2, .ref 121), (1, .ref 0), (0, .retAddr 0)], [.ref 0])) mJ_0 (by decide +kernel) rfl ?_
  refine mk_c (M := mG_0) (i := .invokevirtual 94) (len := 3) (M' := mG_51) (j' := 51) (as := [.ref 0]) (rest := []) mJ_0 (by decide +kernel) rfl rfl rfl rfl (mh_virt (n := 0) (a := 0) (ci := 11) (by decide +kernel) rfl g0 (Nat.le_of_ble_eq_true rfl) rfl) mJ_51 (Nat.le_of_ble_eq_true rfl) (mi_pos g0) ?_
  show mi_ok _ mi_Γ (mi_ev [a0, a1, a2, a3, a4, a5]) 51 (0, [(0, .ref 0)], []) h sl
  refine mk_p (M := mG_51) (i := .aload_n 0) (len := 1) (f' := (1, [(0, .ref 0)], [.ref 0])) mJ_51 (by decide +kernel) rfl ?_
  refine mk_h (M := mG_51) (i := .getfield 68) (len := 3) (f' := (4, [(0, .ref 0)], [.ref 113])) (h' := h) (sl' := sl) mJ_51 (by decide +kernel) rfl (mh_getf (ci := 11) (k := 13) (by decide +kernel) g0 rfl) ?_
  refine mk_h (M := mG_51) (i := .getfield 243) (len := 3) (f' := (7, [(0, .ref 0)], [.int (-1)])) (h' := h) (sl' := sl) mJ_51 (by decide +kernel) rfl (mh_getf (ci := 2) (k := 16) (by decide +kernel) g113 rfl) ?_
  refine mk_r (M := mG_51) (i := .ireturn) (len := 1) (r := some (.int (-1))) mJ_51 (by decide +kernel) rfl rfl (by decide +kernel) ?_
  show mi_ok _ mi_Γ (mi_ev [a0, a1, a2, a3, a4, a5]) 0 (617, [(3, .int 0), (2, .ref 121), (1, .ref 0), (0, .retAddr 0)], [.int (-1)]) h sl
  refine mk_p (M := mG_0) (i := .aload_n 2) (len := 1) (f' := (618, [(3, .int 0), (2, .ref 121), (1, .ref 0), (0, .retAddr 0)], [.ref 121, .int (-1)])) mJ_0 (by decide +kernel) rfl ?_
  refine mk_c (M := mG_0) (i := .invokevirtual 97) (len := 3) (M' := mG_86) (j' := 86) (as := [.ref 121]) (rest := [.int (-1)]) mJ_0 (by decide +kernel) rfl rfl rfl rfl (mh_virt (n := 0) (a := 121) (ci := 13) (by decide +kernel) rfl g121 (Nat.le_of_ble_eq_true rfl) rfl) mJ_86 (Nat.le_of_ble_eq_true rfl) (mi_pos g121) ?_
  show mi_ok _ mi_Γ (mi_ev [a0, a1, a2, a3, a4, a5]) 86 (0, [(0, .ref 121)], []) h sl
  refine mk_p (M := mG_86) (i := .aload_n 0) (len := 1) (f' := (1, [(0, .ref 121)], [.ref 121])) mJ_86 (by decide +kernel) rfl ?_
  refine mk_h (M := mG_86) (i := .getfield 138) (len := 3) (f' := (4, [(0, .ref 121)], [.int (-1)])) (h' := h) (sl' := sl) mJ_86 (by decide +kernel) rfl (mh_getf (ci := 13) (k := 60) (by decide +kernel) g121 rfl) ?_
  refine mk_r (M := mG_86) (i := .ireturn) (len := 1) (r := some (.int (-1))) mJ_86 (by decide +kernel) rfl rfl (by decide +kernel) ?_
  show mi_ok _ mi_Γ (mi_ev [a0, a1, a2, a3, a4, a5]) 0 (621, [(3, .int 0), (2, .ref 121), (1, .ref 0), (0, .retAddr 0)], [.int (-1), .int (-1)]) h sl
  refine mk_t (M := mG_0) (i := .if_icmp .eq 54) (len := 3) (q := decide (((-1) : Int32) = ((-1) : Int32))) (off := 54) (t := 675) (st' := []) mJ_0 (by decide +kernel) rfl (by decide +kernel) (by decide +kernel) ?_
  refine mk_i (M := mG_0) (len := 3) (k := 3) (n := 6) (x := 0) (y := 6) (lv' := [(3, .int 6), (2, .ref 121), (1, .ref 0), (0, .retAddr 0)]) (pc' := 678) mJ_0 (by decide +kernel) rfl (by decide +kernel) (by decide +kernel) rfl rfl ?_
  refine mk_g (M := mG_0) (len := 3) (off := (-660)) (t := 18) mJ_0 (by decide +kernel) (by decide +kernel) ?_
  refine mk_p (M := mG_0) (i := .iload_n 3) (len := 1) (f' := (19, [(3, .int 6), (2, .ref 121), (1, .ref 0), (0, .retAddr 0)], [.int 6])) mJ_0 (by decide +kernel) rfl ?_
  refine mk_p (M := mG_0) (i := .aload_n 0) (len := 1) (f' := (20, [(3, .int 6), (2, .ref 121), (1, .ref 0), (0, .retAddr 0)], [.retAddr 0, .int 6])) mJ_0 (by decide +kernel) rfl ?_
  refine mk_h (M := mG_0) (i := .arraylength) (len := 1) (f' := (21, [(3, .int 6), (2, .ref 121), (1, .ref 0), (0, .retAddr 0)], [.int 6, .int 6])) (h' := h) (sl' := sl) mJ_0 (by decide +kernel) rfl rfl ?_
  refine mk_v (M := mG_0) (i := .bipush 6) (len := 2) (pc' := 23) (v' := .int 6) (st' := [.int 6, .int 6]) mJ_0 (by decide +kernel) rfl (by decide +kernel) ?_
  refine mk_v (M := mG_0) (i := .isub) (len := 1) (pc' := 24) (v' := .int 0) (st' := [.int 6]) mJ_0 (by decide +kernel) rfl (by decide +kernel) ?_
  refine mk_t (M := mG_0) (i := .if_icmp .gt 657) (len := 3) (q := decide ((0 : Int32) < (6 : Int32))) (off := 657) (t := 681) (st' := []) mJ_0 (by decide +kernel) rfl (by decide +kernel) (by decide +kernel) ?_
  refine mk_v (M := mG_0) (i := .iconst 1) (len := 1) (pc' := 682) (v' := .int 1) (st' := []) mJ_0 (by decide +kernel) rfl (by decide +kernel) ?_
  refine mk_r (M := mG_0) (i := .ireturn) (len := 1) (r := some (.int 1)) mJ_0 (by decide +kernel) rfl rfl (by decide +kernel) ?_
  exact ⟨rfl, hl, rfl⟩
set_option maxRecDepth 20000 in
theorem lw1_19 {N sl : Nat} {h : List mi_C} (a0 a1 a2 a3 a4 a5 : Int32) (hk : a0 &&& 31 = 19) (hl : h.length = N) (g0 : h[0]? = some (.inl (11, [.ref 1, .int 0, .int 0, .ref 2, .ref 13, .ref 49, .int 0, .int (-1), .ref 85, .ref 86, .ref 92, .ref 112, .int 0, .ref 113]))) (g113 : h[113]? = some (.inl (2, [.ref 92, .ref 49, .ref 114, .ref 115, .ref 116, .int 0, .ref 117, .ref 118, .int 0, .ref 119, .ref 112, .int 0, .int 0, .int 0, .int 0, .int (-1), .int (-1), .int 0, .ref 120, .int 0]))) (g121 : h[121]? = some (.inl (13, [.ref 122, .ref 168, .int 0, .ref 214, .int 0, .int 0, .ref 215, .int 0, .ref 216, .ref 217, .int 0, .int 0, .int (-1), .ref 218, .ref 219, .ref 220, .ref 221, .ref 222, .ref 223, .int 0, .ref 224, .ref 225, .ref 226, .ref 227, .ref 228, .int 0, .ref 229, .ref 230, .ref 231, .ref 232, .ref 233, .ref 234, .ref 235, .ref 236, .ref 237, .ref 238, .int 0, .int 0, .int 0, .int 0, .long 0, .ref 239, .ref 240, .ref 241, .ref 242, .ref 243, .ref 244, .ref 245, .ref 246, .ref 247, .ref 248, .ref 249, .int 0, .int 0, .int 0, .int 0, .int 0, .int 0, .int 0, .int (-1), .int (-1), .int 0, .int 0, .int 0]))) : mi_ok (mi_fin N sl) mi_Γ (mi_ev [a0, a1, a2, a3, a4, a5]) 0 (18, [(3, .int 0), (2, .ref 121), (1, .ref 0), (0, .retAddr 0)], []) h sl := by
  refine mk_p (M := mG_0) (i := .iload_n 3) (len := 1) (f' := (19, [(3, .int 0), (2, .ref 121), (1, .ref 0), (0, .retAddr 0)], [.int 0])) mJ_0 (by decide +kernel) rfl ?_
  refine mk_p (M := mG_0) (i := .aload_n 0) (len := 1) (f' := (20, [(3, .int 0), (2, .ref 121), (1, .ref 0), (0, .retAddr 0)], [.retAddr 0, .int 0])) mJ_0 (by decide +kernel) rfl ?_
  refine mk_h (M := mG_0) (i := .arraylength) (len := 1) (f' := (21, [(3, .int 0), (2, .ref 121), (1, .ref 0), (0, .retAddr 0)], [.int 6, .int 0])) (h' := h) (sl' := sl) mJ_0 (by decide +kernel) rfl rfl ?_
  refine mk_v (M := mG_0) (i := .bipush 6) (len := 2) (pc' := 23) (v' := .int 6) (st' := [.int 6, .int 0]) mJ_0 (by decide +kernel) rfl (by decide +kernel) ?_
  refine mk_v (M := mG_0) (i := .isub) (len := 1) (pc' := 24) (v' := .int 0) (st' := [.int 0]) mJ_0 (by decide +kernel) rfl (by decide +kernel) ?_
  refine mk_f (M := mG_0) (i := .if_icmp .gt 657) (len := 3) (q := decide ((0 : Int32) < (0 : Int32))) (off := 657) (t := 681) (pc' := 27) (st' := []) mJ_0 (by decide +kernel) rfl (by decide +kernel) (by decide +kernel) rfl ?_
  refine mk_p (M := mG_0) (i := .aload_n 0) (len := 1) (f' := (28, [(3, .int 0), (2, .ref 121), (1, .ref 0), (0, .retAddr 0)], [.retAddr 0])) mJ_0 (by decide +kernel) rfl ?_
  refine mk_p (M := mG_0) (i := .iload_n 3) (len := 1) (f' := (29, [(3, .int 0), (2, .ref 121), (1, .ref 0), (0, .retAddr 0)], [.int 0, .retAddr 0])) mJ_0 (by decide +kernel) rfl ?_
  refine mk_h (M := mG_0) (i := .iaload) (len := 1) (f' := (30, [(3, .int 0), (2, .ref 121), (1, .ref 0), (0, .retAddr 0)], [.int a0])) (h' := h) (sl' := sl) mJ_0 (by decide +kernel) rfl (mh_ial (xs := [a0, a1, a2, a3, a4, a5]) (x := 0) rfl (show mi_in 0 6 = true by decide +kernel) rfl) ?_
  refine mk_v (M := mG_0) (i := .bipush 31) (len := 2) (pc' := 32) (v' := .int 31) (st' := [.int a0]) mJ_0 (by decide +kernel) rfl (by decide +kernel) ?_
  refine mk_p (M := mG_0) (i := .iand) (len := 1) (f' := (33, [(3, .int 0), (2, .ref 121), (1, .ref 0), (0, .retAddr 0)], [.int ((a0 &&& 31))])) mJ_0 (by decide +kernel) rfl ?_
  refine mk_s (M := mG_0) (len := 103) (dflt := 642) (lo := 0) (hi := 21) (offs := #[103, 166, 189, 202, 215, 238, 261, 285, 299, 332, 365, 398, 432, 475, 508, 531, 554, 567, 580, 593, 606, 629]) (X := 19) (t := 626) mJ_0 (by decide +kernel) hk (by decide +kernel) ?_
  refine mk_p (M := mG_0) (i := .aload_n 1) (len := 1) (f' := (627, [(3, .int 0), (2, .ref 121), (1, .ref 0), (0, .retAddr 0)], [.ref 0])) mJ_0 (by decide +kernel) rfl ?_
  refine mk_c (M := mG_0) (i := .invokevirtual 98) (len := 3) (M' := mG_52) (j' := 52) (as := [.ref 0]) (rest := []) mJ_0 (by decide +kernel) rfl rfl rfl rfl (mh_virt (n := 0) (a := 0) (ci := 11) (by decide +kernel) rfl g0 (Nat.le_of_ble_eq_true rfl) rfl) mJ_52 (Nat.le_of_ble_eq_true rfl) (mi_pos g0) ?_
  show mi_ok _ mi_Γ (mi_ev [a0, a1, a2, a3, a4, a5]) 52 (0, [(0, .ref 0)], []) h sl
  refine mk_p (M := mG_52) (i := .aload_n 0) (len := 1) (f' := (1, [(0, .ref 0)], [.ref 0])) mJ_52 (by decide +kernel) rfl ?_
  refine mk_h (M := mG_52) (i := .getfield 68) (len := 3) (f' := (4, [(0, .ref 0)], [.ref 113])) (h' := h) (sl' := sl) mJ_52 (by decide +kernel) rfl (mh_getf (ci := 11) (k := 13) (by decide +kernel) g0 rfl) ?_
  refine mk_h (M := mG_52) (i := .getfield 246) (len := 3) (f' := (7, [(0, .ref 0)], [.int 0])) (h' := h) (sl' := sl) mJ_52 (by decide +kernel) rfl (mh_getf (ci := 2) (k := 17) (by decide +kernel) g113 rfl) ?_
  refine mk_r (M := mG_52) (i := .ireturn) (len := 1) (r := some (.int 0)) mJ_52 (by decide +kernel) rfl rfl (by decide +kernel) ?_
  show mi_ok _ mi_Γ (mi_ev [a0, a1, a2, a3, a4, a5]) 0 (630, [(3, .int 0), (2, .ref 121), (1, .ref 0), (0, .retAddr 0)], [.int 0]) h sl
  refine mk_p (M := mG_0) (i := .aload_n 2) (len := 1) (f' := (631, [(3, .int 0), (2, .ref 121), (1, .ref 0), (0, .retAddr 0)], [.ref 121, .int 0])) mJ_0 (by decide +kernel) rfl ?_
  refine mk_c (M := mG_0) (i := .invokevirtual 101) (len := 3) (M' := mG_88) (j' := 88) (as := [.ref 121]) (rest := [.int 0]) mJ_0 (by decide +kernel) rfl rfl rfl rfl (mh_virt (n := 0) (a := 121) (ci := 13) (by decide +kernel) rfl g121 (Nat.le_of_ble_eq_true rfl) rfl) mJ_88 (Nat.le_of_ble_eq_true rfl) (mi_pos g121) ?_
  show mi_ok _ mi_Γ (mi_ev [a0, a1, a2, a3, a4, a5]) 88 (0, [(0, .ref 121)], []) h sl
  refine mk_p (M := mG_88) (i := .aload_n 0) (len := 1) (f' := (1, [(0, .ref 121)], [.ref 121])) mJ_88 (by decide +kernel) rfl ?_
  refine mk_h (M := mG_88) (i := .getfield 817) (len := 3) (f' := (4, [(0, .ref 121)], [.int 0])) (h' := h) (sl' := sl) mJ_88 (by decide +kernel) rfl (mh_getf (ci := 13) (k := 57) (by decide +kernel) g121 rfl) ?_
  refine mk_r (M := mG_88) (i := .ireturn) (len := 1) (r := some (.int 0)) mJ_88 (by decide +kernel) rfl rfl (by decide +kernel) ?_
  show mi_ok _ mi_Γ (mi_ev [a0, a1, a2, a3, a4, a5]) 0 (634, [(3, .int 0), (2, .ref 121), (1, .ref 0), (0, .retAddr 0)], [.int 0, .int 0]) h sl
  refine mk_t (M := mG_0) (i := .if_icmp .eq 41) (len := 3) (q := decide ((0 : Int32) = (0 : Int32))) (off := 41) (t := 675) (st' := []) mJ_0 (by decide +kernel) rfl (by decide +kernel) (by decide +kernel) ?_
  refine mk_i (M := mG_0) (len := 3) (k := 3) (n := 6) (x := 0) (y := 6) (lv' := [(3, .int 6), (2, .ref 121), (1, .ref 0), (0, .retAddr 0)]) (pc' := 678) mJ_0 (by decide +kernel) rfl (by decide +kernel) (by decide +kernel) rfl rfl ?_
  refine mk_g (M := mG_0) (len := 3) (off := (-660)) (t := 18) mJ_0 (by decide +kernel) (by decide +kernel) ?_
  refine mk_p (M := mG_0) (i := .iload_n 3) (len := 1) (f' := (19, [(3, .int 6), (2, .ref 121), (1, .ref 0), (0, .retAddr 0)], [.int 6])) mJ_0 (by decide +kernel) rfl ?_
  refine mk_p (M := mG_0) (i := .aload_n 0) (len := 1) (f' := (20, [(3, .int 6), (2, .ref 121), (1, .ref 0), (0, .retAddr 0)], [.retAddr 0, .int 6])) mJ_0 (by decide +kernel) rfl ?_
  refine mk_h (M := mG_0) (i := .arraylength) (len := 1) (f' := (21, [(3, .int 6), (2, .ref 121), (1, .ref 0), (0, .retAddr 0)], [.int 6, .int 6])) (h' := h) (sl' := sl) mJ_0 (by decide +kernel) rfl rfl ?_
  refine mk_v (M := mG_0) (i := .bipush 6) (len := 2) (pc' := 23) (v' := .int 6) (st' := [.int 6, .int 6]) mJ_0 (by decide +kernel) rfl (by decide +kernel) ?_
  refine mk_v (M := mG_0) (i := .isub) (len := 1) (pc' := 24) (v' := .int 0) (st' := [.int 6]) mJ_0 (by decide +kernel) rfl (by decide +kernel) ?_
  refine mk_t (M := mG_0) (i := .if_icmp .gt 657) (len := 3) (q := decide ((0 : Int32) < (6 : Int32))) (off := 657) (t := 681) (st' := []) mJ_0 (by decide +kernel) rfl (by decide +kernel) (by decide +kernel) ?_
  refine mk_v (M := mG_0) (i := .iconst 1) (len := 1) (pc' := 682) (v' := .int 1) (st' := []) mJ_0 (by decide +kernel) rfl (by decide +kernel) ?_
  refine mk_r (M := mG_0) (i := .ireturn) (len := 1) (r := some (.int 1)) mJ_0 (by decide +kernel) rfl rfl (by decide +kernel) ?_
  exact ⟨rfl, hl, rfl⟩
set_option maxRecDepth 20000 in
theorem lw1_20n {N sl : Nat} {h : List mi_C} (a0 a1 a2 a3 a4 a5 : Int32) (hk : a0 &&& 31 = 20) (c1 : -2147483648 ≤ a1.toInt) (c2 : a1.toInt ≤ -1) (hl : h.length = N) (g0 : h[0]? = some (.inl (11, [.ref 1, .int 0, .int 0, .ref 2, .ref 13, .ref 49, .int 0, .int (-1), .ref 85, .ref 86, .ref 92, .ref 112, .int 0, .ref 113]))) (g121 : h[121]? = some (.inl (13, [.ref 122, .ref 168, .int 0, .ref 214, .int 0, .int 0, .ref 215, .int 0, .ref 216, .ref 217, .int 0, .int 0, .int (-1), .ref 218, .ref 219, .ref 220, .ref 221, .ref 222, .ref 223, .int 0, .ref 224, .ref 225, .ref 226, .ref 227, .ref 228, .int 0, .ref 229, .ref 230, .ref 231, .ref 232, .ref 233, .ref 234, .ref 235, .ref 236, .ref 237, .ref 238, .int 0, .int 0, .int 0, .int 0, .long 0, .ref 239, .ref 240, .ref 241, .ref 242, .ref 243, .ref 244, .ref 245, .ref 246, .ref 247, .ref 248, .ref 249, .int 0, .int 0, .int 0, .int 0, .int 0, .int 0, .int 0, .int (-1), .int (-1), .int 0, .int 0, .int 0]))) : mi_ok (mi_fin N sl) mi_Γ (mi_ev [a0, a1, a2, a3, a4, a5]) 0 (18, [(3, .int 0), (2, .ref 121), (1, .ref 0), (0, .retAddr 0)], []) h sl := by
  refine mk_p (M := mG_0) (i := .iload_n 3) (len := 1) (f' := (19, [(3, .int 0), (2, .ref 121), (1, .ref 0), (0, .retAddr 0)], [.int 0])) mJ_0 (by decide +kernel) rfl ?_
  refine mk_p (M := mG_0) (i := .aload_n 0) (len := 1) (f' := (20, [(3, .int 0), (2, .ref 121), (1, .ref 0), (0, .retAddr 0)], [.retAddr 0, .int 0])) mJ_0 (by decide +kernel) rfl ?_
  refine mk_h (M := mG_0) (i := .arraylength) (len := 1) (f' := (21, [(3, .int 0), (2, .ref 121), (1, .ref 0), (0, .retAddr 0)], [.int 6, .int 0])) (h' := h) (sl' := sl) mJ_0 (by decide +kernel) rfl rfl ?_
  refine mk_v (M := mG_0) (i := .bipush 6) (len := 2) (pc' := 23) (v' := .int 6) (st' := [.int 6, .int 0]) mJ_0 (by decide +kernel) rfl (by decide +kernel) ?_
  refine mk_v (M := mG_0) (i := .isub) (len := 1) (pc' := 24) (v' := .int 0) (st' := [.int 0]) mJ_0 (by decide +kernel) rfl (by decide +kernel) ?_
  refine mk_f (M := mG_0) (i := .if_icmp .gt 657) (len := 3) (q := decide ((0 : Int32) < (0 : Int32))) (off := 657) (t := 681) (pc' := 27) (st' := []) mJ_0 (by decide +kernel) rfl (by decide +kernel) (by decide +kernel) rfl ?_
  refine mk_p (M := mG_0) (i := .aload_n 0) (len := 1) (f' := (28, [(3, .int 0), (2, .ref 121), (1, .ref 0), (0, .retAddr 0)], [.retAddr 0])) mJ_0 (by decide +kernel) rfl ?_
  refine mk_p (M := mG_0) (i := .iload_n 3) (len := 1) (f' := (29, [(3, .int 0), (2, .ref 121), (1, .ref 0), (0, .retAddr 0)], [.int 0, .retAddr 0])) mJ_0 (by decide +kernel) rfl ?_
  refine mk_h (M := mG_0) (i := .iaload) (len := 1) (f' := (30, [(3, .int 0), (2, .ref 121), (1, .ref 0), (0, .retAddr 0)], [.int a0])) (h' := h) (sl' := sl) mJ_0 (by decide +kernel) rfl (mh_ial (xs := [a0, a1, a2, a3, a4, a5]) (x := 0) rfl (show mi_in 0 6 = true by decide +kernel) rfl) ?_
  refine mk_v (M := mG_0) (i := .bipush 31) (len := 2) (pc' := 32) (v' := .int 31) (st' := [.int a0]) mJ_0 (by decide +kernel) rfl (by decide +kernel) ?_
  refine mk_p (M := mG_0) (i := .iand) (len := 1) (f' := (33, [(3, .int 0), (2, .ref 121), (1, .ref 0), (0, .retAddr 0)], [.int ((a0 &&& 31))])) mJ_0 (by decide +kernel) rfl ?_
  refine mk_s (M := mG_0) (len := 103) (dflt := 642) (lo := 0) (hi := 21) (offs := #[103, 166, 189, 202, 215, 238, 261, 285, 299, 332, 365, 398, 432, 475, 508, 531, 554, 567, 580, 593, 606, 629]) (X := 20) (t := 639) mJ_0 (by decide +kernel) hk (by decide +kernel) ?_
  refine mk_p (M := mG_0) (i := .aload_n 1) (len := 1) (f' := (640, [(3, .int 0), (2, .ref 121), (1, .ref 0), (0, .retAddr 0)], [.ref 0])) mJ_0 (by decide +kernel) rfl ?_
  refine mk_p (M := mG_0) (i := .aload_n 0) (len := 1) (f' := (641, [(3, .int 0), (2, .ref 121), (1, .ref 0), (0, .retAddr 0)], [.retAddr 0, .ref 0])) mJ_0 (by decide +kernel) rfl ?_
  refine mk_p (M := mG_0) (i := .iload_n 3) (len := 1) (f' := (642, [(3, .int 0), (2, .ref 121), (1, .ref 0), (0, .retAddr 0)], [.int 0, .retAddr 0, .ref 0])) mJ_0 (by decide +kernel) rfl ?_
  refine mk_v (M := mG_0) (i := .iconst 1) (len := 1) (pc' := 643) (v' := .int 1) (st' := [.int 0, .retAddr 0, .ref 0]) mJ_0 (by decide +kernel) rfl (by decide +kernel) ?_
  refine mk_v (M := mG_0) (i := .iadd) (len := 1) (pc' := 644) (v' := .int 1) (st' := [.retAddr 0, .ref 0]) mJ_0 (by decide +kernel) rfl (by decide +kernel) ?_
  refine mk_h (M := mG_0) (i := .iaload) (len := 1) (f' := (645, [(3, .int 0), (2, .ref 121), (1, .ref 0), (0, .retAddr 0)], [.int a1, .ref 0])) (h' := h) (sl' := sl) mJ_0 (by decide +kernel) rfl (mh_ial (xs := [a0, a1, a2, a3, a4, a5]) (x := 1) rfl (show mi_in 1 6 = true by decide +kernel) rfl) ?_
  refine mk_c (M := mG_0) (i := .invokevirtual 102) (len := 3) (M' := mG_43) (j' := 43) (as := [.ref 0, .int a1]) (rest := []) mJ_0 (by decide +kernel) rfl rfl rfl rfl (mh_virt (n := 1) (a := 0) (ci := 11) (by decide +kernel) rfl g0 (Nat.le_of_ble_eq_true rfl) rfl) mJ_43 (Nat.le_of_ble_eq_true rfl) (mi_pos g0) ?_
  show mi_ok _ mi_Γ (mi_ev [a0, a1, a2, a3, a4, a5]) 43 (0, [(0, .ref 0), (1, .int a1)], []) h sl
  refine mk_p (M := mG_43) (i := .iload_n 1) (len := 1) (f' := (1, [(0, .ref 0), (1, .int a1)], [.int a1])) mJ_43 (by decide +kernel) rfl ?_
  refine mk_t (M := mG_43) (i := .ifCond .lt 21) (len := 3) (q := decide (a1 < (0 : Int32))) (off := 21) (t := 22) (st' := []) mJ_43 (by decide +kernel) rfl (by have e : (0 : Int32).toInt = 0 := (by decide +kernel); simp only [decide_eq_true_eq, decide_eq_false_iff_not, Int32.lt_iff_toInt_lt, Int32.le_iff_toInt_le, ← Int32.toInt_inj, e]; omega) (by decide +kernel) ?_
  refine mk_v (M := mG_43) (i := .iconst 0) (len := 1) (pc' := 23) (v' := .int 0) (st' := []) mJ_43 (by decide +kernel) rfl (by decide +kernel) ?_
  refine mk_g (M := mG_43) (len := 3) (off := 12) (t := 35) mJ_43 (by decide +kernel) (by decide +kernel) ?_
  refine mk_r (M := mG_43) (i := .ireturn) (len := 1) (r := some (.int 0)) mJ_43 (by decide +kernel) rfl rfl (by decide +kernel) ?_
  show mi_ok _ mi_Γ (mi_ev [a0, a1, a2, a3, a4, a5]) 0 (648, [(3, .int 0), (2, .ref 121), (1, .ref 0), (0, .retAddr 0)], [.int 0]) h sl
  refine mk_p (M := mG_0) (i := .aload_n 2) (len := 1) (f' := (649, [(3, .int 0), (2, .ref 121), (1, .ref 0), (0, .retAddr 0)], [.ref 121, .int 0])) mJ_0 (by decide +kernel) rfl ?_
  refine mk_p (M := mG_0) (i := .aload_n 0) (len := 1) (f' := (650, [(3, .int 0), (2, .ref 121), (1, .ref 0), (0, .retAddr 0)], [.retAddr 0, .ref 121, .int 0])) mJ_0 (by decide +kernel) rfl ?_
  refine mk_p (M := mG_0) (i := .iload_n 3) (len := 1) (f' := (651, [(3, .int 0), (2, .ref 121), (1, .ref 0), (0, .retAddr 0)], [.int 0, .retAddr 0, .ref 121, .int 0])) mJ_0 (by decide +kernel) rfl ?_
  refine mk_v (M := mG_0) (i := .iconst 1) (len := 1) (pc' := 652) (v' := .int 1) (st' := [.int 0, .retAddr 0, .ref 121, .int 0]) mJ_0 (by decide +kernel) rfl (by decide +kernel) ?_
  refine mk_v (M := mG_0) (i := .iadd) (len := 1) (pc' := 653) (v' := .int 1) (st' := [.retAddr 0, .ref 121, .int 0]) mJ_0 (by decide +kernel) rfl (by decide +kernel) ?_
  refine mk_h (M := mG_0) (i := .iaload) (len := 1) (f' := (654, [(3, .int 0), (2, .ref 121), (1, .ref 0), (0, .retAddr 0)], [.int a1, .ref 121, .int 0])) (h' := h) (sl' := sl) mJ_0 (by decide +kernel) rfl (mh_ial (xs := [a0, a1, a2, a3, a4, a5]) (x := 1) rfl (show mi_in 1 6 = true by decide +kernel) rfl) ?_
  refine mk_c (M := mG_0) (i := .invokevirtual 105) (len := 3) (M' := mG_76) (j' := 76) (as := [.ref 121, .int a1]) (rest := [.int 0]) mJ_0 (by decide +kernel) rfl rfl rfl rfl (mh_virt (n := 1) (a := 121) (ci := 13) (by decide +kernel) rfl g121 (Nat.le_of_ble_eq_true rfl) rfl) mJ_76 (Nat.le_of_ble_eq_true rfl) (mi_pos g121) ?_
  show mi_ok _ mi_Γ (mi_ev [a0, a1, a2, a3, a4, a5]) 76 (0, [(0, .ref 121), (1, .int a1)], []) h sl
  refine mk_p (M := mG_76) (i := .iload_n 1) (len := 1) (f' := (1, [(0, .ref 121), (1, .int a1)], [.int a1])) mJ_76 (by decide +kernel) rfl ?_
  refine mk_t (M := mG_76) (i := .ifCond .lt 27) (len := 3) (q := decide (a1 < (0 : Int32))) (off := 27) (t := 28) (st' := []) mJ_76 (by decide +kernel) rfl (by have e : (0 : Int32).toInt = 0 := (by decide +kernel); simp only [decide_eq_true_eq, decide_eq_false_iff_not, Int32.lt_iff_toInt_lt, Int32.le_iff_toInt_le, ← Int32.toInt_inj, e]; omega) (by decide +kernel) ?_
  refine mk_v (M := mG_76) (i := .iconst 0) (len := 1) (pc' := 29) (v' := .int 0) (st' := []) mJ_76 (by decide +kernel) rfl (by decide +kernel) ?_
  refine mk_r (M := mG_76) (i := .ireturn) (len := 1) (r := some (.int 0)) mJ_76 (by decide +kernel) rfl rfl (by decide +kernel) ?_
  show mi_ok _ mi_Γ (mi_ev [a0, a1, a2, a3, a4, a5]) 0 (657, [(3, .int 0), (2, .ref 121), (1, .ref 0), (0, .retAddr 0)], [.int 0, .int 0]) h sl
  refine mk_t (M := mG_0) (i := .if_icmp .eq 18) (len := 3) (q := decide ((0 : Int32) = (0 : Int32))) (off := 18) (t := 675) (st' := []) mJ_0 (by decide +kernel) rfl (by decide +kernel) (by decide +kernel) ?_
  refine mk_i (M := mG_0) (len := 3) (k := 3) (n := 6) (x := 0) (y := 6) (lv' := [(3, .int 6), (2, .ref 121), (1, .ref 0), (0, .retAddr 0)]) (pc' := 678) mJ_0 (by decide +kernel) rfl (by decide +kernel) (by decide +kernel) rfl rfl ?_
  refine mk_g (M := mG_0) (len := 3) (off := (-660)) (t := 18) mJ_0 (by decide +kernel) (by decide +kernel) ?_
  refine mk_p (M := mG_0) (i := .iload_n 3) (len := 1) (f' := (19, [(3, .int 6), (2, .ref 121), (1, .ref 0), (0, .retAddr 0)], [.int 6])) mJ_0 (by decide +kernel) rfl ?_
  refine mk_p (M := mG_0) (i := .aload_n 0) (len := 1) (f' := (20, [(3, .int 6), (2, .ref 121), (1, .ref 0), (0, .retAddr 0)], [.retAddr 0, .int 6])) mJ_0 (by decide +kernel) rfl ?_
  refine mk_h (M := mG_0) (i := .arraylength) (len := 1) (f' := (21, [(3, .int 6), (2, .ref 121), (1, .ref 0), (0, .retAddr 0)], [.int 6, .int 6])) (h' := h) (sl' := sl) mJ_0 (by decide +kernel) rfl rfl ?_
  refine mk_v (M := mG_0) (i := .bipush 6) (len := 2) (pc' := 23) (v' := .int 6) (st' := [.int 6, .int 6]) mJ_0 (by decide +kernel) rfl (by decide +kernel) ?_
  refine mk_v (M := mG_0) (i := .isub) (len := 1) (pc' := 24) (v' := .int 0) (st' := [.int 6]) mJ_0 (by decide +kernel) rfl (by decide +kernel) ?_
  refine mk_t (M := mG_0) (i := .if_icmp .gt 657) (len := 3) (q := decide ((0 : Int32) < (6 : Int32))) (off := 657) (t := 681) (st' := []) mJ_0 (by decide +kernel) rfl (by decide +kernel) (by decide +kernel) ?_
  refine mk_v (M := mG_0) (i := .iconst 1) (len := 1) (pc' := 682) (v' := .int 1) (st' := []) mJ_0 (by decide +kernel) rfl (by decide +kernel) ?_
  refine mk_r (M := mG_0) (i := .ireturn) (len := 1) (r := some (.int 1)) mJ_0 (by decide +kernel) rfl rfl (by decide +kernel) ?_
  exact ⟨rfl, hl, rfl⟩
