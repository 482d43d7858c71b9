/-! The law, one call. -/
set_option maxRecDepth 20000 in
theorem lw1_12_1 {N sl : Nat} {h : List mi_C} (a0 a1 a2 a3 a4 a5 : Int32) (hk : a0 &&& 31 = 12) (c1 : 1 ≤ a3.toInt) (c2 : a3.toInt ≤ 1) (hl : h.length = N) (g0 : h[0]? = some (.inl (11, [.ref 1, .int 0, .int 0, .ref 2, .ref 13, .ref 49, .int 0, .int (-1), .ref 85, .ref 86, .ref 92, .ref 112, .int 0, .ref 113]))) (g121 : h[121]? = some (.inl (13, [.ref 122, .ref 168, .int 0, .ref 214, .int 0, .int 0, .ref 215, .int 0, .ref 216, .ref 217, .int 0, .int 0, .int (-1), .ref 218, .ref 219, .ref 220, .ref 221, .ref 222, .ref 223, .int 0, .ref 224, .ref 225, .ref 226, .ref 227, .ref 228, .int 0, .ref 229, .ref 230, .ref 231, .ref 232, .ref 233, .ref 234, .ref 235, .ref 236, .ref 237, .ref 238, .int 0, .int 0, .int 0, .int 0, .long 0, .ref 239, .ref 240, .ref 241, .ref 242, .ref 243, .ref 244, .ref 245, .ref 246, .ref 247, .ref 248, .ref 249, .int 0, .int 0, .int 0, .int 0, .int 0, .int 0, .int 0, .int (-1), .int (-1), .int 0, .int 0, .int 0]))) : mi_ok (mi_fin N sl) mi_Γ (mi_ev [a0, a1, a2, a3, a4, a5]) 0 (18, [(3, .int 0), (2, .ref 121), (1, .ref 0), (0, .retAddr 0)], []) h sl := by
  refine mk_p (M := mG_0) (i := .iload_n 3) (len := 1) (f' := (19, [(3, .int 0), (2, .ref 121), (1, .ref 0), (0, .retAddr 0)], [.int 0])) mJ_0 (by decide +kernel) rfl ?_
  refine mk_p (M := mG_0) (i := .aload_n 0) (len := 1) (f' := (20, [(3, .int 0), (2, .ref 121), (1, .ref 0), (0, .retAddr 0)], [.retAddr 0, .int 0])) mJ_0 (by decide +kernel) rfl ?_
  refine mk_h (M := mG_0) (i := .arraylength) (len := 1) (f' := (21, [(3, .int 0), (2, .ref 121), (1, .ref 0), (0, .retAddr 0)], [.int 6, .int 0])) (h' := h) (sl' := sl) mJ_0 (by decide +kernel) rfl rfl ?_
  refine mk_v (M := mG_0) (i := .bipush 6) (len := 2) (pc' := 23) (v' := .int 6) (st' := [.int 6, .int 0]) mJ_0 (by decide +kernel) rfl (by decide +kernel) ?_
  refine mk_v (M := mG_0) (i := .isub) (len := 1) (pc' := 24) (v' := .int 0) (st' := [.int 0]) mJ_0 (by decide +kernel) rfl (by decide +kernel) ?_
  refine mk_f (M := mG_0) (i := .if_icmp .gt 657) (len := 3) (q := decide ((0 : Int32) < (0 : Int32))) (off := 657) (t := 681) (pc' := 27) (st' := []) mJ_0 (by decide +kernel) rfl (by decide +kernel) (by decide +kernel) rfl ?_
  refine mk_p (M := mG_0) (i := .aload_n 0) (len := 1) (f' := (28, [(3, .int 0), (2, .ref 121), (1, .ref 0), (0, .retAddr 0)], [.retAddr 0])) mJ_0 (by decide +kernel) rfl ?_
  refine mk_p (M := mG_0) (i := .iload_n 3) (len := 1) (f' := (29, [(3, .int 0), (2, .ref 121), (1, .ref 0), (0, .retAddr 0)], [.int 0, .retAddr 0])) mJ_0 (by decide +kernel) rfl ?_
  refine mk_h (M := mG_0) (i := .iaload) (len := 1) (f' := (30, [(3, .int 0), (2, .ref 121), (1, .ref 0), (0, .retAddr 0)], [.int a0])) (h' := h) (sl' := sl) mJ_0 (by decide +kernel) rfl (mh_ial (xs := [a0, a1, a2, a3, a4, a5]) (x := 0) rfl (show mi_in 0 6 = true by decide +kernel) rfl) ?_
  refine mk_v (M := mG_0) (i := .bipush 31) (len := 2) (pc' := 32) (v' := .int 31) (st' := [.int a0]) mJ_0 (by decide +kernel) rfl (by decide +kernel) ?_
  refine mk_p (M := mG_0) (i := .iand) (len := 1) (f' := (33, [(3, .int 0), (2, .ref 121), (1, .ref 0), (0, .retAddr 0)], [.int ((a0 &&& 31))])) mJ_0 (by decide +kernel) rfl ?_
  refine mk_s (M := mG_0) (len := 103) (dflt := 642) (lo := 0) (hi := 21) (offs := #[103, 166, 189, 202, 215, 238, 261, 285, 299, 332, 365, 398, 432, 475, 508, 531, 554, 567, 580, 593, 606, 629]) (X := 12) (t := 465) mJ_0 (by decide +kernel) hk (by decide +kernel) ?_
  refine mk_p (M := mG_0) (i := .aload_n 1) (len := 1) (f' := (466, [(3, .int 0), (2, .ref 121), (1, .ref 0), (0, .retAddr 0)], [.ref 0])) mJ_0 (by decide +kernel) rfl ?_
  refine mk_p (M := mG_0) (i := .aload_n 0) (len := 1) (f' := (467, [(3, .int 0), (2, .ref 121), (1, .ref 0), (0, .retAddr 0)], [.retAddr 0, .ref 0])) mJ_0 (by decide +kernel) rfl ?_
  refine mk_p (M := mG_0) (i := .iload_n 3) (len := 1) (f' := (468, [(3, .int 0), (2, .ref 121), (1, .ref 0), (0, .retAddr 0)], [.int 0, .retAddr 0, .ref 0])) mJ_0 (by decide +kernel) rfl ?_
  refine mk_v (M := mG_0) (i := .iconst 1) (len := 1) (pc' := 469) (v' := .int 1) (st' := [.int 0, .retAddr 0, .ref 0]) mJ_0 (by decide +kernel) rfl (by decide +kernel) ?_
  refine mk_v (M := mG_0) (i := .iadd) (len := 1) (pc' := 470) (v' := .int 1) (st' := [.retAddr 0, .ref 0]) mJ_0 (by decide +kernel) rfl (by decide +kernel) ?_
  refine mk_h (M := mG_0) (i := .iaload) (len := 1) (f' := (471, [(3, .int 0), (2, .ref 121), (1, .ref 0), (0, .retAddr 0)], [.int a1, .ref 0])) (h' := h) (sl' := sl) mJ_0 (by decide +kernel) rfl (mh_ial (xs := [a0, a1, a2, a3, a4, a5]) (x := 1) rfl (show mi_in 1 6 = true by decide +kernel) rfl) ?_
  refine mk_p (M := mG_0) (i := .aload_n 0) (len := 1) (f' := (472, [(3, .int 0), (2, .ref 121), (1, .ref 0), (0, .retAddr 0)], [.retAddr 0, .int a1, .ref 0])) mJ_0 (by decide +kernel) rfl ?_
  refine mk_p (M := mG_0) (i := .iload_n 3) (len := 1) (f' := (473, [(3, .int 0), (2, .ref 121), (1, .ref 0), (0, .retAddr 0)], [.int 0, .retAddr 0, .int a1, .ref 0])) mJ_0 (by decide +kernel) rfl ?_
  refine mk_v (M := mG_0) (i := .iconst 2) (len := 1) (pc' := 474) (v' := .int 2) (st' := [.int 0, .retAddr 0, .int a1, .ref 0]) mJ_0 (by decide +kernel) rfl (by decide +kernel) ?_
  refine mk_v (M := mG_0) (i := .iadd) (len := 1) (pc' := 475) (v' := .int 2) (st' := [.retAddr 0, .int a1, .ref 0]) mJ_0 (by decide +kernel) rfl (by decide +kernel) ?_
  refine mk_h (M := mG_0) (i := .iaload) (len := 1) (f' := (476, [(3, .int 0), (2, .ref 121), (1, .ref 0), (0, .retAddr 0)], [.int a2, .int a1, .ref 0])) (h' := h) (sl' := sl) mJ_0 (by decide +kernel) rfl (mh_ial (xs := [a0, a1, a2, a3, a4, a5]) (x := 2) rfl (show mi_in 2 6 = true by decide +kernel) rfl) ?_
  refine mk_p (M := mG_0) (i := .aload_n 0) (len := 1) (f' := (477, [(3, .int 0), (2, .ref 121), (1, .ref 0), (0, .retAddr 0)], [.retAddr 0, .int a2, .int a1, .ref 0])) mJ_0 (by decide +kernel) rfl ?_
  refine mk_p (M := mG_0) (i := .iload_n 3) (len := 1) (f' := (478, [(3, .int 0), (2, .ref 121), (1, .ref 0), (0, .retAddr 0)], [.int 0, .retAddr 0, .int a2, .int a1, .ref 0])) mJ_0 (by decide +kernel) rfl ?_
  refine mk_v (M := mG_0) (i := .iconst 3) (len := 1) (pc' := 479) (v' := .int 3) (st' := [.int 0, .retAddr 0, .int a2, .int a1, .ref 0]) mJ_0 (by decide +kernel) rfl (by decide +kernel) ?_
  refine mk_v (M := mG_0) (i := .iadd) (len := 1) (pc' := 480) (v' := .int 3) (st' := [.retAddr 0, .int a2, .int a1, .ref 0]) mJ_0 (by decide +kernel) rfl (by decide +kernel) ?_
  refine mk_h (M := mG_0) (i := .iaload) (len := 1) (f' := (481, [(3, .int 0), (2, .ref 121), (1, .ref 0), (0, .retAddr 0)], [.int a3, .int a2, .int a1, .ref 0])) (h' := h) (sl' := sl) mJ_0 (by decide +kernel) rfl (mh_ial (xs := [a0, a1, a2, a3, a4, a5]) (x := 3) rfl (show mi_in 3 6 = true by decide +kernel) rfl) ?_
  refine mk_c (M := mG_0) (i := .invokevirtual 69) (len := 3) (M' := mG_30) (j' := 30) (as := [.ref 0, .int a1, .int a2, .int a3]) (rest := []) mJ_0 (by decide +kernel) rfl rfl rfl rfl (mh_virt (n := 3) (a := 0) (ci := 11) (by decide +kernel) rfl g0 (Nat.le_of_ble_eq_true rfl) rfl) mJ_30 (Nat.le_of_ble_eq_true rfl) (mi_pos g0) ?_
  show mi_ok _ mi_Γ (mi_ev [a0, a1, a2, a3, a4, a5]) 30 (0, [(0, .ref 0), (1, .int a1), (2, .int a2), (3, .int a3)], []) h sl
  refine mk_p (M := mG_30) (i := .aload_n 0) (len := 1) (f' := (1, [(0, .ref 0), (1, .int a1), (2, .int a2), (3, .int a3)], [.ref 0])) mJ_30 (by decide +kernel) rfl ?_
  refine mk_p (M := mG_30) (i := .iload_n 1) (len := 1) (f' := (2, [(0, .ref 0), (1, .int a1), (2, .int a2), (3, .int a3)], [.int a1, .ref 0])) mJ_30 (by decide +kernel) rfl ?_
  refine mk_p (M := mG_30) (i := .iload_n 2) (len := 1) (f' := (3, [(0, .ref 0), (1, .int a1), (2, .int a2), (3, .int a3)], [.int a2, .int a1, .ref 0])) mJ_30 (by decide +kernel) rfl ?_
  refine mk_c (M := mG_30) (i := .invokevirtual 194) (len := 3) (M' := mG_31) (j' := 31) (as := [.ref 0, .int a1, .int a2]) (rest := []) mJ_30 (by decide +kernel) rfl rfl rfl rfl (mh_virt (n := 2) (a := 0) (ci := 11) (by decide +kernel) rfl g0 (Nat.le_of_ble_eq_true rfl) rfl) mJ_31 (Nat.le_of_ble_eq_true rfl) (mi_pos g0) ?_
  show mi_ok _ mi_Γ (mi_ev [a0, a1, a2, a3, a4, a5]) 31 (0, [(0, .ref 0), (1, .int a1), (2, .int a2)], []) h sl
  refine mk_p (M := mG_31) (i := .aload_n 0) (len := 1) (f' := (1, [(0, .ref 0), (1, .int a1), (2, .int a2)], [.ref 0])) mJ_31 (by decide +kernel) rfl ?_
  refine mk_p (M := mG_31) (i := .iload_n 1) (len := 1) (f' := (2, [(0, .ref 0), (1, .int a1), (2, .int a2)], [.int a1, .ref 0])) mJ_31 (by decide +kernel) rfl ?_
  refine mk_p (M := mG_31) (i := .iload_n 2) (len := 1) (f' := (3, [(0, .ref 0), (1, .int a1), (2, .int a2)], [.int a2, .int a1, .ref 0])) mJ_31 (by decide +kernel) rfl ?_
  refine mk_c (M := mG_31) (i := .invokevirtual 184) (len := 3) (M' := mG_48) (j' := 48) (as := [.ref 0, .int a1, .int a2]) (rest := []) mJ_31 (by decide +kernel) rfl rfl rfl rfl (mh_virt (n := 2) (a := 0) (ci := 11) (by decide +kernel) rfl g0 (Nat.le_of_ble_eq_true rfl) rfl) mJ_48 (Nat.le_of_ble_eq_true rfl) (mi_pos g0) ?_
  show mi_ok _ mi_Γ (mi_ev [a0, a1, a2, a3, a4, a5]) 48 (0, [(0, .ref 0), (1, .int a1), (2, .int a2)], []) h sl
  refine mk_p (M := mG_48) (i := .aload_n 0) (len := 1) (f' := (1, [(0, .ref 0), (1, .int a1), (2, .int a2)], [.ref 0])) mJ_48 (by decide +kernel) rfl ?_
  refine mk_p (M := mG_48) (i := .iload_n 1) (len := 1) (f' := (2, [(0, .ref 0), (1, .int a1), (2, .int a2)], [.int a1, .ref 0])) mJ_48 (by decide +kernel) rfl ?_
  refine mk_c (M := mG_48) (i := .invokevirtual 142) (len := 3) (M' := mG_38) (j' := 38) (as := [.ref 0, .int a1]) (rest := []) mJ_48 (by decide +kernel) rfl rfl rfl rfl (mh_virt (n := 1) (a := 0) (ci := 11) (by decide +kernel) rfl g0 (Nat.le_of_ble_eq_true rfl) rfl) mJ_38 (Nat.le_of_ble_eq_true rfl) (mi_pos g0) ?_
  show mi_ok _ mi_Γ (mi_ev [a0, a1, a2, a3, a4, a5]) 38 (0, [(0, .ref 0), (1, .int a1)], []) h sl
  refine mk_p (M := mG_38) (i := .aload_n 0) (len := 1) (f' := (1, [(0, .ref 0), (1, .int a1)], [.ref 0])) mJ_38 (by decide +kernel) rfl ?_
  refine mk_h (M := mG_38) (i := .getfield 108) (len := 3) (f' := (4, [(0, .ref 0), (1, .int a1)], [.int 0])) (h' := h) (sl' := sl) mJ_38 (by decide +kernel) rfl (mh_getf (ci := 11) (k := 6) (by decide +kernel) g0 rfl) ?_
  refine mk_t (M := mG_38) (i := .ifCond .eq 22) (len := 3) (q := decide ((0 : Int32) = (0 : Int32))) (off := 22) (t := 26) (st' := []) mJ_38 (by decide +kernel) rfl (by decide +kernel) (by decide +kernel) ?_
  refine mk_v (M := mG_38) (i := .iconst 0) (len := 1) (pc' := 27) (v' := .int 0) (st' := []) mJ_38 (by decide +kernel) rfl (by decide +kernel) ?_
  refine mk_r (M := mG_38) (i := .ireturn) (len := 1) (r := some (.int 0)) mJ_38 (by decide +kernel) rfl rfl (by decide +kernel) ?_
  show mi_ok _ mi_Γ (mi_ev [a0, a1, a2, a3, a4, a5]) 48 (5, [(0, .ref 0), (1, .int a1), (2, .int a2)], [.int 0]) h sl
  refine mk_t (M := mG_48) (i := .ifCond .eq 28) (len := 3) (q := decide ((0 : Int32) = (0 : Int32))) (off := 28) (t := 33) (st' := []) mJ_48 (by decide +kernel) rfl (by decide +kernel) (by decide +kernel) ?_
  refine mk_v (M := mG_48) (i := .iconst (-1)) (len := 1) (pc' := 34) (v' := .int (-1)) (st' := []) mJ_48 (by decide +kernel) rfl (by decide +kernel) ?_
  refine mk_r (M := mG_48) (i := .ireturn) (len := 1) (r := some (.int (-1))) mJ_48 (by decide +kernel) rfl rfl (by decide +kernel) ?_
  show mi_ok _ mi_Γ (mi_ev [a0, a1, a2, a3, a4, a5]) 31 (6, [(0, .ref 0), (1, .int a1), (2, .int a2)], [.int (-1)]) h sl
  refine mk_p (M := mG_31) (i := .istore_n 3) (len := 1) (f' := (7, [(3, .int (-1)), (0, .ref 0), (1, .int a1), (2, .int a2)], [])) mJ_31 (by decide +kernel) rfl ?_
  refine mk_p (M := mG_31) (i := .iload_n 3) (len := 1) (f' := (8, [(3, .int (-1)), (0, .ref 0), (1, .int a1), (2, .int a2)], [.int (-1)])) mJ_31 (by decide +kernel) rfl ?_
  refine mk_f (M := mG_31) (i := .ifCond .ge 7) (len := 3) (q := decide ((0 : Int32) ≤ ((-1) : Int32))) (off := 7) (t := 15) (pc' := 11) (st' := []) mJ_31 (by decide +kernel) rfl (by decide +kernel) (by decide +kernel) rfl ?_
  refine mk_v (M := mG_31) (i := .lconst 0) (len := 1) (pc' := 12) (v' := .long 0) (st' := []) mJ_31 (by decide +kernel) rfl (by decide +kernel) ?_
  refine mk_g (M := mG_31) (len := 3) (off := 15) (t := 27) mJ_31 (by decide +kernel) (by decide +kernel) ?_
  refine mk_r (M := mG_31) (i := .lreturn) (len := 1) (r := some (.long 0)) mJ_31 (by decide +kernel) rfl rfl (by decide +kernel) ?_
  show mi_ok _ mi_Γ (mi_ev [a0, a1, a2, a3, a4, a5]) 30 (6, [(0, .ref 0), (1, .int a1), (2, .int a2), (3, .int a3)], [.long 0]) h sl
  refine mk_p (M := mG_30) (i := .lstore 4) (len := 2) (f' := (8, [(4, .long 0), (0, .ref 0), (1, .int a1), (2, .int a2), (3, .int a3)], [])) mJ_30 (by decide +kernel) rfl ?_
  refine mk_p (M := mG_30) (i := .iload_n 3) (len := 1) (f' := (9, [(4, .long 0), (0, .ref 0), (1, .int a1), (2, .int a2), (3, .int a3)], [.int a3])) mJ_30 (by decide +kernel) rfl ?_
  refine mk_s (M := mG_30) (len := 35) (dflt := 82) (lo := 0) (hi := 4) (offs := #[35, 41, 49, 60, 71]) (X := 1) (t := 50) mJ_30 (by decide +kernel) (by have e : (1 : Int32).toInt = 1 := (by decide +kernel); rw [← Int32.toInt_inj, e]; omega) (by decide +kernel) ?_
  refine mk_p (M := mG_30) (i := .lload 4) (len := 2) (f' := (52, [(4, .long 0), (0, .ref 0), (1, .int a1), (2, .int a2), (3, .int a3)], [.long 0])) mJ_30 (by decide +kernel) rfl ?_
  refine mk_h (M := mG_30) (i := .ldc2_w 215) (len := 3) (f' := (55, [(4, .long 0), (0, .ref 0), (1, .int a1), (2, .int a2), (3, .int a3)], [.long 4095, .long 0])) (h' := h) (sl' := sl) mJ_30 (by decide +kernel) rfl rfl ?_
  refine mk_v (M := mG_30) (i := .land) (len := 1) (pc' := 56) (v' := .long 0) (st' := []) mJ_30 (by decide +kernel) rfl (by decide +kernel) ?_
  refine mk_v (M := mG_30) (i := .l2i) (len := 1) (pc' := 57) (v' := .int 0) (st' := []) mJ_30 (by decide +kernel) rfl (by decide +kernel) ?_
  refine mk_r (M := mG_30) (i := .ireturn) (len := 1) (r := some (.int 0)) mJ_30 (by decide +kernel) rfl rfl (by decide +kernel) ?_
  show mi_ok _ mi_Γ (mi_ev [a0, a1, a2, a3, a4, a5]) 0 (484, [(3, .int 0), (2, .ref 121), (1, .ref 0), (0, .retAddr 0)], [.int 0]) h sl
  refine mk_p (M := mG_0) (i := .aload_n 2) (len := 1) (f' := (485, [(3, .int 0), (2, .ref 121), (1, .ref 0), (0, .retAddr 0)], [.ref 121, .int 0])) mJ_0 (by decide +kernel) rfl ?_
  refine mk_p (M := mG_0) (i := .aload_n 0) (len := 1) (f' := (486, [(3, .int 0), (2, .ref 121), (1, .ref 0), (0, .retAddr 0)], [.retAddr 0, .ref 121, .int 0])) mJ_0 (by decide +kernel) rfl ?_
  refine mk_p (M := mG_0) (i := .iload_n 3) (len := 1) (f' := (487, [(3, .int 0), (2, .ref 121), (1, .ref 0), (0, .retAddr 0)], [.int 0, .retAddr 0, .ref 121, .int 0])) mJ_0 (by decide +kernel) rfl ?_
  refine mk_v (M := mG_0) (i := .iconst 1) (len := 1) (pc' := 488) (v' := .int 1) (st' := [.int 0, .retAddr 0, .ref 121, .int 0]) mJ_0 (by decide +kernel) rfl (by decide +kernel) ?_
  refine mk_v (M := mG_0) (i := .iadd) (len := 1) (pc' := 489) (v' := .int 1) (st' := [.retAddr 0, .ref 121, .int 0]) mJ_0 (by decide +kernel) rfl (by decide +kernel) ?_
  refine mk_h (M := mG_0) (i := .iaload) (len := 1) (f' := (490, [(3, .int 0), (2, .ref 121), (1, .ref 0), (0, .retAddr 0)], [.int a1, .ref 121, .int 0])) (h' := h) (sl' := sl) mJ_0 (by decide +kernel) rfl (mh_ial (xs := [a0, a1, a2, a3, a4, a5]) (x := 1) rfl (show mi_in 1 6 = true by decide +kernel) rfl) ?_
  refine mk_p (M := mG_0) (i := .aload_n 0) (len := 1) (f' := (491, [(3, .int 0), (2, .ref 121), (1, .ref 0), (0, .retAddr 0)], [.retAddr 0, .int a1, .ref 121, .int 0])) mJ_0 (by decide +kernel) rfl ?_
  refine mk_p (M := mG_0) (i := .iload_n 3) (len := 1) (f' := (492, [(3, .int 0), (2, .ref 121), (1, .ref 0), (0, .retAddr 0)], [.int 0, .retAddr 0, .int a1, .ref 121, .int 0])) mJ_0 (by decide +kernel) rfl ?_
  refine mk_v (M := mG_0) (i := .iconst 2) (len := 1) (pc' := 493) (v' := .int 2) (st' := [.int 0, .retAddr 0, .int a1, .ref 121, .int 0]) mJ_0 (by decide +kernel) rfl (by decide +kernel) ?_
  refine mk_v (M := mG_0) (i := .iadd) (len := 1) (pc' := 494) (v' := .int 2) (st' := [.retAddr 0, .int a1, .ref 121, .int 0]) mJ_0 (by decide +kernel) rfl (by decide +kernel) ?_
  refine mk_h (M := mG_0) (i := .iaload) (len := 1) (f' := (495, [(3, .int 0), (2, .ref 121), (1, .ref 0), (0, .retAddr 0)], [.int a2, .int a1, .ref 121, .int 0])) (h' := h) (sl' := sl) mJ_0 (by decide +kernel) rfl (mh_ial (xs := [a0, a1, a2, a3, a4, a5]) (x := 2) rfl (show mi_in 2 6 = true by decide +kernel) rfl) ?_
  refine mk_p (M := mG_0) (i := .aload_n 0) (len := 1) (f' := (496, [(3, .int 0), (2, .ref 121), (1, .ref 0), (0, .retAddr 0)], [.retAddr 0, .int a2, .int a1, .ref 121, .int 0])) mJ_0 (by decide +kernel) rfl ?_
  refine mk_p (M := mG_0) (i := .iload_n 3) (len := 1) (f' := (497, [(3, .int 0), (2, .ref 121), (1, .ref 0), (0, .retAddr 0)], [.int 0, .retAddr 0, .int a2, .int a1, .ref 121, .int 0])) mJ_0 (by decide +kernel) rfl ?_
  refine mk_v (M := mG_0) (i := .iconst 3) (len := 1) (pc' := 498) (v' := .int 3) (st' := [.int 0, .retAddr 0, .int a2, .int a1, .ref 121, .int 0]) mJ_0 (by decide +kernel) rfl (by decide +kernel) ?_
  refine mk_v (M := mG_0) (i := .iadd) (len := 1) (pc' := 499) (v' := .int 3) (st' := [.retAddr 0, .int a2, .int a1, .ref 121, .int 0]) mJ_0 (by decide +kernel) rfl (by decide +kernel) ?_
  refine mk_h (M := mG_0) (i := .iaload) (len := 1) (f' := (500, [(3, .int 0), (2, .ref 121), (1, .ref 0), (0, .retAddr 0)], [.int a3, .int a2, .int a1, .ref 121, .int 0])) (h' := h) (sl' := sl) mJ_0 (by decide +kernel) rfl (mh_ial (xs := [a0, a1, a2, a3, a4, a5]) (x := 3) rfl (show mi_in 3 6 = true by decide +kernel) rfl) ?_
  refine mk_c (M := mG_0) (i := .invokevirtual 73) (len := 3) (M' := mG_61) (j' := 61) (as := [.ref 121, .int a1, .int a2, .int a3]) (rest := [.int 0]) mJ_0 (by decide +kernel) rfl rfl rfl rfl (mh_virt (n := 3) (a := 121) (ci := 13) (by decide +kernel) rfl g121 (Nat.le_of_ble_eq_true rfl) rfl) mJ_61 (Nat.le_of_ble_eq_true rfl) (mi_pos g121) ?_
  show mi_ok _ mi_Γ (mi_ev [a0, a1, a2, a3, a4, a5]) 61 (0, [(0, .ref 121), (1, .int a1), (2, .int a2), (3, .int a3)], []) h sl
  refine mk_p (M := mG_61) (i := .aload_n 0) (len := 1) (f' := (1, [(0, .ref 121), (1, .int a1), (2, .int a2), (3, .int a3)], [.ref 121])) mJ_61 (by decide +kernel) rfl ?_
  refine mk_p (M := mG_61) (i := .iload_n 1) (len := 1) (f' := (2, [(0, .ref 121), (1, .int a1), (2, .int a2), (3, .int a3)], [.int a1, .ref 121])) mJ_61 (by decide +kernel) rfl ?_
  refine mk_p (M := mG_61) (i := .iload_n 2) (len := 1) (f' := (3, [(0, .ref 121), (1, .int a1), (2, .int a2), (3, .int a3)], [.int a2, .int a1, .ref 121])) mJ_61 (by decide +kernel) rfl ?_
  refine mk_c (M := mG_61) (i := .invokevirtual 800) (len := 3) (M' := mG_82) (j' := 82) (as := [.ref 121, .int a1, .int a2]) (rest := []) mJ_61 (by decide +kernel) rfl rfl rfl rfl (mh_virt (n := 2) (a := 121) (ci := 13) (by decide +kernel) rfl g121 (Nat.le_of_ble_eq_true rfl) rfl) mJ_82 (Nat.le_of_ble_eq_true rfl) (mi_pos g121) ?_
  show mi_ok _ mi_Γ (mi_ev [a0, a1, a2, a3, a4, a5]) 82 (0, [(0, .ref 121), (1, .int a1), (2, .int a2)], []) h sl
  refine mk_p (M := mG_82) (i := .aload_n 0) (len := 1) (f' := (1, [(0, .ref 121), (1, .int a1), (2, .int a2)], [.ref 121])) mJ_82 (by decide +kernel) rfl ?_
  refine mk_p (M := mG_82) (i := .iload_n 1) (len := 1) (f' := (2, [(0, .ref 121), (1, .int a1), (2, .int a2)], [.int a1, .ref 121])) mJ_82 (by decide +kernel) rfl ?_
  refine mk_c (M := mG_82) (i := .invokevirtual 797) (len := 3) (M' := mG_68) (j' := 68) (as := [.ref 121, .int a1]) (rest := []) mJ_82 (by decide +kernel) rfl rfl rfl rfl (mh_virt (n := 1) (a := 121) (ci := 13) (by decide +kernel) rfl g121 (Nat.le_of_ble_eq_true rfl) rfl) mJ_68 (Nat.le_of_ble_eq_true rfl) (mi_pos g121) ?_
  show mi_ok _ mi_Γ (mi_ev [a0, a1, a2, a3, a4, a5]) 68 (0, [(0, .ref 121), (1, .int a1)], []) h sl
  refine mk_p (M := mG_68) (i := .aload_n 0) (len := 1) (f' := (1, [(0, .ref 121), (1, .int a1)], [.ref 121])) mJ_68 (by decide +kernel) rfl ?_
  refine mk_h (M := mG_68) (i := .getfield 794) (len := 3) (f' := (4, [(0, .ref 121), (1, .int a1)], [.int 0])) (h' := h) (sl' := sl) mJ_68 (by decide +kernel) rfl (mh_getf (ci := 13) (k := 2) (by decide +kernel) g121 rfl) ?_
  refine mk_t (M := mG_68) (i := .ifCond .eq 22) (len := 3) (q := decide ((0 : Int32) = (0 : Int32))) (off := 22) (t := 26) (st' := []) mJ_68 (by decide +kernel) rfl (by decide +kernel) (by decide +kernel) ?_
  refine mk_v (M := mG_68) (i := .iconst 0) (len := 1) (pc' := 27) (v' := .int 0) (st' := []) mJ_68 (by decide +kernel) rfl (by decide +kernel) ?_
  refine mk_r (M := mG_68) (i := .ireturn) (len := 1) (r := some (.int 0)) mJ_68 (by decide +kernel) rfl rfl (by decide +kernel) ?_
  show mi_ok _ mi_Γ (mi_ev [a0, a1, a2, a3, a4, a5]) 82 (5, [(0, .ref 121), (1, .int a1), (2, .int a2)], [.int 0]) h sl
  refine mk_t (M := mG_82) (i := .ifCond .eq 44) (len := 3) (q := decide ((0 : Int32) = (0 : Int32))) (off := 44) (t := 49) (st' := []) mJ_82 (by decide +kernel) rfl (by decide +kernel) (by decide +kernel) ?_
  refine mk_v (M := mG_82) (i := .iconst (-1)) (len := 1) (pc' := 50) (v' := .int (-1)) (st' := []) mJ_82 (by decide +kernel) rfl (by decide +kernel) ?_
  refine mk_r (M := mG_82) (i := .ireturn) (len := 1) (r := some (.int (-1))) mJ_82 (by decide +kernel) rfl rfl (by decide +kernel) ?_
  show mi_ok _ mi_Γ (mi_ev [a0, a1, a2, a3, a4, a5]) 61 (6, [(0, .ref 121), (1, .int a1), (2, .int a2), (3, .int a3)], [.int (-1)]) h sl
  refine mk_p (M := mG_61) (i := .istore 4) (len := 2) (f' := (8, [(4, .int (-1)), (0, .ref 121), (1, .int a1), (2, .int a2), (3, .int a3)], [])) mJ_61 (by decide +kernel) rfl ?_
  refine mk_p (M := mG_61) (i := .iload 4) (len := 2) (f' := (10, [(4, .int (-1)), (0, .ref 121), (1, .int a1), (2, .int a2), (3, .int a3)], [.int (-1)])) mJ_61 (by decide +kernel) rfl ?_
  refine mk_f (M := mG_61) (i := .ifCond .ge 13) (len := 3) (q := decide ((0 : Int32) ≤ ((-1) : Int32))) (off := 13) (t := 23) (pc' := 13) (st' := []) mJ_61 (by decide +kernel) rfl (by decide +kernel) (by decide +kernel) rfl ?_
  refine mk_p (M := mG_61) (i := .iload_n 3) (len := 1) (f' := (14, [(4, .int (-1)), (0, .ref 121), (1, .int a1), (2, .int a2), (3, .int a3)], [.int a3])) mJ_61 (by decide +kernel) rfl ?_
  refine mk_t (M := mG_61) (i := .ifCond .ne 7) (len := 3) (q := decide (¬ a3 = (0 : Int32))) (off := 7) (t := 21) (st' := []) mJ_61 (by decide +kernel) rfl (by have e : (0 : Int32).toInt = 0 := (by decide +kernel); simp only [decide_eq_true_eq, decide_eq_false_iff_not, Int32.lt_iff_toInt_lt, Int32.le_iff_toInt_le, ← Int32.toInt_inj, e]; omega) (by decide +kernel) ?_
  refine mk_v (M := mG_61) (i := .iconst 0) (len := 1) (pc' := 22) (v' := .int 0) (st' := []) mJ_61 (by decide +kernel) rfl (by decide +kernel) ?_
  refine mk_r (M := mG_61) (i := .ireturn) (len := 1) (r := some (.int 0)) mJ_61 (by decide +kernel) rfl rfl (by decide +kernel) ?_
  show mi_ok _ mi_Γ (mi_ev [a0, a1, a2, a3, a4, a5]) 0 (503, [(3, .int 0), (2, .ref 121), (1, .ref 0), (0, .retAddr 0)], [.int 0, .int 0]) h sl
  refine mk_t (M := mG_0) (i := .if_icmp .eq 172) (len := 3) (q := decide ((0 : Int32) = (0 : Int32))) (off := 172) (t := 675) (st' := []) mJ_0 (by decide +kernel) rfl (by decide +kernel) (by decide +kernel) ?_
  refine mk_i (M := mG_0) (len := 3) (k := 3) (n := 6) (x := 0) (y := 6) (lv' := [(3, .int 6), (2, .ref 121), (1, .ref 0), (0, .retAddr 0)]) (pc' := 678) mJ_0 (by decide +kernel) rfl (by decide +kernel) (by decide +kernel) rfl rfl ?_
  refine mk_g (M := mG_0) (len := 3) (off := (-660)) (t := 18) mJ_0 (by decide +kernel) (by decide +kernel) ?_
  refine mk_p (M := mG_0) (i := .iload_n 3) (len := 1) (f' := (19, [(3, .int 6), (2, .ref 121), (1, .ref 0), (0, .retAddr 0)], [.int 6])) mJ_0 (by decide +kernel) rfl ?_
  refine mk_p (M := mG_0) (i := .aload_n 0) (len := 1) (f' := (20, [(3, .int 6), (2, .ref 121), (1, .ref 0), (0, .retAddr 0)], [.retAddr 0, .int 6])) mJ_0 (by decide +kernel) rfl ?_
  refine mk_h (M := mG_0) (i := .arraylength) (len := 1) (f' := (21, [(3, .int 6), (2, .ref 121), (1, .ref 0), (0, .retAddr 0)], [.int 6, .int 6])) (h' := h) (sl' := sl) mJ_0 (by decide +kernel) rfl rfl ?_
  refine mk_v (M := mG_0) (i := .bipush 6) (len := 2) (pc' := 23) (v' := .int 6) (st' := [.int 6, .int 6]) mJ_0 (by decide +kernel) rfl (by decide +kernel) ?_
  refine mk_v (M := mG_0) (i := .isub) (len := 1) (pc' := 24) (v' := .int 0) (st' := [.int 6]) mJ_0 (by decide +kernel) rfl (by decide +kernel) ?_
  refine mk_t (M := mG_0) (i := .if_icmp .gt 657) (len := 3) (q := decide ((0 : Int32) < (6 : Int32))) (off := 657) (t := 681) (st' := []) mJ_0 (by decide +kernel) rfl (by decide +kernel) (by decide +kernel) ?_
  refine mk_v (M := mG_0) (i := .iconst 1) (len := 1) (pc' := 682) (v' := .int 1) (st' := []) mJ_0 (by decide +kernel) rfl (by decide +kernel) ?_
  refine mk_r (M := mG_0) (i := .ireturn) (len := 1) (r := some (.int 1)) mJ_0 (by decide +kernel) rfl rfl (by decide +kernel) ?_
  exact ⟨rfl, hl, rfl⟩
set_option maxRecDepth 20000 in
theorem lw1_12_2 {N sl : Nat} {h : List mi_C} (a0 a1 a2 a3 a4 a5 : Int32) (hk : a0 &&& 31 = 12) (c1 : 2 ≤ a3.toInt) (c2 : a3.toInt ≤ 2) (hl : h.length = N) (g0 : h[0]? = some (.inl (11, [.ref 1, .int 0, .int 0, .ref 2, .ref 13, .ref 49, .int 0, .int (-1), .ref 85, .ref 86, .ref 92, .ref 112, .int 0, .ref 113]))) (g121 : h[121]? = some (.inl (13, [.ref 122, .ref 168, .int 0, .ref 214, .int 0, .int 0, .ref 215, .int 0, .ref 216, .ref 217, .int 0, .int 0, .int (-1), .ref 218, .ref 219, .ref 220, .ref 221, .ref 222, .ref 223, .int 0, .ref 224, .ref 225, .ref 226, .ref 227, .ref 228, .int 0, .ref 229, .ref 230, .ref 231, .ref 232, .ref 233, .ref 234, .ref 235, .ref 236, .ref 237, .ref 238, .int 0, .int 0, .int 0, .int 0, .long 0, .ref 239, .ref 240, .ref 241, .ref 242, .ref 243, .ref 244, .ref 245, .ref 246, .ref 247, .ref 248, .ref 249, .int 0, .int 0, .int 0, .int 0, .int 0, .int 0, .int 0, .int (-1), .int (-1), .int 0, .int 0, .int 0]))) : mi_ok (mi_fin N sl) mi_Γ (mi_ev [a0, a1, a2, a3, a4, a5]) 0 (18, [(3, .int 0), (2, .ref 121), (1, .ref 0), (0, .retAddr 0)], []) h sl := by
  refine mk_p (M := mG_0) (i := .iload_n 3) (len := 1) (f' := (19, [(3, .int 0), (2, .ref 121), (1, .ref 0), (0, .retAddr 0)], [.int 0])) mJ_0 (by decide +kernel) rfl ?_
  refine mk_p (M := mG_0) (i := .aload_n 0) (len := 1) (f' := (20, [(3, .int 0), (2, .ref 121), (1, .ref 0), (0, .retAddr 0)], [.retAddr 0, .int 0])) mJ_0 (by decide +kernel) rfl ?_
  refine mk_h (M := mG_0) (i := .arraylength) (len := 1) (f' := (21, [(3, .int 0), (2, .ref 121), (1, .ref 0), (0, .retAddr 0)], [.int 6, .int 0])) (h' := h) (sl' := sl) mJ_0 (by decide +kernel) rfl rfl ?_
  refine mk_v (M := mG_0) (i := .bipush 6) (len := 2) (pc' := 23) (v' := .int 6) (st' := [.int 6, .int 0]) mJ_0 (by decide +kernel) rfl (by decide +kernel) ?_
  refine mk_v (M := mG_0) (i := .isub) (len := 1) (pc' := 24) (v' := .int 0) (st' := [.int 0]) mJ_0 (by decide +kernel) rfl (by decide +kernel) ?_
  refine mk_f (M := mG_0) (i := .if_icmp .gt 657) (len := 3) (q := decide ((0 : Int32) < (0 : Int32))) (off := 657) (t := 681) (pc' := 27) (st' := []) mJ_0 (by decide +kernel) rfl (by decide +kernel) (by decide +kernel) rfl ?_
  refine mk_p (M := mG_0) (i := .aload_n 0) (len := 1) (f' := (28, [(3, .int 0), (2, .ref 121), (1, .ref 0), (0, .retAddr 0)], [.retAddr 0])) mJ_0 (by decide +kernel) rfl ?_
  refine mk_p (M := mG_0) (i := .iload_n 3) (len := 1) (f' := (29, [(3, .int 0), (2, .ref 121), (1, .ref 0), (0, .retAddr 0)], [.int 0, .retAddr 0])) mJ_0 (by decide +kernel) rfl ?_
  refine mk_h (M := mG_0) (i := .iaload) (len := 1) (f' := (30, [(3, .int 0), (2, .ref 121), (1, .ref 0), (0, .retAddr 0)], [.int a0])) (h' := h) (sl' := sl) mJ_0 (by decide +kernel) rfl (mh_ial (xs := [a0, a1, a2, a3, a4, a5]) (x := 0) rfl (show mi_in 0 6 = true by decide +kernel) rfl) ?_
  refine mk_v (M := mG_0) (i := .bipush 31) (len := 2) (pc' := 32) (v' := .int 31) (st' := [.int a0]) mJ_0 (by decide +kernel) rfl (by decide +kernel) ?_
  refine mk_p (M := mG_0) (i := .iand) (len := 1) (f' := (33, [(3, .int 0), (2, .ref 121), (1, .ref 0), (0, .retAddr 0)], [.int ((a0 &&& 31))])) mJ_0 (by decide +kernel) rfl ?_
  refine mk_s (M := mG_0) (len := 103) (dflt := 642) (lo := 0) (hi := 21) (offs := #[103, 166, 189, 202, 215, 238, 261, 285, 299, 332, 365, 398, 432, 475, 508, 531, 554, 567, 580, 593, 606, 629]) (X := 12) (t := 465) mJ_0 (by decide +kernel) hk (by decide +kernel) ?_
  refine mk_p (M := mG_0) (i := .aload_n 1) (len := 1) (f' := (466, [(3, .int 0), (2, .ref 121), (1, .ref 0), (0, .retAddr 0)], [.ref 0])) mJ_0 (by decide +kernel) rfl ?_
  refine mk_p (M := mG_0) (i := .aload_n 0) (len := 1) (f' := (467, [(3, .int 0), (2, .ref 121), (1, .ref 0), (0, .retAddr 0)], [.retAddr 0, .ref 0])) mJ_0 (by decide +kernel) rfl ?_
  refine mk_p (M := mG_0) (i := .iload_n 3) (len := 1) (f' := (468, [(3, .int 0), (2, .ref 121), (1, .ref 0), (0, .retAddr 0)], [.int 0, .retAddr 0, .ref 0])) mJ_0 (by decide +kernel) rfl ?_
  refine mk_v (M := mG_0) (i := .iconst 1) (len := 1) (pc' := 469) (v' := .int 1) (st' := [.int 0, .retAddr 0, .ref 0]) mJ_0 (by decide +kernel) rfl (by decide +kernel) ?_
  refine mk_v (M := mG_0) (i := .iadd) (len := 1) (pc' := 470) (v' := .int 1) (st' := [.retAddr 0, .ref 0]) mJ_0 (by decide +kernel) rfl (by decide +kernel) ?_
  refine mk_h (M := mG_0) (i := .iaload) (len := 1) (f' := (471, [(3, .int 0), (2, .ref 121), (1, .ref 0), (0, .retAddr 0)], [.int a1, .ref 0])) (h' := h) (sl' := sl) mJ_0 (by decide +kernel) rfl (mh_ial (xs := [a0, a1, a2, a3, a4, a5]) (x := 1) rfl (show mi_in 1 6 = true by decide +kernel) rfl) ?_
  refine mk_p (M := mG_0) (i := .aload_n 0) (len := 1) (f' := (472, [(3, .int 0), (2, .ref 121), (1, .ref 0), (0, .retAddr 0)], [.retAddr 0, .int a1, .ref 0])) mJ_0 (by decide +kernel) rfl ?_
  refine mk_p (M := mG_0) (i := .iload_n 3) (len := 1) (f' := (473, [(3, .int 0), (2, .ref 121), (1, .ref 0), (0, .retAddr 0)], [.int 0, .retAddr 0, .int a1, .ref 0])) mJ_0 (by decide +kernel) rfl ?_
  refine mk_v (M := mG_0) (i := .iconst 2) (len := 1) (pc' := 474) (v' := .int 2) (st' := [.int 0, .retAddr 0, .int a1, .ref 0]) mJ_0 (by decide +kernel) rfl (by decide +kernel) ?_
  refine mk_v (M := mG_0) (i := .iadd) (len := 1) (pc' := 475) (v' := .int 2) (st' := [.retAddr 0, .int a1, .ref 0]) mJ_0 (by decide +kernel) rfl (by decide +kernel) ?_
  refine mk_h (M := mG_0) (i := .iaload) (len := 1) (f' := (476, [(3, .int 0), (2, .ref 121), (1, .ref 0), (0, .retAddr 0)], [.int a2, .int a1, .ref 0])) (h' := h) (sl' := sl) mJ_0 (by decide +kernel) rfl (mh_ial (xs := [a0, a1, a2, a3, a4, a5]) (x := 2) rfl (show mi_in 2 6 = true by decide +kernel) rfl) ?_
  refine mk_p (M := mG_0) (i := .aload_n 0) (len := 1) (f' := (477, [(3, .int 0), (2, .ref 121), (1, .ref 0), (0, .retAddr 0)], [.retAddr 0, .int a2, .int a1, .ref 0])) mJ_0 (by decide +kernel) rfl ?_
  refine mk_p (M := mG_0) (i := .iload_n 3) (len := 1) (f' := (478, [(3, .int 0), (2, .ref 121), (1, .ref 0), (0, .retAddr 0)], [.int 0, .retAddr 0, .int a2, .int a1, .ref 0])) mJ_0 (by decide +kernel) rfl ?_
  refine mk_v (M := mG_0) (i := .iconst 3) (len := 1) (pc' := 479) (v' := .int 3) (st' := [.int 0, .retAddr 0, .int a2, .int a1, .ref 0]) mJ_0 (by decide +kernel) rfl (by decide +kernel) ?_
  refine mk_v (M := mG_0) (i := .iadd) (len := 1) (pc' := 480) (v' := .int 3) (st' := [.retAddr 0, .int a2, .int a1, .ref 0]) mJ_0 (by decide +kernel) rfl (by decide +kernel) ?_
  refine mk_h (M := mG_0) (i := .iaload) (len := 1) (f' := (481, [(3, .int 0), (2, .ref 121), (1, .ref 0), (0, .retAddr 0)], [.int a3, .int a2, .int a1, .ref 0])) (h' := h) (sl' := sl) mJ_0 (by decide +kernel) rfl (mh_ial (xs := [a0, a1, a2, a3, a4, a5]) (x := 3) rfl (show mi_in 3 6 = true by decide +kernel) rfl) ?_
  refine mk_c (M := mG_0) (i := .invokevirtual 69) (len := 3) (M' := mG_30) (j' := 30) (as := [.ref 0, .int a1, .int a2, .int a3]) (rest := []) mJ_0 (by decide +kernel) rfl rfl rfl rfl (mh_virt (n := 3) (a := 0) (ci := 11) (by decide +kernel) rfl g0 (Nat.le_of_ble_eq_true rfl) rfl) mJ_30 (Nat.le_of_ble_eq_true rfl) (mi_pos g0) ?_
  show mi_ok _ mi_Γ (mi_ev [a0, a1, a2, a3, a4, a5]) 30 (0, [(0, .ref 0), (1, .int a1), (2, .int a2), (3, .int a3)], []) h sl
  refine mk_p (M := mG_30) (i := .aload_n 0) (len := 1) (f' := (1, [(0, .ref 0), (1, .int a1), (2, .int a2), (3, .int a3)], [.ref 0])) mJ_30 (by decide +kernel) rfl ?_
  refine mk_p (M := mG_30) (i := .iload_n 1) (len := 1) (f' := (2, [(0, .ref 0), (1, .int a1), (2, .int a2), (3, .int a3)], [.int a1, .ref 0])) mJ_30 (by decide +kernel) rfl ?_
  refine mk_p (M := mG_30) (i := .iload_n 2) (len := 1) (f' := (3, [(0, .ref 0), (1, .int a1), (2, .int a2), (3, .int a3)], [.int a2, .int a1, .ref 0])) mJ_30 (by decide +kernel) rfl ?_
  refine mk_c (M := mG_30) (i := .invokevirtual 194) (len := 3) (M' := mG_31) (j' := 31) (as := [.ref 0, .int a1, .int a2]) (rest := []) mJ_30 (by decide +kernel) rfl rfl rfl rfl (mh_virt (n := 2) (a := 0) (ci := 11) (by decide +kernel) rfl g0 (Nat.le_of_ble_eq_true rfl) rfl) mJ_31 (Nat.le_of_ble_eq_true rfl) (mi_pos g0) ?_
  show mi_ok _ mi_Γ (mi_ev [a0, a1, a2, a3, a4, a5]) 31 (0, [(0, .ref 0), (1, .int a1), (2, .int a2)], []) h sl
  refine mk_p (M := mG_31) (i := .aload_n 0) (len := 1) (f' := (1, [(0, .ref 0), (1, .int a1), (2, .int a2)], [.ref 0])) mJ_31 (by decide +kernel) rfl ?_
  refine mk_p (M := mG_31) (i := .iload_n 1) (len := 1) (f' := (2, [(0, .ref 0), (1, .int a1), (2, .int a2)], [.int a1, .ref 0])) mJ_31 (by decide +kernel) rfl ?_
  refine mk_p (M := mG_31) (i := .iload_n 2) (len := 1) (f' := (3, [(0, .ref 0), (1, .int a1), (2, .int a2)], [.int a2, .int a1, .ref 0])) mJ_31 (by decide +kernel) rfl ?_
  refine mk_c (M := mG_31) (i := .invokevirtual 184) (len := 3) (M' := mG_48) (j' := 48) (as := [.ref 0, .int a1, .int a2]) (rest := []) mJ_31 (by decide +kernel) rfl rfl rfl rfl (mh_virt (n := 2) (a := 0) (ci := 11) (by decide +kernel) rfl g0 (Nat.le_of_ble_eq_true rfl) rfl) mJ_48 (Nat.le_of_ble_eq_true rfl) (mi_pos g0) ?_
  show mi_ok _ mi_Γ (mi_ev [a0, a1, a2, a3, a4, a5]) 48 (0, [(0, .ref 0), (1, .int a1), (2, .int a2)], []) h sl
  refine mk_p (M := mG_48) (i := .aload_n 0) (len := 1) (f' := (1, [(0, .ref 0), (1, .int a1), (2, .int a2)], [.ref 0])) mJ_48 (by decide +kernel) rfl ?_
  refine mk_p (M := mG_48) (i := .iload_n 1) (len := 1) (f' := (2, [(0, .ref 0), (1, .int a1), (2, .int a2)], [.int a1, .ref 0])) mJ_48 (by decide +kernel) rfl ?_
  refine mk_c (M := mG_48) (i := .invokevirtual 142) (len := 3) (M' := mG_38) (j' := 38) (as := [.ref 0, .int a1]) (rest := []) mJ_48 (by decide +kernel) rfl rfl rfl rfl (mh_virt (n := 1) (a := 0) (ci := 11) (by decide +kernel) rfl g0 (Nat.le_of_ble_eq_true rfl) rfl) mJ_38 (Nat.le_of_ble_eq_true rfl) (mi_pos g0) ?_
  show mi_ok _ mi_Γ (mi_ev [a0, a1, a2, a3, a4, a5]) 38 (0, [(0, .ref 0), (1, .int a1)], []) h sl
  refine mk_p (M := mG_38) (i := .aload_n 0) (len := 1) (f' := (1, [(0, .ref 0), (1, .int a1)], [.ref 0])) mJ_38 (by decide +kernel) rfl ?_
  refine mk_h (M := mG_38) (i := .getfield 108) (len := 3) (f' := (4, [(0, .ref 0), (1, .int a1)], [.int 0])) (h' := h) (sl' := sl) mJ_38 (by decide +kernel) rfl (mh_getf (ci := 11) (k := 6) (by decide +kernel) g0 rfl) ?_
  refine mk_t (M := mG_38) (i := .ifCond .eq 22) (len := 3) (q := decide ((0 : Int32) = (0 : Int32))) (off := 22) (t := 26) (st' := []) mJ_38 (by decide +kernel) rfl (by decide +kernel) (by decide +kernel) ?_
  refine mk_v (M := mG_38) (i := .iconst 0) (len := 1) (pc' := 27) (v' := .int 0) (st' := []) mJ_38 (by decide +kernel) rfl (by decide +kernel) ?_
  refine mk_r (M := mG_38) (i := .ireturn) (len := 1) (r := some (.int 0)) mJ_38 (by decide +kernel) rfl rfl (by decide +kernel) ?_
  show mi_ok _ mi_Γ (mi_ev [a0, a1, a2, a3, a4, a5]) 48 (5, [(0, .ref 0), (1, .int a1), (2, .int a2)], [.int 0]) h sl
  refine mk_t (M := mG_48) (i := .ifCond .eq 28) (len := 3) (q := decide ((0 : Int32) = (0 : Int32))) (off := 28) (t := 33) (st' := []) mJ_48 (by decide +kernel) rfl (by decide +kernel) (by decide +kernel) ?_
  refine mk_v (M := mG_48) (i := .iconst (-1)) (len := 1) (pc' := 34) (v' := .int (-1)) (st' := []) mJ_48 (by decide +kernel) rfl (by decide +kernel) ?_
  refine mk_r (M := mG_48) (i := .ireturn) (len := 1) (r := some (.int (-1))) mJ_48 (by decide +kernel) rfl rfl (by decide +kernel) ?_
  show mi_ok _ mi_Γ (mi_ev [a0, a1, a2, a3, a4, a5]) 31 (6, [(0, .ref 0), (1, .int a1), (2, .int a2)], [.int (-1)]) h sl
  refine mk_p (M := mG_31) (i := .istore_n 3) (len := 1) (f' := (7, [(3, .int (-1)), (0, .ref 0), (1, .int a1), (2, .int a2)], [])) mJ_31 (by decide +kernel) rfl ?_
  refine mk_p (M := mG_31) (i := .iload_n 3) (len := 1) (f' := (8, [(3, .int (-1)), (0, .ref 0), (1, .int a1), (2, .int a2)], [.int (-1)])) mJ_31 (by decide +kernel) rfl ?_
  refine mk_f (M := mG_31) (i := .ifCond .ge 7) (len := 3) (q := decide ((0 : Int32) ≤ ((-1) : Int32))) (off := 7) (t := 15) (pc' := 11) (st' := []) mJ_31 (by decide +kernel) rfl (by decide +kernel) (by decide +kernel) rfl ?_
  refine mk_v (M := mG_31) (i := .lconst 0) (len := 1) (pc' := 12) (v' := .long 0) (st' := []) mJ_31 (by decide +kernel) rfl (by decide +kernel) ?_
  refine mk_g (M := mG_31) (len := 3) (off := 15) (t := 27) mJ_31 (by decide +kernel) (by decide +kernel) ?_
  refine mk_r (M := mG_31) (i := .lreturn) (len := 1) (r := some (.long 0)) mJ_31 (by decide +kernel) rfl rfl (by decide +kernel) ?_
  show mi_ok _ mi_Γ (mi_ev [a0, a1, a2, a3, a4, a5]) 30 (6, [(0, .ref 0), (1, .int a1), (2, .int a2), (3, .int a3)], [.long 0]) h sl
  refine mk_p (M := mG_30) (i := .lstore 4) (len := 2) (f' := (8, [(4, .long 0), (0, .ref 0), (1, .int a1), (2, .int a2), (3, .int a3)], [])) mJ_30 (by decide +kernel) rfl ?_
  refine mk_p (M := mG_30) (i := .iload_n 3) (len := 1) (f' := (9, [(4, .long 0), (0, .ref 0), (1, .int a1), (2, .int a2), (3, .int a3)], [.int a3])) mJ_30 (by decide +kernel) rfl ?_
  refine mk_s (M := mG_30) (len := 35) (dflt := 82) (lo := 0) (hi := 4) (offs := #[35, 41, 49, 60, 71]) (X := 2) (t := 58) mJ_30 (by decide +kernel) (by have e : (2 : Int32).toInt = 2 := (by decide +kernel); rw [← Int32.toInt_inj, e]; omega) (by decide +kernel) ?_
  refine mk_p (M := mG_30) (i := .lload 4) (len := 2) (f' := (60, [(4, .long 0), (0, .ref 0), (1, .int a1), (2, .int a2), (3, .int a3)], [.long 0])) mJ_30 (by decide +kernel) rfl ?_
  refine mk_v (M := mG_30) (i := .bipush 12) (len := 2) (pc' := 62) (v' := .int 12) (st' := [.long 0]) mJ_30 (by decide +kernel) rfl (by decide +kernel) ?_
  refine mk_v (M := mG_30) (i := .lushr) (len := 1) (pc' := 63) (v' := .long 0) (st' := []) mJ_30 (by decide +kernel) rfl (by decide +kernel) ?_
  refine mk_h (M := mG_30) (i := .ldc2_w 215) (len := 3) (f' := (66, [(4, .long 0), (0, .ref 0), (1, .int a1), (2, .int a2), (3, .int a3)], [.long 4095, .long 0])) (h' := h) (sl' := sl) mJ_30 (by decide +kernel) rfl rfl ?_
  refine mk_v (M := mG_30) (i := .land) (len := 1) (pc' := 67) (v' := .long 0) (st' := []) mJ_30 (by decide +kernel) rfl (by decide +kernel) ?_
  refine mk_v (M := mG_30) (i := .l2i) (len := 1) (pc' := 68) (v' := .int 0) (st' := []) mJ_30 (by decide +kernel) rfl (by decide +kernel) ?_
  refine mk_r (M := mG_30) (i := .ireturn) (len := 1) (r := some (.int 0)) mJ_30 (by decide +kernel) rfl rfl (by decide +kernel) ?_
  show mi_ok _ mi_Γ (mi_ev [a0, a1, a2, a3, a4, a5]) 0 (484, [(3, .int 0), (2, .ref 121), (1, .ref 0), (0, .retAddr 0)], [.int 0]) h sl
  refine mk_p (M := mG_0) (i := .aload_n 2) (len := 1) (f' := (485, [(3, .int 0), (2, .ref 121), (1, .ref 0), (0, .retAddr 0)], [.ref 121, .int 0])) mJ_0 (by decide +kernel) rfl ?_
  refine mk_p (M := mG_0) (i := .aload_n 0) (len := 1) (f' := (486, [(3, .int 0), (2, .ref 121), (1, .ref 0), (0, .retAddr 0)], [.retAddr 0, .ref 121, .int 0])) mJ_0 (by decide +kernel) rfl ?_
  refine mk_p (M := mG_0) (i := .iload_n 3) (len := 1) (f' := (487, [(3, .int 0), (2, .ref 121), (1, .ref 0), (0, .retAddr 0)], [.int 0, .retAddr 0, .ref 121, .int 0])) mJ_0 (by decide +kernel) rfl ?_
  refine mk_v (M := mG_0) (i := .iconst 1) (len := 1) (pc' := 488) (v' := .int 1) (st' := [.int 0, .retAddr 0, .ref 121, .int 0]) mJ_0 (by decide +kernel) rfl (by decide +kernel) ?_
  refine mk_v (M := mG_0) (i := .iadd) (len := 1) (pc' := 489) (v' := .int 1) (st' := [.retAddr 0, .ref 121, .int 0]) mJ_0 (by decide +kernel) rfl (by decide +kernel) ?_
  refine mk_h (M := mG_0) (i := .iaload) (len := 1) (f' := (490, [(3, .int 0), (2, .ref 121), (1, .ref 0), (0, .retAddr 0)], [.int a1, .ref 121, .int 0])) (h' := h) (sl' := sl) mJ_0 (by decide +kernel) rfl (mh_ial (xs := [a0, a1, a2, a3, a4, a5]) (x := 1) rfl (show mi_in 1 6 = true by decide +kernel) rfl) ?_
  refine mk_p (M := mG_0) (i := .aload_n 0) (len := 1) (f' := (491, [(3, .int 0), (2, .ref 121), (1, .ref 0), (0, .retAddr 0)], [.retAddr 0, .int a1, .ref 121, .int 0])) mJ_0 (by decide +kernel) rfl ?_
  refine mk_p (M := mG_0) (i := .iload_n 3) (len := 1) (f' := (492, [(3, .int 0), (2, .ref 121), (1, .ref 0), (0, .retAddr 0)], [.int 0, .retAddr 0, .int a1, .ref 121, .int 0])) mJ_0 (by decide +kernel) rfl ?_
  refine mk_v (M := mG_0) (i := .iconst 2) (len := 1) (pc' := 493) (v' := .int 2) (st' := [.int 0, .retAddr 0, .int a1, .ref 121, .int 0]) mJ_0 (by decide +kernel) rfl (by decide +kernel) ?_
  refine mk_v (M := mG_0) (i := .iadd) (len := 1) (pc' := 494) (v' := .int 2) (st' := [.retAddr 0, .int a1, .ref 121, .int 0]) mJ_0 (by decide +kernel) rfl (by decide +kernel) ?_
  refine mk_h (M := mG_0) (i := .iaload) (len := 1) (f' := (495, [(3, .int 0), (2, .ref 121), (1, .ref 0), (0, .retAddr 0)], [.int a2, .int a1, .ref 121, .int 0])) (h' := h) (sl' := sl) mJ_0 (by decide +kernel) rfl (mh_ial (xs := [a0, a1, a2, a3, a4, a5]) (x := 2) rfl (show mi_in 2 6 = true by decide +kernel) rfl) ?_
  refine mk_p (M := mG_0) (i := .aload_n 0) (len := 1) (f' := (496, [(3, .int 0), (2, .ref 121), (1, .ref 0), (0, .retAddr 0)], [.retAddr 0, .int a2, .int a1, .ref 121, .int 0])) mJ_0 (by decide +kernel) rfl ?_
  refine mk_p (M := mG_0) (i := .iload_n 3) (len := 1) (f' := (497, [(3, .int 0), (2, .ref 121), (1, .ref 0), (0, .retAddr 0)], [.int 0, .retAddr 0, .int a2, .int a1, .ref 121, .int 0])) mJ_0 (by decide +kernel) rfl ?_
  refine mk_v (M := mG_0) (i := .iconst 3) (len := 1) (pc' := 498) (v' := .int 3) (st' := [.int 0, .retAddr 0, .int a2, .int a1, .ref 121, .int 0]) mJ_0 (by decide +kernel) rfl (by decide +kernel) ?_
  refine mk_v (M := mG_0) (i := .iadd) (len := 1) (pc' := 499) (v' := .int 3) (st' := [.retAddr 0, .int a2, .int a1, .ref 121, .int 0]) mJ_0 (by decide +kernel) rfl (by decide +kernel) ?_
  refine mk_h (M := mG_0) (i := .iaload) (len := 1) (f' := (500, [(3, .int 0), (2, .ref 121), (1, .ref 0), (0, .retAddr 0)], [.int a3, .int a2, .int a1, .ref 121, .int 0])) (h' := h) (sl' := sl) mJ_0 (by decide +kernel) rfl (mh_ial (xs := [a0, a1, a2, a3, a4, a5]) (x := 3) rfl (show mi_in 3 6 = true by decide +kernel) rfl) ?_
  refine mk_c (M := mG_0) (i := .invokevirtual 73) (len := 3) (M' := mG_61) (j' := 61) (as := [.ref 121, .int a1, .int a2, .int a3]) (rest := [.int 0]) mJ_0 (by decide +kernel) rfl rfl rfl rfl (mh_virt (n := 3) (a := 121) (ci := 13) (by decide +kernel) rfl g121 (Nat.le_of_ble_eq_true rfl) rfl) mJ_61 (Nat.le_of_ble_eq_true rfl) (mi_pos g121) ?_
  show mi_ok _ mi_Γ (mi_ev [a0, a1, a2, a3, a4, a5]) 61 (0, [(0, .ref 121), (1, .int a1), (2, .int a2), (3, .int a3)], []) h sl
  refine mk_p (M := mG_61) (i := .aload_n 0) (len := 1) (f' := (1, [(0, .ref 121), (1, .int a1), (2, .int a2), (3, .int a3)], [.ref 121])) mJ_61 (by decide +kernel) rfl ?_
  refine mk_p (M := mG_61) (i := .iload_n 1) (len := 1) (f' := (2, [(0, .ref 121), (1, .int a1), (2, .int a2), (3, .int a3)], [.int a1, .ref 121])) mJ_61 (by decide +kernel) rfl ?_
  refine mk_p (M := mG_61) (i := .iload_n 2) (len := 1) (f' := (3, [(0, .ref 121), (1, .int a1), (2, .int a2), (3, .int a3)], [.int a2, .int a1, .ref 121])) mJ_61 (by decide +kernel) rfl ?_
  refine mk_c (M := mG_61) (i := .invokevirtual 800) (len := 3) (M' := mG_82) (j' := 82) (as := [.ref 121, .int a1, .int a2]) (rest := []) mJ_61 (by decide +kernel) rfl rfl rfl rfl (mh_virt (n := 2) (a := 121) (ci := 13) (by decide +kernel) rfl g121 (Nat.le_of_ble_eq_true rfl) rfl) mJ_82 (Nat.le_of_ble_eq_true rfl) (mi_pos g121) ?_
  show mi_ok _ mi_Γ (mi_ev [a0, a1, a2, a3, a4, a5]) 82 (0, [(0, .ref 121), (1, .int a1), (2, .int a2)], []) h sl
  refine mk_p (M := mG_82) (i := .aload_n 0) (len := 1) (f' := (1, [(0, .ref 121), (1, .int a1), (2, .int a2)], [.ref 121])) mJ_82 (by decide +kernel) rfl ?_
  refine mk_p (M := mG_82) (i := .iload_n 1) (len := 1) (f' := (2, [(0, .ref 121), (1, .int a1), (2, .int a2)], [.int a1, .ref 121])) mJ_82 (by decide +kernel) rfl ?_
  refine mk_c (M := mG_82) (i := .invokevirtual 797) (len := 3) (M' := mG_68) (j' := 68) (as := [.ref 121, .int a1]) (rest := []) mJ_82 (by decide +kernel) rfl rfl rfl rfl (mh_virt (n := 1) (a := 121) (ci := 13) (by decide +kernel) rfl g121 (Nat.le_of_ble_eq_true rfl) rfl) mJ_68 (Nat.le_of_ble_eq_true rfl) (mi_pos g121) ?_
  show mi_ok _ mi_Γ (mi_ev [a0, a1, a2, a3, a4, a5]) 68 (0, [(0, .ref 121), (1, .int a1)], []) h sl
  refine mk_p (M := mG_68) (i := .aload_n 0) (len := 1) (f' := (1, [(0, .ref 121), (1, .int a1)], [.ref 121])) mJ_68 (by decide +kernel) rfl ?_
  refine mk_h (M := mG_68) (i := .getfield 794) (len := 3) (f' := (4, [(0, .ref 121), (1, .int a1)], [.int 0])) (h' := h) (sl' := sl) mJ_68 (by decide +kernel) rfl (mh_getf (ci := 13) (k := 2) (by decide +kernel) g121 rfl) ?_
  refine mk_t (M := mG_68) (i := .ifCond .eq 22) (len := 3) (q := decide ((0 : Int32) = (0 : Int32))) (off := 22) (t := 26) (st' := []) mJ_68 (by decide +kernel) rfl (by decide +kernel) (by decide +kernel) ?_
  refine mk_v (M := mG_68) (i := .iconst 0) (len := 1) (pc' := 27) (v' := .int 0) (st' := []) mJ_68 (by decide +kernel) rfl (by decide +kernel) ?_
  refine mk_r (M := mG_68) (i := .ireturn) (len := 1) (r := some (.int 0)) mJ_68 (by decide +kernel) rfl rfl (by decide +kernel) ?_
  show mi_ok _ mi_Γ (mi_ev [a0, a1, a2, a3, a4, a5]) 82 (5, [(0, .ref 121), (1, .int a1), (2, .int a2)], [.int 0]) h sl
  refine mk_t (M := mG_82) (i := .ifCond .eq 44) (len := 3) (q := decide ((0 : Int32) = (0 : Int32))) (off := 44) (t := 49) (st' := []) mJ_82 (by decide +kernel) rfl (by decide +kernel) (by decide +kernel) ?_
  refine mk_v (M := mG_82) (i := .iconst (-1)) (len := 1) (pc' := 50) (v' := .int (-1)) (st' := []) mJ_82 (by decide +kernel) rfl (by decide +kernel) ?_
  refine mk_r (M := mG_82) (i := .ireturn) (len := 1) (r := some (.int (-1))) mJ_82 (by decide +kernel) rfl rfl (by decide +kernel) ?_
  show mi_ok _ mi_Γ (mi_ev [a0, a1, a2, a3, a4, a5]) 61 (6, [(0, .ref 121), (1, .int a1), (2, .int a2), (3, .int a3)], [.int (-1)]) h sl
  refine mk_p (M := mG_61) (i := .istore 4) (len := 2) (f' := (8, [(4, .int (-1)), (0, .ref 121), (1, .int a1), (2, .int a2), (3, .int a3)], [])) mJ_61 (by decide +kernel) rfl ?_
  refine mk_p (M := mG_61) (i := .iload 4) (len := 2) (f' := (10, [(4, .int (-1)), (0, .ref 121), (1, .int a1), (2, .int a2), (3, .int a3)], [.int (-1)])) mJ_61 (by decide +kernel) rfl ?_
  refine mk_f (M := mG_61) (i := .ifCond .ge 13) (len := 3) (q := decide ((0 : Int32) ≤ ((-1) : Int32))) (off := 13) (t := 23) (pc' := 13) (st' := []) mJ_61 (by decide +kernel) rfl (by decide +kernel) (by decide +kernel) rfl ?_
  refine mk_p (M := mG_61) (i := .iload_n 3) (len := 1) (f' := (14, [(4, .int (-1)), (0, .ref 121), (1, .int a1), (2, .int a2), (3, .int a3)], [.int a3])) mJ_61 (by decide +kernel) rfl ?_
  refine mk_t (M := mG_61) (i := .ifCond .ne 7) (len := 3) (q := decide (¬ a3 = (0 : Int32))) (off := 7) (t := 21) (st' := []) mJ_61 (by decide +kernel) rfl (by have e : (0 : Int32).toInt = 0 := (by decide +kernel); simp only [decide_eq_true_eq, decide_eq_false_iff_not, Int32.lt_iff_toInt_lt, Int32.le_iff_toInt_le, ← Int32.toInt_inj, e]; omega) (by decide +kernel) ?_
  refine mk_v (M := mG_61) (i := .iconst 0) (len := 1) (pc' := 22) (v' := .int 0) (st' := []) mJ_61 (by decide +kernel) rfl (by decide +kernel) ?_
  refine mk_r (M := mG_61) (i := .ireturn) (len := 1) (r := some (.int 0)) mJ_61 (by decide +kernel) rfl rfl (by decide +kernel) ?_
  show mi_ok _ mi_Γ (mi_ev [a0, a1, a2, a3, a4, a5]) 0 (503, [(3, .int 0), (2, .ref 121), (1, .ref 0), (0, .retAddr 0)], [.int 0, .int 0]) h sl
  refine mk_t (M := mG_0) (i := .if_icmp .eq 172) (len := 3) (q := decide ((0 : Int32) = (0 : Int32))) (off := 172) (t := 675) (st' := []) mJ_0 (by decide +kernel) rfl (by decide +kernel) (by decide +kernel) ?_
  refine mk_i (M := mG_0) (len := 3) (k := 3) (n := 6) (x := 0) (y := 6) (lv' := [(3, .int 6), (2, .ref 121), (1, .ref 0), (0, .retAddr 0)]) (pc' := 678) mJ_0 (by decide +kernel) rfl (by decide +kernel) (by decide +kernel) rfl rfl ?_
  refine mk_g (M := mG_0) (len := 3) (off := (-660)) (t := 18) mJ_0 (by decide +kernel) (by decide +kernel) ?_
  refine mk_p (M := mG_0) (i := .iload_n 3) (len := 1) (f' := (19, [(3, .int 6), (2, .ref 121), (1, .ref 0), (0, .retAddr 0)], [.int 6])) mJ_0 (by decide +kernel) rfl ?_
  refine mk_p (M := mG_0) (i := .aload_n 0) (len := 1) (f' := (20, [(3, .int 6), (2, .ref 121), (1, .ref 0), (0, .retAddr 0)], [.retAddr 0, .int 6])) mJ_0 (by decide +kernel) rfl ?_
  refine mk_h (M := mG_0) (i := .arraylength) (len := 1) (f' := (21, [(3, .int 6), (2, .ref 121), (1, .ref 0), (0, .retAddr 0)], [.int 6, .int 6])) (h' := h) (sl' := sl) mJ_0 (by decide +kernel) rfl rfl ?_
  refine mk_v (M := mG_0) (i := .bipush 6) (len := 2) (pc' := 23) (v' := .int 6) (st' := [.int 6, .int 6]) mJ_0 (by decide +kernel) rfl (by decide +kernel) ?_
  refine mk_v (M := mG_0) (i := .isub) (len := 1) (pc' := 24) (v' := .int 0) (st' := [.int 6]) mJ_0 (by decide +kernel) rfl (by decide +kernel) ?_
  refine mk_t (M := mG_0) (i := .if_icmp .gt 657) (len := 3) (q := decide ((0 : Int32) < (6 : Int32))) (off := 657) (t := 681) (st' := []) mJ_0 (by decide +kernel) rfl (by decide +kernel) (by decide +kernel) ?_
  refine mk_v (M := mG_0) (i := .iconst 1) (len := 1) (pc' := 682) (v' := .int 1) (st' := []) mJ_0 (by decide +kernel) rfl (by decide +kernel) ?_
  refine mk_r (M := mG_0) (i := .ireturn) (len := 1) (r := some (.int 1)) mJ_0 (by decide +kernel) rfl rfl (by decide +kernel) ?_
  exact ⟨rfl, hl, rfl⟩
