/-! The law, one call. -/
set_option maxRecDepth 20000 in
theorem lw1_9 {N sl : Nat} {h : List mi_C} (a0 a1 a2 a3 a4 a5 : Int32) (hk : a0 &&& 31 = 9) (hl : h.length = N) (g0 : h[0]? = some (.inl (11, [.ref 1, .int 0, .int 0, .ref 2, .ref 13, .ref 49, .int 0, .int (-1), .ref 85, .ref 86, .ref 92, .ref 112, .int 0, .ref 113]))) (g121 : h[121]? = some (.inl (13, [.ref 122, .ref 168, .int 0, .ref 214, .int 0, .int 0, .ref 215, .int 0, .ref 216, .ref 217, .int 0, .int 0, .int (-1), .ref 218, .ref 219, .ref 220, .ref 221, .ref 222, .ref 223, .int 0, .ref 224, .ref 225, .ref 226, .ref 227, .ref 228, .int 0, .ref 229, .ref 230, .ref 231, .ref 232, .ref 233, .ref 234, .ref 235, .ref 236, .ref 237, .ref 238, .int 0, .int 0, .int 0, .int 0, .long 0, .ref 239, .ref 240, .ref 241, .ref 242, .ref 243, .ref 244, .ref 245, .ref 246, .ref 247, .ref 248, .ref 249, .int 0, .int 0, .int 0, .int 0, .int 0, .int 0, .int 0, .int (-1), .int (-1), .int 0, .int 0, .int 0]))) : mi_ok (mi_fin N sl) mi_Γ (mi_ev [a0, a1, a2, a3, a4, a5]) 0 (18, [(3, .int 0), (2, .ref 121), (1, .ref 0), (0, .retAddr 0)], []) h sl := by
  refine mk_p (M := mG_0) (i := .iload_n 3) (len := 1) (f' := (19, [(3, .int 0), (2, .ref 121), (1, .ref 0), (0, .retAddr 0)], [.int 0])) mJ_0 (by decide +kernel) rfl ?_
  refine mk_p (M := mG_0) (i := .aload_n 0) (len := 1) (f' := (20, [(3, .int 0), (2, .ref 121), (1, .ref 0), (0, .retAddr 0)], [.retAddr 0, .int 0])) mJ_0 (by decide +kernel) rfl ?_
  refine mk_h (M := mG_0) (i := .arraylength) (len := 1) (f' := (21, [(3, .int 0), (2, .ref 121), (1, .ref 0), (0, .retAddr 0)], [.int 6, .int 0])) (h' := h) (sl' := sl) mJ_0 (by decide +kernel) rfl rfl ?_
  refine mk_v (M := mG_0) (i := .bipush 6) (len := 2) (pc' := 23) (v' := .int 6) (st' := [.int 6, .int 0]) mJ_0 (by decide +kernel) rfl (by decide +kernel) ?_
  refine mk_v (M := mG_0) (i := .isub) (len := 1) (pc' := 24) (v' := .int 0) (st' := [.int 0]) mJ_0 (by decide +kernel) rfl (by decide +kernel) ?_
  refine mk_f (M := mG_0) (i := .if_icmp .gt 657) (len := 3) (q := decide ((0 : Int32) < (0 : Int32))) (off := 657) (t := 681) (pc' := 27) (st' := []) mJ_0 (by decide +kernel) rfl (by decide +kernel) (by decide +kernel) rfl ?_
  refine mk_p (M := mG_0) (i := .aload_n 0) (len := 1) (f' := (28, [(3, .int 0), (2, .ref 121), (1, .ref 0), (0, .retAddr 0)], [.retAddr 0])) mJ_0 (by decide +kernel) rfl ?_
  refine mk_p (M := mG_0) (i := .iload_n 3) (len := 1) (f' := (29, [(3, .int 0), (2, .ref 121), (1, .ref 0), (0, .retAddr 0)], [.int 0, .retAddr 0])) mJ_0 (by decide +kernel) rfl ?_
  refine mk_h (M := mG_0) (i := .iaload) (len := 1) (f' := (30, [(3, .int 0), (2, .ref 121), (1, .ref 0), (0, .retAddr 0)], [.int a0])) (h' := h) (sl' := sl) mJ_0 (by decide +kernel) rfl (mh_ial (xs := [a0, a1, a2, a3, a4, a5]) (x := 0) rfl (show mi_in 0 6 = true by decide +kernel) rfl) ?_
  refine mk_v (M := mG_0) (i := .bipush 31) (len := 2) (pc' := 32) (v' := .int 31) (st' := [.int a0]) mJ_0 (by decide +kernel) rfl (by decide +kernel) ?_
  refine mk_p (M := mG_0) (i := .iand) (len := 1) (f' := (33, [(3, .int 0), (2, .ref 121), (1, .ref 0), (0, .retAddr 0)], [.int ((a0 &&& 31))])) mJ_0 (by decide +kernel) rfl ?_
  refine mk_s (M := mG_0) (len := 103) (dflt := 642) (lo := 0) (hi := 21) (offs := #[103, 166, 189, 202, 215, 238, 261, 285, 299, 332, 365, 398, 432, 475, 508, 531, 554, 567, 580, 593, 606, 629]) (X := 9) (t := 365) mJ_0 (by decide +kernel) hk (by decide +kernel) ?_
  refine mk_p (M := mG_0) (i := .aload_n 1) (len := 1) (f' := (366, [(3, .int 0), (2, .ref 121), (1, .ref 0), (0, .retAddr 0)], [.ref 0])) mJ_0 (by decide +kernel) rfl ?_
  refine mk_p (M := mG_0) (i := .aload_n 0) (len := 1) (f' := (367, [(3, .int 0), (2, .ref 121), (1, .ref 0), (0, .retAddr 0)], [.retAddr 0, .ref 0])) mJ_0 (by decide +kernel) rfl ?_
  refine mk_p (M := mG_0) (i := .iload_n 3) (len := 1) (f' := (368, [(3, .int 0), (2, .ref 121), (1, .ref 0), (0, .retAddr 0)], [.int 0, .retAddr 0, .ref 0])) mJ_0 (by decide +kernel) rfl ?_
  refine mk_v (M := mG_0) (i := .iconst 1) (len := 1) (pc' := 369) (v' := .int 1) (st' := [.int 0, .retAddr 0, .ref 0]) mJ_0 (by decide +kernel) rfl (by decide +kernel) ?_
  refine mk_v (M := mG_0) (i := .iadd) (len := 1) (pc' := 370) (v' := .int 1) (st' := [.retAddr 0, .ref 0]) mJ_0 (by decide +kernel) rfl (by decide +kernel) ?_
  refine mk_h (M := mG_0) (i := .iaload) (len := 1) (f' := (371, [(3, .int 0), (2, .ref 121), (1, .ref 0), (0, .retAddr 0)], [.int a1, .ref 0])) (h' := h) (sl' := sl) mJ_0 (by decide +kernel) rfl (mh_ial (xs := [a0, a1, a2, a3, a4, a5]) (x := 1) rfl (show mi_in 1 6 = true by decide +kernel) rfl) ?_
  refine mk_p (M := mG_0) (i := .aload_n 0) (len := 1) (f' := (372, [(3, .int 0), (2, .ref 121), (1, .ref 0), (0, .retAddr 0)], [.retAddr 0, .int a1, .ref 0])) mJ_0 (by decide +kernel) rfl ?_
  refine mk_p (M := mG_0) (i := .iload_n 3) (len := 1) (f' := (373, [(3, .int 0), (2, .ref 121), (1, .ref 0), (0, .retAddr 0)], [.int 0, .retAddr 0, .int a1, .ref 0])) mJ_0 (by decide +kernel) rfl ?_
  refine mk_v (M := mG_0) (i := .iconst 2) (len := 1) (pc' := 374) (v' := .int 2) (st' := [.int 0, .retAddr 0, .int a1, .ref 0]) mJ_0 (by decide +kernel) rfl (by decide +kernel) ?_
  refine mk_v (M := mG_0) (i := .iadd) (len := 1) (pc' := 375) (v' := .int 2) (st' := [.retAddr 0, .int a1, .ref 0]) mJ_0 (by decide +kernel) rfl (by decide +kernel) ?_
  refine mk_h (M := mG_0) (i := .iaload) (len := 1) (f' := (376, [(3, .int 0), (2, .ref 121), (1, .ref 0), (0, .retAddr 0)], [.int a2, .int a1, .ref 0])) (h' := h) (sl' := sl) mJ_0 (by decide +kernel) rfl (mh_ial (xs := [a0, a1, a2, a3, a4, a5]) (x := 2) rfl (show mi_in 2 6 = true by decide +kernel) rfl) ?_
  refine mk_c (M := mG_0) (i := .invokevirtual 56) (len := 3) (M' := mG_42) (j' := 42) (as := [.ref 0, .int a1, .int a2]) (rest := []) mJ_0 (by decide +kernel) rfl rfl rfl rfl (mh_virt (n := 2) (a := 0) (ci := 11) (by decide +kernel) rfl g0 (Nat.le_of_ble_eq_true rfl) rfl) mJ_42 (Nat.le_of_ble_eq_true rfl) (mi_pos g0) ?_
  show mi_ok _ mi_Γ (mi_ev [a0, a1, a2, a3, a4, a5]) 42 (0, [(0, .ref 0), (1, .int a1), (2, .int a2)], []) h sl
  refine mk_p (M := mG_42) (i := .aload_n 0) (len := 1) (f' := (1, [(0, .ref 0), (1, .int a1), (2, .int a2)], [.ref 0])) mJ_42 (by decide +kernel) rfl ?_
  refine mk_p (M := mG_42) (i := .iload_n 1) (len := 1) (f' := (2, [(0, .ref 0), (1, .int a1), (2, .int a2)], [.int a1, .ref 0])) mJ_42 (by decide +kernel) rfl ?_
  refine mk_p (M := mG_42) (i := .iload_n 2) (len := 1) (f' := (3, [(0, .ref 0), (1, .int a1), (2, .int a2)], [.int a2, .int a1, .ref 0])) mJ_42 (by decide +kernel) rfl ?_
  refine mk_c (M := mG_42) (i := .invokevirtual 194) (len := 3) (M' := mG_31) (j' := 31) (as := [.ref 0, .int a1, .int a2]) (rest := []) mJ_42 (by decide +kernel) rfl rfl rfl rfl (mh_virt (n := 2) (a := 0) (ci := 11) (by decide +kernel) rfl g0 (Nat.le_of_ble_eq_true rfl) rfl) mJ_31 (Nat.le_of_ble_eq_true rfl) (mi_pos g0) ?_
  show mi_ok _ mi_Γ (mi_ev [a0, a1, a2, a3, a4, a5]) 31 (0, [(0, .ref 0), (1, .int a1), (2, .int a2)], []) h sl
  refine mk_p (M := mG_31) (i := .aload_n 0) (len := 1) (f' := (1, [(0, .ref 0), (1, .int a1), (2, .int a2)], [.ref 0])) mJ_31 (by decide +kernel) rfl ?_
  refine mk_p (M := mG_31) (i := .iload_n 1) (len := 1) (f' := (2, [(0, .ref 0), (1, .int a1), (2, .int a2)], [.int a1, .ref 0])) mJ_31 (by decide +kernel) rfl ?_
  refine mk_p (M := mG_31) (i := .iload_n 2) (len := 1) (f' := (3, [(0, .ref 0), (1, .int a1), (2, .int a2)], [.int a2, .int a1, .ref 0])) mJ_31 (by decide +kernel) rfl ?_
  refine mk_c (M := mG_31) (i := .invokevirtual 184) (len := 3) (M' := mG_48) (j' := 48) (as := [.ref 0, .int a1, .int a2]) (rest := []) mJ_31 (by decide +kernel) rfl rfl rfl rfl (mh_virt (n := 2) (a := 0) (ci := 11) (by decide +kernel) rfl g0 (Nat.le_of_ble_eq_true rfl) rfl) mJ_48 (Nat.le_of_ble_eq_true rfl) (mi_pos g0) ?_
  show mi_ok _ mi_Γ (mi_ev [a0, a1, a2, a3, a4, a5]) 48 (0, [(0, .ref 0), (1, .int a1), (2, .int a2)], []) h sl
  refine mk_p (M := mG_48) (i := .aload_n 0) (len := 1) (f' := (1, [(0, .ref 0), (1, .int a1), (2, .int a2)], [.ref 0])) mJ_48 (by decide +kernel) rfl ?_
  refine mk_p (M := mG_48) (i := .iload_n 1) (len := 1) (f' := (2, [(0, .ref 0), (1, .int a1), (2, .int a2)], [.int a1, .ref 0])) mJ_48 (by decide +kernel) rfl ?_
  refine mk_c (M := mG_48) (i := .invokevirtual 142) (len := 3) (M' := mG_38) (j' := 38) (as := [.ref 0, .int a1]) (rest := []) mJ_48 (by decide +kernel) rfl rfl rfl rfl (mh_virt (n := 1) (a := 0) (ci := 11) (by decide +kernel) rfl g0 (Nat.le_of_ble_eq_true rfl) rfl) mJ_38 (Nat.le_of_ble_eq_true rfl) (mi_pos g0) ?_
  show mi_ok _ mi_Γ (mi_ev [a0, a1, a2, a3, a4, a5]) 38 (0, [(0, .ref 0), (1, .int a1)], []) h sl
  refine mk_p (M := mG_38) (i := .aload_n 0) (len := 1) (f' := (1, [(0, .ref 0), (1, .int a1)], [.ref 0])) mJ_38 (by decide +kernel) rfl ?_
  refine mk_h (M := mG_38) (i := .getfield 108) (len := 3) (f' := (4, [(0, .ref 0), (1, .int a1)], [.int 0])) (h' := h) (sl' := sl) mJ_38 (by decide +kernel) rfl (mh_getf (ci := 11) (k := 6) (by decide +kernel) g0 rfl) ?_
  refine mk_t (M := mG_38) (i := .ifCond .eq 22) (len := 3) (q := decide ((0 : Int32) = (0 : Int32))) (off := 22) (t := 26) (st' := []) mJ_38 (by decide +kernel) rfl (by decide +kernel) (by decide +kernel) ?_
  refine mk_v (M := mG_38) (i := .iconst 0) (len := 1) (pc' := 27) (v' := .int 0) (st' := []) mJ_38 (by decide +kernel) rfl (by decide +kernel) ?_
  refine mk_r (M := mG_38) (i := .ireturn) (len := 1) (r := some (.int 0)) mJ_38 (by decide +kernel) rfl rfl (by decide +kernel) ?_
  show mi_ok _ mi_Γ (mi_ev [a0, a1, a2, a3, a4, a5]) 48 (5, [(0, .ref 0), (1, .int a1), (2, .int a2)], [.int 0]) h sl
  refine mk_t (M := mG_48) (i := .ifCond .eq 28) (len := 3) (q := decide ((0 : Int32) = (0 : Int32))) (off := 28) (t := 33) (st' := []) mJ_48 (by decide +kernel) rfl (by decide +kernel) (by decide +kernel) ?_
  refine mk_v (M := mG_48) (i := .iconst (-1)) (len := 1) (pc' := 34) (v' := .int (-1)) (st' := []) mJ_48 (by decide +kernel) rfl (by decide +kernel) ?_
  refine mk_r (M := mG_48) (i := .ireturn) (len := 1) (r := some (.int (-1))) mJ_48 (by decide +kernel) rfl rfl (by decide +kernel) ?_
  show mi_ok _ mi_Γ (mi_ev [a0, a1, a2, a3, a4, a5]) 31 (6, [(0, .ref 0), (1, .int a1), (2, .int a2)], [.int (-1)]) h sl
  refine mk_p (M := mG_31) (i := .istore_n 3) (len := 1) (f' := (7, [(3, .int (-1)), (0, .ref 0), (1, .int a1), (2, .int a2)], [])) mJ_31 (by decide +kernel) rfl ?_
  refine mk_p (M := mG_31) (i := .iload_n 3) (len := 1) (f' := (8, [(3, .int (-1)), (0, .ref 0), (1, .int a1), (2, .int a2)], [.int (-1)])) mJ_31 (by decide +kernel) rfl ?_
  refine mk_f (M := mG_31) (i := .ifCond .ge 7) (len := 3) (q := decide ((0 : Int32) ≤ ((-1) : Int32))) (off := 7) (t := 15) (pc' := 11) (st' := []) mJ_31 (by decide +kernel) rfl (by decide +kernel) (by decide +kernel) rfl ?_
  refine mk_v (M := mG_31) (i := .lconst 0) (len := 1) (pc' := 12) (v' := .long 0) (st' := []) mJ_31 (by decide +kernel) rfl (by decide +kernel) ?_
  refine mk_g (M := mG_31) (len := 3) (off := 15) (t := 27) mJ_31 (by decide +kernel) (by decide +kernel) ?_
  refine mk_r (M := mG_31) (i := .lreturn) (len := 1) (r := some (.long 0)) mJ_31 (by decide +kernel) rfl rfl (by decide +kernel) ?_
  show mi_ok _ mi_Γ (mi_ev [a0, a1, a2, a3, a4, a5]) 42 (6, [(0, .ref 0), (1, .int a1), (2, .int a2)], [.long 0]) h sl
  refine mk_h (M := mG_42) (i := .ldc2_w 198) (len := 3) (f' := (9, [(0, .ref 0), (1, .int a1), (2, .int a2)], [.long 4503599627370496, .long 0])) (h' := h) (sl' := sl) mJ_42 (by decide +kernel) rfl rfl ?_
  refine mk_v (M := mG_42) (i := .land) (len := 1) (pc' := 10) (v' := .long 0) (st' := []) mJ_42 (by decide +kernel) rfl (by decide +kernel) ?_
  refine mk_v (M := mG_42) (i := .lconst 0) (len := 1) (pc' := 11) (v' := .long 0) (st' := [.long 0]) mJ_42 (by decide +kernel) rfl (by decide +kernel) ?_
  refine mk_v (M := mG_42) (i := .lcmp) (len := 1) (pc' := 12) (v' := .int 0) (st' := []) mJ_42 (by decide +kernel) rfl (by decide +kernel) ?_
  refine mk_f (M := mG_42) (i := .ifCond .ne 7) (len := 3) (q := decide (¬ (0 : Int32) = (0 : Int32))) (off := 7) (t := 19) (pc' := 15) (st' := []) mJ_42 (by decide +kernel) rfl (by decide +kernel) (by decide +kernel) rfl ?_
  refine mk_v (M := mG_42) (i := .iconst 0) (len := 1) (pc' := 16) (v' := .int 0) (st' := []) mJ_42 (by decide +kernel) rfl (by decide +kernel) ?_
  refine mk_g (M := mG_42) (len := 3) (off := 12) (t := 28) mJ_42 (by decide +kernel) (by decide +kernel) ?_
  refine mk_r (M := mG_42) (i := .ireturn) (len := 1) (r := some (.int 0)) mJ_42 (by decide +kernel) rfl rfl (by decide +kernel) ?_
  show mi_ok _ mi_Γ (mi_ev [a0, a1, a2, a3, a4, a5]) 0 (379, [(3, .int 0), (2, .ref 121), (1, .ref 0), (0, .retAddr 0)], [.int 0]) h sl
  refine mk_p (M := mG_0) (i := .aload_n 2) (len := 1) (f' := (380, [(3, .int 0), (2, .ref 121), (1, .ref 0), (0, .retAddr 0)], [.ref 121, .int 0])) mJ_0 (by decide +kernel) rfl ?_
  refine mk_p (M := mG_0) (i := .aload_n 0) (len := 1) (f' := (381, [(3, .int 0), (2, .ref 121), (1, .ref 0), (0, .retAddr 0)], [.retAddr 0, .ref 121, .int 0])) mJ_0 (by decide +kernel) rfl ?_
  refine mk_p (M := mG_0) (i := .iload_n 3) (len := 1) (f' := (382, [(3, .int 0), (2, .ref 121), (1, .ref 0), (0, .retAddr 0)], [.int 0, .retAddr 0, .ref 121, .int 0])) mJ_0 (by decide +kernel) rfl ?_
  refine mk_v (M := mG_0) (i := .iconst 1) (len := 1) (pc' := 383) (v' := .int 1) (st' := [.int 0, .retAddr 0, .ref 121, .int 0]) mJ_0 (by decide +kernel) rfl (by decide +kernel) ?_
  refine mk_v (M := mG_0) (i := .iadd) (len := 1) (pc' := 384) (v' := .int 1) (st' := [.retAddr 0, .ref 121, .int 0]) mJ_0 (by decide +kernel) rfl (by decide +kernel) ?_
  refine mk_h (M := mG_0) (i := .iaload) (len := 1) (f' := (385, [(3, .int 0), (2, .ref 121), (1, .ref 0), (0, .retAddr 0)], [.int a1, .ref 121, .int 0])) (h' := h) (sl' := sl) mJ_0 (by decide +kernel) rfl (mh_ial (xs := [a0, a1, a2, a3, a4, a5]) (x := 1) rfl (show mi_in 1 6 = true by decide +kernel) rfl) ?_
  refine mk_p (M := mG_0) (i := .aload_n 0) (len := 1) (f' := (386, [(3, .int 0), (2, .ref 121), (1, .ref 0), (0, .retAddr 0)], [.retAddr 0, .int a1, .ref 121, .int 0])) mJ_0 (by decide +kernel) rfl ?_
  refine mk_p (M := mG_0) (i := .iload_n 3) (len := 1) (f' := (387, [(3, .int 0), (2, .ref 121), (1, .ref 0), (0, .retAddr 0)], [.int 0, .retAddr 0, .int a1, .ref 121, .int 0])) mJ_0 (by decide +kernel) rfl ?_
  refine mk_v (M := mG_0) (i := .iconst 2) (len := 1) (pc' := 388) (v' := .int 2) (st' := [.int 0, .retAddr 0, .int a1, .ref 121, .int 0]) mJ_0 (by decide +kernel) rfl (by decide +kernel) ?_
  refine mk_v (M := mG_0) (i := .iadd) (len := 1) (pc' := 389) (v' := .int 2) (st' := [.retAddr 0, .int a1, .ref 121, .int 0]) mJ_0 (by decide +kernel) rfl (by decide +kernel) ?_
  refine mk_h (M := mG_0) (i := .iaload) (len := 1) (f' := (390, [(3, .int 0), (2, .ref 121), (1, .ref 0), (0, .retAddr 0)], [.int a2, .int a1, .ref 121, .int 0])) (h' := h) (sl' := sl) mJ_0 (by decide +kernel) rfl (mh_ial (xs := [a0, a1, a2, a3, a4, a5]) (x := 2) rfl (show mi_in 2 6 = true by decide +kernel) rfl) ?_
  refine mk_c (M := mG_0) (i := .invokevirtual 59) (len := 3) (M' := mG_74) (j' := 74) (as := [.ref 121, .int a1, .int a2]) (rest := [.int 0]) mJ_0 (by decide +kernel) rfl rfl rfl rfl (mh_virt (n := 2) (a := 121) (ci := 13) (by decide +kernel) rfl g121 (Nat.le_of_ble_eq_true rfl) rfl) mJ_74 (Nat.le_of_ble_eq_true rfl) (mi_pos g121) ?_
  show mi_ok _ mi_Γ (mi_ev [a0, a1, a2, a3, a4, a5]) 74 (0, [(0, .ref 121), (1, .int a1), (2, .int a2)], []) h sl
  refine mk_p (M := mG_74) (i := .aload_n 0) (len := 1) (f' := (1, [(0, .ref 121), (1, .int a1), (2, .int a2)], [.ref 121])) mJ_74 (by decide +kernel) rfl ?_
  refine mk_p (M := mG_74) (i := .iload_n 1) (len := 1) (f' := (2, [(0, .ref 121), (1, .int a1), (2, .int a2)], [.int a1, .ref 121])) mJ_74 (by decide +kernel) rfl ?_
  refine mk_p (M := mG_74) (i := .iload_n 2) (len := 1) (f' := (3, [(0, .ref 121), (1, .int a1), (2, .int a2)], [.int a2, .int a1, .ref 121])) mJ_74 (by decide +kernel) rfl ?_
  refine mk_c (M := mG_74) (i := .invokevirtual 803) (len := 3) (M' := mG_70) (j' := 70) (as := [.ref 121, .int a1, .int a2]) (rest := []) mJ_74 (by decide +kernel) rfl rfl rfl rfl (mh_virt (n := 2) (a := 121) (ci := 13) (by decide +kernel) rfl g121 (Nat.le_of_ble_eq_true rfl) rfl) mJ_70 (Nat.le_of_ble_eq_true rfl) (mi_pos g121) ?_
  show mi_ok _ mi_Γ (mi_ev [a0, a1, a2, a3, a4, a5]) 70 (0, [(0, .ref 121), (1, .int a1), (2, .int a2)], []) h sl
  refine mk_p (M := mG_70) (i := .aload_n 0) (len := 1) (f' := (1, [(0, .ref 121), (1, .int a1), (2, .int a2)], [.ref 121])) mJ_70 (by decide +kernel) rfl ?_
  refine mk_p (M := mG_70) (i := .iload_n 1) (len := 1) (f' := (2, [(0, .ref 121), (1, .int a1), (2, .int a2)], [.int a1, .ref 121])) mJ_70 (by decide +kernel) rfl ?_
  refine mk_p (M := mG_70) (i := .iload_n 2) (len := 1) (f' := (3, [(0, .ref 121), (1, .int a1), (2, .int a2)], [.int a2, .int a1, .ref 121])) mJ_70 (by decide +kernel) rfl ?_
  refine mk_c (M := mG_70) (i := .invokevirtual 800) (len := 3) (M' := mG_82) (j' := 82) (as := [.ref 121, .int a1, .int a2]) (rest := []) mJ_70 (by decide +kernel) rfl rfl rfl rfl (mh_virt (n := 2) (a := 121) (ci := 13) (by decide +kernel) rfl g121 (Nat.le_of_ble_eq_true rfl) rfl) mJ_82 (Nat.le_of_ble_eq_true rfl) (mi_pos g121) ?_
  show mi_ok _ mi_Γ (mi_ev [a0, a1, a2, a3, a4, a5]) 82 (0, [(0, .ref 121), (1, .int a1), (2, .int a2)], []) h sl
  refine mk_p (M := mG_82) (i := .aload_n 0) (len := 1) (f' := (1, [(0, .ref 121), (1, .int a1), (2, .int a2)], [.ref 121])) mJ_82 (by decide +kernel) rfl ?_
  refine mk_p (M := mG_82) (i := .iload_n 1) (len := 1) (f' := (2, [(0, .ref 121), (1, .int a1), (2, .int a2)], [.int a1, .ref 121])) mJ_82 (by decide +kernel) rfl ?_
  refine mk_c (M := mG_82) (i := .invokevirtual 797) (len := 3) (M' := mG_68) (j' := 68) (as := [.ref 121, .int a1]) (rest := []) mJ_82 (by decide +kernel) rfl rfl rfl rfl (mh_virt (n := 1) (a := 121) (ci := 13) (by decide +kernel) rfl g121 (Nat.le_of_ble_eq_true rfl) rfl) mJ_68 (Nat.le_of_ble_eq_true rfl) (mi_pos g121) ?_
  show mi_ok _ mi_Γ (mi_ev [a0, a1, a2, a3, a4, a5]) 68 (0, [(0, .ref 121), (1, .int a1)], []) h sl
  refine mk_p (M := mG_68) (i := .aload_n 0) (len := 1) (f' := (1, [(0, .ref 121), (1, .int a1)], [.ref 121])) mJ_68 (by decide +kernel) rfl ?_
  refine mk_h (M := mG_68) (i := .getfield 794) (len := 3) (f' := (4, [(0, .ref 121), (1, .int a1)], [.int 0])) (h' := h) (sl' := sl) mJ_68 (by decide +kernel) rfl (mh_getf (ci := 13) (k := 2) (by decide +kernel) g121 rfl) ?_
  refine mk_t (M := mG_68) (i := .ifCond .eq 22) (len := 3) (q := decide ((0 : Int32) = (0 : Int32))) (off := 22) (t := 26) (st' := []) mJ_68 (by decide +kernel) rfl (by decide +kernel) (by decide +kernel) ?_
  refine mk_v (M := mG_68) (i := .iconst 0) (len := 1) (pc' := 27) (v' := .int 0) (st' := []) mJ_68 (by decide +kernel) rfl (by decide +kernel) ?_
  refine mk_r (M := mG_68) (i := .ireturn) (len := 1) (r := some (.int 0)) mJ_68 (by decide +kernel) rfl rfl (by decide +kernel) ?_
  show mi_ok _ mi_Γ (mi_ev [a0, a1, a2, a3, a4, a5]) 82 (5, [(0, .ref 121), (1, .int a1), (2, .int a2)], [.int 0]) h sl
  refine mk_t (M := mG_82) (i := .ifCond .eq 44) (len := 3) (q := decide ((0 : Int32) = (0 : Int32))) (off := 44) (t := 49) (st' := []) mJ_82 (by decide +kernel) rfl (by decide +kernel) (by decide +kernel) ?_
  refine mk_v (M := mG_82) (i := .iconst (-1)) (len := 1) (pc' := 50) (v' := .int (-1)) (st' := []) mJ_82 (by decide +kernel) rfl (by decide +kernel) ?_
  refine mk_r (M := mG_82) (i := .ireturn) (len := 1) (r := some (.int (-1))) mJ_82 (by decide +kernel) rfl rfl (by decide +kernel) ?_
  show mi_ok _ mi_Γ (mi_ev [a0, a1, a2, a3, a4, a5]) 70 (6, [(0, .ref 121), (1, .int a1), (2, .int a2)], [.int (-1)]) h sl
  refine mk_p (M := mG_70) (i := .istore_n 3) (len := 1) (f' := (7, [(3, .int (-1)), (0, .ref 121), (1, .int a1), (2, .int a2)], [])) mJ_70 (by decide +kernel) rfl ?_
  refine mk_p (M := mG_70) (i := .iload_n 3) (len := 1) (f' := (8, [(3, .int (-1)), (0, .ref 121), (1, .int a1), (2, .int a2)], [.int (-1)])) mJ_70 (by decide +kernel) rfl ?_
  refine mk_f (M := mG_70) (i := .ifCond .ge 7) (len := 3) (q := decide ((0 : Int32) ≤ ((-1) : Int32))) (off := 7) (t := 15) (pc' := 11) (st' := []) mJ_70 (by decide +kernel) rfl (by decide +kernel) (by decide +kernel) rfl ?_
  refine mk_v (M := mG_70) (i := .iconst 0) (len := 1) (pc' := 12) (v' := .int 0) (st' := []) mJ_70 (by decide +kernel) rfl (by decide +kernel) ?_
  refine mk_g (M := mG_70) (len := 3) (off := 12) (t := 24) mJ_70 (by decide +kernel) (by decide +kernel) ?_
  refine mk_r (M := mG_70) (i := .ireturn) (len := 1) (r := some (.int 0)) mJ_70 (by decide +kernel) rfl rfl (by decide +kernel) ?_
  show mi_ok _ mi_Γ (mi_ev [a0, a1, a2, a3, a4, a5]) 74 (6, [(0, .ref 121), (1, .int a1), (2, .int a2)], [.int 0]) h sl
  refine mk_v (M := mG_74) (i := .iconst 1) (len := 1) (pc' := 7) (v' := .int 1) (st' := [.int 0]) mJ_74 (by decide +kernel) rfl (by decide +kernel) ?_
  refine mk_t (M := mG_74) (i := .if_icmp .ne 20) (len := 3) (q := decide (¬ (0 : Int32) = (1 : Int32))) (off := 20) (t := 27) (st' := []) mJ_74 (by decide +kernel) rfl (by decide +kernel) (by decide +kernel) ?_
  refine mk_v (M := mG_74) (i := .iconst 0) (len := 1) (pc' := 28) (v' := .int 0) (st' := []) mJ_74 (by decide +kernel) rfl (by decide +kernel) ?_
  refine mk_r (M := mG_74) (i := .ireturn) (len := 1) (r := some (.int 0)) mJ_74 (by decide +kernel) rfl rfl (by decide +kernel) ?_
  show mi_ok _ mi_Γ (mi_ev [a0, a1, a2, a3, a4, a5]) 0 (393, [(3, .int 0), (2, .ref 121), (1, .ref 0), (0, .retAddr 0)], [.int 0, .int 0]) h sl
  refine mk_t (M := mG_0) (i := .if_icmp .eq 282) (len := 3) (q := decide ((0 : Int32) = (0 : Int32))) (off := 282) (t := 675) (st' := []) mJ_0 (by decide +kernel) rfl (by decide +kernel) (by decide +kernel) ?_
  refine mk_i (M := mG_0) (len := 3) (k := 3) (n := 6) (x := 0) (y := 6) (lv' := [(3, .int 6), (2, .ref 121), (1, .ref 0), (0, .retAddr 0)]) (pc' := 678) mJ_0 (by decide +kernel) rfl (by decide +kernel) (by decide +kernel) rfl rfl ?_
  refine mk_g (M := mG_0) (len := 3) (off := (-660)) (t := 18) mJ_0 (by decide +kernel) (by decide +kernel) ?_
  refine mk_p (M := mG_0) (i := .iload_n 3) (len := 1) (f' := (19, [(3, .int 6), (2, .ref 121), (1, .ref 0), (0, .retAddr 0)], [.int 6])) mJ_0 (by decide +kernel) rfl ?_
  refine mk_p (M := mG_0) (i := .aload_n 0) (len := 1) (f' := (20, [(3, .int 6), (2, .ref 121), (1, .ref 0), (0, .retAddr 0)], [.retAddr 0, .int 6])) mJ_0 (by decide +kernel) rfl ?_
  refine mk_h (M := mG_0) (i := .arraylength) (len := 1) (f' := (21, [(3, .int 6), (2, .ref 121), (1, .ref 0), (0, .retAddr 0)], [.int 6, .int 6])) (h' := h) (sl' := sl) mJ_0 (by decide +kernel) rfl rfl ?_
  refine mk_v (M := mG_0) (i := .bipush 6) (len := 2) (pc' := 23) (v' := .int 6) (st' := [.int 6, .int 6]) mJ_0 (by decide +kernel) rfl (by decide +kernel) ?_
  refine mk_v (M := mG_0) (i := .isub) (len := 1) (pc' := 24) (v' := .int 0) (st' := [.int 6]) mJ_0 (by decide +kernel) rfl (by decide +kernel) ?_
  refine mk_t (M := mG_0) (i := .if_icmp .gt 657) (len := 3) (q := decide ((0 : Int32) < (6 : Int32))) (off := 657) (t := 681) (st' := []) mJ_0 (by decide +kernel) rfl (by decide +kernel) (by decide +kernel) ?_
  refine mk_v (M := mG_0) (i := .iconst 1) (len := 1) (pc' := 682) (v' := .int 1) (st' := []) mJ_0 (by decide +kernel) rfl (by decide +kernel) ?_
  refine mk_r (M := mG_0) (i := .ireturn) (len := 1) (r := some (.int 1)) mJ_0 (by decide +kernel) rfl rfl (by decide +kernel) ?_
  exact ⟨rfl, hl, rfl⟩
set_option maxRecDepth 20000 in
theorem lw1_10 {N sl : Nat} {h : List mi_C} (a0 a1 a2 a3 a4 a5 : Int32) (hk : a0 &&& 31 = 10) (hl : h.length = N) (g0 : h[0]? = some (.inl (11, [.ref 1, .int 0, .int 0, .ref 2, .ref 13, .ref 49, .int 0, .int (-1), .ref 85, .ref 86, .ref 92, .ref 112, .int 0, .ref 113]))) (g121 : h[121]? = some (.inl (13, [.ref 122, .ref 168, .int 0, .ref 214, .int 0, .int 0, .ref 215, .int 0, .ref 216, .ref 217, .int 0, .int 0, .int (-1), .ref 218, .ref 219, .ref 220, .ref 221, .ref 222, .ref 223, .int 0, .ref 224, .ref 225, .ref 226, .ref 227, .ref 228, .int 0, .ref 229, .ref 230, .ref 231, .ref 232, .ref 233, .ref 234, .ref 235, .ref 236, .ref 237, .ref 238, .int 0, .int 0, .int 0, .int 0, .long 0, .ref 239, .ref 240, .ref 241, .ref 242, .ref 243, .ref 244, .ref 245, .ref 246, .ref 247, .ref 248, .ref 249, .int 0, .int 0, .int 0, .int 0, .int 0, .int 0, .int 0, .int (-1), .int (-1), .int 0, .int 0, .int 0]))) : mi_ok (mi_fin N sl) mi_Γ (mi_ev [a0, a1, a2, a3, a4, a5]) 0 (18, [(3, .int 0), (2, .ref 121), (1, .ref 0), (0, .retAddr 0)], []) h sl := by
  refine mk_p (M := mG_0) (i := .iload_n 3) (len := 1) (f' := (19, [(3, .int 0), (2, .ref 121), (1, .ref 0), (0, .retAddr 0)], [.int 0])) mJ_0 (by decide +kernel) rfl ?_
  refine mk_p (M := mG_0) (i := .aload_n 0) (len := 1) (f' := (20, [(3, .int 0), (2, .ref 121), (1, .ref 0), (0, .retAddr 0)], [.retAddr 0, .int 0])) mJ_0 (by decide +kernel) rfl ?_
  refine mk_h (M := mG_0) (i := .arraylength) (len := 1) (f' := (21, [(3, .int 0), (2, .ref 121), (1, .ref 0), (0, .retAddr 0)], [.int 6, .int 0])) (h' := h) (sl' := sl) mJ_0 (by decide +kernel) rfl rfl ?_
  refine mk_v (M := mG_0) (i := .bipush 6) (len := 2) (pc' := 23) (v' := .int 6) (st' := [.int 6, .int 0]) mJ_0 (by decide +kernel) rfl (by decide +kernel) ?_
  refine mk_v (M := mG_0) (i := .isub) (len := 1) (pc' := 24) (v' := .int 0) (st' := [.int 0]) mJ_0 (by decide +kernel) rfl (by decide +kernel) ?_
  refine mk_f (M := mG_0) (i := .if_icmp .gt 657) (len := 3) (q := decide ((0 : Int32) < (0 : Int32))) (off := 657) (t := 681) (pc' := 27) (st' := []) mJ_0 (by decide +kernel) rfl (by decide +kernel) (by decide +kernel) rfl ?_
  refine mk_p (M := mG_0) (i := .aload_n 0) (len := 1) (f' := (28, [(3, .int 0), (2, .ref 121), (1, .ref 0), (0, .retAddr 0)], [.retAddr 0])) mJ_0 (by decide +kernel) rfl ?_
  refine mk_p (M := mG_0) (i := .iload_n 3) (len := 1) (f' := (29, [(3, .int 0), (2, .ref 121), (1, .ref 0), (0, .retAddr 0)], [.int 0, .retAddr 0])) mJ_0 (by decide +kernel) rfl ?_
  refine mk_h (M := mG_0) (i := .iaload) (len := 1) (f' := (30, [(3, .int 0), (2, .ref 121), (1, .ref 0), (0, .retAddr 0)], [.int a0])) (h' := h) (sl' := sl) mJ_0 (by decide +kernel) rfl (mh_ial (xs := [a0, a1, a2, a3, a4, a5]) (x := 0) rfl (show mi_in 0 6 = true by decide +kernel) rfl) ?_
  refine mk_v (M := mG_0) (i := .bipush 31) (len := 2) (pc' := 32) (v' := .int 31) (st' := [.int a0]) mJ_0 (by decide +kernel) rfl (by decide +kernel) ?_
  refine mk_p (M := mG_0) (i := .iand) (len := 1) (f' := (33, [(3, .int 0), (2, .ref 121), (1, .ref 0), (0, .retAddr 0)], [.int ((a0 &&& 31))])) mJ_0 (by decide +kernel) rfl ?_
  refine mk_s (M := mG_0) (len := 103) (dflt := 642) (lo := 0) (hi := 21) (offs := #[103, 166, 189, 202, 215, 238, 261, 285, 299, 332, 365, 398, 432, 475, 508, 531, 554, 567, 580, 593, 606, 629]) (X := 10) (t := 398) mJ_0 (by decide +kernel) hk (by decide +kernel) ?_
  refine mk_p (M := mG_0) (i := .aload_n 1) (len := 1) (f' := (399, [(3, .int 0), (2, .ref 121), (1, .ref 0), (0, .retAddr 0)], [.ref 0])) mJ_0 (by decide +kernel) rfl ?_
  refine mk_p (M := mG_0) (i := .aload_n 0) (len := 1) (f' := (400, [(3, .int 0), (2, .ref 121), (1, .ref 0), (0, .retAddr 0)], [.retAddr 0, .ref 0])) mJ_0 (by decide +kernel) rfl ?_
  refine mk_p (M := mG_0) (i := .iload_n 3) (len := 1) (f' := (401, [(3, .int 0), (2, .ref 121), (1, .ref 0), (0, .retAddr 0)], [.int 0, .retAddr 0, .ref 0])) mJ_0 (by decide +kernel) rfl ?_
  refine mk_v (M := mG_0) (i := .iconst 1) (len := 1) (pc' := 402) (v' := .int 1) (st' := [.int 0, .retAddr 0, .ref 0]) mJ_0 (by decide +kernel) rfl (by decide +kernel) ?_
  refine mk_v (M := mG_0) (i := .iadd) (len := 1) (pc' := 403) (v' := .int 1) (st' := [.retAddr 0, .ref 0]) mJ_0 (by decide +kernel) rfl (by decide +kernel) ?_
  refine mk_h (M := mG_0) (i := .iaload) (len := 1) (f' := (404, [(3, .int 0), (2, .ref 121), (1, .ref 0), (0, .retAddr 0)], [.int a1, .ref 0])) (h' := h) (sl' := sl) mJ_0 (by decide +kernel) rfl (mh_ial (xs := [a0, a1, a2, a3, a4, a5]) (x := 1) rfl (show mi_in 1 6 = true by decide +kernel) rfl) ?_
  refine mk_p (M := mG_0) (i := .aload_n 0) (len := 1) (f' := (405, [(3, .int 0), (2, .ref 121), (1, .ref 0), (0, .retAddr 0)], [.retAddr 0, .int a1, .ref 0])) mJ_0 (by decide +kernel) rfl ?_
  refine mk_p (M := mG_0) (i := .iload_n 3) (len := 1) (f' := (406, [(3, .int 0), (2, .ref 121), (1, .ref 0), (0, .retAddr 0)], [.int 0, .retAddr 0, .int a1, .ref 0])) mJ_0 (by decide +kernel) rfl ?_
  refine mk_v (M := mG_0) (i := .iconst 2) (len := 1) (pc' := 407) (v' := .int 2) (st' := [.int 0, .retAddr 0, .int a1, .ref 0]) mJ_0 (by decide +kernel) rfl (by decide +kernel) ?_
  refine mk_v (M := mG_0) (i := .iadd) (len := 1) (pc' := 408) (v' := .int 2) (st' := [.retAddr 0, .int a1, .ref 0]) mJ_0 (by decide +kernel) rfl (by decide +kernel) ?_
  refine mk_h (M := mG_0) (i := .iaload) (len := 1) (f' := (409, [(3, .int 0), (2, .ref 121), (1, .ref 0), (0, .retAddr 0)], [.int a2, .int a1, .ref 0])) (h' := h) (sl' := sl) mJ_0 (by decide +kernel) rfl (mh_ial (xs := [a0, a1, a2, a3, a4, a5]) (x := 2) rfl (show mi_in 2 6 = true by decide +kernel) rfl) ?_
  refine mk_c (M := mG_0) (i := .invokevirtual 60) (len := 3) (M' := mG_35) (j' := 35) (as := [.ref 0, .int a1, .int a2]) (rest := []) mJ_0 (by decide +kernel) rfl rfl rfl rfl (mh_virt (n := 2) (a := 0) (ci := 11) (by decide +kernel) rfl g0 (Nat.le_of_ble_eq_true rfl) rfl) mJ_35 (Nat.le_of_ble_eq_true rfl) (mi_pos g0) ?_
  show mi_ok _ mi_Γ (mi_ev [a0, a1, a2, a3, a4, a5]) 35 (0, [(0, .ref 0), (1, .int a1), (2, .int a2)], []) h sl
  refine mk_p (M := mG_35) (i := .aload_n 0) (len := 1) (f' := (1, [(0, .ref 0), (1, .int a1), (2, .int a2)], [.ref 0])) mJ_35 (by decide +kernel) rfl ?_
  refine mk_p (M := mG_35) (i := .iload_n 1) (len := 1) (f' := (2, [(0, .ref 0), (1, .int a1), (2, .int a2)], [.int a1, .ref 0])) mJ_35 (by decide +kernel) rfl ?_
  refine mk_p (M := mG_35) (i := .iload_n 2) (len := 1) (f' := (3, [(0, .ref 0), (1, .int a1), (2, .int a2)], [.int a2, .int a1, .ref 0])) mJ_35 (by decide +kernel) rfl ?_
  refine mk_c (M := mG_35) (i := .invokevirtual 194) (len := 3) (M' := mG_31) (j' := 31) (as := [.ref 0, .int a1, .int a2]) (rest := []) mJ_35 (by decide +kernel) rfl rfl rfl rfl (mh_virt (n := 2) (a := 0) (ci := 11) (by decide +kernel) rfl g0 (Nat.le_of_ble_eq_true rfl) rfl) mJ_31 (Nat.le_of_ble_eq_true rfl) (mi_pos g0) ?_
  show mi_ok _ mi_Γ (mi_ev [a0, a1, a2, a3, a4, a5]) 31 (0, [(0, .ref 0), (1, .int a1), (2, .int a2)], []) h sl
  refine mk_p (M := mG_31) (i := .aload_n 0) (len := 1) (f' := (1, [(0, .ref 0), (1, .int a1), (2, .int a2)], [.ref 0])) mJ_31 (by decide +kernel) rfl ?_
  refine mk_p (M := mG_31) (i := .iload_n 1) (len := 1) (f' := (2, [(0, .ref 0), (1, .int a1), (2, .int a2)], [.int a1, .ref 0])) mJ_31 (by decide +kernel) rfl ?_
  refine mk_p (M := mG_31) (i := .iload_n 2) (len := 1) (f' := (3, [(0, .ref 0), (1, .int a1), (2, .int a2)], [.int a2, .int a1, .ref 0])) mJ_31 (by decide +kernel) rfl ?_
  refine mk_c (M := mG_31) (i := .invokevirtual 184) (len := 3) (M' := mG_48) (j' := 48) (as := [.ref 0, .int a1, .int a2]) (rest := []) mJ_31 (by decide +kernel) rfl rfl rfl rfl (mh_virt (n := 2) (a := 0) (ci := 11) (by decide +kernel) rfl g0 (Nat.le_of_ble_eq_true rfl) rfl) mJ_48 (Nat.le_of_ble_eq_true rfl) (mi_pos g0) ?_
  show mi_ok _ mi_Γ (mi_ev [a0, a1, a2, a3, a4, a5]) 48 (0, [(0, .ref 0), (1, .int a1), (2, .int a2)], []) h sl
  refine mk_p (M := mG_48) (i := .aload_n 0) (len := 1) (f' := (1, [(0, .ref 0), (1, .int a1), (2, .int a2)], [.ref 0])) mJ_48 (by decide +kernel) rfl ?_
  refine mk_p (M := mG_48) (i := .iload_n 1) (len := 1) (f' := (2, [(0, .ref 0), (1, .int a1), (2, .int a2)], [.int a1, .ref 0])) mJ_48 (by decide +kernel) rfl ?_
  refine mk_c (M := mG_48) (i := .invokevirtual 142) (len := 3) (M' := mG_38) (j' := 38) (as := [.ref 0, .int a1]) (rest := []) mJ_48 (by decide +kernel) rfl rfl rfl rfl (mh_virt (n := 1) (a := 0) (ci := 11) (by decide +kernel) rfl g0 (Nat.le_of_ble_eq_true rfl) rfl) mJ_38 (Nat.le_of_ble_eq_true rfl) (mi_pos g0) ?_
  show mi_ok _ mi_Γ (mi_ev [a0, a1, a2, a3, a4, a5]) 38 (0, [(0, .ref 0), (1, .int a1)], []) h sl
  refine mk_p (M := mG_38) (i := .aload_n 0) (len := 1) (f' := (1, [(0, .ref 0), (1, .int a1)], [.ref 0])) mJ_38 (by decide +kernel) rfl ?_
  refine mk_h (M := mG_38) (i := .getfield 108) (len := 3) (f' := (4, [(0, .ref 0), (1, .int a1)], [.int 0])) (h' := h) (sl' := sl) mJ_38 (by decide +kernel) rfl (mh_getf (ci := 11) (k := 6) (by decide +kernel) g0 rfl) ?_
  refine mk_t (M := mG_38) (i := .ifCond .eq 22) (len := 3) (q := decide ((0 : Int32) = (0 : Int32))) (off := 22) (t := 26) (st' := []) mJ_38 (by decide +kernel) rfl (by decide +kernel) (by decide +kernel) ?_
  refine mk_v (M := mG_38) (i := .iconst 0) (len := 1) (pc' := 27) (v' := .int 0) (st' := []) mJ_38 (by decide +kernel) rfl (by decide +kernel) ?_
  refine mk_r (M := mG_38) (i := .ireturn) (len := 1) (r := some (.int 0)) mJ_38 (by decide +kernel) rfl rfl (by decide +kernel) ?_
  show mi_ok _ mi_Γ (mi_ev [a0, a1, a2, a3, a4, a5]) 48 (5, [(0, .ref 0), (1, .int a1), (2, .int a2)], [.int 0]) h sl
  refine mk_t (M := mG_48) (i := .ifCond .eq 28) (len := 3) (q := decide ((0 : Int32) = (0 : Int32))) (off := 28) (t := 33) (st' := []) mJ_48 (by decide +kernel) rfl (by decide +kernel) (by decide +kernel) ?_
  refine mk_v (M := mG_48) (i := .iconst (-1)) (len := 1) (pc' := 34) (v' := .int (-1)) (st' := []) mJ_48 (by decide +kernel) rfl (by decide +kernel) ?_
  refine mk_r (M := mG_48) (i := .ireturn) (len := 1) (r := some (.int (-1))) mJ_48 (by decide +kernel) rfl rfl (by decide +kernel) ?_
  show mi_ok _ mi_Γ (mi_ev [a0, a1, a2, a3, a4, a5]) 31 (6, [(0, .ref 0), (1, .int a1), (2, .int a2)], [.int (-1)]) h sl
  refine mk_p (M := mG_31) (i := .istore_n 3) (len := 1) (f' := (7, [(3, .int (-1)), (0, .ref 0), (1, .int a1), (2, .int a2)], [])) mJ_31 (by decide +kernel) rfl ?_
  refine mk_p (M := mG_31) (i := .iload_n 3) (len := 1) (f' := (8, [(3, .int (-1)), (0, .ref 0), (1, .int a1), (2, .int a2)], [.int (-1)])) mJ_31 (by decide +kernel) rfl ?_
  refine mk_f (M := mG_31) (i := .ifCond .ge 7) (len := 3) (q := decide ((0 : Int32) ≤ ((-1) : Int32))) (off := 7) (t := 15) (pc' := 11) (st' := []) mJ_31 (by decide +kernel) rfl (by decide +kernel) (by decide +kernel) rfl ?_
  refine mk_v (M := mG_31) (i := .lconst 0) (len := 1) (pc' := 12) (v' := .long 0) (st' := []) mJ_31 (by decide +kernel) rfl (by decide +kernel) ?_
  refine mk_g (M := mG_31) (len := 3) (off := 15) (t := 27) mJ_31 (by decide +kernel) (by decide +kernel) ?_
  refine mk_r (M := mG_31) (i := .lreturn) (len := 1) (r := some (.long 0)) mJ_31 (by decide +kernel) rfl rfl (by decide +kernel) ?_
  show mi_ok _ mi_Γ (mi_ev [a0, a1, a2, a3, a4, a5]) 35 (6, [(0, .ref 0), (1, .int a1), (2, .int a2)], [.long 0]) h sl
  refine mk_h (M := mG_35) (i := .ldc2_w 198) (len := 3) (f' := (9, [(0, .ref 0), (1, .int a1), (2, .int a2)], [.long 4503599627370496, .long 0])) (h' := h) (sl' := sl) mJ_35 (by decide +kernel) rfl rfl ?_
  refine mk_v (M := mG_35) (i := .land) (len := 1) (pc' := 10) (v' := .long 0) (st' := []) mJ_35 (by decide +kernel) rfl (by decide +kernel) ?_
  refine mk_v (M := mG_35) (i := .lconst 0) (len := 1) (pc' := 11) (v' := .long 0) (st' := [.long 0]) mJ_35 (by decide +kernel) rfl (by decide +kernel) ?_
  refine mk_v (M := mG_35) (i := .lcmp) (len := 1) (pc' := 12) (v' := .int 0) (st' := []) mJ_35 (by decide +kernel) rfl (by decide +kernel) ?_
  refine mk_f (M := mG_35) (i := .ifCond .ne 7) (len := 3) (q := decide (¬ (0 : Int32) = (0 : Int32))) (off := 7) (t := 19) (pc' := 15) (st' := []) mJ_35 (by decide +kernel) rfl (by decide +kernel) (by decide +kernel) rfl ?_
  refine mk_v (M := mG_35) (i := .iconst 0) (len := 1) (pc' := 16) (v' := .int 0) (st' := []) mJ_35 (by decide +kernel) rfl (by decide +kernel) ?_
  refine mk_g (M := mG_35) (len := 3) (off := 12) (t := 28) mJ_35 (by decide +kernel) (by decide +kernel) ?_
  refine mk_r (M := mG_35) (i := .ireturn) (len := 1) (r := some (.int 0)) mJ_35 (by decide +kernel) rfl rfl (by decide +kernel) ?_
  show mi_ok _ mi_Γ (mi_ev [a0, a1, a2, a3, a4, a5]) 0 (412, [(3, .int 0), (2, .ref 121), (1, .ref 0), (0, .retAddr 0)], [.int 0]) h sl
  refine mk_p (M := mG_0) (i := .aload_n 2) (len := 1) (f' := (413, [(3, .int 0), (2, .ref 121), (1, .ref 0), (0, .retAddr 0)], [.ref 121, .int 0])) mJ_0 (by decide +kernel) rfl ?_
  refine mk_p (M := mG_0) (i := .aload_n 0) (len := 1) (f' := (414, [(3, .int 0), (2, .ref 121), (1, .ref 0), (0, .retAddr 0)], [.retAddr 0, .ref 121, .int 0])) mJ_0 (by decide +kernel) rfl ?_
  refine mk_p (M := mG_0) (i := .iload_n 3) (len := 1) (f' := (415, [(3, .int 0), (2, .ref 121), (1, .ref 0), (0, .retAddr 0)], [.int 0, .retAddr 0, .ref 121, .int 0])) mJ_0 (by decide +kernel) rfl ?_
  refine mk_v (M := mG_0) (i := .iconst 1) (len := 1) (pc' := 416) (v' := .int 1) (st' := [.int 0, .retAddr 0, .ref 121, .int 0]) mJ_0 (by decide +kernel) rfl (by decide +kernel) ?_
  refine mk_v (M := mG_0) (i := .iadd) (len := 1) (pc' := 417) (v' := .int 1) (st' := [.retAddr 0, .ref 121, .int 0]) mJ_0 (by decide +kernel) rfl (by decide +kernel) ?_
  refine mk_h (M := mG_0) (i := .iaload) (len := 1) (f' := (418, [(3, .int 0), (2, .ref 121), (1, .ref 0), (0, .retAddr 0)], [.int a1, .ref 121, .int 0])) (h' := h) (sl' := sl) mJ_0 (by decide +kernel) rfl (mh_ial (xs := [a0, a1, a2, a3, a4, a5]) (x := 1) rfl (show mi_in 1 6 = true by decide +kernel) rfl) ?_
  refine mk_p (M := mG_0) (i := .aload_n 0) (len := 1) (f' := (419, [(3, .int 0), (2, .ref 121), (1, .ref 0), (0, .retAddr 0)], [.retAddr 0, .int a1, .ref 121, .int 0])) mJ_0 (by decide +kernel) rfl ?_
  refine mk_p (M := mG_0) (i := .iload_n 3) (len := 1) (f' := (420, [(3, .int 0), (2, .ref 121), (1, .ref 0), (0, .retAddr 0)], [.int 0, .retAddr 0, .int a1, .ref 121, .int 0])) mJ_0 (by decide +kernel) rfl ?_
  refine mk_v (M := mG_0) (i := .iconst 2) (len := 1) (pc' := 421) (v' := .int 2) (st' := [.int 0, .retAddr 0, .int a1, .ref 121, .int 0]) mJ_0 (by decide +kernel) rfl (by decide +kernel) ?_
  refine mk_v (M := mG_0) (i := .iadd) (len := 1) (pc' := 422) (v' := .int 2) (st' := [.retAddr 0, .int a1, .ref 121, .int 0]) mJ_0 (by decide +kernel) rfl (by decide +kernel) ?_
  refine mk_h (M := mG_0) (i := .iaload) (len := 1) (f' := (423, [(3, .int 0), (2, .ref 121), (1, .ref 0), (0, .retAddr 0)], [.int a2, .int a1, .ref 121, .int 0])) (h' := h) (sl' := sl) mJ_0 (by decide +kernel) rfl (mh_ial (xs := [a0, a1, a2, a3, a4, a5]) (x := 2) rfl (show mi_in 2 6 = true by decide +kernel) rfl) ?_
  refine mk_c (M := mG_0) (i := .invokevirtual 63) (len := 3) (M' := mG_65) (j' := 65) (as := [.ref 121, .int a1, .int a2]) (rest := [.int 0]) mJ_0 (by decide +kernel) rfl rfl rfl rfl (mh_virt (n := 2) (a := 121) (ci := 13) (by decide +kernel) rfl g121 (Nat.le_of_ble_eq_true rfl) rfl) mJ_65 (Nat.le_of_ble_eq_true rfl) (mi_pos g121) ?_
  show mi_ok _ mi_Γ (mi_ev [a0, a1, a2, a3, a4, a5]) 65 (0, [(0, .ref 121), (1, .int a1), (2, .int a2)], []) h sl
  refine mk_p (M := mG_65) (i := .aload_n 0) (len := 1) (f' := (1, [(0, .ref 121), (1, .int a1), (2, .int a2)], [.ref 121])) mJ_65 (by decide +kernel) rfl ?_
  refine mk_p (M := mG_65) (i := .iload_n 1) (len := 1) (f' := (2, [(0, .ref 121), (1, .int a1), (2, .int a2)], [.int a1, .ref 121])) mJ_65 (by decide +kernel) rfl ?_
  refine mk_p (M := mG_65) (i := .iload_n 2) (len := 1) (f' := (3, [(0, .ref 121), (1, .int a1), (2, .int a2)], [.int a2, .int a1, .ref 121])) mJ_65 (by decide +kernel) rfl ?_
  refine mk_c (M := mG_65) (i := .invokevirtual 803) (len := 3) (M' := mG_70) (j' := 70) (as := [.ref 121, .int a1, .int a2]) (rest := []) mJ_65 (by decide +kernel) rfl rfl rfl rfl (mh_virt (n := 2) (a := 121) (ci := 13) (by decide +kernel) rfl g121 (Nat.le_of_ble_eq_true rfl) rfl) mJ_70 (Nat.le_of_ble_eq_true rfl) (mi_pos g121) ?_
  show mi_ok _ mi_Γ (mi_ev [a0, a1, a2, a3, a4, a5]) 70 (0, [(0, .ref 121), (1, .int a1), (2, .int a2)], []) h sl
  refine mk_p (M := mG_70) (i := .aload_n 0) (len := 1) (f' := (1, [(0, .ref 121), (1, .int a1), (2, .int a2)], [.ref 121])) mJ_70 (by decide +kernel) rfl ?_
  refine mk_p (M := mG_70) (i := .iload_n 1) (len := 1) (f' := (2, [(0, .ref 121), (1, .int a1), (2, .int a2)], [.int a1, .ref 121])) mJ_70 (by decide +kernel) rfl ?_
  refine mk_p (M := mG_70) (i := .iload_n 2) (len := 1) (f' := (3, [(0, .ref 121), (1, .int a1), (2, .int a2)], [.int a2, .int a1, .ref 121])) mJ_70 (by decide +kernel) rfl ?_
  refine mk_c (M := mG_70) (i := .invokevirtual 800) (len := 3) (M' := mG_82) (j' := 82) (as := [.ref 121, .int a1, .int a2]) (rest := []) mJ_70 (by decide +kernel) rfl rfl rfl rfl (mh_virt (n := 2) (a := 121) (ci := 13) (by decide +kernel) rfl g121 (Nat.le_of_ble_eq_true rfl) rfl) mJ_82 (Nat.le_of_ble_eq_true rfl) (mi_pos g121) ?_
  show mi_ok _ mi_Γ (mi_ev [a0, a1, a2, a3, a4, a5]) 82 (0, [(0, .ref 121), (1, .int a1), (2, .int a2)], []) h sl
  refine mk_p (M := mG_82) (i := .aload_n 0) (len := 1) (f' := (1, [(0, .ref 121), (1, .int a1), (2, .int a2)], [.ref 121])) mJ_82 (by decide +kernel) rfl ?_
  refine mk_p (M := mG_82) (i := .iload_n 1) (len := 1) (f' := (2, [(0, .ref 121), (1, .int a1), (2, .int a2)], [.int a1, .ref 121])) mJ_82 (by decide +kernel) rfl ?_
  refine mk_c (M := mG_82) (i := .invokevirtual 797) (len := 3) (M' := mG_68) (j' := 68) (as := [.ref 121, .int a1]) (rest := []) mJ_82 (by decide +kernel) rfl rfl rfl rfl (mh_virt (n := 1) (a := 121) (ci := 13) (by decide +kernel) rfl g121 (Nat.le_of_ble_eq_true rfl) rfl) mJ_68 (Nat.le_of_ble_eq_true rfl) (mi_pos g121) ?_
  show mi_ok _ mi_Γ (mi_ev [a0, a1, a2, a3, a4, a5]) 68 (0, [(0, .ref 121), (1, .int a1)], []) h sl
  refine mk_p (M := mG_68) (i := .aload_n 0) (len := 1) (f' := (1, [(0, .ref 121), (1, .int a1)], [.ref 121])) mJ_68 (by decide +kernel) rfl ?_
  refine mk_h (M := mG_68) (i := .getfield 794) (len := 3) (f' := (4, [(0, .ref 121), (1, .int a1)], [.int 0])) (h' := h) (sl' := sl) mJ_68 (by decide +kernel) rfl (mh_getf (ci := 13) (k := 2) (by decide +kernel) g121 rfl) ?_
  refine mk_t (M := mG_68) (i := .ifCond .eq 22) (len := 3) (q := decide ((0 : Int32) = (0 : Int32))) (off := 22) (t := 26) (st' := []) mJ_68 (by decide +kernel) rfl (by decide +kernel) (by decide +kernel) ?_
  refine mk_v (M := mG_68) (i := .iconst 0) (len := 1) (pc' := 27) (v' := .int 0) (st' := []) mJ_68 (by decide +kernel) rfl (by decide +kernel) ?_
  refine mk_r (M := mG_68) (i := .ireturn) (len := 1) (r := some (.int 0)) mJ_68 (by decide +kernel) rfl rfl (by decide +kernel) ?_
  show mi_ok _ mi_Γ (mi_ev [a0, a1, a2, a3, a4, a5]) 82 (5, [(0, .ref 121), (1, .int a1), (2, .int a2)], [.int 0]) h sl
  refine mk_t (M := mG_82) (i := .ifCond .eq 44) (len := 3) (q := decide ((0 : Int32) = (0 : Int32))) (off := 44) (t := 49) (st' := []) mJ_82 (by decide +kernel) rfl (by decide +kernel) (by decide +kernel) ?_
  refine mk_v (M := mG_82) (i := .iconst (-1)) (len := 1) (pc' := 50) (v' := .int (-1)) (st' := []) mJ_82 (by decide +kernel) rfl (by decide +kernel) ?_
  refine mk_r (M := mG_82) (i := .ireturn) (len := 1) (r := some (.int (-1))) mJ_82 (by decide +kernel) rfl rfl (by decide +kernel) ?_
  show mi_ok _ mi_Γ (mi_ev [a0, a1, a2, a3, a4, a5]) 70 (6, [(0, .ref 121), (1, .int a1), (2, .int a2)], [.int (-1)]) h sl
  refine mk_p (M := mG_70) (i := .istore_n 3) (len := 1) (f' := (7, [(3, .int (-1)), (0, .ref 121), (1, .int a1), (2, .int a2)], [])) mJ_70 (by decide +kernel) rfl ?_
  refine mk_p (M := mG_70) (i := .iload_n 3) (len := 1) (f' := (8, [(3, .int (-1)), (0, .ref 121), (1, .int a1), (2, .int a2)], [.int (-1)])) mJ_70 (by decide +kernel) rfl ?_
  refine mk_f (M := mG_70) (i := .ifCond .ge 7) (len := 3) (q := decide ((0 : Int32) ≤ ((-1) : Int32))) (off := 7) (t := 15) (pc' := 11) (st' := []) mJ_70 (by decide +kernel) rfl (by decide +kernel) (by decide +kernel) rfl ?_
  refine mk_v (M := mG_70) (i := .iconst 0) (len := 1) (pc' := 12) (v' := .int 0) (st' := []) mJ_70 (by decide +kernel) rfl (by decide +kernel) ?_
  refine mk_g (M := mG_70) (len := 3) (off := 12) (t := 24) mJ_70 (by decide +kernel) (by decide +kernel) ?_
  refine mk_r (M := mG_70) (i := .ireturn) (len := 1) (r := some (.int 0)) mJ_70 (by decide +kernel) rfl rfl (by decide +kernel) ?_
  show mi_ok _ mi_Γ (mi_ev [a0, a1, a2, a3, a4, a5]) 65 (6, [(0, .ref 121), (1, .int a1), (2, .int a2)], [.int 0]) h sl
  refine mk_v (M := mG_65) (i := .iconst 1) (len := 1) (pc' := 7) (v' := .int 1) (st' := [.int 0]) mJ_65 (by decide +kernel) rfl (by decide +kernel) ?_
  refine mk_t (M := mG_65) (i := .if_icmp .ne 20) (len := 3) (q := decide (¬ (0 : Int32) = (1 : Int32))) (off := 20) (t := 27) (st' := []) mJ_65 (by decide +kernel) rfl (by decide +kernel) (by decide +kernel) ?_
  refine mk_v (M := mG_65) (i := .iconst 0) (len := 1) (pc' := 28) (v' := .int 0) (st' := []) mJ_65 (by decide +kernel) rfl (by decide +kernel) ?_
  refine mk_r (M := mG_65) (i := .ireturn) (len := 1) (r := some (.int 0)) mJ_65 (by decide +kernel) rfl rfl (by decide +kernel) ?_
  show mi_ok _ mi_Γ (mi_ev [a0, a1, a2, a3, a4, a5]) 0 (426, [(3, .int 0), (2, .ref 121), (1, .ref 0), (0, .retAddr 0)], [.int 0, .int 0]) h sl
  refine mk_t (M := mG_0) (i := .if_icmp .eq 249) (len := 3) (q := decide ((0 : Int32) = (0 : Int32))) (off := 249) (t := 675) (st' := []) mJ_0 (by decide +kernel) rfl (by decide +kernel) (by decide +kernel) ?_
  refine mk_i (M := mG_0) (len := 3) (k := 3) (n := 6) (x := 0) (y := 6) (lv' := [(3, .int 6), (2, .ref 121), (1, .ref 0), (0, .retAddr 0)]) (pc' := 678) mJ_0 (by decide +kernel) rfl (by decide +kernel) (by decide +kernel) rfl rfl ?_
  refine mk_g (M := mG_0) (len := 3) (off := (-660)) (t := 18) mJ_0 (by decide +kernel) (by decide +kernel) ?_
  refine mk_p (M := mG_0) (i := .iload_n 3) (len := 1) (f' := (19, [(3, .int 6), (2, .ref 121), (1, .ref 0), (0, .retAddr 0)], [.int 6])) mJ_0 (by decide +kernel) rfl ?_
  refine mk_p (M := mG_0) (i := .aload_n 0) (len := 1) (f' := (20, [(3, .int 6), (2, .ref 121), (1, .ref 0), (0, .retAddr 0)], [.retAddr 0, .int 6])) mJ_0 (by decide +kernel) rfl ?_
  refine mk_h (M := mG_0) (i := .arraylength) (len := 1) (f' := (21, [(3, .int 6), (2, .ref 121), (1, .ref 0), (0, .retAddr 0)], [.int 6, .int 6])) (h' := h) (sl' := sl) mJ_0 (by decide +kernel) rfl rfl ?_
  refine mk_v (M := mG_0) (i := .bipush 6) (len := 2) (pc' := 23) (v' := .int 6) (st' := [.int 6, .int 6]) mJ_0 (by decide +kernel) rfl (by decide +kernel) ?_
  refine mk_v (M := mG_0) (i := .isub) (len := 1) (pc' := 24) (v' := .int 0) (st' := [.int 6]) mJ_0 (by decide +kernel) rfl (by decide +kernel) ?_
  refine mk_t (M := mG_0) (i := .if_icmp .gt 657) (len := 3) (q := decide ((0 : Int32) < (6 : Int32))) (off := 657) (t := 681) (st' := []) mJ_0 (by decide +kernel) rfl (by decide +kernel) (by decide +kernel) ?_
  refine mk_v (M := mG_0) (i := .iconst 1) (len := 1) (pc' := 682) (v' := .int 1) (st' := []) mJ_0 (by decide +kernel) rfl (by decide +kernel) ?_
  refine mk_r (M := mG_0) (i := .ireturn) (len := 1) (r := some (.int 1)) mJ_0 (by decide +kernel) rfl rfl (by decide +kernel) ?_
  exact ⟨rfl, hl, rfl⟩
