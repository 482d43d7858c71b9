/-! The law, one call. -/
set_option maxRecDepth 20000 in
theorem lw1_5 {N sl : Nat} {h : List mi_C} (a0 a1 a2 a3 a4 a5 : Int32) (hk : a0 &&& 31 = 5) (hl : h.length = N) (g0 : h[0]? = some (.inl (11, [.ref 1, .int 0, .int 0, .ref 2, .ref 13, .ref 49, .int 0, .int (-1), .ref 85, .ref 86, .ref 92, .ref 112, .int 0, .ref 113]))) (g121 : h[121]? = some (.inl (13, [.ref 122, .ref 168, .int 0, .ref 214, .int 0, .int 0, .ref 215, .int 0, .ref 216, .ref 217, .int 0, .int 0, .int (-1), .ref 218, .ref 219, .ref 220, .ref 221, .ref 222, .ref 223, .int 0, .ref 224, .ref 225, .ref 226, .ref 227, .ref 228, .int 0, .ref 229, .ref 230, .ref 231, .ref 232, .ref 233, .ref 234, .ref 235, .ref 236, .ref 237, .ref 238, .int 0, .int 0, .int 0, .int 0, .long 0, .ref 239, .ref 240, .ref 241, .ref 242, .ref 243, .ref 244, .ref 245, .ref 246, .ref 247, .ref 248, .ref 249, .int 0, .int 0, .int 0, .int 0, .int 0, .int 0, .int 0, .int (-1), .int (-1), .int 0, .int 0, .int 0]))) : mi_ok (mi_fin N sl) mi_Γ (mi_ev [a0, a1, a2, a3, a4, a5]) 0 (18, [(3, .int 0), (2, .ref 121), (1, .ref 0), (0, .retAddr 0)], []) h sl := by
  refine mk_p (M := mG_0) (i := .iload_n 3) (len := 1) (f' := (19, [(3, .int 0), (2, .ref 121), (1, .ref 0), (0, .retAddr 0)], [.int 0])) mJ_0 (by decide +kernel) rfl ?_
  refine mk_p (M := mG_0) (i := .aload_n 0) (len := 1) (f' := (20, [(3, .int 0), (2, .ref 121), (1, .ref 0), (0, .retAddr 0)], [.retAddr 0, .int 0])) mJ_0 (by decide +kernel) rfl ?_
  refine mk_h (M := mG_0) (i := .arraylength) (len := 1) (f' := (21, [(3, .int 0), (2, .ref 121), (1, .ref 0), (0, .retAddr 0)], [.int 6, .int 0])) (h' := h) (sl' := sl) mJ_0 (by decide +kernel) rfl rfl ?_
  refine mk_v (M := mG_0) (i := .bipush 6) (len := 2) (pc' := 23) (v' := .int 6) (st' := [.int 6, .int 0]) mJ_0 (by decide +kernel) rfl (by decide +kernel) ?_
  refine mk_v (M := mG_0) (i := .isub) (len := 1) (pc' := 24) (v' := .int 0) (st' := [.int 0]) mJ_0 (by decide +kernel) rfl (by decide +kernel) ?_
  refine mk_f (M := mG_0) (i := .if_icmp .gt 657) (len := 3) (q := decide ((0 : Int32) < (0 : Int32))) (off := 657) (t := 681) (pc' := 27) (st' := []) mJ_0 (by decide +kernel) rfl (by decide +kernel) (by decide +kernel) rfl ?_
  refine mk_p (M := mG_0) (i := .aload_n 0) (len := 1) (f' := (28, [(3, .int 0), (2, .ref 121), (1, .ref 0), (0, .retAddr 0)], [.retAddr 0])) mJ_0 (by decide +kernel) rfl ?_
  refine mk_p (M := mG_0) (i := .iload_n 3) (len := 1) (f' := (29, [(3, .int 0), (2, .ref 121), (1, .ref 0), (0, .retAddr 0)], [.int 0, .retAddr 0])) mJ_0 (by decide +kernel) rfl ?_
  refine mk_h (M := mG_0) (i := .iaload) (len := 1) (f' := (30, [(3, .int 0), (2, .ref 121), (1, .ref 0), (0, .retAddr 0)], [.int a0])) (h' := h) (sl' := sl) mJ_0 (by decide +kernel) rfl (mh_ial (xs := [a0, a1, a2, a3, a4, a5]) (x := 0) rfl (show mi_in 0 6 = true by decide +kernel) rfl) ?_
  refine mk_v (M := mG_0) (i := .bipush 31) (len := 2) (pc' := 32) (v' := .int 31) (st' := [.int a0]) mJ_0 (by decide +kernel) rfl (by decide +kernel) ?_
  refine mk_p (M := mG_0) (i := .iand) (len := 1) (f' := (33, [(3, .int 0), (2, .ref 121), (1, .ref 0), (0, .retAddr 0)], [.int ((a0 &&& 31))])) mJ_0 (by decide +kernel) rfl ?_
  refine mk_s (M := mG_0) (len := 103) (dflt := 642) (lo := 0) (hi := 21) (offs := #[103, 166, 189, 202, 215, 238, 261, 285, 299, 332, 365, 398, 432, 475, 508, 531, 554, 567, 580, 593, 606, 629]) (X := 5) (t := 271) mJ_0 (by decide +kernel) hk (by decide +kernel) ?_
  refine mk_p (M := mG_0) (i := .aload_n 1) (len := 1) (f' := (272, [(3, .int 0), (2, .ref 121), (1, .ref 0), (0, .retAddr 0)], [.ref 0])) mJ_0 (by decide +kernel) rfl ?_
  refine mk_p (M := mG_0) (i := .aload_n 0) (len := 1) (f' := (273, [(3, .int 0), (2, .ref 121), (1, .ref 0), (0, .retAddr 0)], [.retAddr 0, .ref 0])) mJ_0 (by decide +kernel) rfl ?_
  refine mk_p (M := mG_0) (i := .iload_n 3) (len := 1) (f' := (274, [(3, .int 0), (2, .ref 121), (1, .ref 0), (0, .retAddr 0)], [.int 0, .retAddr 0, .ref 0])) mJ_0 (by decide +kernel) rfl ?_
  refine mk_v (M := mG_0) (i := .iconst 1) (len := 1) (pc' := 275) (v' := .int 1) (st' := [.int 0, .retAddr 0, .ref 0]) mJ_0 (by decide +kernel) rfl (by decide +kernel) ?_
  refine mk_v (M := mG_0) (i := .iadd) (len := 1) (pc' := 276) (v' := .int 1) (st' := [.retAddr 0, .ref 0]) mJ_0 (by decide +kernel) rfl (by decide +kernel) ?_
  refine mk_h (M := mG_0) (i := .iaload) (len := 1) (f' := (277, [(3, .int 0), (2, .ref 121), (1, .ref 0), (0, .retAddr 0)], [.int a1, .ref 0])) (h' := h) (sl' := sl) mJ_0 (by decide +kernel) rfl (mh_ial (xs := [a0, a1, a2, a3, a4, a5]) (x := 1) rfl (show mi_in 1 6 = true by decide +kernel) rfl) ?_
  refine mk_c (M := mG_0) (i := .invokevirtual 37) (len := 3) (M' := mG_28) (j' := 28) (as := [.ref 0, .int a1]) (rest := []) mJ_0 (by decide +kernel) rfl rfl rfl rfl (mh_virt (n := 1) (a := 0) (ci := 11) (by decide +kernel) rfl g0 (Nat.le_of_ble_eq_true rfl) rfl) mJ_28 (Nat.le_of_ble_eq_true rfl) (mi_pos g0) ?_
  show mi_ok _ mi_Γ (mi_ev [a0, a1, a2, a3, a4, a5]) 28 (0, [(0, .ref 0), (1, .int a1)], []) h sl
  refine mk_p (M := mG_28) (i := .aload_n 0) (len := 1) (f' := (1, [(0, .ref 0), (1, .int a1)], [.ref 0])) mJ_28 (by decide +kernel) rfl ?_
  refine mk_p (M := mG_28) (i := .iload_n 1) (len := 1) (f' := (2, [(0, .ref 0), (1, .int a1)], [.int a1, .ref 0])) mJ_28 (by decide +kernel) rfl ?_
  refine mk_c (M := mG_28) (i := .invokevirtual 142) (len := 3) (M' := mG_38) (j' := 38) (as := [.ref 0, .int a1]) (rest := []) mJ_28 (by decide +kernel) rfl rfl rfl rfl (mh_virt (n := 1) (a := 0) (ci := 11) (by decide +kernel) rfl g0 (Nat.le_of_ble_eq_true rfl) rfl) mJ_38 (Nat.le_of_ble_eq_true rfl) (mi_pos g0) ?_
  show mi_ok _ mi_Γ (mi_ev [a0, a1, a2, a3, a4, a5]) 38 (0, [(0, .ref 0), (1, .int a1)], []) h sl
  refine mk_p (M := mG_38) (i := .aload_n 0) (len := 1) (f' := (1, [(0, .ref 0), (1, .int a1)], [.ref 0])) mJ_38 (by decide +kernel) rfl ?_
  refine mk_h (M := mG_38) (i := .getfield 108) (len := 3) (f' := (4, [(0, .ref 0), (1, .int a1)], [.int 0])) (h' := h) (sl' := sl) mJ_38 (by decide +kernel) rfl (mh_getf (ci := 11) (k := 6) (by decide +kernel) g0 rfl) ?_
  refine mk_t (M := mG_38) (i := .ifCond .eq 22) (len := 3) (q := decide ((0 : Int32) = (0 : Int32))) (off := 22) (t := 26) (st' := []) mJ_38 (by decide +kernel) rfl (by decide +kernel) (by decide +kernel) ?_
  refine mk_v (M := mG_38) (i := .iconst 0) (len := 1) (pc' := 27) (v' := .int 0) (st' := []) mJ_38 (by decide +kernel) rfl (by decide +kernel) ?_
  refine mk_r (M := mG_38) (i := .ireturn) (len := 1) (r := some (.int 0)) mJ_38 (by decide +kernel) rfl rfl (by decide +kernel) ?_
  show mi_ok _ mi_Γ (mi_ev [a0, a1, a2, a3, a4, a5]) 28 (5, [(0, .ref 0), (1, .int a1)], [.int 0]) h sl
  refine mk_t (M := mG_28) (i := .ifCond .eq 15) (len := 3) (q := decide ((0 : Int32) = (0 : Int32))) (off := 15) (t := 20) (st' := []) mJ_28 (by decide +kernel) rfl (by decide +kernel) (by decide +kernel) ?_
  refine mk_v (M := mG_28) (i := .iconst (-1)) (len := 1) (pc' := 21) (v' := .int (-1)) (st' := []) mJ_28 (by decide +kernel) rfl (by decide +kernel) ?_
  refine mk_r (M := mG_28) (i := .ireturn) (len := 1) (r := some (.int (-1))) mJ_28 (by decide +kernel) rfl rfl (by decide +kernel) ?_
  show mi_ok _ mi_Γ (mi_ev [a0, a1, a2, a3, a4, a5]) 0 (280, [(3, .int 0), (2, .ref 121), (1, .ref 0), (0, .retAddr 0)], [.int (-1)]) h sl
  refine mk_p (M := mG_0) (i := .aload_n 2) (len := 1) (f' := (281, [(3, .int 0), (2, .ref 121), (1, .ref 0), (0, .retAddr 0)], [.ref 121, .int (-1)])) mJ_0 (by decide +kernel) rfl ?_
  refine mk_p (M := mG_0) (i := .aload_n 0) (len := 1) (f' := (282, [(3, .int 0), (2, .ref 121), (1, .ref 0), (0, .retAddr 0)], [.retAddr 0, .ref 121, .int (-1)])) mJ_0 (by decide +kernel) rfl ?_
  refine mk_p (M := mG_0) (i := .iload_n 3) (len := 1) (f' := (283, [(3, .int 0), (2, .ref 121), (1, .ref 0), (0, .retAddr 0)], [.int 0, .retAddr 0, .ref 121, .int (-1)])) mJ_0 (by decide +kernel) rfl ?_
  refine mk_v (M := mG_0) (i := .iconst 1) (len := 1) (pc' := 284) (v' := .int 1) (st' := [.int 0, .retAddr 0, .ref 121, .int (-1)]) mJ_0 (by decide +kernel) rfl (by decide +kernel) ?_
  refine mk_v (M := mG_0) (i := .iadd) (len := 1) (pc' := 285) (v' := .int 1) (st' := [.retAddr 0, .ref 121, .int (-1)]) mJ_0 (by decide +kernel) rfl (by decide +kernel) ?_
  refine mk_h (M := mG_0) (i := .iaload) (len := 1) (f' := (286, [(3, .int 0), (2, .ref 121), (1, .ref 0), (0, .retAddr 0)], [.int a1, .ref 121, .int (-1)])) (h' := h) (sl' := sl) mJ_0 (by decide +kernel) rfl (mh_ial (xs := [a0, a1, a2, a3, a4, a5]) (x := 1) rfl (show mi_in 1 6 = true by decide +kernel) rfl) ?_
  refine mk_c (M := mG_0) (i := .invokevirtual 40) (len := 3) (M' := mG_59) (j' := 59) (as := [.ref 121, .int a1]) (rest := [.int (-1)]) mJ_0 (by decide +kernel) rfl rfl rfl rfl (mh_virt (n := 1) (a := 121) (ci := 13) (by decide +kernel) rfl g121 (Nat.le_of_ble_eq_true rfl) rfl) mJ_59 (Nat.le_of_ble_eq_true rfl) (mi_pos g121) ?_
  show mi_ok _ mi_Γ (mi_ev [a0, a1, a2, a3, a4, a5]) 59 (0, [(0, .ref 121), (1, .int a1)], []) h sl
  refine mk_p (M := mG_59) (i := .aload_n 0) (len := 1) (f' := (1, [(0, .ref 121), (1, .int a1)], [.ref 121])) mJ_59 (by decide +kernel) rfl ?_
  refine mk_p (M := mG_59) (i := .iload_n 1) (len := 1) (f' := (2, [(0, .ref 121), (1, .int a1)], [.int a1, .ref 121])) mJ_59 (by decide +kernel) rfl ?_
  refine mk_c (M := mG_59) (i := .invokevirtual 797) (len := 3) (M' := mG_68) (j' := 68) (as := [.ref 121, .int a1]) (rest := []) mJ_59 (by decide +kernel) rfl rfl rfl rfl (mh_virt (n := 1) (a := 121) (ci := 13) (by decide +kernel) rfl g121 (Nat.le_of_ble_eq_true rfl) rfl) mJ_68 (Nat.le_of_ble_eq_true rfl) (mi_pos g121) ?_
  show mi_ok _ mi_Γ (mi_ev [a0, a1, a2, a3, a4, a5]) 68 (0, [(0, .ref 121), (1, .int a1)], []) h sl
  refine mk_p (M := mG_68) (i := .aload_n 0) (len := 1) (f' := (1, [(0, .ref 121), (1, .int a1)], [.ref 121])) mJ_68 (by decide +kernel) rfl ?_
  refine mk_h (M := mG_68) (i := .getfield 794) (len := 3) (f' := (4, [(0, .ref 121), (1, .int a1)], [.int 0])) (h' := h) (sl' := sl) mJ_68 (by decide +kernel) rfl (mh_getf (ci := 13) (k := 2) (by decide +kernel) g121 rfl) ?_
  refine mk_t (M := mG_68) (i := .ifCond .eq 22) (len := 3) (q := decide ((0 : Int32) = (0 : Int32))) (off := 22) (t := 26) (st' := []) mJ_68 (by decide +kernel) rfl (by decide +kernel) (by decide +kernel) ?_
  refine mk_v (M := mG_68) (i := .iconst 0) (len := 1) (pc' := 27) (v' := .int 0) (st' := []) mJ_68 (by decide +kernel) rfl (by decide +kernel) ?_
  refine mk_r (M := mG_68) (i := .ireturn) (len := 1) (r := some (.int 0)) mJ_68 (by decide +kernel) rfl rfl (by decide +kernel) ?_
  show mi_ok _ mi_Γ (mi_ev [a0, a1, a2, a3, a4, a5]) 59 (5, [(0, .ref 121), (1, .int a1)], [.int 0]) h sl
  refine mk_t (M := mG_59) (i := .ifCond .eq 15) (len := 3) (q := decide ((0 : Int32) = (0 : Int32))) (off := 15) (t := 20) (st' := []) mJ_59 (by decide +kernel) rfl (by decide +kernel) (by decide +kernel) ?_
  refine mk_v (M := mG_59) (i := .iconst (-1)) (len := 1) (pc' := 21) (v' := .int (-1)) (st' := []) mJ_59 (by decide +kernel) rfl (by decide +kernel) ?_
  refine mk_r (M := mG_59) (i := .ireturn) (len := 1) (r := some (.int (-1))) mJ_59 (by decide +kernel) rfl rfl (by decide +kernel) ?_
  show mi_ok _ mi_Γ (mi_ev [a0, a1, a2, a3, a4, a5]) 0 (289, [(3, .int 0), (2, .ref 121), (1, .ref 0), (0, .retAddr 0)], [.int (-1), .int (-1)]) h sl
  refine mk_t (M := mG_0) (i := .if_icmp .eq 386) (len := 3) (q := decide (((-1) : Int32) = ((-1) : Int32))) (off := 386) (t := 675) (st' := []) mJ_0 (by decide +kernel) rfl (by decide +kernel) (by decide +kernel) ?_
  refine mk_i (M := mG_0) (len := 3) (k := 3) (n := 6) (x := 0) (y := 6) (lv' := [(3, .int 6), (2, .ref 121), (1, .ref 0), (0, .retAddr 0)]) (pc' := 678) mJ_0 (by decide +kernel) rfl (by decide +kernel) (by decide +kernel) rfl rfl ?_
  refine mk_g (M := mG_0) (len := 3) (off := (-660)) (t := 18) mJ_0 (by decide +kernel) (by decide +kernel) ?_
  refine mk_p (M := mG_0) (i := .iload_n 3) (len := 1) (f' := (19, [(3, .int 6), (2, .ref 121), (1, .ref 0), (0, .retAddr 0)], [.int 6])) mJ_0 (by decide +kernel) rfl ?_
  refine mk_p (M := mG_0) (i := .aload_n 0) (len := 1) (f' := (20, [(3, .int 6), (2, .ref 121), (1, .ref 0), (0, .retAddr 0)], [.retAddr 0, .int 6])) mJ_0 (by decide +kernel) rfl ?_
  refine mk_h (M := mG_0) (i := .arraylength) (len := 1) (f' := (21, [(3, .int 6), (2, .ref 121), (1, .ref 0), (0, .retAddr 0)], [.int 6, .int 6])) (h' := h) (sl' := sl) mJ_0 (by decide +kernel) rfl rfl ?_
  refine mk_v (M := mG_0) (i := .bipush 6) (len := 2) (pc' := 23) (v' := .int 6) (st' := [.int 6, .int 6]) mJ_0 (by decide +kernel) rfl (by decide +kernel) ?_
  refine mk_v (M := mG_0) (i := .isub) (len := 1) (pc' := 24) (v' := .int 0) (st' := [.int 6]) mJ_0 (by decide +kernel) rfl (by decide +kernel) ?_
  refine mk_t (M := mG_0) (i := .if_icmp .gt 657) (len := 3) (q := decide ((0 : Int32) < (6 : Int32))) (off := 657) (t := 681) (st' := []) mJ_0 (by decide +kernel) rfl (by decide +kernel) (by decide +kernel) ?_
  refine mk_v (M := mG_0) (i := .iconst 1) (len := 1) (pc' := 682) (v' := .int 1) (st' := []) mJ_0 (by decide +kernel) rfl (by decide +kernel) ?_
  refine mk_r (M := mG_0) (i := .ireturn) (len := 1) (r := some (.int 1)) mJ_0 (by decide +kernel) rfl rfl (by decide +kernel) ?_
  exact ⟨rfl, hl, rfl⟩
set_option maxRecDepth 20000 in
theorem lw1_6 {N sl : Nat} {h : List mi_C} (a0 a1 a2 a3 a4 a5 : Int32) (hk : a0 &&& 31 = 6) (hl : h.length = N) (g0 : h[0]? = some (.inl (11, [.ref 1, .int 0, .int 0, .ref 2, .ref 13, .ref 49, .int 0, .int (-1), .ref 85, .ref 86, .ref 92, .ref 112, .int 0, .ref 113]))) (g121 : h[121]? = some (.inl (13, [.ref 122, .ref 168, .int 0, .ref 214, .int 0, .int 0, .ref 215, .int 0, .ref 216, .ref 217, .int 0, .int 0, .int (-1), .ref 218, .ref 219, .ref 220, .ref 221, .ref 222, .ref 223, .int 0, .ref 224, .ref 225, .ref 226, .ref 227, .ref 228, .int 0, .ref 229, .ref 230, .ref 231, .ref 232, .ref 233, .ref 234, .ref 235, .ref 236, .ref 237, .ref 238, .int 0, .int 0, .int 0, .int 0, .long 0, .ref 239, .ref 240, .ref 241, .ref 242, .ref 243, .ref 244, .ref 245, .ref 246, .ref 247, .ref 248, .ref 249, .int 0, .int 0, .int 0, .int 0, .int 0, .int 0, .int 0, .int (-1), .int (-1), .int 0, .int 0, .int 0]))) : mi_ok (mi_fin N sl) mi_Γ (mi_ev [a0, a1, a2, a3, a4, a5]) 0 (18, [(3, .int 0), (2, .ref 121), (1, .ref 0), (0, .retAddr 0)], []) h sl := by
  refine mk_p (M := mG_0) (i := .iload_n 3) (len := 1) (f' := (19, [(3, .int 0), (2, .ref 121), (1, .ref 0), (0, .retAddr 0)], [.int 0])) mJ_0 (by decide +kernel) rfl ?_
  refine mk_p (M := mG_0) (i := .aload_n 0) (len := 1) (f' := (20, [(3, .int 0), (2, .ref 121), (1, .ref 0), (0, .retAddr 0)], [.retAddr 0, .int 0])) mJ_0 (by decide +kernel) rfl ?_
  refine mk_h (M := mG_0) (i := .arraylength) (len := 1) (f' := (21, [(3, .int 0), (2, .ref 121), (1, .ref 0), (0, .retAddr 0)], [.int 6, .int 0])) (h' := h) (sl' := sl) mJ_0 (by decide +kernel) rfl rfl ?_
  refine mk_v (M := mG_0) (i := .bipush 6) (len := 2) (pc' := 23) (v' := .int 6) (st' := [.int 6, .int 0]) mJ_0 (by decide +kernel) rfl (by decide +kernel) ?_
  refine mk_v (M := mG_0) (i := .isub) (len := 1) (pc' := 24) (v' := .int 0) (st' := [.int 0]) mJ_0 (by decide +kernel) rfl (by decide +kernel) ?_
  refine mk_f (M := mG_0) (i := .if_icmp .gt 657) (len := 3) (q := decide ((0 : Int32) < (0 : Int32))) (off := 657) (t := 681) (pc' := 27) (st' := []) mJ_0 (by decide +kernel) rfl (by decide +kernel) (by decide +kernel) rfl ?_
  refine mk_p (M := mG_0) (i := .aload_n 0) (len := 1) (f' := (28, [(3, .int 0), (2, .ref 121), (1, .ref 0), (0, .retAddr 0)], [.retAddr 0])) mJ_0 (by decide +kernel) rfl ?_
  refine mk_p (M := mG_0) (i := .iload_n 3) (len := 1) (f' := (29, [(3, .int 0), (2, .ref 121), (1, .ref 0), (0, .retAddr 0)], [.int 0, .retAddr 0])) mJ_0 (by decide +kernel) rfl ?_
  refine mk_h (M := mG_0) (i := .iaload) (len := 1) (f' := (30, [(3, .int 0), (2, .ref 121), (1, .ref 0), (0, .retAddr 0)], [.int a0])) (h' := h) (sl' := sl) mJ_0 (by decide +kernel) rfl (mh_ial (xs := [a0, a1, a2, a3, a4, a5]) (x := 0) rfl (show mi_in 0 6 = true by decide +kernel) rfl) ?_
  refine mk_v (M := mG_0) (i := .bipush 31) (len := 2) (pc' := 32) (v' := .int 31) (st' := [.int a0]) mJ_0 (by decide +kernel) rfl (by decide +kernel) ?_
  refine mk_p (M := mG_0) (i := .iand) (len := 1) (f' := (33, [(3, .int 0), (2, .ref 121), (1, .ref 0), (0, .retAddr 0)], [.int ((a0 &&& 31))])) mJ_0 (by decide +kernel) rfl ?_
  refine mk_s (M := mG_0) (len := 103) (dflt := 642) (lo := 0) (hi := 21) (offs := #[103, 166, 189, 202, 215, 238, 261, 285, 299, 332, 365, 398, 432, 475, 508, 531, 554, 567, 580, 593, 606, 629]) (X := 6) (t := 294) mJ_0 (by decide +kernel) hk (by decide +kernel) ?_
  refine mk_p (M := mG_0) (i := .aload_n 1) (len := 1) (f' := (295, [(3, .int 0), (2, .ref 121), (1, .ref 0), (0, .retAddr 0)], [.ref 0])) mJ_0 (by decide +kernel) rfl ?_
  refine mk_p (M := mG_0) (i := .aload_n 0) (len := 1) (f' := (296, [(3, .int 0), (2, .ref 121), (1, .ref 0), (0, .retAddr 0)], [.retAddr 0, .ref 0])) mJ_0 (by decide +kernel) rfl ?_
  refine mk_p (M := mG_0) (i := .iload_n 3) (len := 1) (f' := (297, [(3, .int 0), (2, .ref 121), (1, .ref 0), (0, .retAddr 0)], [.int 0, .retAddr 0, .ref 0])) mJ_0 (by decide +kernel) rfl ?_
  refine mk_v (M := mG_0) (i := .iconst 1) (len := 1) (pc' := 298) (v' := .int 1) (st' := [.int 0, .retAddr 0, .ref 0]) mJ_0 (by decide +kernel) rfl (by decide +kernel) ?_
  refine mk_v (M := mG_0) (i := .iadd) (len := 1) (pc' := 299) (v' := .int 1) (st' := [.retAddr 0, .ref 0]) mJ_0 (by decide +kernel) rfl (by decide +kernel) ?_
  refine mk_h (M := mG_0) (i := .iaload) (len := 1) (f' := (300, [(3, .int 0), (2, .ref 121), (1, .ref 0), (0, .retAddr 0)], [.int a1, .ref 0])) (h' := h) (sl' := sl) mJ_0 (by decide +kernel) rfl (mh_ial (xs := [a0, a1, a2, a3, a4, a5]) (x := 1) rfl (show mi_in 1 6 = true by decide +kernel) rfl) ?_
  refine mk_c (M := mG_0) (i := .invokevirtual 41) (len := 3) (M' := mG_29) (j' := 29) (as := [.ref 0, .int a1]) (rest := []) mJ_0 (by decide +kernel) rfl rfl rfl rfl (mh_virt (n := 1) (a := 0) (ci := 11) (by decide +kernel) rfl g0 (Nat.le_of_ble_eq_true rfl) rfl) mJ_29 (Nat.le_of_ble_eq_true rfl) (mi_pos g0) ?_
  show mi_ok _ mi_Γ (mi_ev [a0, a1, a2, a3, a4, a5]) 29 (0, [(0, .ref 0), (1, .int a1)], []) h sl
  refine mk_p (M := mG_29) (i := .aload_n 0) (len := 1) (f' := (1, [(0, .ref 0), (1, .int a1)], [.ref 0])) mJ_29 (by decide +kernel) rfl ?_
  refine mk_p (M := mG_29) (i := .iload_n 1) (len := 1) (f' := (2, [(0, .ref 0), (1, .int a1)], [.int a1, .ref 0])) mJ_29 (by decide +kernel) rfl ?_
  refine mk_c (M := mG_29) (i := .invokevirtual 142) (len := 3) (M' := mG_38) (j' := 38) (as := [.ref 0, .int a1]) (rest := []) mJ_29 (by decide +kernel) rfl rfl rfl rfl (mh_virt (n := 1) (a := 0) (ci := 11) (by decide +kernel) rfl g0 (Nat.le_of_ble_eq_true rfl) rfl) mJ_38 (Nat.le_of_ble_eq_true rfl) (mi_pos g0) ?_
  show mi_ok _ mi_Γ (mi_ev [a0, a1, a2, a3, a4, a5]) 38 (0, [(0, .ref 0), (1, .int a1)], []) h sl
  refine mk_p (M := mG_38) (i := .aload_n 0) (len := 1) (f' := (1, [(0, .ref 0), (1, .int a1)], [.ref 0])) mJ_38 (by decide +kernel) rfl ?_
  refine mk_h (M := mG_38) (i := .getfield 108) (len := 3) (f' := (4, [(0, .ref 0), (1, .int a1)], [.int 0])) (h' := h) (sl' := sl) mJ_38 (by decide +kernel) rfl (mh_getf (ci := 11) (k := 6) (by decide +kernel) g0 rfl) ?_
  refine mk_t (M := mG_38) (i := .ifCond .eq 22) (len := 3) (q := decide ((0 : Int32) = (0 : Int32))) (off := 22) (t := 26) (st' := []) mJ_38 (by decide +kernel) rfl (by decide +kernel) (by decide +kernel) ?_
  refine mk_v (M := mG_38) (i := .iconst 0) (len := 1) (pc' := 27) (v' := .int 0) (st' := []) mJ_38 (by decide +kernel) rfl (by decide +kernel) ?_
  refine mk_r (M := mG_38) (i := .ireturn) (len := 1) (r := some (.int 0)) mJ_38 (by decide +kernel) rfl rfl (by decide +kernel) ?_
  show mi_ok _ mi_Γ (mi_ev [a0, a1, a2, a3, a4, a5]) 29 (5, [(0, .ref 0), (1, .int a1)], [.int 0]) h sl
  refine mk_t (M := mG_29) (i := .ifCond .eq 15) (len := 3) (q := decide ((0 : Int32) = (0 : Int32))) (off := 15) (t := 20) (st' := []) mJ_29 (by decide +kernel) rfl (by decide +kernel) (by decide +kernel) ?_
  refine mk_v (M := mG_29) (i := .lconst 0) (len := 1) (pc' := 21) (v' := .long 0) (st' := []) mJ_29 (by decide +kernel) rfl (by decide +kernel) ?_
  refine mk_r (M := mG_29) (i := .lreturn) (len := 1) (r := some (.long 0)) mJ_29 (by decide +kernel) rfl rfl (by decide +kernel) ?_
  show mi_ok _ mi_Γ (mi_ev [a0, a1, a2, a3, a4, a5]) 0 (303, [(3, .int 0), (2, .ref 121), (1, .ref 0), (0, .retAddr 0)], [.long 0]) h sl
  refine mk_p (M := mG_0) (i := .aload_n 2) (len := 1) (f' := (304, [(3, .int 0), (2, .ref 121), (1, .ref 0), (0, .retAddr 0)], [.ref 121, .long 0])) mJ_0 (by decide +kernel) rfl ?_
  refine mk_p (M := mG_0) (i := .aload_n 0) (len := 1) (f' := (305, [(3, .int 0), (2, .ref 121), (1, .ref 0), (0, .retAddr 0)], [.retAddr 0, .ref 121, .long 0])) mJ_0 (by decide +kernel) rfl ?_
  refine mk_p (M := mG_0) (i := .iload_n 3) (len := 1) (f' := (306, [(3, .int 0), (2, .ref 121), (1, .ref 0), (0, .retAddr 0)], [.int 0, .retAddr 0, .ref 121, .long 0])) mJ_0 (by decide +kernel) rfl ?_
  refine mk_v (M := mG_0) (i := .iconst 1) (len := 1) (pc' := 307) (v' := .int 1) (st' := [.int 0, .retAddr 0, .ref 121, .long 0]) mJ_0 (by decide +kernel) rfl (by decide +kernel) ?_
  refine mk_v (M := mG_0) (i := .iadd) (len := 1) (pc' := 308) (v' := .int 1) (st' := [.retAddr 0, .ref 121, .long 0]) mJ_0 (by decide +kernel) rfl (by decide +kernel) ?_
  refine mk_h (M := mG_0) (i := .iaload) (len := 1) (f' := (309, [(3, .int 0), (2, .ref 121), (1, .ref 0), (0, .retAddr 0)], [.int a1, .ref 121, .long 0])) (h' := h) (sl' := sl) mJ_0 (by decide +kernel) rfl (mh_ial (xs := [a0, a1, a2, a3, a4, a5]) (x := 1) rfl (show mi_in 1 6 = true by decide +kernel) rfl) ?_
  refine mk_c (M := mG_0) (i := .invokevirtual 45) (len := 3) (M' := mG_60) (j' := 60) (as := [.ref 121, .int a1]) (rest := [.long 0]) mJ_0 (by decide +kernel) rfl rfl rfl rfl (mh_virt (n := 1) (a := 121) (ci := 13) (by decide +kernel) rfl g121 (Nat.le_of_ble_eq_true rfl) rfl) mJ_60 (Nat.le_of_ble_eq_true rfl) (mi_pos g121) ?_
  show mi_ok _ mi_Γ (mi_ev [a0, a1, a2, a3, a4, a5]) 60 (0, [(0, .ref 121), (1, .int a1)], []) h sl
  refine mk_p (M := mG_60) (i := .aload_n 0) (len := 1) (f' := (1, [(0, .ref 121), (1, .int a1)], [.ref 121])) mJ_60 (by decide +kernel) rfl ?_
  refine mk_p (M := mG_60) (i := .iload_n 1) (len := 1) (f' := (2, [(0, .ref 121), (1, .int a1)], [.int a1, .ref 121])) mJ_60 (by decide +kernel) rfl ?_
  refine mk_c (M := mG_60) (i := .invokevirtual 797) (len := 3) (M' := mG_68) (j' := 68) (as := [.ref 121, .int a1]) (rest := []) mJ_60 (by decide +kernel) rfl rfl rfl rfl (mh_virt (n := 1) (a := 121) (ci := 13) (by decide +kernel) rfl g121 (Nat.le_of_ble_eq_true rfl) rfl) mJ_68 (Nat.le_of_ble_eq_true rfl) (mi_pos g121) ?_
  show mi_ok _ mi_Γ (mi_ev [a0, a1, a2, a3, a4, a5]) 68 (0, [(0, .ref 121), (1, .int a1)], []) h sl
  refine mk_p (M := mG_68) (i := .aload_n 0) (len := 1) (f' := (1, [(0, .ref 121), (1, .int a1)], [.ref 121])) mJ_68 (by decide +kernel) rfl ?_
  refine mk_h (M := mG_68) (i := .getfield 794) (len := 3) (f' := (4, [(0, .ref 121), (1, .int a1)], [.int 0])) (h' := h) (sl' := sl) mJ_68 (by decide +kernel) rfl (mh_getf (ci := 13) (k := 2) (by decide +kernel) g121 rfl) ?_
  refine mk_t (M := mG_68) (i := .ifCond .eq 22) (len := 3) (q := decide ((0 : Int32) = (0 : Int32))) (off := 22) (t := 26) (st' := []) mJ_68 (by decide +kernel) rfl (by decide +kernel) (by decide +kernel) ?_
  refine mk_v (M := mG_68) (i := .iconst 0) (len := 1) (pc' := 27) (v' := .int 0) (st' := []) mJ_68 (by decide +kernel) rfl (by decide +kernel) ?_
  refine mk_r (M := mG_68) (i := .ireturn) (len := 1) (r := some (.int 0)) mJ_68 (by decide +kernel) rfl rfl (by decide +kernel) ?_
  show mi_ok _ mi_Γ (mi_ev [a0, a1, a2, a3, a4, a5]) 60 (5, [(0, .ref 121), (1, .int a1)], [.int 0]) h sl
  refine mk_t (M := mG_60) (i := .ifCond .eq 15) (len := 3) (q := decide ((0 : Int32) = (0 : Int32))) (off := 15) (t := 20) (st' := []) mJ_60 (by decide +kernel) rfl (by decide +kernel) (by decide +kernel) ?_
  refine mk_v (M := mG_60) (i := .lconst 0) (len := 1) (pc' := 21) (v' := .long 0) (st' := []) mJ_60 (by decide +kernel) rfl (by decide +kernel) ?_
  refine mk_r (M := mG_60) (i := .lreturn) (len := 1) (r := some (.long 0)) mJ_60 (by decide +kernel) rfl rfl (by decide +kernel) ?_
  show mi_ok _ mi_Γ (mi_ev [a0, a1, a2, a3, a4, a5]) 0 (312, [(3, .int 0), (2, .ref 121), (1, .ref 0), (0, .retAddr 0)], [.long 0, .long 0]) h sl
  refine mk_v (M := mG_0) (i := .lcmp) (len := 1) (pc' := 313) (v' := .int 0) (st' := []) mJ_0 (by decide +kernel) rfl (by decide +kernel) ?_
  refine mk_t (M := mG_0) (i := .ifCond .eq 362) (len := 3) (q := decide ((0 : Int32) = (0 : Int32))) (off := 362) (t := 675) (st' := []) mJ_0 (by decide +kernel) rfl (by decide +kernel) (by decide +kernel) ?_
  refine mk_i (M := mG_0) (len := 3) (k := 3) (n := 6) (x := 0) (y := 6) (lv' := [(3, .int 6), (2, .ref 121), (1, .ref 0), (0, .retAddr 0)]) (pc' := 678) mJ_0 (by decide +kernel) rfl (by decide +kernel) (by decide +kernel) rfl rfl ?_
  refine mk_g (M := mG_0) (len := 3) (off := (-660)) (t := 18) mJ_0 (by decide +kernel) (by decide +kernel) ?_
  refine mk_p (M := mG_0) (i := .iload_n 3) (len := 1) (f' := (19, [(3, .int 6), (2, .ref 121), (1, .ref 0), (0, .retAddr 0)], [.int 6])) mJ_0 (by decide +kernel) rfl ?_
  refine mk_p (M := mG_0) (i := .aload_n 0) (len := 1) (f' := (20, [(3, .int 6), (2, .ref 121), (1, .ref 0), (0, .retAddr 0)], [.retAddr 0, .int 6])) mJ_0 (by decide +kernel) rfl ?_
  refine mk_h (M := mG_0) (i := .arraylength) (len := 1) (f' := (21, [(3, .int 6), (2, .ref 121), (1, .ref 0), (0, .retAddr 0)], [.int 6, .int 6])) (h' := h) (sl' := sl) mJ_0 (by decide +kernel) rfl rfl ?_
  refine mk_v (M := mG_0) (i := .bipush 6) (len := 2) (pc' := 23) (v' := .int 6) (st' := [.int 6, .int 6]) mJ_0 (by decide +kernel) rfl (by decide +kernel) ?_
  refine mk_v (M := mG_0) (i := .isub) (len := 1) (pc' := 24) (v' := .int 0) (st' := [.int 6]) mJ_0 (by decide +kernel) rfl (by decide +kernel) ?_
  refine mk_t (M := mG_0) (i := .if_icmp .gt 657) (len := 3) (q := decide ((0 : Int32) < (6 : Int32))) (off := 657) (t := 681) (st' := []) mJ_0 (by decide +kernel) rfl (by decide +kernel) (by decide +kernel) ?_
  refine mk_v (M := mG_0) (i := .iconst 1) (len := 1) (pc' := 682) (v' := .int 1) (st' := []) mJ_0 (by decide +kernel) rfl (by decide +kernel) ?_
  refine mk_r (M := mG_0) (i := .ireturn) (len := 1) (r := some (.int 1)) mJ_0 (by decide +kernel) rfl rfl (by decide +kernel) ?_
  exact ⟨rfl, hl, rfl⟩
set_option maxRecDepth 20000 in
theorem lw1_7 {N sl : Nat} {h : List mi_C} (a0 a1 a2 a3 a4 a5 : Int32) (hk : a0 &&& 31 = 7) (hl : h.length = N) (g0 : h[0]? = some (.inl (11, [.ref 1, .int 0, .int 0, .ref 2, .ref 13, .ref 49, .int 0, .int (-1), .ref 85, .ref 86, .ref 92, .ref 112, .int 0, .ref 113]))) (g121 : h[121]? = some (.inl (13, [.ref 122, .ref 168, .int 0, .ref 214, .int 0, .int 0, .ref 215, .int 0, .ref 216, .ref 217, .int 0, .int 0, .int (-1), .ref 218, .ref 219, .ref 220, .ref 221, .ref 222, .ref 223, .int 0, .ref 224, .ref 225, .ref 226, .ref 227, .ref 228, .int 0, .ref 229, .ref 230, .ref 231, .ref 232, .ref 233, .ref 234, .ref 235, .ref 236, .ref 237, .ref 238, .int 0, .int 0, .int 0, .int 0, .long 0, .ref 239, .ref 240, .ref 241, .ref 242, .ref 243, .ref 244, .ref 245, .ref 246, .ref 247, .ref 248, .ref 249, .int 0, .int 0, .int 0, .int 0, .int 0, .int 0, .int 0, .int (-1), .int (-1), .int 0, .int 0, .int 0]))) : mi_ok (mi_fin N sl) mi_Γ (mi_ev [a0, a1, a2, a3, a4, a5]) 0 (18, [(3, .int 0), (2, .ref 121), (1, .ref 0), (0, .retAddr 0)], []) h sl := by
  refine mk_p (M := mG_0) (i := .iload_n 3) (len := 1) (f' := (19, [(3, .int 0), (2, .ref 121), (1, .ref 0), (0, .retAddr 0)], [.int 0])) mJ_0 (by decide +kernel) rfl ?_
  refine mk_p (M := mG_0) (i := .aload_n 0) (len := 1) (f' := (20, [(3, .int 0), (2, .ref 121), (1, .ref 0), (0, .retAddr 0)], [.retAddr 0, .int 0])) mJ_0 (by decide +kernel) rfl ?_
  refine mk_h (M := mG_0) (i := .arraylength) (len := 1) (f' := (21, [(3, .int 0), (2, .ref 121), (1, .ref 0), (0, .retAddr 0)], [.int 6, .int 0])) (h' := h) (sl' := sl) mJ_0 (by decide +kernel) rfl rfl ?_
  refine mk_v (M := mG_0) (i := .bipush 6) (len := 2) (pc' := 23) (v' := .int 6) (st' := [.int 6, .int 0]) mJ_0 (by decide +kernel) rfl (by decide +kernel) ?_
  refine mk_v (M := mG_0) (i := .isub) (len := 1) (pc' := 24) (v' := .int 0) (st' := [.int 0]) mJ_0 (by decide +kernel) rfl (by decide +kernel) ?_
  refine mk_f (M := mG_0) (i := .if_icmp .gt 657) (len := 3) (q := decide ((0 : Int32) < (0 : Int32))) (off := 657) (t := 681) (pc' := 27) (st' := []) mJ_0 (by decide +kernel) rfl (by decide +kernel) (by decide +kernel) rfl ?_
  refine mk_p (M := mG_0) (i := .aload_n 0) (len := 1) (f' := (28, [(3, .int 0), (2, .ref 121), (1, .ref 0), (0, .retAddr 0)], [.retAddr 0])) mJ_0 (by decide +kernel) rfl ?_
  refine mk_p (M := mG_0) (i := .iload_n 3) (len := 1) (f' := (29, [(3, .int 0), (2, .ref 121), (1, .ref 0), (0, .retAddr 0)], [.int 0, .retAddr 0])) mJ_0 (by decide +kernel) rfl ?_
  refine mk_h (M := mG_0) (i := .iaload) (len := 1) (f' := (30, [(3, .int 0), (2, .ref 121), (1, .ref 0), (0, .retAddr 0)], [.int a0])) (h' := h) (sl' := sl) mJ_0 (by decide +kernel) rfl (mh_ial (xs := [a0, a1, a2, a3, a4, a5]) (x := 0) rfl (show mi_in 0 6 = true by decide +kernel) rfl) ?_
  refine mk_v (M := mG_0) (i := .bipush 31) (len := 2) (pc' := 32) (v' := .int 31) (st' := [.int a0]) mJ_0 (by decide +kernel) rfl (by decide +kernel) ?_
  refine mk_p (M := mG_0) (i := .iand) (len := 1) (f' := (33, [(3, .int 0), (2, .ref 121), (1, .ref 0), (0, .retAddr 0)], [.int ((a0 &&& 31))])) mJ_0 (by decide +kernel) rfl ?_
  refine mk_s (M := mG_0) (len := 103) (dflt := 642) (lo := 0) (hi := 21) (offs := #[103, 166, 189, 202, 215, 238, 261, 285, 299, 332, 365, 398, 432, 475, 508, 531, 554, 567, 580, 593, 606, 629]) (X := 7) (t := 318) mJ_0 (by decide +kernel) hk (by decide +kernel) ?_
  refine mk_p (M := mG_0) (i := .aload_n 1) (len := 1) (f' := (319, [(3, .int 0), (2, .ref 121), (1, .ref 0), (0, .retAddr 0)], [.ref 0])) mJ_0 (by decide +kernel) rfl ?_
  refine mk_c (M := mG_0) (i := .invokevirtual 46) (len := 3) (M' := mG_27) (j' := 27) (as := [.ref 0]) (rest := []) mJ_0 (by decide +kernel) rfl rfl rfl rfl (mh_virt (n := 0) (a := 0) (ci := 11) (by decide +kernel) rfl g0 (Nat.le_of_ble_eq_true rfl) rfl) mJ_27 (Nat.le_of_ble_eq_true rfl) (mi_pos g0) ?_
  show mi_ok _ mi_Γ (mi_ev [a0, a1, a2, a3, a4, a5]) 27 (0, [(0, .ref 0)], []) h sl
  refine mk_p (M := mG_27) (i := .aload_n 0) (len := 1) (f' := (1, [(0, .ref 0)], [.ref 0])) mJ_27 (by decide +kernel) rfl ?_
  refine mk_h (M := mG_27) (i := .getfield 108) (len := 3) (f' := (4, [(0, .ref 0)], [.int 0])) (h' := h) (sl' := sl) mJ_27 (by decide +kernel) rfl (mh_getf (ci := 11) (k := 6) (by decide +kernel) g0 rfl) ?_
  refine mk_t (M := mG_27) (i := .ifCond .eq 27) (len := 3) (q := decide ((0 : Int32) = (0 : Int32))) (off := 27) (t := 31) (st' := []) mJ_27 (by decide +kernel) rfl (by decide +kernel) (by decide +kernel) ?_
  refine mk_v (M := mG_27) (i := .lconst 0) (len := 1) (pc' := 32) (v' := .long 0) (st' := []) mJ_27 (by decide +kernel) rfl (by decide +kernel) ?_
  refine mk_r (M := mG_27) (i := .lreturn) (len := 1) (r := some (.long 0)) mJ_27 (by decide +kernel) rfl rfl (by decide +kernel) ?_
  show mi_ok _ mi_Γ (mi_ev [a0, a1, a2, a3, a4, a5]) 0 (322, [(3, .int 0), (2, .ref 121), (1, .ref 0), (0, .retAddr 0)], [.long 0]) h sl
  refine mk_p (M := mG_0) (i := .aload_n 2) (len := 1) (f' := (323, [(3, .int 0), (2, .ref 121), (1, .ref 0), (0, .retAddr 0)], [.ref 121, .long 0])) mJ_0 (by decide +kernel) rfl ?_
  refine mk_c (M := mG_0) (i := .invokevirtual 50) (len := 3) (M' := mG_58) (j' := 58) (as := [.ref 121]) (rest := [.long 0]) mJ_0 (by decide +kernel) rfl rfl rfl rfl (mh_virt (n := 0) (a := 121) (ci := 13) (by decide +kernel) rfl g121 (Nat.le_of_ble_eq_true rfl) rfl) mJ_58 (Nat.le_of_ble_eq_true rfl) (mi_pos g121) ?_
  show mi_ok _ mi_Γ (mi_ev [a0, a1, a2, a3, a4, a5]) 58 (0, [(0, .ref 121)], []) h sl
  refine mk_p (M := mG_58) (i := .aload_n 0) (len := 1) (f' := (1, [(0, .ref 121)], [.ref 121])) mJ_58 (by decide +kernel) rfl ?_
  refine mk_h (M := mG_58) (i := .getfield 794) (len := 3) (f' := (4, [(0, .ref 121)], [.int 0])) (h' := h) (sl' := sl) mJ_58 (by decide +kernel) rfl (mh_getf (ci := 13) (k := 2) (by decide +kernel) g121 rfl) ?_
  refine mk_t (M := mG_58) (i := .ifCond .eq 21) (len := 3) (q := decide ((0 : Int32) = (0 : Int32))) (off := 21) (t := 25) (st' := []) mJ_58 (by decide +kernel) rfl (by decide +kernel) (by decide +kernel) ?_
  refine mk_v (M := mG_58) (i := .lconst 0) (len := 1) (pc' := 26) (v' := .long 0) (st' := []) mJ_58 (by decide +kernel) rfl (by decide +kernel) ?_
  refine mk_r (M := mG_58) (i := .lreturn) (len := 1) (r := some (.long 0)) mJ_58 (by decide +kernel) rfl rfl (by decide +kernel) ?_
  show mi_ok _ mi_Γ (mi_ev [a0, a1, a2, a3, a4, a5]) 0 (326, [(3, .int 0), (2, .ref 121), (1, .ref 0), (0, .retAddr 0)], [.long 0, .long 0]) h sl
  refine mk_v (M := mG_0) (i := .lcmp) (len := 1) (pc' := 327) (v' := .int 0) (st' := []) mJ_0 (by decide +kernel) rfl (by decide +kernel) ?_
  refine mk_t (M := mG_0) (i := .ifCond .eq 348) (len := 3) (q := decide ((0 : Int32) = (0 : Int32))) (off := 348) (t := 675) (st' := []) mJ_0 (by decide +kernel) rfl (by decide +kernel) (by decide +kernel) ?_
  refine mk_i (M := mG_0) (len := 3) (k := 3) (n := 6) (x := 0) (y := 6) (lv' := [(3, .int 6), (2, .ref 121), (1, .ref 0), (0, .retAddr 0)]) (pc' := 678) mJ_0 (by decide +kernel) rfl (by decide +kernel) (by decide +kernel) rfl rfl ?_
  refine mk_g (M := mG_0) (len := 3) (off := (-660)) (t := 18) mJ_0 (by decide +kernel) (by decide +kernel) ?_
  refine mk_p (M := mG_0) (i := .iload_n 3) (len := 1) (f' := (19, [(3, .int 6), (2, .ref 121), (1, .ref 0), (0, .retAddr 0)], [.int 6])) mJ_0 (by decide +kernel) rfl ?_
  refine mk_p (M := mG_0) (i := .aload_n 0) (len := 1) (f' := (20, [(3, .int 6), (2, .ref 121), (1, .ref 0), (0, .retAddr 0)], [.retAddr 0, .int 6])) mJ_0 (by decide +kernel) rfl ?_
  refine mk_h (M := mG_0) (i := .arraylength) (len := 1) (f' := (21, [(3, .int 6), (2, .ref 121), (1, .ref 0), (0, .retAddr 0)], [.int 6, .int 6])) (h' := h) (sl' := sl) mJ_0 (by decide +kernel) rfl rfl ?_
  refine mk_v (M := mG_0) (i := .bipush 6) (len := 2) (pc' := 23) (v' := .int 6) (st' := [.int 6, .int 6]) mJ_0 (by decide +kernel) rfl (by decide +kernel) ?_
  refine mk_v (M := mG_0) (i := .isub) (len := 1) (pc' := 24) (v' := .int 0) (st' := [.int 6]) mJ_0 (by decide +kernel) rfl (by decide +kernel) ?_
  refine mk_t (M := mG_0) (i := .if_icmp .gt 657) (len := 3) (q := decide ((0 : Int32) < (6 : Int32))) (off := 657) (t := 681) (st' := []) mJ_0 (by decide +kernel) rfl (by decide +kernel) (by decide +kernel) ?_
  refine mk_v (M := mG_0) (i := .iconst 1) (len := 1) (pc' := 682) (v' := .int 1) (st' := []) mJ_0 (by decide +kernel) rfl (by decide +kernel) ?_
  refine mk_r (M := mG_0) (i := .ireturn) (len := 1) (r := some (.int 1)) mJ_0 (by decide +kernel) rfl rfl (by decide +kernel) ?_
  exact ⟨rfl, hl, rfl⟩
set_option maxRecDepth 20000 in
theorem lw1_8 {N sl : Nat} {h : List mi_C} (a0 a1 a2 a3 a4 a5 : Int32) (hk : a0 &&& 31 = 8) (hl : h.length = N) (g0 : h[0]? = some (.inl (11, [.ref 1, .int 0, .int 0, .ref 2, .ref 13, .ref 49, .int 0, .int (-1), .ref 85, .ref 86, .ref 92, .ref 112, .int 0, .ref 113]))) (g121 : h[121]? = some (.inl (13, [.ref 122, .ref 168, .int 0, .ref 214, .int 0, .int 0, .ref 215, .int 0, .ref 216, .ref 217, .int 0, .int 0, .int (-1), .ref 218, .ref 219, .ref 220, .ref 221, .ref 222, .ref 223, .int 0, .ref 224, .ref 225, .ref 226, .ref 227, .ref 228, .int 0, .ref 229, .ref 230, .ref 231, .ref 232, .ref 233, .ref 234, .ref 235, .ref 236, .ref 237, .ref 238, .int 0, .int 0, .int 0, .int 0, .long 0, .ref 239, .ref 240, .ref 241, .ref 242, .ref 243, .ref 244, .ref 245, .ref 246, .ref 247, .ref 248, .ref 249, .int 0, .int 0, .int 0, .int 0, .int 0, .int 0, .int 0, .int (-1), .int (-1), .int 0, .int 0, .int 0]))) : mi_ok (mi_fin N sl) mi_Γ (mi_ev [a0, a1, a2, a3, a4, a5]) 0 (18, [(3, .int 0), (2, .ref 121), (1, .ref 0), (0, .retAddr 0)], []) h sl := by
  refine mk_p (M := mG_0) (i := .iload_n 3) (len := 1) (f' := (19, [(3, .int 0), (2, .ref 121), (1, .ref 0), (0, .retAddr 0)], [.int 0])) mJ_0 (by decide +kernel) rfl ?_
  refine mk_p (M := mG_0) (i := .aload_n 0) (len := 1) (f' := (20, [(3, .int 0), (2, .ref 121), (1, .ref 0), (0, .retAddr 0)], [.retAddr 0, .int 0])) mJ_0 (by decide +kernel) rfl ?_
  refine mk_h (M := mG_0) (i := .arraylength) (len := 1) (f' := (21, [(3, .int 0), (2, .ref 121), (1, .ref 0), (0, .retAddr 0)], [.int 6, .int 0])) (h' := h) (sl' := sl) mJ_0 (by decide +kernel) rfl rfl ?_
  refine mk_v (M := mG_0) (i := .bipush 6) (len := 2) (pc' := 23) (v' := .int 6) (st' := [.int 6, .int 0]) mJ_0 (by decide +kernel) rfl (by decide +kernel) ?_
  refine mk_v (M := mG_0) (i := .isub) (len := 1) (pc' := 24) (v' := .int 0) (st' := [.int 0]) mJ_0 (by decide +kernel) rfl (by decide +kernel) ?_
  refine mk_f (M := mG_0) (i := .if_icmp .gt 657) (len := 3) (q := decide ((0 : Int32) < (0 : Int32))) (off := 657) (t := 681) (pc' := 27) (st' := []) mJ_0 (by decide +kernel) rfl (by decide +kernel) (by decide +kernel) rfl ?_
  refine mk_p (M := mG_0) (i := .aload_n 0) (len := 1) (f' := (28, [(3, .int 0), (2, .ref 121), (1, .ref 0), (0, .retAddr 0)], [.retAddr 0])) mJ_0 (by decide +kernel) rfl ?_
  refine mk_p (M := mG_0) (i := .iload_n 3) (len := 1) (f' := (29, [(3, .int 0), (2, .ref 121), (1, .ref 0), (0, .retAddr 0)], [.int 0, .retAddr 0])) mJ_0 (by decide +kernel) rfl ?_
  refine mk_h (M := mG_0) (i := .iaload) (len := 1) (f' := (30, [(3, .int 0), (2, .ref 121), (1, .ref 0), (0, .retAddr 0)], [.int a0])) (h' := h) (sl' := sl) mJ_0 (by decide +kernel) rfl (mh_ial (xs := [a0, a1, a2, a3, a4, a5]) (x := 0) rfl (show mi_in 0 6 = true by decide +kernel) rfl) ?_
  refine mk_v (M := mG_0) (i := .bipush 31) (len := 2) (pc' := 32) (v' := .int 31) (st' := [.int a0]) mJ_0 (by decide +kernel) rfl (by decide +kernel) ?_
  refine mk_p (M := mG_0) (i := .iand) (len := 1) (f' := (33, [(3, .int 0), (2, .ref 121), (1, .ref 0), (0, .retAddr 0)], [.int ((a0 &&& 31))])) mJ_0 (by decide +kernel) rfl ?_
  refine mk_s (M := mG_0) (len := 103) (dflt := 642) (lo := 0) (hi := 21) (offs := #[103, 166, 189, 202, 215, 238, 261, 285, 299, 332, 365, 398, 432, 475, 508, 531, 554, 567, 580, 593, 606, 629]) (X := 8) (t := 332) mJ_0 (by decide +kernel) hk (by decide +kernel) ?_
  refine mk_p (M := mG_0) (i := .aload_n 1) (len := 1) (f' := (333, [(3, .int 0), (2, .ref 121), (1, .ref 0), (0, .retAddr 0)], [.ref 0])) mJ_0 (by decide +kernel) rfl ?_
  refine mk_p (M := mG_0) (i := .aload_n 0) (len := 1) (f' := (334, [(3, .int 0), (2, .ref 121), (1, .ref 0), (0, .retAddr 0)], [.retAddr 0, .ref 0])) mJ_0 (by decide +kernel) rfl ?_
  refine mk_p (M := mG_0) (i := .iload_n 3) (len := 1) (f' := (335, [(3, .int 0), (2, .ref 121), (1, .ref 0), (0, .retAddr 0)], [.int 0, .retAddr 0, .ref 0])) mJ_0 (by decide +kernel) rfl ?_
  refine mk_v (M := mG_0) (i := .iconst 1) (len := 1) (pc' := 336) (v' := .int 1) (st' := [.int 0, .retAddr 0, .ref 0]) mJ_0 (by decide +kernel) rfl (by decide +kernel) ?_
  refine mk_v (M := mG_0) (i := .iadd) (len := 1) (pc' := 337) (v' := .int 1) (st' := [.retAddr 0, .ref 0]) mJ_0 (by decide +kernel) rfl (by decide +kernel) ?_
  refine mk_h (M := mG_0) (i := .iaload) (len := 1) (f' := (338, [(3, .int 0), (2, .ref 121), (1, .ref 0), (0, .retAddr 0)], [.int a1, .ref 0])) (h' := h) (sl' := sl) mJ_0 (by decide +kernel) rfl (mh_ial (xs := [a0, a1, a2, a3, a4, a5]) (x := 1) rfl (show mi_in 1 6 = true by decide +kernel) rfl) ?_
  refine mk_p (M := mG_0) (i := .aload_n 0) (len := 1) (f' := (339, [(3, .int 0), (2, .ref 121), (1, .ref 0), (0, .retAddr 0)], [.retAddr 0, .int a1, .ref 0])) mJ_0 (by decide +kernel) rfl ?_
  refine mk_p (M := mG_0) (i := .iload_n 3) (len := 1) (f' := (340, [(3, .int 0), (2, .ref 121), (1, .ref 0), (0, .retAddr 0)], [.int 0, .retAddr 0, .int a1, .ref 0])) mJ_0 (by decide +kernel) rfl ?_
  refine mk_v (M := mG_0) (i := .iconst 2) (len := 1) (pc' := 341) (v' := .int 2) (st' := [.int 0, .retAddr 0, .int a1, .ref 0]) mJ_0 (by decide +kernel) rfl (by decide +kernel) ?_
  refine mk_v (M := mG_0) (i := .iadd) (len := 1) (pc' := 342) (v' := .int 2) (st' := [.retAddr 0, .int a1, .ref 0]) mJ_0 (by decide +kernel) rfl (by decide +kernel) ?_
  refine mk_h (M := mG_0) (i := .iaload) (len := 1) (f' := (343, [(3, .int 0), (2, .ref 121), (1, .ref 0), (0, .retAddr 0)], [.int a2, .int a1, .ref 0])) (h' := h) (sl' := sl) mJ_0 (by decide +kernel) rfl (mh_ial (xs := [a0, a1, a2, a3, a4, a5]) (x := 2) rfl (show mi_in 2 6 = true by decide +kernel) rfl) ?_
  refine mk_c (M := mG_0) (i := .invokevirtual 51) (len := 3) (M' := mG_39) (j' := 39) (as := [.ref 0, .int a1, .int a2]) (rest := []) mJ_0 (by decide +kernel) rfl rfl rfl rfl (mh_virt (n := 2) (a := 0) (ci := 11) (by decide +kernel) rfl g0 (Nat.le_of_ble_eq_true rfl) rfl) mJ_39 (Nat.le_of_ble_eq_true rfl) (mi_pos g0) ?_
  show mi_ok _ mi_Γ (mi_ev [a0, a1, a2, a3, a4, a5]) 39 (0, [(0, .ref 0), (1, .int a1), (2, .int a2)], []) h sl
  refine mk_p (M := mG_39) (i := .aload_n 0) (len := 1) (f' := (1, [(0, .ref 0), (1, .int a1), (2, .int a2)], [.ref 0])) mJ_39 (by decide +kernel) rfl ?_
  refine mk_p (M := mG_39) (i := .iload_n 1) (len := 1) (f' := (2, [(0, .ref 0), (1, .int a1), (2, .int a2)], [.int a1, .ref 0])) mJ_39 (by decide +kernel) rfl ?_
  refine mk_p (M := mG_39) (i := .iload_n 2) (len := 1) (f' := (3, [(0, .ref 0), (1, .int a1), (2, .int a2)], [.int a2, .int a1, .ref 0])) mJ_39 (by decide +kernel) rfl ?_
  refine mk_c (M := mG_39) (i := .invokevirtual 194) (len := 3) (M' := mG_31) (j' := 31) (as := [.ref 0, .int a1, .int a2]) (rest := []) mJ_39 (by decide +kernel) rfl rfl rfl rfl (mh_virt (n := 2) (a := 0) (ci := 11) (by decide +kernel) rfl g0 (Nat.le_of_ble_eq_true rfl) rfl) mJ_31 (Nat.le_of_ble_eq_true rfl) (mi_pos g0) ?_
  show mi_ok _ mi_Γ (mi_ev [a0, a1, a2, a3, a4, a5]) 31 (0, [(0, .ref 0), (1, .int a1), (2, .int a2)], []) h sl
  refine mk_p (M := mG_31) (i := .aload_n 0) (len := 1) (f' := (1, [(0, .ref 0), (1, .int a1), (2, .int a2)], [.ref 0])) mJ_31 (by decide +kernel) rfl ?_
  refine mk_p (M := mG_31) (i := .iload_n 1) (len := 1) (f' := (2, [(0, .ref 0), (1, .int a1), (2, .int a2)], [.int a1, .ref 0])) mJ_31 (by decide +kernel) rfl ?_
  refine mk_p (M := mG_31) (i := .iload_n 2) (len := 1) (f' := (3, [(0, .ref 0), (1, .int a1), (2, .int a2)], [.int a2, .int a1, .ref 0])) mJ_31 (by decide +kernel) rfl ?_
  refine mk_c (M := mG_31) (i := .invokevirtual 184) (len := 3) (M' := mG_48) (j' := 48) (as := [.ref 0, .int a1, .int a2]) (rest := []) mJ_31 (by decide +kernel) rfl rfl rfl rfl (mh_virt (n := 2) (a := 0) (ci := 11) (by decide +kernel) rfl g0 (Nat.le_of_ble_eq_true rfl) rfl) mJ_48 (Nat.le_of_ble_eq_true rfl) (mi_pos g0) ?_
  show mi_ok _ mi_Γ (mi_ev [a0, a1, a2, a3, a4, a5]) 48 (0, [(0, .ref 0), (1, .int a1), (2, .int a2)], []) h sl
  refine mk_p (M := mG_48) (i := .aload_n 0) (len := 1) (f' := (1, [(0, .ref 0), (1, .int a1), (2, .int a2)], [.ref 0])) mJ_48 (by decide +kernel) rfl ?_
  refine mk_p (M := mG_48) (i := .iload_n 1) (len := 1) (f' := (2, [(0, .ref 0), (1, .int a1), (2, .int a2)], [.int a1, .ref 0])) mJ_48 (by decide +kernel) rfl ?_
  refine mk_c (M := mG_48) (i := .invokevirtual 142) (len := 3) (M' := mG_38) (j' := 38) (as := [.ref 0, .int a1]) (rest := []) mJ_48 (by decide +kernel) rfl rfl rfl rfl (mh_virt (n := 1) (a := 0) (ci := 11) (by decide +kernel) rfl g0 (Nat.le_of_ble_eq_true rfl) rfl) mJ_38 (Nat.le_of_ble_eq_true rfl) (mi_pos g0) ?_
  show mi_ok _ mi_Γ (mi_ev [a0, a1, a2, a3, a4, a5]) 38 (0, [(0, .ref 0), (1, .int a1)], []) h sl
  refine mk_p (M := mG_38) (i := .aload_n 0) (len := 1) (f' := (1, [(0, .ref 0), (1, .int a1)], [.ref 0])) mJ_38 (by decide +kernel) rfl ?_
  refine mk_h (M := mG_38) (i := .getfield 108) (len := 3) (f' := (4, [(0, .ref 0), (1, .int a1)], [.int 0])) (h' := h) (sl' := sl) mJ_38 (by decide +kernel) rfl (mh_getf (ci := 11) (k := 6) (by decide +kernel) g0 rfl) ?_
  refine mk_t (M := mG_38) (i := .ifCond .eq 22) (len := 3) (q := decide ((0 : Int32) = (0 : Int32))) (off := 22) (t := 26) (st' := []) mJ_38 (by decide +kernel) rfl (by decide +kernel) (by decide +kernel) ?_
  refine mk_v (M := mG_38) (i := .iconst 0) (len := 1) (pc' := 27) (v' := .int 0) (st' := []) mJ_38 (by decide +kernel) rfl (by decide +kernel) ?_
  refine mk_r (M := mG_38) (i := .ireturn) (len := 1) (r := some (.int 0)) mJ_38 (by decide +kernel) rfl rfl (by decide +kernel) ?_
  show mi_ok _ mi_Γ (mi_ev [a0, a1, a2, a3, a4, a5]) 48 (5, [(0, .ref 0), (1, .int a1), (2, .int a2)], [.int 0]) h sl
  refine mk_t (M := mG_48) (i := .ifCond .eq 28) (len := 3) (q := decide ((0 : Int32) = (0 : Int32))) (off := 28) (t := 33) (st' := []) mJ_48 (by decide +kernel) rfl (by decide +kernel) (by decide +kernel) ?_
  refine mk_v (M := mG_48) (i := .iconst (-1)) (len := 1) (pc' := 34) (v' := .int (-1)) (st' := []) mJ_48 (by decide +kernel) rfl (by decide +kernel) ?_
  refine mk_r (M := mG_48) (i := .ireturn) (len := 1) (r := some (.int (-1))) mJ_48 (by decide +kernel) rfl rfl (by decide +kernel) ?_
  show mi_ok _ mi_Γ (mi_ev [a0, a1, a2, a3, a4, a5]) 31 (6, [(0, .ref 0), (1, .int a1), (2, .int a2)], [.int (-1)]) h sl
  refine mk_p (M := mG_31) (i := .istore_n 3) (len := 1) (f' := (7, [(3, .int (-1)), (0, .ref 0), (1, .int a1), (2, .int a2)], [])) mJ_31 (by decide +kernel) rfl ?_
  refine mk_p (M := mG_31) (i := .iload_n 3) (len := 1) (f' := (8, [(3, .int (-1)), (0, .ref 0), (1, .int a1), (2, .int a2)], [.int (-1)])) mJ_31 (by decide +kernel) rfl ?_
  refine mk_f (M := mG_31) (i := .ifCond .ge 7) (len := 3) (q := decide ((0 : Int32) ≤ ((-1) : Int32))) (off := 7) (t := 15) (pc' := 11) (st' := []) mJ_31 (by decide +kernel) rfl (by decide +kernel) (by decide +kernel) rfl ?_
  refine mk_v (M := mG_31) (i := .lconst 0) (len := 1) (pc' := 12) (v' := .long 0) (st' := []) mJ_31 (by decide +kernel) rfl (by decide +kernel) ?_
  refine mk_g (M := mG_31) (len := 3) (off := 15) (t := 27) mJ_31 (by decide +kernel) (by decide +kernel) ?_
  refine mk_r (M := mG_31) (i := .lreturn) (len := 1) (r := some (.long 0)) mJ_31 (by decide +kernel) rfl rfl (by decide +kernel) ?_
  show mi_ok _ mi_Γ (mi_ev [a0, a1, a2, a3, a4, a5]) 39 (6, [(0, .ref 0), (1, .int a1), (2, .int a2)], [.long 0]) h sl
  refine mk_v (M := mG_39) (i := .bipush 52) (len := 2) (pc' := 8) (v' := .int 52) (st' := [.long 0]) mJ_39 (by decide +kernel) rfl (by decide +kernel) ?_
  refine mk_v (M := mG_39) (i := .lushr) (len := 1) (pc' := 9) (v' := .long 0) (st' := []) mJ_39 (by decide +kernel) rfl (by decide +kernel) ?_
  refine mk_v (M := mG_39) (i := .l2i) (len := 1) (pc' := 10) (v' := .int 0) (st' := []) mJ_39 (by decide +kernel) rfl (by decide +kernel) ?_
  refine mk_r (M := mG_39) (i := .ireturn) (len := 1) (r := some (.int 0)) mJ_39 (by decide +kernel) rfl rfl (by decide +kernel) ?_
  show mi_ok _ mi_Γ (mi_ev [a0, a1, a2, a3, a4, a5]) 0 (346, [(3, .int 0), (2, .ref 121), (1, .ref 0), (0, .retAddr 0)], [.int 0]) h sl
  refine mk_p (M := mG_0) (i := .aload_n 2) (len := 1) (f' := (347, [(3, .int 0), (2, .ref 121), (1, .ref 0), (0, .retAddr 0)], [.ref 121, .int 0])) mJ_0 (by decide +kernel) rfl ?_
  refine mk_p (M := mG_0) (i := .aload_n 0) (len := 1) (f' := (348, [(3, .int 0), (2, .ref 121), (1, .ref 0), (0, .retAddr 0)], [.retAddr 0, .ref 121, .int 0])) mJ_0 (by decide +kernel) rfl ?_
  refine mk_p (M := mG_0) (i := .iload_n 3) (len := 1) (f' := (349, [(3, .int 0), (2, .ref 121), (1, .ref 0), (0, .retAddr 0)], [.int 0, .retAddr 0, .ref 121, .int 0])) mJ_0 (by decide +kernel) rfl ?_
  refine mk_v (M := mG_0) (i := .iconst 1) (len := 1) (pc' := 350) (v' := .int 1) (st' := [.int 0, .retAddr 0, .ref 121, .int 0]) mJ_0 (by decide +kernel) rfl (by decide +kernel) ?_
  refine mk_v (M := mG_0) (i := .iadd) (len := 1) (pc' := 351) (v' := .int 1) (st' := [.retAddr 0, .ref 121, .int 0]) mJ_0 (by decide +kernel) rfl (by decide +kernel) ?_
  refine mk_h (M := mG_0) (i := .iaload) (len := 1) (f' := (352, [(3, .int 0), (2, .ref 121), (1, .ref 0), (0, .retAddr 0)], [.int a1, .ref 121, .int 0])) (h' := h) (sl' := sl) mJ_0 (by decide +kernel) rfl (mh_ial (xs := [a0, a1, a2, a3, a4, a5]) (x := 1) rfl (show mi_in 1 6 = true by decide +kernel) rfl) ?_
  refine mk_p (M := mG_0) (i := .aload_n 0) (len := 1) (f' := (353, [(3, .int 0), (2, .ref 121), (1, .ref 0), (0, .retAddr 0)], [.retAddr 0, .int a1, .ref 121, .int 0])) mJ_0 (by decide +kernel) rfl ?_
  refine mk_p (M := mG_0) (i := .iload_n 3) (len := 1) (f' := (354, [(3, .int 0), (2, .ref 121), (1, .ref 0), (0, .retAddr 0)], [.int 0, .retAddr 0, .int a1, .ref 121, .int 0])) mJ_0 (by decide +kernel) rfl ?_
  refine mk_v (M := mG_0) (i := .iconst 2) (len := 1) (pc' := 355) (v' := .int 2) (st' := [.int 0, .retAddr 0, .int a1, .ref 121, .int 0]) mJ_0 (by decide +kernel) rfl (by decide +kernel) ?_
  refine mk_v (M := mG_0) (i := .iadd) (len := 1) (pc' := 356) (v' := .int 2) (st' := [.retAddr 0, .int a1, .ref 121, .int 0]) mJ_0 (by decide +kernel) rfl (by decide +kernel) ?_
  refine mk_h (M := mG_0) (i := .iaload) (len := 1) (f' := (357, [(3, .int 0), (2, .ref 121), (1, .ref 0), (0, .retAddr 0)], [.int a2, .int a1, .ref 121, .int 0])) (h' := h) (sl' := sl) mJ_0 (by decide +kernel) rfl (mh_ial (xs := [a0, a1, a2, a3, a4, a5]) (x := 2) rfl (show mi_in 2 6 = true by decide +kernel) rfl) ?_
  refine mk_c (M := mG_0) (i := .invokevirtual 55) (len := 3) (M' := mG_70) (j' := 70) (as := [.ref 121, .int a1, .int a2]) (rest := [.int 0]) mJ_0 (by decide +kernel) rfl rfl rfl rfl (mh_virt (n := 2) (a := 121) (ci := 13) (by decide +kernel) rfl g121 (Nat.le_of_ble_eq_true rfl) rfl) mJ_70 (Nat.le_of_ble_eq_true rfl) (mi_pos g121) ?_
  show mi_ok _ mi_Γ (mi_ev [a0, a1, a2, a3, a4, a5]) 70 (0, [(0, .ref 121), (1, .int a1), (2, .int a2)], []) h sl
  refine mk_p (M := mG_70) (i := .aload_n 0) (len := 1) (f' := (1, [(0, .ref 121), (1, .int a1), (2, .int a2)], [.ref 121])) mJ_70 (by decide +kernel) rfl ?_
  refine mk_p (M := mG_70) (i := .iload_n 1) (len := 1) (f' := (2, [(0, .ref 121), (1, .int a1), (2, .int a2)], [.int a1, .ref 121])) mJ_70 (by decide +kernel) rfl ?_
  refine mk_p (M := mG_70) (i := .iload_n 2) (len := 1) (f' := (3, [(0, .ref 121), (1, .int a1), (2, .int a2)], [.int a2, .int a1, .ref 121])) mJ_70 (by decide +kernel) rfl ?_
  refine mk_c (M := mG_70) (i := .invokevirtual 800) (len := 3) (M' := mG_82) (j' := 82) (as := [.ref 121, .int a1, .int a2]) (rest := []) mJ_70 (by decide +kernel) rfl rfl rfl rfl (mh_virt (n := 2) (a := 121) (ci := 13) (by decide +kernel) rfl g121 (Nat.le_of_ble_eq_true rfl) rfl) mJ_82 (Nat.le_of_ble_eq_true rfl) (mi_pos g121) ?_
  show mi_ok _ mi_Γ (mi_ev [a0, a1, a2, a3, a4, a5]) 82 (0, [(0, .ref 121), (1, .int a1), (2, .int a2)], []) h sl
  refine mk_p (M := mG_82) (i := .aload_n 0) (len := 1) (f' := (1, [(0, .ref 121), (1, .int a1), (2, .int a2)], [.ref 121])) mJ_82 (by decide +kernel) rfl ?_
  refine mk_p (M := mG_82) (i := .iload_n 1) (len := 1) (f' := (2, [(0, .ref 121), (1, .int a1), (2, .int a2)], [.int a1, .ref 121])) mJ_82 (by decide +kernel) rfl ?_
  refine mk_c (M := mG_82) (i := .invokevirtual 797) (len := 3) (M' := mG_68) (j' := 68) (as := [.ref 121, .int a1]) (rest := []) mJ_82 (by decide +kernel) rfl rfl rfl rfl (mh_virt (n := 1) (a := 121) (ci := 13) (by decide +kernel) rfl g121 (Nat.le_of_ble_eq_true rfl) rfl) mJ_68 (Nat.le_of_ble_eq_true rfl) (mi_pos g121) ?_
  show mi_ok _ mi_Γ (mi_ev [a0, a1, a2, a3, a4, a5]) 68 (0, [(0, .ref 121), (1, .int a1)], []) h sl
  refine mk_p (M := mG_68) (i := .aload_n 0) (len := 1) (f' := (1, [(0, .ref 121), (1, .int a1)], [.ref 121])) mJ_68 (by decide +kernel) rfl ?_
  refine mk_h (M := mG_68) (i := .getfield 794) (len := 3) (f' := (4, [(0, .ref 121), (1, .int a1)], [.int 0])) (h' := h) (sl' := sl) mJ_68 (by decide +kernel) rfl (mh_getf (ci := 13) (k := 2) (by decide +kernel) g121 rfl) ?_
  refine mk_t (M := mG_68) (i := .ifCond .eq 22) (len := 3) (q := decide ((0 : Int32) = (0 : Int32))) (off := 22) (t := 26) (st' := []) mJ_68 (by decide +kernel) rfl (by decide +kernel) (by decide +kernel) ?_
  refine mk_v (M := mG_68) (i := .iconst 0) (len := 1) (pc' := 27) (v' := .int 0) (st' := []) mJ_68 (by decide +kernel) rfl (by decide +kernel) ?_
  refine mk_r (M := mG_68) (i := .ireturn) (len := 1) (r := some (.int 0)) mJ_68 (by decide +kernel) rfl rfl (by decide +kernel) ?_
  show mi_ok _ mi_Γ (mi_ev [a0, a1, a2, a3, a4, a5]) 82 (5, [(0, .ref 121), (1, .int a1), (2, .int a2)], [.int 0]) h sl
  refine mk_t (M := mG_82) (i := .ifCond .eq 44) (len := 3) (q := decide ((0 : Int32) = (0 : Int32))) (off := 44) (t := 49) (st' := []) mJ_82 (by decide +kernel) rfl (by decide +kernel) (by decide +kernel) ?_
  refine mk_v (M := mG_82) (i := .iconst (-1)) (len := 1) (pc' := 50) (v' := .int (-1)) (st' := []) mJ_82 (by decide +kernel) rfl (by decide +kernel) ?_
  refine mk_r (M := mG_82) (i := .ireturn) (len := 1) (r := some (.int (-1))) mJ_82 (by decide +kernel) rfl rfl (by decide +kernel) ?_
  show mi_ok _ mi_Γ (mi_ev [a0, a1, a2, a3, a4, a5]) 70 (6, [(0, .ref 121), (1, .int a1), (2, .int a2)], [.int (-1)]) h sl
  refine mk_p (M := mG_70) (i := .istore_n 3) (len := 1) (f' := (7, [(3, .int (-1)), (0, .ref 121), (1, .int a1), (2, .int a2)], [])) mJ_70 (by decide +kernel) rfl ?_
  refine mk_p (M := mG_70) (i := .iload_n 3) (len := 1) (f' := (8, [(3, .int (-1)), (0, .ref 121), (1, .int a1), (2, .int a2)], [.int (-1)])) mJ_70 (by decide +kernel) rfl ?_
  refine mk_f (M := mG_70) (i := .ifCond .ge 7) (len := 3) (q := decide ((0 : Int32) ≤ ((-1) : Int32))) (off := 7) (t := 15) (pc' := 11) (st' := []) mJ_70 (by decide +kernel) rfl (by decide +kernel) (by decide +kernel) rfl ?_
  refine mk_v (M := mG_70) (i := .iconst 0) (len := 1) (pc' := 12) (v' := .int 0) (st' := []) mJ_70 (by decide +kernel) rfl (by decide +kernel) ?_
  refine mk_g (M := mG_70) (len := 3) (off := 12) (t := 24) mJ_70 (by decide +kernel) (by decide +kernel) ?_
  refine mk_r (M := mG_70) (i := .ireturn) (len := 1) (r := some (.int 0)) mJ_70 (by decide +kernel) rfl rfl (by decide +kernel) ?_
  show mi_ok _ mi_Γ (mi_ev [a0, a1, a2, a3, a4, a5]) 0 (360, [(3, .int 0), (2, .ref 121), (1, .ref 0), (0, .retAddr 0)], [.int 0, .int 0]) h sl
  refine mk_t (M := mG_0) (i := .if_icmp .eq 315) (len := 3) (q := decide ((0 : Int32) = (0 : Int32))) (off := 315) (t := 675) (st' := []) mJ_0 (by decide +kernel) rfl (by decide +kernel) (by decide +kernel) ?_
  refine mk_i (M := mG_0) (len := 3) (k := 3) (n := 6) (x := 0) (y := 6) (lv' := [(3, .int 6), (2, .ref 121), (1, .ref 0), (0, .retAddr 0)]) (pc' := 678) mJ_0 (by decide +kernel) rfl (by decide +kernel) (by decide +kernel) rfl rfl ?_
  refine mk_g (M := mG_0) (len := 3) (off := (-660)) (t := 18) mJ_0 (by decide +kernel) (by decide +kernel) ?_
  refine mk_p (M := mG_0) (i := .iload_n 3) (len := 1) (f' := (19, [(3, .int 6), (2, .ref 121), (1, .ref 0), (0, .retAddr 0)], [.int 6])) mJ_0 (by decide +kernel) rfl ?_
  refine mk_p (M := mG_0) (i := .aload_n 0) (len := 1) (f' := (20, [(3, .int 6), (2, .ref 121), (1, .ref 0), (0, .retAddr 0)], [.retAddr 0, .int 6])) mJ_0 (by decide +kernel) rfl ?_
  refine mk_h (M := mG_0) (i := .arraylength) (len := 1) (f' := (21, [(3, .int 6), (2, .ref 121), (1, .ref 0), (0, .retAddr 0)], [.int 6, .int 6])) (h' := h) (sl' := sl) mJ_0 (by decide +kernel) rfl rfl ?_
  refine mk_v (M := mG_0) (i := .bipush 6) (len := 2) (pc' := 23) (v' := .int 6) (st' := [.int 6, .int 6]) mJ_0 (by decide +kernel) rfl (by decide +kernel) ?_
  refine mk_v (M := mG_0) (i := .isub) (len := 1) (pc' := 24) (v' := .int 0) (st' := [.int 6]) mJ_0 (by decide +kernel) rfl (by decide +kernel) ?_
  refine mk_t (M := mG_0) (i := .if_icmp .gt 657) (len := 3) (q := decide ((0 : Int32) < (6 : Int32))) (off := 657) (t := 681) (st' := []) mJ_0 (by decide +kernel) rfl (by decide +kernel) (by decide +kernel) ?_
  refine mk_v (M := mG_0) (i := .iconst 1) (len := 1) (pc' := 682) (v' := .int 1) (st' := []) mJ_0 (by decide +kernel) rfl (by decide +kernel) ?_
  refine mk_r (M := mG_0) (i := .ireturn) (len := 1) (r := some (.int 1)) mJ_0 (by decide +kernel) rfl rfl (by decide +kernel) ?_
  exact ⟨rfl, hl, rfl⟩
