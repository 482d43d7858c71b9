/-! The law, one call. -/
set_option maxRecDepth 20000 in
theorem lw1_14 {N sl : Nat} {h : List mi_C} {xs112 : List Int32} {xs248 : List Int32} (a0 a1 a2 a3 a4 a5 : Int32) (hk : a0 &&& 31 = 14) (hl : h.length = N) (g0 : h[0]? = some (.inl (11, [.ref 1, .int 0, .int 0, .ref 2, .ref 13, .ref 49, .int 0, .int (-1), .ref 85, .ref 86, .ref 92, .ref 112, .int 0, .ref 113]))) (g112 : h[112]? = some (.inr (1, 256, .inl xs112))) (g121 : h[121]? = some (.inl (13, [.ref 122, .ref 168, .int 0, .ref 214, .int 0, .int 0, .ref 215, .int 0, .ref 216, .ref 217, .int 0, .int 0, .int (-1), .ref 218, .ref 219, .ref 220, .ref 221, .ref 222, .ref 223, .int 0, .ref 224, .ref 225, .ref 226, .ref 227, .ref 228, .int 0, .ref 229, .ref 230, .ref 231, .ref 232, .ref 233, .ref 234, .ref 235, .ref 236, .ref 237, .ref 238, .int 0, .int 0, .int 0, .int 0, .long 0, .ref 239, .ref 240, .ref 241, .ref 242, .ref 243, .ref 244, .ref 245, .ref 246, .ref 247, .ref 248, .ref 249, .int 0, .int 0, .int 0, .int 0, .int 0, .int 0, .int 0, .int (-1), .int (-1), .int 0, .int 0, .int 0]))) (g248 : h[248]? = some (.inr (1, 256, .inl xs248))) : mi_ok (mi_fin N sl) mi_Γ (mi_ev [a0, a1, a2, a3, a4, a5]) 0 (18, [(3, .int 0), (2, .ref 121), (1, .ref 0), (0, .retAddr 0)], []) h sl := by
  refine mk_p (M := mG_0) (i := .iload_n 3) (len := 1) (f' := (19, [(3, .int 0), (2, .ref 121), (1, .ref 0), (0, .retAddr 0)], [.int 0])) mJ_0 (by decide +kernel) rfl ?_
  refine mk_p (M := mG_0) (i := .aload_n 0) (len := 1) (f' := (20, [(3, .int 0), (2, .ref 121), (1, .ref 0), (0, .retAddr 0)], [.retAddr 0, .int 0])) mJ_0 (by decide +kernel) rfl ?_
  refine mk_h (M := mG_0) (i := .arraylength) (len := 1) (f' := (21, [(3, .int 0), (2, .ref 121), (1, .ref 0), (0, .retAddr 0)], [.int 6, .int 0])) (h' := h) (sl' := sl) mJ_0 (by decide +kernel) rfl rfl ?_
  refine mk_v (M := mG_0) (i := .bipush 6) (len := 2) (pc' := 23) (v' := .int 6) (st' := [.int 6, .int 0]) mJ_0 (by decide +kernel) rfl (by decide +kernel) ?_
  refine mk_v (M := mG_0) (i := .isub) (len := 1) (pc' := 24) (v' := .int 0) (st' := [.int 0]) mJ_0 (by decide +kernel) rfl (by decide +kernel) ?_
  refine mk_f (M := mG_0) (i := .if_icmp .gt 657) (len := 3) (q := decide ((0 : Int32) < (0 : Int32))) (off := 657) (t := 681) (pc' := 27) (st' := []) mJ_0 (by decide +kernel) rfl (by decide +kernel) (by decide +kernel) rfl ?_
  refine mk_p (M := mG_0) (i := .aload_n 0) (len := 1) (f' := (28, [(3, .int 0), (2, .ref 121), (1, .ref 0), (0, .retAddr 0)], [.retAddr 0])) mJ_0 (by decide +kernel) rfl ?_
  refine mk_p (M := mG_0) (i := .iload_n 3) (len := 1) (f' := (29, [(3, .int 0), (2, .ref 121), (1, .ref 0), (0, .retAddr 0)], [.int 0, .retAddr 0])) mJ_0 (by decide +kernel) rfl ?_
  refine mk_h (M := mG_0) (i := .iaload) (len := 1) (f' := (30, [(3, .int 0), (2, .ref 121), (1, .ref 0), (0, .retAddr 0)], [.int a0])) (h' := h) (sl' := sl) mJ_0 (by decide +kernel) rfl (mh_ial (xs := [a0, a1, a2, a3, a4, a5]) (x := 0) rfl (show mi_in 0 6 = true by decide +kernel) rfl) ?_
  refine mk_v (M := mG_0) (i := .bipush 31) (len := 2) (pc' := 32) (v' := .int 31) (st' := [.int a0]) mJ_0 (by decide +kernel) rfl (by decide +kernel) ?_
  refine mk_p (M := mG_0) (i := .iand) (len := 1) (f' := (33, [(3, .int 0), (2, .ref 121), (1, .ref 0), (0, .retAddr 0)], [.int ((a0 &&& 31))])) mJ_0 (by decide +kernel) rfl ?_
  refine mk_s (M := mG_0) (len := 103) (dflt := 642) (lo := 0) (hi := 21) (offs := #[103, 166, 189, 202, 215, 238, 261, 285, 299, 332, 365, 398, 432, 475, 508, 531, 554, 567, 580, 593, 606, 629]) (X := 14) (t := 541) mJ_0 (by decide +kernel) hk (by decide +kernel) ?_
  refine mk_p (M := mG_0) (i := .aload_n 1) (len := 1) (f' := (542, [(3, .int 0), (2, .ref 121), (1, .ref 0), (0, .retAddr 0)], [.ref 0])) mJ_0 (by decide +kernel) rfl ?_
  refine mk_p (M := mG_0) (i := .aload_n 0) (len := 1) (f' := (543, [(3, .int 0), (2, .ref 121), (1, .ref 0), (0, .retAddr 0)], [.retAddr 0, .ref 0])) mJ_0 (by decide +kernel) rfl ?_
  refine mk_p (M := mG_0) (i := .iload_n 3) (len := 1) (f' := (544, [(3, .int 0), (2, .ref 121), (1, .ref 0), (0, .retAddr 0)], [.int 0, .retAddr 0, .ref 0])) mJ_0 (by decide +kernel) rfl ?_
  refine mk_v (M := mG_0) (i := .iconst 1) (len := 1) (pc' := 545) (v' := .int 1) (st' := [.int 0, .retAddr 0, .ref 0]) mJ_0 (by decide +kernel) rfl (by decide +kernel) ?_
  refine mk_v (M := mG_0) (i := .iadd) (len := 1) (pc' := 546) (v' := .int 1) (st' := [.retAddr 0, .ref 0]) mJ_0 (by decide +kernel) rfl (by decide +kernel) ?_
  refine mk_h (M := mG_0) (i := .iaload) (len := 1) (f' := (547, [(3, .int 0), (2, .ref 121), (1, .ref 0), (0, .retAddr 0)], [.int a1, .ref 0])) (h' := h) (sl' := sl) mJ_0 (by decide +kernel) rfl (mh_ial (xs := [a0, a1, a2, a3, a4, a5]) (x := 1) rfl (show mi_in 1 6 = true by decide +kernel) rfl) ?_
  refine mk_c (M := mG_0) (i := .invokevirtual 78) (len := 3) (M' := mG_37) (j' := 37) (as := [.ref 0, .int a1]) (rest := []) mJ_0 (by decide +kernel) rfl rfl rfl rfl (mh_virt (n := 1) (a := 0) (ci := 11) (by decide +kernel) rfl g0 (Nat.le_of_ble_eq_true rfl) rfl) mJ_37 (Nat.le_of_ble_eq_true rfl) (mi_pos g0) ?_
  show mi_ok _ mi_Γ (mi_ev [a0, a1, a2, a3, a4, a5]) 37 (0, [(0, .ref 0), (1, .int a1)], []) h sl
  refine mk_p (M := mG_37) (i := .aload_n 0) (len := 1) (f' := (1, [(0, .ref 0), (1, .int a1)], [.ref 0])) mJ_37 (by decide +kernel) rfl ?_
  refine mk_h (M := mG_37) (i := .getfield 224) (len := 3) (f' := (4, [(0, .ref 0), (1, .int a1)], [.int 0])) (h' := h) (sl' := sl) mJ_37 (by decide +kernel) rfl (mh_getf (ci := 11) (k := 12) (by decide +kernel) g0 rfl) ?_
  refine mk_v (M := mG_37) (i := .sipush 256) (len := 3) (pc' := 7) (v' := .int 256) (st' := [.int 0]) mJ_37 (by decide +kernel) rfl (by decide +kernel) ?_
  refine mk_t (M := mG_37) (i := .if_icmp .lt 5) (len := 3) (q := decide ((0 : Int32) < (256 : Int32))) (off := 5) (t := 12) (st' := []) mJ_37 (by decide +kernel) rfl (by decide +kernel) (by decide +kernel) ?_
  refine mk_p (M := mG_37) (i := .aload_n 0) (len := 1) (f' := (13, [(0, .ref 0), (1, .int a1)], [.ref 0])) mJ_37 (by decide +kernel) rfl ?_
  refine mk_h (M := mG_37) (i := .getfield 59) (len := 3) (f' := (16, [(0, .ref 0), (1, .int a1)], [.ref 112])) (h' := h) (sl' := sl) mJ_37 (by decide +kernel) rfl (mh_getf (ci := 11) (k := 11) (by decide +kernel) g0 rfl) ?_
  refine mk_p (M := mG_37) (i := .aload_n 0) (len := 1) (f' := (17, [(0, .ref 0), (1, .int a1)], [.ref 0, .ref 112])) mJ_37 (by decide +kernel) rfl ?_
  refine mk_h (M := mG_37) (i := .getfield 224) (len := 3) (f' := (20, [(0, .ref 0), (1, .int a1)], [.int 0, .ref 112])) (h' := h) (sl' := sl) mJ_37 (by decide +kernel) rfl (mh_getf (ci := 11) (k := 12) (by decide +kernel) g0 rfl) ?_
  refine mk_p (M := mG_37) (i := .iload_n 1) (len := 1) (f' := (21, [(0, .ref 0), (1, .int a1)], [.int a1, .int 0, .ref 112])) mJ_37 (by decide +kernel) rfl ?_
  refine mk_wa (M := mG_37) (i := .iastore) (len := 1) (f' := (22, [(0, .ref 0), (1, .int a1)], [])) (a := 112) (t := 1) (n := 256) mJ_37 (by decide +kernel) rfl (mh_ias g112 (by decide +kernel)) g112 (fun h1 ys1 lh1 g112 eh1 => ?_)
  have g0 := (eh1 0 (by decide)).trans g0
  have g121 := (eh1 121 (by decide)).trans g121
  have g248 := (eh1 248 (by decide)).trans g248
  have hl := lh1.trans hl
  refine mk_p (M := mG_37) (i := .aload_n 0) (len := 1) (f' := (23, [(0, .ref 0), (1, .int a1)], [.ref 0])) mJ_37 (by decide +kernel) rfl ?_
  refine mk_p (M := mG_37) (i := .dup) (len := 1) (f' := (24, [(0, .ref 0), (1, .int a1)], [.ref 0, .ref 0])) mJ_37 (by decide +kernel) rfl ?_
  refine mk_h (M := mG_37) (i := .getfield 224) (len := 3) (f' := (27, [(0, .ref 0), (1, .int a1)], [.int 0, .ref 0])) (h' := h1) (sl' := sl) mJ_37 (by decide +kernel) rfl (mh_getf (ci := 11) (k := 12) (by decide +kernel) g0 rfl) ?_
  refine mk_v (M := mG_37) (i := .iconst 1) (len := 1) (pc' := 28) (v' := .int 1) (st' := [.int 0, .ref 0]) mJ_37 (by decide +kernel) rfl (by decide +kernel) ?_
  refine mk_v (M := mG_37) (i := .iadd) (len := 1) (pc' := 29) (v' := .int 1) (st' := [.ref 0]) mJ_37 (by decide +kernel) rfl (by decide +kernel) ?_
  refine mk_w (M := mG_37) (i := .putfield 224) (len := 3) (f' := (32, [(0, .ref 0), (1, .int a1)], [])) (a := 0) (.inl (11, [.ref 1, .int 0, .int 0, .ref 2, .ref 13, .ref 49, .int 0, .int (-1), .ref 85, .ref 86, .ref 92, .ref 112, .int 1, .ref 113])) mJ_37 (by decide +kernel) rfl (mh_putf (ci := 11) (k := 12) (ty := .int) (by decide +kernel) g0 (Nat.le_of_ble_eq_true rfl) rfl rfl rfl) g0 (fun h2 lh2 g0 eh2 => ?_)
  have g112 := (eh2 112 (by decide)).trans g112
  have g121 := (eh2 121 (by decide)).trans g121
  have g248 := (eh2 248 (by decide)).trans g248
  have hl := lh2.trans hl
  refine mk_v (M := mG_37) (i := .iconst 1) (len := 1) (pc' := 33) (v' := .int 1) (st' := []) mJ_37 (by decide +kernel) rfl (by decide +kernel) ?_
  refine mk_r (M := mG_37) (i := .ireturn) (len := 1) (r := some (.int 1)) mJ_37 (by decide +kernel) rfl rfl (by decide +kernel) ?_
  show mi_ok _ mi_Γ (mi_ev [a0, a1, a2, a3, a4, a5]) 0 (550, [(3, .int 0), (2, .ref 121), (1, .ref 0), (0, .retAddr 0)], [.int 1]) h2 sl
  refine mk_p (M := mG_0) (i := .aload_n 2) (len := 1) (f' := (551, [(3, .int 0), (2, .ref 121), (1, .ref 0), (0, .retAddr 0)], [.ref 121, .int 1])) mJ_0 (by decide +kernel) rfl ?_
  refine mk_p (M := mG_0) (i := .aload_n 0) (len := 1) (f' := (552, [(3, .int 0), (2, .ref 121), (1, .ref 0), (0, .retAddr 0)], [.retAddr 0, .ref 121, .int 1])) mJ_0 (by decide +kernel) rfl ?_
  refine mk_p (M := mG_0) (i := .iload_n 3) (len := 1) (f' := (553, [(3, .int 0), (2, .ref 121), (1, .ref 0), (0, .retAddr 0)], [.int 0, .retAddr 0, .ref 121, .int 1])) mJ_0 (by decide +kernel) rfl ?_
  refine mk_v (M := mG_0) (i := .iconst 1) (len := 1) (pc' := 554) (v' := .int 1) (st' := [.int 0, .retAddr 0, .ref 121, .int 1]) mJ_0 (by decide +kernel) rfl (by decide +kernel) ?_
  refine mk_v (M := mG_0) (i := .iadd) (len := 1) (pc' := 555) (v' := .int 1) (st' := [.retAddr 0, .ref 121, .int 1]) mJ_0 (by decide +kernel) rfl (by decide +kernel) ?_
  refine mk_h (M := mG_0) (i := .iaload) (len := 1) (f' := (556, [(3, .int 0), (2, .ref 121), (1, .ref 0), (0, .retAddr 0)], [.int a1, .ref 121, .int 1])) (h' := h2) (sl' := sl) mJ_0 (by decide +kernel) rfl (mh_ial (xs := [a0, a1, a2, a3, a4, a5]) (x := 1) rfl (show mi_in 1 6 = true by decide +kernel) rfl) ?_
  refine mk_c (M := mG_0) (i := .invokevirtual 81) (len := 3) (M' := mG_67) (j' := 67) (as := [.ref 121, .int a1]) (rest := [.int 1]) mJ_0 (by decide +kernel) rfl rfl rfl rfl (mh_virt (n := 1) (a := 121) (ci := 13) (by decide +kernel) rfl g121 (Nat.le_of_ble_eq_true rfl) rfl) mJ_67 (Nat.le_of_ble_eq_true rfl) (mi_pos g121) ?_
  show mi_ok _ mi_Γ (mi_ev [a0, a1, a2, a3, a4, a5]) 67 (0, [(0, .ref 121), (1, .int a1)], []) h2 sl
  refine mk_p (M := mG_67) (i := .aload_n 0) (len := 1) (f' := (1, [(0, .ref 121), (1, .int a1)], [.ref 121])) mJ_67 (by decide +kernel) rfl ?_
  refine mk_h (M := mG_67) (i := .getfield 805) (len := 3) (f' := (4, [(0, .ref 121), (1, .int a1)], [.int 0])) (h' := h2) (sl' := sl) mJ_67 (by decide +kernel) rfl (mh_getf (ci := 13) (k := 55) (by decide +kernel) g121 rfl) ?_
  refine mk_v (M := mG_67) (i := .sipush 256) (len := 3) (pc' := 7) (v' := .int 256) (st' := [.int 0]) mJ_67 (by decide +kernel) rfl (by decide +kernel) ?_
  refine mk_t (M := mG_67) (i := .if_icmp .ne 5) (len := 3) (q := decide (¬ (0 : Int32) = (256 : Int32))) (off := 5) (t := 12) (st' := []) mJ_67 (by decide +kernel) rfl (by decide +kernel) (by decide +kernel) ?_
  refine mk_p (M := mG_67) (i := .aload_n 0) (len := 1) (f' := (13, [(0, .ref 121), (1, .int a1)], [.ref 121])) mJ_67 (by decide +kernel) rfl ?_
  refine mk_h (M := mG_67) (i := .getfield 129) (len := 3) (f' := (16, [(0, .ref 121), (1, .int a1)], [.ref 248])) (h' := h2) (sl' := sl) mJ_67 (by decide +kernel) rfl (mh_getf (ci := 13) (k := 50) (by decide +kernel) g121 rfl) ?_
  refine mk_p (M := mG_67) (i := .aload_n 0) (len := 1) (f' := (17, [(0, .ref 121), (1, .int a1)], [.ref 121, .ref 248])) mJ_67 (by decide +kernel) rfl ?_
  refine mk_h (M := mG_67) (i := .getfield 805) (len := 3) (f' := (20, [(0, .ref 121), (1, .int a1)], [.int 0, .ref 248])) (h' := h2) (sl' := sl) mJ_67 (by decide +kernel) rfl (mh_getf (ci := 13) (k := 55) (by decide +kernel) g121 rfl) ?_
  refine mk_p (M := mG_67) (i := .iload_n 1) (len := 1) (f' := (21, [(0, .ref 121), (1, .int a1)], [.int a1, .int 0, .ref 248])) mJ_67 (by decide +kernel) rfl ?_
  refine mk_wa (M := mG_67) (i := .iastore) (len := 1) (f' := (22, [(0, .ref 121), (1, .int a1)], [])) (a := 248) (t := 1) (n := 256) mJ_67 (by decide +kernel) rfl (mh_ias g248 (by decide +kernel)) g248 (fun h3 ys2 lh3 g248 eh3 => ?_)
  have g0 := (eh3 0 (by decide)).trans g0
  have g112 := (eh3 112 (by decide)).trans g112
  have g121 := (eh3 121 (by decide)).trans g121
  have hl := lh3.trans hl
  refine mk_p (M := mG_67) (i := .aload_n 0) (len := 1) (f' := (23, [(0, .ref 121), (1, .int a1)], [.ref 121])) mJ_67 (by decide +kernel) rfl ?_
  refine mk_p (M := mG_67) (i := .dup) (len := 1) (f' := (24, [(0, .ref 121), (1, .int a1)], [.ref 121, .ref 121])) mJ_67 (by decide +kernel) rfl ?_
  refine mk_h (M := mG_67) (i := .getfield 805) (len := 3) (f' := (27, [(0, .ref 121), (1, .int a1)], [.int 0, .ref 121])) (h' := h3) (sl' := sl) mJ_67 (by decide +kernel) rfl (mh_getf (ci := 13) (k := 55) (by decide +kernel) g121 rfl) ?_
  refine mk_v (M := mG_67) (i := .iconst 1) (len := 1) (pc' := 28) (v' := .int 1) (st' := [.int 0, .ref 121]) mJ_67 (by decide +kernel) rfl (by decide +kernel) ?_
  refine mk_v (M := mG_67) (i := .iadd) (len := 1) (pc' := 29) (v' := .int 1) (st' := [.ref 121]) mJ_67 (by decide +kernel) rfl (by decide +kernel) ?_
  refine mk_w (M := mG_67) (i := .putfield 805) (len := 3) (f' := (32, [(0, .ref 121), (1, .int a1)], [])) (a := 121) (.inl (13, [.ref 122, .ref 168, .int 0, .ref 214, .int 0, .int 0, .ref 215, .int 0, .ref 216, .ref 217, .int 0, .int 0, .int (-1), .ref 218, .ref 219, .ref 220, .ref 221, .ref 222, .ref 223, .int 0, .ref 224, .ref 225, .ref 226, .ref 227, .ref 228, .int 0, .ref 229, .ref 230, .ref 231, .ref 232, .ref 233, .ref 234, .ref 235, .ref 236, .ref 237, .ref 238, .int 0, .int 0, .int 0, .int 0, .long 0, .ref 239, .ref 240, .ref 241, .ref 242, .ref 243, .ref 244, .ref 245, .ref 246, .ref 247, .ref 248, .ref 249, .int 0, .int 0, .int 0, .int 1, .int 0, .int 0, .int 0, .int (-1), .int (-1), .int 0, .int 0, .int 0])) mJ_67 (by decide +kernel) rfl (mh_putf (ci := 13) (k := 55) (ty := .int) (by decide +kernel) g121 (Nat.le_of_ble_eq_true rfl) rfl rfl rfl) g121 (fun h4 lh4 g121 eh4 => ?_)
  have g0 := (eh4 0 (by decide)).trans g0
  have g112 := (eh4 112 (by decide)).trans g112
  have g248 := (eh4 248 (by decide)).trans g248
  have hl := lh4.trans hl
  refine mk_v (M := mG_67) (i := .iconst 1) (len := 1) (pc' := 33) (v' := .int 1) (st' := []) mJ_67 (by decide +kernel) rfl (by decide +kernel) ?_
  refine mk_r (M := mG_67) (i := .ireturn) (len := 1) (r := some (.int 1)) mJ_67 (by decide +kernel) rfl rfl (by decide +kernel) ?_
  show mi_ok _ mi_Γ (mi_ev [a0, a1, a2, a3, a4, a5]) 0 (559, [(3, .int 0), (2, .ref 121), (1, .ref 0), (0, .retAddr 0)], [.int 1, .int 1]) h4 sl
  refine mk_t (M := mG_0) (i := .if_icmp .eq 116) (len := 3) (q := decide ((1 : Int32) = (1 : Int32))) (off := 116) (t := 675) (st' := []) mJ_0 (by decide +kernel) rfl (by decide +kernel) (by decide +kernel) ?_
  refine mk_i (M := mG_0) (len := 3) (k := 3) (n := 6) (x := 0) (y := 6) (lv' := [(3, .int 6), (2, .ref 121), (1, .ref 0), (0, .retAddr 0)]) (pc' := 678) mJ_0 (by decide +kernel) rfl (by decide +kernel) (by decide +kernel) rfl rfl ?_
  refine mk_g (M := mG_0) (len := 3) (off := (-660)) (t := 18) mJ_0 (by decide +kernel) (by decide +kernel) ?_
  refine mk_p (M := mG_0) (i := .iload_n 3) (len := 1) (f' := (19, [(3, .int 6), (2, .ref 121), (1, .ref 0), (0, .retAddr 0)], [.int 6])) mJ_0 (by decide +kernel) rfl ?_
  refine mk_p (M := mG_0) (i := .aload_n 0) (len := 1) (f' := (20, [(3, .int 6), (2, .ref 121), (1, .ref 0), (0, .retAddr 0)], [.retAddr 0, .int 6])) mJ_0 (by decide +kernel) rfl ?_
  refine mk_h (M := mG_0) (i := .arraylength) (len := 1) (f' := (21, [(3, .int 6), (2, .ref 121), (1, .ref 0), (0, .retAddr 0)], [.int 6, .int 6])) (h' := h4) (sl' := sl) mJ_0 (by decide +kernel) rfl rfl ?_
  refine mk_v (M := mG_0) (i := .bipush 6) (len := 2) (pc' := 23) (v' := .int 6) (st' := [.int 6, .int 6]) mJ_0 (by decide +kernel) rfl (by decide +kernel) ?_
  refine mk_v (M := mG_0) (i := .isub) (len := 1) (pc' := 24) (v' := .int 0) (st' := [.int 6]) mJ_0 (by decide +kernel) rfl (by decide +kernel) ?_
  refine mk_t (M := mG_0) (i := .if_icmp .gt 657) (len := 3) (q := decide ((0 : Int32) < (6 : Int32))) (off := 657) (t := 681) (st' := []) mJ_0 (by decide +kernel) rfl (by decide +kernel) (by decide +kernel) ?_
  refine mk_v (M := mG_0) (i := .iconst 1) (len := 1) (pc' := 682) (v' := .int 1) (st' := []) mJ_0 (by decide +kernel) rfl (by decide +kernel) ?_
  refine mk_r (M := mG_0) (i := .ireturn) (len := 1) (r := some (.int 1)) mJ_0 (by decide +kernel) rfl rfl (by decide +kernel) ?_
  exact ⟨rfl, hl, rfl⟩
set_option maxRecDepth 20000 in
theorem lw1_15 {N sl : Nat} {h : List mi_C} (a0 a1 a2 a3 a4 a5 : Int32) (hk : a0 &&& 31 = 15) (hl : h.length = N) (g0 : h[0]? = some (.inl (11, [.ref 1, .int 0, .int 0, .ref 2, .ref 13, .ref 49, .int 0, .int (-1), .ref 85, .ref 86, .ref 92, .ref 112, .int 0, .ref 113]))) (g121 : h[121]? = some (.inl (13, [.ref 122, .ref 168, .int 0, .ref 214, .int 0, .int 0, .ref 215, .int 0, .ref 216, .ref 217, .int 0, .int 0, .int (-1), .ref 218, .ref 219, .ref 220, .ref 221, .ref 222, .ref 223, .int 0, .ref 224, .ref 225, .ref 226, .ref 227, .ref 228, .int 0, .ref 229, .ref 230, .ref 231, .ref 232, .ref 233, .ref 234, .ref 235, .ref 236, .ref 237, .ref 238, .int 0, .int 0, .int 0, .int 0, .long 0, .ref 239, .ref 240, .ref 241, .ref 242, .ref 243, .ref 244, .ref 245, .ref 246, .ref 247, .ref 248, .ref 249, .int 0, .int 0, .int 0, .int 0, .int 0, .int 0, .int 0, .int (-1), .int (-1), .int 0, .int 0, .int 0]))) : mi_ok (mi_fin N sl) mi_Γ (mi_ev [a0, a1, a2, a3, a4, a5]) 0 (18, [(3, .int 0), (2, .ref 121), (1, .ref 0), (0, .retAddr 0)], []) h sl := by
  refine mk_p (M := mG_0) (i := .iload_n 3) (len := 1) (f' := (19, [(3, .int 0), (2, .ref 121), (1, .ref 0), (0, .retAddr 0)], [.int 0])) mJ_0 (by decide +kernel) rfl ?_
  refine mk_p (M := mG_0) (i := .aload_n 0) (len := 1) (f' := (20, [(3, .int 0), (2, .ref 121), (1, .ref 0), (0, .retAddr 0)], [.retAddr 0, .int 0])) mJ_0 (by decide +kernel) rfl ?_
  refine mk_h (M := mG_0) (i := .arraylength) (len := 1) (f' := (21, [(3, .int 0), (2, .ref 121), (1, .ref 0), (0, .retAddr 0)], [.int 6, .int 0])) (h' := h) (sl' := sl) mJ_0 (by decide +kernel) rfl rfl ?_
  refine mk_v (M := mG_0) (i := .bipush 6) (len := 2) (pc' := 23) (v' := .int 6) (st' := [.int 6, .int 0]) mJ_0 (by decide +kernel) rfl (by decide +kernel) ?_
  refine mk_v (M := mG_0) (i := .isub) (len := 1) (pc' := 24) (v' := .int 0) (st' := [.int 0]) mJ_0 (by decide +kernel) rfl (by decide +kernel) ?_
  refine mk_f (M := mG_0) (i := .if_icmp .gt 657) (len := 3) (q := decide ((0 : Int32) < (0 : Int32))) (off := 657) (t := 681) (pc' := 27) (st' := []) mJ_0 (by decide +kernel) rfl (by decide +kernel) (by decide +kernel) rfl ?_
  refine mk_p (M := mG_0) (i := .aload_n 0) (len := 1) (f' := (28, [(3, .int 0), (2, .ref 121), (1, .ref 0), (0, .retAddr 0)], [.retAddr 0])) mJ_0 (by decide +kernel) rfl ?_
  refine mk_p (M := mG_0) (i := .iload_n 3) (len := 1) (f' := (29, [(3, .int 0), (2, .ref 121), (1, .ref 0), (0, .retAddr 0)], [.int 0, .retAddr 0])) mJ_0 (by decide +kernel) rfl ?_
  refine mk_h (M := mG_0) (i := .iaload) (len := 1) (f' := (30, [(3, .int 0), (2, .ref 121), (1, .ref 0), (0, .retAddr 0)], [.int a0])) (h' := h) (sl' := sl) mJ_0 (by decide +kernel) rfl (mh_ial (xs := [a0, a1, a2, a3, a4, a5]) (x := 0) rfl (show mi_in 0 6 = true by decide +kernel) rfl) ?_
  refine mk_v (M := mG_0) (i := .bipush 31) (len := 2) (pc' := 32) (v' := .int 31) (st' := [.int a0]) mJ_0 (by decide +kernel) rfl (by decide +kernel) ?_
  refine mk_p (M := mG_0) (i := .iand) (len := 1) (f' := (33, [(3, .int 0), (2, .ref 121), (1, .ref 0), (0, .retAddr 0)], [.int ((a0 &&& 31))])) mJ_0 (by decide +kernel) rfl ?_
  refine mk_s (M := mG_0) (len := 103) (dflt := 642) (lo := 0) (hi := 21) (offs := #[103, 166, 189, 202, 215, 238, 261, 285, 299, 332, 365, 398, 432, 475, 508, 531, 554, 567, 580, 593, 606, 629]) (X := 15) (t := 564) mJ_0 (by decide +kernel) hk (by decide +kernel) ?_
  refine mk_p (M := mG_0) (i := .aload_n 1) (len := 1) (f' := (565, [(3, .int 0), (2, .ref 121), (1, .ref 0), (0, .retAddr 0)], [.ref 0])) mJ_0 (by decide +kernel) rfl ?_
  refine mk_p (M := mG_0) (i := .aload_n 0) (len := 1) (f' := (566, [(3, .int 0), (2, .ref 121), (1, .ref 0), (0, .retAddr 0)], [.retAddr 0, .ref 0])) mJ_0 (by decide +kernel) rfl ?_
  refine mk_p (M := mG_0) (i := .iload_n 3) (len := 1) (f' := (567, [(3, .int 0), (2, .ref 121), (1, .ref 0), (0, .retAddr 0)], [.int 0, .retAddr 0, .ref 0])) mJ_0 (by decide +kernel) rfl ?_
  refine mk_v (M := mG_0) (i := .iconst 1) (len := 1) (pc' := 568) (v' := .int 1) (st' := [.int 0, .retAddr 0, .ref 0]) mJ_0 (by decide +kernel) rfl (by decide +kernel) ?_
  refine mk_v (M := mG_0) (i := .iadd) (len := 1) (pc' := 569) (v' := .int 1) (st' := [.retAddr 0, .ref 0]) mJ_0 (by decide +kernel) rfl (by decide +kernel) ?_
  refine mk_h (M := mG_0) (i := .iaload) (len := 1) (f' := (570, [(3, .int 0), (2, .ref 121), (1, .ref 0), (0, .retAddr 0)], [.int a1, .ref 0])) (h' := h) (sl' := sl) mJ_0 (by decide +kernel) rfl (mh_ial (xs := [a0, a1, a2, a3, a4, a5]) (x := 1) rfl (show mi_in 1 6 = true by decide +kernel) rfl) ?_
  refine mk_c (M := mG_0) (i := .invokevirtual 82) (len := 3) (M' := mG_45) (j' := 45) (as := [.ref 0, .int a1]) (rest := []) mJ_0 (by decide +kernel) rfl rfl rfl rfl (mh_virt (n := 1) (a := 0) (ci := 11) (by decide +kernel) rfl g0 (Nat.le_of_ble_eq_true rfl) rfl) mJ_45 (Nat.le_of_ble_eq_true rfl) (mi_pos g0) ?_
  show mi_ok _ mi_Γ (mi_ev [a0, a1, a2, a3, a4, a5]) 45 (0, [(0, .ref 0), (1, .int a1)], []) h sl
  refine mk_p (M := mG_45) (i := .aload_n 0) (len := 1) (f' := (1, [(0, .ref 0), (1, .int a1)], [.ref 0])) mJ_45 (by decide +kernel) rfl ?_
  refine mk_h (M := mG_45) (i := .getfield 108) (len := 3) (f' := (4, [(0, .ref 0), (1, .int a1)], [.int 0])) (h' := h) (sl' := sl) mJ_45 (by decide +kernel) rfl (mh_getf (ci := 11) (k := 6) (by decide +kernel) g0 rfl) ?_
  refine mk_t (M := mG_45) (i := .ifCond .eq 14) (len := 3) (q := decide ((0 : Int32) = (0 : Int32))) (off := 14) (t := 18) (st' := []) mJ_45 (by decide +kernel) rfl (by decide +kernel) (by decide +kernel) ?_
  refine mk_v (M := mG_45) (i := .iconst (-1)) (len := 1) (pc' := 19) (v' := .int (-1)) (st' := []) mJ_45 (by decide +kernel) rfl (by decide +kernel) ?_
  refine mk_r (M := mG_45) (i := .ireturn) (len := 1) (r := some (.int (-1))) mJ_45 (by decide +kernel) rfl rfl (by decide +kernel) ?_
  show mi_ok _ mi_Γ (mi_ev [a0, a1, a2, a3, a4, a5]) 0 (573, [(3, .int 0), (2, .ref 121), (1, .ref 0), (0, .retAddr 0)], [.int (-1)]) h sl
  refine mk_p (M := mG_0) (i := .aload_n 2) (len := 1) (f' := (574, [(3, .int 0), (2, .ref 121), (1, .ref 0), (0, .retAddr 0)], [.ref 121, .int (-1)])) mJ_0 (by decide +kernel) rfl ?_
  refine mk_p (M := mG_0) (i := .aload_n 0) (len := 1) (f' := (575, [(3, .int 0), (2, .ref 121), (1, .ref 0), (0, .retAddr 0)], [.retAddr 0, .ref 121, .int (-1)])) mJ_0 (by decide +kernel) rfl ?_
  refine mk_p (M := mG_0) (i := .iload_n 3) (len := 1) (f' := (576, [(3, .int 0), (2, .ref 121), (1, .ref 0), (0, .retAddr 0)], [.int 0, .retAddr 0, .ref 121, .int (-1)])) mJ_0 (by decide +kernel) rfl ?_
  refine mk_v (M := mG_0) (i := .iconst 1) (len := 1) (pc' := 577) (v' := .int 1) (st' := [.int 0, .retAddr 0, .ref 121, .int (-1)]) mJ_0 (by decide +kernel) rfl (by decide +kernel) ?_
  refine mk_v (M := mG_0) (i := .iadd) (len := 1) (pc' := 578) (v' := .int 1) (st' := [.retAddr 0, .ref 121, .int (-1)]) mJ_0 (by decide +kernel) rfl (by decide +kernel) ?_
  refine mk_h (M := mG_0) (i := .iaload) (len := 1) (f' := (579, [(3, .int 0), (2, .ref 121), (1, .ref 0), (0, .retAddr 0)], [.int a1, .ref 121, .int (-1)])) (h' := h) (sl' := sl) mJ_0 (by decide +kernel) rfl (mh_ial (xs := [a0, a1, a2, a3, a4, a5]) (x := 1) rfl (show mi_in 1 6 = true by decide +kernel) rfl) ?_
  refine mk_c (M := mG_0) (i := .invokevirtual 85) (len := 3) (M' := mG_78) (j' := 78) (as := [.ref 121, .int a1]) (rest := [.int (-1)]) mJ_0 (by decide +kernel) rfl rfl rfl rfl (mh_virt (n := 1) (a := 121) (ci := 13) (by decide +kernel) rfl g121 (Nat.le_of_ble_eq_true rfl) rfl) mJ_78 (Nat.le_of_ble_eq_true rfl) (mi_pos g121) ?_
  show mi_ok _ mi_Γ (mi_ev [a0, a1, a2, a3, a4, a5]) 78 (0, [(0, .ref 121), (1, .int a1)], []) h sl
  refine mk_p (M := mG_78) (i := .aload_n 0) (len := 1) (f' := (1, [(0, .ref 121), (1, .int a1)], [.ref 121])) mJ_78 (by decide +kernel) rfl ?_
  refine mk_h (M := mG_78) (i := .getfield 794) (len := 3) (f' := (4, [(0, .ref 121), (1, .int a1)], [.int 0])) (h' := h) (sl' := sl) mJ_78 (by decide +kernel) rfl (mh_getf (ci := 13) (k := 2) (by decide +kernel) g121 rfl) ?_
  refine mk_t (M := mG_78) (i := .ifCond .eq 14) (len := 3) (q := decide ((0 : Int32) = (0 : Int32))) (off := 14) (t := 18) (st' := []) mJ_78 (by decide +kernel) rfl (by decide +kernel) (by decide +kernel) ?_
  refine mk_v (M := mG_78) (i := .iconst (-1)) (len := 1) (pc' := 19) (v' := .int (-1)) (st' := []) mJ_78 (by decide +kernel) rfl (by decide +kernel) ?_
  refine mk_r (M := mG_78) (i := .ireturn) (len := 1) (r := some (.int (-1))) mJ_78 (by decide +kernel) rfl rfl (by decide +kernel) ?_
  show mi_ok _ mi_Γ (mi_ev [a0, a1, a2, a3, a4, a5]) 0 (582, [(3, .int 0), (2, .ref 121), (1, .ref 0), (0, .retAddr 0)], [.int (-1), .int (-1)]) h sl
  refine mk_t (M := mG_0) (i := .if_icmp .eq 93) (len := 3) (q := decide (((-1) : Int32) = ((-1) : Int32))) (off := 93) (t := 675) (st' := []) mJ_0 (by decide +kernel) rfl (by decide +kernel) (by decide +kernel) ?_
  refine mk_i (M := mG_0) (len := 3) (k := 3) (n := 6) (x := 0) (y := 6) (lv' := [(3, .int 6), (2, .ref 121), (1, .ref 0), (0, .retAddr 0)]) (pc' := 678) mJ_0 (by decide +kernel) rfl (by decide +kernel) (by decide +kernel) rfl rfl ?_
  refine mk_g (M := mG_0) (len := 3) (off := (-660)) (t := 18) mJ_0 (by decide +kernel) (by decide +kernel) ?_
  refine mk_p (M := mG_0) (i := .iload_n 3) (len := 1) (f' := (19, [(3, .int 6), (2, .ref 121), (1, .ref 0), (0, .retAddr 0)], [.int 6])) mJ_0 (by decide +kernel) rfl ?_
  refine mk_p (M := mG_0) (i := .aload_n 0) (len := 1) (f' := (20, [(3, .int 6), (2, .ref 121), (1, .ref 0), (0, .retAddr 0)], [.retAddr 0, .int 6])) mJ_0 (by decide +kernel) rfl ?_
  refine mk_h (M := mG_0) (i := .arraylength) (len := 1) (f' := (21, [(3, .int 6), (2, .ref 121), (1, .ref 0), (0, .retAddr 0)], [.int 6, .int 6])) (h' := h) (sl' := sl) mJ_0 (by decide +kernel) rfl rfl ?_
  refine mk_v (M := mG_0) (i := .bipush 6) (len := 2) (pc' := 23) (v' := .int 6) (st' := [.int 6, .int 6]) mJ_0 (by decide +kernel) rfl (by decide +kernel) ?_
  refine mk_v (M := mG_0) (i := .isub) (len := 1) (pc' := 24) (v' := .int 0) (st' := [.int 6]) mJ_0 (by decide +kernel) rfl (by decide +kernel) ?_
  refine mk_t (M := mG_0) (i := .if_icmp .gt 657) (len := 3) (q := decide ((0 : Int32) < (6 : Int32))) (off := 657) (t := 681) (st' := []) mJ_0 (by decide +kernel) rfl (by decide +kernel) (by decide +kernel) ?_
  refine mk_v (M := mG_0) (i := .iconst 1) (len := 1) (pc' := 682) (v' := .int 1) (st' := []) mJ_0 (by decide +kernel) rfl (by decide +kernel) ?_
  refine mk_r (M := mG_0) (i := .ireturn) (len := 1) (r := some (.int 1)) mJ_0 (by decide +kernel) rfl rfl (by decide +kernel) ?_
  exact ⟨rfl, hl, rfl⟩
set_option maxRecDepth 20000 in
theorem lw1_16 {N sl : Nat} {h : List mi_C} (a0 a1 a2 a3 a4 a5 : Int32) (hk : a0 &&& 31 = 16) (hl : h.length = N) (g0 : h[0]? = some (.inl (11, [.ref 1, .int 0, .int 0, .ref 2, .ref 13, .ref 49, .int 0, .int (-1), .ref 85, .ref 86, .ref 92, .ref 112, .int 0, .ref 113]))) (g113 : h[113]? = some (.inl (2, [.ref 92, .ref 49, .ref 114, .ref 115, .ref 116, .int 0, .ref 117, .ref 118, .int 0, .ref 119, .ref 112, .int 0, .int 0, .int 0, .int 0, .int (-1), .int (-1), .int 0, .ref 120, .int 0]))) (g121 : h[121]? = some (.inl (13, [.ref 122, .ref 168, .int 0, .ref 214, .int 0, .int 0, .ref 215, .int 0, .ref 216, .ref 217, .int 0, .int 0, .int (-1), .ref 218, .ref 219, .ref 220, .ref 221, .ref 222, .ref 223, .int 0, .ref 224, .ref 225, .ref 226, .ref 227, .ref 228, .int 0, .ref 229, .ref 230, .ref 231, .ref 232, .ref 233, .ref 234, .ref 235, .ref 236, .ref 237, .ref 238, .int 0, .int 0, .int 0, .int 0, .long 0, .ref 239, .ref 240, .ref 241, .ref 242, .ref 243, .ref 244, .ref 245, .ref 246, .ref 247, .ref 248, .ref 249, .int 0, .int 0, .int 0, .int 0, .int 0, .int 0, .int 0, .int (-1), .int (-1), .int 0, .int 0, .int 0]))) : mi_ok (mi_fin N sl) mi_Γ (mi_ev [a0, a1, a2, a3, a4, a5]) 0 (18, [(3, .int 0), (2, .ref 121), (1, .ref 0), (0, .retAddr 0)], []) h sl := by
  refine mk_p (M := mG_0) (i := .iload_n 3) (len := 1) (f' := (19, [(3, .int 0), (2, .ref 121), (1, .ref 0), (0, .retAddr 0)], [.int 0])) mJ_0 (by decide +kernel) rfl ?_
  refine mk_p (M := mG_0) (i := .aload_n 0) (len := 1) (f' := (20, [(3, .int 0), (2, .ref 121), (1, .ref 0), (0, .retAddr 0)], [.retAddr 0, .int 0])) mJ_0 (by decide +kernel) rfl ?_
  refine mk_h (M := mG_0) (i := .arraylength) (len := 1) (f' := (21, [(3, .int 0), (2, .ref 121), (1, .ref 0), (0, .retAddr 0)], [.int 6, .int 0])) (h' := h) (sl' := sl) mJ_0 (by decide +kernel) rfl rfl ?_
  refine mk_v (M := mG_0) (i := .bipush 6) (len := 2) (pc' := 23) (v' := .int 6) (st' := [.int 6, .int 0]) mJ_0 (by decide +kernel) rfl (by decide +kernel) ?_
  refine mk_v (M := mG_0) (i := .isub) (len := 1) (pc' := 24) (v' := .int 0) (st' := [.int 0]) mJ_0 (by decide +kernel) rfl (by decide +kernel) ?_
  refine mk_f (M := mG_0) (i := .if_icmp .gt 657) (len := 3) (q := decide ((0 : Int32) < (0 : Int32))) (off := 657) (t := 681) (pc' := 27) (st' := []) mJ_0 (by decide +kernel) rfl (by decide +kernel) (by decide +kernel) rfl ?_
  refine mk_p (M := mG_0) (i := .aload_n 0) (len := 1) (f' := (28, [(3, .int 0), (2, .ref 121), (1, .ref 0), (0, .retAddr 0)], [.retAddr 0])) mJ_0 (by decide +kernel) rfl ?_
  refine mk_p (M := mG_0) (i := .iload_n 3) (len := 1) (f' := (29, [(3, .int 0), (2, .ref 121), (1, .ref 0), (0, .retAddr 0)], [.int 0, .retAddr 0])) mJ_0 (by decide +kernel) rfl ?_
  refine mk_h (M := mG_0) (i := .iaload) (len := 1) (f' := (30, [(3, .int 0), (2, .ref 121), (1, .ref 0), (0, .retAddr 0)], [.int a0])) (h' := h) (sl' := sl) mJ_0 (by decide +kernel) rfl (mh_ial (xs := [a0, a1, a2, a3, a4, a5]) (x := 0) rfl (show mi_in 0 6 = true by decide +kernel) rfl) ?_
  refine mk_v (M := mG_0) (i := .bipush 31) (len := 2) (pc' := 32) (v' := .int 31) (st' := [.int a0]) mJ_0 (by decide +kernel) rfl (by decide +kernel) ?_
  refine mk_p (M := mG_0) (i := .iand) (len := 1) (f' := (33, [(3, .int 0), (2, .ref 121), (1, .ref 0), (0, .retAddr 0)], [.int ((a0 &&& 31))])) mJ_0 (by decide +kernel) rfl ?_
  refine mk_s (M := mG_0) (len := 103) (dflt := 642) (lo := 0) (hi := 21) (offs := #[103, 166, 189, 202, 215, 238, 261, 285, 299, 332, 365, 398, 432, 475, 508, 531, 554, 567, 580, 593, 606, 629]) (X := 16) (t := 587) mJ_0 (by decide +kernel) hk (by decide +kernel) ?_
  refine mk_p (M := mG_0) (i := .aload_n 1) (len := 1) (f' := (588, [(3, .int 0), (2, .ref 121), (1, .ref 0), (0, .retAddr 0)], [.ref 0])) mJ_0 (by decide +kernel) rfl ?_
  refine mk_c (M := mG_0) (i := .invokevirtual 86) (len := 3) (M' := mG_49) (j' := 49) (as := [.ref 0]) (rest := []) mJ_0 (by decide +kernel) rfl rfl rfl rfl (mh_virt (n := 0) (a := 0) (ci := 11) (by decide +kernel) rfl g0 (Nat.le_of_ble_eq_true rfl) rfl) mJ_49 (Nat.le_of_ble_eq_true rfl) (mi_pos g0) ?_
  show mi_ok _ mi_Γ (mi_ev [a0, a1, a2, a3, a4, a5]) 49 (0, [(0, .ref 0)], []) h sl
  refine mk_p (M := mG_49) (i := .aload_n 0) (len := 1) (f' := (1, [(0, .ref 0)], [.ref 0])) mJ_49 (by decide +kernel) rfl ?_
  refine mk_h (M := mG_49) (i := .getfield 68) (len := 3) (f' := (4, [(0, .ref 0)], [.ref 113])) (h' := h) (sl' := sl) mJ_49 (by decide +kernel) rfl (mh_getf (ci := 11) (k := 13) (by decide +kernel) g0 rfl) ?_
  refine mk_h (M := mG_49) (i := .getfield 237) (len := 3) (f' := (7, [(0, .ref 0)], [.int 0])) (h' := h) (sl' := sl) mJ_49 (by decide +kernel) rfl (mh_getf (ci := 2) (k := 14) (by decide +kernel) g113 rfl) ?_
  refine mk_r (M := mG_49) (i := .ireturn) (len := 1) (r := some (.int 0)) mJ_49 (by decide +kernel) rfl rfl (by decide +kernel) ?_
  show mi_ok _ mi_Γ (mi_ev [a0, a1, a2, a3, a4, a5]) 0 (591, [(3, .int 0), (2, .ref 121), (1, .ref 0), (0, .retAddr 0)], [.int 0]) h sl
  refine mk_p (M := mG_0) (i := .aload_n 2) (len := 1) (f' := (592, [(3, .int 0), (2, .ref 121), (1, .ref 0), (0, .retAddr 0)], [.ref 121, .int 0])) mJ_0 (by decide +kernel) rfl ?_
  refine mk_c (M := mG_0) (i := .invokevirtual 89) (len := 3) (M' := mG_83) (j' := 83) (as := [.ref 121]) (rest := [.int 0]) mJ_0 (by decide +kernel) rfl rfl rfl rfl (mh_virt (n := 0) (a := 121) (ci := 13) (by decide +kernel) rfl g121 (Nat.le_of_ble_eq_true rfl) rfl) mJ_83 (Nat.le_of_ble_eq_true rfl) (mi_pos g121) ?_
  show mi_ok _ mi_Γ (mi_ev [a0, a1, a2, a3, a4, a5]) 83 (0, [(0, .ref 121)], []) h sl
  refine mk_p (M := mG_83) (i := .aload_n 0) (len := 1) (f' := (1, [(0, .ref 121)], [.ref 121])) mJ_83 (by decide +kernel) rfl ?_
  refine mk_h (M := mG_83) (i := .getfield 820) (len := 3) (f' := (4, [(0, .ref 121)], [.int 0])) (h' := h) (sl' := sl) mJ_83 (by decide +kernel) rfl (mh_getf (ci := 13) (k := 58) (by decide +kernel) g121 rfl) ?_
  refine mk_r (M := mG_83) (i := .ireturn) (len := 1) (r := some (.int 0)) mJ_83 (by decide +kernel) rfl rfl (by decide +kernel) ?_
  show mi_ok _ mi_Γ (mi_ev [a0, a1, a2, a3, a4, a5]) 0 (595, [(3, .int 0), (2, .ref 121), (1, .ref 0), (0, .retAddr 0)], [.int 0, .int 0]) h sl
  refine mk_t (M := mG_0) (i := .if_icmp .eq 80) (len := 3) (q := decide ((0 : Int32) = (0 : Int32))) (off := 80) (t := 675) (st' := []) mJ_0 (by decide +kernel) rfl (by decide +kernel) (by decide +kernel) ?_
  refine mk_i (M := mG_0) (len := 3) (k := 3) (n := 6) (x := 0) (y := 6) (lv' := [(3, .int 6), (2, .ref 121), (1, .ref 0), (0, .retAddr 0)]) (pc' := 678) mJ_0 (by decide +kernel) rfl (by decide +kernel) (by decide +kernel) rfl rfl ?_
  refine mk_g (M := mG_0) (len := 3) (off := (-660)) (t := 18) mJ_0 (by decide +kernel) (by decide +kernel) ?_
  refine mk_p (M := mG_0) (i := .iload_n 3) (len := 1) (f' := (19, [(3, .int 6), (2, .ref 121), (1, .ref 0), (0, .retAddr 0)], [.int 6])) mJ_0 (by decide +kernel) rfl ?_
  refine mk_p (M := mG_0) (i := .aload_n 0) (len := 1) (f' := (20, [(3, .int 6), (2, .ref 121), (1, .ref 0), (0, .retAddr 0)], [.retAddr 0, .int 6])) mJ_0 (by decide +kernel) rfl ?_
  refine mk_h (M := mG_0) (i := .arraylength) (len := 1) (f' := (21, [(3, .int 6), (2, .ref 121), (1, .ref 0), (0, .retAddr 0)], [.int 6, .int 6])) (h' := h) (sl' := sl) mJ_0 (by decide +kernel) rfl rfl ?_
  refine mk_v (M := mG_0) (i := .bipush 6) (len := 2) (pc' := 23) (v' := .int 6) (st' := [.int 6, .int 6]) mJ_0 (by decide +kernel) rfl (by decide +kernel) ?_
  refine mk_v (M := mG_0) (i := .isub) (len := 1) (pc' := 24) (v' := .int 0) (st' := [.int 6]) mJ_0 (by decide +kernel) rfl (by decide +kernel) ?_
  refine mk_t (M := mG_0) (i := .if_icmp .gt 657) (len := 3) (q := decide ((0 : Int32) < (6 : Int32))) (off := 657) (t := 681) (st' := []) mJ_0 (by decide +kernel) rfl (by decide +kernel) (by decide +kernel) ?_
  refine mk_v (M := mG_0) (i := .iconst 1) (len := 1) (pc' := 682) (v' := .int 1) (st' := []) mJ_0 (by decide +kernel) rfl (by decide +kernel) ?_
  refine mk_r (M := mG_0) (i := .ireturn) (len := 1) (r := some (.int 1)) mJ_0 (by decide +kernel) rfl rfl (by decide +kernel) ?_
  exact ⟨rfl, hl, rfl⟩
set_option maxRecDepth 20000 in
theorem lw1_17 {N sl : Nat} {h : List mi_C} (a0 a1 a2 a3 a4 a5 : Int32) (hk : a0 &&& 31 = 17) (hl : h.length = N) (g0 : h[0]? = some (.inl (11, [.ref 1, .int 0, .int 0, .ref 2, .ref 13, .ref 49, .int 0, .int (-1), .ref 85, .ref 86, .ref 92, .ref 112, .int 0, .ref 113]))) (g113 : h[113]? = some (.inl (2, [.ref 92, .ref 49, .ref 114, .ref 115, .ref 116, .int 0, .ref 117, .ref 118, .int 0, .ref 119, .ref 112, .int 0, .int 0, .int 0, .int 0, .int (-1), .int (-1), .int 0, .ref 120, .int 0]))) (g121 : h[121]? = some (.inl (13, [.ref 122, .ref 168, .int 0, .ref 214, .int 0, .int 0, .ref 215, .int 0, .ref 216, .ref 217, .int 0, .int 0, .int (-1), .ref 218, .ref 219, .ref 220, .ref 221, .ref 222, .ref 223, .int 0, .ref 224, .ref 225, .ref 226, .ref 227, .ref 228, .int 0, .ref 229, .ref 230, .ref 231, .ref 232, .ref 233, .ref 234, .ref 235, .ref 236, .ref 237, .ref 238, .int 0, .int 0, .int 0, .int 0, .long 0, .ref 239, .ref 240, .ref 241, .ref 242, .ref 243, .ref 244, .ref 245, .ref 246, .ref 247, .ref 248, .ref 249, .int 0, .int 0, .int 0, .int 0, .int 0, .int 0, .int 0, .int (-1), .int (-1), .int 0, .int 0, .int 0]))) : mi_ok (mi_fin N sl) mi_Γ (mi_ev [a0, a1, a2, a3, a4, a5]) 0 (18, [(3, .int 0), (2, .ref 121), (1, .ref 0), (0, .retAddr 0)], []) h sl := by
  refine mk_p (M := mG_0) (i := .iload_n 3) (len := 1) (f' := (19, [(3, .int 0), (2, .ref 121), (1, .ref 0), (0, .retAddr 0)], [.int 0])) mJ_0 (by decide +kernel) rfl ?_
  refine mk_p (M := mG_0) (i := .aload_n 0) (len := 1) (f' := (20, [(3, .int 0), (2, .ref 121), (1, .ref 0), (0, .retAddr 0)], [.retAddr 0, .int 0])) mJ_0 (by decide +kernel) rfl ?_
  refine mk_h (M := mG_0) (i := .arraylength) (len := 1) (f' := (21, [(3, .int 0), (2, .ref 121), (1, .ref 0), (0, .retAddr 0)], [.int 6, .int 0])) (h' := h) (sl' := sl) mJ_0 (by decide +kernel) rfl rfl ?_
  refine mk_v (M := mG_0) (i := .bipush 6) (len := 2) (pc' := 23) (v' := .int 6) (st' := [.int 6, .int 0]) mJ_0 (by decide +kernel) rfl (by decide +kernel) ?_
  refine mk_v (M := mG_0) (i := .isub) (len := 1) (pc' := 24) (v' := .int 0) (st' := [.int 0]) mJ_0 (by decide +kernel) rfl (by decide +kernel) ?_
  refine mk_f (M := mG_0) (i := .if_icmp .gt 657) (len := 3) (q := decide ((0 : Int32) < (0 : Int32))) (off := 657) (t := 681) (pc' := 27) (st' := []) mJ_0 (by decide +kernel) rfl (by decide +kernel) (by decide +kernel) rfl ?_
  refine mk_p (M := mG_0) (i := .aload_n 0) (len := 1) (f' := (28, [(3, .int 0), (2, .ref 121), (1, .ref 0), (0, .retAddr 0)], [.retAddr 0])) mJ_0 (by decide +kernel) rfl ?_
  refine mk_p (M := mG_0) (i := .iload_n 3) (len := 1) (f' := (29, [(3, .int 0), (2, .ref 121), (1, .ref 0), (0, .retAddr 0)], [.int 0, .retAddr 0])) mJ_0 (by decide +kernel) rfl ?_
  refine mk_h (M := mG_0) (i := .iaload) (len := 1) (f' := (30, [(3, .int 0), (2, .ref 121), (1, .ref 0), (0, .retAddr 0)], [.int a0])) (h' := h) (sl' := sl) mJ_0 (by decide +kernel) rfl (mh_ial (xs := [a0, a1, a2, a3, a4, a5]) (x := 0) rfl (show mi_in 0 6 = true by decide +kernel) rfl) ?_
  refine mk_v (M := mG_0) (i := .bipush 31) (len := 2) (pc' := 32) (v' := .int 31) (st' := [.int a0]) mJ_0 (by decide +kernel) rfl (by decide +kernel) ?_
  refine mk_p (M := mG_0) (i := .iand) (len := 1) (f' := (33, [(3, .int 0), (2, .ref 121), (1, .ref 0), (0, .retAddr 0)], [.int ((a0 &&& 31))])) mJ_0 (by decide +kernel) rfl ?_
  refine mk_s (M := mG_0) (len := 103) (dflt := 642) (lo := 0) (hi := 21) (offs := #[103, 166, 189, 202, 215, 238, 261, 285, 299, 332, 365, 398, 432, 475, 508, 531, 554, 567, 580, 593, 606, 629]) (X := 17) (t := 600) mJ_0 (by decide +kernel) hk (by decide +kernel) ?_
  refine mk_p (M := mG_0) (i := .aload_n 1) (len := 1) (f' := (601, [(3, .int 0), (2, .ref 121), (1, .ref 0), (0, .retAddr 0)], [.ref 0])) mJ_0 (by decide +kernel) rfl ?_
  refine mk_c (M := mG_0) (i := .invokevirtual 90) (len := 3) (M' := mG_44) (j' := 44) (as := [.ref 0]) (rest := []) mJ_0 (by decide +kernel) rfl rfl rfl rfl (mh_virt (n := 0) (a := 0) (ci := 11) (by decide +kernel) rfl g0 (Nat.le_of_ble_eq_true rfl) rfl) mJ_44 (Nat.le_of_ble_eq_true rfl) (mi_pos g0) ?_
  show mi_ok _ mi_Γ (mi_ev [a0, a1, a2, a3, a4, a5]) 44 (0, [(0, .ref 0)], []) h sl
  refine mk_p (M := mG_44) (i := .aload_n 0) (len := 1) (f' := (1, [(0, .ref 0)], [.ref 0])) mJ_44 (by decide +kernel) rfl ?_
  refine mk_h (M := mG_44) (i := .getfield 68) (len := 3) (f' := (4, [(0, .ref 0)], [.ref 113])) (h' := h) (sl' := sl) mJ_44 (by decide +kernel) rfl (mh_getf (ci := 11) (k := 13) (by decide +kernel) g0 rfl) ?_
  refine mk_h (M := mG_44) (i := .getfield 240) (len := 3) (f' := (7, [(0, .ref 0)], [.int (-1)])) (h' := h) (sl' := sl) mJ_44 (by decide +kernel) rfl (mh_getf (ci := 2) (k := 15) (by decide +kernel) g113 rfl) ?_
  refine mk_r (M := mG_44) (i := .ireturn) (len := 1) (r := some (.int (-1))) mJ_44 (by decide +kernel) rfl rfl (by decide +kernel) ?_
  show mi_ok _ mi_Γ (mi_ev [a0, a1, a2, a3, a4, a5]) 0 (604, [(3, .int 0), (2, .ref 121), (1, .ref 0), (0, .retAddr 0)], [.int (-1)]) h sl
  refine mk_p (M := mG_0) (i := .aload_n 2) (len := 1) (f' := (605, [(3, .int 0), (2, .ref 121), (1, .ref 0), (0, .retAddr 0)], [.ref 121, .int (-1)])) mJ_0 (by decide +kernel) rfl ?_
  refine mk_c (M := mG_0) (i := .invokevirtual 93) (len := 3) (M' := mG_77) (j' := 77) (as := [.ref 121]) (rest := [.int (-1)]) mJ_0 (by decide +kernel) rfl rfl rfl rfl (mh_virt (n := 0) (a := 121) (ci := 13) (by decide +kernel) rfl g121 (Nat.le_of_ble_eq_true rfl) rfl) mJ_77 (Nat.le_of_ble_eq_true rfl) (mi_pos g121) ?_
  show mi_ok _ mi_Γ (mi_ev [a0, a1, a2, a3, a4, a5]) 77 (0, [(0, .ref 121)], []) h sl
  refine mk_p (M := mG_77) (i := .aload_n 0) (len := 1) (f' := (1, [(0, .ref 121)], [.ref 121])) mJ_77 (by decide +kernel) rfl ?_
  refine mk_h (M := mG_77) (i := .getfield 135) (len := 3) (f' := (4, [(0, .ref 121)], [.int (-1)])) (h' := h) (sl' := sl) mJ_77 (by decide +kernel) rfl (mh_getf (ci := 13) (k := 59) (by decide +kernel) g121 rfl) ?_
  refine mk_r (M := mG_77) (i := .ireturn) (len := 1) (r := some (.int (-1))) mJ_77 (by decide +kernel) rfl rfl (by decide +kernel) ?_
  show mi_ok _ mi_Γ (mi_ev [a0, a1, a2, a3, a4, a5]) 0 (608, [(3, .int 0), (2, .ref 121), (1, .ref 0), (0, .retAddr 0)], [.int (-1), .int (-1)]) h sl
  refine mk_t (M := mG_0) (i := .if_icmp .eq 67) (len := 3) (q := decide (((-1) : Int32) = ((-1) : Int32))) (off := 67) (t := 675) (st' := []) mJ_0 (by decide +kernel) rfl (by decide +kernel) (by decide +kernel) ?_
  refine mk_i (M := mG_0) (len := 3) (k := 3) (n := 6) (x := 0) (y := 6) (lv' := [(3, .int 6), (2, .ref 121), (1, .ref 0), (0, .retAddr 0)]) (pc' := 678) mJ_0 (by decide +kernel) rfl (by decide +kernel) (by decide +kernel) rfl rfl ?_
  refine mk_g (M := mG_0) (len := 3) (off := (-660)) (t := 18) mJ_0 (by decide +kernel) (by decide +kernel) ?_
  refine mk_p (M := mG_0) (i := .iload_n 3) (len := 1) (f' := (19, [(3, .int 6), (2, .ref 121), (1, .ref 0), (0, .retAddr 0)], [.int 6])) mJ_0 (by decide +kernel) rfl ?_
  refine mk_p (M := mG_0) (i := .aload_n 0) (len := 1) (f' := (20, [(3, .int 6), (2, .ref 121), (1, .ref 0), (0, .retAddr 0)], [.retAddr 0, .int 6])) mJ_0 (by decide +kernel) rfl ?_
  refine mk_h (M := mG_0) (i := .arraylength) (len := 1) (f' := (21, [(3, .int 6), (2, .ref 121), (1, .ref 0), (0, .retAddr 0)], [.int 6, .int 6])) (h' := h) (sl' := sl) mJ_0 (by decide +kernel) rfl rfl ?_
  refine mk_v (M := mG_0) (i := .bipush 6) (len := 2) (pc' := 23) (v' := .int 6) (st' := [.int 6, .int 6]) mJ_0 (by decide +kernel) rfl (by decide +kernel) ?_
  refine mk_v (M := mG_0) (i := .isub) (len := 1) (pc' := 24) (v' := .int 0) (st' := [.int 6]) mJ_0 (by decide +kernel) rfl (by decide +kernel) ?_
  refine mk_t (M := mG_0) (i := .if_icmp .gt 657) (len := 3) (q := decide ((0 : Int32) < (6 : Int32))) (off := 657) (t := 681) (st' := []) mJ_0 (by decide +kernel) rfl (by decide +kernel) (by decide +kernel) ?_
  refine mk_v (M := mG_0) (i := .iconst 1) (len := 1) (pc' := 682) (v' := .int 1) (st' := []) mJ_0 (by decide +kernel) rfl (by decide +kernel) ?_
  refine mk_r (M := mG_0) (i := .ireturn) (len := 1) (r := some (.int 1)) mJ_0 (by decide +kernel) rfl rfl (by decide +kernel) ?_
  exact ⟨rfl, hl, rfl⟩
set_option maxRecDepth 20000 in
theorem lw1_18 {N sl : Nat} {h : List mi_C} (a0 a1 a2 a3 a4 a5 : Int32) (hk : a0 &&& 31 = 18) (hl : h.length = N) (g0 : h[0]? = some (.inl (11, [.ref 1, .int 0, .int 0, .ref 2, .ref 13, .ref 49, .int 0, .int (-1), .ref 85, .ref 86, .ref 92, .ref 112, .int 0, .ref 113]))) (g113 : h[113]? = some (.inl (2, [.ref 92, .ref 49, .ref 114, .ref 115, .ref 116, .int 0, .ref 117, .ref 118, .int 0, .ref 119, .ref 112, .int 0, .int 0, .int 0, .int 0, .int (-1), .int (-1), .int 0, .ref 120, .int 0]))) (g121 : h[121]? = some (.inl (13, [.ref 122, .ref 168, .int 0, .ref 214, .int 0, .int 0, .ref 215, .int 0, .ref 216, .ref 217, .int 0, .int 0, .int (-1), .ref 218, .ref 219, .ref 220, .ref 221, .ref 222, .ref 223, .int 0, .ref 224, .ref 225, .ref 226, .ref 227, .ref 228, .int 0, .ref 229, .ref 230, .ref 231, .ref 232, .ref 233, .ref 234, .ref 235, .ref 236, .ref 237, .ref 238, .int 0, .int 0, .int 0, .int 0, .long 0, .ref 239, .ref 240, .ref 241, .ref 242, .ref 243, .ref 244, .ref 245, .ref 246, .ref 247, .ref 248, .ref 249, .int 0, .int 0, .int 0, .int 0, .int 0, .int 0, .int 0, .int (-1), .int (-1), .int 0, .int 0, .int 0]))) : mi_ok (mi_fin N sl) mi_Γ (mi_ev [a0, a1, a2, a3, a4, a5]) 0 (18, [(3, .int 0), (2, .ref 121), (1, .ref 0), (0, .retAddr 0)], []) h sl := by
  refine mk_p (M := mG_0) (i := .iload_n 3) (len := 1) (f' := (19, [(3, .int 0), (2, .ref 121), (1, .ref 0), (0, .retAddr 0)], [.int 0])) mJ_0 (by decide +kernel) rfl ?_
  refine mk_p (M := mG_0) (i := .aload_n 0) (len := 1) (f' := (20, [(3, .int 0), (2, .ref 121), (1, .ref 0), (0, .retAddr 0)], [.retAddr 0, .int 0])) mJ_0 (by decide +kernel) rfl ?_
  refine mk_h (M := mG_0) (i := .arraylength) (len := 1) (f' := (21, [(3, .int 0), (2, .ref 121), (1, .ref 0), (0, .retAddr 0)], [.int 6, .int 0])) (h' := h) (sl' := sl) mJ_0 (by decide +kernel) rfl rfl ?_
  refine mk_v (M := mG_0) (i := .bipush 6) (len := 2) (pc' := 23) (v' := .int 6) (st' := [.int 6, .int 0]) mJ_0 (by decide +kernel) rfl (by decide +kernel) ?_
  refine mk_v (M := mG_0) (i := .isub) (len := 1) (pc' := 24) (v' := .int 0) (st' := [.int 0]) mJ_0 (by decide +kernel) rfl (by decide +kernel) ?_
  refine mk_f (M := mG_0) (i := .if_icmp .gt 657) (len := 3) (q := decide ((0 : Int32) < (0 : Int32))) (off := 657) (t := 681) (pc' := 27) (st' := []) mJ_0 (by decide +kernel) rfl (by decide +kernel) (by decide +kernel) rfl ?_
  refine mk_p (M := mG_0) (i := .aload_n 0) (len := 1) (f' := (28, [(3, .int 0), (2, .ref 121), (1, .ref 0), (0, .retAddr 0)], [.retAddr 0])) mJ_0 (by decide +kernel) rfl ?_
  refine mk_p (M := mG_0) (i := .iload_n 3) (len := 1) (f' := (29, [(3, .int 0), (2, .ref 121), (1, .ref 0), (0, .retAddr 0)], [.int 0, .retAddr 0])) mJ_0 (by decide +kernel) rfl ?_
  refine mk_h (M := mG_0) (i := .iaload) (len := 1) (f' := (30, [(3, .int 0), (2, .ref 121), (1, .ref 0), (0, .retAddr 0)], [.int a0])) (h' := h) (sl' := sl) mJ_0 (by decide +kernel) rfl (mh_ial (xs := [a0, a1, a2, a3, a4, a5]) (x := 0) rfl (show mi_in 0 6 = true by decide +kernel) rfl) ?_
  refine mk_v (M := mG_0) (i := .bipush 31) (len := 2) (pc' := 32) (v' := .int 31) (st' := [.int a0]) mJ_0 (by decide +kernel) rfl (by decide +kernel) ?_
  refine mk_p (M := mG_0) (i := .iand) (len := 1) (f' := (33, [(3, .int 0), (2, .ref 121), (1, .ref 0), (0, .retAddr 0)], [.int ((a0 &&& 31))])) mJ_0 (by decide +kernel) rfl ?_
  refine mk_s (M := mG_0) (len := 103) (dflt := 642) (lo := 0) (hi := 21) (offs := #[103, 166, 189, 202, 215, 238, 261, 285, 299, 332, 365, 398, 432, 475, 508, 531, 554, 567, 580, 593, 606, 629]) (X := 18) (t := 613) mJ_0 (by decide +kernel) hk (by decide +kernel) ?_
  refine mk_p (M := mG_0) (i := .aload_n 1) (len := 1) (f' := (614, [(3, .int 0), (2, .ref 121), (1, .ref 0), (0, .retAddr 0)], [.ref 0])) mJ_0 (by decide +kernel) rfl ?_
  refine mk_c (M := mG_0) (i := .invokevirtual 94) (len := 3) (M' := mG_51) (j' := 51) (as := [.ref 0]) (rest := []) mJ_0 (by decide +kernel) rfl rfl rfl rfl (mh_virt (n := 0) (a := 0) (ci := 11) (by decide +kernel) rfl g0 (Nat.le_of_ble_eq_true rfl) rfl) mJ_51 (Nat.le_of_ble_eq_true rfl) (mi_pos g0) ?_
  show mi_ok _ mi_Γ (mi_ev [a0, a1, a2, a3, a4, a5]) 51 (0, [(0, .ref 0)], []) h sl
  refine mk_p (M := mG_51) (i := .aload_n 0) (len := 1) (f' := (1, [(0, .ref 0)], [.ref 0])) mJ_51 (by decide +kernel) rfl ?_
  refine mk_h (M := mG_51) (i := .getfield 68) (len := 3) (f' := (4, [(0, .ref 0)], [.ref 113])) (h' := h) (sl' := sl) mJ_51 (by decide +kernel) rfl (mh_getf (ci := 11) (k := 13) (by decide +kernel) g0 rfl) ?_
  refine mk_h (M := mG_51) (i := .getfield 243) (len := 3) (f' := (7, [(0, .ref 0)], [.int (-1)])) (h' := h) (sl' := sl) mJ_51 (by decide +kernel) rfl (mh_getf (ci := 2) (k := 16) (by decide +kernel) g113 rfl) ?_
  refine mk_r (M := mG_51) (i := .ireturn) (len := 1) (r := some (.int (-1))) mJ_51 (by decide +kernel) rfl rfl (by decide +kernel) ?_
  show mi_ok _ mi_Γ (mi_ev [a0, a1, a2, a3, a4, a5]) 0 (617, [(3, .int 0), (2, .ref 121), (1, .ref 0), (0, .retAddr 0)], [.int (-1)]) h sl
  refine mk_p (M := mG_0) (i := .aload_n 2) (len := 1) (f' := (618, [(3, .int 0), (2, .ref 121), (1, .ref 0), (0, .retAddr 0)], [.ref 121, .int (-1)])) mJ_0 (by decide +kernel) rfl ?_
  refine mk_c (M := mG_0) (i := .invokevirtual 97) (len := 3) (M' := mG_86) (j' := 86) (as := [.ref 121]) (rest := [.int (-1)]) mJ_0 (by decide +kernel) rfl rfl rfl rfl (mh_virt (n := 0) (a := 121) (ci := 13) (by decide +kernel) rfl g121 (Nat.le_of_ble_eq_true rfl) rfl) mJ_86 (Nat.le_of_ble_eq_true rfl) (mi_pos g121) ?_
  show mi_ok _ mi_Γ (mi_ev [a0, a1, a2, a3, a4, a5]) 86 (0, [(0, .ref 121)], []) h sl
  refine mk_p (M := mG_86) (i := .aload_n 0) (len := 1) (f' := (1, [(0, .ref 121)], [.ref 121])) mJ_86 (by decide +kernel) rfl ?_
  refine mk_h (M := mG_86) (i := .getfield 138) (len := 3) (f' := (4, [(0, .ref 121)], [.int (-1)])) (h' := h) (sl' := sl) mJ_86 (by decide +kernel) rfl (mh_getf (ci := 13) (k := 60) (by decide +kernel) g121 rfl) ?_
  refine mk_r (M := mG_86) (i := .ireturn) (len := 1) (r := some (.int (-1))) mJ_86 (by decide +kernel) rfl rfl (by decide +kernel) ?_
  show mi_ok _ mi_Γ (mi_ev [a0, a1, a2, a3, a4, a5]) 0 (621, [(3, .int 0), (2, .ref 121), (1, .ref 0), (0, .retAddr 0)], [.int (-1), .int (-1)]) h sl
  refine mk_t (M := mG_0) (i := .if_icmp .eq 54) (len := 3) (q := decide (((-1) : Int32) = ((-1) : Int32))) (off := 54) (t := 675) (st' := []) mJ_0 (by decide +kernel) rfl (by decide +kernel) (by decide +kernel) ?_
  refine mk_i (M := mG_0) (len := 3) (k := 3) (n := 6) (x := 0) (y := 6) (lv' := [(3, .int 6), (2, .ref 121), (1, .ref 0), (0, .retAddr 0)]) (pc' := 678) mJ_0 (by decide +kernel) rfl (by decide +kernel) (by decide +kernel) rfl rfl ?_
  refine mk_g (M := mG_0) (len := 3) (off := (-660)) (t := 18) mJ_0 (by decide +kernel) (by decide +kernel) ?_
  refine mk_p (M := mG_0) (i := .iload_n 3) (len := 1) (f' := (19, [(3, .int 6), (2, .ref 121), (1, .ref 0), (0, .retAddr 0)], [.int 6])) mJ_0 (by decide +kernel) rfl ?_
  refine mk_p (M := mG_0) (i := .aload_n 0) (len := 1) (f' := (20, [(3, .int 6), (2, .ref 121), (1, .ref 0), (0, .retAddr 0)], [.retAddr 0, .int 6])) mJ_0 (by decide +kernel) rfl ?_
  refine mk_h (M := mG_0) (i := .arraylength) (len := 1) (f' := (21, [(3, .int 6), (2, .ref 121), (1, .ref 0), (0, .retAddr 0)], [.int 6, .int 6])) (h' := h) (sl' := sl) mJ_0 (by decide +kernel) rfl rfl ?_
  refine mk_v (M := mG_0) (i := .bipush 6) (len := 2) (pc' := 23) (v' := .int 6) (st' := [.int 6, .int 6]) mJ_0 (by decide +kernel) rfl (by decide +kernel) ?_
  refine mk_v (M := mG_0) (i := .isub) (len := 1) (pc' := 24) (v' := .int 0) (st' := [.int 6]) mJ_0 (by decide +kernel) rfl (by decide +kernel) ?_
  refine mk_t (M := mG_0) (i := .if_icmp .gt 657) (len := 3) (q := decide ((0 : Int32) < (6 : Int32))) (off := 657) (t := 681) (st' := []) mJ_0 (by decide +kernel) rfl (by decide +kernel) (by decide +kernel) ?_
  refine mk_v (M := mG_0) (i := .iconst 1) (len := 1) (pc' := 682) (v' := .int 1) (st' := []) mJ_0 (by decide +kernel) rfl (by decide +kernel) ?_
  refine mk_r (M := mG_0) (i := .ireturn) (len := 1) (r := some (.int 1)) mJ_0 (by decide +kernel) rfl rfl (by decide +kernel) ?_
  exact ⟨rfl, hl, rfl⟩
