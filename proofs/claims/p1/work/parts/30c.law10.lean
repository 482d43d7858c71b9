/-! The law, one call. -/
set_option maxRecDepth 20000 in
theorem lwsX11_feedWord_1 {N sl : Nat} {ev : mi_Ev} {h : List mi_C} {xs1 : List Int32} {xs214 : List Int32} (u1 : Int32) (hl : h.length = N) (g0 : h[0]? = some (.inl (11, [.ref 1, .int 4, .int 0, .ref 2, .ref 13, .ref 49, .int 0, .int (-1), .ref 85, .ref 86, .ref 92, .ref 112, .int 0, .ref 113]))) (g1 : h[1]? = some (.inr (0, 16000, .inl xs1))) (g121 : h[121]? = some (.inl (13, [.ref 122, .ref 168, .int 0, .ref 214, .int 0, .int 0, .ref 215, .int 0, .ref 216, .ref 217, .int 0, .int 0, .int (-1), .ref 218, .ref 219, .ref 220, .ref 221, .ref 222, .ref 223, .int 0, .ref 224, .ref 225, .ref 226, .ref 227, .ref 228, .int 0, .ref 229, .ref 230, .ref 231, .ref 232, .ref 233, .ref 234, .ref 235, .ref 236, .ref 237, .ref 238, .int 0, .int 0, .int 0, .int 0, .long 0, .ref 239, .ref 240, .ref 241, .ref 242, .ref 243, .ref 244, .ref 245, .ref 246, .ref 247, .ref 248, .ref 249, .int 0, .int 0, .int 0, .int 0, .int 0, .int 0, .int 0, .int (-1), .int (-1), .int 0, .int 0, .int 0]))) (g214 : h[214]? = some (.inr (0, 16000, .inl xs214))) : mi_ok (fun r h' sl' => r = none ∧ sl = sl' ∧ h'.length = N ∧ ∃ (zs1 : List Int32) (zs214 : List Int32), h'[0]? = some (.inl (11, [.ref 1, .int 8, .int 0, .ref 2, .ref 13, .ref 49, .int 0, .int (-1), .ref 85, .ref 86, .ref 92, .ref 112, .int 0, .ref 113])) ∧ h'[1]? = some (.inr (0, 16000, .inl zs1)) ∧ h'[121]? = some (.inl (13, [.ref 122, .ref 168, .int 0, .ref 214, .int 0, .int 0, .ref 215, .int 0, .ref 216, .ref 217, .int 0, .int 0, .int (-1), .ref 218, .ref 219, .ref 220, .ref 221, .ref 222, .ref 223, .int 0, .ref 224, .ref 225, .ref 226, .ref 227, .ref 228, .int 0, .ref 229, .ref 230, .ref 231, .ref 232, .ref 233, .ref 234, .ref 235, .ref 236, .ref 237, .ref 238, .int 0, .int 0, .int 0, .int 0, .long 0, .ref 239, .ref 240, .ref 241, .ref 242, .ref 243, .ref 244, .ref 245, .ref 246, .ref 247, .ref 248, .ref 249, .int 0, .int 0, .int 0, .int 0, .int 0, .int 0, .int 0, .int (-1), .int (-1), .int 0, .int 0, .int 0])) ∧ h'[214]? = some (.inr (0, 16000, .inl zs214))) mi_Γ ev 34 (0, [(0, .ref 0), (1, .int u1)], []) h sl := by
  refine mk_v (M := mG_34) (i := .bipush 24) (len := 2) (pc' := 2) (v' := .int 24) (st' := []) mJ_34 (by decide +kernel) rfl (by decide +kernel) ?_
  refine mk_p (M := mG_34) (i := .istore_n 2) (len := 1) (f' := (3, [(2, .int 24), (0, .ref 0), (1, .int u1)], [])) mJ_34 (by decide +kernel) rfl ?_
  refine mk_p (M := mG_34) (i := .iload_n 2) (len := 1) (f' := (4, [(2, .int 24), (0, .ref 0), (1, .int u1)], [.int 24])) mJ_34 (by decide +kernel) rfl ?_
  refine mk_f (M := mG_34) (i := .ifCond .lt 32) (len := 3) (q := decide ((24 : Int32) < (0 : Int32))) (off := 32) (t := 36) (pc' := 7) (st' := []) mJ_34 (by decide +kernel) rfl (by decide +kernel) (by decide +kernel) rfl ?_
  refine mk_p (M := mG_34) (i := .aload_n 0) (len := 1) (f' := (8, [(2, .int 24), (0, .ref 0), (1, .int u1)], [.ref 0])) mJ_34 (by decide +kernel) rfl ?_
  refine mk_h (M := mG_34) (i := .getfield 9) (len := 3) (f' := (11, [(2, .int 24), (0, .ref 0), (1, .int u1)], [.ref 1])) (h' := h) (sl' := sl) mJ_34 (by decide +kernel) rfl (mh_getf (ci := 11) (k := 0) (by decide +kernel) g0 rfl) ?_
  refine mk_p (M := mG_34) (i := .aload_n 0) (len := 1) (f' := (12, [(2, .int 24), (0, .ref 0), (1, .int u1)], [.ref 0, .ref 1])) mJ_34 (by decide +kernel) rfl ?_
  refine mk_h (M := mG_34) (i := .getfield 72) (len := 3) (f' := (15, [(2, .int 24), (0, .ref 0), (1, .int u1)], [.int 4, .ref 1])) (h' := h) (sl' := sl) mJ_34 (by decide +kernel) rfl (mh_getf (ci := 11) (k := 1) (by decide +kernel) g0 rfl) ?_
  refine mk_p (M := mG_34) (i := .iload_n 1) (len := 1) (f' := (16, [(2, .int 24), (0, .ref 0), (1, .int u1)], [.int u1, .int 4, .ref 1])) mJ_34 (by decide +kernel) rfl ?_
  refine mk_p (M := mG_34) (i := .iload_n 2) (len := 1) (f' := (17, [(2, .int 24), (0, .ref 0), (1, .int u1)], [.int 24, .int u1, .int 4, .ref 1])) mJ_34 (by decide +kernel) rfl ?_
  refine mk_e (M := mG_34) (i := .iushr) (len := 1) (pc' := 18) (st' := [.int 4, .ref 1]) mJ_34 (by decide +kernel) rfl (fun w1 => ?_)
  refine mk_e (M := mG_34) (i := .i2b) (len := 1) (pc' := 19) (st' := [.int 4, .ref 1]) mJ_34 (by decide +kernel) rfl (fun w2 => ?_)
  refine mk_wa (M := mG_34) (i := .bastore) (len := 1) (f' := (20, [(2, .int 24), (0, .ref 0), (1, .int u1)], [])) (a := 1) (t := 0) (n := 16000) mJ_34 (by decide +kernel) rfl (mh_bas g1 (by decide +kernel)) g1 (fun h1 ys3 lh1 g1 eh1 => ?_)
  have g0 := (eh1 0 (by decide)).trans g0
  have g121 := (eh1 121 (by decide)).trans g121
  have g214 := (eh1 214 (by decide)).trans g214
  have hl := lh1.trans hl
  refine mk_p (M := mG_34) (i := .aload_n 0) (len := 1) (f' := (21, [(2, .int 24), (0, .ref 0), (1, .int u1)], [.ref 0])) mJ_34 (by decide +kernel) rfl ?_
  refine mk_p (M := mG_34) (i := .dup) (len := 1) (f' := (22, [(2, .int 24), (0, .ref 0), (1, .int u1)], [.ref 0, .ref 0])) mJ_34 (by decide +kernel) rfl ?_
  refine mk_h (M := mG_34) (i := .getfield 72) (len := 3) (f' := (25, [(2, .int 24), (0, .ref 0), (1, .int u1)], [.int 4, .ref 0])) (h' := h1) (sl' := sl) mJ_34 (by decide +kernel) rfl (mh_getf (ci := 11) (k := 1) (by decide +kernel) g0 rfl) ?_
  refine mk_v (M := mG_34) (i := .iconst 1) (len := 1) (pc' := 26) (v' := .int 1) (st' := [.int 4, .ref 0]) mJ_34 (by decide +kernel) rfl (by decide +kernel) ?_
  refine mk_v (M := mG_34) (i := .iadd) (len := 1) (pc' := 27) (v' := .int 5) (st' := [.ref 0]) mJ_34 (by decide +kernel) rfl (by decide +kernel) ?_
  refine mk_w (M := mG_34) (i := .putfield 72) (len := 3) (f' := (30, [(2, .int 24), (0, .ref 0), (1, .int u1)], [])) (a := 0) (.inl (11, [.ref 1, .int 5, .int 0, .ref 2, .ref 13, .ref 49, .int 0, .int (-1), .ref 85, .ref 86, .ref 92, .ref 112, .int 0, .ref 113])) mJ_34 (by decide +kernel) rfl (mh_putf (ci := 11) (k := 1) (ty := .int) (by decide +kernel) g0 (Nat.le_of_ble_eq_true rfl) rfl rfl rfl) g0 (fun h2 lh2 g0 eh2 => ?_)
  have g1 := (eh2 1 (by decide)).trans g1
  have g121 := (eh2 121 (by decide)).trans g121
  have g214 := (eh2 214 (by decide)).trans g214
  have hl := lh2.trans hl
  refine mk_i (M := mG_34) (len := 3) (k := 2) (n := (-8)) (x := 24) (y := 16) (lv' := [(2, .int 16), (0, .ref 0), (1, .int u1)]) (pc' := 33) mJ_34 (by decide +kernel) rfl (by decide +kernel) (by decide +kernel) rfl rfl ?_
  refine mk_g (M := mG_34) (len := 3) (off := (-30)) (t := 3) mJ_34 (by decide +kernel) (by decide +kernel) ?_
  refine mk_p (M := mG_34) (i := .iload_n 2) (len := 1) (f' := (4, [(2, .int 16), (0, .ref 0), (1, .int u1)], [.int 16])) mJ_34 (by decide +kernel) rfl ?_
  refine mk_f (M := mG_34) (i := .ifCond .lt 32) (len := 3) (q := decide ((16 : Int32) < (0 : Int32))) (off := 32) (t := 36) (pc' := 7) (st' := []) mJ_34 (by decide +kernel) rfl (by decide +kernel) (by decide +kernel) rfl ?_
  refine mk_p (M := mG_34) (i := .aload_n 0) (len := 1) (f' := (8, [(2, .int 16), (0, .ref 0), (1, .int u1)], [.ref 0])) mJ_34 (by decide +kernel) rfl ?_
  refine mk_h (M := mG_34) (i := .getfield 9) (len := 3) (f' := (11, [(2, .int 16), (0, .ref 0), (1, .int u1)], [.ref 1])) (h' := h2) (sl' := sl) mJ_34 (by decide +kernel) rfl (mh_getf (ci := 11) (k := 0) (by decide +kernel) g0 rfl) ?_
  refine mk_p (M := mG_34) (i := .aload_n 0) (len := 1) (f' := (12, [(2, .int 16), (0, .ref 0), (1, .int u1)], [.ref 0, .ref 1])) mJ_34 (by decide +kernel) rfl ?_
  refine mk_h (M := mG_34) (i := .getfield 72) (len := 3) (f' := (15, [(2, .int 16), (0, .ref 0), (1, .int u1)], [.int 5, .ref 1])) (h' := h2) (sl' := sl) mJ_34 (by decide +kernel) rfl (mh_getf (ci := 11) (k := 1) (by decide +kernel) g0 rfl) ?_
  refine mk_p (M := mG_34) (i := .iload_n 1) (len := 1) (f' := (16, [(2, .int 16), (0, .ref 0), (1, .int u1)], [.int u1, .int 5, .ref 1])) mJ_34 (by decide +kernel) rfl ?_
  refine mk_p (M := mG_34) (i := .iload_n 2) (len := 1) (f' := (17, [(2, .int 16), (0, .ref 0), (1, .int u1)], [.int 16, .int u1, .int 5, .ref 1])) mJ_34 (by decide +kernel) rfl ?_
  refine mk_e (M := mG_34) (i := .iushr) (len := 1) (pc' := 18) (st' := [.int 5, .ref 1]) mJ_34 (by decide +kernel) rfl (fun w4 => ?_)
  refine mk_e (M := mG_34) (i := .i2b) (len := 1) (pc' := 19) (st' := [.int 5, .ref 1]) mJ_34 (by decide +kernel) rfl (fun w5 => ?_)
  refine mk_wa (M := mG_34) (i := .bastore) (len := 1) (f' := (20, [(2, .int 16), (0, .ref 0), (1, .int u1)], [])) (a := 1) (t := 0) (n := 16000) mJ_34 (by decide +kernel) rfl (mh_bas g1 (by decide +kernel)) g1 (fun h3 ys6 lh3 g1 eh3 => ?_)
  have g0 := (eh3 0 (by decide)).trans g0
  have g121 := (eh3 121 (by decide)).trans g121
  have g214 := (eh3 214 (by decide)).trans g214
  have hl := lh3.trans hl
  refine mk_p (M := mG_34) (i := .aload_n 0) (len := 1) (f' := (21, [(2, .int 16), (0, .ref 0), (1, .int u1)], [.ref 0])) mJ_34 (by decide +kernel) rfl ?_
  refine mk_p (M := mG_34) (i := .dup) (len := 1) (f' := (22, [(2, .int 16), (0, .ref 0), (1, .int u1)], [.ref 0, .ref 0])) mJ_34 (by decide +kernel) rfl ?_
  refine mk_h (M := mG_34) (i := .getfield 72) (len := 3) (f' := (25, [(2, .int 16), (0, .ref 0), (1, .int u1)], [.int 5, .ref 0])) (h' := h3) (sl' := sl) mJ_34 (by decide +kernel) rfl (mh_getf (ci := 11) (k := 1) (by decide +kernel) g0 rfl) ?_
  refine mk_v (M := mG_34) (i := .iconst 1) (len := 1) (pc' := 26) (v' := .int 1) (st' := [.int 5, .ref 0]) mJ_34 (by decide +kernel) rfl (by decide +kernel) ?_
  refine mk_v (M := mG_34) (i := .iadd) (len := 1) (pc' := 27) (v' := .int 6) (st' := [.ref 0]) mJ_34 (by decide +kernel) rfl (by decide +kernel) ?_
  refine mk_w (M := mG_34) (i := .putfield 72) (len := 3) (f' := (30, [(2, .int 16), (0, .ref 0), (1, .int u1)], [])) (a := 0) (.inl (11, [.ref 1, .int 6, .int 0, .ref 2, .ref 13, .ref 49, .int 0, .int (-1), .ref 85, .ref 86, .ref 92, .ref 112, .int 0, .ref 113])) mJ_34 (by decide +kernel) rfl (mh_putf (ci := 11) (k := 1) (ty := .int) (by decide +kernel) g0 (Nat.le_of_ble_eq_true rfl) rfl rfl rfl) g0 (fun h4 lh4 g0 eh4 => ?_)
  have g1 := (eh4 1 (by decide)).trans g1
  have g121 := (eh4 121 (by decide)).trans g121
  have g214 := (eh4 214 (by decide)).trans g214
  have hl := lh4.trans hl
  refine mk_i (M := mG_34) (len := 3) (k := 2) (n := (-8)) (x := 16) (y := 8) (lv' := [(2, .int 8), (0, .ref 0), (1, .int u1)]) (pc' := 33) mJ_34 (by decide +kernel) rfl (by decide +kernel) (by decide +kernel) rfl rfl ?_
  refine mk_g (M := mG_34) (len := 3) (off := (-30)) (t := 3) mJ_34 (by decide +kernel) (by decide +kernel) ?_
  refine mk_p (M := mG_34) (i := .iload_n 2) (len := 1) (f' := (4, [(2, .int 8), (0, .ref 0), (1, .int u1)], [.int 8])) mJ_34 (by decide +kernel) rfl ?_
  refine mk_f (M := mG_34) (i := .ifCond .lt 32) (len := 3) (q := decide ((8 : Int32) < (0 : Int32))) (off := 32) (t := 36) (pc' := 7) (st' := []) mJ_34 (by decide +kernel) rfl (by decide +kernel) (by decide +kernel) rfl ?_
  refine mk_p (M := mG_34) (i := .aload_n 0) (len := 1) (f' := (8, [(2, .int 8), (0, .ref 0), (1, .int u1)], [.ref 0])) mJ_34 (by decide +kernel) rfl ?_
  refine mk_h (M := mG_34) (i := .getfield 9) (len := 3) (f' := (11, [(2, .int 8), (0, .ref 0), (1, .int u1)], [.ref 1])) (h' := h4) (sl' := sl) mJ_34 (by decide +kernel) rfl (mh_getf (ci := 11) (k := 0) (by decide +kernel) g0 rfl) ?_
  refine mk_p (M := mG_34) (i := .aload_n 0) (len := 1) (f' := (12, [(2, .int 8), (0, .ref 0), (1, .int u1)], [.ref 0, .ref 1])) mJ_34 (by decide +kernel) rfl ?_
  refine mk_h (M := mG_34) (i := .getfield 72) (len := 3) (f' := (15, [(2, .int 8), (0, .ref 0), (1, .int u1)], [.int 6, .ref 1])) (h' := h4) (sl' := sl) mJ_34 (by decide +kernel) rfl (mh_getf (ci := 11) (k := 1) (by decide +kernel) g0 rfl) ?_
  refine mk_p (M := mG_34) (i := .iload_n 1) (len := 1) (f' := (16, [(2, .int 8), (0, .ref 0), (1, .int u1)], [.int u1, .int 6, .ref 1])) mJ_34 (by decide +kernel) rfl ?_
  refine mk_p (M := mG_34) (i := .iload_n 2) (len := 1) (f' := (17, [(2, .int 8), (0, .ref 0), (1, .int u1)], [.int 8, .int u1, .int 6, .ref 1])) mJ_34 (by decide +kernel) rfl ?_
  refine mk_e (M := mG_34) (i := .iushr) (len := 1) (pc' := 18) (st' := [.int 6, .ref 1]) mJ_34 (by decide +kernel) rfl (fun w7 => ?_)
  refine mk_e (M := mG_34) (i := .i2b) (len := 1) (pc' := 19) (st' := [.int 6, .ref 1]) mJ_34 (by decide +kernel) rfl (fun w8 => ?_)
  refine mk_wa (M := mG_34) (i := .bastore) (len := 1) (f' := (20, [(2, .int 8), (0, .ref 0), (1, .int u1)], [])) (a := 1) (t := 0) (n := 16000) mJ_34 (by decide +kernel) rfl (mh_bas g1 (by decide +kernel)) g1 (fun h5 ys9 lh5 g1 eh5 => ?_)
  have g0 := (eh5 0 (by decide)).trans g0
  have g121 := (eh5 121 (by decide)).trans g121
  have g214 := (eh5 214 (by decide)).trans g214
  have hl := lh5.trans hl
  refine mk_p (M := mG_34) (i := .aload_n 0) (len := 1) (f' := (21, [(2, .int 8), (0, .ref 0), (1, .int u1)], [.ref 0])) mJ_34 (by decide +kernel) rfl ?_
  refine mk_p (M := mG_34) (i := .dup) (len := 1) (f' := (22, [(2, .int 8), (0, .ref 0), (1, .int u1)], [.ref 0, .ref 0])) mJ_34 (by decide +kernel) rfl ?_
  refine mk_h (M := mG_34) (i := .getfield 72) (len := 3) (f' := (25, [(2, .int 8), (0, .ref 0), (1, .int u1)], [.int 6, .ref 0])) (h' := h5) (sl' := sl) mJ_34 (by decide +kernel) rfl (mh_getf (ci := 11) (k := 1) (by decide +kernel) g0 rfl) ?_
  refine mk_v (M := mG_34) (i := .iconst 1) (len := 1) (pc' := 26) (v' := .int 1) (st' := [.int 6, .ref 0]) mJ_34 (by decide +kernel) rfl (by decide +kernel) ?_
  refine mk_v (M := mG_34) (i := .iadd) (len := 1) (pc' := 27) (v' := .int 7) (st' := [.ref 0]) mJ_34 (by decide +kernel) rfl (by decide +kernel) ?_
  refine mk_w (M := mG_34) (i := .putfield 72) (len := 3) (f' := (30, [(2, .int 8), (0, .ref 0), (1, .int u1)], [])) (a := 0) (.inl (11, [.ref 1, .int 7, .int 0, .ref 2, .ref 13, .ref 49, .int 0, .int (-1), .ref 85, .ref 86, .ref 92, .ref 112, .int 0, .ref 113])) mJ_34 (by decide +kernel) rfl (mh_putf (ci := 11) (k := 1) (ty := .int) (by decide +kernel) g0 (Nat.le_of_ble_eq_true rfl) rfl rfl rfl) g0 (fun h6 lh6 g0 eh6 => ?_)
  have g1 := (eh6 1 (by decide)).trans g1
  have g121 := (eh6 121 (by decide)).trans g121
  have g214 := (eh6 214 (by decide)).trans g214
  have hl := lh6.trans hl
  refine mk_i (M := mG_34) (len := 3) (k := 2) (n := (-8)) (x := 8) (y := 0) (lv' := [(2, .int 0), (0, .ref 0), (1, .int u1)]) (pc' := 33) mJ_34 (by decide +kernel) rfl (by decide +kernel) (by decide +kernel) rfl rfl ?_
  refine mk_g (M := mG_34) (len := 3) (off := (-30)) (t := 3) mJ_34 (by decide +kernel) (by decide +kernel) ?_
  refine mk_p (M := mG_34) (i := .iload_n 2) (len := 1) (f' := (4, [(2, .int 0), (0, .ref 0), (1, .int u1)], [.int 0])) mJ_34 (by decide +kernel) rfl ?_
  refine mk_f (M := mG_34) (i := .ifCond .lt 32) (len := 3) (q := decide ((0 : Int32) < (0 : Int32))) (off := 32) (t := 36) (pc' := 7) (st' := []) mJ_34 (by decide +kernel) rfl (by decide +kernel) (by decide +kernel) rfl ?_
  refine mk_p (M := mG_34) (i := .aload_n 0) (len := 1) (f' := (8, [(2, .int 0), (0, .ref 0), (1, .int u1)], [.ref 0])) mJ_34 (by decide +kernel) rfl ?_
  refine mk_h (M := mG_34) (i := .getfield 9) (len := 3) (f' := (11, [(2, .int 0), (0, .ref 0), (1, .int u1)], [.ref 1])) (h' := h6) (sl' := sl) mJ_34 (by decide +kernel) rfl (mh_getf (ci := 11) (k := 0) (by decide +kernel) g0 rfl) ?_
  refine mk_p (M := mG_34) (i := .aload_n 0) (len := 1) (f' := (12, [(2, .int 0), (0, .ref 0), (1, .int u1)], [.ref 0, .ref 1])) mJ_34 (by decide +kernel) rfl ?_
  refine mk_h (M := mG_34) (i := .getfield 72) (len := 3) (f' := (15, [(2, .int 0), (0, .ref 0), (1, .int u1)], [.int 7, .ref 1])) (h' := h6) (sl' := sl) mJ_34 (by decide +kernel) rfl (mh_getf (ci := 11) (k := 1) (by decide +kernel) g0 rfl) ?_
  refine mk_p (M := mG_34) (i := .iload_n 1) (len := 1) (f' := (16, [(2, .int 0), (0, .ref 0), (1, .int u1)], [.int u1, .int 7, .ref 1])) mJ_34 (by decide +kernel) rfl ?_
  refine mk_p (M := mG_34) (i := .iload_n 2) (len := 1) (f' := (17, [(2, .int 0), (0, .ref 0), (1, .int u1)], [.int 0, .int u1, .int 7, .ref 1])) mJ_34 (by decide +kernel) rfl ?_
  refine mk_e (M := mG_34) (i := .iushr) (len := 1) (pc' := 18) (st' := [.int 7, .ref 1]) mJ_34 (by decide +kernel) rfl (fun w10 => ?_)
  refine mk_e (M := mG_34) (i := .i2b) (len := 1) (pc' := 19) (st' := [.int 7, .ref 1]) mJ_34 (by decide +kernel) rfl (fun w11 => ?_)
  refine mk_wa (M := mG_34) (i := .bastore) (len := 1) (f' := (20, [(2, .int 0), (0, .ref 0), (1, .int u1)], [])) (a := 1) (t := 0) (n := 16000) mJ_34 (by decide +kernel) rfl (mh_bas g1 (by decide +kernel)) g1 (fun h7 ys12 lh7 g1 eh7 => ?_)
  have g0 := (eh7 0 (by decide)).trans g0
  have g121 := (eh7 121 (by decide)).trans g121
  have g214 := (eh7 214 (by decide)).trans g214
  have hl := lh7.trans hl
  refine mk_p (M := mG_34) (i := .aload_n 0) (len := 1) (f' := (21, [(2, .int 0), (0, .ref 0), (1, .int u1)], [.ref 0])) mJ_34 (by decide +kernel) rfl ?_
  refine mk_p (M := mG_34) (i := .dup) (len := 1) (f' := (22, [(2, .int 0), (0, .ref 0), (1, .int u1)], [.ref 0, .ref 0])) mJ_34 (by decide +kernel) rfl ?_
  refine mk_h (M := mG_34) (i := .getfield 72) (len := 3) (f' := (25, [(2, .int 0), (0, .ref 0), (1, .int u1)], [.int 7, .ref 0])) (h' := h7) (sl' := sl) mJ_34 (by decide +kernel) rfl (mh_getf (ci := 11) (k := 1) (by decide +kernel) g0 rfl) ?_
  refine mk_v (M := mG_34) (i := .iconst 1) (len := 1) (pc' := 26) (v' := .int 1) (st' := [.int 7, .ref 0]) mJ_34 (by decide +kernel) rfl (by decide +kernel) ?_
  refine mk_v (M := mG_34) (i := .iadd) (len := 1) (pc' := 27) (v' := .int 8) (st' := [.ref 0]) mJ_34 (by decide +kernel) rfl (by decide +kernel) ?_
  refine mk_w (M := mG_34) (i := .putfield 72) (len := 3) (f' := (30, [(2, .int 0), (0, .ref 0), (1, .int u1)], [])) (a := 0) (.inl (11, [.ref 1, .int 8, .int 0, .ref 2, .ref 13, .ref 49, .int 0, .int (-1), .ref 85, .ref 86, .ref 92, .ref 112, .int 0, .ref 113])) mJ_34 (by decide +kernel) rfl (mh_putf (ci := 11) (k := 1) (ty := .int) (by decide +kernel) g0 (Nat.le_of_ble_eq_true rfl) rfl rfl rfl) g0 (fun h8 lh8 g0 eh8 => ?_)
  have g1 := (eh8 1 (by decide)).trans g1
  have g121 := (eh8 121 (by decide)).trans g121
  have g214 := (eh8 214 (by decide)).trans g214
  have hl := lh8.trans hl
  refine mk_i (M := mG_34) (len := 3) (k := 2) (n := (-8)) (x := 0) (y := (-8)) (lv' := [(2, .int (-8)), (0, .ref 0), (1, .int u1)]) (pc' := 33) mJ_34 (by decide +kernel) rfl (by decide +kernel) (by decide +kernel) rfl rfl ?_
  refine mk_g (M := mG_34) (len := 3) (off := (-30)) (t := 3) mJ_34 (by decide +kernel) (by decide +kernel) ?_
  refine mk_p (M := mG_34) (i := .iload_n 2) (len := 1) (f' := (4, [(2, .int (-8)), (0, .ref 0), (1, .int u1)], [.int (-8)])) mJ_34 (by decide +kernel) rfl ?_
  refine mk_t (M := mG_34) (i := .ifCond .lt 32) (len := 3) (q := decide (((-8) : Int32) < (0 : Int32))) (off := 32) (t := 36) (st' := []) mJ_34 (by decide +kernel) rfl (by decide +kernel) (by decide +kernel) ?_
  refine mk_r (M := mG_34) (i := .return_) (len := 1) (r := none) mJ_34 (by decide +kernel) rfl rfl (by decide +kernel) ?_
  exact ⟨rfl, rfl, hl, ys12, xs214, g0, g1, g121, g214⟩
set_option maxRecDepth 20000 in
theorem lwsX11_feedWord_2 {N sl : Nat} {ev : mi_Ev} {h : List mi_C} {xs1 : List Int32} {xs214 : List Int32} (u1 : Int32) (hl : h.length = N) (g0 : h[0]? = some (.inl (11, [.ref 1, .int 8, .int 0, .ref 2, .ref 13, .ref 49, .int 0, .int (-1), .ref 85, .ref 86, .ref 92, .ref 112, .int 0, .ref 113]))) (g1 : h[1]? = some (.inr (0, 16000, .inl xs1))) (g121 : h[121]? = some (.inl (13, [.ref 122, .ref 168, .int 0, .ref 214, .int 0, .int 0, .ref 215, .int 0, .ref 216, .ref 217, .int 0, .int 0, .int (-1), .ref 218, .ref 219, .ref 220, .ref 221, .ref 222, .ref 223, .int 0, .ref 224, .ref 225, .ref 226, .ref 227, .ref 228, .int 0, .ref 229, .ref 230, .ref 231, .ref 232, .ref 233, .ref 234, .ref 235, .ref 236, .ref 237, .ref 238, .int 0, .int 0, .int 0, .int 0, .long 0, .ref 239, .ref 240, .ref 241, .ref 242, .ref 243, .ref 244, .ref 245, .ref 246, .ref 247, .ref 248, .ref 249, .int 0, .int 0, .int 0, .int 0, .int 0, .int 0, .int 0, .int (-1), .int (-1), .int 0, .int 0, .int 0]))) (g214 : h[214]? = some (.inr (0, 16000, .inl xs214))) : mi_ok (fun r h' sl' => r = none ∧ sl = sl' ∧ h'.length = N ∧ ∃ (zs1 : List Int32) (zs214 : List Int32), h'[0]? = some (.inl (11, [.ref 1, .int 12, .int 0, .ref 2, .ref 13, .ref 49, .int 0, .int (-1), .ref 85, .ref 86, .ref 92, .ref 112, .int 0, .ref 113])) ∧ h'[1]? = some (.inr (0, 16000, .inl zs1)) ∧ h'[121]? = some (.inl (13, [.ref 122, .ref 168, .int 0, .ref 214, .int 0, .int 0, .ref 215, .int 0, .ref 216, .ref 217, .int 0, .int 0, .int (-1), .ref 218, .ref 219, .ref 220, .ref 221, .ref 222, .ref 223, .int 0, .ref 224, .ref 225, .ref 226, .ref 227, .ref 228, .int 0, .ref 229, .ref 230, .ref 231, .ref 232, .ref 233, .ref 234, .ref 235, .ref 236, .ref 237, .ref 238, .int 0, .int 0, .int 0, .int 0, .long 0, .ref 239, .ref 240, .ref 241, .ref 242, .ref 243, .ref 244, .ref 245, .ref 246, .ref 247, .ref 248, .ref 249, .int 0, .int 0, .int 0, .int 0, .int 0, .int 0, .int 0, .int (-1), .int (-1), .int 0, .int 0, .int 0])) ∧ h'[214]? = some (.inr (0, 16000, .inl zs214))) mi_Γ ev 34 (0, [(0, .ref 0), (1, .int u1)], []) h sl := by
  refine mk_v (M := mG_34) (i := .bipush 24) (len := 2) (pc' := 2) (v' := .int 24) (st' := []) mJ_34 (by decide +kernel) rfl (by decide +kernel) ?_
  refine mk_p (M := mG_34) (i := .istore_n 2) (len := 1) (f' := (3, [(2, .int 24), (0, .ref 0), (1, .int u1)], [])) mJ_34 (by decide +kernel) rfl ?_
  refine mk_p (M := mG_34) (i := .iload_n 2) (len := 1) (f' := (4, [(2, .int 24), (0, .ref 0), (1, .int u1)], [.int 24])) mJ_34 (by decide +kernel) rfl ?_
  refine mk_f (M := mG_34) (i := .ifCond .lt 32) (len := 3) (q := decide ((24 : Int32) < (0 : Int32))) (off := 32) (t := 36) (pc' := 7) (st' := []) mJ_34 (by decide +kernel) rfl (by decide +kernel) (by decide +kernel) rfl ?_
  refine mk_p (M := mG_34) (i := .aload_n 0) (len := 1) (f' := (8, [(2, .int 24), (0, .ref 0), (1, .int u1)], [.ref 0])) mJ_34 (by decide +kernel) rfl ?_
  refine mk_h (M := mG_34) (i := .getfield 9) (len := 3) (f' := (11, [(2, .int 24), (0, .ref 0), (1, .int u1)], [.ref 1])) (h' := h) (sl' := sl) mJ_34 (by decide +kernel) rfl (mh_getf (ci := 11) (k := 0) (by decide +kernel) g0 rfl) ?_
  refine mk_p (M := mG_34) (i := .aload_n 0) (len := 1) (f' := (12, [(2, .int 24), (0, .ref 0), (1, .int u1)], [.ref 0, .ref 1])) mJ_34 (by decide +kernel) rfl ?_
  refine mk_h (M := mG_34) (i := .getfield 72) (len := 3) (f' := (15, [(2, .int 24), (0, .ref 0), (1, .int u1)], [.int 8, .ref 1])) (h' := h) (sl' := sl) mJ_34 (by decide +kernel) rfl (mh_getf (ci := 11) (k := 1) (by decide +kernel) g0 rfl) ?_
  refine mk_p (M := mG_34) (i := .iload_n 1) (len := 1) (f' := (16, [(2, .int 24), (0, .ref 0), (1, .int u1)], [.int u1, .int 8, .ref 1])) mJ_34 (by decide +kernel) rfl ?_
  refine mk_p (M := mG_34) (i := .iload_n 2) (len := 1) (f' := (17, [(2, .int 24), (0, .ref 0), (1, .int u1)], [.int 24, .int u1, .int 8, .ref 1])) mJ_34 (by decide +kernel) rfl ?_
  refine mk_e (M := mG_34) (i := .iushr) (len := 1) (pc' := 18) (st' := [.int 8, .ref 1]) mJ_34 (by decide +kernel) rfl (fun w1 => ?_)
  refine mk_e (M := mG_34) (i := .i2b) (len := 1) (pc' := 19) (st' := [.int 8, .ref 1]) mJ_34 (by decide +kernel) rfl (fun w2 => ?_)
  refine mk_wa (M := mG_34) (i := .bastore) (len := 1) (f' := (20, [(2, .int 24), (0, .ref 0), (1, .int u1)], [])) (a := 1) (t := 0) (n := 16000) mJ_34 (by decide +kernel) rfl (mh_bas g1 (by decide +kernel)) g1 (fun h1 ys3 lh1 g1 eh1 => ?_)
  have g0 := (eh1 0 (by decide)).trans g0
  have g121 := (eh1 121 (by decide)).trans g121
  have g214 := (eh1 214 (by decide)).trans g214
  have hl := lh1.trans hl
  refine mk_p (M := mG_34) (i := .aload_n 0) (len := 1) (f' := (21, [(2, .int 24), (0, .ref 0), (1, .int u1)], [.ref 0])) mJ_34 (by decide +kernel) rfl ?_
  refine mk_p (M := mG_34) (i := .dup) (len := 1) (f' := (22, [(2, .int 24), (0, .ref 0), (1, .int u1)], [.ref 0, .ref 0])) mJ_34 (by decide +kernel) rfl ?_
  refine mk_h (M := mG_34) (i := .getfield 72) (len := 3) (f' := (25, [(2, .int 24), (0, .ref 0), (1, .int u1)], [.int 8, .ref 0])) (h' := h1) (sl' := sl) mJ_34 (by decide +kernel) rfl (mh_getf (ci := 11) (k := 1) (by decide +kernel) g0 rfl) ?_
  refine mk_v (M := mG_34) (i := .iconst 1) (len := 1) (pc' := 26) (v' := .int 1) (st' := [.int 8, .ref 0]) mJ_34 (by decide +kernel) rfl (by decide +kernel) ?_
  refine mk_v (M := mG_34) (i := .iadd) (len := 1) (pc' := 27) (v' := .int 9) (st' := [.ref 0]) mJ_34 (by decide +kernel) rfl (by decide +kernel) ?_
  refine mk_w (M := mG_34) (i := .putfield 72) (len := 3) (f' := (30, [(2, .int 24), (0, .ref 0), (1, .int u1)], [])) (a := 0) (.inl (11, [.ref 1, .int 9, .int 0, .ref 2, .ref 13, .ref 49, .int 0, .int (-1), .ref 85, .ref 86, .ref 92, .ref 112, .int 0, .ref 113])) mJ_34 (by decide +kernel) rfl (mh_putf (ci := 11) (k := 1) (ty := .int) (by decide +kernel) g0 (Nat.le_of_ble_eq_true rfl) rfl rfl rfl) g0 (fun h2 lh2 g0 eh2 => ?_)
  have g1 := (eh2 1 (by decide)).trans g1
  have g121 := (eh2 121 (by decide)).trans g121
  have g214 := (eh2 214 (by decide)).trans g214
  have hl := lh2.trans hl
  refine mk_i (M := mG_34) (len := 3) (k := 2) (n := (-8)) (x := 24) (y := 16) (lv' := [(2, .int 16), (0, .ref 0), (1, .int u1)]) (pc' := 33) mJ_34 (by decide +kernel) rfl (by decide +kernel) (by decide +kernel) rfl rfl ?_
  refine mk_g (M := mG_34) (len := 3) (off := (-30)) (t := 3) mJ_34 (by decide +kernel) (by decide +kernel) ?_
  refine mk_p (M := mG_34) (i := .iload_n 2) (len := 1) (f' := (4, [(2, .int 16), (0, .ref 0), (1, .int u1)], [.int 16])) mJ_34 (by decide +kernel) rfl ?_
  refine mk_f (M := mG_34) (i := .ifCond .lt 32) (len := 3) (q := decide ((16 : Int32) < (0 : Int32))) (off := 32) (t := 36) (pc' := 7) (st' := []) mJ_34 (by decide +kernel) rfl (by decide +kernel) (by decide +kernel) rfl ?_
  refine mk_p (M := mG_34) (i := .aload_n 0) (len := 1) (f' := (8, [(2, .int 16), (0, .ref 0), (1, .int u1)], [.ref 0])) mJ_34 (by decide +kernel) rfl ?_
  refine mk_h (M := mG_34) (i := .getfield 9) (len := 3) (f' := (11, [(2, .int 16), (0, .ref 0), (1, .int u1)], [.ref 1])) (h' := h2) (sl' := sl) mJ_34 (by decide +kernel) rfl (mh_getf (ci := 11) (k := 0) (by decide +kernel) g0 rfl) ?_
  refine mk_p (M := mG_34) (i := .aload_n 0) (len := 1) (f' := (12, [(2, .int 16), (0, .ref 0), (1, .int u1)], [.ref 0, .ref 1])) mJ_34 (by decide +kernel) rfl ?_
  refine mk_h (M := mG_34) (i := .getfield 72) (len := 3) (f' := (15, [(2, .int 16), (0, .ref 0), (1, .int u1)], [.int 9, .ref 1])) (h' := h2) (sl' := sl) mJ_34 (by decide +kernel) rfl (mh_getf (ci := 11) (k := 1) (by decide +kernel) g0 rfl) ?_
  refine mk_p (M := mG_34) (i := .iload_n 1) (len := 1) (f' := (16, [(2, .int 16), (0, .ref 0), (1, .int u1)], [.int u1, .int 9, .ref 1])) mJ_34 (by decide +kernel) rfl ?_
  refine mk_p (M := mG_34) (i := .iload_n 2) (len := 1) (f' := (17, [(2, .int 16), (0, .ref 0), (1, .int u1)], [.int 16, .int u1, .int 9, .ref 1])) mJ_34 (by decide +kernel) rfl ?_
  refine mk_e (M := mG_34) (i := .iushr) (len := 1) (pc' := 18) (st' := [.int 9, .ref 1]) mJ_34 (by decide +kernel) rfl (fun w4 => ?_)
  refine mk_e (M := mG_34) (i := .i2b) (len := 1) (pc' := 19) (st' := [.int 9, .ref 1]) mJ_34 (by decide +kernel) rfl (fun w5 => ?_)
  refine mk_wa (M := mG_34) (i := .bastore) (len := 1) (f' := (20, [(2, .int 16), (0, .ref 0), (1, .int u1)], [])) (a := 1) (t := 0) (n := 16000) mJ_34 (by decide +kernel) rfl (mh_bas g1 (by decide +kernel)) g1 (fun h3 ys6 lh3 g1 eh3 => ?_)
  have g0 := (eh3 0 (by decide)).trans g0
  have g121 := (eh3 121 (by decide)).trans g121
  have g214 := (eh3 214 (by decide)).trans g214
  have hl := lh3.trans hl
  refine mk_p (M := mG_34) (i := .aload_n 0) (len := 1) (f' := (21, [(2, .int 16), (0, .ref 0), (1, .int u1)], [.ref 0])) mJ_34 (by decide +kernel) rfl ?_
  refine mk_p (M := mG_34) (i := .dup) (len := 1) (f' := (22, [(2, .int 16), (0, .ref 0), (1, .int u1)], [.ref 0, .ref 0])) mJ_34 (by decide +kernel) rfl ?_
  refine mk_h (M := mG_34) (i := .getfield 72) (len := 3) (f' := (25, [(2, .int 16), (0, .ref 0), (1, .int u1)], [.int 9, .ref 0])) (h' := h3) (sl' := sl) mJ_34 (by decide +kernel) rfl (mh_getf (ci := 11) (k := 1) (by decide +kernel) g0 rfl) ?_
  refine mk_v (M := mG_34) (i := .iconst 1) (len := 1) (pc' := 26) (v' := .int 1) (st' := [.int 9, .ref 0]) mJ_34 (by decide +kernel) rfl (by decide +kernel) ?_
  refine mk_v (M := mG_34) (i := .iadd) (len := 1) (pc' := 27) (v' := .int 10) (st' := [.ref 0]) mJ_34 (by decide +kernel) rfl (by decide +kernel) ?_
  refine mk_w (M := mG_34) (i := .putfield 72) (len := 3) (f' := (30, [(2, .int 16), (0, .ref 0), (1, .int u1)], [])) (a := 0) (.inl (11, [.ref 1, .int 10, .int 0, .ref 2, .ref 13, .ref 49, .int 0, .int (-1), .ref 85, .ref 86, .ref 92, .ref 112, .int 0, .ref 113])) mJ_34 (by decide +kernel) rfl (mh_putf (ci := 11) (k := 1) (ty := .int) (by decide +kernel) g0 (Nat.le_of_ble_eq_true rfl) rfl rfl rfl) g0 (fun h4 lh4 g0 eh4 => ?_)
  have g1 := (eh4 1 (by decide)).trans g1
  have g121 := (eh4 121 (by decide)).trans g121
  have g214 := (eh4 214 (by decide)).trans g214
  have hl := lh4.trans hl
  refine mk_i (M := mG_34) (len := 3) (k := 2) (n := (-8)) (x := 16) (y := 8) (lv' := [(2, .int 8), (0, .ref 0), (1, .int u1)]) (pc' := 33) mJ_34 (by decide +kernel) rfl (by decide +kernel) (by decide +kernel) rfl rfl ?_
  refine mk_g (M := mG_34) (len := 3) (off := (-30)) (t := 3) mJ_34 (by decide +kernel) (by decide +kernel) ?_
  refine mk_p (M := mG_34) (i := .iload_n 2) (len := 1) (f' := (4, [(2, .int 8), (0, .ref 0), (1, .int u1)], [.int 8])) mJ_34 (by decide +kernel) rfl ?_
  refine mk_f (M := mG_34) (i := .ifCond .lt 32) (len := 3) (q := decide ((8 : Int32) < (0 : Int32))) (off := 32) (t := 36) (pc' := 7) (st' := []) mJ_34 (by decide +kernel) rfl (by decide +kernel) (by decide +kernel) rfl ?_
  refine mk_p (M := mG_34) (i := .aload_n 0) (len := 1) (f' := (8, [(2, .int 8), (0, .ref 0), (1, .int u1)], [.ref 0])) mJ_34 (by decide +kernel) rfl ?_
  refine mk_h (M := mG_34) (i := .getfield 9) (len := 3) (f' := (11, [(2, .int 8), (0, .ref 0), (1, .int u1)], [.ref 1])) (h' := h4) (sl' := sl) mJ_34 (by decide +kernel) rfl (mh_getf (ci := 11) (k := 0) (by decide +kernel) g0 rfl) ?_
  refine mk_p (M := mG_34) (i := .aload_n 0) (len := 1) (f' := (12, [(2, .int 8), (0, .ref 0), (1, .int u1)], [.ref 0, .ref 1])) mJ_34 (by decide +kernel) rfl ?_
  refine mk_h (M := mG_34) (i := .getfield 72) (len := 3) (f' := (15, [(2, .int 8), (0, .ref 0), (1, .int u1)], [.int 10, .ref 1])) (h' := h4) (sl' := sl) mJ_34 (by decide +kernel) rfl (mh_getf (ci := 11) (k := 1) (by decide +kernel) g0 rfl) ?_
  refine mk_p (M := mG_34) (i := .iload_n 1) (len := 1) (f' := (16, [(2, .int 8), (0, .ref 0), (1, .int u1)], [.int u1, .int 10, .ref 1])) mJ_34 (by decide +kernel) rfl ?_
  refine mk_p (M := mG_34) (i := .iload_n 2) (len := 1) (f' := (17, [(2, .int 8), (0, .ref 0), (1, .int u1)], [.int 8, .int u1, .int 10, .ref 1])) mJ_34 (by decide +kernel) rfl ?_
  refine mk_e (M := mG_34) (i := .iushr) (len := 1) (pc' := 18) (st' := [.int 10, .ref 1]) mJ_34 (by decide +kernel) rfl (fun w7 => ?_)
  refine mk_e (M := mG_34) (i := .i2b) (len := 1) (pc' := 19) (st' := [.int 10, .ref 1]) mJ_34 (by decide +kernel) rfl (fun w8 => ?_)
  refine mk_wa (M := mG_34) (i := .bastore) (len := 1) (f' := (20, [(2, .int 8), (0, .ref 0), (1, .int u1)], [])) (a := 1) (t := 0) (n := 16000) mJ_34 (by decide +kernel) rfl (mh_bas g1 (by decide +kernel)) g1 (fun h5 ys9 lh5 g1 eh5 => ?_)
  have g0 := (eh5 0 (by decide)).trans g0
  have g121 := (eh5 121 (by decide)).trans g121
  have g214 := (eh5 214 (by decide)).trans g214
  have hl := lh5.trans hl
  refine mk_p (M := mG_34) (i := .aload_n 0) (len := 1) (f' := (21, [(2, .int 8), (0, .ref 0), (1, .int u1)], [.ref 0])) mJ_34 (by decide +kernel) rfl ?_
  refine mk_p (M := mG_34) (i := .dup) (len := 1) (f' := (22, [(2, .int 8), (0, .ref 0), (1, .int u1)], [.ref 0, .ref 0])) mJ_34 (by decide +kernel) rfl ?_
  refine mk_h (M := mG_34) (i := .getfield 72) (len := 3) (f' := (25, [(2, .int 8), (0, .ref 0), (1, .int u1)], [.int 10, .ref 0])) (h' := h5) (sl' := sl) mJ_34 (by decide +kernel) rfl (mh_getf (ci := 11) (k := 1) (by decide +kernel) g0 rfl) ?_
  refine mk_v (M := mG_34) (i := .iconst 1) (len := 1) (pc' := 26) (v' := .int 1) (st' := [.int 10, .ref 0]) mJ_34 (by decide +kernel) rfl (by decide +kernel) ?_
  refine mk_v (M := mG_34) (i := .iadd) (len := 1) (pc' := 27) (v' := .int 11) (st' := [.ref 0]) mJ_34 (by decide +kernel) rfl (by decide +kernel) ?_
  refine mk_w (M := mG_34) (i := .putfield 72) (len := 3) (f' := (30, [(2, .int 8), (0, .ref 0), (1, .int u1)], [])) (a := 0) (.inl (11, [.ref 1, .int 11, .int 0, .ref 2, .ref 13, .ref 49, .int 0, .int (-1), .ref 85, .ref 86, .ref 92, .ref 112, .int 0, .ref 113])) mJ_34 (by decide +kernel) rfl (mh_putf (ci := 11) (k := 1) (ty := .int) (by decide +kernel) g0 (Nat.le_of_ble_eq_true rfl) rfl rfl rfl) g0 (fun h6 lh6 g0 eh6 => ?_)
  have g1 := (eh6 1 (by decide)).trans g1
  have g121 := (eh6 121 (by decide)).trans g121
  have g214 := (eh6 214 (by decide)).trans g214
  have hl := lh6.trans hl
  refine mk_i (M := mG_34) (len := 3) (k := 2) (n := (-8)) (x := 8) (y := 0) (lv' := [(2, .int 0), (0, .ref 0), (1, .int u1)]) (pc' := 33) mJ_34 (by decide +kernel) rfl (by decide +kernel) (by decide +kernel) rfl rfl ?_
  refine mk_g (M := mG_34) (len := 3) (off := (-30)) (t := 3) mJ_34 (by decide +kernel) (by decide +kernel) ?_
  refine mk_p (M := mG_34) (i := .iload_n 2) (len := 1) (f' := (4, [(2, .int 0), (0, .ref 0), (1, .int u1)], [.int 0])) mJ_34 (by decide +kernel) rfl ?_
  refine mk_f (M := mG_34) (i := .ifCond .lt 32) (len := 3) (q := decide ((0 : Int32) < (0 : Int32))) (off := 32) (t := 36) (pc' := 7) (st' := []) mJ_34 (by decide +kernel) rfl (by decide +kernel) (by decide +kernel) rfl ?_
  refine mk_p (M := mG_34) (i := .aload_n 0) (len := 1) (f' := (8, [(2, .int 0), (0, .ref 0), (1, .int u1)], [.ref 0])) mJ_34 (by decide +kernel) rfl ?_
  refine mk_h (M := mG_34) (i := .getfield 9) (len := 3) (f' := (11, [(2, .int 0), (0, .ref 0), (1, .int u1)], [.ref 1])) (h' := h6) (sl' := sl) mJ_34 (by decide +kernel) rfl (mh_getf (ci := 11) (k := 0) (by decide +kernel) g0 rfl) ?_
  refine mk_p (M := mG_34) (i := .aload_n 0) (len := 1) (f' := (12, [(2, .int 0), (0, .ref 0), (1, .int u1)], [.ref 0, .ref 1])) mJ_34 (by decide +kernel) rfl ?_
  refine mk_h (M := mG_34) (i := .getfield 72) (len := 3) (f' := (15, [(2, .int 0), (0, .ref 0), (1, .int u1)], [.int 11, .ref 1])) (h' := h6) (sl' := sl) mJ_34 (by decide +kernel) rfl (mh_getf (ci := 11) (k := 1) (by decide +kernel) g0 rfl) ?_
  refine mk_p (M := mG_34) (i := .iload_n 1) (len := 1) (f' := (16, [(2, .int 0), (0, .ref 0), (1, .int u1)], [.int u1, .int 11, .ref 1])) mJ_34 (by decide +kernel) rfl ?_
  refine mk_p (M := mG_34) (i := .iload_n 2) (len := 1) (f' := (17, [(2, .int 0), (0, .ref 0), (1, .int u1)], [.int 0, .int u1, .int 11, .ref 1])) mJ_34 (by decide +kernel) rfl ?_
  refine mk_e (M := mG_34) (i := .iushr) (len := 1) (pc' := 18) (st' := [.int 11, .ref 1]) mJ_34 (by decide +kernel) rfl (fun w10 => ?_)
  refine mk_e (M := mG_34) (i := .i2b) (len := 1) (pc' := 19) (st' := [.int 11, .ref 1]) mJ_34 (by decide +kernel) rfl (fun w11 => ?_)
  refine mk_wa (M := mG_34) (i := .bastore) (len := 1) (f' := (20, [(2, .int 0), (0, .ref 0), (1, .int u1)], [])) (a := 1) (t := 0) (n := 16000) mJ_34 (by decide +kernel) rfl (mh_bas g1 (by decide +kernel)) g1 (fun h7 ys12 lh7 g1 eh7 => ?_)
  have g0 := (eh7 0 (by decide)).trans g0
  have g121 := (eh7 121 (by decide)).trans g121
  have g214 := (eh7 214 (by decide)).trans g214
  have hl := lh7.trans hl
  refine mk_p (M := mG_34) (i := .aload_n 0) (len := 1) (f' := (21, [(2, .int 0), (0, .ref 0), (1, .int u1)], [.ref 0])) mJ_34 (by decide +kernel) rfl ?_
  refine mk_p (M := mG_34) (i := .dup) (len := 1) (f' := (22, [(2, .int 0), (0, .ref 0), (1, .int u1)], [.ref 0, .ref 0])) mJ_34 (by decide +kernel) rfl ?_
  refine mk_h (M := mG_34) (i := .getfield 72) (len := 3) (f' := (25, [(2, .int 0), (0, .ref 0), (1, .int u1)], [.int 11, .ref 0])) (h' := h7) (sl' := sl) mJ_34 (by decide +kernel) rfl (mh_getf (ci := 11) (k := 1) (by decide +kernel) g0 rfl) ?_
  refine mk_v (M := mG_34) (i := .iconst 1) (len := 1) (pc' := 26) (v' := .int 1) (st' := [.int 11, .ref 0]) mJ_34 (by decide +kernel) rfl (by decide +kernel) ?_
  refine mk_v (M := mG_34) (i := .iadd) (len := 1) (pc' := 27) (v' := .int 12) (st' := [.ref 0]) mJ_34 (by decide +kernel) rfl (by decide +kernel) ?_
  refine mk_w (M := mG_34) (i := .putfield 72) (len := 3) (f' := (30, [(2, .int 0), (0, .ref 0), (1, .int u1)], [])) (a := 0) (.inl (11, [.ref 1, .int 12, .int 0, .ref 2, .ref 13, .ref 49, .int 0, .int (-1), .ref 85, .ref 86, .ref 92, .ref 112, .int 0, .ref 113])) mJ_34 (by decide +kernel) rfl (mh_putf (ci := 11) (k := 1) (ty := .int) (by decide +kernel) g0 (Nat.le_of_ble_eq_true rfl) rfl rfl rfl) g0 (fun h8 lh8 g0 eh8 => ?_)
  have g1 := (eh8 1 (by decide)).trans g1
  have g121 := (eh8 121 (by decide)).trans g121
  have g214 := (eh8 214 (by decide)).trans g214
  have hl := lh8.trans hl
  refine mk_i (M := mG_34) (len := 3) (k := 2) (n := (-8)) (x := 0) (y := (-8)) (lv' := [(2, .int (-8)), (0, .ref 0), (1, .int u1)]) (pc' := 33) mJ_34 (by decide +kernel) rfl (by decide +kernel) (by decide +kernel) rfl rfl ?_
  refine mk_g (M := mG_34) (len := 3) (off := (-30)) (t := 3) mJ_34 (by decide +kernel) (by decide +kernel) ?_
  refine mk_p (M := mG_34) (i := .iload_n 2) (len := 1) (f' := (4, [(2, .int (-8)), (0, .ref 0), (1, .int u1)], [.int (-8)])) mJ_34 (by decide +kernel) rfl ?_
  refine mk_t (M := mG_34) (i := .ifCond .lt 32) (len := 3) (q := decide (((-8) : Int32) < (0 : Int32))) (off := 32) (t := 36) (st' := []) mJ_34 (by decide +kernel) rfl (by decide +kernel) (by decide +kernel) ?_
  refine mk_r (M := mG_34) (i := .return_) (len := 1) (r := none) mJ_34 (by decide +kernel) rfl rfl (by decide +kernel) ?_
  exact ⟨rfl, rfl, hl, ys12, xs214, g0, g1, g121, g214⟩
set_option maxRecDepth 20000 in
theorem lwsX11_feedWord_3 {N sl : Nat} {ev : mi_Ev} {h : List mi_C} {xs1 : List Int32} {xs214 : List Int32} (u1 : Int32) (hl : h.length = N) (g0 : h[0]? = some (.inl (11, [.ref 1, .int 12, .int 0, .ref 2, .ref 13, .ref 49, .int 0, .int (-1), .ref 85, .ref 86, .ref 92, .ref 112, .int 0, .ref 113]))) (g1 : h[1]? = some (.inr (0, 16000, .inl xs1))) (g121 : h[121]? = some (.inl (13, [.ref 122, .ref 168, .int 0, .ref 214, .int 0, .int 0, .ref 215, .int 0, .ref 216, .ref 217, .int 0, .int 0, .int (-1), .ref 218, .ref 219, .ref 220, .ref 221, .ref 222, .ref 223, .int 0, .ref 224, .ref 225, .ref 226, .ref 227, .ref 228, .int 0, .ref 229, .ref 230, .ref 231, .ref 232, .ref 233, .ref 234, .ref 235, .ref 236, .ref 237, .ref 238, .int 0, .int 0, .int 0, .int 0, .long 0, .ref 239, .ref 240, .ref 241, .ref 242, .ref 243, .ref 244, .ref 245, .ref 246, .ref 247, .ref 248, .ref 249, .int 0, .int 0, .int 0, .int 0, .int 0, .int 0, .int 0, .int (-1), .int (-1), .int 0, .int 0, .int 0]))) (g214 : h[214]? = some (.inr (0, 16000, .inl xs214))) : mi_ok (fun r h' sl' => r = none ∧ sl = sl' ∧ h'.length = N ∧ ∃ (zs1 : List Int32) (zs214 : List Int32), h'[0]? = some (.inl (11, [.ref 1, .int 16, .int 0, .ref 2, .ref 13, .ref 49, .int 0, .int (-1), .ref 85, .ref 86, .ref 92, .ref 112, .int 0, .ref 113])) ∧ h'[1]? = some (.inr (0, 16000, .inl zs1)) ∧ h'[121]? = some (.inl (13, [.ref 122, .ref 168, .int 0, .ref 214, .int 0, .int 0, .ref 215, .int 0, .ref 216, .ref 217, .int 0, .int 0, .int (-1), .ref 218, .ref 219, .ref 220, .ref 221, .ref 222, .ref 223, .int 0, .ref 224, .ref 225, .ref 226, .ref 227, .ref 228, .int 0, .ref 229, .ref 230, .ref 231, .ref 232, .ref 233, .ref 234, .ref 235, .ref 236, .ref 237, .ref 238, .int 0, .int 0, .int 0, .int 0, .long 0, .ref 239, .ref 240, .ref 241, .ref 242, .ref 243, .ref 244, .ref 245, .ref 246, .ref 247, .ref 248, .ref 249, .int 0, .int 0, .int 0, .int 0, .int 0, .int 0, .int 0, .int (-1), .int (-1), .int 0, .int 0, .int 0])) ∧ h'[214]? = some (.inr (0, 16000, .inl zs214))) mi_Γ ev 34 (0, [(0, .ref 0), (1, .int u1)], []) h sl := by
  refine mk_v (M := mG_34) (i := .bipush 24) (len := 2) (pc' := 2) (v' := .int 24) (st' := []) mJ_34 (by decide +kernel) rfl (by decide +kernel) ?_
  refine mk_p (M := mG_34) (i := .istore_n 2) (len := 1) (f' := (3, [(2, .int 24), (0, .ref 0), (1, .int u1)], [])) mJ_34 (by decide +kernel) rfl ?_
  refine mk_p (M := mG_34) (i := .iload_n 2) (len := 1) (f' := (4, [(2, .int 24), (0, .ref 0), (1, .int u1)], [.int 24])) mJ_34 (by decide +kernel) rfl ?_
  refine mk_f (M := mG_34) (i := .ifCond .lt 32) (len := 3) (q := decide ((24 : Int32) < (0 : Int32))) (off := 32) (t := 36) (pc' := 7) (st' := []) mJ_34 (by decide +kernel) rfl (by decide +kernel) (by decide +kernel) rfl ?_
  refine mk_p (M := mG_34) (i := .aload_n 0) (len := 1) (f' := (8, [(2, .int 24), (0, .ref 0), (1, .int u1)], [.ref 0])) mJ_34 (by decide +kernel) rfl ?_
  refine mk_h (M := mG_34) (i := .getfield 9) (len := 3) (f' := (11, [(2, .int 24), (0, .ref 0), (1, .int u1)], [.ref 1])) (h' := h) (sl' := sl) mJ_34 (by decide +kernel) rfl (mh_getf (ci := 11) (k := 0) (by decide +kernel) g0 rfl) ?_
  refine mk_p (M := mG_34) (i := .aload_n 0) (len := 1) (f' := (12, [(2, .int 24), (0, .ref 0), (1, .int u1)], [.ref 0, .ref 1])) mJ_34 (by decide +kernel) rfl ?_
  refine mk_h (M := mG_34) (i := .getfield 72) (len := 3) (f' := (15, [(2, .int 24), (0, .ref 0), (1, .int u1)], [.int 12, .ref 1])) (h' := h) (sl' := sl) mJ_34 (by decide +kernel) rfl (mh_getf (ci := 11) (k := 1) (by decide +kernel) g0 rfl) ?_
  refine mk_p (M := mG_34) (i := .iload_n 1) (len := 1) (f' := (16, [(2, .int 24), (0, .ref 0), (1, .int u1)], [.int u1, .int 12, .ref 1])) mJ_34 (by decide +kernel) rfl ?_
  refine mk_p (M := mG_34) (i := .iload_n 2) (len := 1) (f' := (17, [(2, .int 24), (0, .ref 0), (1, .int u1)], [.int 24, .int u1, .int 12, .ref 1])) mJ_34 (by decide +kernel) rfl ?_
  refine mk_e (M := mG_34) (i := .iushr) (len := 1) (pc' := 18) (st' := [.int 12, .ref 1]) mJ_34 (by decide +kernel) rfl (fun w1 => ?_)
  refine mk_e (M := mG_34) (i := .i2b) (len := 1) (pc' := 19) (st' := [.int 12, .ref 1]) mJ_34 (by decide +kernel) rfl (fun w2 => ?_)
  refine mk_wa (M := mG_34) (i := .bastore) (len := 1) (f' := (20, [(2, .int 24), (0, .ref 0), (1, .int u1)], [])) (a := 1) (t := 0) (n := 16000) mJ_34 (by decide +kernel) rfl (mh_bas g1 (by decide +kernel)) g1 (fun h1 ys3 lh1 g1 eh1 => ?_)
  have g0 := (eh1 0 (by decide)).trans g0
  have g121 := (eh1 121 (by decide)).trans g121
  have g214 := (eh1 214 (by decide)).trans g214
  have hl := lh1.trans hl
  refine mk_p (M := mG_34) (i := .aload_n 0) (len := 1) (f' := (21, [(2, .int 24), (0, .ref 0), (1, .int u1)], [.ref 0])) mJ_34 (by decide +kernel) rfl ?_
  refine mk_p (M := mG_34) (i := .dup) (len := 1) (f' := (22, [(2, .int 24), (0, .ref 0), (1, .int u1)], [.ref 0, .ref 0])) mJ_34 (by decide +kernel) rfl ?_
  refine mk_h (M := mG_34) (i := .getfield 72) (len := 3) (f' := (25, [(2, .int 24), (0, .ref 0), (1, .int u1)], [.int 12, .ref 0])) (h' := h1) (sl' := sl) mJ_34 (by decide +kernel) rfl (mh_getf (ci := 11) (k := 1) (by decide +kernel) g0 rfl) ?_
  refine mk_v (M := mG_34) (i := .iconst 1) (len := 1) (pc' := 26) (v' := .int 1) (st' := [.int 12, .ref 0]) mJ_34 (by decide +kernel) rfl (by decide +kernel) ?_
  refine mk_v (M := mG_34) (i := .iadd) (len := 1) (pc' := 27) (v' := .int 13) (st' := [.ref 0]) mJ_34 (by decide +kernel) rfl (by decide +kernel) ?_
  refine mk_w (M := mG_34) (i := .putfield 72) (len := 3) (f' := (30, [(2, .int 24), (0, .ref 0), (1, .int u1)], [])) (a := 0) (.inl (11, [.ref 1, .int 13, .int 0, .ref 2, .ref 13, .ref 49, .int 0, .int (-1), .ref 85, .ref 86, .ref 92, .ref 112, .int 0, .ref 113])) mJ_34 (by decide +kernel) rfl (mh_putf (ci := 11) (k := 1) (ty := .int) (by decide +kernel) g0 (Nat.le_of_ble_eq_true rfl) rfl rfl rfl) g0 (fun h2 lh2 g0 eh2 => ?_)
  have g1 := (eh2 1 (by decide)).trans g1
  have g121 := (eh2 121 (by decide)).trans g121
  have g214 := (eh2 214 (by decide)).trans g214
  have hl := lh2.trans hl
  refine mk_i (M := mG_34) (len := 3) (k := 2) (n := (-8)) (x := 24) (y := 16) (lv' := [(2, .int 16), (0, .ref 0), (1, .int u1)]) (pc' := 33) mJ_34 (by decide +kernel) rfl (by decide +kernel) (by decide +kernel) rfl rfl ?_
  refine mk_g (M := mG_34) (len := 3) (off := (-30)) (t := 3) mJ_34 (by decide +kernel) (by decide +kernel) ?_
  refine mk_p (M := mG_34) (i := .iload_n 2) (len := 1) (f' := (4, [(2, .int 16), (0, .ref 0), (1, .int u1)], [.int 16])) mJ_34 (by decide +kernel) rfl ?_
  refine mk_f (M := mG_34) (i := .ifCond .lt 32) (len := 3) (q := decide ((16 : Int32) < (0 : Int32))) (off := 32) (t := 36) (pc' := 7) (st' := []) mJ_34 (by decide +kernel) rfl (by decide +kernel) (by decide +kernel) rfl ?_
  refine mk_p (M := mG_34) (i := .aload_n 0) (len := 1) (f' := (8, [(2, .int 16), (0, .ref 0), (1, .int u1)], [.ref 0])) mJ_34 (by decide +kernel) rfl ?_
  refine mk_h (M := mG_34) (i := .getfield 9) (len := 3) (f' := (11, [(2, .int 16), (0, .ref 0), (1, .int u1)], [.ref 1])) (h' := h2) (sl' := sl) mJ_34 (by decide +kernel) rfl (mh_getf (ci := 11) (k := 0) (by decide +kernel) g0 rfl) ?_
  refine mk_p (M := mG_34) (i := .aload_n 0) (len := 1) (f' := (12, [(2, .int 16), (0, .ref 0), (1, .int u1)], [.ref 0, .ref 1])) mJ_34 (by decide +kernel) rfl ?_
  refine mk_h (M := mG_34) (i := .getfield 72) (len := 3) (f' := (15, [(2, .int 16), (0, .ref 0), (1, .int u1)], [.int 13, .ref 1])) (h' := h2) (sl' := sl) mJ_34 (by decide +kernel) rfl (mh_getf (ci := 11) (k := 1) (by decide +kernel) g0 rfl) ?_
  refine mk_p (M := mG_34) (i := .iload_n 1) (len := 1) (f' := (16, [(2, .int 16), (0, .ref 0), (1, .int u1)], [.int u1, .int 13, .ref 1])) mJ_34 (by decide +kernel) rfl ?_
  refine mk_p (M := mG_34) (i := .iload_n 2) (len := 1) (f' := (17, [(2, .int 16), (0, .ref 0), (1, .int u1)], [.int 16, .int u1, .int 13, .ref 1])) mJ_34 (by decide +kernel) rfl ?_
  refine mk_e (M := mG_34) (i := .iushr) (len := 1) (pc' := 18) (st' := [.int 13, .ref 1]) mJ_34 (by decide +kernel) rfl (fun w4 => ?_)
  refine mk_e (M := mG_34) (i := .i2b) (len := 1) (pc' := 19) (st' := [.int 13, .ref 1]) mJ_34 (by decide +kernel) rfl (fun w5 => ?_)
  refine mk_wa (M := mG_34) (i := .bastore) (len := 1) (f' := (20, [(2, .int 16), (0, .ref 0), (1, .int u1)], [])) (a := 1) (t := 0) (n := 16000) mJ_34 (by decide +kernel) rfl (mh_bas g1 (by decide +kernel)) g1 (fun h3 ys6 lh3 g1 eh3 => ?_)
  have g0 := (eh3 0 (by decide)).trans g0
  have g121 := (eh3 121 (by decide)).trans g121
  have g214 := (eh3 214 (by decide)).trans g214
  have hl := lh3.trans hl
  refine mk_p (M := mG_34) (i := .aload_n 0) (len := 1) (f' := (21, [(2, .int 16), (0, .ref 0), (1, .int u1)], [.ref 0])) mJ_34 (by decide +kernel) rfl ?_
  refine mk_p (M := mG_34) (i := .dup) (len := 1) (f' := (22, [(2, .int 16), (0, .ref 0), (1, .int u1)], [.ref 0, .ref 0])) mJ_34 (by decide +kernel) rfl ?_
  refine mk_h (M := mG_34) (i := .getfield 72) (len := 3) (f' := (25, [(2, .int 16), (0, .ref 0), (1, .int u1)], [.int 13, .ref 0])) (h' := h3) (sl' := sl) mJ_34 (by decide +kernel) rfl (mh_getf (ci := 11) (k := 1) (by decide +kernel) g0 rfl) ?_
  refine mk_v (M := mG_34) (i := .iconst 1) (len := 1) (pc' := 26) (v' := .int 1) (st' := [.int 13, .ref 0]) mJ_34 (by decide +kernel) rfl (by decide +kernel) ?_
  refine mk_v (M := mG_34) (i := .iadd) (len := 1) (pc' := 27) (v' := .int 14) (st' := [.ref 0]) mJ_34 (by decide +kernel) rfl (by decide +kernel) ?_
  refine mk_w (M := mG_34) (i := .putfield 72) (len := 3) (f' := (30, [(2, .int 16), (0, .ref 0), (1, .int u1)], [])) (a := 0) (.inl (11, [.ref 1, .int 14, .int 0, .ref 2, .ref 13, .ref 49, .int 0, .int (-1), .ref 85, .ref 86, .ref 92, .ref 112, .int 0, .ref 113])) mJ_34 (by decide +kernel) rfl (mh_putf (ci := 11) (k := 1) (ty := .int) (by decide +kernel) g0 (Nat.le_of_ble_eq_true rfl) rfl rfl rfl) g0 (fun h4 lh4 g0 eh4 => ?_)
  have g1 := (eh4 1 (by decide)).trans g1
  have g121 := (eh4 121 (by decide)).trans g121
  have g214 := (eh4 214 (by decide)).trans g214
  have hl := lh4.trans hl
  refine mk_i (M := mG_34) (len := 3) (k := 2) (n := (-8)) (x := 16) (y := 8) (lv' := [(2, .int 8), (0, .ref 0), (1, .int u1)]) (pc' := 33) mJ_34 (by decide +kernel) rfl (by decide +kernel) (by decide +kernel) rfl rfl ?_
  refine mk_g (M := mG_34) (len := 3) (off := (-30)) (t := 3) mJ_34 (by decide +kernel) (by decide +kernel) ?_
  refine mk_p (M := mG_34) (i := .iload_n 2) (len := 1) (f' := (4, [(2, .int 8), (0, .ref 0), (1, .int u1)], [.int 8])) mJ_34 (by decide +kernel) rfl ?_
  refine mk_f (M := mG_34) (i := .ifCond .lt 32) (len := 3) (q := decide ((8 : Int32) < (0 : Int32))) (off := 32) (t := 36) (pc' := 7) (st' := []) mJ_34 (by decide +kernel) rfl (by decide +kernel) (by decide +kernel) rfl ?_
  refine mk_p (M := mG_34) (i := .aload_n 0) (len := 1) (f' := (8, [(2, .int 8), (0, .ref 0), (1, .int u1)], [.ref 0])) mJ_34 (by decide +kernel) rfl ?_
  refine mk_h (M := mG_34) (i := .getfield 9) (len := 3) (f' := (11, [(2, .int 8), (0, .ref 0), (1, .int u1)], [.ref 1])) (h' := h4) (sl' := sl) mJ_34 (by decide +kernel) rfl (mh_getf (ci := 11) (k := 0) (by decide +kernel) g0 rfl) ?_
  refine mk_p (M := mG_34) (i := .aload_n 0) (len := 1) (f' := (12, [(2, .int 8), (0, .ref 0), (1, .int u1)], [.ref 0, .ref 1])) mJ_34 (by decide +kernel) rfl ?_
  refine mk_h (M := mG_34) (i := .getfield 72) (len := 3) (f' := (15, [(2, .int 8), (0, .ref 0), (1, .int u1)], [.int 14, .ref 1])) (h' := h4) (sl' := sl) mJ_34 (by decide +kernel) rfl (mh_getf (ci := 11) (k := 1) (by decide +kernel) g0 rfl) ?_
  refine mk_p (M := mG_34) (i := .iload_n 1) (len := 1) (f' := (16, [(2, .int 8), (0, .ref 0), (1, .int u1)], [.int u1, .int 14, .ref 1])) mJ_34 (by decide +kernel) rfl ?_
  refine mk_p (M := mG_34) (i := .iload_n 2) (len := 1) (f' := (17, [(2, .int 8), (0, .ref 0), (1, .int u1)], [.int 8, .int u1, .int 14, .ref 1])) mJ_34 (by decide +kernel) rfl ?_
  refine mk_e (M := mG_34) (i := .iushr) (len := 1) (pc' := 18) (st' := [.int 14, .ref 1]) mJ_34 (by decide +kernel) rfl (fun w7 => ?_)
  refine mk_e (M := mG_34) (i := .i2b) (len := 1) (pc' := 19) (st' := [.int 14, .ref 1]) mJ_34 (by decide +kernel) rfl (fun w8 => ?_)
  refine mk_wa (M := mG_34) (i := .bastore) (len := 1) (f' := (20, [(2, .int 8), (0, .ref 0), (1, .int u1)], [])) (a := 1) (t := 0) (n := 16000) mJ_34 (by decide +kernel) rfl (mh_bas g1 (by decide +kernel)) g1 (fun h5 ys9 lh5 g1 eh5 => ?_)
  have g0 := (eh5 0 (by decide)).trans g0
  have g121 := (eh5 121 (by decide)).trans g121
  have g214 := (eh5 214 (by decide)).trans g214
  have hl := lh5.trans hl
  refine mk_p (M := mG_34) (i := .aload_n 0) (len := 1) (f' := (21, [(2, .int 8), (0, .ref 0), (1, .int u1)], [.ref 0])) mJ_34 (by decide +kernel) rfl ?_
  refine mk_p (M := mG_34) (i := .dup) (len := 1) (f' := (22, [(2, .int 8), (0, .ref 0), (1, .int u1)], [.ref 0, .ref 0])) mJ_34 (by decide +kernel) rfl ?_
  refine mk_h (M := mG_34) (i := .getfield 72) (len := 3) (f' := (25, [(2, .int 8), (0, .ref 0), (1, .int u1)], [.int 14, .ref 0])) (h' := h5) (sl' := sl) mJ_34 (by decide +kernel) rfl (mh_getf (ci := 11) (k := 1) (by decide +kernel) g0 rfl) ?_
  refine mk_v (M := mG_34) (i := .iconst 1) (len := 1) (pc' := 26) (v' := .int 1) (st' := [.int 14, .ref 0]) mJ_34 (by decide +kernel) rfl (by decide +kernel) ?_
  refine mk_v (M := mG_34) (i := .iadd) (len := 1) (pc' := 27) (v' := .int 15) (st' := [.ref 0]) mJ_34 (by decide +kernel) rfl (by decide +kernel) ?_
  refine mk_w (M := mG_34) (i := .putfield 72) (len := 3) (f' := (30, [(2, .int 8), (0, .ref 0), (1, .int u1)], [])) (a := 0) (.inl (11, [.ref 1, .int 15, .int 0, .ref 2, .ref 13, .ref 49, .int 0, .int (-1), .ref 85, .ref 86, .ref 92, .ref 112, .int 0, .ref 113])) mJ_34 (by decide +kernel) rfl (mh_putf (ci := 11) (k := 1) (ty := .int) (by decide +kernel) g0 (Nat.le_of_ble_eq_true rfl) rfl rfl rfl) g0 (fun h6 lh6 g0 eh6 => ?_)
  have g1 := (eh6 1 (by decide)).trans g1
  have g121 := (eh6 121 (by decide)).trans g121
  have g214 := (eh6 214 (by decide)).trans g214
  have hl := lh6.trans hl
  refine mk_i (M := mG_34) (len := 3) (k := 2) (n := (-8)) (x := 8) (y := 0) (lv' := [(2, .int 0), (0, .ref 0), (1, .int u1)]) (pc' := 33) mJ_34 (by decide +kernel) rfl (by decide +kernel) (by decide +kernel) rfl rfl ?_
  refine mk_g (M := mG_34) (len := 3) (off := (-30)) (t := 3) mJ_34 (by decide +kernel) (by decide +kernel) ?_
  refine mk_p (M := mG_34) (i := .iload_n 2) (len := 1) (f' := (4, [(2, .int 0), (0, .ref 0), (1, .int u1)], [.int 0])) mJ_34 (by decide +kernel) rfl ?_
  refine mk_f (M := mG_34) (i := .ifCond .lt 32) (len := 3) (q := decide ((0 : Int32) < (0 : Int32))) (off := 32) (t := 36) (pc' := 7) (st' := []) mJ_34 (by decide +kernel) rfl (by decide +kernel) (by decide +kernel) rfl ?_
  refine mk_p (M := mG_34) (i := .aload_n 0) (len := 1) (f' := (8, [(2, .int 0), (0, .ref 0), (1, .int u1)], [.ref 0])) mJ_34 (by decide +kernel) rfl ?_
  refine mk_h (M := mG_34) (i := .getfield 9) (len := 3) (f' := (11, [(2, .int 0), (0, .ref 0), (1, .int u1)], [.ref 1])) (h' := h6) (sl' := sl) mJ_34 (by decide +kernel) rfl (mh_getf (ci := 11) (k := 0) (by decide +kernel) g0 rfl) ?_
  refine mk_p (M := mG_34) (i := .aload_n 0) (len := 1) (f' := (12, [(2, .int 0), (0, .ref 0), (1, .int u1)], [.ref 0, .ref 1])) mJ_34 (by decide +kernel) rfl ?_
  refine mk_h (M := mG_34) (i := .getfield 72) (len := 3) (f' := (15, [(2, .int 0), (0, .ref 0), (1, .int u1)], [.int 15, .ref 1])) (h' := h6) (sl' := sl) mJ_34 (by decide +kernel) rfl (mh_getf (ci := 11) (k := 1) (by decide +kernel) g0 rfl) ?_
  refine mk_p (M := mG_34) (i := .iload_n 1) (len := 1) (f' := (16, [(2, .int 0), (0, .ref 0), (1, .int u1)], [.int u1, .int 15, .ref 1])) mJ_34 (by decide +kernel) rfl ?_
  refine mk_p (M := mG_34) (i := .iload_n 2) (len := 1) (f' := (17, [(2, .int 0), (0, .ref 0), (1, .int u1)], [.int 0, .int u1, .int 15, .ref 1])) mJ_34 (by decide +kernel) rfl ?_
  refine mk_e (M := mG_34) (i := .iushr) (len := 1) (pc' := 18) (st' := [.int 15, .ref 1]) mJ_34 (by decide +kernel) rfl (fun w10 => ?_)
  refine mk_e (M := mG_34) (i := .i2b) (len := 1) (pc' := 19) (st' := [.int 15, .ref 1]) mJ_34 (by decide +kernel) rfl (fun w11 => ?_)
  refine mk_wa (M := mG_34) (i := .bastore) (len := 1) (f' := (20, [(2, .int 0), (0, .ref 0), (1, .int u1)], [])) (a := 1) (t := 0) (n := 16000) mJ_34 (by decide +kernel) rfl (mh_bas g1 (by decide +kernel)) g1 (fun h7 ys12 lh7 g1 eh7 => ?_)
  have g0 := (eh7 0 (by decide)).trans g0
  have g121 := (eh7 121 (by decide)).trans g121
  have g214 := (eh7 214 (by decide)).trans g214
  have hl := lh7.trans hl
  refine mk_p (M := mG_34) (i := .aload_n 0) (len := 1) (f' := (21, [(2, .int 0), (0, .ref 0), (1, .int u1)], [.ref 0])) mJ_34 (by decide +kernel) rfl ?_
  refine mk_p (M := mG_34) (i := .dup) (len := 1) (f' := (22, [(2, .int 0), (0, .ref 0), (1, .int u1)], [.ref 0, .ref 0])) mJ_34 (by decide +kernel) rfl ?_
  refine mk_h (M := mG_34) (i := .getfield 72) (len := 3) (f' := (25, [(2, .int 0), (0, .ref 0), (1, .int u1)], [.int 15, .ref 0])) (h' := h7) (sl' := sl) mJ_34 (by decide +kernel) rfl (mh_getf (ci := 11) (k := 1) (by decide +kernel) g0 rfl) ?_
  refine mk_v (M := mG_34) (i := .iconst 1) (len := 1) (pc' := 26) (v' := .int 1) (st' := [.int 15, .ref 0]) mJ_34 (by decide +kernel) rfl (by decide +kernel) ?_
  refine mk_v (M := mG_34) (i := .iadd) (len := 1) (pc' := 27) (v' := .int 16) (st' := [.ref 0]) mJ_34 (by decide +kernel) rfl (by decide +kernel) ?_
  refine mk_w (M := mG_34) (i := .putfield 72) (len := 3) (f' := (30, [(2, .int 0), (0, .ref 0), (1, .int u1)], [])) (a := 0) (.inl (11, [.ref 1, .int 16, .int 0, .ref 2, .ref 13, .ref 49, .int 0, .int (-1), .ref 85, .ref 86, .ref 92, .ref 112, .int 0, .ref 113])) mJ_34 (by decide +kernel) rfl (mh_putf (ci := 11) (k := 1) (ty := .int) (by decide +kernel) g0 (Nat.le_of_ble_eq_true rfl) rfl rfl rfl) g0 (fun h8 lh8 g0 eh8 => ?_)
  have g1 := (eh8 1 (by decide)).trans g1
  have g121 := (eh8 121 (by decide)).trans g121
  have g214 := (eh8 214 (by decide)).trans g214
  have hl := lh8.trans hl
  refine mk_i (M := mG_34) (len := 3) (k := 2) (n := (-8)) (x := 0) (y := (-8)) (lv' := [(2, .int (-8)), (0, .ref 0), (1, .int u1)]) (pc' := 33) mJ_34 (by decide +kernel) rfl (by decide +kernel) (by decide +kernel) rfl rfl ?_
  refine mk_g (M := mG_34) (len := 3) (off := (-30)) (t := 3) mJ_34 (by decide +kernel) (by decide +kernel) ?_
  refine mk_p (M := mG_34) (i := .iload_n 2) (len := 1) (f' := (4, [(2, .int (-8)), (0, .ref 0), (1, .int u1)], [.int (-8)])) mJ_34 (by decide +kernel) rfl ?_
  refine mk_t (M := mG_34) (i := .ifCond .lt 32) (len := 3) (q := decide (((-8) : Int32) < (0 : Int32))) (off := 32) (t := 36) (st' := []) mJ_34 (by decide +kernel) rfl (by decide +kernel) (by decide +kernel) ?_
  refine mk_r (M := mG_34) (i := .return_) (len := 1) (r := none) mJ_34 (by decide +kernel) rfl rfl (by decide +kernel) ?_
  exact ⟨rfl, rfl, hl, ys12, xs214, g0, g1, g121, g214⟩
