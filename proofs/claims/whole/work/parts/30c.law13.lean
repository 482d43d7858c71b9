/-! The law, one call. -/
set_option maxRecDepth 20000 in
theorem lwsX13_word_10 {N sl : Nat} {ev : mi_Ev} {h : List mi_C} {xs1 : List Int32} {xs214 : List Int32} (u1 : Int32) (hl : h.length = N) (g0 : h[0]? = some (.inl (11, [.ref 1, .int 20, .int 20, .ref 2, .ref 13, .ref 49, .int 0, .int (-1), .ref 85, .ref 86, .ref 92, .ref 112, .int 0, .ref 113]))) (g1 : h[1]? = some (.inr (0, 16000, .inl xs1))) (g121 : h[121]? = some (.inl (13, [.ref 122, .ref 168, .int 0, .ref 214, .int 16, .int 0, .ref 215, .int 0, .ref 216, .ref 217, .int 0, .int 0, .int (-1), .ref 218, .ref 219, .ref 220, .ref 221, .ref 222, .ref 223, .int 0, .ref 224, .ref 225, .ref 226, .ref 227, .ref 228, .int 0, .ref 229, .ref 230, .ref 231, .ref 232, .ref 233, .ref 234, .ref 235, .ref 236, .ref 237, .ref 238, .int 0, .int 0, .int 0, .int 0, .long 0, .ref 239, .ref 240, .ref 241, .ref 242, .ref 243, .ref 244, .ref 245, .ref 246, .ref 247, .ref 248, .ref 249, .int 0, .int 0, .int 0, .int 0, .int 0, .int 0, .int 0, .int (-1), .int (-1), .int 0, .int 0, .int 0]))) (g214 : h[214]? = some (.inr (0, 16000, .inl xs214))) : mi_ok (fun r h' sl' => r = none ∧ sl = sl' ∧ h'.length = N ∧ ∃ (zs1 : List Int32) (zs214 : List Int32), h'[0]? = some (.inl (11, [.ref 1, .int 20, .int 20, .ref 2, .ref 13, .ref 49, .int 0, .int (-1), .ref 85, .ref 86, .ref 92, .ref 112, .int 0, .ref 113])) ∧ h'[1]? = some (.inr (0, 16000, .inl zs1)) ∧ h'[121]? = some (.inl (13, [.ref 122, .ref 168, .int 0, .ref 214, .int 20, .int 0, .ref 215, .int 0, .ref 216, .ref 217, .int 0, .int 0, .int (-1), .ref 218, .ref 219, .ref 220, .ref 221, .ref 222, .ref 223, .int 0, .ref 224, .ref 225, .ref 226, .ref 227, .ref 228, .int 0, .ref 229, .ref 230, .ref 231, .ref 232, .ref 233, .ref 234, .ref 235, .ref 236, .ref 237, .ref 238, .int 0, .int 0, .int 0, .int 0, .long 0, .ref 239, .ref 240, .ref 241, .ref 242, .ref 243, .ref 244, .ref 245, .ref 246, .ref 247, .ref 248, .ref 249, .int 0, .int 0, .int 0, .int 0, .int 0, .int 0, .int 0, .int (-1), .int (-1), .int 0, .int 0, .int 0])) ∧ h'[214]? = some (.inr (0, 16000, .inl zs214))) mi_Γ ev 87 (0, [(0, .ref 121), (1, .int u1)], []) h sl := by
  refine mk_v (M := mG_87) (i := .iconst 3) (len := 1) (pc' := 1) (v' := .int 3) (st' := []) mJ_87 (by decide +kernel) rfl (by decide +kernel) ?_
  refine mk_p (M := mG_87) (i := .istore_n 2) (len := 1) (f' := (2, [(2, .int 3), (0, .ref 121), (1, .int u1)], [])) mJ_87 (by decide +kernel) rfl ?_
  refine mk_p (M := mG_87) (i := .iload_n 2) (len := 1) (f' := (3, [(2, .int 3), (0, .ref 121), (1, .int u1)], [.int 3])) mJ_87 (by decide +kernel) rfl ?_
  refine mk_f (M := mG_87) (i := .ifCond .lt 35) (len := 3) (q := decide ((3 : Int32) < (0 : Int32))) (off := 35) (t := 38) (pc' := 6) (st' := []) mJ_87 (by decide +kernel) rfl (by decide +kernel) (by decide +kernel) rfl ?_
  refine mk_p (M := mG_87) (i := .aload_n 0) (len := 1) (f' := (7, [(2, .int 3), (0, .ref 121), (1, .int u1)], [.ref 121])) mJ_87 (by decide +kernel) rfl ?_
  refine mk_h (M := mG_87) (i := .getfield 19) (len := 3) (f' := (10, [(2, .int 3), (0, .ref 121), (1, .int u1)], [.ref 214])) (h' := h) (sl' := sl) mJ_87 (by decide +kernel) rfl (mh_getf (ci := 13) (k := 3) (by decide +kernel) g121 rfl) ?_
  refine mk_p (M := mG_87) (i := .aload_n 0) (len := 1) (f' := (11, [(2, .int 3), (0, .ref 121), (1, .int u1)], [.ref 121, .ref 214])) mJ_87 (by decide +kernel) rfl ?_
  refine mk_h (M := mG_87) (i := .getfield 141) (len := 3) (f' := (14, [(2, .int 3), (0, .ref 121), (1, .int u1)], [.int 16, .ref 214])) (h' := h) (sl' := sl) mJ_87 (by decide +kernel) rfl (mh_getf (ci := 13) (k := 4) (by decide +kernel) g121 rfl) ?_
  refine mk_p (M := mG_87) (i := .iload_n 1) (len := 1) (f' := (15, [(2, .int 3), (0, .ref 121), (1, .int u1)], [.int u1, .int 16, .ref 214])) mJ_87 (by decide +kernel) rfl ?_
  refine mk_v (M := mG_87) (i := .bipush 8) (len := 2) (pc' := 17) (v' := .int 8) (st' := [.int u1, .int 16, .ref 214]) mJ_87 (by decide +kernel) rfl (by decide +kernel) ?_
  refine mk_p (M := mG_87) (i := .iload_n 2) (len := 1) (f' := (18, [(2, .int 3), (0, .ref 121), (1, .int u1)], [.int 3, .int 8, .int u1, .int 16, .ref 214])) mJ_87 (by decide +kernel) rfl ?_
  refine mk_v (M := mG_87) (i := .imul) (len := 1) (pc' := 19) (v' := .int 24) (st' := [.int u1, .int 16, .ref 214]) mJ_87 (by decide +kernel) rfl (by decide +kernel) ?_
  refine mk_e (M := mG_87) (i := .ishr) (len := 1) (pc' := 20) (st' := [.int 16, .ref 214]) mJ_87 (by decide +kernel) rfl (fun w1 => ?_)
  refine mk_e (M := mG_87) (i := .i2b) (len := 1) (pc' := 21) (st' := [.int 16, .ref 214]) mJ_87 (by decide +kernel) rfl (fun w2 => ?_)
  refine mk_wa (M := mG_87) (i := .bastore) (len := 1) (f' := (22, [(2, .int 3), (0, .ref 121), (1, .int u1)], [])) (a := 214) (t := 0) (n := 16000) mJ_87 (by decide +kernel) rfl (mh_bas g214 (by decide +kernel)) g214 (fun h1 ys3 lh1 g214 eh1 => ?_)
  have g0 := (eh1 0 (by decide)).trans g0
  have g1 := (eh1 1 (by decide)).trans g1
  have g121 := (eh1 121 (by decide)).trans g121
  have hl := lh1.trans hl
  refine mk_p (M := mG_87) (i := .aload_n 0) (len := 1) (f' := (23, [(2, .int 3), (0, .ref 121), (1, .int u1)], [.ref 121])) mJ_87 (by decide +kernel) rfl ?_
  refine mk_p (M := mG_87) (i := .dup) (len := 1) (f' := (24, [(2, .int 3), (0, .ref 121), (1, .int u1)], [.ref 121, .ref 121])) mJ_87 (by decide +kernel) rfl ?_
  refine mk_h (M := mG_87) (i := .getfield 141) (len := 3) (f' := (27, [(2, .int 3), (0, .ref 121), (1, .int u1)], [.int 16, .ref 121])) (h' := h1) (sl' := sl) mJ_87 (by decide +kernel) rfl (mh_getf (ci := 13) (k := 4) (by decide +kernel) g121 rfl) ?_
  refine mk_v (M := mG_87) (i := .iconst 1) (len := 1) (pc' := 28) (v' := .int 1) (st' := [.int 16, .ref 121]) mJ_87 (by decide +kernel) rfl (by decide +kernel) ?_
  refine mk_v (M := mG_87) (i := .iadd) (len := 1) (pc' := 29) (v' := .int 17) (st' := [.ref 121]) mJ_87 (by decide +kernel) rfl (by decide +kernel) ?_
  refine mk_w (M := mG_87) (i := .putfield 141) (len := 3) (f' := (32, [(2, .int 3), (0, .ref 121), (1, .int u1)], [])) (a := 121) (.inl (13, [.ref 122, .ref 168, .int 0, .ref 214, .int 17, .int 0, .ref 215, .int 0, .ref 216, .ref 217, .int 0, .int 0, .int (-1), .ref 218, .ref 219, .ref 220, .ref 221, .ref 222, .ref 223, .int 0, .ref 224, .ref 225, .ref 226, .ref 227, .ref 228, .int 0, .ref 229, .ref 230, .ref 231, .ref 232, .ref 233, .ref 234, .ref 235, .ref 236, .ref 237, .ref 238, .int 0, .int 0, .int 0, .int 0, .long 0, .ref 239, .ref 240, .ref 241, .ref 242, .ref 243, .ref 244, .ref 245, .ref 246, .ref 247, .ref 248, .ref 249, .int 0, .int 0, .int 0, .int 0, .int 0, .int 0, .int 0, .int (-1), .int (-1), .int 0, .int 0, .int 0])) mJ_87 (by decide +kernel) rfl (mh_putf (ci := 13) (k := 4) (ty := .int) (by decide +kernel) g121 (Nat.le_of_ble_eq_true rfl) rfl rfl rfl) g121 (fun h2 lh2 g121 eh2 => ?_)
  have g0 := (eh2 0 (by decide)).trans g0
  have g1 := (eh2 1 (by decide)).trans g1
  have g214 := (eh2 214 (by decide)).trans g214
  have hl := lh2.trans hl
  refine mk_i (M := mG_87) (len := 3) (k := 2) (n := (-1)) (x := 3) (y := 2) (lv' := [(2, .int 2), (0, .ref 121), (1, .int u1)]) (pc' := 35) mJ_87 (by decide +kernel) rfl (by decide +kernel) (by decide +kernel) rfl rfl ?_
  refine mk_g (M := mG_87) (len := 3) (off := (-33)) (t := 2) mJ_87 (by decide +kernel) (by decide +kernel) ?_
  refine mk_p (M := mG_87) (i := .iload_n 2) (len := 1) (f' := (3, [(2, .int 2), (0, .ref 121), (1, .int u1)], [.int 2])) mJ_87 (by decide +kernel) rfl ?_
  refine mk_f (M := mG_87) (i := .ifCond .lt 35) (len := 3) (q := decide ((2 : Int32) < (0 : Int32))) (off := 35) (t := 38) (pc' := 6) (st' := []) mJ_87 (by decide +kernel) rfl (by decide +kernel) (by decide +kernel) rfl ?_
  refine mk_p (M := mG_87) (i := .aload_n 0) (len := 1) (f' := (7, [(2, .int 2), (0, .ref 121), (1, .int u1)], [.ref 121])) mJ_87 (by decide +kernel) rfl ?_
  refine mk_h (M := mG_87) (i := .getfield 19) (len := 3) (f' := (10, [(2, .int 2), (0, .ref 121), (1, .int u1)], [.ref 214])) (h' := h2) (sl' := sl) mJ_87 (by decide +kernel) rfl (mh_getf (ci := 13) (k := 3) (by decide +kernel) g121 rfl) ?_
  refine mk_p (M := mG_87) (i := .aload_n 0) (len := 1) (f' := (11, [(2, .int 2), (0, .ref 121), (1, .int u1)], [.ref 121, .ref 214])) mJ_87 (by decide +kernel) rfl ?_
  refine mk_h (M := mG_87) (i := .getfield 141) (len := 3) (f' := (14, [(2, .int 2), (0, .ref 121), (1, .int u1)], [.int 17, .ref 214])) (h' := h2) (sl' := sl) mJ_87 (by decide +kernel) rfl (mh_getf (ci := 13) (k := 4) (by decide +kernel) g121 rfl) ?_
  refine mk_p (M := mG_87) (i := .iload_n 1) (len := 1) (f' := (15, [(2, .int 2), (0, .ref 121), (1, .int u1)], [.int u1, .int 17, .ref 214])) mJ_87 (by decide +kernel) rfl ?_
  refine mk_v (M := mG_87) (i := .bipush 8) (len := 2) (pc' := 17) (v' := .int 8) (st' := [.int u1, .int 17, .ref 214]) mJ_87 (by decide +kernel) rfl (by decide +kernel) ?_
  refine mk_p (M := mG_87) (i := .iload_n 2) (len := 1) (f' := (18, [(2, .int 2), (0, .ref 121), (1, .int u1)], [.int 2, .int 8, .int u1, .int 17, .ref 214])) mJ_87 (by decide +kernel) rfl ?_
  refine mk_v (M := mG_87) (i := .imul) (len := 1) (pc' := 19) (v' := .int 16) (st' := [.int u1, .int 17, .ref 214]) mJ_87 (by decide +kernel) rfl (by decide +kernel) ?_
  refine mk_e (M := mG_87) (i := .ishr) (len := 1) (pc' := 20) (st' := [.int 17, .ref 214]) mJ_87 (by decide +kernel) rfl (fun w4 => ?_)
  refine mk_e (M := mG_87) (i := .i2b) (len := 1) (pc' := 21) (st' := [.int 17, .ref 214]) mJ_87 (by decide +kernel) rfl (fun w5 => ?_)
  refine mk_wa (M := mG_87) (i := .bastore) (len := 1) (f' := (22, [(2, .int 2), (0, .ref 121), (1, .int u1)], [])) (a := 214) (t := 0) (n := 16000) mJ_87 (by decide +kernel) rfl (mh_bas g214 (by decide +kernel)) g214 (fun h3 ys6 lh3 g214 eh3 => ?_)
  have g0 := (eh3 0 (by decide)).trans g0
  have g1 := (eh3 1 (by decide)).trans g1
  have g121 := (eh3 121 (by decide)).trans g121
  have hl := lh3.trans hl
  refine mk_p (M := mG_87) (i := .aload_n 0) (len := 1) (f' := (23, [(2, .int 2), (0, .ref 121), (1, .int u1)], [.ref 121])) mJ_87 (by decide +kernel) rfl ?_
  refine mk_p (M := mG_87) (i := .dup) (len := 1) (f' := (24, [(2, .int 2), (0, .ref 121), (1, .int u1)], [.ref 121, .ref 121])) mJ_87 (by decide +kernel) rfl ?_
  refine mk_h (M := mG_87) (i := .getfield 141) (len := 3) (f' := (27, [(2, .int 2), (0, .ref 121), (1, .int u1)], [.int 17, .ref 121])) (h' := h3) (sl' := sl) mJ_87 (by decide +kernel) rfl (mh_getf (ci := 13) (k := 4) (by decide +kernel) g121 rfl) ?_
  refine mk_v (M := mG_87) (i := .iconst 1) (len := 1) (pc' := 28) (v' := .int 1) (st' := [.int 17, .ref 121]) mJ_87 (by decide +kernel) rfl (by decide +kernel) ?_
  refine mk_v (M := mG_87) (i := .iadd) (len := 1) (pc' := 29) (v' := .int 18) (st' := [.ref 121]) mJ_87 (by decide +kernel) rfl (by decide +kernel) ?_
  refine mk_w (M := mG_87) (i := .putfield 141) (len := 3) (f' := (32, [(2, .int 2), (0, .ref 121), (1, .int u1)], [])) (a := 121) (.inl (13, [.ref 122, .ref 168, .int 0, .ref 214, .int 18, .int 0, .ref 215, .int 0, .ref 216, .ref 217, .int 0, .int 0, .int (-1), .ref 218, .ref 219, .ref 220, .ref 221, .ref 222, .ref 223, .int 0, .ref 224, .ref 225, .ref 226, .ref 227, .ref 228, .int 0, .ref 229, .ref 230, .ref 231, .ref 232, .ref 233, .ref 234, .ref 235, .ref 236, .ref 237, .ref 238, .int 0, .int 0, .int 0, .int 0, .long 0, .ref 239, .ref 240, .ref 241, .ref 242, .ref 243, .ref 244, .ref 245, .ref 246, .ref 247, .ref 248, .ref 249, .int 0, .int 0, .int 0, .int 0, .int 0, .int 0, .int 0, .int (-1), .int (-1), .int 0, .int 0, .int 0])) mJ_87 (by decide +kernel) rfl (mh_putf (ci := 13) (k := 4) (ty := .int) (by decide +kernel) g121 (Nat.le_of_ble_eq_true rfl) rfl rfl rfl) g121 (fun h4 lh4 g121 eh4 => ?_)
  have g0 := (eh4 0 (by decide)).trans g0
  have g1 := (eh4 1 (by decide)).trans g1
  have g214 := (eh4 214 (by decide)).trans g214
  have hl := lh4.trans hl
  refine mk_i (M := mG_87) (len := 3) (k := 2) (n := (-1)) (x := 2) (y := 1) (lv' := [(2, .int 1), (0, .ref 121), (1, .int u1)]) (pc' := 35) mJ_87 (by decide +kernel) rfl (by decide +kernel) (by decide +kernel) rfl rfl ?_
  refine mk_g (M := mG_87) (len := 3) (off := (-33)) (t := 2) mJ_87 (by decide +kernel) (by decide +kernel) ?_
  refine mk_p (M := mG_87) (i := .iload_n 2) (len := 1) (f' := (3, [(2, .int 1), (0, .ref 121), (1, .int u1)], [.int 1])) mJ_87 (by decide +kernel) rfl ?_
  refine mk_f (M := mG_87) (i := .ifCond .lt 35) (len := 3) (q := decide ((1 : Int32) < (0 : Int32))) (off := 35) (t := 38) (pc' := 6) (st' := []) mJ_87 (by decide +kernel) rfl (by decide +kernel) (by decide +kernel) rfl ?_
  refine mk_p (M := mG_87) (i := .aload_n 0) (len := 1) (f' := (7, [(2, .int 1), (0, .ref 121), (1, .int u1)], [.ref 121])) mJ_87 (by decide +kernel) rfl ?_
  refine mk_h (M := mG_87) (i := .getfield 19) (len := 3) (f' := (10, [(2, .int 1), (0, .ref 121), (1, .int u1)], [.ref 214])) (h' := h4) (sl' := sl) mJ_87 (by decide +kernel) rfl (mh_getf (ci := 13) (k := 3) (by decide +kernel) g121 rfl) ?_
  refine mk_p (M := mG_87) (i := .aload_n 0) (len := 1) (f' := (11, [(2, .int 1), (0, .ref 121), (1, .int u1)], [.ref 121, .ref 214])) mJ_87 (by decide +kernel) rfl ?_
  refine mk_h (M := mG_87) (i := .getfield 141) (len := 3) (f' := (14, [(2, .int 1), (0, .ref 121), (1, .int u1)], [.int 18, .ref 214])) (h' := h4) (sl' := sl) mJ_87 (by decide +kernel) rfl (mh_getf (ci := 13) (k := 4) (by decide +kernel) g121 rfl) ?_
  refine mk_p (M := mG_87) (i := .iload_n 1) (len := 1) (f' := (15, [(2, .int 1), (0, .ref 121), (1, .int u1)], [.int u1, .int 18, .ref 214])) mJ_87 (by decide +kernel) rfl ?_
  refine mk_v (M := mG_87) (i := .bipush 8) (len := 2) (pc' := 17) (v' := .int 8) (st' := [.int u1, .int 18, .ref 214]) mJ_87 (by decide +kernel) rfl (by decide +kernel) ?_
  refine mk_p (M := mG_87) (i := .iload_n 2) (len := 1) (f' := (18, [(2, .int 1), (0, .ref 121), (1, .int u1)], [.int 1, .int 8, .int u1, .int 18, .ref 214])) mJ_87 (by decide +kernel) rfl ?_
  refine mk_v (M := mG_87) (i := .imul) (len := 1) (pc' := 19) (v' := .int 8) (st' := [.int u1, .int 18, .ref 214]) mJ_87 (by decide +kernel) rfl (by decide +kernel) ?_
  refine mk_e (M := mG_87) (i := .ishr) (len := 1) (pc' := 20) (st' := [.int 18, .ref 214]) mJ_87 (by decide +kernel) rfl (fun w7 => ?_)
  refine mk_e (M := mG_87) (i := .i2b) (len := 1) (pc' := 21) (st' := [.int 18, .ref 214]) mJ_87 (by decide +kernel) rfl (fun w8 => ?_)
  refine mk_wa (M := mG_87) (i := .bastore) (len := 1) (f' := (22, [(2, .int 1), (0, .ref 121), (1, .int u1)], [])) (a := 214) (t := 0) (n := 16000) mJ_87 (by decide +kernel) rfl (mh_bas g214 (by decide +kernel)) g214 (fun h5 ys9 lh5 g214 eh5 => ?_)
  have g0 := (eh5 0 (by decide)).trans g0
  have g1 := (eh5 1 (by decide)).trans g1
  have g121 := (eh5 121 (by decide)).trans g121
  have hl := lh5.trans hl
  refine mk_p (M := mG_87) (i := .aload_n 0) (len := 1) (f' := (23, [(2, .int 1), (0, .ref 121), (1, .int u1)], [.ref 121])) mJ_87 (by decide +kernel) rfl ?_
  refine mk_p (M := mG_87) (i := .dup) (len := 1) (f' := (24, [(2, .int 1), (0, .ref 121), (1, .int u1)], [.ref 121, .ref 121])) mJ_87 (by decide +kernel) rfl ?_
  refine mk_h (M := mG_87) (i := .getfield 141) (len := 3) (f' := (27, [(2, .int 1), (0, .ref 121), (1, .int u1)], [.int 18, .ref 121])) (h' := h5) (sl' := sl) mJ_87 (by decide +kernel) rfl (mh_getf (ci := 13) (k := 4) (by decide +kernel) g121 rfl) ?_
  refine mk_v (M := mG_87) (i := .iconst 1) (len := 1) (pc' := 28) (v' := .int 1) (st' := [.int 18, .ref 121]) mJ_87 (by decide +kernel) rfl (by decide +kernel) ?_
  refine mk_v (M := mG_87) (i := .iadd) (len := 1) (pc' := 29) (v' := .int 19) (st' := [.ref 121]) mJ_87 (by decide +kernel) rfl (by decide +kernel) ?_
  refine mk_w (M := mG_87) (i := .putfield 141) (len := 3) (f' := (32, [(2, .int 1), (0, .ref 121), (1, .int u1)], [])) (a := 121) (.inl (13, [.ref 122, .ref 168, .int 0, .ref 214, .int 19, .int 0, .ref 215, .int 0, .ref 216, .ref 217, .int 0, .int 0, .int (-1), .ref 218, .ref 219, .ref 220, .ref 221, .ref 222, .ref 223, .int 0, .ref 224, .ref 225, .ref 226, .ref 227, .ref 228, .int 0, .ref 229, .ref 230, .ref 231, .ref 232, .ref 233, .ref 234, .ref 235, .ref 236, .ref 237, .ref 238, .int 0, .int 0, .int 0, .int 0, .long 0, .ref 239, .ref 240, .ref 241, .ref 242, .ref 243, .ref 244, .ref 245, .ref 246, .ref 247, .ref 248, .ref 249, .int 0, .int 0, .int 0, .int 0, .int 0, .int 0, .int 0, .int (-1), .int (-1), .int 0, .int 0, .int 0])) mJ_87 (by decide +kernel) rfl (mh_putf (ci := 13) (k := 4) (ty := .int) (by decide +kernel) g121 (Nat.le_of_ble_eq_true rfl) rfl rfl rfl) g121 (fun h6 lh6 g121 eh6 => ?_)
  have g0 := (eh6 0 (by decide)).trans g0
  have g1 := (eh6 1 (by decide)).trans g1
  have g214 := (eh6 214 (by decide)).trans g214
  have hl := lh6.trans hl
  refine mk_i (M := mG_87) (len := 3) (k := 2) (n := (-1)) (x := 1) (y := 0) (lv' := [(2, .int 0), (0, .ref 121), (1, .int u1)]) (pc' := 35) mJ_87 (by decide +kernel) rfl (by decide +kernel) (by decide +kernel) rfl rfl ?_
  refine mk_g (M := mG_87) (len := 3) (off := (-33)) (t := 2) mJ_87 (by decide +kernel) (by decide +kernel) ?_
  refine mk_p (M := mG_87) (i := .iload_n 2) (len := 1) (f' := (3, [(2, .int 0), (0, .ref 121), (1, .int u1)], [.int 0])) mJ_87 (by decide +kernel) rfl ?_
  refine mk_f (M := mG_87) (i := .ifCond .lt 35) (len := 3) (q := decide ((0 : Int32) < (0 : Int32))) (off := 35) (t := 38) (pc' := 6) (st' := []) mJ_87 (by decide +kernel) rfl (by decide +kernel) (by decide +kernel) rfl ?_
  refine mk_p (M := mG_87) (i := .aload_n 0) (len := 1) (f' := (7, [(2, .int 0), (0, .ref 121), (1, .int u1)], [.ref 121])) mJ_87 (by decide +kernel) rfl ?_
  refine mk_h (M := mG_87) (i := .getfield 19) (len := 3) (f' := (10, [(2, .int 0), (0, .ref 121), (1, .int u1)], [.ref 214])) (h' := h6) (sl' := sl) mJ_87 (by decide +kernel) rfl (mh_getf (ci := 13) (k := 3) (by decide +kernel) g121 rfl) ?_
  refine mk_p (M := mG_87) (i := .aload_n 0) (len := 1) (f' := (11, [(2, .int 0), (0, .ref 121), (1, .int u1)], [.ref 121, .ref 214])) mJ_87 (by decide +kernel) rfl ?_
  refine mk_h (M := mG_87) (i := .getfield 141) (len := 3) (f' := (14, [(2, .int 0), (0, .ref 121), (1, .int u1)], [.int 19, .ref 214])) (h' := h6) (sl' := sl) mJ_87 (by decide +kernel) rfl (mh_getf (ci := 13) (k := 4) (by decide +kernel) g121 rfl) ?_
  refine mk_p (M := mG_87) (i := .iload_n 1) (len := 1) (f' := (15, [(2, .int 0), (0, .ref 121), (1, .int u1)], [.int u1, .int 19, .ref 214])) mJ_87 (by decide +kernel) rfl ?_
  refine mk_v (M := mG_87) (i := .bipush 8) (len := 2) (pc' := 17) (v' := .int 8) (st' := [.int u1, .int 19, .ref 214]) mJ_87 (by decide +kernel) rfl (by decide +kernel) ?_
  refine mk_p (M := mG_87) (i := .iload_n 2) (len := 1) (f' := (18, [(2, .int 0), (0, .ref 121), (1, .int u1)], [.int 0, .int 8, .int u1, .int 19, .ref 214])) mJ_87 (by decide +kernel) rfl ?_
  refine mk_v (M := mG_87) (i := .imul) (len := 1) (pc' := 19) (v' := .int 0) (st' := [.int u1, .int 19, .ref 214]) mJ_87 (by decide +kernel) rfl (by decide +kernel) ?_
  refine mk_e (M := mG_87) (i := .ishr) (len := 1) (pc' := 20) (st' := [.int 19, .ref 214]) mJ_87 (by decide +kernel) rfl (fun w10 => ?_)
  refine mk_e (M := mG_87) (i := .i2b) (len := 1) (pc' := 21) (st' := [.int 19, .ref 214]) mJ_87 (by decide +kernel) rfl (fun w11 => ?_)
  refine mk_wa (M := mG_87) (i := .bastore) (len := 1) (f' := (22, [(2, .int 0), (0, .ref 121), (1, .int u1)], [])) (a := 214) (t := 0) (n := 16000) mJ_87 (by decide +kernel) rfl (mh_bas g214 (by decide +kernel)) g214 (fun h7 ys12 lh7 g214 eh7 => ?_)
  have g0 := (eh7 0 (by decide)).trans g0
  have g1 := (eh7 1 (by decide)).trans g1
  have g121 := (eh7 121 (by decide)).trans g121
  have hl := lh7.trans hl
  refine mk_p (M := mG_87) (i := .aload_n 0) (len := 1) (f' := (23, [(2, .int 0), (0, .ref 121), (1, .int u1)], [.ref 121])) mJ_87 (by decide +kernel) rfl ?_
  refine mk_p (M := mG_87) (i := .dup) (len := 1) (f' := (24, [(2, .int 0), (0, .ref 121), (1, .int u1)], [.ref 121, .ref 121])) mJ_87 (by decide +kernel) rfl ?_
  refine mk_h (M := mG_87) (i := .getfield 141) (len := 3) (f' := (27, [(2, .int 0), (0, .ref 121), (1, .int u1)], [.int 19, .ref 121])) (h' := h7) (sl' := sl) mJ_87 (by decide +kernel) rfl (mh_getf (ci := 13) (k := 4) (by decide +kernel) g121 rfl) ?_
  refine mk_v (M := mG_87) (i := .iconst 1) (len := 1) (pc' := 28) (v' := .int 1) (st' := [.int 19, .ref 121]) mJ_87 (by decide +kernel) rfl (by decide +kernel) ?_
  refine mk_v (M := mG_87) (i := .iadd) (len := 1) (pc' := 29) (v' := .int 20) (st' := [.ref 121]) mJ_87 (by decide +kernel) rfl (by decide +kernel) ?_
  refine mk_w (M := mG_87) (i := .putfield 141) (len := 3) (f' := (32, [(2, .int 0), (0, .ref 121), (1, .int u1)], [])) (a := 121) (.inl (13, [.ref 122, .ref 168, .int 0, .ref 214, .int 20, .int 0, .ref 215, .int 0, .ref 216, .ref 217, .int 0, .int 0, .int (-1), .ref 218, .ref 219, .ref 220, .ref 221, .ref 222, .ref 223, .int 0, .ref 224, .ref 225, .ref 226, .ref 227, .ref 228, .int 0, .ref 229, .ref 230, .ref 231, .ref 232, .ref 233, .ref 234, .ref 235, .ref 236, .ref 237, .ref 238, .int 0, .int 0, .int 0, .int 0, .long 0, .ref 239, .ref 240, .ref 241, .ref 242, .ref 243, .ref 244, .ref 245, .ref 246, .ref 247, .ref 248, .ref 249, .int 0, .int 0, .int 0, .int 0, .int 0, .int 0, .int 0, .int (-1), .int (-1), .int 0, .int 0, .int 0])) mJ_87 (by decide +kernel) rfl (mh_putf (ci := 13) (k := 4) (ty := .int) (by decide +kernel) g121 (Nat.le_of_ble_eq_true rfl) rfl rfl rfl) g121 (fun h8 lh8 g121 eh8 => ?_)
  have g0 := (eh8 0 (by decide)).trans g0
  have g1 := (eh8 1 (by decide)).trans g1
  have g214 := (eh8 214 (by decide)).trans g214
  have hl := lh8.trans hl
  refine mk_i (M := mG_87) (len := 3) (k := 2) (n := (-1)) (x := 0) (y := (-1)) (lv' := [(2, .int (-1)), (0, .ref 121), (1, .int u1)]) (pc' := 35) mJ_87 (by decide +kernel) rfl (by decide +kernel) (by decide +kernel) rfl rfl ?_
  refine mk_g (M := mG_87) (len := 3) (off := (-33)) (t := 2) mJ_87 (by decide +kernel) (by decide +kernel) ?_
  refine mk_p (M := mG_87) (i := .iload_n 2) (len := 1) (f' := (3, [(2, .int (-1)), (0, .ref 121), (1, .int u1)], [.int (-1)])) mJ_87 (by decide +kernel) rfl ?_
  refine mk_t (M := mG_87) (i := .ifCond .lt 35) (len := 3) (q := decide (((-1) : Int32) < (0 : Int32))) (off := 35) (t := 38) (st' := []) mJ_87 (by decide +kernel) rfl (by decide +kernel) (by decide +kernel) ?_
  refine mk_r (M := mG_87) (i := .return_) (len := 1) (r := none) mJ_87 (by decide +kernel) rfl rfl (by decide +kernel) ?_
  exact ⟨rfl, rfl, hl, xs1, ys12, g0, g1, g121, g214⟩
set_option maxRecDepth 20000 in
theorem lwsX13_feed_11 {N sl : Nat} {ev : mi_Ev} {h : List mi_C} {xs1 : List Int32} {xs214 : List Int32} (u1 u2 u3 u4 u5 : Int32) (hl : h.length = N) (g0 : h[0]? = some (.inl (11, [.ref 1, .int 20, .int 20, .ref 2, .ref 13, .ref 49, .int 0, .int (-1), .ref 85, .ref 86, .ref 92, .ref 112, .int 0, .ref 113]))) (g1 : h[1]? = some (.inr (0, 16000, .inl xs1))) (g121 : h[121]? = some (.inl (13, [.ref 122, .ref 168, .int 0, .ref 214, .int 0, .int 0, .ref 215, .int 0, .ref 216, .ref 217, .int 0, .int 0, .int (-1), .ref 218, .ref 219, .ref 220, .ref 221, .ref 222, .ref 223, .int 0, .ref 224, .ref 225, .ref 226, .ref 227, .ref 228, .int 0, .ref 229, .ref 230, .ref 231, .ref 232, .ref 233, .ref 234, .ref 235, .ref 236, .ref 237, .ref 238, .int 0, .int 0, .int 0, .int 0, .long 0, .ref 239, .ref 240, .ref 241, .ref 242, .ref 243, .ref 244, .ref 245, .ref 246, .ref 247, .ref 248, .ref 249, .int 0, .int 0, .int 0, .int 0, .int 0, .int 0, .int 0, .int (-1), .int (-1), .int 0, .int 0, .int 0]))) (g214 : h[214]? = some (.inr (0, 16000, .inl xs214))) : mi_ok (fun r h' sl' => r = some (.int 20) ∧ sl = sl' ∧ h'.length = N ∧ ∃ (zs1 : List Int32) (zs214 : List Int32), h'[0]? = some (.inl (11, [.ref 1, .int 20, .int 20, .ref 2, .ref 13, .ref 49, .int 0, .int (-1), .ref 85, .ref 86, .ref 92, .ref 112, .int 0, .ref 113])) ∧ h'[1]? = some (.inr (0, 16000, .inl zs1)) ∧ h'[121]? = some (.inl (13, [.ref 122, .ref 168, .int 0, .ref 214, .int 20, .int 20, .ref 215, .int 0, .ref 216, .ref 217, .int 0, .int 0, .int (-1), .ref 218, .ref 219, .ref 220, .ref 221, .ref 222, .ref 223, .int 0, .ref 224, .ref 225, .ref 226, .ref 227, .ref 228, .int 0, .ref 229, .ref 230, .ref 231, .ref 232, .ref 233, .ref 234, .ref 235, .ref 236, .ref 237, .ref 238, .int 0, .int 0, .int 0, .int 0, .long 0, .ref 239, .ref 240, .ref 241, .ref 242, .ref 243, .ref 244, .ref 245, .ref 246, .ref 247, .ref 248, .ref 249, .int 0, .int 0, .int 0, .int 0, .int 0, .int 0, .int 0, .int (-1), .int (-1), .int 0, .int 0, .int 0])) ∧ h'[214]? = some (.inr (0, 16000, .inl zs214))) mi_Γ ev 64 (0, [(0, .ref 121), (1, .int u1), (2, .int u2), (3, .int u3), (4, .int u4), (5, .int u5)], []) h sl := by
  refine mk_p (M := mG_64) (i := .aload_n 0) (len := 1) (f' := (1, [(0, .ref 121), (1, .int u1), (2, .int u2), (3, .int u3), (4, .int u4), (5, .int u5)], [.ref 121])) mJ_64 (by decide +kernel) rfl ?_
  refine mk_h (M := mG_64) (i := .getfield 141) (len := 3) (f' := (4, [(0, .ref 121), (1, .int u1), (2, .int u2), (3, .int u3), (4, .int u4), (5, .int u5)], [.int 0])) (h' := h) (sl' := sl) mJ_64 (by decide +kernel) rfl (mh_getf (ci := 13) (k := 4) (by decide +kernel) g121 rfl) ?_
  refine mk_v (M := mG_64) (i := .bipush 20) (len := 2) (pc' := 6) (v' := .int 20) (st' := [.int 0]) mJ_64 (by decide +kernel) rfl (by decide +kernel) ?_
  refine mk_v (M := mG_64) (i := .iadd) (len := 1) (pc' := 7) (v' := .int 20) (st' := []) mJ_64 (by decide +kernel) rfl (by decide +kernel) ?_
  refine mk_v (M := mG_64) (i := .sipush 16000) (len := 3) (pc' := 10) (v' := .int 16000) (st' := [.int 20]) mJ_64 (by decide +kernel) rfl (by decide +kernel) ?_
  refine mk_f (M := mG_64) (i := .if_icmp .gt 15) (len := 3) (q := decide ((16000 : Int32) < (20 : Int32))) (off := 15) (t := 25) (pc' := 13) (st' := []) mJ_64 (by decide +kernel) rfl (by decide +kernel) (by decide +kernel) rfl ?_
  refine mk_p (M := mG_64) (i := .aload_n 0) (len := 1) (f' := (14, [(0, .ref 121), (1, .int u1), (2, .int u2), (3, .int u3), (4, .int u4), (5, .int u5)], [.ref 121])) mJ_64 (by decide +kernel) rfl ?_
  refine mk_h (M := mG_64) (i := .getfield 144) (len := 3) (f' := (17, [(0, .ref 121), (1, .int u1), (2, .int u2), (3, .int u3), (4, .int u4), (5, .int u5)], [.int 0])) (h' := h) (sl' := sl) mJ_64 (by decide +kernel) rfl (mh_getf (ci := 13) (k := 5) (by decide +kernel) g121 rfl) ?_
  refine mk_v (M := mG_64) (i := .bipush 20) (len := 2) (pc' := 19) (v' := .int 20) (st' := [.int 0]) mJ_64 (by decide +kernel) rfl (by decide +kernel) ?_
  refine mk_v (M := mG_64) (i := .iadd) (len := 1) (pc' := 20) (v' := .int 20) (st' := []) mJ_64 (by decide +kernel) rfl (by decide +kernel) ?_
  refine mk_h (M := mG_64) (i := .ldc 147) (len := 2) (f' := (22, [(0, .ref 121), (1, .int u1), (2, .int u2), (3, .int u3), (4, .int u4), (5, .int u5)], [.int 65536, .int 20])) (h' := h) (sl' := sl) mJ_64 (by decide +kernel) rfl rfl ?_
  refine mk_t (M := mG_64) (i := .if_icmp .le 5) (len := 3) (q := decide ((20 : Int32) ≤ (65536 : Int32))) (off := 5) (t := 27) (st' := []) mJ_64 (by decide +kernel) rfl (by decide +kernel) (by decide +kernel) ?_
  refine mk_p (M := mG_64) (i := .aload_n 0) (len := 1) (f' := (28, [(0, .ref 121), (1, .int u1), (2, .int u2), (3, .int u3), (4, .int u4), (5, .int u5)], [.ref 121])) mJ_64 (by decide +kernel) rfl ?_
  refine mk_p (M := mG_64) (i := .iload_n 1) (len := 1) (f' := (29, [(0, .ref 121), (1, .int u1), (2, .int u2), (3, .int u3), (4, .int u4), (5, .int u5)], [.int u1, .ref 121])) mJ_64 (by decide +kernel) rfl ?_
  refine mk_c (M := mG_64) (i := .invokevirtual 148) (len := 3) (M' := mG_87) (j' := 87) (as := [.ref 121, .int u1]) (rest := []) mJ_64 (by decide +kernel) rfl rfl rfl rfl (mh_virt (n := 1) (a := 121) (ci := 13) (by decide +kernel) rfl g121 (Nat.le_of_ble_eq_true rfl) rfl) mJ_87 (Nat.le_of_ble_eq_true rfl) (mi_pos g121) ?_
  refine mi_ok.mono (lwsX13_word_6 u1 hl g0 g1 g121 g214) ?_
  rintro _ h1 _ ⟨rfl, rfl, hl, ys1, ys2, g0, g1, g121, g214⟩
  show mi_ok _ mi_Γ ev 64 (32, [(0, .ref 121), (1, .int u1), (2, .int u2), (3, .int u3), (4, .int u4), (5, .int u5)], []) h1 sl
  refine mk_p (M := mG_64) (i := .aload_n 0) (len := 1) (f' := (33, [(0, .ref 121), (1, .int u1), (2, .int u2), (3, .int u3), (4, .int u4), (5, .int u5)], [.ref 121])) mJ_64 (by decide +kernel) rfl ?_
  refine mk_p (M := mG_64) (i := .iload_n 2) (len := 1) (f' := (34, [(0, .ref 121), (1, .int u1), (2, .int u2), (3, .int u3), (4, .int u4), (5, .int u5)], [.int u2, .ref 121])) mJ_64 (by decide +kernel) rfl ?_
  refine mk_c (M := mG_64) (i := .invokevirtual 148) (len := 3) (M' := mG_87) (j' := 87) (as := [.ref 121, .int u2]) (rest := []) mJ_64 (by decide +kernel) rfl rfl rfl rfl (mh_virt (n := 1) (a := 121) (ci := 13) (by decide +kernel) rfl g121 (Nat.le_of_ble_eq_true rfl) rfl) mJ_87 (Nat.le_of_ble_eq_true rfl) (mi_pos g121) ?_
  refine mi_ok.mono (lwsX13_word_7 u2 hl g0 g1 g121 g214) ?_
  rintro _ h2 _ ⟨rfl, rfl, hl, ys3, ys4, g0, g1, g121, g214⟩
  show mi_ok _ mi_Γ ev 64 (37, [(0, .ref 121), (1, .int u1), (2, .int u2), (3, .int u3), (4, .int u4), (5, .int u5)], []) h2 sl
  refine mk_p (M := mG_64) (i := .aload_n 0) (len := 1) (f' := (38, [(0, .ref 121), (1, .int u1), (2, .int u2), (3, .int u3), (4, .int u4), (5, .int u5)], [.ref 121])) mJ_64 (by decide +kernel) rfl ?_
  refine mk_p (M := mG_64) (i := .iload_n 3) (len := 1) (f' := (39, [(0, .ref 121), (1, .int u1), (2, .int u2), (3, .int u3), (4, .int u4), (5, .int u5)], [.int u3, .ref 121])) mJ_64 (by decide +kernel) rfl ?_
  refine mk_c (M := mG_64) (i := .invokevirtual 148) (len := 3) (M' := mG_87) (j' := 87) (as := [.ref 121, .int u3]) (rest := []) mJ_64 (by decide +kernel) rfl rfl rfl rfl (mh_virt (n := 1) (a := 121) (ci := 13) (by decide +kernel) rfl g121 (Nat.le_of_ble_eq_true rfl) rfl) mJ_87 (Nat.le_of_ble_eq_true rfl) (mi_pos g121) ?_
  refine mi_ok.mono (lwsX13_word_8 u3 hl g0 g1 g121 g214) ?_
  rintro _ h3 _ ⟨rfl, rfl, hl, ys5, ys6, g0, g1, g121, g214⟩
  show mi_ok _ mi_Γ ev 64 (42, [(0, .ref 121), (1, .int u1), (2, .int u2), (3, .int u3), (4, .int u4), (5, .int u5)], []) h3 sl
  refine mk_p (M := mG_64) (i := .aload_n 0) (len := 1) (f' := (43, [(0, .ref 121), (1, .int u1), (2, .int u2), (3, .int u3), (4, .int u4), (5, .int u5)], [.ref 121])) mJ_64 (by decide +kernel) rfl ?_
  refine mk_p (M := mG_64) (i := .iload 4) (len := 2) (f' := (45, [(0, .ref 121), (1, .int u1), (2, .int u2), (3, .int u3), (4, .int u4), (5, .int u5)], [.int u4, .ref 121])) mJ_64 (by decide +kernel) rfl ?_
  refine mk_c (M := mG_64) (i := .invokevirtual 148) (len := 3) (M' := mG_87) (j' := 87) (as := [.ref 121, .int u4]) (rest := []) mJ_64 (by decide +kernel) rfl rfl rfl rfl (mh_virt (n := 1) (a := 121) (ci := 13) (by decide +kernel) rfl g121 (Nat.le_of_ble_eq_true rfl) rfl) mJ_87 (Nat.le_of_ble_eq_true rfl) (mi_pos g121) ?_
  refine mi_ok.mono (lwsX13_word_9 u4 hl g0 g1 g121 g214) ?_
  rintro _ h4 _ ⟨rfl, rfl, hl, ys7, ys8, g0, g1, g121, g214⟩
  show mi_ok _ mi_Γ ev 64 (48, [(0, .ref 121), (1, .int u1), (2, .int u2), (3, .int u3), (4, .int u4), (5, .int u5)], []) h4 sl
  refine mk_p (M := mG_64) (i := .aload_n 0) (len := 1) (f' := (49, [(0, .ref 121), (1, .int u1), (2, .int u2), (3, .int u3), (4, .int u4), (5, .int u5)], [.ref 121])) mJ_64 (by decide +kernel) rfl ?_
  refine mk_p (M := mG_64) (i := .iload 5) (len := 2) (f' := (51, [(0, .ref 121), (1, .int u1), (2, .int u2), (3, .int u3), (4, .int u4), (5, .int u5)], [.int u5, .ref 121])) mJ_64 (by decide +kernel) rfl ?_
  refine mk_c (M := mG_64) (i := .invokevirtual 148) (len := 3) (M' := mG_87) (j' := 87) (as := [.ref 121, .int u5]) (rest := []) mJ_64 (by decide +kernel) rfl rfl rfl rfl (mh_virt (n := 1) (a := 121) (ci := 13) (by decide +kernel) rfl g121 (Nat.le_of_ble_eq_true rfl) rfl) mJ_87 (Nat.le_of_ble_eq_true rfl) (mi_pos g121) ?_
  refine mi_ok.mono (lwsX13_word_10 u5 hl g0 g1 g121 g214) ?_
  rintro _ h5 _ ⟨rfl, rfl, hl, ys9, ys10, g0, g1, g121, g214⟩
  show mi_ok _ mi_Γ ev 64 (54, [(0, .ref 121), (1, .int u1), (2, .int u2), (3, .int u3), (4, .int u4), (5, .int u5)], []) h5 sl
  refine mk_p (M := mG_64) (i := .aload_n 0) (len := 1) (f' := (55, [(0, .ref 121), (1, .int u1), (2, .int u2), (3, .int u3), (4, .int u4), (5, .int u5)], [.ref 121])) mJ_64 (by decide +kernel) rfl ?_
  refine mk_p (M := mG_64) (i := .dup) (len := 1) (f' := (56, [(0, .ref 121), (1, .int u1), (2, .int u2), (3, .int u3), (4, .int u4), (5, .int u5)], [.ref 121, .ref 121])) mJ_64 (by decide +kernel) rfl ?_
  refine mk_h (M := mG_64) (i := .getfield 144) (len := 3) (f' := (59, [(0, .ref 121), (1, .int u1), (2, .int u2), (3, .int u3), (4, .int u4), (5, .int u5)], [.int 0, .ref 121])) (h' := h5) (sl' := sl) mJ_64 (by decide +kernel) rfl (mh_getf (ci := 13) (k := 5) (by decide +kernel) g121 rfl) ?_
  refine mk_v (M := mG_64) (i := .bipush 20) (len := 2) (pc' := 61) (v' := .int 20) (st' := [.int 0, .ref 121]) mJ_64 (by decide +kernel) rfl (by decide +kernel) ?_
  refine mk_v (M := mG_64) (i := .iadd) (len := 1) (pc' := 62) (v' := .int 20) (st' := [.ref 121]) mJ_64 (by decide +kernel) rfl (by decide +kernel) ?_
  refine mk_w (M := mG_64) (i := .putfield 144) (len := 3) (f' := (65, [(0, .ref 121), (1, .int u1), (2, .int u2), (3, .int u3), (4, .int u4), (5, .int u5)], [])) (a := 121) (.inl (13, [.ref 122, .ref 168, .int 0, .ref 214, .int 20, .int 20, .ref 215, .int 0, .ref 216, .ref 217, .int 0, .int 0, .int (-1), .ref 218, .ref 219, .ref 220, .ref 221, .ref 222, .ref 223, .int 0, .ref 224, .ref 225, .ref 226, .ref 227, .ref 228, .int 0, .ref 229, .ref 230, .ref 231, .ref 232, .ref 233, .ref 234, .ref 235, .ref 236, .ref 237, .ref 238, .int 0, .int 0, .int 0, .int 0, .long 0, .ref 239, .ref 240, .ref 241, .ref 242, .ref 243, .ref 244, .ref 245, .ref 246, .ref 247, .ref 248, .ref 249, .int 0, .int 0, .int 0, .int 0, .int 0, .int 0, .int 0, .int (-1), .int (-1), .int 0, .int 0, .int 0])) mJ_64 (by decide +kernel) rfl (mh_putf (ci := 13) (k := 5) (ty := .int) (by decide +kernel) g121 (Nat.le_of_ble_eq_true rfl) rfl rfl rfl) g121 (fun h6 lh6 g121 eh6 => ?_)
  have g0 := (eh6 0 (by decide)).trans g0
  have g1 := (eh6 1 (by decide)).trans g1
  have g214 := (eh6 214 (by decide)).trans g214
  have hl := lh6.trans hl
  refine mk_p (M := mG_64) (i := .aload_n 0) (len := 1) (f' := (66, [(0, .ref 121), (1, .int u1), (2, .int u2), (3, .int u3), (4, .int u4), (5, .int u5)], [.ref 121])) mJ_64 (by decide +kernel) rfl ?_
  refine mk_h (M := mG_64) (i := .getfield 141) (len := 3) (f' := (69, [(0, .ref 121), (1, .int u1), (2, .int u2), (3, .int u3), (4, .int u4), (5, .int u5)], [.int 20])) (h' := h6) (sl' := sl) mJ_64 (by decide +kernel) rfl (mh_getf (ci := 13) (k := 4) (by decide +kernel) g121 rfl) ?_
  refine mk_r (M := mG_64) (i := .ireturn) (len := 1) (r := some (.int 20)) mJ_64 (by decide +kernel) rfl rfl (by decide +kernel) ?_
  exact ⟨rfl, rfl, hl, ys9, ys10, g0, g1, g121, g214⟩
set_option maxRecDepth 20000 in
theorem lw1_0 {N sl : Nat} {h : List mi_C} {xs1 : List Int32} {xs214 : List Int32} (a0 a1 a2 a3 a4 a5 : Int32) (hk : a0 &&& 31 = 0) (hl : h.length = N) (g0 : h[0]? = some (.inl (11, [.ref 1, .int 0, .int 0, .ref 2, .ref 13, .ref 49, .int 0, .int (-1), .ref 85, .ref 86, .ref 92, .ref 112, .int 0, .ref 113]))) (g1 : h[1]? = some (.inr (0, 16000, .inl xs1))) (g121 : h[121]? = some (.inl (13, [.ref 122, .ref 168, .int 0, .ref 214, .int 0, .int 0, .ref 215, .int 0, .ref 216, .ref 217, .int 0, .int 0, .int (-1), .ref 218, .ref 219, .ref 220, .ref 221, .ref 222, .ref 223, .int 0, .ref 224, .ref 225, .ref 226, .ref 227, .ref 228, .int 0, .ref 229, .ref 230, .ref 231, .ref 232, .ref 233, .ref 234, .ref 235, .ref 236, .ref 237, .ref 238, .int 0, .int 0, .int 0, .int 0, .long 0, .ref 239, .ref 240, .ref 241, .ref 242, .ref 243, .ref 244, .ref 245, .ref 246, .ref 247, .ref 248, .ref 249, .int 0, .int 0, .int 0, .int 0, .int 0, .int 0, .int 0, .int (-1), .int (-1), .int 0, .int 0, .int 0]))) (g214 : h[214]? = some (.inr (0, 16000, .inl xs214))) : mi_ok (mi_fin N sl) mi_Γ (mi_ev [a0, a1, a2, a3, a4, a5]) 0 (18, [(3, .int 0), (2, .ref 121), (1, .ref 0), (0, .retAddr 0)], []) h sl := by
  refine mk_p (M := mG_0) (i := .iload_n 3) (len := 1) (f' := (19, [(3, .int 0), (2, .ref 121), (1, .ref 0), (0, .retAddr 0)], [.int 0])) mJ_0 (by decide +kernel) rfl ?_
  refine mk_p (M := mG_0) (i := .aload_n 0) (len := 1) (f' := (20, [(3, .int 0), (2, .ref 121), (1, .ref 0), (0, .retAddr 0)], [.retAddr 0, .int 0])) mJ_0 (by decide +kernel) rfl ?_
  refine mk_h (M := mG_0) (i := .arraylength) (len := 1) (f' := (21, [(3, .int 0), (2, .ref 121), (1, .ref 0), (0, .retAddr 0)], [.int 6, .int 0])) (h' := h) (sl' := sl) mJ_0 (by decide +kernel) rfl rfl ?_
  refine mk_v (M := mG_0) (i := .bipush 6) (len := 2) (pc' := 23) (v' := .int 6) (st' := [.int 6, .int 0]) mJ_0 (by decide +kernel) rfl (by decide +kernel) ?_
  refine mk_v (M := mG_0) (i := .isub) (len := 1) (pc' := 24) (v' := .int 0) (st' := [.int 0]) mJ_0 (by decide +kernel) rfl (by decide +kernel) ?_
  refine mk_f (M := mG_0) (i := .if_icmp .gt 657) (len := 3) (q := decide ((0 : Int32) < (0 : Int32))) (off := 657) (t := 681) (pc' := 27) (st' := []) mJ_0 (by decide +kernel) rfl (by decide +kernel) (by decide +kernel) rfl ?_
  refine mk_p (M := mG_0) (i := .aload_n 0) (len := 1) (f' := (28, [(3, .int 0), (2, .ref 121), (1, .ref 0), (0, .retAddr 0)], [.retAddr 0])) mJ_0 (by decide +kernel) rfl ?_
  refine mk_p (M := mG_0) (i := .iload_n 3) (len := 1) (f' := (29, [(3, .int 0), (2, .ref 121), (1, .ref 0), (0, .retAddr 0)], [.int 0, .retAddr 0])) mJ_0 (by decide +kernel) rfl ?_
  refine mk_h (M := mG_0) (i := .iaload) (len := 1) (f' := (30, [(3, .int 0), (2, .ref 121), (1, .ref 0), (0, .retAddr 0)], [.int a0])) (h' := h) (sl' := sl) mJ_0 (by decide +kernel) rfl (mh_ial (xs := [a0, a1, a2, a3, a4, a5]) (x := 0) rfl (show mi_in 0 6 = true by decide +kernel) rfl) ?_
  refine mk_v (M := mG_0) (i := .bipush 31) (len := 2) (pc' := 32) (v' := .int 31) (st' := [.int a0]) mJ_0 (by decide +kernel) rfl (by decide +kernel) ?_
  refine mk_p (M := mG_0) (i := .iand) (len := 1) (f' := (33, [(3, .int 0), (2, .ref 121), (1, .ref 0), (0, .retAddr 0)], [.int ((a0 &&& 31))])) mJ_0 (by decide +kernel) rfl ?_
  refine mk_s (M := mG_0) (len := 103) (dflt := 642) (lo := 0) (hi := 21) (offs := #[103, 166, 189, 202, 215, 238, 261, 285, 299, 332, 365, 398, 432, 475, 508, 531, 554, 567, 580, 593, 606, 629]) (X := 0) (t := 136) mJ_0 (by decide +kernel) hk (by decide +kernel) ?_
  refine mk_p (M := mG_0) (i := .aload_n 1) (len := 1) (f' := (137, [(3, .int 0), (2, .ref 121), (1, .ref 0), (0, .retAddr 0)], [.ref 0])) mJ_0 (by decide +kernel) rfl ?_
  refine mk_p (M := mG_0) (i := .aload_n 0) (len := 1) (f' := (138, [(3, .int 0), (2, .ref 121), (1, .ref 0), (0, .retAddr 0)], [.retAddr 0, .ref 0])) mJ_0 (by decide +kernel) rfl ?_
  refine mk_p (M := mG_0) (i := .iload_n 3) (len := 1) (f' := (139, [(3, .int 0), (2, .ref 121), (1, .ref 0), (0, .retAddr 0)], [.int 0, .retAddr 0, .ref 0])) mJ_0 (by decide +kernel) rfl ?_
  refine mk_v (M := mG_0) (i := .iconst 1) (len := 1) (pc' := 140) (v' := .int 1) (st' := [.int 0, .retAddr 0, .ref 0]) mJ_0 (by decide +kernel) rfl (by decide +kernel) ?_
  refine mk_v (M := mG_0) (i := .iadd) (len := 1) (pc' := 141) (v' := .int 1) (st' := [.retAddr 0, .ref 0]) mJ_0 (by decide +kernel) rfl (by decide +kernel) ?_
  refine mk_h (M := mG_0) (i := .iaload) (len := 1) (f' := (142, [(3, .int 0), (2, .ref 121), (1, .ref 0), (0, .retAddr 0)], [.int a1, .ref 0])) (h' := h) (sl' := sl) mJ_0 (by decide +kernel) rfl (mh_ial (xs := [a0, a1, a2, a3, a4, a5]) (x := 1) rfl (show mi_in 1 6 = true by decide +kernel) rfl) ?_
  refine mk_p (M := mG_0) (i := .aload_n 0) (len := 1) (f' := (143, [(3, .int 0), (2, .ref 121), (1, .ref 0), (0, .retAddr 0)], [.retAddr 0, .int a1, .ref 0])) mJ_0 (by decide +kernel) rfl ?_
  refine mk_p (M := mG_0) (i := .iload_n 3) (len := 1) (f' := (144, [(3, .int 0), (2, .ref 121), (1, .ref 0), (0, .retAddr 0)], [.int 0, .retAddr 0, .int a1, .ref 0])) mJ_0 (by decide +kernel) rfl ?_
  refine mk_v (M := mG_0) (i := .iconst 2) (len := 1) (pc' := 145) (v' := .int 2) (st' := [.int 0, .retAddr 0, .int a1, .ref 0]) mJ_0 (by decide +kernel) rfl (by decide +kernel) ?_
  refine mk_v (M := mG_0) (i := .iadd) (len := 1) (pc' := 146) (v' := .int 2) (st' := [.retAddr 0, .int a1, .ref 0]) mJ_0 (by decide +kernel) rfl (by decide +kernel) ?_
  refine mk_h (M := mG_0) (i := .iaload) (len := 1) (f' := (147, [(3, .int 0), (2, .ref 121), (1, .ref 0), (0, .retAddr 0)], [.int a2, .int a1, .ref 0])) (h' := h) (sl' := sl) mJ_0 (by decide +kernel) rfl (mh_ial (xs := [a0, a1, a2, a3, a4, a5]) (x := 2) rfl (show mi_in 2 6 = true by decide +kernel) rfl) ?_
  refine mk_p (M := mG_0) (i := .aload_n 0) (len := 1) (f' := (148, [(3, .int 0), (2, .ref 121), (1, .ref 0), (0, .retAddr 0)], [.retAddr 0, .int a2, .int a1, .ref 0])) mJ_0 (by decide +kernel) rfl ?_
  refine mk_p (M := mG_0) (i := .iload_n 3) (len := 1) (f' := (149, [(3, .int 0), (2, .ref 121), (1, .ref 0), (0, .retAddr 0)], [.int 0, .retAddr 0, .int a2, .int a1, .ref 0])) mJ_0 (by decide +kernel) rfl ?_
  refine mk_v (M := mG_0) (i := .iconst 3) (len := 1) (pc' := 150) (v' := .int 3) (st' := [.int 0, .retAddr 0, .int a2, .int a1, .ref 0]) mJ_0 (by decide +kernel) rfl (by decide +kernel) ?_
  refine mk_v (M := mG_0) (i := .iadd) (len := 1) (pc' := 151) (v' := .int 3) (st' := [.retAddr 0, .int a2, .int a1, .ref 0]) mJ_0 (by decide +kernel) rfl (by decide +kernel) ?_
  refine mk_h (M := mG_0) (i := .iaload) (len := 1) (f' := (152, [(3, .int 0), (2, .ref 121), (1, .ref 0), (0, .retAddr 0)], [.int a3, .int a2, .int a1, .ref 0])) (h' := h) (sl' := sl) mJ_0 (by decide +kernel) rfl (mh_ial (xs := [a0, a1, a2, a3, a4, a5]) (x := 3) rfl (show mi_in 3 6 = true by decide +kernel) rfl) ?_
  refine mk_p (M := mG_0) (i := .aload_n 0) (len := 1) (f' := (153, [(3, .int 0), (2, .ref 121), (1, .ref 0), (0, .retAddr 0)], [.retAddr 0, .int a3, .int a2, .int a1, .ref 0])) mJ_0 (by decide +kernel) rfl ?_
  refine mk_p (M := mG_0) (i := .iload_n 3) (len := 1) (f' := (154, [(3, .int 0), (2, .ref 121), (1, .ref 0), (0, .retAddr 0)], [.int 0, .retAddr 0, .int a3, .int a2, .int a1, .ref 0])) mJ_0 (by decide +kernel) rfl ?_
  refine mk_v (M := mG_0) (i := .iconst 4) (len := 1) (pc' := 155) (v' := .int 4) (st' := [.int 0, .retAddr 0, .int a3, .int a2, .int a1, .ref 0]) mJ_0 (by decide +kernel) rfl (by decide +kernel) ?_
  refine mk_v (M := mG_0) (i := .iadd) (len := 1) (pc' := 156) (v' := .int 4) (st' := [.retAddr 0, .int a3, .int a2, .int a1, .ref 0]) mJ_0 (by decide +kernel) rfl (by decide +kernel) ?_
  refine mk_h (M := mG_0) (i := .iaload) (len := 1) (f' := (157, [(3, .int 0), (2, .ref 121), (1, .ref 0), (0, .retAddr 0)], [.int a4, .int a3, .int a2, .int a1, .ref 0])) (h' := h) (sl' := sl) mJ_0 (by decide +kernel) rfl (mh_ial (xs := [a0, a1, a2, a3, a4, a5]) (x := 4) rfl (show mi_in 4 6 = true by decide +kernel) rfl) ?_
  refine mk_p (M := mG_0) (i := .aload_n 0) (len := 1) (f' := (158, [(3, .int 0), (2, .ref 121), (1, .ref 0), (0, .retAddr 0)], [.retAddr 0, .int a4, .int a3, .int a2, .int a1, .ref 0])) mJ_0 (by decide +kernel) rfl ?_
  refine mk_p (M := mG_0) (i := .iload_n 3) (len := 1) (f' := (159, [(3, .int 0), (2, .ref 121), (1, .ref 0), (0, .retAddr 0)], [.int 0, .retAddr 0, .int a4, .int a3, .int a2, .int a1, .ref 0])) mJ_0 (by decide +kernel) rfl ?_
  refine mk_v (M := mG_0) (i := .iconst 5) (len := 1) (pc' := 160) (v' := .int 5) (st' := [.int 0, .retAddr 0, .int a4, .int a3, .int a2, .int a1, .ref 0]) mJ_0 (by decide +kernel) rfl (by decide +kernel) ?_
  refine mk_v (M := mG_0) (i := .iadd) (len := 1) (pc' := 161) (v' := .int 5) (st' := [.retAddr 0, .int a4, .int a3, .int a2, .int a1, .ref 0]) mJ_0 (by decide +kernel) rfl (by decide +kernel) ?_
  refine mk_h (M := mG_0) (i := .iaload) (len := 1) (f' := (162, [(3, .int 0), (2, .ref 121), (1, .ref 0), (0, .retAddr 0)], [.int a5, .int a4, .int a3, .int a2, .int a1, .ref 0])) (h' := h) (sl' := sl) mJ_0 (by decide +kernel) rfl (mh_ial (xs := [a0, a1, a2, a3, a4, a5]) (x := 5) rfl (show mi_in 5 6 = true by decide +kernel) rfl) ?_
  refine mk_c (M := mG_0) (i := .invokevirtual 13) (len := 3) (M' := mG_33) (j' := 33) (as := [.ref 0, .int a1, .int a2, .int a3, .int a4, .int a5]) (rest := []) mJ_0 (by decide +kernel) rfl rfl rfl rfl (mh_virt (n := 5) (a := 0) (ci := 11) (by decide +kernel) rfl g0 (Nat.le_of_ble_eq_true rfl) rfl) mJ_33 (Nat.le_of_ble_eq_true rfl) (mi_pos g0) ?_
  refine mi_ok.mono (lwsX11_feed_5 a1 a2 a3 a4 a5 hl g0 g1 g121 g214) ?_
  rintro _ h1 _ ⟨rfl, rfl, hl, ys1, ys2, g0, g1, g121, g214⟩
  show mi_ok _ mi_Γ (mi_ev [a0, a1, a2, a3, a4, a5]) 0 (165, [(3, .int 0), (2, .ref 121), (1, .ref 0), (0, .retAddr 0)], [.int 20]) h1 sl
  refine mk_p (M := mG_0) (i := .aload_n 2) (len := 1) (f' := (166, [(3, .int 0), (2, .ref 121), (1, .ref 0), (0, .retAddr 0)], [.ref 121, .int 20])) mJ_0 (by decide +kernel) rfl ?_
  refine mk_p (M := mG_0) (i := .aload_n 0) (len := 1) (f' := (167, [(3, .int 0), (2, .ref 121), (1, .ref 0), (0, .retAddr 0)], [.retAddr 0, .ref 121, .int 20])) mJ_0 (by decide +kernel) rfl ?_
  refine mk_p (M := mG_0) (i := .iload_n 3) (len := 1) (f' := (168, [(3, .int 0), (2, .ref 121), (1, .ref 0), (0, .retAddr 0)], [.int 0, .retAddr 0, .ref 121, .int 20])) mJ_0 (by decide +kernel) rfl ?_
  refine mk_v (M := mG_0) (i := .iconst 1) (len := 1) (pc' := 169) (v' := .int 1) (st' := [.int 0, .retAddr 0, .ref 121, .int 20]) mJ_0 (by decide +kernel) rfl (by decide +kernel) ?_
  refine mk_v (M := mG_0) (i := .iadd) (len := 1) (pc' := 170) (v' := .int 1) (st' := [.retAddr 0, .ref 121, .int 20]) mJ_0 (by decide +kernel) rfl (by decide +kernel) ?_
  refine mk_h (M := mG_0) (i := .iaload) (len := 1) (f' := (171, [(3, .int 0), (2, .ref 121), (1, .ref 0), (0, .retAddr 0)], [.int a1, .ref 121, .int 20])) (h' := h1) (sl' := sl) mJ_0 (by decide +kernel) rfl (mh_ial (xs := [a0, a1, a2, a3, a4, a5]) (x := 1) rfl (show mi_in 1 6 = true by decide +kernel) rfl) ?_
  refine mk_p (M := mG_0) (i := .aload_n 0) (len := 1) (f' := (172, [(3, .int 0), (2, .ref 121), (1, .ref 0), (0, .retAddr 0)], [.retAddr 0, .int a1, .ref 121, .int 20])) mJ_0 (by decide +kernel) rfl ?_
  refine mk_p (M := mG_0) (i := .iload_n 3) (len := 1) (f' := (173, [(3, .int 0), (2, .ref 121), (1, .ref 0), (0, .retAddr 0)], [.int 0, .retAddr 0, .int a1, .ref 121, .int 20])) mJ_0 (by decide +kernel) rfl ?_
  refine mk_v (M := mG_0) (i := .iconst 2) (len := 1) (pc' := 174) (v' := .int 2) (st' := [.int 0, .retAddr 0, .int a1, .ref 121, .int 20]) mJ_0 (by decide +kernel) rfl (by decide +kernel) ?_
  refine mk_v (M := mG_0) (i := .iadd) (len := 1) (pc' := 175) (v' := .int 2) (st' := [.retAddr 0, .int a1, .ref 121, .int 20]) mJ_0 (by decide +kernel) rfl (by decide +kernel) ?_
  refine mk_h (M := mG_0) (i := .iaload) (len := 1) (f' := (176, [(3, .int 0), (2, .ref 121), (1, .ref 0), (0, .retAddr 0)], [.int a2, .int a1, .ref 121, .int 20])) (h' := h1) (sl' := sl) mJ_0 (by decide +kernel) rfl (mh_ial (xs := [a0, a1, a2, a3, a4, a5]) (x := 2) rfl (show mi_in 2 6 = true by decide +kernel) rfl) ?_
  refine mk_p (M := mG_0) (i := .aload_n 0) (len := 1) (f' := (177, [(3, .int 0), (2, .ref 121), (1, .ref 0), (0, .retAddr 0)], [.retAddr 0, .int a2, .int a1, .ref 121, .int 20])) mJ_0 (by decide +kernel) rfl ?_
  refine mk_p (M := mG_0) (i := .iload_n 3) (len := 1) (f' := (178, [(3, .int 0), (2, .ref 121), (1, .ref 0), (0, .retAddr 0)], [.int 0, .retAddr 0, .int a2, .int a1, .ref 121, .int 20])) mJ_0 (by decide +kernel) rfl ?_
  refine mk_v (M := mG_0) (i := .iconst 3) (len := 1) (pc' := 179) (v' := .int 3) (st' := [.int 0, .retAddr 0, .int a2, .int a1, .ref 121, .int 20]) mJ_0 (by decide +kernel) rfl (by decide +kernel) ?_
  refine mk_v (M := mG_0) (i := .iadd) (len := 1) (pc' := 180) (v' := .int 3) (st' := [.retAddr 0, .int a2, .int a1, .ref 121, .int 20]) mJ_0 (by decide +kernel) rfl (by decide +kernel) ?_
  refine mk_h (M := mG_0) (i := .iaload) (len := 1) (f' := (181, [(3, .int 0), (2, .ref 121), (1, .ref 0), (0, .retAddr 0)], [.int a3, .int a2, .int a1, .ref 121, .int 20])) (h' := h1) (sl' := sl) mJ_0 (by decide +kernel) rfl (mh_ial (xs := [a0, a1, a2, a3, a4, a5]) (x := 3) rfl (show mi_in 3 6 = true by decide +kernel) rfl) ?_
  refine mk_p (M := mG_0) (i := .aload_n 0) (len := 1) (f' := (182, [(3, .int 0), (2, .ref 121), (1, .ref 0), (0, .retAddr 0)], [.retAddr 0, .int a3, .int a2, .int a1, .ref 121, .int 20])) mJ_0 (by decide +kernel) rfl ?_
  refine mk_p (M := mG_0) (i := .iload_n 3) (len := 1) (f' := (183, [(3, .int 0), (2, .ref 121), (1, .ref 0), (0, .retAddr 0)], [.int 0, .retAddr 0, .int a3, .int a2, .int a1, .ref 121, .int 20])) mJ_0 (by decide +kernel) rfl ?_
  refine mk_v (M := mG_0) (i := .iconst 4) (len := 1) (pc' := 184) (v' := .int 4) (st' := [.int 0, .retAddr 0, .int a3, .int a2, .int a1, .ref 121, .int 20]) mJ_0 (by decide +kernel) rfl (by decide +kernel) ?_
  refine mk_v (M := mG_0) (i := .iadd) (len := 1) (pc' := 185) (v' := .int 4) (st' := [.retAddr 0, .int a3, .int a2, .int a1, .ref 121, .int 20]) mJ_0 (by decide +kernel) rfl (by decide +kernel) ?_
  refine mk_h (M := mG_0) (i := .iaload) (len := 1) (f' := (186, [(3, .int 0), (2, .ref 121), (1, .ref 0), (0, .retAddr 0)], [.int a4, .int a3, .int a2, .int a1, .ref 121, .int 20])) (h' := h1) (sl' := sl) mJ_0 (by decide +kernel) rfl (mh_ial (xs := [a0, a1, a2, a3, a4, a5]) (x := 4) rfl (show mi_in 4 6 = true by decide +kernel) rfl) ?_
  refine mk_p (M := mG_0) (i := .aload_n 0) (len := 1) (f' := (187, [(3, .int 0), (2, .ref 121), (1, .ref 0), (0, .retAddr 0)], [.retAddr 0, .int a4, .int a3, .int a2, .int a1, .ref 121, .int 20])) mJ_0 (by decide +kernel) rfl ?_
  refine mk_p (M := mG_0) (i := .iload_n 3) (len := 1) (f' := (188, [(3, .int 0), (2, .ref 121), (1, .ref 0), (0, .retAddr 0)], [.int 0, .retAddr 0, .int a4, .int a3, .int a2, .int a1, .ref 121, .int 20])) mJ_0 (by decide +kernel) rfl ?_
  refine mk_v (M := mG_0) (i := .iconst 5) (len := 1) (pc' := 189) (v' := .int 5) (st' := [.int 0, .retAddr 0, .int a4, .int a3, .int a2, .int a1, .ref 121, .int 20]) mJ_0 (by decide +kernel) rfl (by decide +kernel) ?_
  refine mk_v (M := mG_0) (i := .iadd) (len := 1) (pc' := 190) (v' := .int 5) (st' := [.retAddr 0, .int a4, .int a3, .int a2, .int a1, .ref 121, .int 20]) mJ_0 (by decide +kernel) rfl (by decide +kernel) ?_
  refine mk_h (M := mG_0) (i := .iaload) (len := 1) (f' := (191, [(3, .int 0), (2, .ref 121), (1, .ref 0), (0, .retAddr 0)], [.int a5, .int a4, .int a3, .int a2, .int a1, .ref 121, .int 20])) (h' := h1) (sl' := sl) mJ_0 (by decide +kernel) rfl (mh_ial (xs := [a0, a1, a2, a3, a4, a5]) (x := 5) rfl (show mi_in 5 6 = true by decide +kernel) rfl) ?_
  refine mk_c (M := mG_0) (i := .invokevirtual 17) (len := 3) (M' := mG_64) (j' := 64) (as := [.ref 121, .int a1, .int a2, .int a3, .int a4, .int a5]) (rest := [.int 20]) mJ_0 (by decide +kernel) rfl rfl rfl rfl (mh_virt (n := 5) (a := 121) (ci := 13) (by decide +kernel) rfl g121 (Nat.le_of_ble_eq_true rfl) rfl) mJ_64 (Nat.le_of_ble_eq_true rfl) (mi_pos g121) ?_
  refine mi_ok.mono (lwsX13_feed_11 a1 a2 a3 a4 a5 hl g0 g1 g121 g214) ?_
  rintro _ h2 _ ⟨rfl, rfl, hl, ys3, ys4, g0, g1, g121, g214⟩
  show mi_ok _ mi_Γ (mi_ev [a0, a1, a2, a3, a4, a5]) 0 (194, [(3, .int 0), (2, .ref 121), (1, .ref 0), (0, .retAddr 0)], [.int 20, .int 20]) h2 sl
  refine mk_t (M := mG_0) (i := .if_icmp .eq 481) (len := 3) (q := decide ((20 : Int32) = (20 : Int32))) (off := 481) (t := 675) (st' := []) mJ_0 (by decide +kernel) rfl (by decide +kernel) (by decide +kernel) ?_
  refine mk_i (M := mG_0) (len := 3) (k := 3) (n := 6) (x := 0) (y := 6) (lv' := [(3, .int 6), (2, .ref 121), (1, .ref 0), (0, .retAddr 0)]) (pc' := 678) mJ_0 (by decide +kernel) rfl (by decide +kernel) (by decide +kernel) rfl rfl ?_
  refine mk_g (M := mG_0) (len := 3) (off := (-660)) (t := 18) mJ_0 (by decide +kernel) (by decide +kernel) ?_
  refine mk_p (M := mG_0) (i := .iload_n 3) (len := 1) (f' := (19, [(3, .int 6), (2, .ref 121), (1, .ref 0), (0, .retAddr 0)], [.int 6])) mJ_0 (by decide +kernel) rfl ?_
  refine mk_p (M := mG_0) (i := .aload_n 0) (len := 1) (f' := (20, [(3, .int 6), (2, .ref 121), (1, .ref 0), (0, .retAddr 0)], [.retAddr 0, .int 6])) mJ_0 (by decide +kernel) rfl ?_
  refine mk_h (M := mG_0) (i := .arraylength) (len := 1) (f' := (21, [(3, .int 6), (2, .ref 121), (1, .ref 0), (0, .retAddr 0)], [.int 6, .int 6])) (h' := h2) (sl' := sl) mJ_0 (by decide +kernel) rfl rfl ?_
  refine mk_v (M := mG_0) (i := .bipush 6) (len := 2) (pc' := 23) (v' := .int 6) (st' := [.int 6, .int 6]) mJ_0 (by decide +kernel) rfl (by decide +kernel) ?_
  refine mk_v (M := mG_0) (i := .isub) (len := 1) (pc' := 24) (v' := .int 0) (st' := [.int 6]) mJ_0 (by decide +kernel) rfl (by decide +kernel) ?_
  refine mk_t (M := mG_0) (i := .if_icmp .gt 657) (len := 3) (q := decide ((0 : Int32) < (6 : Int32))) (off := 657) (t := 681) (st' := []) mJ_0 (by decide +kernel) rfl (by decide +kernel) (by decide +kernel) ?_
  refine mk_v (M := mG_0) (i := .iconst 1) (len := 1) (pc' := 682) (v' := .int 1) (st' := []) mJ_0 (by decide +kernel) rfl (by decide +kernel) ?_
  refine mk_r (M := mG_0) (i := .ireturn) (len := 1) (r := some (.int 1)) mJ_0 (by decide +kernel) rfl rfl (by decide +kernel) ?_
  exact ⟨rfl, hl, rfl⟩
