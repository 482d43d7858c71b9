/-! feed in any state: refused twice, taken. -/
set_option maxRecDepth 20000 in
theorem fd_c_n {sl : Nat} {ev : mi_Ev} {h : List mi_C} {fs : List Value} {xs : List Int32} (u1 u2 u3 u4 u5 n m : Int32) (N A : Nat) (hn : n.toInt = (N : Int)) (hm : m.toInt = (A : Int)) (hN : N ≤ 16000) (c1 : 16000 < N + 20) (g0 : h[0]? = some (.inl (11, fs))) (f0_0 : fs[0]? = some (.ref 1)) (f0_1 : fs[1]? = some (.int n)) (f0_2 : fs[2]? = some (.int m)) (g1 : h[1]? = some (.inr (0, 16000, .inl xs))) : mi_ok (fun r h' sl' => r = some (.int (-1)) ∧ h' = h ∧ sl = sl') mi_Γ ev 33 (0, [(0, .ref 0), (1, .int u1), (2, .int u2), (3, .int u3), (4, .int u4), (5, .int u5)], []) h sl := by
  have fr : ∀ b : Nat, 0 ≠ b → 1 ≠ b → h[b]? = h[b]? := fun _ _ _ => rfl
  have o0 : ∀ q : Nat, 1 ≠ q → 2 ≠ q → fs[q]? = fs[q]? := fun _ _ _ => rfl
  have hl : h.length = h.length := rfl
  refine mk_p (M := mG_33) (i := .aload_n 0) (len := 1) (f' := (1, [(0, .ref 0), (1, .int (u1)), (2, .int (u2)), (3, .int (u3)), (4, .int (u4)), (5, .int (u5))], [.ref 0])) mJ_33 (by decide +kernel) rfl ?_
  refine mk_h (M := mG_33) (i := .getfield 72) (len := 3) (f' := (4, [(0, .ref 0), (1, .int (u1)), (2, .int (u2)), (3, .int (u3)), (4, .int (u4)), (5, .int (u5))], [.int n])) (h' := h) (sl' := sl) mJ_33 (by decide +kernel) rfl (mh_getf (ci := 11) (k := 1) (by decide +kernel) g0 f0_1) ?_
  refine mk_v (M := mG_33) (i := .bipush 20) (len := 2) (pc' := 6) (v' := .int 20) (st' := [.int n]) mJ_33 (by decide +kernel) rfl (by decide +kernel) ?_
  have lt := (show ((20 : Int32)).toInt = 20 from by decide +kernel)
  refine mk_add (M := mG_33) (len := 1) (x := n) (y := 20) (pc' := 7) mJ_33 (by decide +kernel) (by omega) (by omega) rfl (fun w1 dw1 ew1 => ?_)
  rw [lt] at ew1
  refine mk_v (M := mG_33) (i := .sipush 16000) (len := 3) (pc' := 10) (v' := .int 16000) (st' := [.int w1]) mJ_33 (by decide +kernel) rfl (by decide +kernel) ?_
  refine mk_t (M := mG_33) (i := .if_icmp .gt 15) (len := 3) (q := decide ((16000 : Int32) < w1)) (off := 15) (t := 25) (st' := []) mJ_33 (by decide +kernel) rfl (by simp only [decide_eq_true_eq, decide_eq_false_iff_not, Int32.lt_iff_toInt_lt, Int32.le_iff_toInt_le, ← Int32.toInt_inj, (show ((16000 : Int32)).toInt = 16000 from by decide +kernel)]; omega) (by decide +kernel) ?_
  refine mk_v (M := mG_33) (i := .iconst (-1)) (len := 1) (pc' := 26) (v' := .int (-1)) (st' := []) mJ_33 (by decide +kernel) rfl (by decide +kernel) ?_
  refine mk_r (M := mG_33) (i := .ireturn) (len := 1) (r := some (.int (-1))) mJ_33 (by decide +kernel) rfl rfl (by decide +kernel) ?_
  exact ⟨rfl, rfl, rfl⟩
set_option maxRecDepth 20000 in
theorem fd_c_a {sl : Nat} {ev : mi_Ev} {h : List mi_C} {fs : List Value} {xs : List Int32} (u1 u2 u3 u4 u5 n m : Int32) (N A : Nat) (hn : n.toInt = (N : Int)) (hm : m.toInt = (A : Int)) (c1 : N + 20 ≤ 16000) (hA : A ≤ 65536) (c2 : 65536 < A + 20) (g0 : h[0]? = some (.inl (11, fs))) (f0_0 : fs[0]? = some (.ref 1)) (f0_1 : fs[1]? = some (.int n)) (f0_2 : fs[2]? = some (.int m)) (g1 : h[1]? = some (.inr (0, 16000, .inl xs))) : mi_ok (fun r h' sl' => r = some (.int (-1)) ∧ h' = h ∧ sl = sl') mi_Γ ev 33 (0, [(0, .ref 0), (1, .int u1), (2, .int u2), (3, .int u3), (4, .int u4), (5, .int u5)], []) h sl := by
  have fr : ∀ b : Nat, 0 ≠ b → 1 ≠ b → h[b]? = h[b]? := fun _ _ _ => rfl
  have o0 : ∀ q : Nat, 1 ≠ q → 2 ≠ q → fs[q]? = fs[q]? := fun _ _ _ => rfl
  have hl : h.length = h.length := rfl
  refine mk_p (M := mG_33) (i := .aload_n 0) (len := 1) (f' := (1, [(0, .ref 0), (1, .int (u1)), (2, .int (u2)), (3, .int (u3)), (4, .int (u4)), (5, .int (u5))], [.ref 0])) mJ_33 (by decide +kernel) rfl ?_
  refine mk_h (M := mG_33) (i := .getfield 72) (len := 3) (f' := (4, [(0, .ref 0), (1, .int (u1)), (2, .int (u2)), (3, .int (u3)), (4, .int (u4)), (5, .int (u5))], [.int n])) (h' := h) (sl' := sl) mJ_33 (by decide +kernel) rfl (mh_getf (ci := 11) (k := 1) (by decide +kernel) g0 f0_1) ?_
  refine mk_v (M := mG_33) (i := .bipush 20) (len := 2) (pc' := 6) (v' := .int 20) (st' := [.int n]) mJ_33 (by decide +kernel) rfl (by decide +kernel) ?_
  have lt := (show ((20 : Int32)).toInt = 20 from by decide +kernel)
  refine mk_add (M := mG_33) (len := 1) (x := n) (y := 20) (pc' := 7) mJ_33 (by decide +kernel) (by omega) (by omega) rfl (fun w1 dw1 ew1 => ?_)
  rw [lt] at ew1
  refine mk_v (M := mG_33) (i := .sipush 16000) (len := 3) (pc' := 10) (v' := .int 16000) (st' := [.int w1]) mJ_33 (by decide +kernel) rfl (by decide +kernel) ?_
  refine mk_f (M := mG_33) (i := .if_icmp .gt 15) (len := 3) (q := decide ((16000 : Int32) < w1)) (off := 15) (t := 25) (pc' := 13) (st' := []) mJ_33 (by decide +kernel) rfl (by simp only [decide_eq_true_eq, decide_eq_false_iff_not, Int32.lt_iff_toInt_lt, Int32.le_iff_toInt_le, ← Int32.toInt_inj, (show ((16000 : Int32)).toInt = 16000 from by decide +kernel)]; omega) (by decide +kernel) rfl ?_
  refine mk_p (M := mG_33) (i := .aload_n 0) (len := 1) (f' := (14, [(0, .ref 0), (1, .int (u1)), (2, .int (u2)), (3, .int (u3)), (4, .int (u4)), (5, .int (u5))], [.ref 0])) mJ_33 (by decide +kernel) rfl ?_
  refine mk_h (M := mG_33) (i := .getfield 75) (len := 3) (f' := (17, [(0, .ref 0), (1, .int (u1)), (2, .int (u2)), (3, .int (u3)), (4, .int (u4)), (5, .int (u5))], [.int m])) (h' := h) (sl' := sl) mJ_33 (by decide +kernel) rfl (mh_getf (ci := 11) (k := 2) (by decide +kernel) g0 f0_2) ?_
  refine mk_v (M := mG_33) (i := .bipush 20) (len := 2) (pc' := 19) (v' := .int 20) (st' := [.int m]) mJ_33 (by decide +kernel) rfl (by decide +kernel) ?_
  have lt := (show ((20 : Int32)).toInt = 20 from by decide +kernel)
  refine mk_add (M := mG_33) (len := 1) (x := m) (y := 20) (pc' := 20) mJ_33 (by decide +kernel) (by omega) (by omega) rfl (fun w2 dw2 ew2 => ?_)
  rw [lt] at ew2
  refine mk_h (M := mG_33) (i := .ldc 78) (len := 2) (f' := (22, [(0, .ref 0), (1, .int (u1)), (2, .int (u2)), (3, .int (u3)), (4, .int (u4)), (5, .int (u5))], [.int 65536, .int w2])) (h' := h) (sl' := sl) mJ_33 (by decide +kernel) rfl rfl ?_
  refine mk_f (M := mG_33) (i := .if_icmp .le 5) (len := 3) (q := decide (w2 ≤ (65536 : Int32))) (off := 5) (t := 27) (pc' := 25) (st' := []) mJ_33 (by decide +kernel) rfl (by simp only [decide_eq_true_eq, decide_eq_false_iff_not, Int32.lt_iff_toInt_lt, Int32.le_iff_toInt_le, ← Int32.toInt_inj, (show ((65536 : Int32)).toInt = 65536 from by decide +kernel)]; omega) (by decide +kernel) rfl ?_
  refine mk_v (M := mG_33) (i := .iconst (-1)) (len := 1) (pc' := 26) (v' := .int (-1)) (st' := []) mJ_33 (by decide +kernel) rfl (by decide +kernel) ?_
  refine mk_r (M := mG_33) (i := .ireturn) (len := 1) (r := some (.int (-1))) mJ_33 (by decide +kernel) rfl rfl (by decide +kernel) ?_
  exact ⟨rfl, rfl, rfl⟩
set_option maxRecDepth 20000 in
theorem fd_c_y {sl : Nat} {ev : mi_Ev} {h : List mi_C} {fs : List Value} {xs : List Int32} (u1 u2 u3 u4 u5 n m : Int32) (N A : Nat) (hn : n.toInt = (N : Int)) (hm : m.toInt = (A : Int)) (c1 : N + 20 ≤ 16000) (c2 : A + 20 ≤ 65536) (g0 : h[0]? = some (.inl (11, fs))) (f0_0 : fs[0]? = some (.ref 1)) (f0_1 : fs[1]? = some (.int n)) (f0_2 : fs[2]? = some (.int m)) (g1 : h[1]? = some (.inr (0, 16000, .inl xs))) : mi_ok (fun r h' sl' => sl = sl' ∧ h'.length = h.length ∧ (∃ (fs' : List Value) (n' m' : Int32), r = some (.int n') ∧ h'[0]? = some (.inl (11, fs')) ∧ fs'[1]? = some (.int n') ∧ fs'[2]? = some (.int m') ∧ n'.toInt = ((N + 20 : Nat) : Int) ∧ m'.toInt = ((A + 20 : Nat) : Int) ∧ ∀ q : Nat, 1 ≠ q → 2 ≠ q → fs'[q]? = fs[q]?) ∧ h'[1]? = some (.inr (0, 16000, .inl (fb_put (fb_put (fb_put (fb_put (fb_put xs (N + 0) (fb_c u1 24) (fb_c u1 16) (fb_c u1 8) (fb_c u1 0)) (N + 4) (fb_c u2 24) (fb_c u2 16) (fb_c u2 8) (fb_c u2 0)) (N + 8) (fb_c u3 24) (fb_c u3 16) (fb_c u3 8) (fb_c u3 0)) (N + 12) (fb_c u4 24) (fb_c u4 16) (fb_c u4 8) (fb_c u4 0)) (N + 16) (fb_c u5 24) (fb_c u5 16) (fb_c u5 8) (fb_c u5 0)))) ∧ ∀ b : Nat, 0 ≠ b → 1 ≠ b → h'[b]? = h[b]?) mi_Γ ev 33 (0, [(0, .ref 0), (1, .int u1), (2, .int u2), (3, .int u3), (4, .int u4), (5, .int u5)], []) h sl := by
  have fr : ∀ b : Nat, 0 ≠ b → 1 ≠ b → h[b]? = h[b]? := fun _ _ _ => rfl
  have o0 : ∀ q : Nat, 1 ≠ q → 2 ≠ q → fs[q]? = fs[q]? := fun _ _ _ => rfl
  have hl : h.length = h.length := rfl
  refine mk_p (M := mG_33) (i := .aload_n 0) (len := 1) (f' := (1, [(0, .ref 0), (1, .int (u1)), (2, .int (u2)), (3, .int (u3)), (4, .int (u4)), (5, .int (u5))], [.ref 0])) mJ_33 (by decide +kernel) rfl ?_
  refine mk_h (M := mG_33) (i := .getfield 72) (len := 3) (f' := (4, [(0, .ref 0), (1, .int (u1)), (2, .int (u2)), (3, .int (u3)), (4, .int (u4)), (5, .int (u5))], [.int n])) (h' := h) (sl' := sl) mJ_33 (by decide +kernel) rfl (mh_getf (ci := 11) (k := 1) (by decide +kernel) g0 f0_1) ?_
  refine mk_v (M := mG_33) (i := .bipush 20) (len := 2) (pc' := 6) (v' := .int 20) (st' := [.int n]) mJ_33 (by decide +kernel) rfl (by decide +kernel) ?_
  have lt := (show ((20 : Int32)).toInt = 20 from by decide +kernel)
  refine mk_add (M := mG_33) (len := 1) (x := n) (y := 20) (pc' := 7) mJ_33 (by decide +kernel) (by omega) (by omega) rfl (fun w1 dw1 ew1 => ?_)
  rw [lt] at ew1
  refine mk_v (M := mG_33) (i := .sipush 16000) (len := 3) (pc' := 10) (v' := .int 16000) (st' := [.int w1]) mJ_33 (by decide +kernel) rfl (by decide +kernel) ?_
  refine mk_f (M := mG_33) (i := .if_icmp .gt 15) (len := 3) (q := decide ((16000 : Int32) < w1)) (off := 15) (t := 25) (pc' := 13) (st' := []) mJ_33 (by decide +kernel) rfl (by simp only [decide_eq_true_eq, decide_eq_false_iff_not, Int32.lt_iff_toInt_lt, Int32.le_iff_toInt_le, ← Int32.toInt_inj, (show ((16000 : Int32)).toInt = 16000 from by decide +kernel)]; omega) (by decide +kernel) rfl ?_
  refine mk_p (M := mG_33) (i := .aload_n 0) (len := 1) (f' := (14, [(0, .ref 0), (1, .int (u1)), (2, .int (u2)), (3, .int (u3)), (4, .int (u4)), (5, .int (u5))], [.ref 0])) mJ_33 (by decide +kernel) rfl ?_
  refine mk_h (M := mG_33) (i := .getfield 75) (len := 3) (f' := (17, [(0, .ref 0), (1, .int (u1)), (2, .int (u2)), (3, .int (u3)), (4, .int (u4)), (5, .int (u5))], [.int m])) (h' := h) (sl' := sl) mJ_33 (by decide +kernel) rfl (mh_getf (ci := 11) (k := 2) (by decide +kernel) g0 f0_2) ?_
  refine mk_v (M := mG_33) (i := .bipush 20) (len := 2) (pc' := 19) (v' := .int 20) (st' := [.int m]) mJ_33 (by decide +kernel) rfl (by decide +kernel) ?_
  have lt := (show ((20 : Int32)).toInt = 20 from by decide +kernel)
  refine mk_add (M := mG_33) (len := 1) (x := m) (y := 20) (pc' := 20) mJ_33 (by decide +kernel) (by omega) (by omega) rfl (fun w2 dw2 ew2 => ?_)
  rw [lt] at ew2
  refine mk_h (M := mG_33) (i := .ldc 78) (len := 2) (f' := (22, [(0, .ref 0), (1, .int (u1)), (2, .int (u2)), (3, .int (u3)), (4, .int (u4)), (5, .int (u5))], [.int 65536, .int w2])) (h' := h) (sl' := sl) mJ_33 (by decide +kernel) rfl rfl ?_
  refine mk_t (M := mG_33) (i := .if_icmp .le 5) (len := 3) (q := decide (w2 ≤ (65536 : Int32))) (off := 5) (t := 27) (st' := []) mJ_33 (by decide +kernel) rfl (by simp only [decide_eq_true_eq, decide_eq_false_iff_not, Int32.lt_iff_toInt_lt, Int32.le_iff_toInt_le, ← Int32.toInt_inj, (show ((65536 : Int32)).toInt = 65536 from by decide +kernel)]; omega) (by decide +kernel) ?_
  refine mk_p (M := mG_33) (i := .aload_n 0) (len := 1) (f' := (28, [(0, .ref 0), (1, .int (u1)), (2, .int (u2)), (3, .int (u3)), (4, .int (u4)), (5, .int (u5))], [.ref 0])) mJ_33 (by decide +kernel) rfl ?_
  refine mk_p (M := mG_33) (i := .iload_n 1) (len := 1) (f' := (29, [(0, .ref 0), (1, .int (u1)), (2, .int (u2)), (3, .int (u3)), (4, .int (u4)), (5, .int (u5))], [.int (u1), .ref 0])) mJ_33 (by decide +kernel) rfl ?_
  refine mk_c (M := mG_33) (i := .invokevirtual 79) (len := 3) (M' := mG_34) (j' := 34) (as := [.ref 0, .int (u1)]) (rest := []) mJ_33 (by decide +kernel) rfl rfl rfl rfl (mh_virt (n := 1) (a := 0) (ci := 11) (by decide +kernel) rfl g0 (Nat.le_of_ble_eq_true rfl) rfl) mJ_34 (Nat.le_of_ble_eq_true rfl) (mi_pos g0) ?_
  refine mi_ok.mono (fw_c u1 n (N + 0) (by omega) (by omega) g0 f0_0 f0_1 g1) ?_
  rintro _ h3 _ ⟨rfl, rfl, ln, ⟨fs0_3, v3, g0, fk, ev3, fo⟩, g1, ho⟩
  have f0_0 := (fo 0 (by decide)).trans f0_0
  have f0_2 := (fo 2 (by decide)).trans f0_2
  have f0_1 := fk
  have o0 : ∀ q : Nat, 1 ≠ q → 2 ≠ q → fs0_3[q]? = fs[q]? := fun q k0 k1 => (fo q k0).trans (o0 q k0 k1)
  have fr : ∀ b : Nat, 0 ≠ b → 1 ≠ b → h3[b]? = h[b]? := fun b k0 k1 => (ho b k0 k1).trans (fr b k0 k1)
  have hl : h3.length = h.length := ln.trans hl
  show mi_ok _ mi_Γ ev 33 (32, [(0, .ref 0), (1, .int (u1)), (2, .int (u2)), (3, .int (u3)), (4, .int (u4)), (5, .int (u5))], []) h3 sl
  refine mk_p (M := mG_33) (i := .aload_n 0) (len := 1) (f' := (33, [(0, .ref 0), (1, .int (u1)), (2, .int (u2)), (3, .int (u3)), (4, .int (u4)), (5, .int (u5))], [.ref 0])) mJ_33 (by decide +kernel) rfl ?_
  refine mk_p (M := mG_33) (i := .iload_n 2) (len := 1) (f' := (34, [(0, .ref 0), (1, .int (u1)), (2, .int (u2)), (3, .int (u3)), (4, .int (u4)), (5, .int (u5))], [.int (u2), .ref 0])) mJ_33 (by decide +kernel) rfl ?_
  refine mk_c (M := mG_33) (i := .invokevirtual 79) (len := 3) (M' := mG_34) (j' := 34) (as := [.ref 0, .int (u2)]) (rest := []) mJ_33 (by decide +kernel) rfl rfl rfl rfl (mh_virt (n := 1) (a := 0) (ci := 11) (by decide +kernel) rfl g0 (Nat.le_of_ble_eq_true rfl) rfl) mJ_34 (Nat.le_of_ble_eq_true rfl) (mi_pos g0) ?_
  refine mi_ok.mono (fw_c u2 v3 (N + 4) (by omega) (by omega) g0 f0_0 f0_1 g1) ?_
  rintro _ h4 _ ⟨rfl, rfl, ln, ⟨fs0_4, v4, g0, fk, ev4, fo⟩, g1, ho⟩
  have f0_0 := (fo 0 (by decide)).trans f0_0
  have f0_2 := (fo 2 (by decide)).trans f0_2
  have f0_1 := fk
  have o0 : ∀ q : Nat, 1 ≠ q → 2 ≠ q → fs0_4[q]? = fs[q]? := fun q k0 k1 => (fo q k0).trans (o0 q k0 k1)
  have fr : ∀ b : Nat, 0 ≠ b → 1 ≠ b → h4[b]? = h[b]? := fun b k0 k1 => (ho b k0 k1).trans (fr b k0 k1)
  have hl : h4.length = h.length := ln.trans hl
  show mi_ok _ mi_Γ ev 33 (37, [(0, .ref 0), (1, .int (u1)), (2, .int (u2)), (3, .int (u3)), (4, .int (u4)), (5, .int (u5))], []) h4 sl
  refine mk_p (M := mG_33) (i := .aload_n 0) (len := 1) (f' := (38, [(0, .ref 0), (1, .int (u1)), (2, .int (u2)), (3, .int (u3)), (4, .int (u4)), (5, .int (u5))], [.ref 0])) mJ_33 (by decide +kernel) rfl ?_
  refine mk_p (M := mG_33) (i := .iload_n 3) (len := 1) (f' := (39, [(0, .ref 0), (1, .int (u1)), (2, .int (u2)), (3, .int (u3)), (4, .int (u4)), (5, .int (u5))], [.int (u3), .ref 0])) mJ_33 (by decide +kernel) rfl ?_
  refine mk_c (M := mG_33) (i := .invokevirtual 79) (len := 3) (M' := mG_34) (j' := 34) (as := [.ref 0, .int (u3)]) (rest := []) mJ_33 (by decide +kernel) rfl rfl rfl rfl (mh_virt (n := 1) (a := 0) (ci := 11) (by decide +kernel) rfl g0 (Nat.le_of_ble_eq_true rfl) rfl) mJ_34 (Nat.le_of_ble_eq_true rfl) (mi_pos g0) ?_
  refine mi_ok.mono (fw_c u3 v4 (N + 8) (by omega) (by omega) g0 f0_0 f0_1 g1) ?_
  rintro _ h5 _ ⟨rfl, rfl, ln, ⟨fs0_5, v5, g0, fk, ev5, fo⟩, g1, ho⟩
  have f0_0 := (fo 0 (by decide)).trans f0_0
  have f0_2 := (fo 2 (by decide)).trans f0_2
  have f0_1 := fk
  have o0 : ∀ q : Nat, 1 ≠ q → 2 ≠ q → fs0_5[q]? = fs[q]? := fun q k0 k1 => (fo q k0).trans (o0 q k0 k1)
  have fr : ∀ b : Nat, 0 ≠ b → 1 ≠ b → h5[b]? = h[b]? := fun b k0 k1 => (ho b k0 k1).trans (fr b k0 k1)
  have hl : h5.length = h.length := ln.trans hl
  show mi_ok _ mi_Γ ev 33 (42, [(0, .ref 0), (1, .int (u1)), (2, .int (u2)), (3, .int (u3)), (4, .int (u4)), (5, .int (u5))], []) h5 sl
  refine mk_p (M := mG_33) (i := .aload_n 0) (len := 1) (f' := (43, [(0, .ref 0), (1, .int (u1)), (2, .int (u2)), (3, .int (u3)), (4, .int (u4)), (5, .int (u5))], [.ref 0])) mJ_33 (by decide +kernel) rfl ?_
  refine mk_p (M := mG_33) (i := .iload 4) (len := 2) (f' := (45, [(0, .ref 0), (1, .int (u1)), (2, .int (u2)), (3, .int (u3)), (4, .int (u4)), (5, .int (u5))], [.int (u4), .ref 0])) mJ_33 (by decide +kernel) rfl ?_
  refine mk_c (M := mG_33) (i := .invokevirtual 79) (len := 3) (M' := mG_34) (j' := 34) (as := [.ref 0, .int (u4)]) (rest := []) mJ_33 (by decide +kernel) rfl rfl rfl rfl (mh_virt (n := 1) (a := 0) (ci := 11) (by decide +kernel) rfl g0 (Nat.le_of_ble_eq_true rfl) rfl) mJ_34 (Nat.le_of_ble_eq_true rfl) (mi_pos g0) ?_
  refine mi_ok.mono (fw_c u4 v5 (N + 12) (by omega) (by omega) g0 f0_0 f0_1 g1) ?_
  rintro _ h6 _ ⟨rfl, rfl, ln, ⟨fs0_6, v6, g0, fk, ev6, fo⟩, g1, ho⟩
  have f0_0 := (fo 0 (by decide)).trans f0_0
  have f0_2 := (fo 2 (by decide)).trans f0_2
  have f0_1 := fk
  have o0 : ∀ q : Nat, 1 ≠ q → 2 ≠ q → fs0_6[q]? = fs[q]? := fun q k0 k1 => (fo q k0).trans (o0 q k0 k1)
  have fr : ∀ b : Nat, 0 ≠ b → 1 ≠ b → h6[b]? = h[b]? := fun b k0 k1 => (ho b k0 k1).trans (fr b k0 k1)
  have hl : h6.length = h.length := ln.trans hl
  show mi_ok _ mi_Γ ev 33 (48, [(0, .ref 0), (1, .int (u1)), (2, .int (u2)), (3, .int (u3)), (4, .int (u4)), (5, .int (u5))], []) h6 sl
  refine mk_p (M := mG_33) (i := .aload_n 0) (len := 1) (f' := (49, [(0, .ref 0), (1, .int (u1)), (2, .int (u2)), (3, .int (u3)), (4, .int (u4)), (5, .int (u5))], [.ref 0])) mJ_33 (by decide +kernel) rfl ?_
  refine mk_p (M := mG_33) (i := .iload 5) (len := 2) (f' := (51, [(0, .ref 0), (1, .int (u1)), (2, .int (u2)), (3, .int (u3)), (4, .int (u4)), (5, .int (u5))], [.int (u5), .ref 0])) mJ_33 (by decide +kernel) rfl ?_
  refine mk_c (M := mG_33) (i := .invokevirtual 79) (len := 3) (M' := mG_34) (j' := 34) (as := [.ref 0, .int (u5)]) (rest := []) mJ_33 (by decide +kernel) rfl rfl rfl rfl (mh_virt (n := 1) (a := 0) (ci := 11) (by decide +kernel) rfl g0 (Nat.le_of_ble_eq_true rfl) rfl) mJ_34 (Nat.le_of_ble_eq_true rfl) (mi_pos g0) ?_
  refine mi_ok.mono (fw_c u5 v6 (N + 16) (by omega) (by omega) g0 f0_0 f0_1 g1) ?_
  rintro _ h7 _ ⟨rfl, rfl, ln, ⟨fs0_7, v7, g0, fk, ev7, fo⟩, g1, ho⟩
  have f0_0 := (fo 0 (by decide)).trans f0_0
  have f0_2 := (fo 2 (by decide)).trans f0_2
  have f0_1 := fk
  have o0 : ∀ q : Nat, 1 ≠ q → 2 ≠ q → fs0_7[q]? = fs[q]? := fun q k0 k1 => (fo q k0).trans (o0 q k0 k1)
  have fr : ∀ b : Nat, 0 ≠ b → 1 ≠ b → h7[b]? = h[b]? := fun b k0 k1 => (ho b k0 k1).trans (fr b k0 k1)
  have hl : h7.length = h.length := ln.trans hl
  show mi_ok _ mi_Γ ev 33 (54, [(0, .ref 0), (1, .int (u1)), (2, .int (u2)), (3, .int (u3)), (4, .int (u4)), (5, .int (u5))], []) h7 sl
  refine mk_p (M := mG_33) (i := .aload_n 0) (len := 1) (f' := (55, [(0, .ref 0), (1, .int (u1)), (2, .int (u2)), (3, .int (u3)), (4, .int (u4)), (5, .int (u5))], [.ref 0])) mJ_33 (by decide +kernel) rfl ?_
  refine mk_p (M := mG_33) (i := .dup) (len := 1) (f' := (56, [(0, .ref 0), (1, .int (u1)), (2, .int (u2)), (3, .int (u3)), (4, .int (u4)), (5, .int (u5))], [.ref 0, .ref 0])) mJ_33 (by decide +kernel) rfl ?_
  refine mk_h (M := mG_33) (i := .getfield 75) (len := 3) (f' := (59, [(0, .ref 0), (1, .int (u1)), (2, .int (u2)), (3, .int (u3)), (4, .int (u4)), (5, .int (u5))], [.int m, .ref 0])) (h' := h7) (sl' := sl) mJ_33 (by decide +kernel) rfl (mh_getf (ci := 11) (k := 2) (by decide +kernel) g0 f0_2) ?_
  refine mk_v (M := mG_33) (i := .bipush 20) (len := 2) (pc' := 61) (v' := .int 20) (st' := [.int m, .ref 0]) mJ_33 (by decide +kernel) rfl (by decide +kernel) ?_
  have lt := (show ((20 : Int32)).toInt = 20 from by decide +kernel)
  refine mk_add (M := mG_33) (len := 1) (x := m) (y := 20) (pc' := 62) mJ_33 (by decide +kernel) (by omega) (by omega) rfl (fun w8 dw8 ew8 => ?_)
  rw [lt] at ew8
  refine mk_wo (M := mG_33) (len := 3) (x := 75) (ci := 11) (k := 2) (ty := .int) (pc' := 65) mJ_33 (by decide +kernel) (by decide +kernel) g0 f0_2 rfl rfl rfl (fun h9 fs0_9 ln g0 _ fk fo ho => ?_)
  have f0_0 := (fo 0 (by decide)).trans f0_0
  have f0_1 := (fo 1 (by decide)).trans f0_1
  have f0_2 := fk
  have o0 : ∀ q : Nat, 1 ≠ q → 2 ≠ q → fs0_9[q]? = fs[q]? := fun q k0 k1 => (fo q k1).trans (o0 q k0 k1)
  have g1 := (ho 1 (by decide)).trans g1
  have fr : ∀ b : Nat, 0 ≠ b → 1 ≠ b → h9[b]? = h[b]? := fun b k0 k1 => (ho b k0).trans (fr b k0 k1)
  have hl : h9.length = h.length := ln.trans hl
  refine mk_p (M := mG_33) (i := .aload_n 0) (len := 1) (f' := (66, [(0, .ref 0), (1, .int (u1)), (2, .int (u2)), (3, .int (u3)), (4, .int (u4)), (5, .int (u5))], [.ref 0])) mJ_33 (by decide +kernel) rfl ?_
  refine mk_h (M := mG_33) (i := .getfield 72) (len := 3) (f' := (69, [(0, .ref 0), (1, .int (u1)), (2, .int (u2)), (3, .int (u3)), (4, .int (u4)), (5, .int (u5))], [.int v7])) (h' := h9) (sl' := sl) mJ_33 (by decide +kernel) rfl (mh_getf (ci := 11) (k := 1) (by decide +kernel) g0 f0_1) ?_
  refine mk_r (M := mG_33) (i := .ireturn) (len := 1) (r := some (.int v7)) mJ_33 (by decide +kernel) rfl rfl (mr_i rfl) ?_
  exact ⟨rfl, hl, ⟨_, _, _, rfl, g0, f0_1, f0_2, by omega, by omega, o0⟩, g1, fr⟩
set_option maxRecDepth 20000 in
theorem fd_m_n {sl : Nat} {ev : mi_Ev} {h : List mi_C} {fs : List Value} {xs : List Int32} (u1 u2 u3 u4 u5 n m : Int32) (N A : Nat) (hn : n.toInt = (N : Int)) (hm : m.toInt = (A : Int)) (hN : N ≤ 16000) (c1 : 16000 < N + 20) (g121 : h[121]? = some (.inl (13, fs))) (f121_3 : fs[3]? = some (.ref 214)) (f121_4 : fs[4]? = some (.int n)) (f121_5 : fs[5]? = some (.int m)) (g214 : h[214]? = some (.inr (0, 16000, .inl xs))) : mi_ok (fun r h' sl' => r = some (.int (-1)) ∧ h' = h ∧ sl = sl') mi_Γ ev 64 (0, [(0, .ref 121), (1, .int u1), (2, .int u2), (3, .int u3), (4, .int u4), (5, .int u5)], []) h sl := by
  have fr : ∀ b : Nat, 121 ≠ b → 214 ≠ b → h[b]? = h[b]? := fun _ _ _ => rfl
  have o121 : ∀ q : Nat, 4 ≠ q → 5 ≠ q → fs[q]? = fs[q]? := fun _ _ _ => rfl
  have hl : h.length = h.length := rfl
  refine mk_p (M := mG_64) (i := .aload_n 0) (len := 1) (f' := (1, [(0, .ref 121), (1, .int (u1)), (2, .int (u2)), (3, .int (u3)), (4, .int (u4)), (5, .int (u5))], [.ref 121])) mJ_64 (by decide +kernel) rfl ?_
  refine mk_h (M := mG_64) (i := .getfield 141) (len := 3) (f' := (4, [(0, .ref 121), (1, .int (u1)), (2, .int (u2)), (3, .int (u3)), (4, .int (u4)), (5, .int (u5))], [.int n])) (h' := h) (sl' := sl) mJ_64 (by decide +kernel) rfl (mh_getf (ci := 13) (k := 4) (by decide +kernel) g121 f121_4) ?_
  refine mk_v (M := mG_64) (i := .bipush 20) (len := 2) (pc' := 6) (v' := .int 20) (st' := [.int n]) mJ_64 (by decide +kernel) rfl (by decide +kernel) ?_
  have lt := (show ((20 : Int32)).toInt = 20 from by decide +kernel)
  refine mk_add (M := mG_64) (len := 1) (x := n) (y := 20) (pc' := 7) mJ_64 (by decide +kernel) (by omega) (by omega) rfl (fun w1 dw1 ew1 => ?_)
  rw [lt] at ew1
  refine mk_v (M := mG_64) (i := .sipush 16000) (len := 3) (pc' := 10) (v' := .int 16000) (st' := [.int w1]) mJ_64 (by decide +kernel) rfl (by decide +kernel) ?_
  refine mk_t (M := mG_64) (i := .if_icmp .gt 15) (len := 3) (q := decide ((16000 : Int32) < w1)) (off := 15) (t := 25) (st' := []) mJ_64 (by decide +kernel) rfl (by simp only [decide_eq_true_eq, decide_eq_false_iff_not, Int32.lt_iff_toInt_lt, Int32.le_iff_toInt_le, ← Int32.toInt_inj, (show ((16000 : Int32)).toInt = 16000 from by decide +kernel)]; omega) (by decide +kernel) ?_
  refine mk_v (M := mG_64) (i := .iconst (-1)) (len := 1) (pc' := 26) (v' := .int (-1)) (st' := []) mJ_64 (by decide +kernel) rfl (by decide +kernel) ?_
  refine mk_r (M := mG_64) (i := .ireturn) (len := 1) (r := some (.int (-1))) mJ_64 (by decide +kernel) rfl rfl (by decide +kernel) ?_
  exact ⟨rfl, rfl, rfl⟩
set_option maxRecDepth 20000 in
theorem fd_m_a {sl : Nat} {ev : mi_Ev} {h : List mi_C} {fs : List Value} {xs : List Int32} (u1 u2 u3 u4 u5 n m : Int32) (N A : Nat) (hn : n.toInt = (N : Int)) (hm : m.toInt = (A : Int)) (c1 : N + 20 ≤ 16000) (hA : A ≤ 65536) (c2 : 65536 < A + 20) (g121 : h[121]? = some (.inl (13, fs))) (f121_3 : fs[3]? = some (.ref 214)) (f121_4 : fs[4]? = some (.int n)) (f121_5 : fs[5]? = some (.int m)) (g214 : h[214]? = some (.inr (0, 16000, .inl xs))) : mi_ok (fun r h' sl' => r = some (.int (-1)) ∧ h' = h ∧ sl = sl') mi_Γ ev 64 (0, [(0, .ref 121), (1, .int u1), (2, .int u2), (3, .int u3), (4, .int u4), (5, .int u5)], []) h sl := by
  have fr : ∀ b : Nat, 121 ≠ b → 214 ≠ b → h[b]? = h[b]? := fun _ _ _ => rfl
  have o121 : ∀ q : Nat, 4 ≠ q → 5 ≠ q → fs[q]? = fs[q]? := fun _ _ _ => rfl
  have hl : h.length = h.length := rfl
  refine mk_p (M := mG_64) (i := .aload_n 0) (len := 1) (f' := (1, [(0, .ref 121), (1, .int (u1)), (2, .int (u2)), (3, .int (u3)), (4, .int (u4)), (5, .int (u5))], [.ref 121])) mJ_64 (by decide +kernel) rfl ?_
  refine mk_h (M := mG_64) (i := .getfield 141) (len := 3) (f' := (4, [(0, .ref 121), (1, .int (u1)), (2, .int (u2)), (3, .int (u3)), (4, .int (u4)), (5, .int (u5))], [.int n])) (h' := h) (sl' := sl) mJ_64 (by decide +kernel) rfl (mh_getf (ci := 13) (k := 4) (by decide +kernel) g121 f121_4) ?_
  refine mk_v (M := mG_64) (i := .bipush 20) (len := 2) (pc' := 6) (v' := .int 20) (st' := [.int n]) mJ_64 (by decide +kernel) rfl (by decide +kernel) ?_
  have lt := (show ((20 : Int32)).toInt = 20 from by decide +kernel)
  refine mk_add (M := mG_64) (len := 1) (x := n) (y := 20) (pc' := 7) mJ_64 (by decide +kernel) (by omega) (by omega) rfl (fun w1 dw1 ew1 => ?_)
  rw [lt] at ew1
  refine mk_v (M := mG_64) (i := .sipush 16000) (len := 3) (pc' := 10) (v' := .int 16000) (st' := [.int w1]) mJ_64 (by decide +kernel) rfl (by decide +kernel) ?_
  refine mk_f (M := mG_64) (i := .if_icmp .gt 15) (len := 3) (q := decide ((16000 : Int32) < w1)) (off := 15) (t := 25) (pc' := 13) (st' := []) mJ_64 (by decide +kernel) rfl (by simp only [decide_eq_true_eq, decide_eq_false_iff_not, Int32.lt_iff_toInt_lt, Int32.le_iff_toInt_le, ← Int32.toInt_inj, (show ((16000 : Int32)).toInt = 16000 from by decide +kernel)]; omega) (by decide +kernel) rfl ?_
  refine mk_p (M := mG_64) (i := .aload_n 0) (len := 1) (f' := (14, [(0, .ref 121), (1, .int (u1)), (2, .int (u2)), (3, .int (u3)), (4, .int (u4)), (5, .int (u5))], [.ref 121])) mJ_64 (by decide +kernel) rfl ?_
  refine mk_h (M := mG_64) (i := .getfield 144) (len := 3) (f' := (17, [(0, .ref 121), (1, .int (u1)), (2, .int (u2)), (3, .int (u3)), (4, .int (u4)), (5, .int (u5))], [.int m])) (h' := h) (sl' := sl) mJ_64 (by decide +kernel) rfl (mh_getf (ci := 13) (k := 5) (by decide +kernel) g121 f121_5) ?_
  refine mk_v (M := mG_64) (i := .bipush 20) (len := 2) (pc' := 19) (v' := .int 20) (st' := [.int m]) mJ_64 (by decide +kernel) rfl (by decide +kernel) ?_
  have lt := (show ((20 : Int32)).toInt = 20 from by decide +kernel)
  refine mk_add (M := mG_64) (len := 1) (x := m) (y := 20) (pc' := 20) mJ_64 (by decide +kernel) (by omega) (by omega) rfl (fun w2 dw2 ew2 => ?_)
  rw [lt] at ew2
  refine mk_h (M := mG_64) (i := .ldc 147) (len := 2) (f' := (22, [(0, .ref 121), (1, .int (u1)), (2, .int (u2)), (3, .int (u3)), (4, .int (u4)), (5, .int (u5))], [.int 65536, .int w2])) (h' := h) (sl' := sl) mJ_64 (by decide +kernel) rfl rfl ?_
  refine mk_f (M := mG_64) (i := .if_icmp .le 5) (len := 3) (q := decide (w2 ≤ (65536 : Int32))) (off := 5) (t := 27) (pc' := 25) (st' := []) mJ_64 (by decide +kernel) rfl (by simp only [decide_eq_true_eq, decide_eq_false_iff_not, Int32.lt_iff_toInt_lt, Int32.le_iff_toInt_le, ← Int32.toInt_inj, (show ((65536 : Int32)).toInt = 65536 from by decide +kernel)]; omega) (by decide +kernel) rfl ?_
  refine mk_v (M := mG_64) (i := .iconst (-1)) (len := 1) (pc' := 26) (v' := .int (-1)) (st' := []) mJ_64 (by decide +kernel) rfl (by decide +kernel) ?_
  refine mk_r (M := mG_64) (i := .ireturn) (len := 1) (r := some (.int (-1))) mJ_64 (by decide +kernel) rfl rfl (by decide +kernel) ?_
  exact ⟨rfl, rfl, rfl⟩
set_option maxRecDepth 20000 in
theorem fd_m_y {sl : Nat} {ev : mi_Ev} {h : List mi_C} {fs : List Value} {xs : List Int32} (u1 u2 u3 u4 u5 n m : Int32) (N A : Nat) (hn : n.toInt = (N : Int)) (hm : m.toInt = (A : Int)) (c1 : N + 20 ≤ 16000) (c2 : A + 20 ≤ 65536) (g121 : h[121]? = some (.inl (13, fs))) (f121_3 : fs[3]? = some (.ref 214)) (f121_4 : fs[4]? = some (.int n)) (f121_5 : fs[5]? = some (.int m)) (g214 : h[214]? = some (.inr (0, 16000, .inl xs))) : mi_ok (fun r h' sl' => sl = sl' ∧ h'.length = h.length ∧ (∃ (fs' : List Value) (n' m' : Int32), r = some (.int n') ∧ h'[121]? = some (.inl (13, fs')) ∧ fs'[4]? = some (.int n') ∧ fs'[5]? = some (.int m') ∧ n'.toInt = ((N + 20 : Nat) : Int) ∧ m'.toInt = ((A + 20 : Nat) : Int) ∧ ∀ q : Nat, 4 ≠ q → 5 ≠ q → fs'[q]? = fs[q]?) ∧ h'[214]? = some (.inr (0, 16000, .inl (fb_put (fb_put (fb_put (fb_put (fb_put xs (N + 0) (fb_m u1 24) (fb_m u1 16) (fb_m u1 8) (fb_m u1 0)) (N + 4) (fb_m u2 24) (fb_m u2 16) (fb_m u2 8) (fb_m u2 0)) (N + 8) (fb_m u3 24) (fb_m u3 16) (fb_m u3 8) (fb_m u3 0)) (N + 12) (fb_m u4 24) (fb_m u4 16) (fb_m u4 8) (fb_m u4 0)) (N + 16) (fb_m u5 24) (fb_m u5 16) (fb_m u5 8) (fb_m u5 0)))) ∧ ∀ b : Nat, 121 ≠ b → 214 ≠ b → h'[b]? = h[b]?) mi_Γ ev 64 (0, [(0, .ref 121), (1, .int u1), (2, .int u2), (3, .int u3), (4, .int u4), (5, .int u5)], []) h sl := by
  have fr : ∀ b : Nat, 121 ≠ b → 214 ≠ b → h[b]? = h[b]? := fun _ _ _ => rfl
  have o121 : ∀ q : Nat, 4 ≠ q → 5 ≠ q → fs[q]? = fs[q]? := fun _ _ _ => rfl
  have hl : h.length = h.length := rfl
  refine mk_p (M := mG_64) (i := .aload_n 0) (len := 1) (f' := (1, [(0, .ref 121), (1, .int (u1)), (2, .int (u2)), (3, .int (u3)), (4, .int (u4)), (5, .int (u5))], [.ref 121])) mJ_64 (by decide +kernel) rfl ?_
  refine mk_h (M := mG_64) (i := .getfield 141) (len := 3) (f' := (4, [(0, .ref 121), (1, .int (u1)), (2, .int (u2)), (3, .int (u3)), (4, .int (u4)), (5, .int (u5))], [.int n])) (h' := h) (sl' := sl) mJ_64 (by decide +kernel) rfl (mh_getf (ci := 13) (k := 4) (by decide +kernel) g121 f121_4) ?_
  refine mk_v (M := mG_64) (i := .bipush 20) (len := 2) (pc' := 6) (v' := .int 20) (st' := [.int n]) mJ_64 (by decide +kernel) rfl (by decide +kernel) ?_
  have lt := (show ((20 : Int32)).toInt = 20 from by decide +kernel)
  refine mk_add (M := mG_64) (len := 1) (x := n) (y := 20) (pc' := 7) mJ_64 (by decide +kernel) (by omega) (by omega) rfl (fun w1 dw1 ew1 => ?_)
  rw [lt] at ew1
  refine mk_v (M := mG_64) (i := .sipush 16000) (len := 3) (pc' := 10) (v' := .int 16000) (st' := [.int w1]) mJ_64 (by decide +kernel) rfl (by decide +kernel) ?_
  refine mk_f (M := mG_64) (i := .if_icmp .gt 15) (len := 3) (q := decide ((16000 : Int32) < w1)) (off := 15) (t := 25) (pc' := 13) (st' := []) mJ_64 (by decide +kernel) rfl (by simp only [decide_eq_true_eq, decide_eq_false_iff_not, Int32.lt_iff_toInt_lt, Int32.le_iff_toInt_le, ← Int32.toInt_inj, (show ((16000 : Int32)).toInt = 16000 from by decide +kernel)]; omega) (by decide +kernel) rfl ?_
  refine mk_p (M := mG_64) (i := .aload_n 0) (len := 1) (f' := (14, [(0, .ref 121), (1, .int (u1)), (2, .int (u2)), (3, .int (u3)), (4, .int (u4)), (5, .int (u5))], [.ref 121])) mJ_64 (by decide +kernel) rfl ?_
  refine mk_h (M := mG_64) (i := .getfield 144) (len := 3) (f' := (17, [(0, .ref 121), (1, .int (u1)), (2, .int (u2)), (3, .int (u3)), (4, .int (u4)), (5, .int (u5))], [.int m])) (h' := h) (sl' := sl) mJ_64 (by decide +kernel) rfl (mh_getf (ci := 13) (k := 5) (by decide +kernel) g121 f121_5) ?_
  refine mk_v (M := mG_64) (i := .bipush 20) (len := 2) (pc' := 19) (v' := .int 20) (st' := [.int m]) mJ_64 (by decide +kernel) rfl (by decide +kernel) ?_
  have lt := (show ((20 : Int32)).toInt = 20 from by decide +kernel)
  refine mk_add (M := mG_64) (len := 1) (x := m) (y := 20) (pc' := 20) mJ_64 (by decide +kernel) (by omega) (by omega) rfl (fun w2 dw2 ew2 => ?_)
  rw [lt] at ew2
  refine mk_h (M := mG_64) (i := .ldc 147) (len := 2) (f' := (22, [(0, .ref 121), (1, .int (u1)), (2, .int (u2)), (3, .int (u3)), (4, .int (u4)), (5, .int (u5))], [.int 65536, .int w2])) (h' := h) (sl' := sl) mJ_64 (by decide +kernel) rfl rfl ?_
  refine mk_t (M := mG_64) (i := .if_icmp .le 5) (len := 3) (q := decide (w2 ≤ (65536 : Int32))) (off := 5) (t := 27) (st' := []) mJ_64 (by decide +kernel) rfl (by simp only [decide_eq_true_eq, decide_eq_false_iff_not, Int32.lt_iff_toInt_lt, Int32.le_iff_toInt_le, ← Int32.toInt_inj, (show ((65536 : Int32)).toInt = 65536 from by decide +kernel)]; omega) (by decide +kernel) ?_
  refine mk_p (M := mG_64) (i := .aload_n 0) (len := 1) (f' := (28, [(0, .ref 121), (1, .int (u1)), (2, .int (u2)), (3, .int (u3)), (4, .int (u4)), (5, .int (u5))], [.ref 121])) mJ_64 (by decide +kernel) rfl ?_
  refine mk_p (M := mG_64) (i := .iload_n 1) (len := 1) (f' := (29, [(0, .ref 121), (1, .int (u1)), (2, .int (u2)), (3, .int (u3)), (4, .int (u4)), (5, .int (u5))], [.int (u1), .ref 121])) mJ_64 (by decide +kernel) rfl ?_
  refine mk_c (M := mG_64) (i := .invokevirtual 148) (len := 3) (M' := mG_87) (j' := 87) (as := [.ref 121, .int (u1)]) (rest := []) mJ_64 (by decide +kernel) rfl rfl rfl rfl (mh_virt (n := 1) (a := 121) (ci := 13) (by decide +kernel) rfl g121 (Nat.le_of_ble_eq_true rfl) rfl) mJ_87 (Nat.le_of_ble_eq_true rfl) (mi_pos g121) ?_
  refine mi_ok.mono (fw_m u1 n (N + 0) (by omega) (by omega) g121 f121_3 f121_4 g214) ?_
  rintro _ h3 _ ⟨rfl, rfl, ln, ⟨fs121_3, v3, g121, fk, ev3, fo⟩, g214, ho⟩
  have f121_3 := (fo 3 (by decide)).trans f121_3
  have f121_5 := (fo 5 (by decide)).trans f121_5
  have f121_4 := fk
  have o121 : ∀ q : Nat, 4 ≠ q → 5 ≠ q → fs121_3[q]? = fs[q]? := fun q k0 k1 => (fo q k0).trans (o121 q k0 k1)
  have fr : ∀ b : Nat, 121 ≠ b → 214 ≠ b → h3[b]? = h[b]? := fun b k0 k1 => (ho b k0 k1).trans (fr b k0 k1)
  have hl : h3.length = h.length := ln.trans hl
  show mi_ok _ mi_Γ ev 64 (32, [(0, .ref 121), (1, .int (u1)), (2, .int (u2)), (3, .int (u3)), (4, .int (u4)), (5, .int (u5))], []) h3 sl
  refine mk_p (M := mG_64) (i := .aload_n 0) (len := 1) (f' := (33, [(0, .ref 121), (1, .int (u1)), (2, .int (u2)), (3, .int (u3)), (4, .int (u4)), (5, .int (u5))], [.ref 121])) mJ_64 (by decide +kernel) rfl ?_
  refine mk_p (M := mG_64) (i := .iload_n 2) (len := 1) (f' := (34, [(0, .ref 121), (1, .int (u1)), (2, .int (u2)), (3, .int (u3)), (4, .int (u4)), (5, .int (u5))], [.int (u2), .ref 121])) mJ_64 (by decide +kernel) rfl ?_
  refine mk_c (M := mG_64) (i := .invokevirtual 148) (len := 3) (M' := mG_87) (j' := 87) (as := [.ref 121, .int (u2)]) (rest := []) mJ_64 (by decide +kernel) rfl rfl rfl rfl (mh_virt (n := 1) (a := 121) (ci := 13) (by decide +kernel) rfl g121 (Nat.le_of_ble_eq_true rfl) rfl) mJ_87 (Nat.le_of_ble_eq_true rfl) (mi_pos g121) ?_
  refine mi_ok.mono (fw_m u2 v3 (N + 4) (by omega) (by omega) g121 f121_3 f121_4 g214) ?_
  rintro _ h4 _ ⟨rfl, rfl, ln, ⟨fs121_4, v4, g121, fk, ev4, fo⟩, g214, ho⟩
  have f121_3 := (fo 3 (by decide)).trans f121_3
  have f121_5 := (fo 5 (by decide)).trans f121_5
  have f121_4 := fk
  have o121 : ∀ q : Nat, 4 ≠ q → 5 ≠ q → fs121_4[q]? = fs[q]? := fun q k0 k1 => (fo q k0).trans (o121 q k0 k1)
  have fr : ∀ b : Nat, 121 ≠ b → 214 ≠ b → h4[b]? = h[b]? := fun b k0 k1 => (ho b k0 k1).trans (fr b k0 k1)
  have hl : h4.length = h.length := ln.trans hl
  show mi_ok _ mi_Γ ev 64 (37, [(0, .ref 121), (1, .int (u1)), (2, .int (u2)), (3, .int (u3)), (4, .int (u4)), (5, .int (u5))], []) h4 sl
  refine mk_p (M := mG_64) (i := .aload_n 0) (len := 1) (f' := (38, [(0, .ref 121), (1, .int (u1)), (2, .int (u2)), (3, .int (u3)), (4, .int (u4)), (5, .int (u5))], [.ref 121])) mJ_64 (by decide +kernel) rfl ?_
  refine mk_p (M := mG_64) (i := .iload_n 3) (len := 1) (f' := (39, [(0, .ref 121), (1, .int (u1)), (2, .int (u2)), (3, .int (u3)), (4, .int (u4)), (5, .int (u5))], [.int (u3), .ref 121])) mJ_64 (by decide +kernel) rfl ?_
  refine mk_c (M := mG_64) (i := .invokevirtual 148) (len := 3) (M' := mG_87) (j' := 87) (as := [.ref 121, .int (u3)]) (rest := []) mJ_64 (by decide +kernel) rfl rfl rfl rfl (mh_virt (n := 1) (a := 121) (ci := 13) (by decide +kernel) rfl g121 (Nat.le_of_ble_eq_true rfl) rfl) mJ_87 (Nat.le_of_ble_eq_true rfl) (mi_pos g121) ?_
  refine mi_ok.mono (fw_m u3 v4 (N + 8) (by omega) (by omega) g121 f121_3 f121_4 g214) ?_
  rintro _ h5 _ ⟨rfl, rfl, ln, ⟨fs121_5, v5, g121, fk, ev5, fo⟩, g214, ho⟩
  have f121_3 := (fo 3 (by decide)).trans f121_3
  have f121_5 := (fo 5 (by decide)).trans f121_5
  have f121_4 := fk
  have o121 : ∀ q : Nat, 4 ≠ q → 5 ≠ q → fs121_5[q]? = fs[q]? := fun q k0 k1 => (fo q k0).trans (o121 q k0 k1)
  have fr : ∀ b : Nat, 121 ≠ b → 214 ≠ b → h5[b]? = h[b]? := fun b k0 k1 => (ho b k0 k1).trans (fr b k0 k1)
  have hl : h5.length = h.length := ln.trans hl
  show mi_ok _ mi_Γ ev 64 (42, [(0, .ref 121), (1, .int (u1)), (2, .int (u2)), (3, .int (u3)), (4, .int (u4)), (5, .int (u5))], []) h5 sl
  refine mk_p (M := mG_64) (i := .aload_n 0) (len := 1) (f' := (43, [(0, .ref 121), (1, .int (u1)), (2, .int (u2)), (3, .int (u3)), (4, .int (u4)), (5, .int (u5))], [.ref 121])) mJ_64 (by decide +kernel) rfl ?_
  refine mk_p (M := mG_64) (i := .iload 4) (len := 2) (f' := (45, [(0, .ref 121), (1, .int (u1)), (2, .int (u2)), (3, .int (u3)), (4, .int (u4)), (5, .int (u5))], [.int (u4), .ref 121])) mJ_64 (by decide +kernel) rfl ?_
  refine mk_c (M := mG_64) (i := .invokevirtual 148) (len := 3) (M' := mG_87) (j' := 87) (as := [.ref 121, .int (u4)]) (rest := []) mJ_64 (by decide +kernel) rfl rfl rfl rfl (mh_virt (n := 1) (a := 121) (ci := 13) (by decide +kernel) rfl g121 (Nat.le_of_ble_eq_true rfl) rfl) mJ_87 (Nat.le_of_ble_eq_true rfl) (mi_pos g121) ?_
  refine mi_ok.mono (fw_m u4 v5 (N + 12) (by omega) (by omega) g121 f121_3 f121_4 g214) ?_
  rintro _ h6 _ ⟨rfl, rfl, ln, ⟨fs121_6, v6, g121, fk, ev6, fo⟩, g214, ho⟩
  have f121_3 := (fo 3 (by decide)).trans f121_3
  have f121_5 := (fo 5 (by decide)).trans f121_5
  have f121_4 := fk
  have o121 : ∀ q : Nat, 4 ≠ q → 5 ≠ q → fs121_6[q]? = fs[q]? := fun q k0 k1 => (fo q k0).trans (o121 q k0 k1)
  have fr : ∀ b : Nat, 121 ≠ b → 214 ≠ b → h6[b]? = h[b]? := fun b k0 k1 => (ho b k0 k1).trans (fr b k0 k1)
  have hl : h6.length = h.length := ln.trans hl
  show mi_ok _ mi_Γ ev 64 (48, [(0, .ref 121), (1, .int (u1)), (2, .int (u2)), (3, .int (u3)), (4, .int (u4)), (5, .int (u5))], []) h6 sl
  refine mk_p (M := mG_64) (i := .aload_n 0) (len := 1) (f' := (49, [(0, .ref 121), (1, .int (u1)), (2, .int (u2)), (3, .int (u3)), (4, .int (u4)), (5, .int (u5))], [.ref 121])) mJ_64 (by decide +kernel) rfl ?_
  refine mk_p (M := mG_64) (i := .iload 5) (len := 2) (f' := (51, [(0, .ref 121), (1, .int (u1)), (2, .int (u2)), (3, .int (u3)), (4, .int (u4)), (5, .int (u5))], [.int (u5), .ref 121])) mJ_64 (by decide +kernel) rfl ?_
  refine mk_c (M := mG_64) (i := .invokevirtual 148) (len := 3) (M' := mG_87) (j' := 87) (as := [.ref 121, .int (u5)]) (rest := []) mJ_64 (by decide +kernel) rfl rfl rfl rfl (mh_virt (n := 1) (a := 121) (ci := 13) (by decide +kernel) rfl g121 (Nat.le_of_ble_eq_true rfl) rfl) mJ_87 (Nat.le_of_ble_eq_true rfl) (mi_pos g121) ?_
  refine mi_ok.mono (fw_m u5 v6 (N + 16) (by omega) (by omega) g121 f121_3 f121_4 g214) ?_
  rintro _ h7 _ ⟨rfl, rfl, ln, ⟨fs121_7, v7, g121, fk, ev7, fo⟩, g214, ho⟩
  have f121_3 := (fo 3 (by decide)).trans f121_3
  have f121_5 := (fo 5 (by decide)).trans f121_5
  have f121_4 := fk
  have o121 : ∀ q : Nat, 4 ≠ q → 5 ≠ q → fs121_7[q]? = fs[q]? := fun q k0 k1 => (fo q k0).trans (o121 q k0 k1)
  have fr : ∀ b : Nat, 121 ≠ b → 214 ≠ b → h7[b]? = h[b]? := fun b k0 k1 => (ho b k0 k1).trans (fr b k0 k1)
  have hl : h7.length = h.length := ln.trans hl
  show mi_ok _ mi_Γ ev 64 (54, [(0, .ref 121), (1, .int (u1)), (2, .int (u2)), (3, .int (u3)), (4, .int (u4)), (5, .int (u5))], []) h7 sl
  refine mk_p (M := mG_64) (i := .aload_n 0) (len := 1) (f' := (55, [(0, .ref 121), (1, .int (u1)), (2, .int (u2)), (3, .int (u3)), (4, .int (u4)), (5, .int (u5))], [.ref 121])) mJ_64 (by decide +kernel) rfl ?_
  refine mk_p (M := mG_64) (i := .dup) (len := 1) (f' := (56, [(0, .ref 121), (1, .int (u1)), (2, .int (u2)), (3, .int (u3)), (4, .int (u4)), (5, .int (u5))], [.ref 121, .ref 121])) mJ_64 (by decide +kernel) rfl ?_
  refine mk_h (M := mG_64) (i := .getfield 144) (len := 3) (f' := (59, [(0, .ref 121), (1, .int (u1)), (2, .int (u2)), (3, .int (u3)), (4, .int (u4)), (5, .int (u5))], [.int m, .ref 121])) (h' := h7) (sl' := sl) mJ_64 (by decide +kernel) rfl (mh_getf (ci := 13) (k := 5) (by decide +kernel) g121 f121_5) ?_
  refine mk_v (M := mG_64) (i := .bipush 20) (len := 2) (pc' := 61) (v' := .int 20) (st' := [.int m, .ref 121]) mJ_64 (by decide +kernel) rfl (by decide +kernel) ?_
  have lt := (show ((20 : Int32)).toInt = 20 from by decide +kernel)
  refine mk_add (M := mG_64) (len := 1) (x := m) (y := 20) (pc' := 62) mJ_64 (by decide +kernel) (by omega) (by omega) rfl (fun w8 dw8 ew8 => ?_)
  rw [lt] at ew8
  refine mk_wo (M := mG_64) (len := 3) (x := 144) (ci := 13) (k := 5) (ty := .int) (pc' := 65) mJ_64 (by decide +kernel) (by decide +kernel) g121 f121_5 rfl rfl rfl (fun h9 fs121_9 ln g121 _ fk fo ho => ?_)
  have f121_3 := (fo 3 (by decide)).trans f121_3
  have f121_4 := (fo 4 (by decide)).trans f121_4
  have f121_5 := fk
  have o121 : ∀ q : Nat, 4 ≠ q → 5 ≠ q → fs121_9[q]? = fs[q]? := fun q k0 k1 => (fo q k1).trans (o121 q k0 k1)
  have g214 := (ho 214 (by decide)).trans g214
  have fr : ∀ b : Nat, 121 ≠ b → 214 ≠ b → h9[b]? = h[b]? := fun b k0 k1 => (ho b k0).trans (fr b k0 k1)
  have hl : h9.length = h.length := ln.trans hl
  refine mk_p (M := mG_64) (i := .aload_n 0) (len := 1) (f' := (66, [(0, .ref 121), (1, .int (u1)), (2, .int (u2)), (3, .int (u3)), (4, .int (u4)), (5, .int (u5))], [.ref 121])) mJ_64 (by decide +kernel) rfl ?_
  refine mk_h (M := mG_64) (i := .getfield 141) (len := 3) (f' := (69, [(0, .ref 121), (1, .int (u1)), (2, .int (u2)), (3, .int (u3)), (4, .int (u4)), (5, .int (u5))], [.int v7])) (h' := h9) (sl' := sl) mJ_64 (by decide +kernel) rfl (mh_getf (ci := 13) (k := 4) (by decide +kernel) g121 f121_4) ?_
  refine mk_r (M := mG_64) (i := .ireturn) (len := 1) (r := some (.int v7)) mJ_64 (by decide +kernel) rfl rfl (mr_i rfl) ?_
  exact ⟨rfl, hl, ⟨_, _, _, rfl, g121, f121_4, f121_5, by omega, by omega, o121⟩, g214, fr⟩
