/-! input and end in any state. -/
theorem mJ_23 : mi_Γ 23 = some mG_23 := rfl
set_option maxRecDepth 20000 in
theorem in_c_n {sl : Nat} {ev : mi_Ev} {h : List mi_C} {fs : List Value} {xs : List Int32} (w n : Int32) (N : Nat) (hn : n.toInt = (N : Int)) (c1 : N = 256) (g0 : h[0]? = some (.inl (11, fs))) (f0_11 : fs[11]? = some (.ref 112)) (f0_12 : fs[12]? = some (.int n)) (g112 : h[112]? = some (.inr (1, 256, .inl xs))) : mi_ok (fun r h' sl' => r = some (.int 0) ∧ h' = h ∧ sl = sl') mi_Γ ev 37 (0, [(0, .ref 0), (1, .int (w))], []) h sl := by
  have fr : ∀ b : Nat, 0 ≠ b → 112 ≠ b → h[b]? = h[b]? := fun _ _ _ => rfl
  have o0 : ∀ q : Nat, 12 ≠ q → fs[q]? = fs[q]? := fun _ _ => rfl
  have hl : h.length = h.length := rfl
  refine mk_p (M := mG_37) (i := .aload_n 0) (len := 1) (f' := (1, [(0, .ref 0), (1, .int (w))], [.ref 0])) mJ_37 (by decide +kernel) rfl ?_
  refine mk_h (M := mG_37) (i := .getfield 224) (len := 3) (f' := (4, [(0, .ref 0), (1, .int (w))], [.int n])) (h' := h) (sl' := sl) mJ_37 (by decide +kernel) rfl (mh_getf (ci := 11) (k := 12) (by decide +kernel) g0 f0_12) ?_
  refine mk_v (M := mG_37) (i := .sipush 256) (len := 3) (pc' := 7) (v' := .int 256) (st' := [.int n]) mJ_37 (by decide +kernel) rfl (by decide +kernel) ?_
  refine mk_f (M := mG_37) (i := .if_icmp .lt 5) (len := 3) (q := decide (n < (256 : Int32))) (off := 5) (t := 12) (pc' := 10) (st' := []) mJ_37 (by decide +kernel) rfl (by simp only [decide_eq_true_eq, decide_eq_false_iff_not, Int32.lt_iff_toInt_lt, Int32.le_iff_toInt_le, ← Int32.toInt_inj, (show ((256 : Int32)).toInt = 256 from by decide +kernel)]; omega) (by decide +kernel) rfl ?_
  refine mk_v (M := mG_37) (i := .iconst 0) (len := 1) (pc' := 11) (v' := .int 0) (st' := []) mJ_37 (by decide +kernel) rfl (by decide +kernel) ?_
  refine mk_r (M := mG_37) (i := .ireturn) (len := 1) (r := some (.int 0)) mJ_37 (by decide +kernel) rfl rfl (by decide +kernel) ?_
  exact ⟨rfl, rfl, rfl⟩
set_option maxRecDepth 20000 in
theorem in_c_y {sl : Nat} {ev : mi_Ev} {h : List mi_C} {fs : List Value} {xs : List Int32} (w n : Int32) (N : Nat) (hn : n.toInt = (N : Int)) (c1 : N < 256) (g0 : h[0]? = some (.inl (11, fs))) (f0_11 : fs[11]? = some (.ref 112)) (f0_12 : fs[12]? = some (.int n)) (g112 : h[112]? = some (.inr (1, 256, .inl xs))) : mi_ok (fun r h' sl' => r = some (.int 1) ∧ sl = sl' ∧ h'.length = h.length ∧ (∃ (fs' : List Value) (n' : Int32), h'[0]? = some (.inl (11, fs')) ∧ fs'[12]? = some (.int n') ∧ n'.toInt = ((N + 1 : Nat) : Int) ∧ ∀ q : Nat, 12 ≠ q → fs'[q]? = fs[q]?) ∧ h'[112]? = some (.inr (1, 256, .inl (mi_sl 0 xs N w))) ∧ ∀ b : Nat, 0 ≠ b → 112 ≠ b → h'[b]? = h[b]?) mi_Γ ev 37 (0, [(0, .ref 0), (1, .int (w))], []) h sl := by
  have fr : ∀ b : Nat, 0 ≠ b → 112 ≠ b → h[b]? = h[b]? := fun _ _ _ => rfl
  have o0 : ∀ q : Nat, 12 ≠ q → fs[q]? = fs[q]? := fun _ _ => rfl
  have hl : h.length = h.length := rfl
  refine mk_p (M := mG_37) (i := .aload_n 0) (len := 1) (f' := (1, [(0, .ref 0), (1, .int (w))], [.ref 0])) mJ_37 (by decide +kernel) rfl ?_
  refine mk_h (M := mG_37) (i := .getfield 224) (len := 3) (f' := (4, [(0, .ref 0), (1, .int (w))], [.int n])) (h' := h) (sl' := sl) mJ_37 (by decide +kernel) rfl (mh_getf (ci := 11) (k := 12) (by decide +kernel) g0 f0_12) ?_
  refine mk_v (M := mG_37) (i := .sipush 256) (len := 3) (pc' := 7) (v' := .int 256) (st' := [.int n]) mJ_37 (by decide +kernel) rfl (by decide +kernel) ?_
  refine mk_t (M := mG_37) (i := .if_icmp .lt 5) (len := 3) (q := decide (n < (256 : Int32))) (off := 5) (t := 12) (st' := []) mJ_37 (by decide +kernel) rfl (by simp only [decide_eq_true_eq, decide_eq_false_iff_not, Int32.lt_iff_toInt_lt, Int32.le_iff_toInt_le, ← Int32.toInt_inj, (show ((256 : Int32)).toInt = 256 from by decide +kernel)]; omega) (by decide +kernel) ?_
  refine mk_p (M := mG_37) (i := .aload_n 0) (len := 1) (f' := (13, [(0, .ref 0), (1, .int (w))], [.ref 0])) mJ_37 (by decide +kernel) rfl ?_
  refine mk_h (M := mG_37) (i := .getfield 59) (len := 3) (f' := (16, [(0, .ref 0), (1, .int (w))], [.ref 112])) (h' := h) (sl' := sl) mJ_37 (by decide +kernel) rfl (mh_getf (ci := 11) (k := 11) (by decide +kernel) g0 f0_11) ?_
  refine mk_p (M := mG_37) (i := .aload_n 0) (len := 1) (f' := (17, [(0, .ref 0), (1, .int (w))], [.ref 0, .ref 112])) mJ_37 (by decide +kernel) rfl ?_
  refine mk_h (M := mG_37) (i := .getfield 224) (len := 3) (f' := (20, [(0, .ref 0), (1, .int (w))], [.int n, .ref 112])) (h' := h) (sl' := sl) mJ_37 (by decide +kernel) rfl (mh_getf (ci := 11) (k := 12) (by decide +kernel) g0 f0_12) ?_
  refine mk_p (M := mG_37) (i := .iload_n 1) (len := 1) (f' := (21, [(0, .ref 0), (1, .int (w))], [.int (w), .int n, .ref 112])) mJ_37 (by decide +kernel) rfl ?_
  refine mk_wi (M := mG_37) (len := 1) (pc' := 22) mJ_37 (by decide +kernel) g112 (mi_in_of (by omega) (by omega)) rfl (fun h1 ys1 ln g112 ey ho => ?_)
  rw [show n.toNatClampNeg = N from (by have e : n.toNatClampNeg = n.toInt.toNat := rfl; omega)] at ey
  have g0 := (ho 0 (by decide)).trans g0
  have fr : ∀ b : Nat, 0 ≠ b → 112 ≠ b → h1[b]? = h[b]? := fun b k0 k1 => (ho b k1).trans (fr b k0 k1)
  have hl : h1.length = h.length := ln.trans hl
  subst ey
  refine mk_p (M := mG_37) (i := .aload_n 0) (len := 1) (f' := (23, [(0, .ref 0), (1, .int (w))], [.ref 0])) mJ_37 (by decide +kernel) rfl ?_
  refine mk_p (M := mG_37) (i := .dup) (len := 1) (f' := (24, [(0, .ref 0), (1, .int (w))], [.ref 0, .ref 0])) mJ_37 (by decide +kernel) rfl ?_
  refine mk_h (M := mG_37) (i := .getfield 224) (len := 3) (f' := (27, [(0, .ref 0), (1, .int (w))], [.int n, .ref 0])) (h' := h1) (sl' := sl) mJ_37 (by decide +kernel) rfl (mh_getf (ci := 11) (k := 12) (by decide +kernel) g0 f0_12) ?_
  refine mk_v (M := mG_37) (i := .iconst 1) (len := 1) (pc' := 28) (v' := .int 1) (st' := [.int n, .ref 0]) mJ_37 (by decide +kernel) rfl (by decide +kernel) ?_
  have lt := (show ((1 : Int32)).toInt = 1 from by decide +kernel)
  refine mk_add (M := mG_37) (len := 1) (x := n) (y := 1) (pc' := 29) mJ_37 (by decide +kernel) (by omega) (by omega) rfl (fun w2 dw2 ew2 => ?_)
  rw [lt] at ew2
  refine mk_wo (M := mG_37) (len := 3) (x := 224) (ci := 11) (k := 12) (ty := .int) (pc' := 32) mJ_37 (by decide +kernel) (by decide +kernel) g0 f0_12 rfl rfl rfl (fun h3 fs0_3 ln g0 _ fk fo ho => ?_)
  have f0_11 := (fo 11 (by decide)).trans f0_11
  have f0_12 := fk
  have o0 : ∀ q : Nat, 12 ≠ q → fs0_3[q]? = fs[q]? := fun q k0 => (fo q k0).trans (o0 q k0)
  have g112 := (ho 112 (by decide)).trans g112
  have fr : ∀ b : Nat, 0 ≠ b → 112 ≠ b → h3[b]? = h[b]? := fun b k0 k1 => (ho b k0).trans (fr b k0 k1)
  have hl : h3.length = h.length := ln.trans hl
  refine mk_v (M := mG_37) (i := .iconst 1) (len := 1) (pc' := 33) (v' := .int 1) (st' := []) mJ_37 (by decide +kernel) rfl (by decide +kernel) ?_
  refine mk_r (M := mG_37) (i := .ireturn) (len := 1) (r := some (.int 1)) mJ_37 (by decide +kernel) rfl rfl (by decide +kernel) ?_
  exact ⟨rfl, rfl, hl, ⟨_, _, g0, f0_12, by omega, o0⟩, g112, fr⟩
set_option maxRecDepth 20000 in
theorem in_m_n {sl : Nat} {ev : mi_Ev} {h : List mi_C} {fs : List Value} {xs : List Int32} (w n : Int32) (N : Nat) (hn : n.toInt = (N : Int)) (c1 : N = 256) (g121 : h[121]? = some (.inl (13, fs))) (f121_50 : fs[50]? = some (.ref 248)) (f121_55 : fs[55]? = some (.int n)) (g248 : h[248]? = some (.inr (1, 256, .inl xs))) : mi_ok (fun r h' sl' => r = some (.int 0) ∧ h' = h ∧ sl = sl') mi_Γ ev 67 (0, [(0, .ref 121), (1, .int (w))], []) h sl := by
  have fr : ∀ b : Nat, 121 ≠ b → 248 ≠ b → h[b]? = h[b]? := fun _ _ _ => rfl
  have o121 : ∀ q : Nat, 55 ≠ q → fs[q]? = fs[q]? := fun _ _ => rfl
  have hl : h.length = h.length := rfl
  refine mk_p (M := mG_67) (i := .aload_n 0) (len := 1) (f' := (1, [(0, .ref 121), (1, .int (w))], [.ref 121])) mJ_67 (by decide +kernel) rfl ?_
  refine mk_h (M := mG_67) (i := .getfield 805) (len := 3) (f' := (4, [(0, .ref 121), (1, .int (w))], [.int n])) (h' := h) (sl' := sl) mJ_67 (by decide +kernel) rfl (mh_getf (ci := 13) (k := 55) (by decide +kernel) g121 f121_55) ?_
  refine mk_v (M := mG_67) (i := .sipush 256) (len := 3) (pc' := 7) (v' := .int 256) (st' := [.int n]) mJ_67 (by decide +kernel) rfl (by decide +kernel) ?_
  refine mk_f (M := mG_67) (i := .if_icmp .ne 5) (len := 3) (q := decide (¬ n = (256 : Int32))) (off := 5) (t := 12) (pc' := 10) (st' := []) mJ_67 (by decide +kernel) rfl (by simp only [decide_eq_true_eq, decide_eq_false_iff_not, Int32.lt_iff_toInt_lt, Int32.le_iff_toInt_le, ← Int32.toInt_inj, (show ((256 : Int32)).toInt = 256 from by decide +kernel)]; omega) (by decide +kernel) rfl ?_
  refine mk_v (M := mG_67) (i := .iconst 0) (len := 1) (pc' := 11) (v' := .int 0) (st' := []) mJ_67 (by decide +kernel) rfl (by decide +kernel) ?_
  refine mk_r (M := mG_67) (i := .ireturn) (len := 1) (r := some (.int 0)) mJ_67 (by decide +kernel) rfl rfl (by decide +kernel) ?_
  exact ⟨rfl, rfl, rfl⟩
set_option maxRecDepth 20000 in
theorem in_m_y {sl : Nat} {ev : mi_Ev} {h : List mi_C} {fs : List Value} {xs : List Int32} (w n : Int32) (N : Nat) (hn : n.toInt = (N : Int)) (c1 : N < 256) (g121 : h[121]? = some (.inl (13, fs))) (f121_50 : fs[50]? = some (.ref 248)) (f121_55 : fs[55]? = some (.int n)) (g248 : h[248]? = some (.inr (1, 256, .inl xs))) : mi_ok (fun r h' sl' => r = some (.int 1) ∧ sl = sl' ∧ h'.length = h.length ∧ (∃ (fs' : List Value) (n' : Int32), h'[121]? = some (.inl (13, fs')) ∧ fs'[55]? = some (.int n') ∧ n'.toInt = ((N + 1 : Nat) : Int) ∧ ∀ q : Nat, 55 ≠ q → fs'[q]? = fs[q]?) ∧ h'[248]? = some (.inr (1, 256, .inl (mi_sl 0 xs N w))) ∧ ∀ b : Nat, 121 ≠ b → 248 ≠ b → h'[b]? = h[b]?) mi_Γ ev 67 (0, [(0, .ref 121), (1, .int (w))], []) h sl := by
  have fr : ∀ b : Nat, 121 ≠ b → 248 ≠ b → h[b]? = h[b]? := fun _ _ _ => rfl
  have o121 : ∀ q : Nat, 55 ≠ q → fs[q]? = fs[q]? := fun _ _ => rfl
  have hl : h.length = h.length := rfl
  refine mk_p (M := mG_67) (i := .aload_n 0) (len := 1) (f' := (1, [(0, .ref 121), (1, .int (w))], [.ref 121])) mJ_67 (by decide +kernel) rfl ?_
  refine mk_h (M := mG_67) (i := .getfield 805) (len := 3) (f' := (4, [(0, .ref 121), (1, .int (w))], [.int n])) (h' := h) (sl' := sl) mJ_67 (by decide +kernel) rfl (mh_getf (ci := 13) (k := 55) (by decide +kernel) g121 f121_55) ?_
  refine mk_v (M := mG_67) (i := .sipush 256) (len := 3) (pc' := 7) (v' := .int 256) (st' := [.int n]) mJ_67 (by decide +kernel) rfl (by decide +kernel) ?_
  refine mk_t (M := mG_67) (i := .if_icmp .ne 5) (len := 3) (q := decide (¬ n = (256 : Int32))) (off := 5) (t := 12) (st' := []) mJ_67 (by decide +kernel) rfl (by simp only [decide_eq_true_eq, decide_eq_false_iff_not, Int32.lt_iff_toInt_lt, Int32.le_iff_toInt_le, ← Int32.toInt_inj, (show ((256 : Int32)).toInt = 256 from by decide +kernel)]; omega) (by decide +kernel) ?_
  refine mk_p (M := mG_67) (i := .aload_n 0) (len := 1) (f' := (13, [(0, .ref 121), (1, .int (w))], [.ref 121])) mJ_67 (by decide +kernel) rfl ?_
  refine mk_h (M := mG_67) (i := .getfield 129) (len := 3) (f' := (16, [(0, .ref 121), (1, .int (w))], [.ref 248])) (h' := h) (sl' := sl) mJ_67 (by decide +kernel) rfl (mh_getf (ci := 13) (k := 50) (by decide +kernel) g121 f121_50) ?_
  refine mk_p (M := mG_67) (i := .aload_n 0) (len := 1) (f' := (17, [(0, .ref 121), (1, .int (w))], [.ref 121, .ref 248])) mJ_67 (by decide +kernel) rfl ?_
  refine mk_h (M := mG_67) (i := .getfield 805) (len := 3) (f' := (20, [(0, .ref 121), (1, .int (w))], [.int n, .ref 248])) (h' := h) (sl' := sl) mJ_67 (by decide +kernel) rfl (mh_getf (ci := 13) (k := 55) (by decide +kernel) g121 f121_55) ?_
  refine mk_p (M := mG_67) (i := .iload_n 1) (len := 1) (f' := (21, [(0, .ref 121), (1, .int (w))], [.int (w), .int n, .ref 248])) mJ_67 (by decide +kernel) rfl ?_
  refine mk_wi (M := mG_67) (len := 1) (pc' := 22) mJ_67 (by decide +kernel) g248 (mi_in_of (by omega) (by omega)) rfl (fun h1 ys1 ln g248 ey ho => ?_)
  rw [show n.toNatClampNeg = N from (by have e : n.toNatClampNeg = n.toInt.toNat := rfl; omega)] at ey
  have g121 := (ho 121 (by decide)).trans g121
  have fr : ∀ b : Nat, 121 ≠ b → 248 ≠ b → h1[b]? = h[b]? := fun b k0 k1 => (ho b k1).trans (fr b k0 k1)
  have hl : h1.length = h.length := ln.trans hl
  subst ey
  refine mk_p (M := mG_67) (i := .aload_n 0) (len := 1) (f' := (23, [(0, .ref 121), (1, .int (w))], [.ref 121])) mJ_67 (by decide +kernel) rfl ?_
  refine mk_p (M := mG_67) (i := .dup) (len := 1) (f' := (24, [(0, .ref 121), (1, .int (w))], [.ref 121, .ref 121])) mJ_67 (by decide +kernel) rfl ?_
  refine mk_h (M := mG_67) (i := .getfield 805) (len := 3) (f' := (27, [(0, .ref 121), (1, .int (w))], [.int n, .ref 121])) (h' := h1) (sl' := sl) mJ_67 (by decide +kernel) rfl (mh_getf (ci := 13) (k := 55) (by decide +kernel) g121 f121_55) ?_
  refine mk_v (M := mG_67) (i := .iconst 1) (len := 1) (pc' := 28) (v' := .int 1) (st' := [.int n, .ref 121]) mJ_67 (by decide +kernel) rfl (by decide +kernel) ?_
  have lt := (show ((1 : Int32)).toInt = 1 from by decide +kernel)
  refine mk_add (M := mG_67) (len := 1) (x := n) (y := 1) (pc' := 29) mJ_67 (by decide +kernel) (by omega) (by omega) rfl (fun w2 dw2 ew2 => ?_)
  rw [lt] at ew2
  refine mk_wo (M := mG_67) (len := 3) (x := 805) (ci := 13) (k := 55) (ty := .int) (pc' := 32) mJ_67 (by decide +kernel) (by decide +kernel) g121 f121_55 rfl rfl rfl (fun h3 fs121_3 ln g121 _ fk fo ho => ?_)
  have f121_50 := (fo 50 (by decide)).trans f121_50
  have f121_55 := fk
  have o121 : ∀ q : Nat, 55 ≠ q → fs121_3[q]? = fs[q]? := fun q k0 => (fo q k0).trans (o121 q k0)
  have g248 := (ho 248 (by decide)).trans g248
  have fr : ∀ b : Nat, 121 ≠ b → 248 ≠ b → h3[b]? = h[b]? := fun b k0 k1 => (ho b k0).trans (fr b k0 k1)
  have hl : h3.length = h.length := ln.trans hl
  refine mk_v (M := mG_67) (i := .iconst 1) (len := 1) (pc' := 33) (v' := .int 1) (st' := []) mJ_67 (by decide +kernel) rfl (by decide +kernel) ?_
  refine mk_r (M := mG_67) (i := .ireturn) (len := 1) (r := some (.int 1)) mJ_67 (by decide +kernel) rfl rfl (by decide +kernel) ?_
  exact ⟨rfl, rfl, hl, ⟨_, _, g121, f121_55, by omega, o121⟩, g248, fr⟩
set_option maxRecDepth 20000 in
theorem en_c_n {sl : Nat} {ev : mi_Ev} {h : List mi_C} {fs : List Value} (e n : Int32) (N : Nat) (hn : n.toInt = (N : Int)) (c1 : e.toInt < 0) (g0 : h[0]? = some (.inl (11, fs))) (f0_1 : fs[1]? = some (.int n)) : mi_ok (fun r h' sl' => r = some (.int 0) ∧ h' = h ∧ sl = sl') mi_Γ ev 26 (0, [(0, .ref 0), (1, .int e)], []) h sl := by
  have fr : ∀ b : Nat, 0 ≠ b → h[b]? = h[b]? := fun _ _ => rfl
  have o0 : ∀ q : Nat, 1 ≠ q → fs[q]? = fs[q]? := fun _ _ => rfl
  have hl : h.length = h.length := rfl
  refine mk_p (M := mG_26) (i := .iload_n 1) (len := 1) (f' := (1, [(0, .ref 0), (1, .int e)], [.int e])) mJ_26 (by decide +kernel) rfl ?_
  refine mk_t (M := mG_26) (i := .ifCond .lt 11) (len := 3) (q := decide (e < (0 : Int32))) (off := 11) (t := 12) (st' := []) mJ_26 (by decide +kernel) rfl (by simp only [decide_eq_true_eq, decide_eq_false_iff_not, Int32.lt_iff_toInt_lt, Int32.le_iff_toInt_le, ← Int32.toInt_inj, (show ((0 : Int32)).toInt = 0 from by decide +kernel)]; omega) (by decide +kernel) ?_
  refine mk_v (M := mG_26) (i := .iconst 0) (len := 1) (pc' := 13) (v' := .int 0) (st' := []) mJ_26 (by decide +kernel) rfl (by decide +kernel) ?_
  refine mk_r (M := mG_26) (i := .ireturn) (len := 1) (r := some (.int 0)) mJ_26 (by decide +kernel) rfl rfl (by decide +kernel) ?_
  exact ⟨rfl, rfl, rfl⟩
set_option maxRecDepth 20000 in
theorem en_c_p {sl : Nat} {ev : mi_Ev} {h : List mi_C} {fs : List Value} (e n : Int32) (N : Nat) (hn : n.toInt = (N : Int)) (c1 : (N : Int) < e.toInt) (g0 : h[0]? = some (.inl (11, fs))) (f0_1 : fs[1]? = some (.int n)) : mi_ok (fun r h' sl' => r = some (.int 0) ∧ h' = h ∧ sl = sl') mi_Γ ev 26 (0, [(0, .ref 0), (1, .int e)], []) h sl := by
  have fr : ∀ b : Nat, 0 ≠ b → h[b]? = h[b]? := fun _ _ => rfl
  have o0 : ∀ q : Nat, 1 ≠ q → fs[q]? = fs[q]? := fun _ _ => rfl
  have hl : h.length = h.length := rfl
  refine mk_p (M := mG_26) (i := .iload_n 1) (len := 1) (f' := (1, [(0, .ref 0), (1, .int e)], [.int e])) mJ_26 (by decide +kernel) rfl ?_
  refine mk_f (M := mG_26) (i := .ifCond .lt 11) (len := 3) (q := decide (e < (0 : Int32))) (off := 11) (t := 12) (pc' := 4) (st' := []) mJ_26 (by decide +kernel) rfl (by simp only [decide_eq_true_eq, decide_eq_false_iff_not, Int32.lt_iff_toInt_lt, Int32.le_iff_toInt_le, ← Int32.toInt_inj, (show ((0 : Int32)).toInt = 0 from by decide +kernel)]; omega) (by decide +kernel) rfl ?_
  refine mk_p (M := mG_26) (i := .iload_n 1) (len := 1) (f' := (5, [(0, .ref 0), (1, .int e)], [.int e])) mJ_26 (by decide +kernel) rfl ?_
  refine mk_p (M := mG_26) (i := .aload_n 0) (len := 1) (f' := (6, [(0, .ref 0), (1, .int e)], [.ref 0, .int e])) mJ_26 (by decide +kernel) rfl ?_
  refine mk_h (M := mG_26) (i := .getfield 72) (len := 3) (f' := (9, [(0, .ref 0), (1, .int e)], [.int n, .int e])) (h' := h) (sl' := sl) mJ_26 (by decide +kernel) rfl (mh_getf (ci := 11) (k := 1) (by decide +kernel) g0 f0_1) ?_
  refine mk_f (M := mG_26) (i := .if_icmp .le 5) (len := 3) (q := decide (e ≤ n)) (off := 5) (t := 14) (pc' := 12) (st' := []) mJ_26 (by decide +kernel) rfl (by simp only [decide_eq_true_eq, decide_eq_false_iff_not, Int32.lt_iff_toInt_lt, Int32.le_iff_toInt_le, ← Int32.toInt_inj]; omega) (by decide +kernel) rfl ?_
  refine mk_v (M := mG_26) (i := .iconst 0) (len := 1) (pc' := 13) (v' := .int 0) (st' := []) mJ_26 (by decide +kernel) rfl (by decide +kernel) ?_
  refine mk_r (M := mG_26) (i := .ireturn) (len := 1) (r := some (.int 0)) mJ_26 (by decide +kernel) rfl rfl (by decide +kernel) ?_
  exact ⟨rfl, rfl, rfl⟩
set_option maxRecDepth 20000 in
theorem en_m_n {sl : Nat} {ev : mi_Ev} {h : List mi_C} {fs : List Value} (e n : Int32) (N : Nat) (hn : n.toInt = (N : Int)) (c1 : e.toInt < 0) (g121 : h[121]? = some (.inl (13, fs))) (f121_4 : fs[4]? = some (.int n)) : mi_ok (fun r h' sl' => r = some (.int 0) ∧ h' = h ∧ sl = sl') mi_Γ ev 57 (0, [(0, .ref 121), (1, .int e)], []) h sl := by
  have fr : ∀ b : Nat, 121 ≠ b → h[b]? = h[b]? := fun _ _ => rfl
  have o121 : ∀ q : Nat, 4 ≠ q → fs[q]? = fs[q]? := fun _ _ => rfl
  have hl : h.length = h.length := rfl
  refine mk_p (M := mG_57) (i := .iload_n 1) (len := 1) (f' := (1, [(0, .ref 121), (1, .int e)], [.int e])) mJ_57 (by decide +kernel) rfl ?_
  refine mk_t (M := mG_57) (i := .ifCond .lt 11) (len := 3) (q := decide (e < (0 : Int32))) (off := 11) (t := 12) (st' := []) mJ_57 (by decide +kernel) rfl (by simp only [decide_eq_true_eq, decide_eq_false_iff_not, Int32.lt_iff_toInt_lt, Int32.le_iff_toInt_le, ← Int32.toInt_inj, (show ((0 : Int32)).toInt = 0 from by decide +kernel)]; omega) (by decide +kernel) ?_
  refine mk_v (M := mG_57) (i := .iconst 0) (len := 1) (pc' := 13) (v' := .int 0) (st' := []) mJ_57 (by decide +kernel) rfl (by decide +kernel) ?_
  refine mk_r (M := mG_57) (i := .ireturn) (len := 1) (r := some (.int 0)) mJ_57 (by decide +kernel) rfl rfl (by decide +kernel) ?_
  exact ⟨rfl, rfl, rfl⟩
set_option maxRecDepth 20000 in
theorem en_m_p {sl : Nat} {ev : mi_Ev} {h : List mi_C} {fs : List Value} (e n : Int32) (N : Nat) (hn : n.toInt = (N : Int)) (c1 : (N : Int) < e.toInt) (g121 : h[121]? = some (.inl (13, fs))) (f121_4 : fs[4]? = some (.int n)) : mi_ok (fun r h' sl' => r = some (.int 0) ∧ h' = h ∧ sl = sl') mi_Γ ev 57 (0, [(0, .ref 121), (1, .int e)], []) h sl := by
  have fr : ∀ b : Nat, 121 ≠ b → h[b]? = h[b]? := fun _ _ => rfl
  have o121 : ∀ q : Nat, 4 ≠ q → fs[q]? = fs[q]? := fun _ _ => rfl
  have hl : h.length = h.length := rfl
  refine mk_p (M := mG_57) (i := .iload_n 1) (len := 1) (f' := (1, [(0, .ref 121), (1, .int e)], [.int e])) mJ_57 (by decide +kernel) rfl ?_
  refine mk_f (M := mG_57) (i := .ifCond .lt 11) (len := 3) (q := decide (e < (0 : Int32))) (off := 11) (t := 12) (pc' := 4) (st' := []) mJ_57 (by decide +kernel) rfl (by simp only [decide_eq_true_eq, decide_eq_false_iff_not, Int32.lt_iff_toInt_lt, Int32.le_iff_toInt_le, ← Int32.toInt_inj, (show ((0 : Int32)).toInt = 0 from by decide +kernel)]; omega) (by decide +kernel) rfl ?_
  refine mk_p (M := mG_57) (i := .iload_n 1) (len := 1) (f' := (5, [(0, .ref 121), (1, .int e)], [.int e])) mJ_57 (by decide +kernel) rfl ?_
  refine mk_p (M := mG_57) (i := .aload_n 0) (len := 1) (f' := (6, [(0, .ref 121), (1, .int e)], [.ref 121, .int e])) mJ_57 (by decide +kernel) rfl ?_
  refine mk_h (M := mG_57) (i := .getfield 141) (len := 3) (f' := (9, [(0, .ref 121), (1, .int e)], [.int n, .int e])) (h' := h) (sl' := sl) mJ_57 (by decide +kernel) rfl (mh_getf (ci := 13) (k := 4) (by decide +kernel) g121 f121_4) ?_
  refine mk_f (M := mG_57) (i := .if_icmp .le 5) (len := 3) (q := decide (e ≤ n)) (off := 5) (t := 14) (pc' := 12) (st' := []) mJ_57 (by decide +kernel) rfl (by simp only [decide_eq_true_eq, decide_eq_false_iff_not, Int32.lt_iff_toInt_lt, Int32.le_iff_toInt_le, ← Int32.toInt_inj]; omega) (by decide +kernel) rfl ?_
  refine mk_v (M := mG_57) (i := .iconst 0) (len := 1) (pc' := 13) (v' := .int 0) (st' := []) mJ_57 (by decide +kernel) rfl (by decide +kernel) ?_
  refine mk_r (M := mG_57) (i := .ireturn) (len := 1) (r := some (.int 0)) mJ_57 (by decide +kernel) rfl rfl (by decide +kernel) ?_
  exact ⟨rfl, rfl, rfl⟩
set_option maxRecDepth 20000 in
theorem en_c_y {sl : Nat} {ev : mi_Ev} {h : List mi_C} {fs ws : List Value} {xs ys : List Int32} (e n t : Int32) (N K : Nat) (hn : n.toInt = (N : Int)) (hk : e.toInt = (K : Int)) (c1 : K ≤ N) (c2 : N ≤ 16000) (ft : ∀ i, fits .byte (.int (xs.getD i 0)) = true) (g0 : h[0]? = some (.inl (11, fs))) (f0_0 : fs[0]? = some (.ref 1)) (f0_1 : fs[1]? = some (.int n)) (f0_3 : fs[3]? = some (.ref 2)) (g2 : h[2]? = some (.inl (10, ws))) (f2_0 : ws[0]? = some (.ref 3)) (f2_1 : ws[1]? = some (.int 360)) (f2_2 : ws[2]? = some (.int t)) (g1 : h[1]? = some (.inr (0, 16000, .inl xs))) (g3 : h[3]? = some (.inr (0, 16512, .inl ys))) : mi_ok (fun r h' sl' => r = some (.int 1) ∧ sl = sl' ∧ h'.length = h.length ∧ (∃ fs' : List Value, h'[0]? = some (.inl (11, fs')) ∧ fs'[1]? = some (.int 0) ∧ ∀ q : Nat, 1 ≠ q → fs'[q]? = fs[q]?) ∧ (∃ (ws' : List Value) (t' : Int32), h'[2]? = some (.inl (10, ws')) ∧ ws'[2]? = some (.int t') ∧ t'.toInt = ((360 + K : Nat) : Int) ∧ ∀ q : Nat, 2 ≠ q → ws'[q]? = ws[q]?) ∧ (∃ zs : List Int32, h'[3]? = some (.inr (0, 16512, .inl zs)) ∧ ∀ k, zs.getD k 0 = if 360 ≤ k ∧ k < 360 + K then xs.getD (0 + (k - 360)) 0 else ys.getD k 0) ∧ ∀ b : Nat, 0 ≠ b → 2 ≠ b → 3 ≠ b → h'[b]? = h[b]?) mi_Γ ev 26 (0, [(0, .ref 0), (1, .int e)], []) h sl := by
  have fr : ∀ b : Nat, 0 ≠ b → 2 ≠ b → 3 ≠ b → h[b]? = h[b]? := fun _ _ _ _ => rfl
  have o0 : ∀ q : Nat, 1 ≠ q → fs[q]? = fs[q]? := fun _ _ => rfl
  have o2 : ∀ q : Nat, 2 ≠ q → ws[q]? = ws[q]? := fun _ _ => rfl
  have hl : h.length = h.length := rfl
  refine mk_p (M := mG_26) (i := .iload_n 1) (len := 1) (f' := (1, [(0, .ref 0), (1, .int e)], [.int e])) mJ_26 (by decide +kernel) rfl ?_
  refine mk_f (M := mG_26) (i := .ifCond .lt 11) (len := 3) (q := decide (e < (0 : Int32))) (off := 11) (t := 12) (pc' := 4) (st' := []) mJ_26 (by decide +kernel) rfl (by simp only [decide_eq_true_eq, decide_eq_false_iff_not, Int32.lt_iff_toInt_lt, Int32.le_iff_toInt_le, ← Int32.toInt_inj, (show ((0 : Int32)).toInt = 0 from by decide +kernel)]; omega) (by decide +kernel) rfl ?_
  refine mk_p (M := mG_26) (i := .iload_n 1) (len := 1) (f' := (5, [(0, .ref 0), (1, .int e)], [.int e])) mJ_26 (by decide +kernel) rfl ?_
  refine mk_p (M := mG_26) (i := .aload_n 0) (len := 1) (f' := (6, [(0, .ref 0), (1, .int e)], [.ref 0, .int e])) mJ_26 (by decide +kernel) rfl ?_
  refine mk_h (M := mG_26) (i := .getfield 72) (len := 3) (f' := (9, [(0, .ref 0), (1, .int e)], [.int n, .int e])) (h' := h) (sl' := sl) mJ_26 (by decide +kernel) rfl (mh_getf (ci := 11) (k := 1) (by decide +kernel) g0 f0_1) ?_
  refine mk_t (M := mG_26) (i := .if_icmp .le 5) (len := 3) (q := decide (e ≤ n)) (off := 5) (t := 14) (st' := []) mJ_26 (by decide +kernel) rfl (by simp only [decide_eq_true_eq, decide_eq_false_iff_not, Int32.lt_iff_toInt_lt, Int32.le_iff_toInt_le, ← Int32.toInt_inj]; omega) (by decide +kernel) ?_
  refine mk_p (M := mG_26) (i := .aload_n 0) (len := 1) (f' := (15, [(0, .ref 0), (1, .int e)], [.ref 0])) mJ_26 (by decide +kernel) rfl ?_
  refine mk_h (M := mG_26) (i := .getfield 16) (len := 3) (f' := (18, [(0, .ref 0), (1, .int e)], [.ref 2])) (h' := h) (sl' := sl) mJ_26 (by decide +kernel) rfl (mh_getf (ci := 11) (k := 3) (by decide +kernel) g0 f0_3) ?_
  refine mk_p (M := mG_26) (i := .aload_n 0) (len := 1) (f' := (19, [(0, .ref 0), (1, .int e)], [.ref 0, .ref 2])) mJ_26 (by decide +kernel) rfl ?_
  refine mk_h (M := mG_26) (i := .getfield 9) (len := 3) (f' := (22, [(0, .ref 0), (1, .int e)], [.ref 1, .ref 2])) (h' := h) (sl' := sl) mJ_26 (by decide +kernel) rfl (mh_getf (ci := 11) (k := 0) (by decide +kernel) g0 f0_0) ?_
  refine mk_p (M := mG_26) (i := .iload_n 1) (len := 1) (f' := (23, [(0, .ref 0), (1, .int e)], [.int e, .ref 1, .ref 2])) mJ_26 (by decide +kernel) rfl ?_
  refine mk_c (M := mG_26) (i := .invokevirtual 83) (len := 3) (M' := mG_23) (j' := 23) (as := [.ref 2, .ref 1, .int e]) (rest := []) mJ_26 (by decide +kernel) rfl rfl rfl rfl (mh_virt (n := 2) (a := 2) (ci := 10) (by decide +kernel) rfl g2 (Nat.le_of_ble_eq_true rfl) rfl) mJ_23 (Nat.le_of_ble_eq_true rfl) (mi_pos g0) ?_
  show mi_ok _ mi_Γ ev 23 (0, [(0, .ref 2), (1, .ref 1), (2, .int e)], []) h sl
  refine mk_p (M := mG_23) (i := .iload_n 2) (len := 1) (f' := (1, [(0, .ref 2), (1, .ref 1), (2, .int e)], [.int e])) mJ_23 (by decide +kernel) rfl ?_
  refine mk_f (M := mG_23) (i := .ifCond .lt 40) (len := 3) (q := decide (e < (0 : Int32))) (off := 40) (t := 41) (pc' := 4) (st' := []) mJ_23 (by decide +kernel) rfl (by simp only [decide_eq_true_eq, decide_eq_false_iff_not, Int32.lt_iff_toInt_lt, Int32.le_iff_toInt_le, ← Int32.toInt_inj, (show ((0 : Int32)).toInt = 0 from by decide +kernel)]; omega) (by decide +kernel) rfl ?_
  refine mk_p (M := mG_23) (i := .iload_n 2) (len := 1) (f' := (5, [(0, .ref 2), (1, .ref 1), (2, .int e)], [.int e])) mJ_23 (by decide +kernel) rfl ?_
  refine mk_p (M := mG_23) (i := .aload_n 1) (len := 1) (f' := (6, [(0, .ref 2), (1, .ref 1), (2, .int e)], [.ref 1, .int e])) mJ_23 (by decide +kernel) rfl ?_
  refine mk_h (M := mG_23) (i := .arraylength) (len := 1) (f' := (7, [(0, .ref 2), (1, .ref 1), (2, .int e)], [.int 16000, .int e])) (h' := h) (sl' := sl) mJ_23 (by decide +kernel) rfl (mh_len g1 (by decide) (by decide +kernel)) ?_
  refine mk_f (M := mG_23) (i := .if_icmp .gt 34) (len := 3) (q := decide ((16000 : Int32) < e)) (off := 34) (t := 41) (pc' := 10) (st' := []) mJ_23 (by decide +kernel) rfl (by simp only [decide_eq_true_eq, decide_eq_false_iff_not, Int32.lt_iff_toInt_lt, Int32.le_iff_toInt_le, ← Int32.toInt_inj, (show ((16000 : Int32)).toInt = 16000 from by decide +kernel)]; omega) (by decide +kernel) rfl ?_
  refine mk_p (M := mG_23) (i := .iload_n 2) (len := 1) (f' := (11, [(0, .ref 2), (1, .ref 1), (2, .int e)], [.int e])) mJ_23 (by decide +kernel) rfl ?_
  refine mk_v (M := mG_23) (i := .sipush 16000) (len := 3) (pc' := 14) (v' := .int 16000) (st' := [.int e]) mJ_23 (by decide +kernel) rfl (by decide +kernel) ?_
  refine mk_f (M := mG_23) (i := .if_icmp .gt 27) (len := 3) (q := decide ((16000 : Int32) < e)) (off := 27) (t := 41) (pc' := 17) (st' := []) mJ_23 (by decide +kernel) rfl (by simp only [decide_eq_true_eq, decide_eq_false_iff_not, Int32.lt_iff_toInt_lt, Int32.le_iff_toInt_le, ← Int32.toInt_inj, (show ((16000 : Int32)).toInt = 16000 from by decide +kernel)]; omega) (by decide +kernel) rfl ?_
  refine mk_p (M := mG_23) (i := .aload_n 1) (len := 1) (f' := (18, [(0, .ref 2), (1, .ref 1), (2, .int e)], [.ref 1])) mJ_23 (by decide +kernel) rfl ?_
  refine mk_v (M := mG_23) (i := .iconst 0) (len := 1) (pc' := 19) (v' := .int 0) (st' := [.ref 1]) mJ_23 (by decide +kernel) rfl (by decide +kernel) ?_
  refine mk_p (M := mG_23) (i := .aload_n 0) (len := 1) (f' := (20, [(0, .ref 2), (1, .ref 1), (2, .int e)], [.ref 2, .int 0, .ref 1])) mJ_23 (by decide +kernel) rfl ?_
  refine mk_h (M := mG_23) (i := .getfield 9) (len := 3) (f' := (23, [(0, .ref 2), (1, .ref 1), (2, .int e)], [.ref 3, .int 0, .ref 1])) (h' := h) (sl' := sl) mJ_23 (by decide +kernel) rfl (mh_getf (ci := 10) (k := 0) (by decide +kernel) g2 f2_0) ?_
  refine mk_p (M := mG_23) (i := .aload_n 0) (len := 1) (f' := (24, [(0, .ref 2), (1, .ref 1), (2, .int e)], [.ref 2, .ref 3, .int 0, .ref 1])) mJ_23 (by decide +kernel) rfl ?_
  refine mk_h (M := mG_23) (i := .getfield 50) (len := 3) (f' := (27, [(0, .ref 2), (1, .ref 1), (2, .int e)], [.int 360, .ref 3, .int 0, .ref 1])) (h' := h) (sl' := sl) mJ_23 (by decide +kernel) rfl (mh_getf (ci := 10) (k := 1) (by decide +kernel) g2 f2_1) ?_
  refine mk_p (M := mG_23) (i := .iload_n 2) (len := 1) (f' := (28, [(0, .ref 2), (1, .ref 1), (2, .int e)], [.int e, .int 360, .ref 3, .int 0, .ref 1])) mJ_23 (by decide +kernel) rfl ?_
  refine mk_cp (M := mG_23) (len := 3) (x := 95) (q1 := 9999) (q2 := 0) (q3 := 0) (S := 0) (D := 360) (K := K) (pc' := 31) mJ_23 (by decide +kernel) (by decide +kernel) g1 g3 (by decide +kernel) (by decide +kernel) hk (by omega) (by omega) ft (Nat.le_of_ble_eq_true rfl) rfl (fun h1 zs1 ln g3 ez ho => ?_)
  have g0 := (ho 0 (by decide)).trans g0
  have g1 := (ho 1 (by decide)).trans g1
  have g2 := (ho 2 (by decide)).trans g2
  have fr : ∀ b : Nat, 0 ≠ b → 2 ≠ b → 3 ≠ b → h1[b]? = h[b]? := fun b k0 k1 k2 => (ho b k2).trans (fr b k0 k1 k2)
  have hl : h1.length = h.length := ln.trans hl
  refine mk_p (M := mG_23) (i := .aload_n 0) (len := 1) (f' := (32, [(0, .ref 2), (1, .ref 1), (2, .int e)], [.ref 2])) mJ_23 (by decide +kernel) rfl ?_
  refine mk_p (M := mG_23) (i := .aload_n 0) (len := 1) (f' := (33, [(0, .ref 2), (1, .ref 1), (2, .int e)], [.ref 2, .ref 2])) mJ_23 (by decide +kernel) rfl ?_
  refine mk_h (M := mG_23) (i := .getfield 50) (len := 3) (f' := (36, [(0, .ref 2), (1, .ref 1), (2, .int e)], [.int 360, .ref 2])) (h' := h1) (sl' := sl) mJ_23 (by decide +kernel) rfl (mh_getf (ci := 10) (k := 1) (by decide +kernel) g2 f2_1) ?_
  refine mk_p (M := mG_23) (i := .iload_n 2) (len := 1) (f' := (37, [(0, .ref 2), (1, .ref 1), (2, .int e)], [.int e, .int 360, .ref 2])) mJ_23 (by decide +kernel) rfl ?_
  have lt := (show ((360 : Int32)).toInt = 360 from by decide +kernel)
  refine mk_add (M := mG_23) (len := 1) (x := 360) (y := e) (pc' := 38) mJ_23 (by decide +kernel) (by omega) (by omega) rfl (fun w2 dw2 ew2 => ?_)
  rw [lt] at ew2
  refine mk_wo (M := mG_23) (len := 3) (x := 54) (ci := 10) (k := 2) (ty := .int) (pc' := 41) mJ_23 (by decide +kernel) (by decide +kernel) g2 f2_2 rfl rfl rfl (fun h3 fs2_3 ln g2 _ fk fo ho => ?_)
  have f2_0 := (fo 0 (by decide)).trans f2_0
  have f2_1 := (fo 1 (by decide)).trans f2_1
  have f2_2 := fk
  have o2 : ∀ q : Nat, 2 ≠ q → fs2_3[q]? = ws[q]? := fun q k0 => (fo q k0).trans (o2 q k0)
  have g0 := (ho 0 (by decide)).trans g0
  have g1 := (ho 1 (by decide)).trans g1
  have g3 := (ho 3 (by decide)).trans g3
  have fr : ∀ b : Nat, 0 ≠ b → 2 ≠ b → 3 ≠ b → h3[b]? = h[b]? := fun b k0 k1 k2 => (ho b k1).trans (fr b k0 k1 k2)
  have hl : h3.length = h.length := ln.trans hl
  refine mk_r (M := mG_23) (i := .return_) (len := 1) (r := none) mJ_23 (by decide +kernel) rfl rfl (by decide +kernel) ?_
  show mi_ok _ mi_Γ ev 26 (26, [(0, .ref 0), (1, .int e)], []) h3 sl
  refine mk_p (M := mG_26) (i := .aload_n 0) (len := 1) (f' := (27, [(0, .ref 0), (1, .int e)], [.ref 0])) mJ_26 (by decide +kernel) rfl ?_
  refine mk_v (M := mG_26) (i := .iconst 0) (len := 1) (pc' := 28) (v' := .int 0) (st' := [.ref 0]) mJ_26 (by decide +kernel) rfl (by decide +kernel) ?_
  refine mk_wo (M := mG_26) (len := 3) (x := 72) (ci := 11) (k := 1) (ty := .int) (pc' := 31) mJ_26 (by decide +kernel) (by decide +kernel) g0 f0_1 rfl rfl rfl (fun h4 fs0_4 ln g0 _ fk fo ho => ?_)
  have f0_0 := (fo 0 (by decide)).trans f0_0
  have f0_3 := (fo 3 (by decide)).trans f0_3
  have f0_1 := fk
  have o0 : ∀ q : Nat, 1 ≠ q → fs0_4[q]? = fs[q]? := fun q k0 => (fo q k0).trans (o0 q k0)
  have g1 := (ho 1 (by decide)).trans g1
  have g2 := (ho 2 (by decide)).trans g2
  have g3 := (ho 3 (by decide)).trans g3
  have fr : ∀ b : Nat, 0 ≠ b → 2 ≠ b → 3 ≠ b → h4[b]? = h[b]? := fun b k0 k1 k2 => (ho b k0).trans (fr b k0 k1 k2)
  have hl : h4.length = h.length := ln.trans hl
  refine mk_v (M := mG_26) (i := .iconst 1) (len := 1) (pc' := 32) (v' := .int 1) (st' := []) mJ_26 (by decide +kernel) rfl (by decide +kernel) ?_
  refine mk_r (M := mG_26) (i := .ireturn) (len := 1) (r := some (.int 1)) mJ_26 (by decide +kernel) rfl rfl (by decide +kernel) ?_
  exact ⟨rfl, rfl, hl, ⟨_, g0, f0_1, o0⟩, ⟨_, _, g2, f2_2, by omega, o2⟩, ⟨_, g3, ez⟩, fr⟩
