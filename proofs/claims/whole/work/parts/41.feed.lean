/-! feed in any state. -/
/-- four bytes come behind the first N -/
def fb_put (xs : List Int32) (N : Nat) (a b c d : Int32) : List Int32 := mi_sl 0 (mi_sl 0 (mi_sl 0 (mi_sl 0 xs (N) a) (N + 1) b) (N + 2) c) (N + 3) d
def fb_c (w s : Int32) : Int32 := vp_nar .byte (((w.toUInt32 >>> (s.toUInt32 &&& Int32.toUInt32 31)).toInt32).toInt8.toInt32)
def fb_m (w s : Int32) : Int32 := vp_nar .byte ((w >>> (s &&& 31)).toInt8.toInt32)
set_option maxRecDepth 20000 in
theorem fw_c {sl : Nat} {ev : mi_Ev} {h : List mi_C} {fs : List Value} {xs : List Int32} (w n : Int32) (N : Nat) (hn : n.toInt = (N : Int)) (hN : N + 4 ≤ 16000) (g0 : h[0]? = some (.inl (11, fs))) (f0_0 : fs[0]? = some (.ref 1)) (f0_1 : fs[1]? = some (.int n)) (g1 : h[1]? = some (.inr (0, 16000, .inl xs))) : mi_ok (fun r h' sl' => r = none ∧ sl = sl' ∧ h'.length = h.length ∧ (∃ (fs' : List Value) (n' : Int32), h'[0]? = some (.inl (11, fs')) ∧ fs'[1]? = some (.int n') ∧ n'.toInt = ((N + 4 : Nat) : Int) ∧ ∀ q : Nat, 1 ≠ q → fs'[q]? = fs[q]?) ∧ h'[1]? = some (.inr (0, 16000, .inl (fb_put xs N (fb_c w 24) (fb_c w 16) (fb_c w 8) (fb_c w 0)))) ∧ ∀ b : Nat, 0 ≠ b → 1 ≠ b → h'[b]? = h[b]?) mi_Γ ev 34 (0, [(0, .ref 0), (1, .int w)], []) h sl := by
  have fr : ∀ b : Nat, 0 ≠ b → 1 ≠ b → h[b]? = h[b]? := fun _ _ _ => rfl
  have o0 : ∀ q : Nat, 1 ≠ q → fs[q]? = fs[q]? := fun _ _ => rfl
  have hl : h.length = h.length := rfl
  refine mk_v (M := mG_34) (i := .bipush 24) (len := 2) (pc' := 2) (v' := .int 24) (st' := []) mJ_34 (by decide +kernel) rfl (by decide +kernel) ?_
  refine mk_p (M := mG_34) (i := .istore_n 2) (len := 1) (f' := (3, [(2, .int 24), (0, .ref 0), (1, .int (w))], [])) mJ_34 (by decide +kernel) rfl ?_
  refine mk_p (M := mG_34) (i := .iload_n 2) (len := 1) (f' := (4, [(2, .int 24), (0, .ref 0), (1, .int (w))], [.int 24])) mJ_34 (by decide +kernel) rfl ?_
  refine mk_f (M := mG_34) (i := .ifCond .lt 32) (len := 3) (q := decide ((24 : Int32) < (0 : Int32))) (off := 32) (t := 36) (pc' := 7) (st' := []) mJ_34 (by decide +kernel) rfl (by decide +kernel) (by decide +kernel) rfl ?_
  refine mk_p (M := mG_34) (i := .aload_n 0) (len := 1) (f' := (8, [(2, .int 24), (0, .ref 0), (1, .int (w))], [.ref 0])) mJ_34 (by decide +kernel) rfl ?_
  refine mk_h (M := mG_34) (i := .getfield 9) (len := 3) (f' := (11, [(2, .int 24), (0, .ref 0), (1, .int (w))], [.ref 1])) (h' := h) (sl' := sl) mJ_34 (by decide +kernel) rfl (mh_getf (ci := 11) (k := 0) (by decide +kernel) g0 f0_0) ?_
  refine mk_p (M := mG_34) (i := .aload_n 0) (len := 1) (f' := (12, [(2, .int 24), (0, .ref 0), (1, .int (w))], [.ref 0, .ref 1])) mJ_34 (by decide +kernel) rfl ?_
  refine mk_h (M := mG_34) (i := .getfield 72) (len := 3) (f' := (15, [(2, .int 24), (0, .ref 0), (1, .int (w))], [.int n, .ref 1])) (h' := h) (sl' := sl) mJ_34 (by decide +kernel) rfl (mh_getf (ci := 11) (k := 1) (by decide +kernel) g0 f0_1) ?_
  refine mk_p (M := mG_34) (i := .iload_n 1) (len := 1) (f' := (16, [(2, .int 24), (0, .ref 0), (1, .int (w))], [.int (w), .int n, .ref 1])) mJ_34 (by decide +kernel) rfl ?_
  refine mk_p (M := mG_34) (i := .iload_n 2) (len := 1) (f' := (17, [(2, .int 24), (0, .ref 0), (1, .int (w))], [.int 24, .int (w), .int n, .ref 1])) mJ_34 (by decide +kernel) rfl ?_
  refine mk_p (M := mG_34) (i := .iushr) (len := 1) (f' := (18, [(2, .int 24), (0, .ref 0), (1, .int (w))], [.int (((w).toUInt32 >>> ((24 : Int32).toUInt32 &&& Int32.toUInt32 31)).toInt32), .int n, .ref 1])) mJ_34 (by decide +kernel) rfl ?_
  refine mk_p (M := mG_34) (i := .i2b) (len := 1) (f' := (19, [(2, .int 24), (0, .ref 0), (1, .int (w))], [.int ((((w).toUInt32 >>> ((24 : Int32).toUInt32 &&& Int32.toUInt32 31)).toInt32).toInt8.toInt32), .int n, .ref 1])) mJ_34 (by decide +kernel) rfl ?_
  refine mk_wb (M := mG_34) (len := 1) (pc' := 20) mJ_34 (by decide +kernel) g1 (mi_in_of (by omega) (by omega)) rfl (fun h1 ys1 ln g1 ey ho => ?_)
  rw [show n.toNatClampNeg = N from (by have e : n.toNatClampNeg = n.toInt.toNat := rfl; omega)] at ey
  have g0 := (ho 0 (by decide)).trans g0
  have fr : ∀ b : Nat, 0 ≠ b → 1 ≠ b → h1[b]? = h[b]? := fun b k0 k1 => (ho b k1).trans (fr b k0 k1)
  have hl : h1.length = h.length := ln.trans hl
  subst ey
  refine mk_p (M := mG_34) (i := .aload_n 0) (len := 1) (f' := (21, [(2, .int 24), (0, .ref 0), (1, .int (w))], [.ref 0])) mJ_34 (by decide +kernel) rfl ?_
  refine mk_p (M := mG_34) (i := .dup) (len := 1) (f' := (22, [(2, .int 24), (0, .ref 0), (1, .int (w))], [.ref 0, .ref 0])) mJ_34 (by decide +kernel) rfl ?_
  refine mk_h (M := mG_34) (i := .getfield 72) (len := 3) (f' := (25, [(2, .int 24), (0, .ref 0), (1, .int (w))], [.int n, .ref 0])) (h' := h1) (sl' := sl) mJ_34 (by decide +kernel) rfl (mh_getf (ci := 11) (k := 1) (by decide +kernel) g0 f0_1) ?_
  refine mk_v (M := mG_34) (i := .iconst 1) (len := 1) (pc' := 26) (v' := .int 1) (st' := [.int n, .ref 0]) mJ_34 (by decide +kernel) rfl (by decide +kernel) ?_
  have lt := (show ((1 : Int32)).toInt = 1 from by decide +kernel)
  refine mk_add (M := mG_34) (len := 1) (x := n) (y := 1) (pc' := 27) mJ_34 (by decide +kernel) (by omega) (by omega) rfl (fun w2 dw2 ew2 => ?_)
  rw [lt] at ew2
  refine mk_wo (M := mG_34) (len := 3) (x := 72) (ci := 11) (k := 1) (ty := .int) (pc' := 30) mJ_34 (by decide +kernel) (by decide +kernel) g0 f0_1 rfl rfl rfl (fun h3 fs0_3 ln g0 _ fk fo ho => ?_)
  have f0_0 := (fo 0 (by decide)).trans f0_0
  have f0_1 := fk
  have o0 : ∀ q : Nat, 1 ≠ q → fs0_3[q]? = fs[q]? := fun q k0 => (fo q k0).trans (o0 q k0)
  have g1 := (ho 1 (by decide)).trans g1
  have fr : ∀ b : Nat, 0 ≠ b → 1 ≠ b → h3[b]? = h[b]? := fun b k0 k1 => (ho b k0).trans (fr b k0 k1)
  have hl : h3.length = h.length := ln.trans hl
  refine mk_i (M := mG_34) (len := 3) (k := 2) (n := (-8)) (x := 24) (y := 16) (lv' := [(2, .int 16), (0, .ref 0), (1, .int (w))]) (pc' := 33) mJ_34 (by decide +kernel) rfl (by decide +kernel) (by decide +kernel) rfl rfl ?_
  refine mk_g (M := mG_34) (len := 3) (off := (-30)) (t := 3) mJ_34 (by decide +kernel) (by decide +kernel) ?_
  refine mk_p (M := mG_34) (i := .iload_n 2) (len := 1) (f' := (4, [(2, .int 16), (0, .ref 0), (1, .int (w))], [.int 16])) mJ_34 (by decide +kernel) rfl ?_
  refine mk_f (M := mG_34) (i := .ifCond .lt 32) (len := 3) (q := decide ((16 : Int32) < (0 : Int32))) (off := 32) (t := 36) (pc' := 7) (st' := []) mJ_34 (by decide +kernel) rfl (by decide +kernel) (by decide +kernel) rfl ?_
  refine mk_p (M := mG_34) (i := .aload_n 0) (len := 1) (f' := (8, [(2, .int 16), (0, .ref 0), (1, .int (w))], [.ref 0])) mJ_34 (by decide +kernel) rfl ?_
  refine mk_h (M := mG_34) (i := .getfield 9) (len := 3) (f' := (11, [(2, .int 16), (0, .ref 0), (1, .int (w))], [.ref 1])) (h' := h3) (sl' := sl) mJ_34 (by decide +kernel) rfl (mh_getf (ci := 11) (k := 0) (by decide +kernel) g0 f0_0) ?_
  refine mk_p (M := mG_34) (i := .aload_n 0) (len := 1) (f' := (12, [(2, .int 16), (0, .ref 0), (1, .int (w))], [.ref 0, .ref 1])) mJ_34 (by decide +kernel) rfl ?_
  refine mk_h (M := mG_34) (i := .getfield 72) (len := 3) (f' := (15, [(2, .int 16), (0, .ref 0), (1, .int (w))], [.int w2, .ref 1])) (h' := h3) (sl' := sl) mJ_34 (by decide +kernel) rfl (mh_getf (ci := 11) (k := 1) (by decide +kernel) g0 f0_1) ?_
  refine mk_p (M := mG_34) (i := .iload_n 1) (len := 1) (f' := (16, [(2, .int 16), (0, .ref 0), (1, .int (w))], [.int (w), .int w2, .ref 1])) mJ_34 (by decide +kernel) rfl ?_
  refine mk_p (M := mG_34) (i := .iload_n 2) (len := 1) (f' := (17, [(2, .int 16), (0, .ref 0), (1, .int (w))], [.int 16, .int (w), .int w2, .ref 1])) mJ_34 (by decide +kernel) rfl ?_
  refine mk_p (M := mG_34) (i := .iushr) (len := 1) (f' := (18, [(2, .int 16), (0, .ref 0), (1, .int (w))], [.int (((w).toUInt32 >>> ((16 : Int32).toUInt32 &&& Int32.toUInt32 31)).toInt32), .int w2, .ref 1])) mJ_34 (by decide +kernel) rfl ?_
  refine mk_p (M := mG_34) (i := .i2b) (len := 1) (f' := (19, [(2, .int 16), (0, .ref 0), (1, .int (w))], [.int ((((w).toUInt32 >>> ((16 : Int32).toUInt32 &&& Int32.toUInt32 31)).toInt32).toInt8.toInt32), .int w2, .ref 1])) mJ_34 (by decide +kernel) rfl ?_
  refine mk_wb (M := mG_34) (len := 1) (pc' := 20) mJ_34 (by decide +kernel) g1 (mi_in_of (by omega) (by omega)) rfl (fun h4 ys4 ln g1 ey ho => ?_)
  rw [show w2.toNatClampNeg = N + 1 from (by have e : w2.toNatClampNeg = w2.toInt.toNat := rfl; omega)] at ey
  have g0 := (ho 0 (by decide)).trans g0
  have fr : ∀ b : Nat, 0 ≠ b → 1 ≠ b → h4[b]? = h[b]? := fun b k0 k1 => (ho b k1).trans (fr b k0 k1)
  have hl : h4.length = h.length := ln.trans hl
  subst ey
  refine mk_p (M := mG_34) (i := .aload_n 0) (len := 1) (f' := (21, [(2, .int 16), (0, .ref 0), (1, .int (w))], [.ref 0])) mJ_34 (by decide +kernel) rfl ?_
  refine mk_p (M := mG_34) (i := .dup) (len := 1) (f' := (22, [(2, .int 16), (0, .ref 0), (1, .int (w))], [.ref 0, .ref 0])) mJ_34 (by decide +kernel) rfl ?_
  refine mk_h (M := mG_34) (i := .getfield 72) (len := 3) (f' := (25, [(2, .int 16), (0, .ref 0), (1, .int (w))], [.int w2, .ref 0])) (h' := h4) (sl' := sl) mJ_34 (by decide +kernel) rfl (mh_getf (ci := 11) (k := 1) (by decide +kernel) g0 f0_1) ?_
  refine mk_v (M := mG_34) (i := .iconst 1) (len := 1) (pc' := 26) (v' := .int 1) (st' := [.int w2, .ref 0]) mJ_34 (by decide +kernel) rfl (by decide +kernel) ?_
  have lt := (show ((1 : Int32)).toInt = 1 from by decide +kernel)
  refine mk_add (M := mG_34) (len := 1) (x := w2) (y := 1) (pc' := 27) mJ_34 (by decide +kernel) (by omega) (by omega) rfl (fun w5 dw5 ew5 => ?_)
  rw [lt] at ew5
  refine mk_wo (M := mG_34) (len := 3) (x := 72) (ci := 11) (k := 1) (ty := .int) (pc' := 30) mJ_34 (by decide +kernel) (by decide +kernel) g0 f0_1 rfl rfl rfl (fun h6 fs0_6 ln g0 _ fk fo ho => ?_)
  have f0_0 := (fo 0 (by decide)).trans f0_0
  have f0_1 := fk
  have o0 : ∀ q : Nat, 1 ≠ q → fs0_6[q]? = fs[q]? := fun q k0 => (fo q k0).trans (o0 q k0)
  have g1 := (ho 1 (by decide)).trans g1
  have fr : ∀ b : Nat, 0 ≠ b → 1 ≠ b → h6[b]? = h[b]? := fun b k0 k1 => (ho b k0).trans (fr b k0 k1)
  have hl : h6.length = h.length := ln.trans hl
  refine mk_i (M := mG_34) (len := 3) (k := 2) (n := (-8)) (x := 16) (y := 8) (lv' := [(2, .int 8), (0, .ref 0), (1, .int (w))]) (pc' := 33) mJ_34 (by decide +kernel) rfl (by decide +kernel) (by decide +kernel) rfl rfl ?_
  refine mk_g (M := mG_34) (len := 3) (off := (-30)) (t := 3) mJ_34 (by decide +kernel) (by decide +kernel) ?_
  refine mk_p (M := mG_34) (i := .iload_n 2) (len := 1) (f' := (4, [(2, .int 8), (0, .ref 0), (1, .int (w))], [.int 8])) mJ_34 (by decide +kernel) rfl ?_
  refine mk_f (M := mG_34) (i := .ifCond .lt 32) (len := 3) (q := decide ((8 : Int32) < (0 : Int32))) (off := 32) (t := 36) (pc' := 7) (st' := []) mJ_34 (by decide +kernel) rfl (by decide +kernel) (by decide +kernel) rfl ?_
  refine mk_p (M := mG_34) (i := .aload_n 0) (len := 1) (f' := (8, [(2, .int 8), (0, .ref 0), (1, .int (w))], [.ref 0])) mJ_34 (by decide +kernel) rfl ?_
  refine mk_h (M := mG_34) (i := .getfield 9) (len := 3) (f' := (11, [(2, .int 8), (0, .ref 0), (1, .int (w))], [.ref 1])) (h' := h6) (sl' := sl) mJ_34 (by decide +kernel) rfl (mh_getf (ci := 11) (k := 0) (by decide +kernel) g0 f0_0) ?_
  refine mk_p (M := mG_34) (i := .aload_n 0) (len := 1) (f' := (12, [(2, .int 8), (0, .ref 0), (1, .int (w))], [.ref 0, .ref 1])) mJ_34 (by decide +kernel) rfl ?_
  refine mk_h (M := mG_34) (i := .getfield 72) (len := 3) (f' := (15, [(2, .int 8), (0, .ref 0), (1, .int (w))], [.int w5, .ref 1])) (h' := h6) (sl' := sl) mJ_34 (by decide +kernel) rfl (mh_getf (ci := 11) (k := 1) (by decide +kernel) g0 f0_1) ?_
  refine mk_p (M := mG_34) (i := .iload_n 1) (len := 1) (f' := (16, [(2, .int 8), (0, .ref 0), (1, .int (w))], [.int (w), .int w5, .ref 1])) mJ_34 (by decide +kernel) rfl ?_
  refine mk_p (M := mG_34) (i := .iload_n 2) (len := 1) (f' := (17, [(2, .int 8), (0, .ref 0), (1, .int (w))], [.int 8, .int (w), .int w5, .ref 1])) mJ_34 (by decide +kernel) rfl ?_
  refine mk_p (M := mG_34) (i := .iushr) (len := 1) (f' := (18, [(2, .int 8), (0, .ref 0), (1, .int (w))], [.int (((w).toUInt32 >>> ((8 : Int32).toUInt32 &&& Int32.toUInt32 31)).toInt32), .int w5, .ref 1])) mJ_34 (by decide +kernel) rfl ?_
  refine mk_p (M := mG_34) (i := .i2b) (len := 1) (f' := (19, [(2, .int 8), (0, .ref 0), (1, .int (w))], [.int ((((w).toUInt32 >>> ((8 : Int32).toUInt32 &&& Int32.toUInt32 31)).toInt32).toInt8.toInt32), .int w5, .ref 1])) mJ_34 (by decide +kernel) rfl ?_
  refine mk_wb (M := mG_34) (len := 1) (pc' := 20) mJ_34 (by decide +kernel) g1 (mi_in_of (by omega) (by omega)) rfl (fun h7 ys7 ln g1 ey ho => ?_)
  rw [show w5.toNatClampNeg = N + 2 from (by have e : w5.toNatClampNeg = w5.toInt.toNat := rfl; omega)] at ey
  have g0 := (ho 0 (by decide)).trans g0
  have fr : ∀ b : Nat, 0 ≠ b → 1 ≠ b → h7[b]? = h[b]? := fun b k0 k1 => (ho b k1).trans (fr b k0 k1)
  have hl : h7.length = h.length := ln.trans hl
  subst ey
  refine mk_p (M := mG_34) (i := .aload_n 0) (len := 1) (f' := (21, [(2, .int 8), (0, .ref 0), (1, .int (w))], [.ref 0])) mJ_34 (by decide +kernel) rfl ?_
  refine mk_p (M := mG_34) (i := .dup) (len := 1) (f' := (22, [(2, .int 8), (0, .ref 0), (1, .int (w))], [.ref 0, .ref 0])) mJ_34 (by decide +kernel) rfl ?_
  refine mk_h (M := mG_34) (i := .getfield 72) (len := 3) (f' := (25, [(2, .int 8), (0, .ref 0), (1, .int (w))], [.int w5, .ref 0])) (h' := h7) (sl' := sl) mJ_34 (by decide +kernel) rfl (mh_getf (ci := 11) (k := 1) (by decide +kernel) g0 f0_1) ?_
  refine mk_v (M := mG_34) (i := .iconst 1) (len := 1) (pc' := 26) (v' := .int 1) (st' := [.int w5, .ref 0]) mJ_34 (by decide +kernel) rfl (by decide +kernel) ?_
  have lt := (show ((1 : Int32)).toInt = 1 from by decide +kernel)
  refine mk_add (M := mG_34) (len := 1) (x := w5) (y := 1) (pc' := 27) mJ_34 (by decide +kernel) (by omega) (by omega) rfl (fun w8 dw8 ew8 => ?_)
  rw [lt] at ew8
  refine mk_wo (M := mG_34) (len := 3) (x := 72) (ci := 11) (k := 1) (ty := .int) (pc' := 30) mJ_34 (by decide +kernel) (by decide +kernel) g0 f0_1 rfl rfl rfl (fun h9 fs0_9 ln g0 _ fk fo ho => ?_)
  have f0_0 := (fo 0 (by decide)).trans f0_0
  have f0_1 := fk
  have o0 : ∀ q : Nat, 1 ≠ q → fs0_9[q]? = fs[q]? := fun q k0 => (fo q k0).trans (o0 q k0)
  have g1 := (ho 1 (by decide)).trans g1
  have fr : ∀ b : Nat, 0 ≠ b → 1 ≠ b → h9[b]? = h[b]? := fun b k0 k1 => (ho b k0).trans (fr b k0 k1)
  have hl : h9.length = h.length := ln.trans hl
  refine mk_i (M := mG_34) (len := 3) (k := 2) (n := (-8)) (x := 8) (y := 0) (lv' := [(2, .int 0), (0, .ref 0), (1, .int (w))]) (pc' := 33) mJ_34 (by decide +kernel) rfl (by decide +kernel) (by decide +kernel) rfl rfl ?_
  refine mk_g (M := mG_34) (len := 3) (off := (-30)) (t := 3) mJ_34 (by decide +kernel) (by decide +kernel) ?_
  refine mk_p (M := mG_34) (i := .iload_n 2) (len := 1) (f' := (4, [(2, .int 0), (0, .ref 0), (1, .int (w))], [.int 0])) mJ_34 (by decide +kernel) rfl ?_
  refine mk_f (M := mG_34) (i := .ifCond .lt 32) (len := 3) (q := decide ((0 : Int32) < (0 : Int32))) (off := 32) (t := 36) (pc' := 7) (st' := []) mJ_34 (by decide +kernel) rfl (by decide +kernel) (by decide +kernel) rfl ?_
  refine mk_p (M := mG_34) (i := .aload_n 0) (len := 1) (f' := (8, [(2, .int 0), (0, .ref 0), (1, .int (w))], [.ref 0])) mJ_34 (by decide +kernel) rfl ?_
  refine mk_h (M := mG_34) (i := .getfield 9) (len := 3) (f' := (11, [(2, .int 0), (0, .ref 0), (1, .int (w))], [.ref 1])) (h' := h9) (sl' := sl) mJ_34 (by decide +kernel) rfl (mh_getf (ci := 11) (k := 0) (by decide +kernel) g0 f0_0) ?_
  refine mk_p (M := mG_34) (i := .aload_n 0) (len := 1) (f' := (12, [(2, .int 0), (0, .ref 0), (1, .int (w))], [.ref 0, .ref 1])) mJ_34 (by decide +kernel) rfl ?_
  refine mk_h (M := mG_34) (i := .getfield 72) (len := 3) (f' := (15, [(2, .int 0), (0, .ref 0), (1, .int (w))], [.int w8, .ref 1])) (h' := h9) (sl' := sl) mJ_34 (by decide +kernel) rfl (mh_getf (ci := 11) (k := 1) (by decide +kernel) g0 f0_1) ?_
  refine mk_p (M := mG_34) (i := .iload_n 1) (len := 1) (f' := (16, [(2, .int 0), (0, .ref 0), (1, .int (w))], [.int (w), .int w8, .ref 1])) mJ_34 (by decide +kernel) rfl ?_
  refine mk_p (M := mG_34) (i := .iload_n 2) (len := 1) (f' := (17, [(2, .int 0), (0, .ref 0), (1, .int (w))], [.int 0, .int (w), .int w8, .ref 1])) mJ_34 (by decide +kernel) rfl ?_
  refine mk_p (M := mG_34) (i := .iushr) (len := 1) (f' := (18, [(2, .int 0), (0, .ref 0), (1, .int (w))], [.int (((w).toUInt32 >>> ((0 : Int32).toUInt32 &&& Int32.toUInt32 31)).toInt32), .int w8, .ref 1])) mJ_34 (by decide +kernel) rfl ?_
  refine mk_p (M := mG_34) (i := .i2b) (len := 1) (f' := (19, [(2, .int 0), (0, .ref 0), (1, .int (w))], [.int ((((w).toUInt32 >>> ((0 : Int32).toUInt32 &&& Int32.toUInt32 31)).toInt32).toInt8.toInt32), .int w8, .ref 1])) mJ_34 (by decide +kernel) rfl ?_
  refine mk_wb (M := mG_34) (len := 1) (pc' := 20) mJ_34 (by decide +kernel) g1 (mi_in_of (by omega) (by omega)) rfl (fun h10 ys10 ln g1 ey ho => ?_)
  rw [show w8.toNatClampNeg = N + 3 from (by have e : w8.toNatClampNeg = w8.toInt.toNat := rfl; omega)] at ey
  have g0 := (ho 0 (by decide)).trans g0
  have fr : ∀ b : Nat, 0 ≠ b → 1 ≠ b → h10[b]? = h[b]? := fun b k0 k1 => (ho b k1).trans (fr b k0 k1)
  have hl : h10.length = h.length := ln.trans hl
  subst ey
  refine mk_p (M := mG_34) (i := .aload_n 0) (len := 1) (f' := (21, [(2, .int 0), (0, .ref 0), (1, .int (w))], [.ref 0])) mJ_34 (by decide +kernel) rfl ?_
  refine mk_p (M := mG_34) (i := .dup) (len := 1) (f' := (22, [(2, .int 0), (0, .ref 0), (1, .int (w))], [.ref 0, .ref 0])) mJ_34 (by decide +kernel) rfl ?_
  refine mk_h (M := mG_34) (i := .getfield 72) (len := 3) (f' := (25, [(2, .int 0), (0, .ref 0), (1, .int (w))], [.int w8, .ref 0])) (h' := h10) (sl' := sl) mJ_34 (by decide +kernel) rfl (mh_getf (ci := 11) (k := 1) (by decide +kernel) g0 f0_1) ?_
  refine mk_v (M := mG_34) (i := .iconst 1) (len := 1) (pc' := 26) (v' := .int 1) (st' := [.int w8, .ref 0]) mJ_34 (by decide +kernel) rfl (by decide +kernel) ?_
  have lt := (show ((1 : Int32)).toInt = 1 from by decide +kernel)
  refine mk_add (M := mG_34) (len := 1) (x := w8) (y := 1) (pc' := 27) mJ_34 (by decide +kernel) (by omega) (by omega) rfl (fun w11 dw11 ew11 => ?_)
  rw [lt] at ew11
  refine mk_wo (M := mG_34) (len := 3) (x := 72) (ci := 11) (k := 1) (ty := .int) (pc' := 30) mJ_34 (by decide +kernel) (by decide +kernel) g0 f0_1 rfl rfl rfl (fun h12 fs0_12 ln g0 _ fk fo ho => ?_)
  have f0_0 := (fo 0 (by decide)).trans f0_0
  have f0_1 := fk
  have o0 : ∀ q : Nat, 1 ≠ q → fs0_12[q]? = fs[q]? := fun q k0 => (fo q k0).trans (o0 q k0)
  have g1 := (ho 1 (by decide)).trans g1
  have fr : ∀ b : Nat, 0 ≠ b → 1 ≠ b → h12[b]? = h[b]? := fun b k0 k1 => (ho b k0).trans (fr b k0 k1)
  have hl : h12.length = h.length := ln.trans hl
  refine mk_i (M := mG_34) (len := 3) (k := 2) (n := (-8)) (x := 0) (y := (-8)) (lv' := [(2, .int (-8)), (0, .ref 0), (1, .int (w))]) (pc' := 33) mJ_34 (by decide +kernel) rfl (by decide +kernel) (by decide +kernel) rfl rfl ?_
  refine mk_g (M := mG_34) (len := 3) (off := (-30)) (t := 3) mJ_34 (by decide +kernel) (by decide +kernel) ?_
  refine mk_p (M := mG_34) (i := .iload_n 2) (len := 1) (f' := (4, [(2, .int (-8)), (0, .ref 0), (1, .int (w))], [.int (-8)])) mJ_34 (by decide +kernel) rfl ?_
  refine mk_t (M := mG_34) (i := .ifCond .lt 32) (len := 3) (q := decide ((-8 : Int32) < (0 : Int32))) (off := 32) (t := 36) (st' := []) mJ_34 (by decide +kernel) rfl (by decide +kernel) (by decide +kernel) ?_
  refine mk_r (M := mG_34) (i := .return_) (len := 1) (r := none) mJ_34 (by decide +kernel) rfl rfl (by decide +kernel) ?_
  exact ⟨rfl, rfl, hl, ⟨_, _, g0, f0_1, by omega, o0⟩, g1, fr⟩
set_option maxRecDepth 20000 in
theorem fw_m {sl : Nat} {ev : mi_Ev} {h : List mi_C} {fs : List Value} {xs : List Int32} (w n : Int32) (N : Nat) (hn : n.toInt = (N : Int)) (hN : N + 4 ≤ 16000) (g121 : h[121]? = some (.inl (13, fs))) (f121_3 : fs[3]? = some (.ref 214)) (f121_4 : fs[4]? = some (.int n)) (g214 : h[214]? = some (.inr (0, 16000, .inl xs))) : mi_ok (fun r h' sl' => r = none ∧ sl = sl' ∧ h'.length = h.length ∧ (∃ (fs' : List Value) (n' : Int32), h'[121]? = some (.inl (13, fs')) ∧ fs'[4]? = some (.int n') ∧ n'.toInt = ((N + 4 : Nat) : Int) ∧ ∀ q : Nat, 4 ≠ q → fs'[q]? = fs[q]?) ∧ h'[214]? = some (.inr (0, 16000, .inl (fb_put xs N (fb_m w 24) (fb_m w 16) (fb_m w 8) (fb_m w 0)))) ∧ ∀ b : Nat, 121 ≠ b → 214 ≠ b → h'[b]? = h[b]?) mi_Γ ev 87 (0, [(0, .ref 121), (1, .int w)], []) h sl := by
  have fr : ∀ b : Nat, 121 ≠ b → 214 ≠ b → h[b]? = h[b]? := fun _ _ _ => rfl
  have o121 : ∀ q : Nat, 4 ≠ q → fs[q]? = fs[q]? := fun _ _ => rfl
  have hl : h.length = h.length := rfl
  refine mk_v (M := mG_87) (i := .iconst 3) (len := 1) (pc' := 1) (v' := .int 3) (st' := []) mJ_87 (by decide +kernel) rfl (by decide +kernel) ?_
  refine mk_p (M := mG_87) (i := .istore_n 2) (len := 1) (f' := (2, [(2, .int 3), (0, .ref 121), (1, .int (w))], [])) mJ_87 (by decide +kernel) rfl ?_
  refine mk_p (M := mG_87) (i := .iload_n 2) (len := 1) (f' := (3, [(2, .int 3), (0, .ref 121), (1, .int (w))], [.int 3])) mJ_87 (by decide +kernel) rfl ?_
  refine mk_f (M := mG_87) (i := .ifCond .lt 35) (len := 3) (q := decide ((3 : Int32) < (0 : Int32))) (off := 35) (t := 38) (pc' := 6) (st' := []) mJ_87 (by decide +kernel) rfl (by decide +kernel) (by decide +kernel) rfl ?_
  refine mk_p (M := mG_87) (i := .aload_n 0) (len := 1) (f' := (7, [(2, .int 3), (0, .ref 121), (1, .int (w))], [.ref 121])) mJ_87 (by decide +kernel) rfl ?_
  refine mk_h (M := mG_87) (i := .getfield 19) (len := 3) (f' := (10, [(2, .int 3), (0, .ref 121), (1, .int (w))], [.ref 214])) (h' := h) (sl' := sl) mJ_87 (by decide +kernel) rfl (mh_getf (ci := 13) (k := 3) (by decide +kernel) g121 f121_3) ?_
  refine mk_p (M := mG_87) (i := .aload_n 0) (len := 1) (f' := (11, [(2, .int 3), (0, .ref 121), (1, .int (w))], [.ref 121, .ref 214])) mJ_87 (by decide +kernel) rfl ?_
  refine mk_h (M := mG_87) (i := .getfield 141) (len := 3) (f' := (14, [(2, .int 3), (0, .ref 121), (1, .int (w))], [.int n, .ref 214])) (h' := h) (sl' := sl) mJ_87 (by decide +kernel) rfl (mh_getf (ci := 13) (k := 4) (by decide +kernel) g121 f121_4) ?_
  refine mk_p (M := mG_87) (i := .iload_n 1) (len := 1) (f' := (15, [(2, .int 3), (0, .ref 121), (1, .int (w))], [.int (w), .int n, .ref 214])) mJ_87 (by decide +kernel) rfl ?_
  refine mk_v (M := mG_87) (i := .bipush 8) (len := 2) (pc' := 17) (v' := .int 8) (st' := [.int (w), .int n, .ref 214]) mJ_87 (by decide +kernel) rfl (by decide +kernel) ?_
  refine mk_p (M := mG_87) (i := .iload_n 2) (len := 1) (f' := (18, [(2, .int 3), (0, .ref 121), (1, .int (w))], [.int 3, .int 8, .int (w), .int n, .ref 214])) mJ_87 (by decide +kernel) rfl ?_
  refine mk_v (M := mG_87) (i := .imul) (len := 1) (pc' := 19) (v' := .int 24) (st' := [.int (w), .int n, .ref 214]) mJ_87 (by decide +kernel) rfl (by decide +kernel) ?_
  refine mk_p (M := mG_87) (i := .ishr) (len := 1) (f' := (20, [(2, .int 3), (0, .ref 121), (1, .int (w))], [.int ((w) >>> ((24 : Int32) &&& 31)), .int n, .ref 214])) mJ_87 (by decide +kernel) rfl ?_
  refine mk_p (M := mG_87) (i := .i2b) (len := 1) (f' := (21, [(2, .int 3), (0, .ref 121), (1, .int (w))], [.int (((w) >>> ((24 : Int32) &&& 31)).toInt8.toInt32), .int n, .ref 214])) mJ_87 (by decide +kernel) rfl ?_
  refine mk_wb (M := mG_87) (len := 1) (pc' := 22) mJ_87 (by decide +kernel) g214 (mi_in_of (by omega) (by omega)) rfl (fun h1 ys1 ln g214 ey ho => ?_)
  rw [show n.toNatClampNeg = N from (by have e : n.toNatClampNeg = n.toInt.toNat := rfl; omega)] at ey
  have g121 := (ho 121 (by decide)).trans g121
  have fr : ∀ b : Nat, 121 ≠ b → 214 ≠ b → h1[b]? = h[b]? := fun b k0 k1 => (ho b k1).trans (fr b k0 k1)
  have hl : h1.length = h.length := ln.trans hl
  subst ey
  refine mk_p (M := mG_87) (i := .aload_n 0) (len := 1) (f' := (23, [(2, .int 3), (0, .ref 121), (1, .int (w))], [.ref 121])) mJ_87 (by decide +kernel) rfl ?_
  refine mk_p (M := mG_87) (i := .dup) (len := 1) (f' := (24, [(2, .int 3), (0, .ref 121), (1, .int (w))], [.ref 121, .ref 121])) mJ_87 (by decide +kernel) rfl ?_
  refine mk_h (M := mG_87) (i := .getfield 141) (len := 3) (f' := (27, [(2, .int 3), (0, .ref 121), (1, .int (w))], [.int n, .ref 121])) (h' := h1) (sl' := sl) mJ_87 (by decide +kernel) rfl (mh_getf (ci := 13) (k := 4) (by decide +kernel) g121 f121_4) ?_
  refine mk_v (M := mG_87) (i := .iconst 1) (len := 1) (pc' := 28) (v' := .int 1) (st' := [.int n, .ref 121]) mJ_87 (by decide +kernel) rfl (by decide +kernel) ?_
  have lt := (show ((1 : Int32)).toInt = 1 from by decide +kernel)
  refine mk_add (M := mG_87) (len := 1) (x := n) (y := 1) (pc' := 29) mJ_87 (by decide +kernel) (by omega) (by omega) rfl (fun w2 dw2 ew2 => ?_)
  rw [lt] at ew2
  refine mk_wo (M := mG_87) (len := 3) (x := 141) (ci := 13) (k := 4) (ty := .int) (pc' := 32) mJ_87 (by decide +kernel) (by decide +kernel) g121 f121_4 rfl rfl rfl (fun h3 fs121_3 ln g121 _ fk fo ho => ?_)
  have f121_3 := (fo 3 (by decide)).trans f121_3
  have f121_4 := fk
  have o121 : ∀ q : Nat, 4 ≠ q → fs121_3[q]? = fs[q]? := fun q k0 => (fo q k0).trans (o121 q k0)
  have g214 := (ho 214 (by decide)).trans g214
  have fr : ∀ b : Nat, 121 ≠ b → 214 ≠ b → h3[b]? = h[b]? := fun b k0 k1 => (ho b k0).trans (fr b k0 k1)
  have hl : h3.length = h.length := ln.trans hl
  refine mk_i (M := mG_87) (len := 3) (k := 2) (n := (-1)) (x := 3) (y := 2) (lv' := [(2, .int 2), (0, .ref 121), (1, .int (w))]) (pc' := 35) mJ_87 (by decide +kernel) rfl (by decide +kernel) (by decide +kernel) rfl rfl ?_
  refine mk_g (M := mG_87) (len := 3) (off := (-33)) (t := 2) mJ_87 (by decide +kernel) (by decide +kernel) ?_
  refine mk_p (M := mG_87) (i := .iload_n 2) (len := 1) (f' := (3, [(2, .int 2), (0, .ref 121), (1, .int (w))], [.int 2])) mJ_87 (by decide +kernel) rfl ?_
  refine mk_f (M := mG_87) (i := .ifCond .lt 35) (len := 3) (q := decide ((2 : Int32) < (0 : Int32))) (off := 35) (t := 38) (pc' := 6) (st' := []) mJ_87 (by decide +kernel) rfl (by decide +kernel) (by decide +kernel) rfl ?_
  refine mk_p (M := mG_87) (i := .aload_n 0) (len := 1) (f' := (7, [(2, .int 2), (0, .ref 121), (1, .int (w))], [.ref 121])) mJ_87 (by decide +kernel) rfl ?_
  refine mk_h (M := mG_87) (i := .getfield 19) (len := 3) (f' := (10, [(2, .int 2), (0, .ref 121), (1, .int (w))], [.ref 214])) (h' := h3) (sl' := sl) mJ_87 (by decide +kernel) rfl (mh_getf (ci := 13) (k := 3) (by decide +kernel) g121 f121_3) ?_
  refine mk_p (M := mG_87) (i := .aload_n 0) (len := 1) (f' := (11, [(2, .int 2), (0, .ref 121), (1, .int (w))], [.ref 121, .ref 214])) mJ_87 (by decide +kernel) rfl ?_
  refine mk_h (M := mG_87) (i := .getfield 141) (len := 3) (f' := (14, [(2, .int 2), (0, .ref 121), (1, .int (w))], [.int w2, .ref 214])) (h' := h3) (sl' := sl) mJ_87 (by decide +kernel) rfl (mh_getf (ci := 13) (k := 4) (by decide +kernel) g121 f121_4) ?_
  refine mk_p (M := mG_87) (i := .iload_n 1) (len := 1) (f' := (15, [(2, .int 2), (0, .ref 121), (1, .int (w))], [.int (w), .int w2, .ref 214])) mJ_87 (by decide +kernel) rfl ?_
  refine mk_v (M := mG_87) (i := .bipush 8) (len := 2) (pc' := 17) (v' := .int 8) (st' := [.int (w), .int w2, .ref 214]) mJ_87 (by decide +kernel) rfl (by decide +kernel) ?_
  refine mk_p (M := mG_87) (i := .iload_n 2) (len := 1) (f' := (18, [(2, .int 2), (0, .ref 121), (1, .int (w))], [.int 2, .int 8, .int (w), .int w2, .ref 214])) mJ_87 (by decide +kernel) rfl ?_
  refine mk_v (M := mG_87) (i := .imul) (len := 1) (pc' := 19) (v' := .int 16) (st' := [.int (w), .int w2, .ref 214]) mJ_87 (by decide +kernel) rfl (by decide +kernel) ?_
  refine mk_p (M := mG_87) (i := .ishr) (len := 1) (f' := (20, [(2, .int 2), (0, .ref 121), (1, .int (w))], [.int ((w) >>> ((16 : Int32) &&& 31)), .int w2, .ref 214])) mJ_87 (by decide +kernel) rfl ?_
  refine mk_p (M := mG_87) (i := .i2b) (len := 1) (f' := (21, [(2, .int 2), (0, .ref 121), (1, .int (w))], [.int (((w) >>> ((16 : Int32) &&& 31)).toInt8.toInt32), .int w2, .ref 214])) mJ_87 (by decide +kernel) rfl ?_
  refine mk_wb (M := mG_87) (len := 1) (pc' := 22) mJ_87 (by decide +kernel) g214 (mi_in_of (by omega) (by omega)) rfl (fun h4 ys4 ln g214 ey ho => ?_)
  rw [show w2.toNatClampNeg = N + 1 from (by have e : w2.toNatClampNeg = w2.toInt.toNat := rfl; omega)] at ey
  have g121 := (ho 121 (by decide)).trans g121
  have fr : ∀ b : Nat, 121 ≠ b → 214 ≠ b → h4[b]? = h[b]? := fun b k0 k1 => (ho b k1).trans (fr b k0 k1)
  have hl : h4.length = h.length := ln.trans hl
  subst ey
  refine mk_p (M := mG_87) (i := .aload_n 0) (len := 1) (f' := (23, [(2, .int 2), (0, .ref 121), (1, .int (w))], [.ref 121])) mJ_87 (by decide +kernel) rfl ?_
  refine mk_p (M := mG_87) (i := .dup) (len := 1) (f' := (24, [(2, .int 2), (0, .ref 121), (1, .int (w))], [.ref 121, .ref 121])) mJ_87 (by decide +kernel) rfl ?_
  refine mk_h (M := mG_87) (i := .getfield 141) (len := 3) (f' := (27, [(2, .int 2), (0, .ref 121), (1, .int (w))], [.int w2, .ref 121])) (h' := h4) (sl' := sl) mJ_87 (by decide +kernel) rfl (mh_getf (ci := 13) (k := 4) (by decide +kernel) g121 f121_4) ?_
  refine mk_v (M := mG_87) (i := .iconst 1) (len := 1) (pc' := 28) (v' := .int 1) (st' := [.int w2, .ref 121]) mJ_87 (by decide +kernel) rfl (by decide +kernel) ?_
  have lt := (show ((1 : Int32)).toInt = 1 from by decide +kernel)
  refine mk_add (M := mG_87) (len := 1) (x := w2) (y := 1) (pc' := 29) mJ_87 (by decide +kernel) (by omega) (by omega) rfl (fun w5 dw5 ew5 => ?_)
  rw [lt] at ew5
  refine mk_wo (M := mG_87) (len := 3) (x := 141) (ci := 13) (k := 4) (ty := .int) (pc' := 32) mJ_87 (by decide +kernel) (by decide +kernel) g121 f121_4 rfl rfl rfl (fun h6 fs121_6 ln g121 _ fk fo ho => ?_)
  have f121_3 := (fo 3 (by decide)).trans f121_3
  have f121_4 := fk
  have o121 : ∀ q : Nat, 4 ≠ q → fs121_6[q]? = fs[q]? := fun q k0 => (fo q k0).trans (o121 q k0)
  have g214 := (ho 214 (by decide)).trans g214
  have fr : ∀ b : Nat, 121 ≠ b → 214 ≠ b → h6[b]? = h[b]? := fun b k0 k1 => (ho b k0).trans (fr b k0 k1)
  have hl : h6.length = h.length := ln.trans hl
  refine mk_i (M := mG_87) (len := 3) (k := 2) (n := (-1)) (x := 2) (y := 1) (lv' := [(2, .int 1), (0, .ref 121), (1, .int (w))]) (pc' := 35) mJ_87 (by decide +kernel) rfl (by decide +kernel) (by decide +kernel) rfl rfl ?_
  refine mk_g (M := mG_87) (len := 3) (off := (-33)) (t := 2) mJ_87 (by decide +kernel) (by decide +kernel) ?_
  refine mk_p (M := mG_87) (i := .iload_n 2) (len := 1) (f' := (3, [(2, .int 1), (0, .ref 121), (1, .int (w))], [.int 1])) mJ_87 (by decide +kernel) rfl ?_
  refine mk_f (M := mG_87) (i := .ifCond .lt 35) (len := 3) (q := decide ((1 : Int32) < (0 : Int32))) (off := 35) (t := 38) (pc' := 6) (st' := []) mJ_87 (by decide +kernel) rfl (by decide +kernel) (by decide +kernel) rfl ?_
  refine mk_p (M := mG_87) (i := .aload_n 0) (len := 1) (f' := (7, [(2, .int 1), (0, .ref 121), (1, .int (w))], [.ref 121])) mJ_87 (by decide +kernel) rfl ?_
  refine mk_h (M := mG_87) (i := .getfield 19) (len := 3) (f' := (10, [(2, .int 1), (0, .ref 121), (1, .int (w))], [.ref 214])) (h' := h6) (sl' := sl) mJ_87 (by decide +kernel) rfl (mh_getf (ci := 13) (k := 3) (by decide +kernel) g121 f121_3) ?_
  refine mk_p (M := mG_87) (i := .aload_n 0) (len := 1) (f' := (11, [(2, .int 1), (0, .ref 121), (1, .int (w))], [.ref 121, .ref 214])) mJ_87 (by decide +kernel) rfl ?_
  refine mk_h (M := mG_87) (i := .getfield 141) (len := 3) (f' := (14, [(2, .int 1), (0, .ref 121), (1, .int (w))], [.int w5, .ref 214])) (h' := h6) (sl' := sl) mJ_87 (by decide +kernel) rfl (mh_getf (ci := 13) (k := 4) (by decide +kernel) g121 f121_4) ?_
  refine mk_p (M := mG_87) (i := .iload_n 1) (len := 1) (f' := (15, [(2, .int 1), (0, .ref 121), (1, .int (w))], [.int (w), .int w5, .ref 214])) mJ_87 (by decide +kernel) rfl ?_
  refine mk_v (M := mG_87) (i := .bipush 8) (len := 2) (pc' := 17) (v' := .int 8) (st' := [.int (w), .int w5, .ref 214]) mJ_87 (by decide +kernel) rfl (by decide +kernel) ?_
  refine mk_p (M := mG_87) (i := .iload_n 2) (len := 1) (f' := (18, [(2, .int 1), (0, .ref 121), (1, .int (w))], [.int 1, .int 8, .int (w), .int w5, .ref 214])) mJ_87 (by decide +kernel) rfl ?_
  refine mk_v (M := mG_87) (i := .imul) (len := 1) (pc' := 19) (v' := .int 8) (st' := [.int (w), .int w5, .ref 214]) mJ_87 (by decide +kernel) rfl (by decide +kernel) ?_
  refine mk_p (M := mG_87) (i := .ishr) (len := 1) (f' := (20, [(2, .int 1), (0, .ref 121), (1, .int (w))], [.int ((w) >>> ((8 : Int32) &&& 31)), .int w5, .ref 214])) mJ_87 (by decide +kernel) rfl ?_
  refine mk_p (M := mG_87) (i := .i2b) (len := 1) (f' := (21, [(2, .int 1), (0, .ref 121), (1, .int (w))], [.int (((w) >>> ((8 : Int32) &&& 31)).toInt8.toInt32), .int w5, .ref 214])) mJ_87 (by decide +kernel) rfl ?_
  refine mk_wb (M := mG_87) (len := 1) (pc' := 22) mJ_87 (by decide +kernel) g214 (mi_in_of (by omega) (by omega)) rfl (fun h7 ys7 ln g214 ey ho => ?_)
  rw [show w5.toNatClampNeg = N + 2 from (by have e : w5.toNatClampNeg = w5.toInt.toNat := rfl; omega)] at ey
  have g121 := (ho 121 (by decide)).trans g121
  have fr : ∀ b : Nat, 121 ≠ b → 214 ≠ b → h7[b]? = h[b]? := fun b k0 k1 => (ho b k1).trans (fr b k0 k1)
  have hl : h7.length = h.length := ln.trans hl
  subst ey
  refine mk_p (M := mG_87) (i := .aload_n 0) (len := 1) (f' := (23, [(2, .int 1), (0, .ref 121), (1, .int (w))], [.ref 121])) mJ_87 (by decide +kernel) rfl ?_
  refine mk_p (M := mG_87) (i := .dup) (len := 1) (f' := (24, [(2, .int 1), (0, .ref 121), (1, .int (w))], [.ref 121, .ref 121])) mJ_87 (by decide +kernel) rfl ?_
  refine mk_h (M := mG_87) (i := .getfield 141) (len := 3) (f' := (27, [(2, .int 1), (0, .ref 121), (1, .int (w))], [.int w5, .ref 121])) (h' := h7) (sl' := sl) mJ_87 (by decide +kernel) rfl (mh_getf (ci := 13) (k := 4) (by decide +kernel) g121 f121_4) ?_
  refine mk_v (M := mG_87) (i := .iconst 1) (len := 1) (pc' := 28) (v' := .int 1) (st' := [.int w5, .ref 121]) mJ_87 (by decide +kernel) rfl (by decide +kernel) ?_
  have lt := (show ((1 : Int32)).toInt = 1 from by decide +kernel)
  refine mk_add (M := mG_87) (len := 1) (x := w5) (y := 1) (pc' := 29) mJ_87 (by decide +kernel) (by omega) (by omega) rfl (fun w8 dw8 ew8 => ?_)
  rw [lt] at ew8
  refine mk_wo (M := mG_87) (len := 3) (x := 141) (ci := 13) (k := 4) (ty := .int) (pc' := 32) mJ_87 (by decide +kernel) (by decide +kernel) g121 f121_4 rfl rfl rfl (fun h9 fs121_9 ln g121 _ fk fo ho => ?_)
  have f121_3 := (fo 3 (by decide)).trans f121_3
  have f121_4 := fk
  have o121 : ∀ q : Nat, 4 ≠ q → fs121_9[q]? = fs[q]? := fun q k0 => (fo q k0).trans (o121 q k0)
  have g214 := (ho 214 (by decide)).trans g214
  have fr : ∀ b : Nat, 121 ≠ b → 214 ≠ b → h9[b]? = h[b]? := fun b k0 k1 => (ho b k0).trans (fr b k0 k1)
  have hl : h9.length = h.length := ln.trans hl
  refine mk_i (M := mG_87) (len := 3) (k := 2) (n := (-1)) (x := 1) (y := 0) (lv' := [(2, .int 0), (0, .ref 121), (1, .int (w))]) (pc' := 35) mJ_87 (by decide +kernel) rfl (by decide +kernel) (by decide +kernel) rfl rfl ?_
  refine mk_g (M := mG_87) (len := 3) (off := (-33)) (t := 2) mJ_87 (by decide +kernel) (by decide +kernel) ?_
  refine mk_p (M := mG_87) (i := .iload_n 2) (len := 1) (f' := (3, [(2, .int 0), (0, .ref 121), (1, .int (w))], [.int 0])) mJ_87 (by decide +kernel) rfl ?_
  refine mk_f (M := mG_87) (i := .ifCond .lt 35) (len := 3) (q := decide ((0 : Int32) < (0 : Int32))) (off := 35) (t := 38) (pc' := 6) (st' := []) mJ_87 (by decide +kernel) rfl (by decide +kernel) (by decide +kernel) rfl ?_
  refine mk_p (M := mG_87) (i := .aload_n 0) (len := 1) (f' := (7, [(2, .int 0), (0, .ref 121), (1, .int (w))], [.ref 121])) mJ_87 (by decide +kernel) rfl ?_
  refine mk_h (M := mG_87) (i := .getfield 19) (len := 3) (f' := (10, [(2, .int 0), (0, .ref 121), (1, .int (w))], [.ref 214])) (h' := h9) (sl' := sl) mJ_87 (by decide +kernel) rfl (mh_getf (ci := 13) (k := 3) (by decide +kernel) g121 f121_3) ?_
  refine mk_p (M := mG_87) (i := .aload_n 0) (len := 1) (f' := (11, [(2, .int 0), (0, .ref 121), (1, .int (w))], [.ref 121, .ref 214])) mJ_87 (by decide +kernel) rfl ?_
  refine mk_h (M := mG_87) (i := .getfield 141) (len := 3) (f' := (14, [(2, .int 0), (0, .ref 121), (1, .int (w))], [.int w8, .ref 214])) (h' := h9) (sl' := sl) mJ_87 (by decide +kernel) rfl (mh_getf (ci := 13) (k := 4) (by decide +kernel) g121 f121_4) ?_
  refine mk_p (M := mG_87) (i := .iload_n 1) (len := 1) (f' := (15, [(2, .int 0), (0, .ref 121), (1, .int (w))], [.int (w), .int w8, .ref 214])) mJ_87 (by decide +kernel) rfl ?_
  refine mk_v (M := mG_87) (i := .bipush 8) (len := 2) (pc' := 17) (v' := .int 8) (st' := [.int (w), .int w8, .ref 214]) mJ_87 (by decide +kernel) rfl (by decide +kernel) ?_
  refine mk_p (M := mG_87) (i := .iload_n 2) (len := 1) (f' := (18, [(2, .int 0), (0, .ref 121), (1, .int (w))], [.int 0, .int 8, .int (w), .int w8, .ref 214])) mJ_87 (by decide +kernel) rfl ?_
  refine mk_v (M := mG_87) (i := .imul) (len := 1) (pc' := 19) (v' := .int 0) (st' := [.int (w), .int w8, .ref 214]) mJ_87 (by decide +kernel) rfl (by decide +kernel) ?_
  refine mk_p (M := mG_87) (i := .ishr) (len := 1) (f' := (20, [(2, .int 0), (0, .ref 121), (1, .int (w))], [.int ((w) >>> ((0 : Int32) &&& 31)), .int w8, .ref 214])) mJ_87 (by decide +kernel) rfl ?_
  refine mk_p (M := mG_87) (i := .i2b) (len := 1) (f' := (21, [(2, .int 0), (0, .ref 121), (1, .int (w))], [.int (((w) >>> ((0 : Int32) &&& 31)).toInt8.toInt32), .int w8, .ref 214])) mJ_87 (by decide +kernel) rfl ?_
  refine mk_wb (M := mG_87) (len := 1) (pc' := 22) mJ_87 (by decide +kernel) g214 (mi_in_of (by omega) (by omega)) rfl (fun h10 ys10 ln g214 ey ho => ?_)
  rw [show w8.toNatClampNeg = N + 3 from (by have e : w8.toNatClampNeg = w8.toInt.toNat := rfl; omega)] at ey
  have g121 := (ho 121 (by decide)).trans g121
  have fr : ∀ b : Nat, 121 ≠ b → 214 ≠ b → h10[b]? = h[b]? := fun b k0 k1 => (ho b k1).trans (fr b k0 k1)
  have hl : h10.length = h.length := ln.trans hl
  subst ey
  refine mk_p (M := mG_87) (i := .aload_n 0) (len := 1) (f' := (23, [(2, .int 0), (0, .ref 121), (1, .int (w))], [.ref 121])) mJ_87 (by decide +kernel) rfl ?_
  refine mk_p (M := mG_87) (i := .dup) (len := 1) (f' := (24, [(2, .int 0), (0, .ref 121), (1, .int (w))], [.ref 121, .ref 121])) mJ_87 (by decide +kernel) rfl ?_
  refine mk_h (M := mG_87) (i := .getfield 141) (len := 3) (f' := (27, [(2, .int 0), (0, .ref 121), (1, .int (w))], [.int w8, .ref 121])) (h' := h10) (sl' := sl) mJ_87 (by decide +kernel) rfl (mh_getf (ci := 13) (k := 4) (by decide +kernel) g121 f121_4) ?_
  refine mk_v (M := mG_87) (i := .iconst 1) (len := 1) (pc' := 28) (v' := .int 1) (st' := [.int w8, .ref 121]) mJ_87 (by decide +kernel) rfl (by decide +kernel) ?_
  have lt := (show ((1 : Int32)).toInt = 1 from by decide +kernel)
  refine mk_add (M := mG_87) (len := 1) (x := w8) (y := 1) (pc' := 29) mJ_87 (by decide +kernel) (by omega) (by omega) rfl (fun w11 dw11 ew11 => ?_)
  rw [lt] at ew11
  refine mk_wo (M := mG_87) (len := 3) (x := 141) (ci := 13) (k := 4) (ty := .int) (pc' := 32) mJ_87 (by decide +kernel) (by decide +kernel) g121 f121_4 rfl rfl rfl (fun h12 fs121_12 ln g121 _ fk fo ho => ?_)
  have f121_3 := (fo 3 (by decide)).trans f121_3
  have f121_4 := fk
  have o121 : ∀ q : Nat, 4 ≠ q → fs121_12[q]? = fs[q]? := fun q k0 => (fo q k0).trans (o121 q k0)
  have g214 := (ho 214 (by decide)).trans g214
  have fr : ∀ b : Nat, 121 ≠ b → 214 ≠ b → h12[b]? = h[b]? := fun b k0 k1 => (ho b k0).trans (fr b k0 k1)
  have hl : h12.length = h.length := ln.trans hl
  refine mk_i (M := mG_87) (len := 3) (k := 2) (n := (-1)) (x := 0) (y := (-1)) (lv' := [(2, .int (-1)), (0, .ref 121), (1, .int (w))]) (pc' := 35) mJ_87 (by decide +kernel) rfl (by decide +kernel) (by decide +kernel) rfl rfl ?_
  refine mk_g (M := mG_87) (len := 3) (off := (-33)) (t := 2) mJ_87 (by decide +kernel) (by decide +kernel) ?_
  refine mk_p (M := mG_87) (i := .iload_n 2) (len := 1) (f' := (3, [(2, .int (-1)), (0, .ref 121), (1, .int (w))], [.int (-1)])) mJ_87 (by decide +kernel) rfl ?_
  refine mk_t (M := mG_87) (i := .ifCond .lt 35) (len := 3) (q := decide ((-1 : Int32) < (0 : Int32))) (off := 35) (t := 38) (st' := []) mJ_87 (by decide +kernel) rfl (by decide +kernel) (by decide +kernel) ?_
  refine mk_r (M := mG_87) (i := .return_) (len := 1) (r := none) mJ_87 (by decide +kernel) rfl rfl (by decide +kernel) ?_
  exact ⟨rfl, rfl, hl, ⟨_, _, g121, f121_4, by omega, o121⟩, g214, fr⟩
