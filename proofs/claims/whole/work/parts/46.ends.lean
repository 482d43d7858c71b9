/-! end of the reference, taken: the text is copied byte by byte. -/
set_option maxRecDepth 20000 in
theorem em_it {P : Option Value → List mi_C → Nat → Prop} {sl : Nat} {ev : mi_Ev} {h : List mi_C} {fs : List Value} {xs ys : List Int32} (k e : Int32) (I K : Nat) (hk : k.toInt = (I : Int)) (he : e.toInt = (K : Int)) (c1 : I < K) (c2 : K ≤ 16000) (g121 : h[121]? = some (.inl (13, fs))) (f121_3 : fs[3]? = some (.ref 214)) (f121_6 : fs[6]? = some (.ref 215)) (g214 : h[214]? = some (.inr (0, 16000, .inl xs))) (g215 : h[215]? = some (.inr (0, 16000, .inl ys))) (c : ∀ (h' : List mi_C) (k' : Int32), k'.toInt = ((I + 1 : Nat) : Int) → h'.length = h.length → h'[121]? = some (.inl (13, fs)) → h'[214]? = some (.inr (0, 16000, .inl xs)) → h'[215]? = some (.inr (0, 16000, .inl (mi_sl 0 ys I (vp_nar .byte (xs.getD I 0))))) → (∀ b : Nat, 121 ≠ b → 215 ≠ b → h'[b]? = h[b]?) → mi_ok P mi_Γ ev 57 (16, [(2, .int k'), (0, .ref 121), (1, .int e)], []) h' sl) : mi_ok P mi_Γ ev 57 (16, [(2, .int k), (0, .ref 121), (1, .int e)], []) h sl := by
  have ek : k.toNatClampNeg = I := by have q : k.toNatClampNeg = k.toInt.toNat := rfl; omega
  have fr : ∀ b : Nat, 121 ≠ b → 215 ≠ b → h[b]? = h[b]? := fun _ _ _ => rfl
  have hl : h.length = h.length := rfl
  refine mk_p (M := mG_57) (i := .iload_n 2) (len := 1) (f' := (17, [(2, .int k), (0, .ref 121), (1, .int e)], [.int k])) mJ_57 (by decide +kernel) rfl ?_
  refine mk_p (M := mG_57) (i := .iload_n 1) (len := 1) (f' := (18, [(2, .int k), (0, .ref 121), (1, .int e)], [.int e, .int k])) mJ_57 (by decide +kernel) rfl ?_
  refine mk_f (M := mG_57) (i := .if_icmp .ge 21) (len := 3) (q := decide (e ≤ k)) (off := 21) (t := 39) (pc' := 21) (st' := []) mJ_57 (by decide +kernel) rfl (by simp only [decide_eq_true_eq, decide_eq_false_iff_not, Int32.lt_iff_toInt_lt, Int32.le_iff_toInt_le, ← Int32.toInt_inj]; omega) (by decide +kernel) rfl ?_
  refine mk_p (M := mG_57) (i := .aload_n 0) (len := 1) (f' := (22, [(2, .int k), (0, .ref 121), (1, .int e)], [.ref 121])) mJ_57 (by decide +kernel) rfl ?_
  refine mk_h (M := mG_57) (i := .getfield 23) (len := 3) (f' := (25, [(2, .int k), (0, .ref 121), (1, .int e)], [.ref 215])) (h' := h) (sl' := sl) mJ_57 (by decide +kernel) rfl (mh_getf (ci := 13) (k := 6) (by decide +kernel) g121 f121_6) ?_
  refine mk_p (M := mG_57) (i := .iload_n 2) (len := 1) (f' := (26, [(2, .int k), (0, .ref 121), (1, .int e)], [.int k, .ref 215])) mJ_57 (by decide +kernel) rfl ?_
  refine mk_p (M := mG_57) (i := .aload_n 0) (len := 1) (f' := (27, [(2, .int k), (0, .ref 121), (1, .int e)], [.ref 121, .int k, .ref 215])) mJ_57 (by decide +kernel) rfl ?_
  refine mk_h (M := mG_57) (i := .getfield 19) (len := 3) (f' := (30, [(2, .int k), (0, .ref 121), (1, .int e)], [.ref 214, .int k, .ref 215])) (h' := h) (sl' := sl) mJ_57 (by decide +kernel) rfl (mh_getf (ci := 13) (k := 3) (by decide +kernel) g121 f121_3) ?_
  refine mk_p (M := mG_57) (i := .iload_n 2) (len := 1) (f' := (31, [(2, .int k), (0, .ref 121), (1, .int e)], [.int k, .ref 214, .int k, .ref 215])) mJ_57 (by decide +kernel) rfl ?_
  refine mk_h (M := mG_57) (i := .baload) (len := 1) (f' := (32, [(2, .int k), (0, .ref 121), (1, .int e)], [.int (xs.getD k.toNatClampNeg 0), .int k, .ref 215])) (h' := h) (sl' := sl) mJ_57 (by decide +kernel) rfl (mh_bal g214 (mi_in_of (by omega) (by omega))) ?_
  refine mk_wb (M := mG_57) (len := 1) (pc' := 33) mJ_57 (by decide +kernel) g215 (mi_in_of (by omega) (by omega)) rfl (fun h1 ys1 ln g215 ey ho => ?_)
  rw [show k.toNatClampNeg = I from (by have e : k.toNatClampNeg = k.toInt.toNat := rfl; omega)] at ey
  have g121 := (ho 121 (by decide)).trans g121
  have g214 := (ho 214 (by decide)).trans g214
  have fr : ∀ b : Nat, 121 ≠ b → 215 ≠ b → h1[b]? = h[b]? := fun b k0 k1 => (ho b k1).trans (fr b k0 k1)
  have hl : h1.length = h.length := ln.trans hl
  subst ey
  refine mk_is (M := mG_57) (len := 3) (k := 2) (n := 1) (c := 1) (x := k) (pc' := 36) mJ_57 (by decide +kernel) rfl (by decide +kernel) (by decide +kernel) (by omega) (by omega) rfl (fun w2 ew2 => ?_)
  show mi_ok _ mi_Γ ev 57 (36, [(2, .int w2), (0, .ref 121), (1, .int e)], []) h1 sl
  refine mk_g (M := mG_57) (len := 3) (off := (-20)) (t := 16) mJ_57 (by decide +kernel) (by decide +kernel) ?_
  exact c _ w2 (by omega) hl g121 g214 g215 fr
theorem em_loop {P : Option Value → List mi_C → Nat → Prop} {sl : Nat} {ev : mi_Ev} {fs : List Value} {xs : List Int32} (e : Int32) (K : Nat) (he : e.toInt = (K : Int)) (c2 : K ≤ 16000) (f1 : fs[3]? = some (.ref 214)) (f2 : fs[6]? = some (.ref 215)) : ∀ (d I : Nat) (h : List mi_C) (ys : List Int32) (k : Int32), I + d = K → k.toInt = (I : Int) → h[121]? = some (.inl (13, fs)) → h[214]? = some (.inr (0, 16000, .inl xs)) → h[215]? = some (.inr (0, 16000, .inl ys)) → (∀ (h' : List mi_C) (k' : Int32) (zs : List Int32), k'.toInt = (K : Int) → h'.length = h.length → h'[121]? = some (.inl (13, fs)) → h'[214]? = some (.inr (0, 16000, .inl xs)) → h'[215]? = some (.inr (0, 16000, .inl zs)) → (∀ i, zs.getD i 0 = if I ≤ i ∧ i < K then vp_nar .byte (xs.getD i 0) else ys.getD i 0) → (∀ b : Nat, 121 ≠ b → 215 ≠ b → h'[b]? = h[b]?) → mi_ok P mi_Γ ev 57 (16, [(2, .int k'), (0, .ref 121), (1, .int e)], []) h' sl) → mi_ok P mi_Γ ev 57 (16, [(2, .int k), (0, .ref 121), (1, .int e)], []) h sl := by
  intro d
  induction d with
  | zero =>
    intro I h ys k hd hk g1 g2 g3 c
    refine c h k ys (by omega) rfl g1 g2 g3 (fun i => ?_) (fun _ _ _ => rfl)
    rw [if_neg (by omega)]
  | succ d ih =>
    intro I h ys k hd hk g1 g2 g3 c
    refine em_it k e I K hk he (by omega) c2 g1 f1 f2 g2 g3 (fun h1 k1 hk1 l1 a1 a2 a3 o1 => ?_)
    refine ih (I + 1) h1 _ k1 (by omega) hk1 a1 a2 a3 (fun h2 k2 zs hk2 l2 b1 b2 b3 hz o2 => ?_)
    refine c h2 k2 zs hk2 (l2.trans l1) b1 b2 b3 (fun i => ?_) (fun b p q => (o2 b p q).trans (o1 b p q))
    rw [hz i, mi_sl_get]
    by_cases h1 : i = I
    · subst h1
      rw [if_neg (by omega), if_pos rfl, if_pos (by omega)]
    · by_cases h2 : I + 1 ≤ i ∧ i < K
      · rw [if_pos h2, if_pos (by omega)]
      · rw [if_neg h2, if_neg h1, if_neg (by omega)]
set_option maxRecDepth 20000 in
theorem en_m_y {sl : Nat} {ev : mi_Ev} {h : List mi_C} {fs : List Value} {xs ys : List Int32} (e n t : Int32) (N K : Nat) (hn : n.toInt = (N : Int)) (he : e.toInt = (K : Int)) (c1 : K ≤ N) (c2 : N ≤ 16000) (g121 : h[121]? = some (.inl (13, fs))) (f121_3 : fs[3]? = some (.ref 214)) (f121_4 : fs[4]? = some (.int n)) (f121_6 : fs[6]? = some (.ref 215)) (f121_7 : fs[7]? = some (.int t)) (g214 : h[214]? = some (.inr (0, 16000, .inl xs))) (g215 : h[215]? = some (.inr (0, 16000, .inl ys))) : mi_ok (fun r h' sl' => r = some (.int 1) ∧ sl = sl' ∧ h'.length = h.length ∧ (∃ fs' : List Value, h'[121]? = some (.inl (13, fs')) ∧ fs'[4]? = some (.int 0) ∧ fs'[7]? = some (.int e) ∧ ∀ q : Nat, 4 ≠ q → 7 ≠ q → fs'[q]? = fs[q]?) ∧ (∃ zs : List Int32, h'[215]? = some (.inr (0, 16000, .inl zs)) ∧ ∀ i, zs.getD i 0 = if 0 ≤ i ∧ i < K then vp_nar .byte (xs.getD i 0) else ys.getD i 0) ∧ ∀ b : Nat, 121 ≠ b → 215 ≠ b → h'[b]? = h[b]?) mi_Γ ev 57 (0, [(0, .ref 121), (1, .int e)], []) h sl := by
  have fr : ∀ b : Nat, 121 ≠ b → 215 ≠ b → h[b]? = h[b]? := fun _ _ _ => rfl
  have o121 : ∀ q : Nat, 4 ≠ q → 7 ≠ q → fs[q]? = fs[q]? := fun _ _ _ => rfl
  have hl : h.length = h.length := rfl
  refine mk_p (M := mG_57) (i := .iload_n 1) (len := 1) (f' := (1, [(0, .ref 121), (1, .int e)], [.int e])) mJ_57 (by decide +kernel) rfl ?_
  refine mk_f (M := mG_57) (i := .ifCond .lt 11) (len := 3) (q := decide (e < (0 : Int32))) (off := 11) (t := 12) (pc' := 4) (st' := []) mJ_57 (by decide +kernel) rfl (by simp only [decide_eq_true_eq, decide_eq_false_iff_not, Int32.lt_iff_toInt_lt, Int32.le_iff_toInt_le, ← Int32.toInt_inj, (show ((0 : Int32)).toInt = 0 from by decide +kernel)]; omega) (by decide +kernel) rfl ?_
  refine mk_p (M := mG_57) (i := .iload_n 1) (len := 1) (f' := (5, [(0, .ref 121), (1, .int e)], [.int e])) mJ_57 (by decide +kernel) rfl ?_
  refine mk_p (M := mG_57) (i := .aload_n 0) (len := 1) (f' := (6, [(0, .ref 121), (1, .int e)], [.ref 121, .int e])) mJ_57 (by decide +kernel) rfl ?_
  refine mk_h (M := mG_57) (i := .getfield 141) (len := 3) (f' := (9, [(0, .ref 121), (1, .int e)], [.int n, .int e])) (h' := h) (sl' := sl) mJ_57 (by decide +kernel) rfl (mh_getf (ci := 13) (k := 4) (by decide +kernel) g121 f121_4) ?_
  refine mk_t (M := mG_57) (i := .if_icmp .le 5) (len := 3) (q := decide (e ≤ n)) (off := 5) (t := 14) (st' := []) mJ_57 (by decide +kernel) rfl (by simp only [decide_eq_true_eq, decide_eq_false_iff_not, Int32.lt_iff_toInt_lt, Int32.le_iff_toInt_le, ← Int32.toInt_inj]; omega) (by decide +kernel) ?_
  refine mk_v (M := mG_57) (i := .iconst 0) (len := 1) (pc' := 15) (v' := .int 0) (st' := []) mJ_57 (by decide +kernel) rfl (by decide +kernel) ?_
  refine mk_p (M := mG_57) (i := .istore_n 2) (len := 1) (f' := (16, [(2, .int 0), (0, .ref 121), (1, .int e)], [])) mJ_57 (by decide +kernel) rfl ?_
  refine em_loop e K he (by omega) f121_3 f121_6 K 0 h ys 0 (by omega) (by decide +kernel) g121 g214 g215 (fun h50 k50 zs ek ln g121 g214 g215 hz ho => ?_)
  have fr := ho
  have hl := ln
  refine mk_p (M := mG_57) (i := .iload_n 2) (len := 1) (f' := (17, [(2, .int k50), (0, .ref 121), (1, .int e)], [.int k50])) mJ_57 (by decide +kernel) rfl ?_
  refine mk_p (M := mG_57) (i := .iload_n 1) (len := 1) (f' := (18, [(2, .int k50), (0, .ref 121), (1, .int e)], [.int e, .int k50])) mJ_57 (by decide +kernel) rfl ?_
  refine mk_t (M := mG_57) (i := .if_icmp .ge 21) (len := 3) (q := decide (e ≤ k50)) (off := 21) (t := 39) (st' := []) mJ_57 (by decide +kernel) rfl (by simp only [decide_eq_true_eq, decide_eq_false_iff_not, Int32.lt_iff_toInt_lt, Int32.le_iff_toInt_le, ← Int32.toInt_inj]; omega) (by decide +kernel) ?_
  refine mk_p (M := mG_57) (i := .aload_n 0) (len := 1) (f' := (40, [(2, .int k50), (0, .ref 121), (1, .int e)], [.ref 121])) mJ_57 (by decide +kernel) rfl ?_
  refine mk_p (M := mG_57) (i := .iload_n 1) (len := 1) (f' := (41, [(2, .int k50), (0, .ref 121), (1, .int e)], [.int e, .ref 121])) mJ_57 (by decide +kernel) rfl ?_
  refine mk_wo (M := mG_57) (len := 3) (x := 152) (ci := 13) (k := 7) (ty := .int) (pc' := 44) mJ_57 (by decide +kernel) (by decide +kernel) g121 f121_7 rfl rfl rfl (fun h101 fs121_101 ln g121 _ fk fo ho => ?_)
  have f121_3 := (fo 3 (by decide)).trans f121_3
  have f121_4 := (fo 4 (by decide)).trans f121_4
  have f121_6 := (fo 6 (by decide)).trans f121_6
  have f121_7 := fk
  have o121 : ∀ q : Nat, 4 ≠ q → 7 ≠ q → fs121_101[q]? = fs[q]? := fun q k0 k1 => (fo q k1).trans (o121 q k0 k1)
  have g214 := (ho 214 (by decide)).trans g214
  have g215 := (ho 215 (by decide)).trans g215
  have fr : ∀ b : Nat, 121 ≠ b → 215 ≠ b → h101[b]? = h[b]? := fun b k0 k1 => (ho b k0).trans (fr b k0 k1)
  have hl : h101.length = h.length := ln.trans hl
  refine mk_p (M := mG_57) (i := .aload_n 0) (len := 1) (f' := (45, [(2, .int k50), (0, .ref 121), (1, .int e)], [.ref 121])) mJ_57 (by decide +kernel) rfl ?_
  refine mk_v (M := mG_57) (i := .iconst 0) (len := 1) (pc' := 46) (v' := .int 0) (st' := [.ref 121]) mJ_57 (by decide +kernel) rfl (by decide +kernel) ?_
  refine mk_wo (M := mG_57) (len := 3) (x := 141) (ci := 13) (k := 4) (ty := .int) (pc' := 49) mJ_57 (by decide +kernel) (by decide +kernel) g121 f121_4 rfl rfl rfl (fun h102 fs121_102 ln g121 _ fk fo ho => ?_)
  have f121_3 := (fo 3 (by decide)).trans f121_3
  have f121_6 := (fo 6 (by decide)).trans f121_6
  have f121_7 := (fo 7 (by decide)).trans f121_7
  have f121_4 := fk
  have o121 : ∀ q : Nat, 4 ≠ q → 7 ≠ q → fs121_102[q]? = fs[q]? := fun q k0 k1 => (fo q k0).trans (o121 q k0 k1)
  have g214 := (ho 214 (by decide)).trans g214
  have g215 := (ho 215 (by decide)).trans g215
  have fr : ∀ b : Nat, 121 ≠ b → 215 ≠ b → h102[b]? = h[b]? := fun b k0 k1 => (ho b k0).trans (fr b k0 k1)
  have hl : h102.length = h.length := ln.trans hl
  refine mk_v (M := mG_57) (i := .iconst 1) (len := 1) (pc' := 50) (v' := .int 1) (st' := []) mJ_57 (by decide +kernel) rfl (by decide +kernel) ?_
  refine mk_r (M := mG_57) (i := .ireturn) (len := 1) (r := some (.int 1)) mJ_57 (by decide +kernel) rfl rfl (by decide +kernel) ?_
  exact ⟨rfl, rfl, hl, ⟨_, g121, f121_4, f121_7, o121⟩, ⟨_, g215, hz⟩, fr⟩
