/-! The second level: calls, copies, returns; how a function is taken apart. -/
def nk_cat (st : List nk_V) : Nat := (st.map fun v => if nk_is2 v then 2 else 1).sum
def nk_args : Nat → List nk_V → nk_L
  | _, [] => []
  | i, v :: vs => (i, v) :: nk_args (if nk_is2 v then i + 2 else i + 1) vs
theorem nk_sr_cat : ∀ {st : List nk_V} {vs : List Value}, nk_sr st vs → mi_cat vs = nk_cat st
  | [], [], _ => rfl
  | v :: st, w :: vs, ⟨h, hs⟩ => by
    have h1 := nk_sr_cat hs
    have h2 := nk_vr_cat h
    simp only [mi_cat, nk_cat, List.map_cons, List.sum_cons] at h1 ⊢
    rw [h1, h2]
  | [], _ :: _, h => by cases h
  | _ :: _, [], h => by cases h
theorem nk_sr_sl : ∀ {st : List nk_V} {vs : List Value}, nk_sr st vs → (lg_sl vs).length = nk_cat st
  | [], [], _ => rfl
  | v :: st, w :: vs, ⟨h, hs⟩ => by
    have h1 := nk_sr_sl hs
    have h2 := nk_vr_cat h
    simp only [lg_sl, nk_cat, List.flatMap_cons, List.length_append, List.map_cons, List.sum_cons] at h1 ⊢
    rw [h1, h2]
    cases nk_is2 v <;> simp
  | [], _ :: _, h => by cases h
  | _ :: _, [], h => by cases h
theorem nk_sr_app : ∀ {a b : List nk_V} {x y : List Value}, nk_sr a x → nk_sr b y → nk_sr (a ++ b) (x ++ y)
  | [], _, [], _, _, h => h
  | _ :: _, _, _ :: _, _, ⟨h, hs⟩, h2 => ⟨h, nk_sr_app hs h2⟩
  | [], _, _ :: _, _, h, _ => by cases h
  | _ :: _, _, [], _, h, _ => by cases h
theorem nk_sr_rev : ∀ {a : List nk_V} {x : List Value}, nk_sr a x → nk_sr a.reverse x.reverse
  | [], [], _ => trivial
  | v :: a, w :: x, ⟨h, hs⟩ => by
    rw [List.reverse_cons, List.reverse_cons]
    exact nk_sr_app (nk_sr_rev hs) ⟨h, trivial⟩
  | [], _ :: _, h => by cases h
  | _ :: _, [], h => by cases h
theorem nk_sr_take : ∀ {a : List nk_V} {x : List Value} (n : Nat), nk_sr a x → nk_sr (a.take n) (x.take n)
  | _, _, 0, _ => trivial
  | [], [], _ + 1, _ => trivial
  | _ :: _, _ :: _, n + 1, ⟨h, hs⟩ => ⟨h, nk_sr_take n hs⟩
  | [], _ :: _, _ + 1, h => by cases h
  | _ :: _, [], _ + 1, h => by cases h
theorem nk_sr_drop : ∀ {a : List nk_V} {x : List Value} (n : Nat), nk_sr a x → nk_sr (a.drop n) (x.drop n)
  | _, _, 0, h => h
  | [], [], _ + 1, _ => trivial
  | _ :: _, _ :: _, n + 1, ⟨_, hs⟩ => nk_sr_drop n hs
  | [], _ :: _, _ + 1, h => by cases h
  | _ :: _, [], _ + 1, h => by cases h
theorem nk_sr_len : ∀ {a : List nk_V} {x : List Value}, nk_sr a x → x.length = a.length
  | [], [], _ => rfl
  | _ :: _, _ :: _, ⟨_, hs⟩ => by rw [List.length_cons, List.length_cons, nk_sr_len hs]
  | [], _ :: _, h => by cases h
  | _ :: _, [], h => by cases h
theorem nk_args_ge : ∀ {as : List nk_V} {i : Nat} {q : Nat × nk_V}, q ∈ nk_args i as → i ≤ q.1
  | [], _, _, h => by cases h
  | v :: as, i, q, h => by
    rcases List.mem_cons.mp h with rfl | h
    · exact Nat.le_refl _
    · have := nk_args_ge h
      split at this <;> omega
theorem nk_args_lr : ∀ {as : List nk_V} {ws : List Value} (i : Nat), nk_sr as ws → nk_lr (nk_args i as) (lv_args i ws)
  | [], [], _, _ => fun _ h => by cases h
  | v :: as, w :: ws, i, ⟨h, hs⟩ => by
    intro q hq
    rcases List.mem_cons.mp hq with rfl | hq
    · exact ⟨w, by simp only [lv_args, mi_get]; rw [List.find?_cons_of_pos (by simp)]; rfl, h⟩
    · have hc := nk_vr_cat h
      have hg := nk_args_ge hq
      have hi : ¬ i = q.1 := by split at hg <;> omega
      have e : (if w.category = 2 then i + 2 else i + 1) = if nk_is2 v then i + 2 else i + 1 := by
        rw [hc]; cases nk_is2 v <;> rfl
      obtain ⟨u, g1, g2⟩ := nk_args_lr (if nk_is2 v then i + 2 else i + 1) hs q hq
      refine ⟨u, ?_, g2⟩
      unfold mi_get at g1 ⊢
      rw [lv_args, e, List.find?_cons_of_neg (by simpa using hi)]
      exact g1
  | [], _ :: _, _, h => by cases h
  | _ :: _, [], _, h => by cases h
def nk_push (q : Nat) (r : Int) (st : List nk_V) : List nk_V := match q with
  | 0 => st
  | 1 => nk_i r :: st
  | _ => nk_l r :: st
theorem nk_push_sr {q : Nat} {r : Int} {v : Option Value} {st : List nk_V} {vs : List Value} (h : nk_ret q v r) (hs : nk_sr st vs) : nk_sr (nk_push q r st) (v.toList ++ vs) := by
  match q, h with
  | 0, h => cases h; exact hs
  | 1, ⟨y, e, e2⟩ => subst e; exact ⟨⟨y, rfl, e2⟩, hs⟩
  | q + 2, ⟨y, e, e2⟩ => subst e; exact ⟨⟨y, rfl, e2⟩, hs⟩
section NKD
variable {T : List nk_D} {F : List (List (Nat × Nat × Nat))} {Γ : Nat → Option mi_Me} {ev : mi_Ev} {q q' j j' pc pc' n : Nat} {L L' L2 : nk_L} {st st' rest : List nk_V} {S S' : nk_S} {R : Int × nk_S} {M M' : mi_Me} {i : Instr} {len : Nat} {X Y V r : Int} {a ci k x : Nat}
theorem nk_callV (hj : Γ j = some M) (hf : mi_ft M.2.2.2.2.1 pc = some (.invokevirtual x, len)) (hC : M.2.2.2.2.2.2 x = some (0, j', n, ci)) (hd : st.drop n = nk_r a :: rest) (ha : nk_args 0 (nk_r a :: (st.take n).reverse) = L2) (t : nk_cl T a = some ci) (h8 : nk_cat rest ≤ 8) (hj2 : Γ j' = some M') (hm : nk_cat (nk_r a :: (st.take n).reverse) ≤ M'.2.2.1) (hpc : pc + 3 = pc') (callee : nk_K T Γ ev q' j' 0 L2 [] S (r, S')) (hq : nk_push q' r rest = st') (c : nk_K T Γ ev q j pc' L st' S' R) : nk_K T Γ ev q j pc L st S R := by
  subst hpc; subst ha; subst hq
  intro lv vs h sl hl hv hr
  have h1 := nk_sr_drop n hv
  rw [hd] at h1
  cases hvd : vs.drop n with
  | nil => rw [hvd] at h1; cases h1
  | cons w vr =>
    rw [hvd] at h1
    obtain ⟨e, h1⟩ := h1
    cases e
    obtain ⟨ds, hT⟩ := nk_cl_T t
    obtain ⟨fs, g, -⟩ := nk_rp_obj hr hT
    have h2 : nk_sr (nk_r a :: (st.take n).reverse) (.ref a :: (vs.take n).reverse) := ⟨rfl, nk_sr_rev (nk_sr_take n hv)⟩
    refine mk_c hj hf rfl rfl (by cases M.2.2.2.1 <;> rfl) (by simp only [mi_nat, hC]) (mh_virt hC hvd g (by rw [nk_sr_cat h1]; exact h8) rfl) hj2 (by rw [nk_sr_sl h2]; exact hm) (mi_pos g) ?_
    refine (callee _ [] h sl (nk_args_lr 0 h2) trivial hr).mono (fun r' h' sl' hp => ?_)
    obtain ⟨p1, p2, rfl⟩ := hp
    exact c lv _ h' sl' hl (nk_push_sr p1 h1) p2
theorem nk_callT {v : Nat} (hj : Γ j = some M) (hf : mi_ft M.2.2.2.2.1 pc = some (.invokevirtual x, len)) (hC : M.2.2.2.2.2.2 x = some (5, j', n, ci)) (hd : st.drop n = nk_o a :: rest) (ha : nk_args 0 (nk_o a :: (st.take n).reverse) = L2) (ho : mi_os ev a = some v) (h8 : nk_cat rest ≤ 8) (hj2 : Γ j' = some M') (hm : nk_cat (nk_o a :: (st.take n).reverse) ≤ M'.2.2.1) (hT : 0 < T.length) (hpc : pc + 3 = pc') (callee : nk_K T Γ ev q' j' 0 L2 [] S (r, S')) (hq : nk_push q' r rest = st') (c : nk_K T Γ ev q j pc' L st' S' R) : nk_K T Γ ev q j pc L st S R := by
  subst hpc; subst ha; subst hq
  intro lv vs h sl hl hv hr
  have h1 := nk_sr_drop n hv
  rw [hd] at h1
  cases hvd : vs.drop n with
  | nil => rw [hvd] at h1; cases h1
  | cons w vr =>
    rw [hvd] at h1
    obtain ⟨e, h1⟩ := h1
    cases e
    have h2 : nk_sr (nk_o a :: (st.take n).reverse) (.retAddr a :: (vs.take n).reverse) := ⟨rfl, nk_sr_rev (nk_sr_take n hv)⟩
    refine mk_c hj hf rfl rfl (by cases M.2.2.2.1 <;> rfl) (by simp only [mi_nat, hC]) (as := .retAddr a :: (vs.take n).reverse) (rest := vr) ?_ hj2 (by rw [nk_sr_sl h2]; exact hm) (by rw [hr.1]; exact hT) ?_
    · simp only [mi_inv, hC, hvd, ho]
      rw [if_pos (by rw [nk_sr_cat h1]; exact h8)]
    · refine (callee _ [] h sl (nk_args_lr 0 h2) trivial hr).mono (fun r' h' sl' hp => ?_)
      obtain ⟨p1, p2, rfl⟩ := hp
      exact c lv _ h' sl' hl (nk_push_sr p1 h1) p2
theorem nk_callS (hj : Γ j = some M) (hf : mi_ft M.2.2.2.2.1 pc = some (.invokestatic x, len)) (hC : M.2.2.2.2.2.2 x = some (3, j', n, ci)) (hn : n ≤ st.length) (hd : st.drop n = rest) (ha : nk_args 0 (st.take n).reverse = L2) (h8 : nk_cat rest ≤ 8) (hj2 : Γ j' = some M') (hm : nk_cat (st.take n).reverse ≤ M'.2.2.1) (hT : 0 < T.length) (hpc : pc + 3 = pc') (callee : nk_K T Γ ev q' j' 0 L2 [] S (r, S')) (hq : nk_push q' r rest = st') (c : nk_K T Γ ev q j pc' L st' S' R) : nk_K T Γ ev q j pc L st S R := by
  subst hpc; subst ha; subst hq; subst hd
  intro lv vs h sl hl hv hr
  have h1 := nk_sr_drop n hv
  have h2 := nk_sr_rev (nk_sr_take n hv)
  refine mk_c hj hf rfl rfl (by cases M.2.2.2.1 <;> rfl) (by simp only [mi_nat, hC]) (as := (vs.take n).reverse) (rest := vs.drop n) ?_ hj2 (by rw [nk_sr_sl h2]; exact hm) (by rw [hr.1]; exact hT) ?_
  · simp only [mi_inv, hC]
    rw [if_pos ⟨by rw [nk_sr_len hv]; exact hn, by rw [nk_sr_cat h1]; exact h8⟩]
  · refine (callee _ [] h sl (nk_args_lr 0 h2) trivial hr).mono (fun r' h' sl' hp => ?_)
    obtain ⟨p1, p2, rfl⟩ := hp
    exact c lv _ h' sl' hl (nk_push_sr p1 h1) p2
theorem nk_rg_fits {t : Nat} {x : Int32} (ht : t ≠ 2) (h4 : t < 4) (h : nk_rg t x.toInt) : fits (mi_ty t) (.int x) = true := by
  have h' : t = 0 ∨ t = 1 ∨ t = 3 := by omega
  rcases h' with rfl | rfl | rfl
  · have h1 := h.1 rfl
    simp only [mi_ty, fits, Bool.and_eq_true, decide_eq_true_eq, Int32.le_iff_toInt_le]
    have e1 : (-128 : Int32).toInt = -128 := by decide +kernel
    have e2 : (127 : Int32).toInt = 127 := by decide +kernel
    omega
  · rfl
  · rcases nk_bool32 (h.2 rfl) with rfl | rfl
    · rfl
    · rfl
/-- System.arraycopy -/
theorem nk_copy {t a0 n0 n1 q1 q2 q3 : Nat} {SP DP N N0 N1 : Int} (hj : Γ j = some M) (hf : mi_ft M.2.2.2.2.1 pc = some (.invokestatic x, len)) (hC : M.2.2.2.2.2.2 x = some (8, q1, q2, q3)) (ta : nk_ar T a0 = some (t, n0)) (tb : nk_ar T a = some (t, n1)) (b0 : 0 ≤ SP) (b1 : 0 ≤ DP) (b2 : 0 ≤ N) (b3 : SP + N ≤ N0) (b4 : DP + N ≤ N1) (hN0 : (n0 : Int) = N0) (hN1 : (n1 : Int) = N1) (h8 : nk_cat st ≤ 8) (hpc : pc + 3 = pc') (hS : S' = nk_cp S a0 SP.toNat a DP.toNat N.toNat) (c : nk_K T Γ ev q j pc' L st S' R) : nk_K T Γ ev q j pc L (nk_i N :: nk_i DP :: nk_r a :: nk_i SP :: nk_r a0 :: st) S R := by
  subst hpc; subst hS; subst hN0; subst hN1
  intro lv vs h sl hl h0 hr
  match vs, h0 with
  | z :: w :: u :: w2 :: u2 :: vs, ⟨⟨v, e3, e4⟩, ⟨y, e1, e2⟩, e, ⟨y2, e5, e6⟩, e7, hs⟩ =>
    cases e; cases e7; subst e1; subst e2; subst e3; subst e4; subst e5; subst e6
    have k0 : (0 : Int32).toInt = 0 := by decide +kernel
    have k1 : ¬ y2 < 0 := by rw [Int32.lt_iff_toInt_lt]; omega
    have k2 : ¬ y < 0 := by rw [Int32.lt_iff_toInt_lt]; omega
    have k3 : ¬ v < 0 := by rw [Int32.lt_iff_toInt_lt]; omega
    have hc8 : mi_cat vs ≤ 8 := by rw [nk_sr_cat hs]; exact h8
    have f1 : y2.toNatClampNeg = y2.toInt.toNat := rfl
    have f2 : y.toNatClampNeg = y.toInt.toNat := rfl
    have f3 : v.toNatClampNeg = v.toInt.toNat := rfl
    have c1 : y2.toNatClampNeg + v.toNatClampNeg ≤ n0 := by omega
    have c2 : y.toNatClampNeg + v.toNatClampNeg ≤ n1 := by omega
    by_cases ht : t = 2
    · subst ht
      obtain ⟨m0, xs, g0, r0⟩ := nk_rp_rol hr ta
      obtain ⟨m1, ys, g1, r1⟩ := nk_rp_rol hr tb
      refine mk_n hj hf rfl rfl (by cases M.2.2.2.1 <;> rfl) (st' := vs) (h' := h.set a (.inr (2, n1, .inr (mi_cpy 0 xs ys y2.toNatClampNeg y.toNatClampNeg v.toNatClampNeg)))) (sl' := sl) ?_ (c lv vs _ sl hl hs ?_)
      · simp only [mi_nat, hC, g0, g1]
        exact if_pos ⟨trivial, trivial, k1, k2, k3, c1, c2, hc8⟩
      · refine nk_rp_set hr (nk_ar_T tb) (fun b hb i => ?_) (fun b hb i => rfl) ⟨by decide, m1, Or.inr ⟨rfl, _, rfl, fun l hl => ?_⟩⟩
        · simp only [nk_cp]; rw [if_neg (fun e => hb e.1.symm)]
        · have e := congrFun (mi_cpy_get (0 : Int64) xs ys y2.toNatClampNeg y.toNatClampNeg v.toNatClampNeg) l
          rw [e]
          simp only [va_cpy, nk_cp, true_and]
          split
          · rename_i hc
            rw [if_pos (by omega)]
            exact r0 _ (by omega)
          · rename_i hc
            rw [if_neg (by omega)]
            exact r1 _ hl
    · obtain ⟨h4, m0, xs, g0, r0⟩ := nk_rp_row hr ta ht
      obtain ⟨-, m1, ys, g1, r1⟩ := nk_rp_row hr tb ht
      have fa : (List.range v.toNatClampNeg).all (fun i => fits (mi_ty t) (.int (xs.getD (y2.toNatClampNeg + i) 0))) = true := by
        refine List.all_eq_true.mpr (fun i hi => ?_)
        have hi := List.mem_range.mp hi
        have r2 := r0 (y2.toNatClampNeg + i) (by omega)
        refine nk_rg_fits ht h4 ?_
        rw [r2.1]; exact r2.2
      refine mk_n hj hf rfl rfl (by cases M.2.2.2.1 <;> rfl) (st' := vs) (h' := h.set a (.inr (t, n1, .inl (mi_cpy 0 xs ys y2.toNatClampNeg y.toNatClampNeg v.toNatClampNeg)))) (sl' := sl) ?_ (c lv vs _ sl hl hs ?_)
      · simp only [mi_nat, hC, g0, g1]
        exact if_pos ⟨trivial, h4, k1, k2, k3, c1, c2, fa, hc8⟩
      · refine nk_rp_set hr (nk_ar_T tb) (fun b hb i => ?_) (fun b hb i => rfl) ⟨h4, m1, Or.inl ⟨ht, _, rfl, fun l hl => ?_⟩⟩
        · simp only [nk_cp]; rw [if_neg (fun e => hb e.1.symm)]
        · have e := congrFun (mi_cpy_get (0 : Int32) xs ys y2.toNatClampNeg y.toNatClampNeg v.toNatClampNeg) l
          rw [e]
          simp only [va_cpy, nk_cp, true_and]
          split
          · rename_i hc
            rw [if_pos (by omega)]
            exact r0 _ (by omega)
          · rename_i hc
            rw [if_neg (by omega)]
            exact r1 _ hl
theorem nk_iret {ty : FieldType} (hj : Γ j = some M) (hf : mi_ft M.2.2.2.2.1 pc = some (.ireturn, len)) (hM : M.2.2.2.1 = some ty) (hn : ∀ y : Int32, y.toInt = X → narrow ty (.int y) = .int y) : nk_K T Γ ev 1 j pc L [nk_i X] S (X, S) := by
  intro lv vs h sl hl h0 hr
  match vs, h0 with
  | [w], ⟨⟨y, e1, e2⟩, _⟩ =>
    subst e1
    refine mk_r hj hf rfl rfl (r := some (.int y)) ?_ ⟨⟨y, rfl, e2⟩, hr, rfl⟩
    rw [hM]
    exact if_pos (hn y e2)
  | _ :: _ :: _, ⟨_, h⟩ => cases h
theorem nk_lret (hj : Γ j = some M) (hf : mi_ft M.2.2.2.2.1 pc = some (.lreturn, len)) (hM : M.2.2.2.1 = some .long) : nk_K T Γ ev 2 j pc L [nk_l X] S (X, S) := by
  intro lv vs h sl hl h0 hr
  match vs, h0 with
  | [w], ⟨⟨y, e1, e2⟩, _⟩ =>
    subst e1
    refine mk_r hj hf rfl rfl (r := some (.long y)) ?_ ⟨⟨y, rfl, e2⟩, hr, rfl⟩
    rw [hM]; rfl
  | _ :: _ :: _, ⟨_, h⟩ => cases h
theorem nk_vret (hj : Γ j = some M) (hf : mi_ft M.2.2.2.2.1 pc = some (.return_, len)) (hM : M.2.2.2.1 = none) : nk_K T Γ ev 0 j pc L [] S (0, S) := by
  intro lv vs h sl hl h0 hr
  match vs, h0 with
  | [], _ =>
    refine mk_r hj hf rfl rfl (r := none) ?_ ⟨rfl, hr, rfl⟩
    rw [hM]; rfl
end NKD
theorem nk_nar_i (X : Int) : ∀ y : Int32, y.toInt = X → narrow .int (.int y) = .int y := fun _ _ => rfl
theorem nk_nar_z {X : Int} (h : X = 0 ∨ X = 1) : ∀ y : Int32, y.toInt = X → narrow .boolean (.int y) = .int y := by
  intro y e
  subst e
  rcases nk_bool32 h with rfl | rfl
  · decide +kernel
  · decide +kernel
theorem nk_nar_c {X : Int} (h : 0 ≤ X ∧ X < 65536) : ∀ y : Int32, y.toInt = X → narrow .char (.int y) = .int y := by
  intro y e
  subst e
  show Value.int y.toUInt32.toUInt16.toUInt32.toInt32 = .int y
  congr 1
  rw [← Int32.toBitVec_inj]
  have h1 : y.toBitVec.toInt = y.toInt := rfl
  have h2 : y.toBitVec.toNat < 65536 := by
    have := BitVec.toInt_eq_toNat_cond (x := y.toBitVec)
    rw [h1] at this
    split at this <;> omega
  show (y.toBitVec.setWidth 16).setWidth 32 = y.toBitVec
  refine BitVec.eq_of_toNat_eq ?_
  rw [BitVec.toNat_setWidth, BitVec.toNat_setWidth]
  omega
theorem nk_nar_b {X : Int} (h : -128 ≤ X ∧ X < 128) : ∀ y : Int32, y.toInt = X → narrow .byte (.int y) = .int y := by
  intro y e
  subst e
  show Value.int y.toInt8.toInt32 = .int y
  congr 1
  rw [← Int32.toInt_inj, Int8.toInt_toInt32, Int32.toInt_toInt8]
  exact Int.bmod_eq_of_le (by omega) (by omega)
/-! taking functions apart -/
def nk_lt {α β : Type} (e : α) (k : α → β) : β := k e
theorem nk_lte {α β : Type} {e : α} {k : α → β} {r : β} (h : nk_lt e k = r) : ∃ x, x = e ∧ k x = r := ⟨e, rfl, h⟩
def nk_bd (o : Option (Int × nk_S)) (k : Int → nk_S → Option (Int × nk_S)) : Option (Int × nk_S) := match o with
  | some r => k r.1 r.2
  | none => none
theorem nk_bde {o : Option (Int × nk_S)} {k : Int → nk_S → Option (Int × nk_S)} {R : Int × nk_S} (h : nk_bd o k = some R) : ∃ r S, o = some (r, S) ∧ k r S = some R := by
  cases o with
  | none => cases h
  | some r => exact ⟨r.1, r.2, rfl, h⟩
theorem nk_cke {c : Prop} [Decidable c] {o : Option (Int × nk_S)} {R : Int × nk_S} (h : (if c then o else none) = some R) : c ∧ o = some R := by
  by_cases hc : c
  · rw [if_pos hc] at h; exact ⟨hc, h⟩
  · rw [if_neg hc] at h; cases h
theorem nk_ifp {c : Prop} [Decidable c] {o p : Option (Int × nk_S)} {R : Int × nk_S} (hc : c) (h : (if c then o else p) = some R) : o = some R := by
  rw [if_pos hc] at h; exact h
theorem nk_ifn {c : Prop} [Decidable c] {o p : Option (Int × nk_S)} {R : Int × nk_S} (hc : ¬ c) (h : (if c then o else p) = some R) : p = some R := by
  rw [if_neg hc] at h; exact h
def nk_big : Nat := 2 ^ 64
