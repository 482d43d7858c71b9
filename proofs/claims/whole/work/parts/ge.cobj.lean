/-! The run: the class's objects and arrays. -/
section COB
variable {p : jP} {m m' m1 : jM} {Q : Nat} {tx : List (List Int)} {x : jC} {t : Nat → Int} {inp : Nat → Int} {S S' : nk_S} {A : jA} {σ : jG} {i : Nat}
theorem x_ext (hT : hTy p m) (hc : cMm S m) {o : Nat} (ho : o < m.n) : ja_X2_extentOf 113 ((o + 1 : Nat) : Int) S = some ((m.ext o : Int), S) := by
  have h1 : S.1 118 o = (m.ba o : Int) := hc.2.1.2.2.1 o (show o ≤ m.n by omega)
  have h2 : S.1 118 (o + 1) = (m.ba (o + 1) : Int) := hc.2.1.2.2.1 (o + 1) (show o + 1 ≤ m.n by omega)
  have hn := hT.2.1
  have hb := ba_mono hT m.n (Nat.le_refl _) (o + 1) (by omega)
  have hb2 := hT.2.2.2.1 o ho
  have h12 := hT.2.2.1
  have e1 : ∀ _ : Unit, nk_w (((o + 1 : Nat) : Int) - 1) = (o : Int) := fun _ => by rw [nk_w_id (by omega) (by omega)]; omega
  unfold ja_X2_extentOf jM.ext
  rw [if_pos (in_i (N := 2001) (by omega)), e1 (), if_pos (in_i (N := 2001) (by omega)), jc_113_7, Int.toNat_natCast, Int.toNat_natCast, h1, h2, nk_w_id (by omega) (by omega)]
  congr 2
  omega
theorem x_site (h : cXx S Q p A σ) {s : Nat} (hs : sVd p.2.2.2.2.1 s = true) (h54 : s < 54) : S.1 (Q + 31) s = sTp p.2.2.2.2.1 s := by
  obtain ⟨k1, k2, k3⟩ := h.2.2.1.2.2.2.2.2.2.2.2.1.2.1
  unfold sTp
  by_cases c : s < p.2.2.2.2.1.2.1.length
  · rw [if_pos c]
    have hg := List.getElem?_eq_getElem c
    rw [k2 s _ hg, List.getD_eq_getElem?_getD, hg, Option.getD_some]
  · rw [if_neg c]
    unfold sVd at hs
    rw [decide_eq_false c, Bool.false_or, Bool.and_eq_true] at hs
    have := of_decide_eq_true hs.1
    rw [k3 s this h54]
    omega
theorem x_typ (hwf : pWf tx p) (hk : pKX p Q) (h : cXx S Q p A σ) (hT : hTy p m) (hc : cMm S m) {o : Nat} (ho : o < m.n) : ja_X2_typeOf 113 ((o + 1 : Nat) : Int) S = some (sTp p.2.2.2.2.1 (m.si o), S) ∧ tV p.2.1 (sTp p.2.2.2.2.1 (m.si o)) ∧ sVd p.2.2.2.2.1 (m.si o) = true ∧ m.si o < 54 ∧ 3 ≤ sTp p.2.2.2.2.1 (m.si o) := by
  obtain ⟨c1, c2, c3, c4, c5, c6, c7, c8⟩ := p_ctx hwf hk
  have h1 : S.1 117 o = (m.si o : Int) := hc.2.1.2.1 o ho
  have hn := hT.2.1
  have hv := hT.2.2.2.2.1 o ho
  have h54 := sV_54 c8 _ hv
  have e1 : ∀ _ : Unit, nk_w (((o + 1 : Nat) : Int) - 1) = (o : Int) := fun _ => by rw [nk_w_id (by omega) (by omega)]; omega
  refine ⟨?_, (c4 _ hv).1, hv, h54, (c4 _ hv).2⟩
  unfold ja_X2_typeOf
  rw [e1 (), if_pos (in_i (N := 2000) (by omega)), jc_113_6, Int.toNat_natCast, h1, if_pos (in_i (N := 54) (by omega)), h.2.1, (jc_Qp h.1).2.2.2.2.2.2.2.1, Int.toNat_natCast, x_site h hv h54]
/-- a cell of the heap is written -/
theorem x_wme (hc : cMm S m) {j : Nat} (v : jV) : mkF S (nk_wi S 119 j v.2) ∧ cMm (nk_wi S 119 j v.2) (m.wme j v) := by
  refine ⟨mkF_wi (by omega), ?_, ⟨?_, fun o ho => ?_, fun o ho => ?_, fun k hk => ?_⟩, ?_⟩
  · obtain ⟨⟨q1, q2⟩, q3, q4⟩ := hc.1
    exact ⟨⟨by rw [wi_n (by decide)]; exact q1, q2⟩, fun f hf => by rw [wi_n (by decide), wi_n (by decide)]; exact q3 f hf, fun f k hf hk => by rw [wi_n (by decide)]; exact q4 f k hf hk⟩
  · rw [wi_n (by decide)]; exact hc.2.1.1
  · rw [wi_n (by decide)]; exact hc.2.1.2.1 o ho
  · rw [wi_n (by decide)]; exact hc.2.1.2.2.1 o ho
  · show _ = (gU m.me j v k).2
    rw [wi_at]
    unfold gU
    by_cases e : k = j
    · rw [if_pos e, if_pos e]
    · rw [if_neg e, if_neg e]; exact hc.2.1.2.2.2 k hk
  · exact cIo_c (S := S) (by rw [wi_n (by decide)]) (by rw [wi_n (by decide)]) (wi_n (by decide)) hc.2.2
/-- what a value of the heap is in a cell -/
theorem x_val {v : jV} {s : Int} (hv : vTy p m s v) (hn : m.n ≤ 2000) (hs : s = 1 ∨ 2 ≤ s) (T : nk_S) : (if s = 1 then ja_X2_intCell v.2 T else ja_X2_refCell v.2 T) = some (mCv v, T) := by
  by_cases c : s = 1
  · rw [if_pos c, x_int]
    subst c
    have := (vTy_1 hv).1
    have e : (1, v.2) = v := Prod.ext this.symm rfl
    rw [e]
  · rw [if_neg c]
    obtain ⟨k1, k2, k3⟩ := vTy_k hv (by omega)
    rw [x_ref k2 (by omega)]
    have e : (2, v.2) = v := Prod.ext k1.symm rfl
    rw [e]
theorem x_len (hwf : pWf tx p) (hk : pKX p Q) (h : cXx S Q p A σ) (hm : mOk p m) (ht : mTop p m x t) (hc : cMm S m) (ho : x.1 = 32) : pfO p inp m (m.pc m.d) x S := by
  obtain ⟨b1, b2, b3, b4, b5⟩ := x_at hk hm ht hc
  have hpf := x_perf h ht.1 b4
  rw [if_pos (by omega), if_pos (by omega), if_pos (by omega)] at hpf
  obtain ⟨⟨xb, e, hp⟩, hkd, hV⟩ := m_at hk ht
  have hr2 := hkd.2.2.2.2.1 (by omega)
  rw [← ht.2.2.1] at hr2
  have htk := top_k ht (k := 0) (by omega)
  rw [← ht.2.2.1] at htk
  have k2 := wf_2 htk.2 (by rw [← htk.1]; exact hr2.1)
  obtain ⟨n0, -⟩ := x_top hk hm ht hc (k := 0) (by omega)
  have n0 : ja_X2_numberAt 113 0 S = some ((m.top 0).2, S) := n0
  have ef := ef_32 (p := p) (inp := inp) (m := m) (i := m.pc m.d) (x := x) ho
  by_cases c0 : (m.top 0).2 = 0
  · rw [if_pos c0] at ef
    refine pf_rz ef ?_
    rw [hpf]
    unfold ja_X2_perform_b49
    rw [if_neg (by omega), if_neg (by omega), if_pos (by omega), n0, bd_some, if_pos c0, bd_eta]
    rfl
  · rw [if_neg c0] at ef
    obtain ⟨o, hoo⟩ : ∃ o : Nat, (m.top 0).2 = ((o + 1 : Nat) : Int) := ⟨(m.top 0).2.toNat - 1, by omega⟩
    have eo : (m.top 0).2.toNat - 1 = o := by omega
    rw [eo] at ef
    obtain ⟨S1, d1, d2, d3⟩ := x_leave hc b4 (k := 1) (by omega) (by omega) (1, (m.ext o : Int))
    have d1 : ja_X2_leave 113 1 (mCv (1, (m.ext o : Int))) S = some (0, S1) := d1
    refine pf_go ef ⟨S1, ?_, mbF_m d2, d3⟩
    rw [hpf]
    unfold ja_X2_perform_b49
    rw [if_neg (by omega), if_neg (by omega), if_pos (by omega), n0, bd_some, if_neg c0, n0, bd_some, hoo, x_ext hm.2.1 hc (by omega), bd_some, x_int, bd_some, d1, bd_some]
theorem x_elem (hwf : pWf tx p) (hk : pKX p Q) (h : cXx S Q p A σ) (hm : mOk p m) (ht : mTop p m x t) (hc : cMm S m) (ho : x.1 = 33 ∨ x.1 = 34) : pfO p inp m (m.pc m.d) x S := by
  obtain ⟨b1, b2, b3, b4, b5⟩ := x_at hk hm ht hc
  obtain ⟨c1, c2, c3, c4, c5, c6, c7, c8⟩ := p_ctx hwf hk
  have hpf := x_perf h ht.1 b4
  rw [if_pos (by omega), if_pos (by omega), if_pos (by omega)] at hpf
  obtain ⟨⟨xb, e, hp⟩, hkd, hV⟩ := m_at hk ht
  obtain ⟨⟨p1, -⟩, ⟨g1, -⟩, -⟩ := id hp
  have tt := ofTk x.1 p1.1
  obtain ⟨t1, t2⟩ := tkX_n (bl := p.2.2.2.1) (x := x) (by omega)
  rw [t1, ← ht.2.2.1] at g1
  have htk : tkT x.1 = (if x.1 = 33 then 2 else 3) := by
    rcases ho with q | q
    · rw [(tt.2.2.2.2.2.2.1 q).1, if_pos q]
    · rw [(tt.2.2.2.2.2.2.2.2.1 q).1, if_neg (by omega)]
  -- the array and the index
  obtain ⟨K, hK⟩ : ∃ K, K = tkT x.1 - 1 := ⟨_, rfl⟩
  have hK2 : tkT x.1 = K + 1 ∧ 1 ≤ K := by
    rw [hK, htk]
    split <;> omega
  obtain ⟨nr, wr⟩ := x_top hk hm ht hc (k := K) (by omega)
  obtain ⟨ni, wi'⟩ := x_top hk hm ht hc (k := K - 1) (by omega)
  have hkinds : (m.top K).1 = 2 ∧ (m.top (K - 1)).1 = 1 := by
    have ht0 := top_k ht (k := K) (by omega)
    have ht1 := top_k ht (k := K - 1) (by omega)
    rw [← ht0.1, ← ht1.1]
    rcases ho with q | q
    · have hh := hkd.2.2.2.2.2.2.1 q
      rw [if_pos q] at htk
      have e1 : 12 + pH p (m.pc m.d) - 1 - K = 12 + pH p (m.pc m.d) - 2 := by omega
      have e2 : 12 + pH p (m.pc m.d) - 1 - (K - 1) = 12 + pH p (m.pc m.d) - 1 := by omega
      rw [e1, e2]
      exact ⟨hh.2.1, hh.1⟩
    · have hh := hkd.2.2.2.2.2.2.2.1 q
      rw [if_neg (by omega)] at htk
      have e1 : 12 + pH p (m.pc m.d) - 1 - K = 12 + pH p (m.pc m.d) - 3 := by omega
      have e2 : 12 + pH p (m.pc m.d) - 1 - (K - 1) = 12 + pH p (m.pc m.d) - 2 := by omega
      rw [e1, e2]
      exact ⟨hh.2.2.1, hh.2.1⟩
  have kr := wf_2 wr hkinds.1
  have ki := wf_1 wi' hkinds.2
  have hpf2 : ja_X2_perform 113 (m.pc m.d : Int) S = ja_X2_useElement_b11 113 (m.pc m.d : Int) (x.1 : Int) (K : Int) S := by
    rw [hpf]
    unfold ja_X2_perform_b49 ja_X2_perform_b215 ja_X2_useElement
    rw [if_neg (by omega), if_neg (by omega), if_neg (by omega)]
    rcases ho with q | q
    · rw [if_pos q] at htk
      rw [if_pos (by omega), if_pos (by omega), bd_eta, show K = 1 by omega]; rfl
    · rw [if_neg (by omega)] at htk
      rw [if_neg (by omega), if_pos (by omega), if_neg (by omega), bd_eta, show K = 2 by omega]; rfl
  have eK : ∀ _ : Unit, nk_w ((K : Int) - 1) = ((K - 1 : Nat) : Int) := fun _ => by
    have : K ≤ 8 := by omega
    rw [nk_w_id (by omega) (by omega)]; omega
  have b56 : ja_X2_useElement_b56 113 (m.pc m.d : Int) S = ja_X2_raise 113 (m.pc m.d : Int) 1 S := bd_eta _
  have hb11 : ja_X2_useElement_b11 113 (m.pc m.d : Int) (x.1 : Int) (K : Int) S = if (m.top K).2 = 0 then ja_X2_raise 113 (m.pc m.d : Int) 0 S else if (m.top (K - 1)).2 < 0 then ja_X2_raise 113 (m.pc m.d : Int) 1 S else ja_X2_useElement_b45 113 (m.pc m.d : Int) (x.1 : Int) (m.top K).2 (m.top (K - 1)).2 S := by
    unfold ja_X2_useElement_b11
    rw [nr, bd_some, eK (), ni, bd_some, bd_eta, b56]
  rw [hb11] at hpf2
  by_cases c0 : (m.top K).2 = 0
  · rw [if_pos c0] at hpf2
    rcases ho with q | q
    · rw [if_pos q] at htk
      have ef := ef_33 (p := p) (inp := inp) (m := m) (i := m.pc m.d) (x := x) q
      rw [show K = 1 by omega] at c0
      rw [if_pos c0] at ef
      exact pf_rz ef hpf2
    · rw [if_neg (by omega)] at htk
      have ef := ef_34 (p := p) (inp := inp) (m := m) (i := m.pc m.d) (x := x) q
      rw [show K = 2 by omega] at c0
      rw [if_pos c0] at ef
      exact pf_rz ef hpf2
  rw [if_neg c0] at hpf2
  obtain ⟨o, a1, a2, a3, a4, a5, a6, a7, a8⟩ := arr_at hwf hk hm ht ho (by rw [← hK]; exact c0)
  rw [← hK] at a4 a5
  have hbn := ba_mono hm.2.1 m.n (Nat.le_refl _) (o + 1) (by omega)
  have hbo := hm.2.1.2.2.2.1 o a3
  have h12 := hm.2.1.2.2.1
  -- a wrong index
  have wrong : ((m.top (K - 1)).2 < 0 ∨ (m.ext o : Int) ≤ (m.top (K - 1)).2) → ja_X2_perform 113 (m.pc m.d : Int) S = ja_X2_raise 113 (m.pc m.d : Int) 1 S := by
    intro hw
    rw [hpf2]
    by_cases cn : (m.top (K - 1)).2 < 0
    · rw [if_pos cn]
    · rw [if_neg cn]
      unfold ja_X2_useElement_b45
      rw [a4, x_ext hm.2.1 hc a3, bd_some, if_neg (by omega), b56]
  by_cases ci : (m.top (K - 1)).2 < 0 ∨ (m.ext o : Int) ≤ (m.top (K - 1)).2
  · have hw := wrong ci
    rcases ho with q | q
    · rw [if_pos q] at htk
      have ef := ef_33 (p := p) (inp := inp) (m := m) (i := m.pc m.d) (x := x) q
      have eK1 : K = 1 := by omega
      rw [eK1] at c0 ci a5
      rw [if_neg c0, a5, if_pos ci] at ef
      exact pf_rz ef hw
    · rw [if_neg (by omega)] at htk
      have ef := ef_34 (p := p) (inp := inp) (m := m) (i := m.pc m.d) (x := x) q
      have eK1 : K = 2 := by omega
      rw [eK1] at c0 ci a5
      rw [if_neg c0, a5, if_pos ci] at ef
      exact pf_rz ef hw
  have hq : (m.top (K - 1)).2.toNat < m.ext o := by omega
  obtain ⟨qq, hqq⟩ : ∃ qq : Nat, (m.top (K - 1)).2 = (qq : Int) := ⟨(m.top (K - 1)).2.toNat, by omega⟩
  have hqe : qq < m.ext o := by omega
  have hcell : m.ba o + qq < m.ba m.n := by unfold jM.ext at hqe; omega
  have e1 : ∀ _ : Unit, nk_w (((o + 1 : Nat) : Int) - 1) = (o : Int) := fun _ => by
    rw [nk_w_id (by omega) (by omega)]; omega
  have e6 : ∀ _ : Unit, nk_w ((m.ba o : Int) + (qq : Int)) = ((m.ba o + qq : Nat) : Int) := fun _ => by
    rw [nk_w_id (by omega) (by omega)]; omega
  have h18 : S.1 118 o = (m.ba o : Int) := hc.2.1.2.2.1 o (show o ≤ m.n by omega)
  obtain ⟨y1, y2, y3, y4, y5⟩ := x_typ hwf hk h hm.2.1 hc a3
  have h100 : 0 ≤ sTp p.2.2.2.2.1 (m.si o) ∧ sTp p.2.2.2.2.1 (m.si o) < 100 := by unfold tV at y2; omega
  have b45 : ja_X2_useElement_b45 113 (m.pc m.d : Int) (x.1 : Int) (m.top K).2 (m.top (K - 1)).2 S = if (x.1 : Int) = 33 then (if tEl (sTp p.2.2.2.2.1 (m.si o)) = 1 then nk_bd (ja_X2_intCell (m.me (m.ba o + qq)).2 S) fun r35 S36 => ja_X2_useElement_b125 113 2 r35 S36 else nk_bd (ja_X2_refCell (m.me (m.ba o + qq)).2 S) fun r30 S31 => ja_X2_useElement_b125 113 2 r30 S31) else nk_bd (ja_X2_numberAt 113 0 S) fun r14 S15 => if tEl (sTp p.2.2.2.2.1 (m.si o)) = 1 then ja_X2_useElement_b175 113 ((m.ba o + qq : Nat) : Int) r14 S15 else if r14 = 0 then ja_X2_useElement_b175 113 ((m.ba o + qq : Nat) : Int) r14 S15 else nk_bd (ja_X2_typeOf 113 r14 S15) fun r19 S20 => nk_bd (ja_X1_isBelow (ja_c (S15.2 113 1) 0) r19 (tEl (sTp p.2.2.2.2.1 (m.si o))) S20) fun r22 S23 => if r22 = 0 then nk_bd (ja_X2_raise 113 (m.pc m.d : Int) 5 S23) fun r25 S26 => some (r25, S26) else ja_X2_useElement_b175 113 ((m.ba o + qq : Nat) : Int) r14 S23 := by
    have h19 : S.1 119 (m.ba o + qq) = (m.me (m.ba o + qq)).2 := hc.2.1.2.2.2 _ hcell
    unfold ja_X2_useElement_b45
    rw [a4, hqq, x_ext hm.2.1 hc a3, bd_some, if_pos (by omega), e1 (), if_pos (in_i (N := 2001) (by omega)), jc_113_7, Int.toNat_natCast, h18, e6 (), lt_eq, y1, bd_some, c_elt h100, bd_some, if_pos (in_i (N := 12000) (by omega)), if_pos (in_i (N := 12000) (by omega)), jc_113_9, Int.toNat_natCast, h19]
  have hpf3 : ja_X2_perform 113 (m.pc m.d : Int) S = _ := hpf2.trans ((if_neg (by omega)).trans b45)
  rcases ho with q | q
  · rw [if_pos q] at htk
    have eK1 : K = 1 := by omega
    rw [eK1] at c0 ci a5 hqq
    have hqq : (m.top 0).2 = (qq : Int) := hqq
    have ci : ¬ ((m.top 0).2 < 0 ∨ (m.ext o : Int) ≤ (m.top 0).2) := ci
    have ef := ef_33 (p := p) (inp := inp) (m := m) (i := m.pc m.d) (x := x) q
    rw [if_neg c0, a5, if_neg ci, hqq, Int.toNat_natCast] at ef
    rw [if_pos (by omega)] at hpf3
    have hv := hm.2.1.2.2.2.2.2.1 o a3 a6 qq hqe
    have hval := x_val hv b3 (by rcases tEl_nz a6 with r | r <;> omega) S
    obtain ⟨S1, d1, d2, d3⟩ := x_leave hc b4 (k := 2) (by omega) (by omega) (m.me (m.ba o + qq))
    have d1 : ja_X2_leave 113 2 (mCv (m.me (m.ba o + qq))) S = some (0, S1) := d1
    refine pf_go ef ⟨S1, ?_, mbF_m d2, d3⟩
    rw [hpf3]
    unfold ja_X2_useElement_b125
    by_cases c : tEl (sTp p.2.2.2.2.1 (m.si o)) = 1
    · rw [if_pos c] at hval ⊢
      rw [hval, bd_some, d1, bd_some]
    · rw [if_neg c] at hval ⊢
      rw [hval, bd_some, d1, bd_some]
  · rw [if_neg (by omega)] at htk
    have eK1 : K = 2 := by omega
    rw [eK1] at c0 ci a5 hqq
    have hqq : (m.top 1).2 = (qq : Int) := hqq
    have ci : ¬ ((m.top 1).2 < 0 ∨ (m.ext o : Int) ≤ (m.top 1).2) := ci
    have emt : mTp p m (m.top 2).2 = sTp p.2.2.2.2.1 (m.si o) := by unfold mTp; rw [a5]
    have ef := ef_34 (p := p) (inp := inp) (m := m) (i := m.pc m.d) (x := x) q
    rw [if_neg c0, a5, if_neg ci, hqq, Int.toNat_natCast, emt] at ef
    rw [if_neg (by omega)] at hpf3
    obtain ⟨n0, w0⟩ := x_top hk hm ht hc (k := 0) (by omega)
    have n0 : ja_X2_numberAt 113 0 S = some ((m.top 0).2, S) := n0
    rw [n0, bd_some] at hpf3
    -- the store
    obtain ⟨u1, u2⟩ := x_wme hc (j := m.ba o + qq) (m.top 0)
    obtain ⟨S1, f1, f2, f3⟩ := x_drop u2 (k := 3) (show 3 ≤ m.hs m.d by omega)
    obtain ⟨S2, d1, d2, d3⟩ := x_next f3 b4
    have f1 : ja_X2_drop 113 3 (nk_wi S 119 (m.ba o + qq) (m.top 0).2) = some (0, S1) := f1
    have b175 : ja_X2_useElement_b175 113 ((m.ba o + qq : Nat) : Int) (m.top 0).2 S = some (0, S2) := by
      unfold ja_X2_useElement_b175
      rw [if_pos (in_i (N := 12000) (by omega)), jc_113_9, Int.toNat_natCast, lt_eq, f1, bd_some, d1, bd_some]
    have stored : ¬ (tEl (sTp p.2.2.2.2.1 (m.si o)) ≠ 1 ∧ (m.top 0).2 ≠ 0 ∧ tLe p.2.1 (mTp p m (m.top 0).2) (tEl (sTp p.2.2.2.2.1 (m.si o))) = false) → ja_X2_perform 113 (m.pc m.d : Int) S = some (0, S2) → pfO p inp m (m.pc m.d) x S := by
      intro hn hS
      rw [if_neg hn] at ef
      exact pf_go ef ⟨S2, hS, mkF_trans u1 (mkF_trans (mbF_m f2) (mbF_m d2)), d3⟩
    by_cases c : tEl (sTp p.2.2.2.2.1 (m.si o)) = 1
    · rw [if_pos c, b175] at hpf3
      exact stored (fun r => r.1 c) hpf3
    · rw [if_neg c] at hpf3
      by_cases cz : (m.top 0).2 = 0
      · rw [if_pos cz, b175] at hpf3
        exact stored (fun r => r.2.1 cz) hpf3
      · rw [if_neg cz] at hpf3
        obtain ⟨xb', h1, h2, h3⟩ := tH_g hk ht (by omega)
        have b2' := h3 2 (by omega)
        have w2 : wn x.1 2 = 7 := by rw [q]; rfl
        rw [w2, show tkT x.1 = 3 by omega] at b2'
        have b2' : (if t (12 + m.hs m.d - 3) = 2 then decide (t (12 + m.hs m.d - 3 + 2) ≠ 0) else tLe p.2.1 (t (12 + m.hs m.d - 3 + 2)) (tEl (t (12 + m.hs m.d - 3)))) = true := b2'
        rw [show tkT x.1 = 3 by omega] at a7 a8
        rw [if_neg (fun r => by rw [r] at a7; exact absurd a7 (by decide))] at b2'
        have ei : 12 + m.hs m.d - 3 + 2 = 12 + m.hs m.d - 1 - 0 := by omega
        rw [ei] at b2'
        have h2t : 2 ≤ t (12 + m.hs m.d - 1 - 0) := by
          have h4 : 4 ≤ tEl (t (12 + m.hs m.d - 3)) := by
            rcases tEl_nz a7 with r | r
            · rw [r] at a8
              rcases tEl_nz a6 with r2 | r2
              · exact absurd r2 c
              · rcases (tLe_iff _ _).mp a8 with s | s | s <;> omega
            · exact r
          rcases (tLe_iff _ _).mp b2' with s | s | s <;> omega
        obtain ⟨o', v1, v2, v3, v4, v5⟩ := obj_top hwf hk hm ht (k := 0) (by omega) h2t cz
        obtain ⟨z1, z2, z3, z4, z5⟩ := x_typ hwf hk h hm.2.1 hc v1
        have emt0 : mTp p m (m.top 0).2 = sTp p.2.2.2.2.1 (m.si o') := by unfold mTp; rw [v3]
        rw [v2, z1, bd_some, h.2.1, (jc_Q h.1).1, c_isBe h.1 h.2.2.1.1 c1 c2 z2 (tV_el2 y2 a6), bd_some, bd_eta] at hpf3
        rw [← v2] at hpf3
        cases hle : tLe p.2.1 (sTp p.2.2.2.2.1 (m.si o')) (tEl (sTp p.2.2.2.2.1 (m.si o))) with
        | true =>
          rw [hle, if_neg (show ¬ bi true = 0 by decide), b175] at hpf3
          exact stored (fun r => by rw [emt0, hle] at r; exact absurd r.2.2 (by decide)) hpf3
        | false =>
          rw [hle, if_pos (show bi false = 0 from rfl)] at hpf3
          rw [if_pos ⟨c, cz, by rw [emt0]; exact hle⟩] at ef
          exact pf_rz ef hpf3
end COB
