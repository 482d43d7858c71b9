/-! The run: the class's fields, types, throws, input and output. -/
section CFI
variable {p : jP} {m m' m1 : jM} {Q : Nat} {tx : List (List Int)} {x : jC} {t : Nat → Int} {inp : Nat → Int} {S S' : nk_S} {A : jA} {σ : jG} {i : Nat}
theorem x_field (hwf : pWf tx p) (hk : pKX p Q) (h : cXx S Q p A σ) (hm : mOk p m) (ht : mTop p m x t) (hc : cMm S m) (ho : x.1 = 35 ∨ x.1 = 36) : pfO p inp m (m.pc m.d) x S := by
  obtain ⟨b1, b2, b3, b4, b5⟩ := x_at hk hm ht hc
  obtain ⟨c1, c2, c3, c4, c5, c6, c7, c8⟩ := p_ctx hwf hk
  have hpf := x_perf h ht.1 b4
  rw [if_pos (by omega), if_pos (by omega), if_pos (by omega)] at hpf
  obtain ⟨⟨xb, e, hp⟩, hkd, hV⟩ := m_at hk ht
  obtain ⟨⟨p1, -⟩, ⟨g1, -⟩, -⟩ := id hp
  have tt := ofTk x.1 p1.1
  obtain ⟨t1, t2⟩ := tkX_n (bl := p.2.2.2.1) (x := x) (by omega)
  rw [t1, ← ht.2.2.1] at g1
  obtain ⟨o1, o2, o3, o4⟩ := cx_op h ht.1
  have htk : tkT x.1 = (if x.1 = 35 then 1 else 2) := by
    rcases ho with q | q
    · rw [(tt.2.2.2.2.2.1 (by omega)).1, if_pos q]
    · rw [(tt.2.2.2.2.2.2.2.2.2.1 q).1, if_neg (by omega)]
  obtain ⟨K, hK⟩ : ∃ K, K = tkT x.1 - 1 := ⟨_, rfl⟩
  have hK2 : tkT x.1 = K + 1 := by
    rw [hK, htk]
    split <;> omega
  obtain ⟨nr, wr⟩ := x_top hk hm ht hc (k := K) (by omega)
  have hpf2 : ja_X2_perform 113 (m.pc m.d : Int) S = ja_X2_useField_b22 113 (m.pc m.d : Int) (x.1 : Int) x.2.1 113 (K : Int) S := by
    rw [hpf]
    unfold ja_X2_perform_b49 ja_X2_perform_b222 ja_X2_useField
    rw [if_neg (by omega), if_neg (by omega), if_neg (by omega), if_neg (by omega), if_neg (by omega), bd_eta, if_pos (in_i (N := 1024) (by omega)), h.2.1, (jc_Qp h.1).2.2.1, Int.toNat_natCast, o2, lt_eq]
    rcases ho with q | q
    · rw [if_pos q] at htk
      rw [if_pos (by omega), if_pos (by omega), show K = 0 by omega]; rfl
    · rw [if_neg (by omega)] at htk
      rw [if_neg (by omega), if_pos (by omega), if_neg (by omega), show K = 1 by omega]; rfl
  by_cases c0 : (m.top K).2 = 0
  · have hw : ja_X2_perform 113 (m.pc m.d : Int) S = ja_X2_raise 113 (m.pc m.d : Int) 0 S := by
      rw [hpf2]
      unfold ja_X2_useField_b22
      rw [nr, bd_some, if_pos c0, bd_eta]
    rcases ho with q | q
    · rw [if_pos q] at htk
      have ef := ef_35 (p := p) (inp := inp) (m := m) (i := m.pc m.d) (x := x) q
      rw [show K = 0 by omega] at c0
      rw [if_pos c0] at ef
      exact pf_rz ef hw
    · rw [if_neg (by omega)] at htk
      have ef := ef_36 (p := p) (inp := inp) (m := m) (i := m.pc m.d) (x := x) q
      rw [show K = 1 by omega] at c0
      rw [if_pos c0] at ef
      exact pf_rz ef hw
  obtain ⟨o, f, y, a1, a2, a3, a4, a5, a6, a7, a8, a9, a10⟩ := fldm_at hwf hk hm ht ho (by rw [← hK]; exact c0)
  rw [← hK] at a4 a5
  have hbn := ba_mono hm.2.1 m.n (Nat.le_refl _) (o + 1) (by omega)
  have hbo := hm.2.1.2.2.2.1 o a3
  have h12 := hm.2.1.2.2.1
  have hcell : m.ba o + fPl p f < m.ba m.n := by unfold jM.ext at a10; omega
  have e1 : ∀ _ : Unit, nk_w (((o + 1 : Nat) : Int) - 1) = (o : Int) := fun _ => by
    rw [nk_w_id (by omega) (by omega)]; omega
  have e6 : ∀ _ : Unit, nk_w ((m.ba o : Int) + (fPl p f : Int)) = ((m.ba o + fPl p f : Nat) : Int) := fun _ => by
    rw [nk_w_id (by omega) (by omega)]; omega
  have h18 : S.1 118 o = (m.ba o : Int) := hc.2.1.2.2.1 o (show o ≤ m.n by omega)
  have h19 : S.1 119 (m.ba o + fPl p f) = (m.me (m.ba o + fPl p f)).2 := hc.2.1.2.2.2 _ hcell
  have hf48 : f < 48 := by have := at_lt a7; have := c5.1; omega
  have hpl : S.1 (Q + 8) f = (fPl p f : Int) := by rw [h.2.2.2.2.2.2.2.2 f y a7, fPl_at a7]
  have hft : S.1 (Q + 7) f = y.2.2 := (h.2.2.1.2.2.1 f y a7).2
  have j8 : ja_c (Q + 1) 8 = Q + 8 ∧ ja_c (Q + 1) 7 = Q + 7 := by rcases h.1 with rfl | rfl <;> exact ⟨rfl, rfl⟩
  have b22 : ja_X2_useField_b22 113 (m.pc m.d : Int) (x.1 : Int) x.2.1 113 (K : Int) S = if (x.1 : Int) = 35 then (if y.2.2 = 1 then ja_X2_useField_b90 113 ((m.ba o + fPl p f : Nat) : Int) 1 S else ja_X2_useField_b90 113 ((m.ba o + fPl p f : Nat) : Int) 0 S) else nk_bd (ja_X2_numberAt 113 0 S) fun r13 S14 => if 0 ≤ ((m.ba o + fPl p f : Nat) : Int) ∧ ((m.ba o + fPl p f : Nat) : Int) < 12000 then nk_lt (nk_wi S14 (ja_c 113 9) ((m.ba o + fPl p f : Nat) : Int).toNat r13) fun S17 => nk_bd (ja_X2_drop 113 2 S17) fun r19 S20 => nk_bd (ja_X2_next 113 S20) fun r22 S23 => some (r22, S23) else none := by
    unfold ja_X2_useField_b22
    rw [nr, bd_some, if_neg c0, a4, e1 (), if_pos (in_i (N := 2001) (by omega)), a6, if_pos (in_i (N := 48) (by omega)), jc_113_7, h.2.1, (jc_Q h.1).1, j8.1, j8.2, Int.toNat_natCast, Int.toNat_natCast, h18, hpl, hft, e6 (), lt_eq]
  rw [b22] at hpf2
  rcases ho with q | q
  · rw [if_pos q] at htk
    rw [if_pos (by omega)] at hpf2
    have eK : K = 0 := by omega
    rw [eK] at c0 a5
    have ef := ef_35 (p := p) (inp := inp) (m := m) (i := m.pc m.d) (x := x) q
    rw [if_neg c0, a5, a6, Int.toNat_natCast] at ef
    have hv := (hm.2.1.2.2.2.2.2.2 o a3 a8).2 f y a7 a9
    have hval := x_val hv b3 (c6 y (List.mem_of_getElem? a7)).2 S
    obtain ⟨S1, d1, d2, d3⟩ := x_leave hc b4 (k := 1) (by omega) (by omega) (m.me (m.ba o + fPl p f))
    have d1 : ja_X2_leave 113 1 (mCv (m.me (m.ba o + fPl p f))) S = some (0, S1) := d1
    refine pf_go ef ⟨S1, ?_, mbF_m d2, d3⟩
    rw [hpf2]
    unfold ja_X2_useField_b90 ja_X2_useField_b122
    by_cases c : y.2.2 = 1
    · rw [if_pos c] at hval ⊢
      rw [if_neg (by decide), if_pos (in_i (N := 12000) (by omega)), jc_113_9, Int.toNat_natCast, h19, hval, bd_some, d1, bd_some]
    · rw [if_neg c] at hval ⊢
      rw [if_pos rfl, if_pos (in_i (N := 12000) (by omega)), jc_113_9, Int.toNat_natCast, h19, hval, bd_some, d1, bd_some]
  · rw [if_neg (by omega)] at htk
    rw [if_neg (by omega)] at hpf2
    have eK : K = 1 := by omega
    rw [eK] at c0 a5
    have ef := ef_36 (p := p) (inp := inp) (m := m) (i := m.pc m.d) (x := x) q
    rw [if_neg c0, a5, a6, Int.toNat_natCast] at ef
    obtain ⟨n0, w0⟩ := x_top hk hm ht hc (k := 0) (by omega)
    have n0 : ja_X2_numberAt 113 0 S = some ((m.top 0).2, S) := n0
    obtain ⟨u1, u2⟩ := x_wme hc (j := m.ba o + fPl p f) (m.top 0)
    obtain ⟨S1, f1, f2, f3⟩ := x_drop u2 (k := 2) (show 2 ≤ m.hs m.d by omega)
    obtain ⟨S2, d1, d2, d3⟩ := x_next f3 b4
    have f1 : ja_X2_drop 113 2 (nk_wi S 119 (m.ba o + fPl p f) (m.top 0).2) = some (0, S1) := f1
    refine pf_go ef ⟨S2, ?_, mkF_trans u1 (mkF_trans (mbF_m f2) (mbF_m d2)), d3⟩
    rw [hpf2, n0, bd_some, if_pos (in_i (N := 12000) (by omega)), jc_113_9, Int.toNat_natCast, lt_eq, f1, bd_some, d1, bd_some]
theorem x_type (hwf : pWf tx p) (hk : pKX p Q) (h : cXx S Q p A σ) (hm : mOk p m) (ht : mTop p m x t) (hc : cMm S m) (ho : x.1 = 37 ∨ x.1 = 38) : pfO p inp m (m.pc m.d) x S := by
  obtain ⟨b1, b2, b3, b4, b5⟩ := x_at hk hm ht hc
  obtain ⟨c1, c2, c3, c4, c5, c6, c7, c8⟩ := p_ctx hwf hk
  have hpf := x_perf h ht.1 b4
  rw [if_pos (by omega), if_pos (by omega), if_pos (by omega)] at hpf
  obtain ⟨o1, o2, o3, o4⟩ := cx_op h ht.1
  obtain ⟨a1, a2, a3, a4, a5⟩ := cst_at hwf hk hm ht ho
  obtain ⟨n0, w0⟩ := x_top hk hm ht hc (k := 0) (by omega)
  have n0 : ja_X2_numberAt 113 0 S = some ((m.top 0).2, S) := n0
  obtain ⟨S1, d1, d2, d3⟩ := x_next hc b4
  have b78 : ja_X2_useType_b78 113 S = some (0, S1) := by unfold ja_X2_useType_b78; rw [d1, bd_some]
  have b62 : ∀ n : Int, ∃ S', ja_X2_useType_b62 113 1 n S = some (0, S') ∧ mkF S S' ∧ cMm S' (m.lev 1 (1, n)) := fun n => by
    obtain ⟨S2, u1, u2, u3⟩ := x_leave hc b4 (k := 1) (by omega) (by omega) (1, n)
    have u1 : ja_X2_leave 113 1 (mCv (1, n)) S = some (0, S2) := u1
    refine ⟨S2, ?_, mbF_m u2, u3⟩
    unfold ja_X2_useType_b62
    rw [x_int, bd_some, u1, bd_some]
  obtain ⟨fits, hfits⟩ : ∃ fits : Bool, fits = decide ((m.top 0).2 ≠ 0 ∧ tLe p.2.1 (mTp p m (m.top 0).2) x.2.1 = true) := ⟨_, rfl⟩
  have hpf2 : ja_X2_perform 113 (m.pc m.d : Int) S = ja_X2_useType_b42 113 (m.pc m.d : Int) (x.1 : Int) (m.top 0).2 (bi fits) S := by
    rw [hpf]
    unfold ja_X2_perform_b49 ja_X2_perform_b229 ja_X2_useType ja_X2_useType_b41
    rw [if_neg (by omega), if_neg (by omega), if_neg (by omega), if_neg (by omega), if_neg (by omega), if_neg (by omega), if_neg (by omega), bd_eta, n0, bd_some]
    have tail : (if (m.top 0).2 = 0 then ja_X2_useType_b42 113 (m.pc m.d : Int) (x.1 : Int) (m.top 0).2 0 S else nk_bd (ja_X2_typeOf 113 (m.top 0).2 S) fun r6 S7 => if 0 ≤ (m.pc m.d : Int) ∧ (m.pc m.d : Int) < 1024 then nk_bd (ja_X1_isBelow (ja_c (S.2 113 1) 0) r6 (S7.1 (ja_c (S7.2 113 1) 5) (m.pc m.d : Int).toNat) S7) fun r12 S13 => if r12 = 0 then ja_X2_useType_b42 113 (m.pc m.d : Int) (x.1 : Int) (m.top 0).2 0 S13 else ja_X2_useType_b42 113 (m.pc m.d : Int) (x.1 : Int) (m.top 0).2 1 S13 else none) = ja_X2_useType_b42 113 (m.pc m.d : Int) (x.1 : Int) (m.top 0).2 (bi fits) S := by
      by_cases c0 : (m.top 0).2 = 0
      · rw [if_pos c0, hfits, decide_eq_false (fun q => q.1 c0)]; rfl
      · rw [if_neg c0]
        obtain ⟨o, v1, v2, v3, v4, v5⟩ := obj_top hwf hk hm ht (k := 0) (by omega) a2 c0
        obtain ⟨z1, z2, z3, z4, z5⟩ := x_typ hwf hk h hm.2.1 hc v1
        have emt : mTp p m (m.top 0).2 = sTp p.2.2.2.2.1 (m.si o) := by unfold mTp; rw [v3]
        have ety : ja_X2_typeOf 113 (m.top 0).2 S = some (sTp p.2.2.2.2.1 (m.si o), S) := by rw [v2]; exact z1
        rw [ety, bd_some, if_pos (in_i (N := 1024) (by omega)), h.2.1, (jc_Q h.1).1, (jc_Qp h.1).2.2.1, Int.toNat_natCast, o2, c_isBe h.1 h.2.2.1.1 c1 c2 z2 a4, bd_some, hfits, emt]
        cases hle : tLe p.2.1 (sTp p.2.2.2.2.1 (m.si o)) x.2.1 with
        | true => rw [if_neg (show ¬ bi true = 0 by decide), decide_eq_true ⟨c0, rfl⟩]; rfl
        | false => rw [if_pos (show bi false = 0 from rfl), decide_eq_false (fun q => by cases q.2)]; rfl
    rcases ho with q | q
    · rw [if_pos (by omega), tail]
    · rw [if_neg (by omega), if_pos (by omega), tail]
  unfold ja_X2_useType_b42 at hpf2
  rcases ho with q | q
  · rw [if_neg (by omega)] at hpf2
    have ef := ef_37 (p := p) (inp := inp) (m := m) (i := m.pc m.d) (x := x) q
    by_cases c0 : (m.top 0).2 = 0
    · rw [if_pos c0, b78] at hpf2
      rw [if_pos (Or.inl c0)] at ef
      exact pf_go ef ⟨S1, hpf2, mbF_m d2, d3⟩
    · rw [if_neg c0] at hpf2
      by_cases cl : tLe p.2.1 (mTp p m (m.top 0).2) x.2.1 = true
      · rw [hfits, decide_eq_true ⟨c0, cl⟩, if_neg (show ¬ bi true = 0 by decide), b78] at hpf2
        rw [if_pos (Or.inr cl)] at ef
        exact pf_go ef ⟨S1, hpf2, mbF_m d2, d3⟩
      · rw [hfits, decide_eq_false (fun r => cl r.2), if_pos (show bi false = 0 from rfl), bd_eta] at hpf2
        rw [if_neg (fun r => by rcases r with r | r; exact c0 r; exact cl r)] at ef
        exact pf_rz ef hpf2
  · rw [if_pos (by omega)] at hpf2
    have ef := ef_38 (p := p) (inp := inp) (m := m) (i := m.pc m.d) (x := x) q
    by_cases cl : (m.top 0).2 ≠ 0 ∧ tLe p.2.1 (mTp p m (m.top 0).2) x.2.1 = true
    · obtain ⟨S2, u1, u2, u3⟩ := b62 1
      rw [hfits, decide_eq_true cl, if_neg (show ¬ bi true = 0 by decide), u1] at hpf2
      rw [if_pos cl] at ef
      exact pf_go ef ⟨S2, hpf2, u2, u3⟩
    · obtain ⟨S2, u1, u2, u3⟩ := b62 0
      rw [hfits, decide_eq_false cl, if_pos (show bi false = 0 from rfl), u1] at hpf2
      rw [if_neg cl] at ef
      exact pf_go ef ⟨S2, hpf2, u2, u3⟩
theorem x_throw (hwf : pWf tx p) (hk : pKX p Q) (h : cXx S Q p A σ) (hm : mOk p m) (ht : mTop p m x t) (hc : cMm S m) (ho : x.1 = 41) : pfO p inp m (m.pc m.d) x S := by
  obtain ⟨b1, b2, b3, b4, b5⟩ := x_at hk hm ht hc
  have hpf := x_perf h ht.1 b4
  rw [if_pos (by omega), if_pos (by omega), if_pos (by omega)] at hpf
  obtain ⟨a1, a2, a3⟩ := thr_at hwf hk hm ht ho
  obtain ⟨n0, w0⟩ := x_top hk hm ht hc (k := 0) (by omega)
  have n0 : ja_X2_numberAt 113 0 S = some ((m.top 0).2, S) := n0
  have k2 := wf_2 w0 a3
  have ef := ef_41 (p := p) (inp := inp) (m := m) (i := m.pc m.d) (x := x) ho
  unfold ja_X2_perform_b49 at hpf
  rw [if_neg (by omega), if_neg (by omega), if_neg (by omega), if_neg (by omega), if_neg (by omega), if_neg (by omega), if_neg (by omega), if_neg (by omega), if_neg (by omega), if_neg (by omega), if_neg (by omega), if_pos (by omega), n0, bd_some, n0, bd_some, bd_eta] at hpf
  by_cases c0 : (m.top 0).2 = 0
  · rw [if_pos c0] at hpf ef
    exact pf_rz ef hpf
  · rw [if_neg c0] at hpf ef
    refine pf_th ef ?_
    rw [hpf, Int.toNat_of_nonneg k2.1]
/-- input and output -/
theorem x_io (hk : pKX p Q) (h : cXx S Q p A σ) (hm : mOk p m) (ht : mTop p m x t) (hc : cMm S m) (ho : x.1 = 44 ∨ x.1 = 45) (hin : ∀ k, k < 256 → S.1 112 k = inp k) (hin0 : ∀ k, 256 ≤ k → inp k = 0) (hrd : m.rd < 100000) (how : m.ow < 100000) : pfO p inp m (m.pc m.d) x S := by
  obtain ⟨b1, b2, b3, b4, b5⟩ := x_at hk hm ht hc
  have hpf := x_perf h ht.1 b4
  rw [if_pos (by omega), if_pos (by omega), if_pos (by omega)] at hpf
  obtain ⟨⟨xb, e, hp⟩, hkd, hV⟩ := m_at hk ht
  obtain ⟨⟨p1, -⟩, ⟨g1, g2, -⟩, -⟩ := id hp
  have tt := ofTk x.1 p1.1
  obtain ⟨t1, t2⟩ := tkX_n (bl := p.2.2.2.1) (x := x) (by omega)
  rw [t1, ← ht.2.2.1] at g1
  rw [t1, t2, ← ht.2.2.1] at g2
  obtain ⟨h11, h17, h120⟩ := hc.2.2
  have h11 : S.1 113 11 = (m.rd : Int) := h11
  have h17 : S.1 113 17 = (m.ow : Int) := h17
  have h120 : ∀ k, k < m.ow → k < 256 → S.1 120 k = m.ou k := h120
  unfold ja_X2_perform_b49 at hpf
  rw [if_neg (by omega), if_neg (by omega), if_neg (by omega), if_neg (by omega), if_neg (by omega), if_neg (by omega), if_neg (by omega), if_neg (by omega), if_neg (by omega), if_neg (by omega), if_neg (by omega), if_neg (by omega), if_neg (by omega), if_neg (by omega)] at hpf
  rcases ho with q | q
  · have hk1 := tt.2.1 q
    rw [hk1.1, hk1.2.1] at g2
    rw [if_pos (by omega)] at hpf
    obtain ⟨T, hT⟩ : ∃ T, T = nk_wi S 113 11 ((m.rd + 1 : Nat) : Int) := ⟨_, rfl⟩
    have tn : ∀ a, a ≠ 113 → T.1 a = S.1 a := fun a ha => by rw [hT, wi_n ha]
    have tf : ∀ f, T.1 113 f = if f = 11 then ((m.rd + 1 : Nat) : Int) else S.1 113 f := fun f => by rw [hT, wi_at]
    have hni : ja_X2_nextInput 113 S = some (inp m.rd, T) := by
      unfold ja_X2_nextInput ja_X2_nextInput_b25
      rw [h11, w_nat1 (by omega), lt_eq, ← hT, lt_eq]
      by_cases c : 256 ≤ m.rd
      · rw [if_pos (by omega), hin0 m.rd c]
      · rw [if_neg (by omega), if_pos (in_i (N := 256) (by omega)), jc_113_10, Int.toNat_natCast, hin m.rd (by omega)]
    obtain ⟨M, hM⟩ : ∃ M : jM, M = (m.d, m.pc, m.hs, m.vs, m.2.2.2.2.1, m.rd + 1, m.2.2.2.2.2.2) := ⟨_, rfl⟩
    have hcT : cMm T M := by
      rw [hM]
      obtain ⟨⟨q1, q2⟩, q3, q4⟩ := hc.1
      refine ⟨⟨⟨by rw [tf, if_neg (by decide)]; exact q1, q2⟩, fun f hf => by rw [tn 115 (by decide), tn 116 (by decide)]; exact q3 f hf, fun f k hf hk => by rw [tn 114 (by decide)]; exact q4 f k hf hk⟩, cHp_c (S := S) (by rw [tf, if_neg (by decide)]) (fun a ha => tn a (by omega)) hc.2.1, ?_, ?_, fun k k1 k2 => ?_⟩
      · rw [tf, if_pos rfl]
      · rw [tf, if_neg (by decide)]; exact h17
      · rw [tn 120 (by decide)]; exact h120 k k1 k2
    have eM : M.d = m.d ∧ M.hs = m.hs ∧ M.pc = m.pc := by rw [hM]; exact ⟨rfl, rfl, rfl⟩
    obtain ⟨S1, d1, d2, d3⟩ := x_leave hcT (by rw [eM.1, eM.2.2]; exact b4) (k := 0) (by omega) (by rw [eM.1, eM.2.1]; omega) (1, inp m.rd)
    have d1 : ja_X2_leave 113 0 (mCv (1, inp m.rd)) T = some (0, S1) := d1
    have hF : mkF S T := ⟨by rw [hT]; rfl, fun a ha => tn a (by omega), fun f hf => by rw [tf, if_neg (by omega)]⟩
    have ef := ef_44 (p := p) (inp := inp) (m := m) (i := m.pc m.d) (x := x) q
    rw [← hM] at ef
    refine pf_go ef ⟨S1, ?_, mkF_trans hF (mbF_m d2), d3⟩
    rw [hpf, hni, bd_some, x_int, bd_some, d1, bd_some]
  · have hk1 := (tt.2.2.2.1 (by omega)).1
    rw [if_neg (by omega), bd_eta] at hpf
    obtain ⟨n0, w0⟩ := x_top hk hm ht hc (k := 0) (by omega)
    have n0 : ja_X2_numberAt 113 0 S = some ((m.top 0).2, S) := n0
    obtain ⟨U, hU⟩ : ∃ U, U = if m.ow < 256 then nk_wi S 120 m.ow (m.top 0).2 else S := ⟨_, rfl⟩
    have un : ∀ a, a ≠ 120 → U.1 a = S.1 a := fun a ha => by rw [hU]; split; exact wi_n ha; rfl
    have u2 : U.2 = S.2 := by rw [hU]; split <;> rfl
    have u120 : ∀ k, k < m.ow + 1 → k < 256 → U.1 120 k = (if m.ow < 256 then gU m.ou m.ow (m.top 0).2 else m.ou) k := fun k k1 k2 => by
      rw [hU]
      by_cases c : m.ow < 256
      · rw [if_pos c, if_pos c, wi_at]
        unfold gU
        by_cases e : k = m.ow
        · rw [if_pos e, if_pos e]
        · rw [if_neg e, if_neg e]; exact h120 k (by omega) k2
      · rw [if_neg c, if_neg c]; exact h120 k (by omega) k2
    obtain ⟨T, hT⟩ : ∃ T, T = nk_wi U 113 17 ((m.ow + 1 : Nat) : Int) := ⟨_, rfl⟩
    have tn : ∀ a, a ≠ 113 → T.1 a = U.1 a := fun a ha => by rw [hT, wi_n ha]
    have tf : ∀ f, T.1 113 f = if f = 17 then ((m.ow + 1 : Nat) : Int) else S.1 113 f := fun f => by rw [hT, wi_at, un 113 (by decide)]
    obtain ⟨M, hM⟩ : ∃ M : jM, M = (m.d, m.pc, m.hs, m.vs, m.2.2.2.2.1, m.rd, m.ow + 1, if m.ow < 256 then gU m.ou m.ow (m.top 0).2 else m.ou) := ⟨_, rfl⟩
    have hcT : cMm T M := by
      rw [hM]
      obtain ⟨⟨q1, q2⟩, q3, q4⟩ := hc.1
      refine ⟨⟨⟨by rw [tf, if_neg (by decide)]; exact q1, q2⟩, fun f hf => by rw [tn 115 (by decide), tn 116 (by decide), un 115 (by decide), un 116 (by decide)]; exact q3 f hf, fun f k hf hk => by rw [tn 114 (by decide), un 114 (by decide)]; exact q4 f k hf hk⟩, cHp_c (S := S) (by rw [tf, if_neg (by decide)]) (fun a ha => by rw [tn a (by omega), un a (by omega)]) hc.2.1, ?_, ?_, fun k k1 k2 => ?_⟩
      · rw [tf, if_neg (by decide)]; exact h11
      · rw [tf, if_pos rfl]
      · rw [tn 120 (by decide)]; exact u120 k k1 k2
    have eM : M.d = m.d ∧ M.hs = m.hs ∧ M.pc = m.pc := by rw [hM]; exact ⟨rfl, rfl, rfl⟩
    obtain ⟨S1, f1, f2, f3⟩ := x_drop hcT (k := 1) (by rw [eM.1, eM.2.1]; omega)
    obtain ⟨S2, d1, d2, d3⟩ := x_next f3 (show M.pc M.d < 1024 by rw [eM.1, eM.2.2]; exact b4)
    have f1 : ja_X2_drop 113 1 T = some (0, S1) := f1
    have hF : mkF S T := ⟨by rw [hT]; exact u2, fun a ha => by rw [tn a (by omega), un a (by omega)], fun f hf => by rw [tf, if_neg (by omega)]⟩
    have ef := ef_45 (p := p) (inp := inp) (m := m) (i := m.pc m.d) (x := x) q
    rw [← hM] at ef
    refine pf_go ef ⟨S2, ?_, mkF_trans hF (mkF_trans (mbF_m f2) (mbF_m d2)), d3⟩
    have b24 : ja_X2_write_b24 113 U = some (0, S2) := by
      unfold ja_X2_write_b24
      rw [un 113 (by decide), h17, w_nat1 (by omega), lt_eq, ← hT, f1, bd_some, d1, bd_some]
    rw [hpf]
    unfold ja_X2_write
    rw [h17]
    by_cases c : m.ow < 256
    · rw [if_pos c] at hU
      rw [if_neg (by omega), n0, bd_some, if_pos (in_i (N := 256) (by omega)), jc_113_18, Int.toNat_natCast, lt_eq, ← hU, b24]
    · rw [if_neg c] at hU
      rw [if_pos (by omega), ← hU, b24]
end CFI
