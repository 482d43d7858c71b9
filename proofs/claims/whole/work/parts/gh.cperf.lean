/-! The run: the class's calls and ends; every instruction; errors, catches. -/
section CPE
variable {p : jP} {m m' m1 : jM} {Q : Nat} {tx : List (List Int)} {x : jC} {t : Nat → Int} {inp : Nat → Int} {S S' : nk_S} {A : jA} {σ : jG} {i : Nat}
theorem x_call (hwf : pWf tx p) (hk : pKX p Q) (h : cXx S Q p A σ) (hm : mOk p m) (ht : mTop p m x t) (hc : cMm S m) (ho : x.1 = 39 ∨ x.1 = 40) : pfO p inp m (m.pc m.d) x S := by
  obtain ⟨b1, b2, b3, b4, b5⟩ := x_at hk hm ht hc
  obtain ⟨c1, c2, c3, c4, c5, c6, c7, c8⟩ := p_ctx hwf hk
  have hpf := x_perf h ht.1 b4
  rw [if_pos (by omega), if_pos (by omega), if_pos (by omega)] at hpf
  obtain ⟨o1, o2, o3, o4⟩ := cx_op h ht.1
  obtain ⟨f, c, y, a1, a2, a3, a4, a5, a6, a7, a8, a9, a10, a11, a12, a13, a14⟩ := cll_at hwf hk ht ho
  have hps12 := (bTx_12 hwf.1.2.2.2.2.2.2.2.1 a2).1
  have har : S.1 (Q + 13) f = (y.ps.length : Int) := (h.2.2.1.2.2.2.2.2.1 f y a2).2.2.1
  have hb : p.2.2.2.1[x.2.1.toNat]? = some y := by rw [a1, Int.toNat_natCast]; exact a2
  have hpf2 : ja_X2_perform 113 (m.pc m.d : Int) S = if (x.1 : Int) = 40 then nk_bd (ja_X2_numberAt 113 (nk_w ((y.ps.length : Int) - 1)) S) fun r12 S13 => if r12 = 0 then nk_bd (ja_X2_raise 113 (m.pc m.d : Int) 0 S13) fun r26 S27 => some (r26, S27) else nk_bd (ja_X2_typeOf 113 r12 S13) fun r17 S18 => nk_bd (ja_X1_classOf r17 S18) fun r20 S21 => nk_bd (ja_X0_running (ja_c (S13.2 113 1) 1) r20 (f : Int) S21) fun r23 S24 => ja_X2_enterBody_b73 113 (m.pc m.d : Int) r23 (y.ps.length : Int) S24 else ja_X2_enterBody_b73 113 (m.pc m.d : Int) (f : Int) (y.ps.length : Int) S := by
    rw [hpf]
    have he : ja_X2_enterBody 113 (m.pc m.d : Int) (x.1 : Int) S = if (x.1 : Int) = 40 then nk_bd (ja_X2_numberAt 113 (nk_w ((y.ps.length : Int) - 1)) S) fun r12 S13 => if r12 = 0 then nk_bd (ja_X2_raise 113 (m.pc m.d : Int) 0 S13) fun r26 S27 => some (r26, S27) else nk_bd (ja_X2_typeOf 113 r12 S13) fun r17 S18 => nk_bd (ja_X1_classOf r17 S18) fun r20 S21 => nk_bd (ja_X0_running (ja_c (S13.2 113 1) 1) r20 (f : Int) S21) fun r23 S24 => ja_X2_enterBody_b73 113 (m.pc m.d : Int) r23 (y.ps.length : Int) S24 else ja_X2_enterBody_b73 113 (m.pc m.d : Int) (f : Int) (y.ps.length : Int) S := by
      unfold ja_X2_enterBody
      rw [if_pos (in_i (N := 1024) (by omega)), h.2.1, (jc_Qp h.1).2.2.1, Int.toNat_natCast, o2, a1, lt_eq, if_pos (in_i (N := 48) (by omega)), (jc_Q2 h.1).1, (jc_Q9 h.1).2.2.2.1, Int.toNat_natCast, har, lt_eq]
    unfold ja_X2_perform_b49 ja_X2_perform_b236
    rw [if_neg (by omega), if_neg (by omega), if_neg (by omega), if_neg (by omega), if_neg (by omega), if_neg (by omega), if_neg (by omega), if_neg (by omega), if_neg (by omega), bd_eta, he]
    rcases ho with q | q
    · rw [if_pos (show (x.1 : Int) = 39 by omega)]
    · rw [if_neg (show ¬ (x.1 : Int) = 39 by omega), if_pos (show (x.1 : Int) = 40 by omega), if_pos (show (x.1 : Int) = 40 by omega)]
  have enter : ∀ (b : Nat) (y' : jB), p.2.2.2.1[b]? = some y' → ja_X2_perform 113 (m.pc m.d : Int) S = ja_X2_enterBody_b73 113 (m.pc m.d : Int) (b : Int) (y.ps.length : Int) S → mEf p inp m (m.pc m.d) x = (if 63 ≤ m.d then jE.st 4 else jE.go (mEn p m b (tkX p.2.2.2.1 x))) → pfO p inp m (m.pc m.d) x S := by
    intro b y' hy' hp1 hef
    obtain ⟨g1, g2⟩ := x_enter hwf hk h hm hc (n := y.ps.length) hy' a11 hps12
    by_cases cd : 63 ≤ m.d
    · rw [if_pos cd] at g1 hef
      exact pf_st hef (by rw [hp1, g1]; rfl)
    · rw [if_neg cd] at hef
      obtain ⟨S1, d1, d2, d3⟩ := g2 cd
      rw [a8] at hef
      exact pf_go hef ⟨S1, by rw [hp1, d1], d2, d3⟩
  rcases ho with q | q
  · rw [if_neg (by omega)] at hpf2
    refine enter f y a2 hpf2 ?_
    have ef := ef_39 (p := p) (inp := inp) (m := m) (i := m.pc m.d) (x := x) q
    rw [a1, Int.toNat_natCast] at ef
    exact ef
  · rw [if_pos (by omega)] at hpf2
    have h1 := a13 q
    have e1 : ∀ _ : Unit, nk_w ((y.ps.length : Int) - 1) = ((y.ps.length - 1 : Nat) : Int) := fun _ => by rw [nk_w_id (by omega) (by omega)]; omega
    obtain ⟨nr, wr⟩ := x_top hk hm ht hc (k := y.ps.length - 1) (by omega)
    rw [e1 (), nr, bd_some, bd_eta] at hpf2
    have ef := ef_40 (p := p) (inp := inp) (m := m) (i := m.pc m.d) (x := x) q
    rw [a8] at ef
    by_cases c0 : (m.top (y.ps.length - 1)).2 = 0
    · rw [if_pos c0] at hpf2 ef
      exact pf_rz ef hpf2
    · rw [if_neg c0] at hpf2 ef
      obtain ⟨o, f', b, y1, y', e1, e2, e3, e4, e5, e6, e7, e8, e9, e10, e11, e12, e13, e14, e15, e16, e17, e18, e19, e20⟩ := snd_obj hwf hk hm ht q (by rw [a8]; exact c0)
      have ef' : f' = f := by omega
      subst ef'
      rw [a2] at e3
      cases e3
      rw [a8] at e8 e9
      obtain ⟨z1, z2, z3, z4, z5⟩ := x_typ hwf hk h hm.2.1 hc e7
      have ety : ja_X2_typeOf 113 (m.top (y.ps.length - 1)).2 S = some (sTp p.2.2.2.2.1 (m.si o), S) := by rw [e8]; exact z1
      have h100 : 4 ≤ sTp p.2.2.2.2.1 (m.si o) ∧ sTp p.2.2.2.2.1 (m.si o) < 100 := ⟨e12, by unfold tV at z2; omega⟩
      have hrn : S.1 (Q + 22) (cl (sTp p.2.2.2.2.1 (m.si o)) * 48 + f') = (b : Int) := by
        rw [h.2.2.1.2.2.2.2.2.2.2.1 _ f' y e13 a2, e14]
      have erun : ja_X0_running (Q + 9) (cl (sTp p.2.2.2.2.1 (m.si o)) : Int) (f' : Int) S = some ((b : Int), S) := by
        have ew : ∀ _ : Unit, nk_w (nk_w ((cl (sTp p.2.2.2.2.1 (m.si o)) : Int) * 48) + (f' : Int)) = ((cl (sTp p.2.2.2.2.1 (m.si o)) * 48 + f' : Nat) : Int) := fun _ => by
          rw [nk_w_id (z := (cl (sTp p.2.2.2.2.1 (m.si o)) : Int) * 48) (by omega) (by omega), nk_w_id (by omega) (by omega)]; omega
        unfold ja_X0_running
        rw [if_neg (by omega), if_neg (by omega), ew (), if_pos (in_i (N := 1536) (by omega)), (jc_Qb h.1).2.2.2.2.2, Int.toNat_natCast, hrn]
      rw [ety, bd_some, c_cls h100, bd_some, h.2.1, (jc_Q2 h.1).1, erun, bd_some] at hpf2
      refine enter b y' e15 hpf2 ?_
      have emt : mTp p m (m.top (y.ps.length - 1)).2 = sTp p.2.2.2.2.1 (m.si o) := by unfold mTp; rw [e9]
      rw [ef, emt, hb]
      dsimp only
      rw [e14, Int.toNat_natCast, a8]
theorem x_back (hwf : pWf tx p) (hk : pKX p Q) (h : cXx S Q p A σ) (hm : mOk p m) (ht : mTop p m x t) (hc : cMm S m) (ho : x.1 = 42 ∨ x.1 = 43) : pfO p inp m (m.pc m.d) x S := by
  obtain ⟨b1, b2, b3, b4, b5⟩ := x_at hk hm ht hc
  have hpf := x_perf h ht.1 b4
  rw [if_pos (by omega), if_pos (by omega), if_pos (by omega)] at hpf
  have h5 : S.1 113 5 = (m.d : Int) := hc.1.1.1
  have hpf2 : ja_X2_perform 113 (m.pc m.d : Int) S = ja_X2_leaveBody 113 (m.pc m.d : Int) (x.1 : Int) S := by
    rw [hpf]
    unfold ja_X2_perform_b49 ja_X2_perform_b266
    rw [if_neg (by omega), if_neg (by omega), if_neg (by omega), if_neg (by omega), if_neg (by omega), if_neg (by omega), if_neg (by omega), if_neg (by omega), if_neg (by omega), if_neg (by omega), if_neg (by omega), if_neg (by omega), bd_eta]
    rcases ho with q | q
    · rw [if_pos (by omega)]
    · rw [if_neg (by omega), if_pos (by omega)]
  unfold ja_X2_leaveBody at hpf2
  rw [h5] at hpf2
  by_cases cd : m.d = 0
  · rw [if_pos (by omega)] at hpf2
    have hfin : (nk_bd (ja_X2_finish 113 0 (m.pc m.d : Int) S) fun r13 S14 => some ((0 : Int), S14)) = some (0, nk_wi (nk_wi S 113 12 0) 113 15 (m.pc m.d : Int)) := by
      unfold ja_X2_finish
      rw [lt_eq, lt_eq, bd_some]
    rw [hfin] at hpf2
    rcases ho with q | q
    · have ef := ef_42 (p := p) (inp := inp) (m := m) (i := m.pc m.d) (x := x) q
      rw [if_pos cd] at ef
      exact pf_st ef hpf2
    · have ef := ef_43 (p := p) (inp := inp) (m := m) (i := m.pc m.d) (x := x) q
      rw [if_pos cd] at ef
      exact pf_st ef hpf2
  · rw [if_neg (by omega)] at hpf2
    obtain ⟨x1, t1, y, xb, q1, q2, q3, q4, q5, q6, q7, q8, q9, q10, q11, q12, q13⟩ := bck_at hwf hk hm ht cd
    have hfr : ja_X2_fromTop 113 0 S = some (((m.d * 20 + (11 + m.hs m.d) : Nat) : Int), S) := x_from hc (k := 0) (by omega)
    have e5 : ∀ _ : Unit, nk_w ((m.d : Int) - 1) = ((m.d - 1 : Nat) : Int) := fun _ => by rw [nk_w_id (by omega) (by omega)]; omega
    obtain ⟨T, hT⟩ : ∃ T, T = nk_wi S 113 5 ((m.d - 1 : Nat) : Int) := ⟨_, rfl⟩
    have tn : ∀ a, a ≠ 113 → T.1 a = S.1 a := fun a ha => by rw [hT, wi_n ha]
    have tf : ∀ f, T.1 113 f = if f = 5 then ((m.d - 1 : Nat) : Int) else S.1 113 f := fun f => by rw [hT, wi_at]
    have hF : mkF S T := ⟨by rw [hT]; rfl, fun a ha => tn a (by omega), fun f hf => by rw [tf, if_neg (by omega)]⟩
    have hcT : cMm T m.bck := by
      obtain ⟨⟨r1, r2⟩, r3, r4⟩ := hc.1
      refine ⟨⟨⟨by rw [tf, if_pos rfl]; rfl, show m.d - 1 < 64 by omega⟩, fun f hf => ?_, fun f k hf hk' => ?_⟩, cHp_c (S := S) (by rw [tf, if_neg (by decide)]) (fun a ha => tn a (by omega)) hc.2.1, cIo_c (S := S) (by rw [tf, if_neg (by decide)]) (by rw [tf, if_neg (by decide)]) (tn 120 (by decide)) hc.2.2⟩
      · have hf : f ≤ m.d - 1 := hf
        rw [tn 115 (by decide), tn 116 (by decide)]
        exact r3 f (by omega)
      · have hf : f ≤ m.d - 1 := hf
        rw [tn 114 (by decide)]
        exact r4 f k (by omega) hk'
    have hpc : m.pc (m.d - 1) < 1024 := by
      have := at_lt q1
      have := hwf.1.2.2.2.2.2.2.2.2.2.2.1.1
      omega
    rw [hfr, bd_some, if_pos (in_i (N := 1280) (by omega)), jc_113_2, Int.toNat_natCast, lt_eq, h5, e5 (), lt_eq, ← hT] at hpf2
    have b47 : ∀ T, ja_X2_leaveBody_b47 113 T = ja_X2_next 113 T := fun T => bd_eta _
    rcases ho with q | q
    · rw [if_pos (by omega)] at hpf2
      obtain ⟨a1, a2, a3⟩ : 1 ≤ m.hs m.d ∧ lvX p.2.2.2.1 x1 = 1 ∧ True := by
        obtain ⟨xb', h1, h2, h3⟩ := tH_g hk ht (by omega)
        have htk : tkT x.1 = 1 := by rw [q]; decide +kernel
        have w0 := h3 0 (by omega)
        have wn0 : wn x.1 0 = 9 := by rw [q]; rfl
        rw [wn0, htk] at w0
        rw [q8] at h1
        cases h1
        have w0 : (decide (xb.rs ≠ -1) && tLe p.2.1 (t (12 + m.hs m.d - 1 + 0)) xb.rs) = true := w0
        rw [Bool.and_eq_true] at w0
        have w1 := of_decide_eq_true w0.1
        rw [q9] at w1
        rw [if_neg w1] at q10
        exact ⟨by omega, q10, trivial⟩
      rw [a2] at q12
      have hcell : S.1 114 (m.d * 20 + (11 + m.hs m.d)) = mCv (m.top 0) := x_cell hc (k := 0) (by omega)
      obtain ⟨S1, d1, d2, d3⟩ := x_push hcT (show m.hs (m.d - 1) < 8 by omega) (m.top 0)
      obtain ⟨S2, g1, g2, g3⟩ := x_next d3 hpc
      rw [hcell, d1, bd_some, b47, g1] at hpf2
      have ef := ef_42 (p := p) (inp := inp) (m := m) (i := m.pc m.d) (x := x) q
      rw [if_neg cd] at ef
      exact pf_go ef ⟨S2, hpf2, mkF_trans hF (mkF_trans (mbF_m d2) (mbF_m g2)), g3⟩
    · rw [if_neg (by omega)] at hpf2
      obtain ⟨S2, g1, g2, g3⟩ := x_next hcT hpc
      rw [b47, g1] at hpf2
      have ef := ef_43 (p := p) (inp := inp) (m := m) (i := m.pc m.d) (x := x) q
      rw [if_neg cd] at ef
      exact pf_go ef ⟨S2, hpf2, mkF_trans hF (mbF_m g2), g3⟩
/-- every instruction -/
theorem x_all (hwf : pWf tx p) (hk : pKX p Q) (h : cXx S Q p A σ) (hm : mOk p m) (ht : mTop p m x t) (hc : cMm S m) (hin : ∀ k, k < 256 → S.1 112 k = inp k) (hin0 : ∀ k, 256 ≤ k → inp k = 0) (hrd : m.rd < 100000) (how : m.ow < 100000) : pfO p inp m (m.pc m.d) x S := by
  obtain ⟨b1, b2, b3, b4, b5⟩ := x_at hk hm ht hc
  by_cases c7 : x.1 ≤ 7
  · exact x_move hk h hm ht hc c7
  by_cases c18 : x.1 ≤ 18
  · exact x_calc hk h hm ht hc (by omega)
  by_cases c29 : x.1 ≤ 29
  · exact x_jump hk h hm ht hc (by omega)
  by_cases c31 : x.1 ≤ 31
  · exact x_new hwf hk h hm ht hc (by omega)
  by_cases c32 : x.1 = 32
  · exact x_len hwf hk h hm ht hc c32
  by_cases c34 : x.1 ≤ 34
  · exact x_elem hwf hk h hm ht hc (by omega)
  by_cases c36 : x.1 ≤ 36
  · exact x_field hwf hk h hm ht hc (by omega)
  by_cases c38 : x.1 ≤ 38
  · exact x_type hwf hk h hm ht hc (by omega)
  by_cases c40 : x.1 ≤ 40
  · exact x_call hwf hk h hm ht hc (by omega)
  by_cases c41 : x.1 = 41
  · exact x_throw hwf hk h hm ht hc c41
  by_cases c43 : x.1 ≤ 43
  · exact x_back hwf hk h hm ht hc (by omega)
  exact x_io hk h hm ht hc (by omega) hin hin0 hrd how
end CPE
