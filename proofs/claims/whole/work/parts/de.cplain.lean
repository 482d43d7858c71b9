/-! The class looks at plain instructions. -/
section CPL
variable {ns : List (List Int)} {us : List Int} {fl : List (List Int × Nat × Int)} {bl : List jB} {z : jL} {el : List (Nat × Nat × Nat × Nat)} {F : Int → Prop} {dn up : Int → Int} {H lc : Nat → Nat} {ty : Nat → Option (Nat → Int)} {th : Nat → Int} {n Q m0 : Nat} {σ : jG} {C : jH} {i : Nat} {x : jC} {u : jQ} {S T : nk_S} {A : jA} {W : Nat → Bool}
theorem lk_at (hk : kX F th n dn up ns us fl bl z el H lc ty Q) (hI : lkI F dn up ns us fl bl z el H lc ty m0 Q S A W σ C) (hx : z.1[i]? = some x) (hu : A i = some u) : ∃ t xb e, ty i = some t ∧ rOw F us z (lc i) (H i) t u ∧ pAf ns us fl bl z el H lc i x t xb e ∧ pKd bl x (H i) u ∧ gOk F us fl bl z σ ∧ pLk F (dn, up, (ns, us, fl, bl, z, el), H) lc ty m0 i x u σ := by
  obtain ⟨x', t, a1, a2, a3⟩ := hI.2.2.2.2.2.1.1 i u hu
  have ex : x' = x := by
    have a1 : z.1[i]? = some x' := a1
    rw [hx] at a1; cases a1; rfl
  subst ex
  have a2 : ty i = some t := a2
  have a3 : rOw F us z (lc i) (H i) t u := a3
  obtain ⟨xb, e, hp⟩ := pAt hk.2.1 hx a2
  obtain ⟨x2, h2⟩ := pLk_of hI.2.2.2.2.2.1 hu
  have ex2 : x2 = x' := by
    have q : z.1[i]? = some x2 := h2.1
    rw [hx] at q; cases q; rfl
  subst ex2
  exact ⟨t, xb, e, a2, a3, hp, (pCx_at hk.2.1 hx a2 a3.1).1, hI.2.2.2.2.2.1.2.1, h2⟩
theorem mv_tb : (tkT 0 = 0 ∧ lvT 0 = 1) ∧ (tkT 1 = 0 ∧ lvT 1 = 1) ∧ (tkT 2 = 0 ∧ lvT 2 = 1) ∧ (tkT 3 = 1 ∧ lvT 3 = 0) ∧ (tkT 4 = 0 ∧ lvT 4 = 0) ∧ (tkT 5 = 1 ∧ lvT 5 = 2) ∧ (tkT 6 = 1 ∧ lvT 6 = 0) ∧ (tkT 7 = 2 ∧ lvT 7 = 2) ∧ (tkT 45 = 1 ∧ lvT 45 = 0) := by decide +kernel
theorem mv_tk (o : Nat) (_ : o < 46) (_ : o ≤ 7 ∨ o = 45) : (o = 0 ∨ o = 1 ∨ o = 2 → tkT o = 0 ∧ lvT o = 1) ∧ (o = 4 → tkT o = 0 ∧ lvT o = 0) ∧ (o = 3 ∨ o = 6 ∨ o = 45 → tkT o = 1 ∧ lvT o = 0) ∧ (o = 5 → tkT o = 1 ∧ lvT o = 2) ∧ (o = 7 → tkT o = 2 ∧ lvT o = 2) := by
  obtain ⟨b0, b1, b2, b3, b4, b5, b6, b7, b45⟩ := mv_tb
  refine ⟨fun q => ?_, fun q => by rw [q]; exact b4, fun q => ?_, fun q => by rw [q]; exact b5, fun q => by rw [q]; exact b7⟩
  · rcases q with q | q | q
    · rw [q]; exact b0
    · rw [q]; exact b1
    · rw [q]; exact b2
  · rcases q with q | q | q
    · rw [q]; exact b3
    · rw [q]; exact b6
    · rw [q]; exact b45
theorem fK_mv : fK 2 = 2 ∧ fK 3 = 2 ∧ fK 4 = 3 := by decide +kernel
theorem mvH_t {o g : Nat} (ho : o < 46) (h : o ≤ 7 ∨ o = 45) (ht : tkT o ≤ g) : mvH o g = g - tkT o + lvT o := by
  obtain ⟨a1, a2, a3, a4, a5⟩ := mv_tk o ho h
  unfold mvH
  split
  · rename_i q
    rcases q with q | q | q | q
    · have := a1 (by omega); omega
    · have := a1 (by omega); omega
    · have := a1 (by omega); omega
    · have := a4 q; omega
  · split
    · rename_i q
      rcases q with q | q
      · have := a2 q; omega
      · have := a5 q; omega
    · have := a3 (by omega); omega
theorem h_moves (hk : kX F th n dn up ns us fl bl z el H lc ty Q) (hT : lkS F dn up ns us fl bl z el H lc ty m0 Q S A W σ C i u T) (hx : z.1[i]? = some x) (hu : A i = some u) (ho : x.1 ≤ 7 ∨ x.1 = 45) : ∃ S1, ja_X4_moves 92 (i : Int) (x.1 : Int) T = some (bi (pGo (dn, up, (ns, us, fl, bl, z, el), H) σ x (H i) u).isSome, S1) ∧ lkH F th n dn up ns us fl bl z el H lc ty m0 Q S A W σ C i x u S1 := by
  obtain ⟨t1, t2, t3, t4, t5⟩ := hT
  obtain ⟨t, xb, e, a1, a2, ⟨⟨p1, p2, p3, p4, p5, p6⟩, ⟨c1, c2, c3⟩, -⟩, hd, hg, hlk⟩ := lk_at hk t2 hx hu
  obtain ⟨k2, k4, -⟩ := hd
  have etk := (tkX_n (bl := bl) (x := x) (by omega))
  rw [etk.1, etk.2] at c2
  rw [etk.1] at c1
  obtain ⟨b1, b2, b3, b4, b5⟩ := mv_tk x.1 p1.1 ho
  obtain ⟨S1, v, s1, s2, s3, s4⟩ := c_moves (σ := σ) (G := (dn, up, (ns, us, fl, bl, z, el), H)) hk.1 hk.2.1.1 hk.2.2.1 t2.1 hk.2.2.2.2 hx t5 a2.1 ho (by rw [mvH_t p1.1 ho c1]; exact c2) (fun q => p1.2.2.2.2.2.2.2.2.1 q) (fun q => by
    have hf : fK x.1 = 2 ∨ fK x.1 = 3 := by
      rcases q with q | q | q
      · rw [q]; exact Or.inl fK_mv.1
      · rw [q]; exact Or.inl fK_mv.2.1
      · rw [q]; exact Or.inr fK_mv.2.2
    have := p1.2.2.1 hf
    omega) (fun q => ⟨k4 q, p1.2.2.2.2.2.2.2.2.2 q⟩) (fun q => by
    rcases q with q | q | q | q
    · have := b3 (by omega); omega
    · have := b4 q; omega
    · have := b3 (by omega); omega
    · have := b3 (by omega); omega) (fun q => by have := b5 q; omega)
  obtain ⟨f1, f2⟩ := fd_0 (G := (dn, up, (ns, us, fl, bl, z, el), H)) (σ := σ) (x := x) (h := H i) (u := u) ⟨by omega, by omega, by omega⟩ (pRz_n (by omega))
  refine ⟨S1, by rw [s3]; exact s1, lkH_e hk t1 t2 ⟨s2.1, fun a _ h2 h3 h4 => s2.2.1 a h2 h3 h4, fun f _ _ => by rw [s2.2.1 92 (by decide) (by decide) (by decide)]⟩ t3 ⟨by omega, by omega, by omega, by omega⟩ (pCo_n ⟨by omega, by omega, by omega, by omega, by omega⟩) ?_ (fun v' hv' => ?_)⟩
  · rw [← f1, ← f2]; exact cRs_w s2 t4
  · rw [s3] at hv'
    cases hv'
    rw [etk.1, etk.2, ← mvH_t p1.1 ho c1]
    exact s4
theorem h_calcs (hk : kX F th n dn up ns us fl bl z el H lc ty Q) (hT : lkS F dn up ns us fl bl z el H lc ty m0 Q S A W σ C i u T) (hx : z.1[i]? = some x) (hu : A i = some u) (ho : 8 ≤ x.1 ∧ x.1 ≤ 18) : ∃ S1, ja_X4_calculates 92 (x.1 : Int) T = some (bi (pGo (dn, up, (ns, us, fl, bl, z, el), H) σ x (H i) u).isSome, S1) ∧ lkH F th n dn up ns us fl bl z el H lc ty m0 Q S A W σ C i x u S1 := by
  obtain ⟨t1, t2, t3, t4, t5⟩ := hT
  obtain ⟨t, xb, e, a1, a2, ⟨⟨p1, p2, p3, p4, p5, p6⟩, ⟨c1, c2, c3⟩, -⟩, hd, hg, hlk⟩ := lk_at hk t2 hx hu
  obtain ⟨k2, k4, kb, ki, -⟩ := hd
  have etk := (tkX_n (bl := bl) (x := x) (by omega))
  have h1 : (u (12 + H i - 1)).1 = 1 ∧ 1 ≤ H i := by
    by_cases q : x.1 = 18
    · exact ki (Or.inl q)
    · have := kb (Or.inl (by omega)); exact ⟨this.1, by omega⟩
  obtain ⟨S1, s1, s2, s3, s4⟩ := c_calcs (σ := σ) (G := (dn, up, (ns, us, fl, bl, z, el), H)) hk.1 hk.2.1.1 hk.2.2.1 t2.1 hk.2.2.2.2 t4 t5 a2.1 ho h1.1 (fun q => (kb (Or.inl (by omega))).2) h1.2
  obtain ⟨f1, f2⟩ := fd_1 (G := (dn, up, (ns, us, fl, bl, z, el), H)) (σ := σ) (x := x) (h := H i) (u := u) (b := pRz (dn, up, (ns, us, fl, bl, z, el), H) σ x (H i) u 3) (e0 := 3) (by decide) ⟨by omega, by omega, by omega⟩ (fun e he => by
    by_cases q : x.1 = 11 ∨ x.1 = 12
    · exact pRz_c q e he
    · rw [pRz_n (by omega) e he, pRz_n (by omega) 3 (by decide)]; rfl)
  refine ⟨S1, s1, lkH_e hk t1 t2 s2 t3 ⟨by omega, by omega, by omega, by omega⟩ (pCo_n ⟨by omega, by omega, by omega, by omega, by omega⟩) ?_ (fun v' hv' => ?_)⟩
  · rw [← f1, ← f2]; exact s3
  · rw [etk.1, etk.2]
    have hr := s4 v' hv'
    by_cases q : x.1 = 18
    · rw [if_pos q] at hr
      have h18 : lvT x.1 = 1 ∧ tkT x.1 = 1 := by rw [q]; exact lt_tab.2.2.2.2.2.2.2.1
      rw [show H i - tkT x.1 + lvT x.1 = H i by omega]
      exact hr
    · rw [if_neg q] at hr
      have hc := lt_cal x.1 p1.1 (by omega)
      have := kb (Or.inl (by omega))
      rw [show H i - tkT x.1 + lvT x.1 = H i - 1 by omega]
      exact hr
theorem h_goto (hk : kX F th n dn up ns us fl bl z el H lc ty Q) (hT : lkS F dn up ns us fl bl z el H lc ty m0 Q S A W σ C i u T) (ho : x.1 = 19) : pGo (dn, up, (ns, us, fl, bl, z, el), H) σ x (H i) u = some u ∧ lkH F th n dn up ns us fl bl z el H lc ty m0 Q S A W σ C i x u T := by
  obtain ⟨t1, t2, t3, t4, t5⟩ := hT
  have etk := (tkX_n (bl := bl) (x := x) (by omega))
  have hgo : pGo (dn, up, (ns, us, fl, bl, z, el), H) σ x (H i) u = some u := by
    unfold pGo
    rw [if_neg (by omega), if_neg (by omega), if_neg (by omega), if_neg (by omega), if_neg (by omega), if_neg (by omega), if_pos (by omega)]
  obtain ⟨f1, f2⟩ := fd_0 (G := (dn, up, (ns, us, fl, bl, z, el), H)) (σ := σ) (x := x) (h := H i) (u := u) ⟨by omega, by omega, by omega⟩ (pRz_n (by omega))
  refine ⟨hgo, lkH_e hk t1 t2 ⟨rfl, fun _ _ _ _ _ => rfl, fun _ _ _ => rfl⟩ t3 ⟨by omega, by omega, by omega, by omega⟩ (pCo_n ⟨by omega, by omega, by omega, by omega, by omega⟩) ?_ (fun v' hv' => ?_)⟩
  · rw [← f1, ← f2]; exact t4
  · rw [hgo] at hv'
    cases hv'
    have h0 : tkT 19 = 0 ∧ lvT 19 = 0 := by decide +kernel
    rw [etk.1, etk.2, ho, h0.1, h0.2]
    exact t5
theorem h_cast (hk : kX F th n dn up ns us fl bl z el H lc ty Q) (hT : lkS F dn up ns us fl bl z el H lc ty m0 Q S A W σ C i u T) (hx : z.1[i]? = some x) (hu : A i = some u) (ho : x.1 = 37) : ∃ S1, ja_X4_casts 92 (i : Int) T = some (bi (pGo (dn, up, (ns, us, fl, bl, z, el), H) σ x (H i) u).isSome, S1) ∧ lkH F th n dn up ns us fl bl z el H lc ty m0 Q S A W σ C i x u S1 := by
  obtain ⟨t1, t2, t3, t4, t5⟩ := hT
  obtain ⟨t, xb, e, a1, a2, ⟨⟨p1, p2, p3, p4, p5, p6⟩, ⟨c1, c2, c3⟩, -⟩, hd, hg, hlk⟩ := lk_at hk t2 hx hu
  obtain ⟨k2, k4, kb, ki, kr, -⟩ := hd
  have etk := (tkX_n (bl := bl) (x := x) (by omega))
  have h1 := kr (by omega)
  obtain ⟨S1, s1, s2, s3, s4⟩ := c_cast (σ := σ) (x := x) (G := (dn, up, (ns, us, fl, bl, z, el), H)) hk.1 t2.1 t4 t5 a2.1 p2 ho h1.1 h1.2 (t2.2.1.1.1 i x hx (Or.inl ho))
  obtain ⟨f1, f2⟩ := fd_1 (G := (dn, up, (ns, us, fl, bl, z, el), H)) (σ := σ) (x := x) (h := H i) (u := u) (e0 := 4) (by decide) ⟨by omega, by omega, by omega⟩ (pRz_37 ho)
  refine ⟨S1, s1, lkH_e hk t1 t2 s2 t3 ⟨by omega, by omega, by omega, by omega⟩ (pCo_n ⟨by omega, by omega, by omega, by omega, by omega⟩) ?_ (fun v' hv' => ?_)⟩
  · rw [← f1, ← f2]; exact s3
  · have h0 : tkT 37 = 1 ∧ lvT 37 = 1 := by decide +kernel
    rw [etk.1, etk.2, ho, h0.1, h0.2, show H i - 1 + 1 = H i by omega]
    exact s4 v' hv'
theorem h_is (hk : kX F th n dn up ns us fl bl z el H lc ty Q) (hT : lkS F dn up ns us fl bl z el H lc ty m0 Q S A W σ C i u T) (hx : z.1[i]? = some x) (hu : A i = some u) (ho : x.1 = 38) : ∃ S1, ja_X4_tellsType 92 (i : Int) T = some (bi (pGo (dn, up, (ns, us, fl, bl, z, el), H) σ x (H i) u).isSome, S1) ∧ lkH F th n dn up ns us fl bl z el H lc ty m0 Q S A W σ C i x u S1 := by
  obtain ⟨t1, t2, t3, t4, t5⟩ := hT
  obtain ⟨t, xb, e, a1, a2, ⟨⟨p1, p2, p3, p4, p5, p6⟩, ⟨c1, c2, c3⟩, -⟩, hd, hg, hlk⟩ := lk_at hk t2 hx hu
  obtain ⟨k2, k4, kb, ki, kr, -⟩ := hd
  have etk := (tkX_n (bl := bl) (x := x) (by omega))
  have h1 := kr (by omega)
  obtain ⟨S1, v, s1, s2, s3, s4⟩ := c_is (σ := σ) (x := x) (G := (dn, up, (ns, us, fl, bl, z, el), H)) hk.1 t2.1 t4 t5 a2.1 p2 ho h1.1 h1.2 (t2.2.1.1.1 i x hx (Or.inr ho))
  obtain ⟨f1, f2⟩ := fd_0 (G := (dn, up, (ns, us, fl, bl, z, el), H)) (σ := σ) (x := x) (h := H i) (u := u) ⟨by omega, by omega, by omega⟩ (pRz_n (by omega))
  refine ⟨S1, by rw [s3]; exact s1, lkH_e hk t1 t2 ⟨s2.1, fun a _ h2 h3 h4 => s2.2.1 a h2 h3 h4, fun f _ _ => by rw [s2.2.1 92 (by decide) (by decide) (by decide)]⟩ t3 ⟨by omega, by omega, by omega, by omega⟩ (pCo_n ⟨by omega, by omega, by omega, by omega, by omega⟩) ?_ (fun v' hv' => ?_)⟩
  · rw [← f1, ← f2]; exact cRs_w s2 t4
  · rw [s3] at hv'
    cases hv'
    have h0 : tkT 38 = 1 ∧ lvT 38 = 1 := by decide +kernel
    rw [etk.1, etk.2, ho, h0.1, h0.2, show H i - 1 + 1 = H i by omega]
    exact s4
theorem h_read (hk : kX F th n dn up ns us fl bl z el H lc ty Q) (hT : lkS F dn up ns us fl bl z el H lc ty m0 Q S A W σ C i u T) (hx : z.1[i]? = some x) (hu : A i = some u) (ho : x.1 = 44) : ∃ S1, ja_X7_push 93 (-9223372034707292161) 4503599627370496 T = some (0, S1) ∧ (pGo (dn, up, (ns, us, fl, bl, z, el), H) σ x (H i) u).isSome = true ∧ lkH F th n dn up ns us fl bl z el H lc ty m0 Q S A W σ C i x u S1 := by
  obtain ⟨t1, t2, t3, t4, t5⟩ := hT
  obtain ⟨t, xb, e, a1, a2, ⟨⟨p1, p2, p3, p4, p5, p6⟩, ⟨c1, c2, c3⟩, -⟩, hd, hg, hlk⟩ := lk_at hk t2 hx hu
  have etk := (tkX_n (bl := bl) (x := x) (by omega))
  have h0 : tkT 44 = 0 ∧ lvT 44 = 1 := by decide +kernel
  rw [etk.1, etk.2, ho, h0.1, h0.2] at c2
  obtain ⟨S1, v, s1, s2, s3, s4⟩ := c_read (σ := σ) (x := x) (G := (dn, up, (ns, us, fl, bl, z, el), H)) t5 (by omega) ho
  obtain ⟨f1, f2⟩ := fd_0 (G := (dn, up, (ns, us, fl, bl, z, el), H)) (σ := σ) (x := x) (h := H i) (u := u) ⟨by omega, by omega, by omega⟩ (pRz_n (by omega))
  refine ⟨S1, s1, by rw [s3]; rfl, lkH_e hk t1 t2 ⟨s2.1, fun a _ h2 h3 h4 => s2.2.1 a h2 h3 h4, fun f _ _ => by rw [s2.2.1 92 (by decide) (by decide) (by decide)]⟩ t3 ⟨by omega, by omega, by omega, by omega⟩ (pCo_n ⟨by omega, by omega, by omega, by omega, by omega⟩) ?_ (fun v' hv' => ?_)⟩
  · rw [← f1, ← f2]; exact cRs_w s2 t4
  · rw [s3] at hv'
    cases hv'
    rw [etk.1, etk.2, ho, h0.1, h0.2]
    exact s4
theorem h_throw (hk : kX F th n dn up ns us fl bl z el H lc ty Q) (hT : lkS F dn up ns us fl bl z el H lc ty m0 Q S A W σ C i u T) (hx : z.1[i]? = some x) (hu : A i = some u) (ho : x.1 = 41) : ∃ S1, ja_X4_throwsSites 92 T = some (bi (pGo (dn, up, (ns, us, fl, bl, z, el), H) σ x (H i) u).isSome, S1) ∧ lkH F th n dn up ns us fl bl z el H lc ty m0 Q S A W σ C i x u S1 := by
  obtain ⟨t1, t2, t3, t4, t5⟩ := hT
  obtain ⟨t, xb, e, a1, a2, ⟨⟨p1, p2, p3, p4, p5, p6⟩, ⟨c1, c2, c3⟩, -⟩, hd, hg, hlk⟩ := lk_at hk t2 hx hu
  obtain ⟨k2, k4, kb, ki, kr, -⟩ := hd
  have h1 := kr (by omega)
  obtain ⟨S1, s1, s2, s3⟩ := c_throws t2.1 t4 t5 a2.1 h1.1 h1.2
  have hgo : pGo (dn, up, (ns, us, fl, bl, z, el), H) σ x (H i) u = none := pGo_n (by omega)
  have hz0 : pRz (dn, up, (ns, us, fl, bl, z, el), H) σ x (H i) u 0 = (u (12 + H i - 1)).2.2.1 62 := by
    unfold pRz; rw [if_pos rfl, if_pos (by omega)]
  refine ⟨S1, by rw [hgo]; exact s1, lkH_e hk t1 t2 s2 t3 ⟨by omega, by omega, by omega, by omega⟩ (pCo_n ⟨by omega, by omega, by omega, by omega, by omega⟩) ?_ (fun v' hv' => by rw [hgo] at hv'; cases hv')⟩
  have e1 : nlR (sEx (sAnd (u (12 + H i - 1)).2.2.1 sAl)) 6 (nlR ((u (12 + H i - 1)).2.2.1 62) 0 (onS 8)) = pFd (dn, up, (ns, us, fl, bl, z, el), H) σ x (H i) u := by
    funext e
    rw [nlR_at, nlR_at]
    unfold pFd
    split
    · rw [pRz_d (by omega) e (by assumption), hz0, show onS 8 e = false from decide_eq_false (by omega), decide_eq_false (p := e = 6) (by omega), Bool.and_false, Bool.or_false, Bool.false_or]
    · rw [decide_eq_false (p := e = 0) (by omega), Bool.and_false, Bool.or_false]
      split
      · rename_i q; rw [q, show onS 8 6 = false from rfl, decide_eq_true ho]; rw [show decide (6 = 6) = true from rfl, Bool.and_true, Bool.false_or, Bool.true_and]
      · rename_i q6
        rw [decide_eq_false q6, Bool.and_false, Bool.or_false]
        split
        · rename_i q; rw [q, decide_eq_false (p := x.1 = 39 ∨ x.1 = 40) (by omega), Bool.false_and, Bool.false_and]; rfl
        · rfl
  have e2 : sOr (nlR ((u (12 + H i - 1)).2.2.1 62) 48 noS) (sAnd (u (12 + H i - 1)).2.2.1 sAl) = pLs (dn, up, (ns, us, fl, bl, z, el), H) σ x (H i) u := by
    funext j
    unfold pLs pTh
    rw [if_pos ho]
    show (nlR ((u (12 + H i - 1)).2.2.1 62) 48 noS j || sAnd (u (12 + H i - 1)).2.2.1 sAl j) = (sAnd (u (12 + H i - 1)).2.2.1 sAl j || _)
    rw [Bool.or_comm]
    congr 1
    rw [nlR_at, show noS j = false from rfl, Bool.false_or]
    by_cases q : 48 ≤ j ∧ j < 54
    · rw [decide_eq_true q.1, decide_eq_true q.2, Bool.true_and, Bool.true_and, pRz_d (by omega) (j - 48) (by omega), hz0]
      congr 1
      exact decide_eq_decide.mpr (by omega)
    · rw [decide_eq_false (p := j = 48) (by omega), Bool.and_false]
      by_cases q1 : 48 ≤ j
      · rw [decide_eq_false (p := j < 54) (by omega), Bool.and_false, Bool.false_and]
      · rw [decide_eq_false q1, Bool.false_and, Bool.false_and]
  rw [← e1, ← e2]
  exact s3
end CPL
