/-! The class looks at instructions that make objects, and that end bodies. -/
section CMA
variable {ns : List (List Int)} {us : List Int} {fl : List (List Int × Nat × Int)} {bl : List jB} {z : jL} {el : List (Nat × Nat × Nat × Nat)} {F : Int → Prop} {dn up : Int → Int} {H lc : Nat → Nat} {ty : Nat → Option (Nat → Int)} {th : Nat → Int} {n Q m0 : Nat} {σ : jG} {C : jH} {i : Nat} {x : jC} {u : jQ} {S T : nk_S} {A : jA} {W : Nat → Bool}
theorem nwG_in {st c : Nat} : ∀ m, gLe σ (nwG us fl st c σ m) ∧ ∀ f y, f < m → fl[f]? = some y → anc us c y.2.1 = true → oLe (some (wNl y.2.2)) ((nwG us fl st c σ m).1 (st * 48 + f)) := by
  intro m
  induction m with
  | zero => exact ⟨gLe_refl σ, fun f y h => by omega⟩
  | succ m ih =>
    rw [nwG]
    cases hy : fl[m]? with
    | none =>
      refine ⟨ih.1, fun f y h1 h2 h3 => ?_⟩
      have : f ≠ m := fun e => by rw [e, hy] at h2; cases h2
      exact ih.2 f y (by omega) h2 h3
    | some y =>
      dsimp only
      by_cases c' : anc us c y.2.1 = true
      · rw [if_pos c']
        refine ⟨gLe_trans ih.1 (gAd_le _ _ _).1, fun f y' h1 h2 h3 => ?_⟩
        by_cases e : f = m
        · rw [e, hy] at h2
          cases h2
          rw [e]; exact (gAd_le _ _ _).2
        · exact oLe_g (ih.2 f y' (by omega) h2 h3) (gAd_le _ _ _).1
      · rw [if_neg c']
        refine ⟨ih.1, fun f y' h1 h2 h3 => ?_⟩
        have : f ≠ m := fun e => by rw [e, hy] at h2; cases h2; exact c' h3
        exact ih.2 f y' (by omega) h2 h3
theorem nwG_ad {G : jZ} {h st c : Nat} : ∀ m, (∀ f y, f < m → fl[f]? = some y → anc us c y.2.1 = true → pCo G σ x h u (st * 48 + f) = some (wNl y.2.2)) → gAds G σ x h u σ (nwG us fl st c σ m) := by
  intro m
  induction m with
  | zero => intro _; exact gAds_rfl
  | succ m ih =>
    intro hc
    rw [nwG]
    have := ih (fun f y h1 h2 => hc f y (by omega) h2)
    cases hy : fl[m]? with
    | none => exact this
    | some y =>
      dsimp only
      by_cases c' : anc us c y.2.1 = true
      · rw [if_pos c']; exact gAds_ad this (hc m y (by omega) hy c')
      · rw [if_neg c']; exact this
theorem h_new (hk : kX F th n dn up ns us fl bl z el H lc ty Q) (hfw : ∀ (f : Nat) (y : List Int × Nat × Int), fl[f]? = some y → 8 ≤ y.2.1 ∧ y.2.1 < 32) (hT : lkS F dn up ns us fl bl z el H lc ty m0 Q S A W σ C i u T) (hx : z.1[i]? = some x) (hu : A i = some u) (ho : x.1 = 30) : ∃ S1, ja_X4_makesObject 92 (i : Int) T = some (bi (pGo (dn, up, (ns, us, fl, bl, z, el), H) σ x (H i) u).isSome, S1) ∧ lkH F th n dn up ns us fl bl z el H lc ty m0 Q S A W σ C i x u S1 := by
  obtain ⟨t1, t2, t3, t4, t5⟩ := hT
  obtain ⟨t, xb, e, a1, a2, ⟨⟨p1, p2, p3, p4, p5, p6⟩, ⟨c1, c2, c3⟩, -, -, -, ⟨d1, d2⟩, ⟨l1, l2, l3, l4, l5⟩, -, y1, y2⟩, hd, hg, hlk⟩ := lk_at hk t2 hx hu
  have etk := (tkX_n (bl := bl) (x := x) (by omega))
  have h0 : tkT 30 = 0 ∧ lvT 30 = 1 := by decide +kernel
  rw [etk.1, etk.2, ho, h0.1, h0.2] at c2
  obtain ⟨-, hso, -, huO, h32, -⟩ := id hk.2.1
  obtain ⟨st, s0, q1, q2, q3⟩ := p1.2.2.2.2.2.2.2.1 (Or.inl ho)
  have hst := at_lt q2
  obtain ⟨c, r1, r2⟩ := p1.2.2.2.1 (by rw [ho]; exact fK_ty.1)
  have hul := un_len hk.2.1 hx
  obtain ⟨S1, C1, v, s1, s2, s3, s4, s5, s6, s7⟩ := c_new (th := th) (n := n) (x := x) (σ := σ) (G := (dn, up, (ns, us, fl, bl, z, el), H)) hk.1 hk.2.1.1 hk.2.2.2.1 t2.1 huO h32 rfl rfl hk.2.2.2.2 hx l1 l4 q1 (by omega) (c := c) (by omega) r1 (fun f y hy => ⟨(hfw f y hy).2, (y1 y (List.mem_of_getElem? hy)).2, wNl_v hk.2.1.1 l4 (y1 y (List.mem_of_getElem? hy)).2⟩) t5 (by omega) ho hg t2.2.2.2.2.1
  obtain ⟨f1, f2⟩ := fd_0 (G := (dn, up, (ns, us, fl, bl, z, el), H)) (σ := σ) (x := x) (h := H i) (u := u) ⟨by omega, by omega, by omega⟩ (pRz_n (by omega))
  have hco : ∀ k, pCo (dn, up, (ns, us, fl, bl, z, el), H) σ x (H i) u k = if k < 2592 ∧ k / 48 = st then oB (fl[k % 48]?) (fun y => if anc us c y.2.1 = true then some (wNl y.2.2) else none) else none := fun k => by
    unfold pCo
    rw [if_pos ho, q1, r1, Int.toNat_natCast, Int.toNat_natCast]
  have had : gAds (dn, up, (ns, us, fl, bl, z, el), H) σ x (H i) u σ (nwG us fl st c σ fl.length) ∧ ∀ k, oLe (pCo (dn, up, (ns, us, fl, bl, z, el), H) σ x (H i) u k) ((nwG us fl st c σ fl.length).1 k) := by
    refine ⟨nwG_ad _ (fun f y h1 h2 h3 => ?_), fun k => ?_⟩
    · rw [hco, if_pos ⟨by omega, by omega⟩, show (st * 48 + f) % 48 = f by omega, h2]
      show (if _ then _ else _) = _
      rw [if_pos h3]
    · rw [hco]
      split
      · rename_i hq
        cases hy : fl[k % 48]? with
        | none => exact oLe_n _
        | some y =>
          show oLe (if _ then _ else _) _
          split
          · rename_i ha
            have := (nwG_in (us := us) (fl := fl) (st := st) (c := c) (σ := σ) fl.length).2 (k % 48) y (at_lt hy) hy ha
            rw [show st * 48 + k % 48 = k by omega] at this
            exact this
          · exact oLe_n _
      · exact oLe_n _
  refine ⟨S1, by rw [s4]; exact s1, lkH_k hk t1 t2 s2 t3 ⟨by omega, by omega⟩ s6 s7 (gAds_I hk.2.1 t2.2.2.2.2.2.1 t2.2.2.2.2.2.2.1 t2.2.2.2.2.2.2.2 hlk (fun τ hτ => qI_m (fun _ => lnP_m hτ) (t2.2.2.2.2.2.2.1.1 i u hu)) had.1) had.2 (fun q => by omega) ?_ (fun v' hv' => ?_)⟩
  · rw [← f1, ← f2]; exact s3 _ _ t4
  · rw [s4] at hv'
    cases hv'
    rw [etk.1, etk.2, ho, h0.1, h0.2]
    exact s5
theorem h_array (hk : kX F th n dn up ns us fl bl z el H lc ty Q) (hT : lkS F dn up ns us fl bl z el H lc ty m0 Q S A W σ C i u T) (hx : z.1[i]? = some x) (hu : A i = some u) (ho : x.1 = 31) : ∃ S1, ja_X4_makesArray 92 (i : Int) T = some (bi (pGo (dn, up, (ns, us, fl, bl, z, el), H) σ x (H i) u).isSome, S1) ∧ lkH F th n dn up ns us fl bl z el H lc ty m0 Q S A W σ C i x u S1 := by
  obtain ⟨t1, t2, t3, t4, t5⟩ := hT
  obtain ⟨t, xb, e, a1, a2, ⟨⟨p1, p2, p3, p4, p5, p6⟩, ⟨c1, c2, c3⟩, -, -, -, ⟨d1, d2⟩, ⟨l1, l2, l3, l4, l5⟩, -, y1, y2⟩, hd, hg, hlk⟩ := lk_at hk t2 hx hu
  obtain ⟨k2, k4, kb, ki, -⟩ := hd
  have etk := (tkX_n (bl := bl) (x := x) (by omega))
  have h0 : tkT 31 = 1 ∧ lvT 31 = 1 := by decide +kernel
  obtain ⟨g1, g2⟩ := ki (by omega)
  obtain ⟨st, s0, q1, q2, q3⟩ := p1.2.2.2.2.2.2.2.1 (Or.inr ho)
  have hst := at_lt q2
  have hty := (p1.2.2.2.2.1 (Or.inl (by rw [ho]; exact fK_ty.2.1))).2 (by rw [ho]; exact fK_ty.2.1)
  have ht2 : x.2.1 = 1 ∨ 2 ≤ x.2.1 := by
    rcases hty with r | ⟨c, -, r⟩ <;> omega
  have est : sTp z st = s0 := by unfold sTp; rw [if_pos hst, List.getD_eq_getElem?_getD, q2, Option.getD_some]
  have hte : tEl (sTp z st) = x.2.1 := by
    unfold sTy at q3
    rw [if_neg (by omega), if_pos ho] at q3
    have q3 : s0 = if x.2.1 = 1 then 3 else x.2.1 + 1 := by simpa using q3
    rw [est]
    rcases hty with r | ⟨c, r1, r2⟩
    · rw [if_pos r] at q3
      rw [q3, r]; rfl
    · rw [if_neg (by omega)] at q3
      unfold tEl
      rw [if_neg (by omega)]
      omega
  have hr := (wOk_1 (a2.1.1 (12 + H i - 1)) g1).1
  have hF0 : F 0 := hk.2.1.1.2.2.2.1
  obtain ⟨S1, C1, s1, s2, s3, s4, s5, s6⟩ := c_array (th := th) (n := n) (x := x) (σ := σ) (G := (dn, up, (ns, us, fl, bl, z, el), H)) hk.1 hk.2.1.1 hk.2.2.2.1 t2.1 hk.2.2.2.2 hx l1 l2 l4 hg t2.2.2.2.2.1 t4 t5 a2.1 ho g1 g2 q1 hst hte ht2 (fun hh => by
    have hr2 := hr.2.2
    exact ⟨u1_R0 ⟨(mm_F hr.1 hF0).1, hr.2.1, by dsimp only; omega⟩, rfl, rfl, (by show 1 ≠ 0; decide)⟩) (wNl_v hk.2.1.1 l4 ht2)
  obtain ⟨f1, f2⟩ := fd_1 (G := (dn, up, (ns, us, fl, bl, z, el), H)) (σ := σ) (x := x) (h := H i) (u := u) (e0 := 2) (by decide) ⟨by omega, by omega, by omega⟩ (pRz_31 ho)
  have hco : ∀ k, pCo (dn, up, (ns, us, fl, bl, z, el), H) σ x (H i) u k = if (u (12 + H i - 1)).2.1.2 < 0 then none else if k = 2646 + st then some (wR (max (u (12 + H i - 1)).2.1.1 0, (u (12 + H i - 1)).2.1.2)) else if k = 2592 + st then some (wNl x.2.1) else none := fun k => by
    unfold pCo
    rw [if_neg (by omega), if_pos ho, q1, Int.toNat_natCast]
  have had : gAds (dn, up, (ns, us, fl, bl, z, el), H) σ x (H i) u σ (arG σ st (u (12 + H i - 1)).2.1 x.2.1) ∧ ∀ k, oLe (pCo (dn, up, (ns, us, fl, bl, z, el), H) σ x (H i) u k) ((arG σ st (u (12 + H i - 1)).2.1 x.2.1).1 k) := by
    unfold arG
    by_cases hn : (u (12 + H i - 1)).2.1.2 < 0
    · rw [if_pos hn]
      exact ⟨gAds_rfl, fun k => by rw [hco, if_pos hn]; exact oLe_n _⟩
    · rw [if_neg hn]
      refine ⟨gAds_ad (gAds_ad gAds_rfl (by rw [hco, if_neg hn, if_pos rfl])) (by rw [hco, if_neg hn, if_neg (by omega), if_pos rfl]), fun k => ?_⟩
      rw [hco, if_neg hn]
      split
      · rename_i e
        rw [e]
        exact oLe_g (gAd_le _ _ _).2 (gAd_le _ _ _).1
      · split
        · rename_i e
          rw [e]
          exact (gAd_le _ _ _).2
        · exact oLe_n _
  refine ⟨S1, s1, lkH_k hk t1 t2 s2 t3 ⟨by omega, by omega⟩ s5 s6 (gAds_I hk.2.1 t2.2.2.2.2.2.1 t2.2.2.2.2.2.2.1 t2.2.2.2.2.2.2.2 hlk (fun τ hτ => qI_m (fun _ => lnP_m hτ) (t2.2.2.2.2.2.2.1.1 i u hu)) had.1) had.2 (fun q => by omega) ?_ (fun v' hv' => ?_)⟩
  · rw [← f1, ← f2]; exact s3
  · rw [etk.1, etk.2, ho, h0.1, h0.2, show H i - 1 + 1 = H i by omega]
    exact s4 v' hv'
theorem cRs_sf {S S' : nk_S} {r l : Nat → Bool} (h : sFr S S') (k : cRs S r l) : cRs S' r l := by
  unfold cRs
  rw [h.2 92 (by omega)]
  exact k
theorem h_give (hk : kX F th n dn up ns us fl bl z el H lc ty Q) (hT : lkS F dn up ns us fl bl z el H lc ty m0 Q S A W σ C i u T) (hx : z.1[i]? = some x) (hu : A i = some u) (ho : x.1 = 42) : ∃ S1, ja_X4_endsBody 92 (i : Int) 42 T = some (bi (pGo (dn, up, (ns, us, fl, bl, z, el), H) σ x (H i) u).isSome, S1) ∧ lkH F th n dn up ns us fl bl z el H lc ty m0 Q S A W σ C i x u S1 := by
  obtain ⟨t1, t2, t3, t4, t5⟩ := hT
  obtain ⟨t, xb, e, a1, a2, ⟨⟨p1, p2, p3, p4, p5, p6⟩, ⟨c1, c2, c3⟩, -, -, -, ⟨d1, d2⟩, ⟨l1, l2, l3, l4, l5⟩, -, y1, y2⟩, hd, hg, hlk⟩ := lk_at hk t2 hx hu
  obtain ⟨k2, k4, kb, ki, kr, krr, k33, k34, k36, kc, k40, k42⟩ := hd
  have etk := (tkX_n (bl := bl) (x := x) (by omega))
  rw [tHo_1 ⟨by omega, by omega, by omega, by omega⟩ (by rw [etk.1, ho]; exact tk_sp.2.2.2.2.2.2), ho] at d1
  have g1 : (decide (xb.rs ≠ -1) && tLe us (t (12 + H i - 1)) xb.rs) = true := d1
  rw [Bool.and_eq_true] at g1
  have hrs := of_decide_eq_true g1.1
  have hty := (y2 xb (List.mem_of_getElem? p3)).resolve_left hrs
  obtain ⟨-, hso, -, huO, h32, -⟩ := id hk.2.1
  obtain ⟨v1, v2, v3⟩ := vOk_1 a2.1 (12 + H i - 1)
  obtain ⟨q0, q1⟩ := k42 ho
  have hvl : vl1 F us z xb.rs (wBr (u (12 + H i - 1))) := wBr_v ⟨v1, wTy_le huO h32 hso hty.1 g1.2 v2, v3⟩ q0
  obtain ⟨S1, C1, s1, s2, s3, s4⟩ := c_gives (th := th) (n := n) (x := x) (σ := σ) (G := (dn, up, (ns, us, fl, bl, z, el), H)) hk.1 hk.2.1.1 hk.2.2.2.1 t2.1 hk.2.2.2.2 hx l1 l2 l4 rfl hg t2.2.2.2.2.1 t5 q1 p3 hty.2 hvl
  obtain ⟨f1, f2⟩ := fd_0 (G := (dn, up, (ns, us, fl, bl, z, el), H)) (σ := σ) (x := x) (h := H i) (u := u) ⟨by omega, by omega, by omega⟩ (pRz_n (by omega))
  have hgo : pGo (dn, up, (ns, us, fl, bl, z, el), H) σ x (H i) u = none := pGo_n (by omega)
  have hco : ∀ k, pCo (dn, up, (ns, us, fl, bl, z, el), H) σ x (H i) u k = if k = 2700 + x.2.2.2.1 then some (wBr (u (12 + H i - 1))) else none := fun k => by
    unfold pCo
    rw [if_neg (by omega), if_neg (by omega), if_neg (by omega), if_neg (by omega), if_pos ho]
  obtain ⟨b1, b2, b3, b4⟩ := gAds_I hk.2.1 t2.2.2.2.2.2.1 t2.2.2.2.2.2.2.1 t2.2.2.2.2.2.2.2 hlk (fun τ hτ => qI_m (fun _ => lnP_m hτ) (t2.2.2.2.2.2.2.1.1 i u hu)) (gAds_ad gAds_rfl (k := 2700 + x.2.2.2.1) (w := wBr (u (12 + H i - 1))) (by rw [hco, if_pos rfl]))
  have hin := (gAd_le σ (2700 + x.2.2.2.1) (wBr (u (12 + H i - 1)))).2
  refine ⟨S1, by rw [hgo]; exact s1, lkH_k hk t1 t2 (kFr_s s2) t3 ⟨by omega, by omega⟩ s3 s4 ⟨pIn_en hk.2.1 b1 hlk (Or.inl ho) (fun y _ _ => ?_), lnI_en b2 _, b3, gLe_trans b4 (gEn_le _ _)⟩ (fun k => ?_) (fun _ => ?_) ?_ (fun v' hv' => by rw [hgo] at hv'; cases hv')⟩
  · obtain ⟨w, w1, -⟩ := hin _ rfl
    rw [w1]
    exact fun q => by cases q
  · rw [hco]
    split
    · rename_i e
      rw [e]; exact hin
    · exact oLe_n _
  · unfold gEn; dsimp only; rw [if_pos rfl]
  · rw [← f1, ← f2]; exact cRs_sf s2 t4
theorem h_back (hk : kX F th n dn up ns us fl bl z el H lc ty Q) (hT : lkS F dn up ns us fl bl z el H lc ty m0 Q S A W σ C i u T) (hx : z.1[i]? = some x) (hu : A i = some u) (ho : x.1 = 43) : ∃ S1, ja_X4_endsBody 92 (i : Int) 43 T = some (bi (pGo (dn, up, (ns, us, fl, bl, z, el), H) σ x (H i) u).isSome, S1) ∧ lkH F th n dn up ns us fl bl z el H lc ty m0 Q S A W σ C i x u S1 := by
  obtain ⟨t1, t2, t3, t4, t5⟩ := hT
  obtain ⟨t, xb, e, a1, a2, ⟨⟨p1, p2, p3, p4, p5, p6⟩, ⟨c1, c2, c3⟩, -, -, -, ⟨d1, d2⟩, ⟨l1, l2, l3, l4, l5⟩, -, y1, y2⟩, hd, hg, hlk⟩ := lk_at hk t2 hx hu
  have hrs : xb.rs = -1 := by
    unfold tHo at d1
    rw [if_neg (by omega), if_neg (by omega), if_pos ho] at d1
    exact of_decide_eq_true d1
  obtain ⟨S1, C1, s1, s2, s3, s4⟩ := c_backs (th := th) (n := n) (x := x) (σ := σ) hk.1 t2.1 hk.2.2.2.2 hx l1 l2 l4 t2.2.2.2.2.1 p3 (by omega)
  obtain ⟨f1, f2⟩ := fd_0 (G := (dn, up, (ns, us, fl, bl, z, el), H)) (σ := σ) (x := x) (h := H i) (u := u) ⟨by omega, by omega, by omega⟩ (pRz_n (by omega))
  have hgo : pGo (dn, up, (ns, us, fl, bl, z, el), H) σ x (H i) u = none := pGo_n (by omega)
  refine ⟨S1, by rw [hgo]; exact s1, lkH_k hk t1 t2 (kFr_s s2) t3 ⟨by omega, by omega⟩ s3 s4 ⟨pIn_en hk.2.1 t2.2.2.2.2.2.1 hlk (Or.inr ho) (fun y hy hr => ?_), lnI_en t2.2.2.2.2.2.2.1 _, t2.2.2.2.2.2.2.2, gEn_le _ _⟩ (fun k => ?_) (fun _ => ?_) ?_ (fun v' hv' => by rw [hgo] at hv'; cases hv')⟩
  · rw [p3] at hy
    cases hy
    exact absurd hrs hr
  · rw [pCo_n ⟨by omega, by omega, by omega, by omega, by omega⟩]
    exact oLe_n _
  · unfold gEn; dsimp only; rw [if_pos rfl]
  · rw [← f1, ← f2]; exact cRs_sf s2 t4
end CMA
