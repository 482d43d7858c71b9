/-! The class looks at instructions that use arrays. -/
section CAY
variable {ns : List (List Int)} {us : List Int} {fl : List (List Int × Nat × Int)} {bl : List jB} {z : jL} {el : List (Nat × Nat × Nat × Nat)} {F : Int → Prop} {dn up : Int → Int} {H lc : Nat → Nat} {ty : Nat → Option (Nat → Int)} {th : Nat → Int} {n Q m0 : Nat} {σ : jG} {C : jH} {i : Nat} {x : jC} {u : jQ} {S T : nk_S} {A : jA} {W : Nat → Bool}
theorem h_aload (hk : kX F th n dn up ns us fl bl z el H lc ty Q) (hT : lkS F dn up ns us fl bl z el H lc ty m0 Q S A W σ C i u T) (hx : z.1[i]? = some x) (hu : A i = some u) (ho : x.1 = 33) : ∃ S1, ja_X4_usesElement 92 33 T = some (bi (pGo (dn, up, (ns, us, fl, bl, z, el), H) σ x (H i) u).isSome, S1) ∧ lkH F th n dn up ns us fl bl z el H lc ty m0 Q S A W σ C i x u S1 := by
  obtain ⟨t1, t2, t3, t4, t5⟩ := hT
  obtain ⟨t, xb, e, a1, a2, ⟨⟨p1, p2, p3, p4, p5, p6⟩, ⟨c1, c2, c3⟩, -, -, -, ⟨d1, d2⟩, ⟨l1, l2, l3, l4, l5⟩, -⟩, hd, hg, hlk⟩ := lk_at hk t2 hx hu
  obtain ⟨k2, k4, kb, ki, kr, krr, k33, -⟩ := hd
  have etk := (tkX_n (bl := bl) (x := x) (by omega))
  have h0 : tkT 33 = 2 ∧ lvT 33 = 1 := by decide +kernel
  obtain ⟨q1, q2, q3⟩ := k33 ho
  rw [tHo_2 ⟨by omega, by omega, by omega, by omega⟩ (by rw [etk.1, ho]; exact h0.1), ho, Bool.and_eq_true] at d1
  have g1 : (decide (t (12 + H i - 2) = 2) || tAr (t (12 + H i - 2))) = true := d1.1
  have har := fun (s : Nat) (hs : s < 54) (h : (u (12 + H i - 2)).2.2.1 s = true) => ar_s hk.2.1 g1 (a2.1.2.2.1 _) hs h
  obtain ⟨tt, ht, hel⟩ : ∃ tt : Int, (tt = 1 ∨ 2 ≤ tt) ∧ elS F us z tt (u (12 + H i - 2)).2.2.1 := by
    by_cases ha : tAr (t (12 + H i - 2)) = true
    · refine ⟨tEl (t (12 + H i - 2)), by have := tEl_nz ha; omega, fun s h1 h2 => ?_⟩
      obtain ⟨r1, r2, r3, r4, r5⟩ := har s h1 h2
      refine ⟨r1, r3, fun v hv => vl1_le hk.2.1 (tV_el (d2 _) ha) r5 hv, ?_⟩
      have n1 := tEl_nz ha
      have n2 := tEl_nz r2
      constructor
      · intro q
        rcases tLe_nz r5 (by omega) with r | r <;> omega
      · intro q
        rcases tLe_nz r5 (by omega) with r | r <;> omega
    · exact ⟨1, Or.inl rfl, fun s h1 h2 => absurd (har s h1 h2).2.2.2.1 ha⟩
  obtain ⟨S1, s1, s2, s3, s4⟩ := c_aload (x := x) (σ := σ) (G := (dn, up, (ns, us, fl, bl, z, el), H)) hk.1 hk.2.1.1 hk.2.2.1 t2.1 hk.2.2.2.2 hg l4 rfl t2.2.2.2.2.1 t4 t5 a2.1 ho q3 q2 q1 ht hel (fun q => by
    cases hq : pDr u (12 + H i - 2) with
    | none => exact absurd hq q
    | some v => exact lnI_ln (t2.2.2.2.2.2.2.1.1 i u hu _) (fun s h1 h2 => (har s h1 h2).2.1) (pDr_st hq))
  obtain ⟨f1, f2⟩ := fd_3 (G := (dn, up, (ns, us, fl, bl, z, el), H)) (σ := σ) (x := x) (h := H i) (u := u) (e0 := 0) (e1 := 1) (e2 := 5) ⟨by decide, by decide, by decide⟩ ⟨by omega, by omega, by omega⟩ (pRz_33 ho)
  refine ⟨S1, s1, lkH_e hk t1 t2 s2 t3 ⟨by omega, by omega, by omega, by omega⟩ (pCo_n ⟨by omega, by omega, by omega, by omega, by omega⟩) ?_ (fun v' hv' => ?_)⟩
  · rw [← f1, ← f2]; exact s3
  · rw [etk.1, etk.2, ho, h0.1, h0.2, show H i - 2 + 1 = H i - 1 by omega]
    exact s4 v' hv'
theorem peG_in {w : Nat → Bool} {q : jW} : ∀ m, gLe σ (peG us z w q σ m) ∧ ∀ s q', s < m → w s = true → pHl us z s q = some q' → oLe (some q') ((peG us z w q σ m).1 (2592 + s)) := by
  intro m
  induction m with
  | zero => exact ⟨gLe_refl σ, fun s q' h => by omega⟩
  | succ m ih =>
    rw [peG]
    by_cases c : w m = true
    · rw [if_pos c]
      cases hp : pHl us z m q with
      | none =>
        refine ⟨ih.1, fun s q' h1 h2 h3 => ?_⟩
        have : s ≠ m := fun e => by rw [e, hp] at h3; cases h3
        exact ih.2 s q' (by omega) h2 h3
      | some q0 =>
        refine ⟨gLe_trans ih.1 (gAd_le _ _ _).1, fun s q' h1 h2 h3 => ?_⟩
        by_cases e : s = m
        · rw [e, hp] at h3
          cases h3
          rw [e]; exact (gAd_le _ _ _).2
        · exact oLe_g (ih.2 s q' (by omega) h2 h3) (gAd_le _ _ _).1
    · rw [if_neg c]
      refine ⟨ih.1, fun s q' h1 h2 h3 => ?_⟩
      have : s ≠ m := fun e => by rw [e] at h2; exact c h2
      exact ih.2 s q' (by omega) h2 h3
theorem peG_ad {G : jZ} {h : Nat} {w : Nat → Bool} {q : jW} : ∀ m, (∀ s q', s < m → w s = true → pHl us z s q = some q' → pCo G σ x h u (2592 + s) = some q') → gAds G σ x h u σ (peG us z w q σ m) := by
  intro m
  induction m with
  | zero => intro _; exact gAds_rfl
  | succ m ih =>
    intro hc
    rw [peG]
    have := ih (fun s q' h1 h2 h3 => hc s q' (by omega) h2 h3)
    by_cases c : w m = true
    · rw [if_pos c]
      cases hp : pHl us z m q with
      | none => exact this
      | some q0 => exact gAds_ad this (hc m q0 (by omega) c hp)
    · rw [if_neg c]; exact this
/-- a value that is put into arrays -/
theorem pu_s (hC : pCx F dn up ns us fl bl z el H lc ty) {t : Nat → Int} {l r v : Nat} (hu : vOk F us z l t u) (g1 : (decide (t r = 2) || tAr (t r)) = true) (g3 : (if t r = 2 then decide (t v ≠ 0) else tLe us (t v) (tEl (t r))) = true) (q0 : (u v).1 ≠ 0) : puS F us z (u v) (u r).2.2.1 := by
  intro s hs hsr
  obtain ⟨r1, el2, r3, ha, el1⟩ := ar_s hC g1 (hu.2.2.1 _) hs hsr
  obtain ⟨hT, hso, hov, huO, h32, h8, hz, -⟩ := hC
  have hne2 : t r ≠ 2 := fun q => by rw [q] at ha; cases ha
  rw [if_neg hne2] at g3
  have n1 := tEl_nz ha
  have n2 := tEl_nz el2
  have iff1 : tEl (sTp z s) = 1 ↔ tEl (t r) = 1 := by
    constructor
    · intro q
      rcases tLe_nz el1 (by omega) with r | r <;> omega
    · intro q
      rcases tLe_nz el1 (by omega) with r | r <;> omega
  have iff2 : (u v).1 = 1 ↔ tEl (t r) = 1 := by
    constructor
    · intro c1
      rcases tLe_nz g3 (by omega) with q | q
      · rcases n1 with r' | r'
        · exact r'
        · exact absurd ((hu.2.2.1 v).2 (by omega)).1 (by omega)
      · exact absurd ((hu.2.2.1 v).2 q.1).1 (by omega)
    · intro c1
      rcases tLe_nz g3 (by omega) with q | q
      · exact (hu.2.2.1 v).1 (by omega)
      · omega
  refine ⟨r1, by omega, iff1.trans iff2.symm, el2, fun q' hq' => ?_⟩
  unfold pHl at hq'
  by_cases c1 : (u v).1 = 1
  · rw [if_pos c1] at hq'
    cases hq'
    have e1 := iff2.mp c1
    rw [iff1.mpr e1]
    have tv : t v = 1 := by
      rcases tLe_nz g3 (by omega) with q | q <;> omega
    rw [← tv]
    exact wBr_v (vOk_1 hu v) q0
  · rw [if_neg c1] at hq'
    split at hq'
    · rename_i hx'
      cases hq'
      obtain ⟨j, -, hj⟩ := sEx_iff.mp hx'
      have : tEl (sTp z s) ≠ 1 := fun q => c1 (iff2.mpr (iff1.mp q))
      refine ⟨u1_S0 ⟨j, hj⟩ (fun s' hs' => ?_) (sV_54 hz) this, rfl, rfl, (by show 2 ≠ 0; decide)⟩
      unfold sAnd sOr at hs'
      rw [Bool.and_eq_true, Bool.or_eq_true] at hs'
      rcases hs'.2 with r | r
      · exact Or.inr r
      · exact Or.inl (onS_eq r)
    · cases hq'
theorem h_astore (hk : kX F th n dn up ns us fl bl z el H lc ty Q) (hT : lkS F dn up ns us fl bl z el H lc ty m0 Q S A W σ C i u T) (hx : z.1[i]? = some x) (hu : A i = some u) (ho : x.1 = 34) : ∃ S1, ja_X4_usesElement 92 34 T = some (bi (pGo (dn, up, (ns, us, fl, bl, z, el), H) σ x (H i) u).isSome, S1) ∧ lkH F th n dn up ns us fl bl z el H lc ty m0 Q S A W σ C i x u S1 := by
  obtain ⟨t1, t2, t3, t4, t5⟩ := hT
  obtain ⟨t, xb, e, a1, a2, ⟨⟨p1, p2, p3, p4, p5, p6⟩, ⟨c1, c2, c3⟩, -, -, -, ⟨d1, d2⟩, ⟨l1, l2, l3, l4, l5⟩, -⟩, hd, hg, hlk⟩ := lk_at hk t2 hx hu
  obtain ⟨k2, k4, kb, ki, kr, krr, k33, k34, -⟩ := hd
  have etk := (tkX_n (bl := bl) (x := x) (by omega))
  have h0 : tkT 34 = 3 ∧ lvT 34 = 0 := by decide +kernel
  obtain ⟨q0, q1, q2, q3⟩ := k34 ho
  rw [tHo_3 ⟨by omega, by omega, by omega, by omega⟩ (by rw [etk.1, ho]; exact h0.1), ho, Bool.and_eq_true, Bool.and_eq_true] at d1
  have g1 : (decide (t (12 + H i - 3) = 2) || tAr (t (12 + H i - 3))) = true := d1.1
  have g3 : (if t (12 + H i - 3) = 2 then decide (t (12 + H i - 1) ≠ 0) else tLe us (t (12 + H i - 1)) (tEl (t (12 + H i - 3)))) = true := d1.2.2
  have har := fun (s : Nat) (hs : s < 54) (h : (u (12 + H i - 3)).2.2.1 s = true) => ar_s hk.2.1 g1 (a2.1.2.2.1 _) hs h
  have kq : (u (12 + H i - 1)).1 = 1 ∨ (u (12 + H i - 1)).1 = 2 := by
    have := wOk_k (a2.1.1 (12 + H i - 1))
    omega
  obtain ⟨S1, C1, s1, s2, s3, s4, s5, s6⟩ := c_astore (th := th) (n := n) (x := x) (σ := σ) (G := (dn, up, (ns, us, fl, bl, z, el), H)) hk.1 hk.2.1.1 hk.2.2.1 hk.2.2.2.1 t2.1 hk.2.2.2.2 l1 hg l4 rfl ⟨rfl, rfl⟩ t2.2.1.1 t2.2.2.2.2.1 t4 t5 a2.1 ho q3 q2 q1 kq (pu_s hk.2.1 a2.1 g1 g3 q0) (fun q => by
    cases hq : pDr u (12 + H i - 3) with
    | none => exact absurd hq q
    | some v => exact lnI_ln (t2.2.2.2.2.2.2.1.1 i u hu _) (fun s h1 h2 => (har s h1 h2).2.1) (pDr_st hq))
  have h5 : pI5 (dn, up, (ns, us, fl, bl, z, el), H) σ u (12 + H i - 3) (12 + H i - 2) (u (12 + H i - 1)) z.2.1.length = pRz (dn, up, (ns, us, fl, bl, z, el), H) σ x (H i) u 5 := by
    unfold pRz
    rw [if_neg (by decide), if_neg (by decide), if_neg (by decide), if_neg (by decide), if_neg (by decide), if_pos rfl, if_pos ho]
    unfold pI5 pI2
    cases hd : pDr u (12 + H i - 3) with
    | none => rfl
    | some v =>
      show ((pIx dn up σ v (12 + H i - 3) (12 + H i - 2)).isSome && _) = (match pIx dn up σ v (12 + H i - 3) (12 + H i - 2) with
        | none => false
        | some _ => _)
      cases hi : pIx dn up σ v (12 + H i - 3) (12 + H i - 2) with
      | none => rfl
      | some v' =>
        show (true && peR us z (u (12 + H i - 3)).2.2.1 (u (12 + H i - 1)) z.2.1.length) = _
        rw [Bool.true_and]
        unfold peR
        congr 1
        exact (exB_54 (by omega) (fun s h1 h2 => by
          have : (u (12 + H i - 3)).2.2.1 s = false := nf_t fun q => by
            have := (har s h2 q).1
            omega
          rw [this, Bool.false_and])).symm
  obtain ⟨f1, f2⟩ := fd_3 (G := (dn, up, (ns, us, fl, bl, z, el), H)) (σ := σ) (x := x) (h := H i) (u := u) (e0 := 0) (e1 := 1) (e2 := 5) ⟨by decide, by decide, by decide⟩ ⟨by omega, by omega, by omega⟩ (pRz_34 ho)
  rw [h5] at s3
  have hco : ∀ k, pCo (dn, up, (ns, us, fl, bl, z, el), H) σ x (H i) u k = oB (pI2 dn up σ u (12 + H i - 3) (12 + H i - 2)) fun _ => if 2592 ≤ k ∧ k < 2646 ∧ (u (12 + H i - 3)).2.2.1 (k - 2592) = true then pHl us z (k - 2592) (u (12 + H i - 1)) else none := fun k => by
    unfold pCo pI2
    rw [if_neg (by omega), if_neg (by omega), if_pos ho]
    cases pDr u (12 + H i - 3) <;> rfl
  obtain ⟨σ1, hσ1⟩ : ∃ σ1, σ1 = (if (pI2 dn up σ u (12 + H i - 3) (12 + H i - 2)).isSome = true then peG us z (u (12 + H i - 3)).2.2.1 (u (12 + H i - 1)) σ z.2.1.length else σ) := ⟨_, rfl⟩
  have s5' : cGm S1 fl bl z σ1 C1 := by rw [hσ1]; exact s5
  have s6' : gCg th n σ σ1 C C1 := by rw [hσ1]; exact s6
  have had : gAds (dn, up, (ns, us, fl, bl, z, el), H) σ x (H i) u σ σ1 ∧ ∀ k, oLe (pCo (dn, up, (ns, us, fl, bl, z, el), H) σ x (H i) u k) (σ1.1 k) := by
    cases hdr : pI2 dn up σ u (12 + H i - 3) (12 + H i - 2) with
    | none =>
      rw [hdr] at hσ1
      have hσ1 : σ1 = σ := hσ1
      rw [hσ1]
      refine ⟨gAds_rfl, fun k => ?_⟩
      rw [hco, hdr]
      exact oLe_n _
    | some v =>
      rw [hdr] at hσ1
      have hσ1 : σ1 = peG us z (u (12 + H i - 3)).2.2.1 (u (12 + H i - 1)) σ z.2.1.length := hσ1
      rw [hσ1]
      refine ⟨peG_ad _ (fun s q' h1 h2 h3 => ?_), fun k => ?_⟩
      · rw [hco, hdr]
        show (if _ then _ else _) = _
        rw [if_pos ⟨by omega, by omega, by rw [show 2592 + s - 2592 = s by omega]; exact h2⟩, show 2592 + s - 2592 = s by omega]
        exact h3
      · rw [hco, hdr]
        show oLe (if _ then _ else _) _
        split
        · rename_i hq
          have hs := (har (k - 2592) (by omega) hq.2.2).1
          intro w hw
          have := (peG_in (us := us) (z := z) (σ := σ) (w := (u (12 + H i - 3)).2.2.1) (q := u (12 + H i - 1)) z.2.1.length).2 (k - 2592) w hs hq.2.2 hw w rfl
          rw [show 2592 + (k - 2592) = k by omega] at this
          exact this
        · exact oLe_n _
  refine ⟨S1, s1, lkH_k hk t1 t2 s2 t3 ⟨by omega, by omega⟩ s5' s6' (gAds_I hk.2.1 t2.2.2.2.2.2.1 t2.2.2.2.2.2.2.1 t2.2.2.2.2.2.2.2 hlk (fun τ hτ => qI_m (fun _ => lnP_m hτ) (t2.2.2.2.2.2.2.1.1 i u hu)) had.1) had.2 (fun q => by omega) ?_ (fun v' hv' => ?_)⟩
  · rw [← f1, ← f2]; exact s3
  · rw [etk.1, etk.2, ho, h0.1, h0.2]
    exact s4 v' hv'
end CAY
