/-! The reference's look: comparisons. -/
section RWS
variable {ns : List (List Int)} {us : List Int} {fl : List (List Int × Nat × Int)} {bl : List jB} {z : jL} {el : List (Nat × Nat × Nat × Nat)} {F : Int → Prop} {dn up : Int → Int} {H lc : Nat → Nat} {ty : Nat → Option (Nat → Int)} {th : Nat → Int} {n P m0 : Nat} {σ σ0 : jG} {i : Nat} {x : jC} {u : jQ} {S : nk_S} {A R : jA} {D : Nat → Bool}
theorem ctr_26 : ∀ o : Nat, o < 46 → 20 ≤ o ∧ o ≤ 29 → (ctr o = 26 ∨ ctr o = 27 ↔ o = 26 ∨ o = 27) := by decide +kernel
/-- one way -/
theorem r_way1 (hk : rKx F th n dn up ns us fl bl z el H lc ty P) (hI : rkI F dn up ns us fl bl z el H lc ty m0 P S A D σ R) (hx : z.1[i]? = some x) (hu : A i = some u) (hx2 : 20 ≤ x.1 ∧ x.1 ≤ 29) {rl j : Nat} (hrl : (rl = x.1 ∧ j = x.2.1.toNat) ∨ (rl = ctr x.1 ∧ j = i + 1)) : ∃ Sa S1 S2 A' D', ja_X13_fetch 121 P (i : Int) S = some (0, Sa) ∧ ja_X13_way 121 P (rl : Int) Sa = some (bi (pWy dn up rl u (H i)).isSome, S1) ∧ ((pWy dn up rl u (H i) = none ∧ S2 = S1) ∨ ((pWy dn up rl u (H i)).isSome = true ∧ ja_X13_goOn 121 P (j : Int) S1 = some (0, S2))) ∧ S1.1 (P + 16) i = rA x ∧ miF P S S2 ∧ rkI F dn up ns us fl bl z el H lc ty m0 P S2 A' D' σ R ∧ aCh th n A D A' D' ∧ aCg th n S A S2 A' ∧ S2.1 121 37 = S.1 121 37 ∧ S2.1 121 38 = (if (pWy dn up rl u (H i)).isSome = true then 1 else S.1 121 38) ∧ S2.1 121 39 = S.1 121 39 ∧ S2.1 121 40 = S.1 121 40 ∧ ∀ v, pWy dn up rl u (H i) = some v → ∃ t, A' j = some t ∧ qLe (qRs (lc j) (H j) v) t := by
  have hP := hk.1
  obtain ⟨t, xb, e, a1, a2, hp, hd, hg, hlk⟩ := rk_at hk hI hx hu
  obtain ⟨⟨p1, p2, p3, p4, p5, p6⟩, ⟨c1, c2, c3⟩, pf, pj, -, -, ⟨l1, l2, l3, l4, l5⟩, -, -⟩ := id hp
  obtain ⟨S1, s1, s2, s3, s4, s5⟩ := r_fetch (F := F) hP p2 c3 a2.1.1 hI.2.1 hu (hI.1.2 i t a1)
  have n1 : uFr S S1 := ⟨s2, s3, s4⟩
  have I1 := rkI_n hP (nFr_u n1) hI
  obtain ⟨n', t1, t2⟩ := rk_t hk I1.1
  have htk := (tk_tabs x.1 p1.1).2 hx2
  have hkx := tkX_n (bl := bl) (x := x) (by omega)
  have h26 := ctr_26 x.1 p1.1 hx2
  have hcb := ctr_b hx2
  obtain ⟨d1, d2⟩ := pKd_w hd hx2
  have hrb : (20 ≤ rl ∧ rl ≤ 29) ∧ pKw rl (H i) u ∧ (rl = 26 ∨ rl = 27 ↔ x.1 = 26 ∨ x.1 = 27) := by
    rcases hrl with ⟨q, -⟩ | ⟨q, -⟩
    · rw [q]; exact ⟨hx2, d1, Iff.rfl⟩
    · rw [q]; exact ⟨hcb, d2, h26⟩
  have hif : (if rl = 26 ∨ rl = 27 then 1 else 2) = tkX bl x := by
    rw [hkx.1, htk.1]
    by_cases c : x.1 = 26 ∨ x.1 = 27
    · rw [if_pos c, if_pos (hrb.2.2.mpr c)]
    · rw [if_neg c, if_neg (fun q => c (hrb.2.2.mp q))]
  obtain ⟨S2, g1, g2, g3⟩ := r_way (S := S1) hP hk.2.1.1 t1 t2 hrb.1 a2.1 hrb.2.1 c3 (by rw [hif]; exact c1) s5
  have n2 := uFr_trans n1 g2
  have I2 := rkI_n hP (nFr_u n2) hI
  have hjj : H j = H i - tkX bl x ∧ lc j = lc i := by
    have hlv : lvX bl x = 0 := by rw [hkx.2]; exact htk.2
    rcases hrl with ⟨-, q⟩ | ⟨-, q⟩
    · obtain ⟨g, g1, g2, g3, g4⟩ := pj (by omega)
      rw [g1, Int.toNat_natCast] at q
      rw [q, g2, hlv]
      exact ⟨rfl, g3⟩
    · obtain ⟨g1, g2, g3⟩ := pf (fal_y (by omega))
      rw [q, g1, hlv]
      exact ⟨rfl, g2⟩
  obtain ⟨j1, j2⟩ := hjj
  cases hw : pWy dn up rl u (H i) with
  | none =>
    refine ⟨S1, S2, S2, A, D, s1, by rw [g1, hw], Or.inl ⟨rfl, rfl⟩, (rk_op I2 hx).2.1, miF_u n2, I2, aCh_rfl, Or.inl ⟨n2.2.2 36 (by decide), rfl⟩, n2.2.2 37 (by decide), n2.2.2 38 (by decide), n2.2.2 39 (by decide), n2.2.2 40 (by decide), fun v q => by cases q⟩
  | some v =>
    have hE : pEd (dn, up, (ns, us, fl, bl, z, el), H) σ i x u lc j (qRs (lc j) (H j) v) := by
      refine Or.inr (Or.inl ⟨hx2.1, hx2.2, v, rfl, ?_⟩)
      rcases hrl with ⟨q1, q2⟩ | ⟨q1, q2⟩
      · rw [q1] at hw; exact Or.inl ⟨hw, q2⟩
      · rw [q1] at hw; exact Or.inr ⟨hw, q2⟩
    have hvo := pWy_ok hk.2.1.1 a2.1 hrb.2.1 hw
    have hqi := hI.2.2.2.2.2.2.1.1 i u hu
    have hr := g3 v hw
    have e12 : 12 + H i - (if rl = 26 ∨ rl = 27 then 1 else 2) = 12 + H j := by rw [hif, j1]; exact Nat.add_sub_assoc c1 12
    rw [e12] at hr
    obtain ⟨S', A', D', w1, w2, w3, w4, w5, w6, w7⟩ := rk_on hk I2 hlk hE (pWy_I hqi hw) hvo.1 (fun k k1 k2 => by
      rw [j2] at k1
      refine pWy_lc (l := lc i) a2.1.2.1 (fun q => ?_) k1 k2 (a2.2 k (by unfold rel; omega)) hw
      rw [if_neg (by omega)] at hif
      omega) hr.2
    refine ⟨S1, S2, S', A', D', s1, by rw [g1, hw], Or.inr ⟨rfl, w1⟩, (rk_op I2 hx).2.1, miF_trans (miF_u n2) (miF_o w2), w4, w5, ?_, by rw [w2.2.2 37 (by decide) (by decide), n2.2.2 37 (by decide)], by rw [w3]; rfl, by rw [w2.2.2 39 (by decide) (by decide), n2.2.2 39 (by decide)], by rw [w2.2.2 40 (by decide) (by decide), n2.2.2 40 (by decide)], fun v' q => ?_⟩
    · unfold aCg at w6 ⊢
      rw [n2.2.2 36 (by decide)] at w6
      exact w6
    · cases q
      exact w7
/-- both ways -/
theorem r_ways (hk : rKx F th n dn up ns us fl bl z el H lc ty P) (hI : rkI F dn up ns us fl bl z el H lc ty m0 P S A D σ R) (hx : z.1[i]? = some x) (hu : A i = some u) (hx2 : 20 ≤ x.1 ∧ x.1 ≤ 29) (h38 : S.1 121 38 = 0) (h39 : S.1 121 39 = 0) (h40 : S.1 121 40 = 0) : ∃ S2, (nk_bd (ja_X13_fetch 121 P (i : Int) S) fun _ S12 => nk_bd (ja_X13_way 121 P (x.1 : Int) S12) fun r14 S15 => if r14 = 0 then ja_X13_look_b65 121 P (i : Int) (x.1 : Int) 256 S15 else nk_bd (ja_X13_goOn 121 P (S15.1 (ja_c P 23) (i : Int).toNat) S15) fun _ S19 => ja_X13_look_b65 121 P (i : Int) (x.1 : Int) 256 S19) = ja_X13_look_L207 nk_big 121 P (i : Int) 256 0 S2 ∧ rkM F th n dn up ns us fl bl z el H lc ty m0 P S A D σ R i x u S2 := by
  have hP := hk.1
  obtain ⟨t, xb, e, a1, a2, hp, hd, hg, hlk⟩ := rk_at hk hI hx hu
  obtain ⟨⟨p1, p2, p3, p4, p5, p6⟩, -, -, pj, -⟩ := id hp
  obtain ⟨g, g1, g2, g3, g4⟩ := pj (by omega)
  obtain ⟨Sa, S1, S2, A', D', b1, b2, b3, b4, b5, b6, b7, b8, b9, b10, b11, b12, b13⟩ := r_way1 hk hI hx hu hx2 (Or.inl ⟨rfl, rfl⟩)
  obtain ⟨u1, hu1, hle⟩ := b7.1 i u hu
  obtain ⟨Sb, S3, S4, A2, D2, d1, d2, d3, d4, d5, d6, d7, d8, d9, d10, d11, d12, d13⟩ := r_way1 (R := R) hk b6 hx hu1 hx2 (Or.inr ⟨rfl, rfl⟩)
  obtain ⟨t', xb', e', k1, k2, -, hd', -, -⟩ := rk_at hk b6 hx hu1
  have era : rA x = (x.2.1.toNat : Int) := by unfold rA; rw [if_neg (by omega), if_neg (by omega), g1]; rfl
  have two : ja_X13_look_b65 121 P (i : Int) (x.1 : Int) 256 S2 = ja_X13_look_L207 nk_big 121 P (i : Int) 256 0 S4 := by
    unfold ja_X13_look_b65
    rw [d1, bd_some, r_contrary hx2, bd_some, d2, bd_some]
    rcases d3 with ⟨q1, q2⟩ | ⟨q1, q2⟩
    · rw [q1, if_pos (show bi (none : Option jQ).isSome = 0 from rfl), q2]
    · rw [q1, if_neg (show ¬ bi true = 0 by decide), w_nat1 (by omega), q2, bd_some]
  refine ⟨S4, ?_, A2, D2, σ, R, miF_trans b5 d5, d6, aCh_trans b7 d7, aCg_trans b8 d8, Or.inl ⟨by rw [d9, b9], rfl, rfl⟩, gLe_refl σ, aLe_refl R, ?_, ?_, ?_, fun j w hE => ?_, fun j w hE => ?_, fun k => ?_, fun q => by omega⟩
  · rw [b1, bd_some, b2, bd_some]
    rcases b3 with ⟨q1, q2⟩ | ⟨q1, q2⟩
    · rw [q1, if_pos (show bi (none : Option jQ).isSome = 0 from rfl), ← q2, two]
    · rw [q1, if_neg (show ¬ bi true = 0 by decide), (jc_Pc hP).2.1, Int.toNat_natCast, b4, era, q2, bd_some, two]
  · rw [d11, b11, h39]
    refine cI_e cI_0 (fun e => ?_)
    show false = rzS _ _ _ _ _ e
    unfold rzS
    by_cases c : e < 6
    · rw [pRz_n (by omega) e c, Bool.and_false]
    · rw [decide_eq_false c, Bool.false_and]
  · rw [d12, b12, h40, pTh_n (by omega)]
    exact cV_0
  · refine ⟨(pWy dn up x.1 u (H i)).isSome || (pWy dn up (ctr x.1) u1 (H i)).isSome, ?_, ?_⟩
    · rw [d10, b10, h38]
      cases (pWy dn up x.1 u (H i)).isSome <;> cases (pWy dn up (ctr x.1) u1 (H i)).isSome <;> rfl
    · by_cases ei : A' i = A i
      · right
        have : u1 = u := by rw [hu, hu1] at ei; cases ei; rfl
        rw [this]
        unfold pMv
        rw [if_pos hx2]
      · exact Or.inl (d7.2.1 i (b7.2.2.1 i ei))
  · right
    rcases hE with ⟨q, -⟩ | ⟨-, -, v, w1, w2⟩ | ⟨q, -⟩ | ⟨q, -⟩
    · exact absurd hx2 q
    · rcases w2 with ⟨w3, w4⟩ | ⟨w3, w4⟩
      · rw [w1, w4]
        obtain ⟨v1, v2, v3⟩ := b13 v w3
        obtain ⟨v4, v5, v6⟩ := d7.1 _ v1 v2
        exact ⟨v4, v5, qLe_trans v3 v6⟩
      · obtain ⟨v', v1, v2⟩ := pWy_mono (u' := u1) hk.2.1.1 hle k2.1.2.1 a2.1.2.1 a2.1.1 (pKd_w hd' hx2).2 (ctr_b hx2) w3
        obtain ⟨t2, t3, t4⟩ := d13 v' v1
        rw [w1, w4]
        exact ⟨t2, t3, qLe_trans (qRs_le v2) t4⟩
    · omega
    · omega
  · rcases hE with ⟨q, -⟩ | ⟨q, -⟩ <;> omega
  · rw [pCo_n (by omega)]
    exact oLe_n _
end RWS
