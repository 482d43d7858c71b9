/-! The class looks at comparisons. -/
section CWS
variable {ns : List (List Int)} {us : List Int} {fl : List (List Int × Nat × Int)} {bl : List jB} {z : jL} {el : List (Nat × Nat × Nat × Nat)} {F : Int → Prop} {dn up : Int → Int} {H lc : Nat → Nat} {ty : Nat → Option (Nat → Int)} {th : Nat → Int} {n Q m0 : Nat} {σ : jG} {C : jH} {i : Nat} {x : jC} {u : jQ} {S T : nk_S} {A : jA} {W : Nat → Bool}
/-- one way -/
theorem go_way (hk : kX F th n dn up ns us fl bl z el H lc ty Q) {S S' : nk_S} {A : jA} {W : Nat → Bool} (hI : lkI F dn up ns us fl bl z el H lc ty m0 Q S A W σ C) (hx : z.1[i]? = some x) (hu : A i = some u) (hx2 : 20 ≤ x.1 ∧ x.1 ≤ 29) {rl j : Nat} (hrl : (rl = x.1 ∧ j = x.2.1.toNat) ∨ (rl = ctr x.1 ∧ j = i + 1)) (hg : gOut H lc A W S S' (pWy dn up rl u (H i)) j) : ∃ A' W', lkI F dn up ns us fl bl z el H lc ty m0 Q S' A' W' σ C ∧ aCh th n A W A' W' ∧ mFr S S' ∧ (∀ v, pWy dn up rl u (H i) = some v → ∃ t, A' j = some t ∧ qLe (qRs (lc j) (H j) v) t) ∧ S'.1 92 11 = (if (pWy dn up rl u (H i)).isSome = true then 1 else S.1 92 11) ∧ ∀ f, f ≠ 11 → S'.1 92 f = S.1 92 f := by
  obtain ⟨g1, g2, g3⟩ := hg
  have fr := mFr_g g1
  obtain ⟨t, xb, e, a1, a2, ⟨⟨p1, p2, p3, p4, p5, p6⟩, -, -, -, -, -, ⟨l1, l2, l3, l4, l5⟩, -⟩, hd, hgk, hlk⟩ := lk_at hk hI hx hu
  cases hw : pWy dn up rl u (H i) with
  | none =>
    obtain ⟨b1, b2, b3⟩ := g2 hw
    exact ⟨A, W, ⟨cPv_m hk.1 fr hI.1, cFy_m fr hI.2.1, b2, b3, cGm_1 (fun a h1 h2 => g1.2.1 a (by omega)) hI.2.2.2.2.1, hI.2.2.2.2.2⟩, aCh_rfl, fr, (fun v q => by cases q), b1, g1.2.2.1⟩
  | some v =>
    obtain ⟨b1, c, b2, b3, b4⟩ := g3 v hw
    have hE : pEd (dn, up, (ns, us, fl, bl, z, el), H) σ i x u lc j (qRs (lc j) (H j) v) := by
      refine Or.inr (Or.inl ⟨hx2.1, hx2.2, v, rfl, ?_⟩)
      rcases hrl with ⟨q1, q2⟩ | ⟨q1, q2⟩
      · rw [q1] at hw; exact Or.inl ⟨hw, q2⟩
      · rw [q1] at hw; exact Or.inr ⟨hw, q2⟩
    obtain ⟨d1, d2⟩ := pKd_w hd hx2
    have hvo : vOk F us z (lc i) t v := by
      rcases hrl with ⟨q1, q2⟩ | ⟨q1, q2⟩
      · rw [q1] at hw; exact pWy_ok hk.2.1.1 a2.1 d1 hw
      · rw [q1] at hw; exact pWy_ok hk.2.1.1 a2.1 d2 hw
    obtain ⟨o1, o2, o3, x', t', o4, -⟩ := pIn_arr hk.2.1 hI.2.2.2.2.2.1 hlk hE
    have hj : j < 1024 := by have := at_lt o4; omega
    have hAw := aWf_of hI.2.2.2.2.2.1.1
    obtain ⟨j1, j2⟩ := aCh_arr (W := W) hk.2.2.2.1 hj hI.1.2.2.2.2 hAw (qRs_wf (l := lc j) (g := H j) hvo.1) b4
    refine ⟨_, _, ⟨cPv_m hk.1 fr hI.1, cFy_m fr hI.2.1, b2, b3, cGm_1 (fun a h1 h2 => g1.2.1 a (by omega)) hI.2.2.2.2.1, o1, lnI_arr hI.2.2.2.2.2.2.1 (pEd_I lnP_62 (lnP_48 l4) hI.2.2.2.2.2.2.1.2 (hI.2.2.2.2.2.2.1.1 i u hu) (fun q => by omega) hE), hI.2.2.2.2.2.2.2⟩, j1, fr, fun v' q => ?_, b1, g1.2.2.1⟩
    cases q
    exact o3
theorem qRs_le {l g : Nat} {v w : jQ} (h : qLe v w) : qLe (qRs l g v) (qRs l g w) := fun k => by
  unfold qRs
  split
  · exact h k
  · exact wle_refl _
/-- both ways -/
theorem h_ways (hk : kX F th n dn up ns us fl bl z el H lc ty Q) (hT : lkS F dn up ns us fl bl z el H lc ty m0 Q S A W σ C i u T) (hx : z.1[i]? = some x) (hu : A i = some u) (hx2 : 20 ≤ x.1 ∧ x.1 ≤ 29) {E1 E2 : nk_S → Option (Int × nk_S)} (h1 : ∀ S A W uc, lkI F dn up ns us fl bl z el H lc ty m0 Q S A W σ C → A i = some uc → ∃ S', E1 S = some (0, S') ∧ gOut H lc A W S S' (pWy dn up x.1 uc (H i)) x.2.1.toNat) (h2 : ∀ S A W uc, lkI F dn up ns us fl bl z el H lc ty m0 Q S A W σ C → A i = some uc → ∃ S', E2 S = some (0, S') ∧ gOut H lc A W S S' (pWy dn up (ctr x.1) uc (H i)) (i + 1)) : ∃ S1 S2, E1 T = some (0, S1) ∧ E2 S1 = some (0, S2) ∧ mFr T S1 ∧ lkM F th n dn up ns us fl bl z el H lc ty m0 Q S A W σ C i x u S2 := by
  obtain ⟨t1, t2, t3, t4, t5⟩ := hT
  obtain ⟨S1, e1, g1⟩ := h1 T A W u t2 hu
  obtain ⟨A1, W1, a1, a2, a3, a4, a5, a6⟩ := go_way hk t2 hx hu hx2 (Or.inl ⟨rfl, rfl⟩) g1
  obtain ⟨u1, hu1, hle⟩ := a2.1 i u hu
  obtain ⟨S2, e2, g2⟩ := h2 S1 A1 W1 u1 a1 hu1
  obtain ⟨A2, W2, b1, b2, b3, b4, b5, b6⟩ := go_way hk a1 hx hu1 hx2 (Or.inr ⟨rfl, rfl⟩) g2
  obtain ⟨t, xb, e, c1, c2, -, hd, hg, -⟩ := lk_at hk t2 hx hu
  obtain ⟨t', xb', e', c1', c2', -, hd', -, -⟩ := lk_at hk a1 hx hu1
  have hctr := ctr_b hx2
  obtain ⟨f1, f2⟩ := fd_0 (G := (dn, up, (ns, us, fl, bl, z, el), H)) (σ := σ) (x := x) (h := H i) (u := u) ⟨by omega, by omega, by omega⟩ (pRz_n (by omega))
  refine ⟨S1, S2, e1, e2, a3, A2, W2, σ, C, mFr_trans t1 (mFr_trans a3 b3), b1, aCh_trans a2 b2, gCg_rfl, gLe_refl σ, ?_, ?_, fun j w hE => ?_, fun k => ?_, fun q => by omega⟩
  · rw [← f1, ← f2]
    unfold cRs
    rw [b6 9 (by decide), b6 10 (by decide), a6 9 (by decide), a6 10 (by decide)]
    exact t4
  · refine ⟨(pWy dn up x.1 u (H i)).isSome || (pWy dn up (ctr x.1) u1 (H i)).isSome, ?_, ?_⟩
    · rw [b5, a5, t3]
      cases (pWy dn up x.1 u (H i)).isSome <;> cases (pWy dn up (ctr x.1) u1 (H i)).isSome <;> rfl
    · by_cases ei : A1 i = A i
      · right
        have : u1 = u := by rw [hu, hu1] at ei; cases ei; rfl
        rw [this]
        unfold pMv
        rw [if_pos hx2]
      · exact Or.inl (b2.2.1 i (a2.2.2.1 i ei))
  · rcases hE with ⟨q, -⟩ | ⟨-, -, v, w1, w2⟩ | ⟨q, -⟩ | ⟨q, -⟩
    · exact absurd hx2 q
    · rcases w2 with ⟨w3, w4⟩ | ⟨w3, w4⟩
      · rw [w1, w4]
        obtain ⟨v1, v2, v3⟩ := a4 v w3
        obtain ⟨v4, v5, v6⟩ := b2.1 _ v1 v2
        exact ⟨v4, v5, qLe_trans v3 v6⟩
      · obtain ⟨v', v1, v2⟩ := pWy_mono (u' := u1) hk.2.1.1 hle c2'.1.2.1 c2.1.2.1 c2.1.1 (pKd_w hd' hx2).2 hctr w3
        obtain ⟨v3, v4, v5⟩ := b4 v' v1
        rw [w1, w4]
        exact ⟨v3, v4, qLe_trans (qRs_le v2) v5⟩
    · omega
    · omega
  · rw [pCo_n ⟨by omega, by omega, by omega, by omega, by omega⟩]
    exact oLe_n _
end CWS
