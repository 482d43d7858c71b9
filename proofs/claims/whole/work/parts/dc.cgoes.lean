/-! The class looks at an instruction: it goes on. -/
/-- an instruction's work is done; it may go on now -/
def lkH (F : Int → Prop) (th : Nat → Int) (n : Nat) (dn up : Int → Int) (ns : List (List Int)) (us : List Int) (fl : List (List Int × Nat × Int)) (bl : List jB) (z : jL) (el : List (Nat × Nat × Nat × Nat)) (H lc : Nat → Nat) (ty : Nat → Option (Nat → Int)) (m0 Q : Nat) (S : nk_S) (A : jA) (W : Nat → Bool) (σ : jG) (C : jH) (i : Nat) (x : jC) (u : jQ) (S' : nk_S) : Prop := ∃ A' W' σ' C', mFr S S' ∧ lkI F dn up ns us fl bl z el H lc ty m0 Q S' A' W' σ' C' ∧ aCh th n A W A' W' ∧ gCg th n σ σ' C C' ∧ gLe σ σ' ∧ cRs S' (pFd (dn, up, (ns, us, fl, bl, z, el), H) σ x (H i) u) (pLs (dn, up, (ns, us, fl, bl, z, el), H) σ x (H i) u) ∧ S'.1 92 11 = 0 ∧ (∀ j w, pE0 (dn, up, (ns, us, fl, bl, z, el), H) σ i x u lc j w → x.1 = 39 ∨ x.1 = 40 → (∃ v, pGo (dn, up, (ns, us, fl, bl, z, el), H) σ x (H i) u = some v ∧ j = i + 1 ∧ w = qRs (lc j) (H j) v) ∨ ∃ t, A' j = some t ∧ qLe w t) ∧ (∀ k, oLe (pCo (dn, up, (ns, us, fl, bl, z, el), H) σ x (H i) u k) (σ'.1 k)) ∧ (x.1 = 42 ∨ x.1 = 43 → σ'.2.1 x.2.2.2.1 = true) ∧ ∀ v, pGo (dn, up, (ns, us, fl, bl, z, el), H) σ x (H i) u = some v → cRw (lc i) (H i - tkX bl x + lvX bl x) S' v
section CGS
variable {ns : List (List Int)} {us : List Int} {fl : List (List Int × Nat × Int)} {bl : List jB} {z : jL} {el : List (Nat × Nat × Nat × Nat)} {F : Int → Prop} {dn up : Int → Int} {H lc : Nat → Nat} {ty : Nat → Option (Nat → Int)} {th : Nat → Int} {n Q m0 : Nat} {σ : jG} {C : jH} {i : Nat} {x : jC} {u : jQ} {S : nk_S} {A : jA} {W : Nat → Bool}
theorem pGo_w (h : pCx F dn up ns us fl bl z el H lc ty) (hσ : gOk F us fl bl z σ) (hx : z.1[i]? = some x) {t : Nat → Int} (ht : ty i = some t) (hu : vOk F us z (lc i) t u) {v : jQ} (hv : pGo (dn, up, (ns, us, fl, bl, z, el), H) σ x (H i) u = some v) : ∀ k, wOk F (v k) := by
  obtain ⟨hd, hV⟩ := pCx_at h hx ht hu
  obtain ⟨hT, hs, hov, huO, h32, h8, hz, hin, hbd, hop⟩ := h
  obtain ⟨xb, e, M, X, b1, b2, b3, b4, b5, b6, b7, b8, b9⟩ := hin i x hx
  obtain ⟨e1, e2, e3⟩ := b6 i b3 b4
  rw [e3] at ht
  obtain ⟨o1, o2, o3, o4⟩ := b7.1 i t ht
  have hho := b9 i t x ht hx
  obtain ⟨p0, p37, p40, p8⟩ := hop i x hx
  rw [e2] at hu
  have a2' : pGo (dn, up, (ns, us, fl, bl, z, el), H) σ x (hgt (M i)) u = some v := by rw [← e1]; exact hv
  obtain ⟨t', c1, c2⟩ := pGo_ok hT b5 hs hov hσ b3 b4 hx o3 p0 (fun q => p37 (Or.inl q)) hV hu hho (by rw [← e1]; exact hd) a2'
  exact c2.1
theorem lnP_ev {s : Nat} (h : tAr (sTp z s) = false) : lnP z σ s := fun q => by rw [h] at q; cases q
/-- the site of a new object or array -/
theorem site_ln {a b : Nat} {l : Int} (h : cW ns us fl bl z.2.1 a b l x) (hx : x.1 = 30 ∨ x.1 = 31) (h31 : x.1 = 31 → σ.1 (2646 + x.2.2.1.toNat) ≠ none) : lnP z σ x.2.2.1.toNat := by
  rcases hx with q | q
  · obtain ⟨m, s, q1, q2, q3⟩ := h.2.2.2.2.2.2.2.1 (Or.inl q)
    have hm := at_lt q2
    obtain ⟨c, c1, c2⟩ := h.2.2.2.1 (by rw [q]; decide +kernel)
    unfold sTy at q3
    rw [if_pos q, c1] at q3
    have q3 : s = 4 + 2 * (c : Int) := by simpa using q3
    refine lnP_ev ?_
    rw [q1, Int.toNat_natCast]
    unfold sTp
    rw [if_pos hm, List.getD_eq_getElem?_getD, q2, Option.getD_some, q3]
    unfold tAr
    rw [decide_eq_false (by omega), decide_eq_false (p := (4 + 2 * (c : Int)) % 2 = 1) (by omega), Bool.and_false]
    rfl
  · exact fun _ _ => h31 q
theorem c_b265 (hk : kX F th n dn up ns us fl bl z el H lc ty Q) (hI0 : lkI F dn up ns us fl bl z el H lc ty m0 Q S A W σ C) (hx : z.1[i]? = some x) (hu : A i = some u) (hno : ¬ (20 ≤ x.1 ∧ x.1 ≤ 29)) {S1 : nk_S} (hh : lkH F th n dn up ns us fl bl z el H lc ty m0 Q S A W σ C i x u S1) : ∃ S2, ja_X4_look_b265 92 (i : Int) (x.1 : Int) (bi (pGo (dn, up, (ns, us, fl, bl, z, el), H) σ x (H i) u).isSome) S1 = ja_X4_look_b294 92 (i : Int) S2 ∧ lkM F th n dn up ns us fl bl z el H lc ty m0 Q S A W σ C i x u S2 := by
  obtain ⟨A1, W1, σ1, C1, m1, m2, m3, m4, m5, m6, m7, m8, m9, m10, m11⟩ := hh
  obtain ⟨hQ, hC, hF, hN, hz⟩ := id hk
  have hpm : pMv (dn, up, (ns, us, fl, bl, z, el), H) σ x (H i) u = (pGo (dn, up, (ns, us, fl, bl, z, el), H) σ x (H i) u).isSome := by unfold pMv; rw [if_neg hno]
  cases hg : pGo (dn, up, (ns, us, fl, bl, z, el), H) σ x (H i) u with
  | none =>
    refine ⟨S1, ?_, A1, W1, σ1, C1, m1, m2, m3, m4, m5, m6, ⟨false, m7, Or.inr (by rw [hpm, hg]; rfl)⟩, fun j w hE => ?_, m9, m10⟩
    · unfold ja_X4_look_b265
      rw [if_pos (show bi (none : Option jQ).isSome = 0 from rfl)]
    · have hE' := hE
      rcases hE with ⟨-, v, q, -⟩ | ⟨q1, q2, -⟩ | q | q
      · have q : pGo (dn, up, (ns, us, fl, bl, z, el), H) σ x (H i) u = some v := q
        rw [hg] at q; cases q
      · exact absurd ⟨q1, q2⟩ hno
      · rcases m8 j w hE' (Or.inl q.1) with ⟨v, q', -⟩ | q'
        · rw [hg] at q'; cases q'
        · exact q'
      · rcases m8 j w hE' (Or.inr q.1) with ⟨v, q', -⟩ | q'
        · rw [hg] at q'; cases q'
        · exact q'
  | some v =>
    obtain ⟨x', t, a1, a2, a3⟩ := hI0.2.2.2.2.2.1.1 i u hu
    have ex : x' = x := by
      have a1 : z.1[i]? = some x' := a1
      rw [hx] at a1; cases a1; rfl
    subst ex
    have a2 : ty i = some t := a2
    obtain ⟨xb, e, hp⟩ := pAt hC hx a2
    obtain ⟨⟨p1, p2, p3, p4, p5, p6⟩, ⟨c1, c2, c3⟩, pf, pj, -, -, ⟨l1, l2, l3, l4, l5⟩, -, -⟩ := id hp
    have hr := m11 v hg
    obtain ⟨j, hj⟩ : ∃ j, j = (if x'.1 = 19 then x'.2.1.toNat else i + 1) := ⟨_, rfl⟩
    have hjj : H j = H i - tkX bl x' + lvX bl x' ∧ lc j = lc i ∧ j < z.1.length ∧ (x'.1 = 19 → S1.1 (Q + 26) i = (j : Int)) := by
      by_cases c19 : x'.1 = 19
      · rw [if_pos c19] at hj
        obtain ⟨g, g1, g2, g3, g4⟩ := pj (by omega)
        rw [g1, Int.toNat_natCast] at hj
        rw [hj]
        refine ⟨g2, g3, g4, fun _ => ?_⟩
        have := (m2.1.2.2.1.2.2.2.2.2.2.2.2.1.1.2 i x' hx).2.1
        rw [this, g1]
      · rw [if_neg c19] at hj
        obtain ⟨g1, g2, g3⟩ := pf (fal_y (fun q => by
          rw [pGo_n (by omega)] at hg
          cases hg))
        rw [hj]
        exact ⟨g1, g2, g3, fun q => absurd q c19⟩
    obtain ⟨j1, j2, j3, j4⟩ := hjj
    have hg0 := hI0.2.2.2.2.2.1.2.1
    have hE : pEd (dn, up, (ns, us, fl, bl, z, el), H) σ i x' u lc j (qRs (lc j) (H j) v) := Or.inl ⟨hno, v, hg, hj, rfl⟩
    obtain ⟨x2, hlk⟩ := pLk_of hI0.2.2.2.2.2.1 hu
    have ex2 : x2 = x' := by
      have q : z.1[i]? = some x2 := hlk.1
      rw [hx] at q; cases q; rfl
    subst ex2
    obtain ⟨o1, o2, o3, o4⟩ := pIn_arr hC m2.2.2.2.2.2.1 hlk hE
    have hvw := pGo_w hC hg0 hx a2 a3.1 hg
    have hAw := aWf_of m2.2.2.2.2.2.1.1
    obtain ⟨S2, s1, s2, -, s3⟩ := c_goOn (j := j) (v := v) hQ hC.1 m2.1 hz j3 m2.2.2.1 hAw m2.2.2.2.1 hvw (by rw [j1, j2]; exact hr)
    obtain ⟨s4, c, s5, s6, s7⟩ := s3 v rfl
    obtain ⟨k1, k2⟩ := aCh_arr (W := W1) hN (j := j) (by omega) m2.1.2.2.2.2 hAw (qRs_wf (l := lc j) (g := H j) hvw) s7
    have fr := mFr_g s2
    have hti : tI (lnP z σ1) σ := ⟨fun k w q s r => lnP_m m5 (hI0.2.2.2.2.2.2.1.2.1 k w q s r), fun b s q => lnP_m m5 (hI0.2.2.2.2.2.2.1.2.2 b s q)⟩
    have hqi : qI (lnP z σ1) u := qI_m (fun _ => lnP_m m5) (hI0.2.2.2.2.2.2.1.1 i u hu)
    have hqw : qI (lnP z σ1) (qRs (lc j) (H j) v) := pEd_I lnP_62 (lnP_48 l4) hti hqi (fun q _ => site_ln p1 q (fun q31 => by
      have hco := m9 (2646 + x2.2.2.1.toNat)
      unfold pGo at hg
      rw [if_neg (by omega), if_neg (by omega), if_neg (by omega), if_neg (by omega), if_neg (by omega), if_neg (by omega), if_neg (by omega), if_neg (by omega), if_neg (by omega), if_neg (by omega), if_neg (by omega), if_pos q31] at hg
      split at hg
      · cases hg
      · rename_i hneg
        obtain ⟨w', w1, -⟩ := hco _ (by unfold pCo; rw [if_neg (by omega), if_pos q31, if_neg hneg, if_pos rfl])
        rw [w1]
        exact fun r => by cases r)) hE
    refine ⟨S2, ?_, _, _, σ1, C1, mFr_trans m1 fr, ⟨cPv_m hQ fr m2.1, cFy_m fr m2.2.1, s5, s6, cGm_1 (fun a h1 h2 => s2.2.1 a (by omega)) m2.2.2.2.2.1, o1, lnI_arr m2.2.2.2.2.2.2.1 hqw, m2.2.2.2.2.2.2.2⟩, aCh_trans m3 k1, m4, m5, ?_, ?_, fun j' w' hE' => ?_, m9, m10⟩
    · unfold ja_X4_look_b265
      rw [if_neg (show ¬ bi (some v).isSome = 0 from (show ¬ (1 : Int) = 0 by decide))]
      by_cases c19 : x2.1 = 19
      · rw [if_pos (by omega), if_pos (in_i (N := 1024) (by omega)), m2.1.1, (jc_Qp hQ).2.2.1, Int.toNat_natCast, j4 c19]
        unfold ja_X4_look_b291
        rw [s1, bd_some]
      · rw [if_neg (by omega), w_nat1 (by omega)]
        unfold ja_X4_look_b291
        rw [if_neg c19] at hj
        rw [← hj, s1, bd_some]
    · unfold cRs
      rw [s2.2.2.1 9 (by decide), s2.2.2.1 10 (by decide)]
      exact m6
    · exact ⟨true, s4, Or.inr (by rw [hpm, hg]; rfl)⟩
    · have old : ∀ t, A1 j' = some t ∧ qLe w' t → ∃ t, aArr A1 j (qRs (lc j) (H j) v) j' = some t ∧ qLe w' t := fun t ht => by
        obtain ⟨v', v1, v2⟩ := k1.1 j' t ht.1
        exact ⟨v', v1, qLe_trans ht.2 v2⟩
      have hE2 := hE'
      rcases hE' with ⟨-, v', q, q1, q2⟩ | ⟨q1, q2, -⟩ | q | q
      · have q : pGo (dn, up, (ns, us, fl, bl, z, el), H) σ x2 (H i) u = some v' := q
        rw [hg] at q; cases q
        rw [q2, q1, ← hj]
        exact o3
      · exact absurd ⟨q1, q2⟩ hno
      · rcases m8 j' w' hE2 (Or.inl q.1) with ⟨v', q', q1, q2⟩ | ⟨t, ht⟩
        · rw [hg] at q'; cases q'
          have : j' = j := by rw [hj, if_neg (by omega)]; exact q1
          rw [q2, this]
          exact o3
        · exact old t ht
      · rcases m8 j' w' hE2 (Or.inr q.1) with ⟨v', q', q1, q2⟩ | ⟨t, ht⟩
        · rw [hg] at q'; cases q'
          have : j' = j := by rw [hj, if_neg (by omega)]; exact q1
          rw [q2, this]
          exact o3
        · exact old t ht
end CGS
