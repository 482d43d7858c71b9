/-! The reference's look: its first half. -/
/-- what changes in the first half of a look -/
def miF (P : Nat) (S S' : nk_S) : Prop := S'.2 = S.2 ∧ (∀ a, ¬ (P + 27 ≤ a ∧ a ≤ P + 36) → ¬ (P + 39 ≤ a ∧ a ≤ P + 45) → (a < 229 ∨ 238 < a) → a ≠ 121 → S'.1 a = S.1 a) ∧ ∀ f, f ≠ 25 → f ≠ 36 → f ≠ 37 → f ≠ 38 → f ≠ 39 → f ≠ 40 → S'.1 121 f = S.1 121 f
/-- the first half of a look is done -/
def rkM (F : Int → Prop) (th : Nat → Int) (n : Nat) (dn up : Int → Int) (ns : List (List Int)) (us : List Int) (fl : List (List Int × Nat × Int)) (bl : List jB) (z : jL) (el : List (Nat × Nat × Nat × Nat)) (H lc : Nat → Nat) (ty : Nat → Option (Nat → Int)) (m0 P : Nat) (S : nk_S) (A : jA) (D : Nat → Bool) (σ : jG) (R : jA) (i : Nat) (x : jC) (u : jQ) (S' : nk_S) : Prop := ∃ A' D' σ' R', miF P S S' ∧ rkI F dn up ns us fl bl z el H lc ty m0 P S' A' D' σ' R' ∧ aCh th n A D A' D' ∧ aCg th n S A S' A' ∧ vCh th n S σ R S' σ' R' ∧ gLe σ σ' ∧ aLe R R' ∧ cI (S'.1 121 39) (rzS (dn, up, (ns, us, fl, bl, z, el), H) σ x (H i) u) ∧ cV (S'.1 121 40) (pTh (dn, up, (ns, us, fl, bl, z, el), H) σ x (H i) u) ∧ (∃ mv, S'.1 121 38 = bi mv ∧ (D' i = true ∨ mv = pMv (dn, up, (ns, us, fl, bl, z, el), H) σ x (H i) u)) ∧ (∀ j w, pE0 (dn, up, (ns, us, fl, bl, z, el), H) σ i x u lc j w → pEc (dn, up, (ns, us, fl, bl, z, el), H) σ i x u lc j w ∨ ∃ t, A' j = some t ∧ qLe w t) ∧ (∀ j w, pEc (dn, up, (ns, us, fl, bl, z, el), H) σ i x u lc j w → ∃ b e r, el[b]? = some e ∧ j = e.1 ∧ R' b = some r ∧ qLe w r) ∧ (∀ k, oLe (pCo (dn, up, (ns, us, fl, bl, z, el), H) σ x (H i) u k) (σ'.1 k)) ∧ (x.1 = 42 ∨ x.1 = 43 → σ'.2.1 x.2.2.2.1 = true)
section RMI
variable {ns : List (List Int)} {us : List Int} {fl : List (List Int × Nat × Int)} {bl : List jB} {z : jL} {el : List (Nat × Nat × Nat × Nat)} {F : Int → Prop} {dn up : Int → Int} {H lc : Nat → Nat} {ty : Nat → Option (Nat → Int)} {th : Nat → Int} {n P m0 : Nat} {σ σ0 : jG} {i : Nat} {x : jC} {u : jQ} {S : nk_S} {A R : jA} {D : Nat → Bool}
theorem miF_trans {S1 S2 S3 : nk_S} (h : miF P S1 S2) (q : miF P S2 S3) : miF P S1 S3 := ⟨q.1.trans h.1, fun a r x y w => (q.2.1 a r x y w).trans (h.2.1 a r x y w), fun f r x y z w v => (q.2.2 f r x y z w v).trans (h.2.2 f r x y z w v)⟩
theorem miF_u {S S' : nk_S} (h : uFr S S') : miF P S S' := ⟨h.1, fun a _ _ h2 h3 => h.2.1 a (by omega) h3, fun f h1 _ _ _ _ _ => h.2.2 f h1⟩
theorem miF_g {S S' : nk_S} (h : gbF P S S') : miF P S S' := ⟨h.1, fun a _ h1 h2 h3 => h.2.1 a h1 (by omega) h3, fun f h1 _ h2 _ h3 h4 => h.2.2 f h1 h2 h3 h4⟩
theorem miF_o {S S' : nk_S} (h : S'.2 = S.2 ∧ (∀ a, ¬ (P + 27 ≤ a ∧ a ≤ P + 36) → a ≠ 238 → a ≠ 121 → S'.1 a = S.1 a) ∧ ∀ f, f ≠ 36 → f ≠ 38 → S'.1 121 f = S.1 121 f) : miF P S S' := ⟨h.1, fun a h1 _ h2 h3 => h.2.1 a h1 (by omega) h3, fun f _ h1 _ h2 _ _ => h.2.2 f h1 h2⟩
theorem tk_tabs : ∀ o : Nat, o < 46 → ((o = 32 ∨ o = 35 ∨ o = 37 ∨ o = 38 ∨ o = 31 ∨ o = 18 → 1 ≤ tkT o) ∧ (o = 7 ∨ o = 33 ∨ o = 36 ∨ (8 ≤ o ∧ o ≤ 17) → 2 ≤ tkT o)) ∧ (20 ≤ o ∧ o ≤ 29 → tkT o = (if o = 26 ∨ o = 27 then 1 else 2) ∧ lvT o = 0) := by decide +kernel
/-- a row is brought on -/
theorem rk_on (hk : rKx F th n dn up ns us fl bl z el H lc ty P) (hI : rkI F dn up ns us fl bl z el H lc ty m0 P S A D σ R) {u0 : jQ} (hlk : pLk F (dn, up, (ns, us, fl, bl, z, el), H) lc ty m0 i x u0 σ0) {j : Nat} {v : jQ} (hE : pEd (dn, up, (ns, us, fl, bl, z, el), H) σ0 i x u0 lc j (qRs (lc j) (H j) v)) (hq : qI (lnP z σ) v) (hv : ∀ k, wOk F (v k)) (hv0 : ∀ k, lc j ≤ k → k < 12 → v k = wU) (hr : rX S (12 + H j) v) : ∃ S' A' D', ja_X13_goOn 121 P (j : Int) S = some (0, S') ∧ (S'.2 = S.2 ∧ (∀ a, ¬ (P + 27 ≤ a ∧ a ≤ P + 36) → a ≠ 238 → a ≠ 121 → S'.1 a = S.1 a) ∧ ∀ f, f ≠ 36 → f ≠ 38 → S'.1 121 f = S.1 121 f) ∧ S'.1 121 38 = 1 ∧ rkI F dn up ns us fl bl z el H lc ty m0 P S' A' D' σ R ∧ aCh th n A D A' D' ∧ aCg th n S A S' A' ∧ ∃ t, A' j = some t ∧ qLe (qRs (lc j) (H j) v) t := by
  obtain ⟨S', c, g1, g2, g3, g4, g5, g6⟩ := rk_goOn hk hI hlk hE hq hv hv0 hr
  obtain ⟨-, -, o3, x', t', s1, -⟩ := pIn_arr hk.2.1 hI.2.2.2.2.2.1 hlk hE
  have hj : j < 1024 := by
    have := at_lt s1
    have := hk.2.2.2.2.1.1
    omega
  have hch := (aCh_arr (W := D) hk.2.2.2.1 hj hk.2.2.2.2.2.1 (aWf_of hI.2.2.2.2.2.1.1) (qRs_wf (l := lc j) (g := H j) hv) g6).1
  exact ⟨S', _, _, g1, g2, g3, g4, hch, aCg_c hch g5 g6, o3⟩
theorem r_b94 (hk : rKx F th n dn up ns us fl bl z el H lc ty P) (hfw : ∀ (f : Nat) (y : List Int × Nat × Int), fl[f]? = some y → 8 ≤ y.2.1 ∧ y.2.1 < 32) (hpt : ∀ (b : Nat) (y : jB), bl[b]? = some y → ∀ k, k < y.ps.length → y.ps.getD k 0 = 1 ∨ 2 ≤ y.ps.getD k 0) (hI : rkI F dn up ns us fl bl z el H lc ty m0 P S A D σ R) (hx : z.1[i]? = some x) (hu : A i = some u) (ho : ¬ (20 ≤ x.1 ∧ x.1 ≤ 29)) (h38 : S.1 121 38 = 0) (h39 : S.1 121 39 = 0) (h40 : S.1 121 40 = 0) : ∃ S2, ja_X13_look_b94 121 P (i : Int) (x.1 : Int) 256 S = ja_X13_look_b153 121 P (i : Int) (x.1 : Int) 256 S2 ∧ rkM F th n dn up ns us fl bl z el H lc ty m0 P S A D σ R i x u S2 := by
  have hP := hk.1
  obtain ⟨t, xb, e, a1, a2, hp, hd, hg, hlk⟩ := rk_at hk hI hx hu
  obtain ⟨⟨p1, p2, p3, p4, p5, p6⟩, ⟨c1, c2, c3⟩, pf, pj, -, -, ⟨l1, l2, l3, l4, l5⟩, -, -⟩ := id hp
  obtain ⟨S1, s1, s2, s3, s4, s5⟩ := r_fetch (F := F) hP p2 c3 a2.1.1 hI.2.1 hu (hI.1.2 i t a1)
  have n1 : uFr S S1 := ⟨s2, s3, s4⟩
  have I1 := rkI_n hP (nFr_u n1) hI
  obtain ⟨S5, g1, hgb⟩ := rh_go hk hfw hpt (T := S1) ⟨I1, s5, by rw [s4 39 (by decide)]; exact h39, by rw [s4 40 (by decide)]; exact h40⟩ hx hu ho
  obtain ⟨σ', R', f5, I5, v5, gle, rle, c39, c40, hrow, hco, hen, hec⟩ := hgb
  have f15 : miF P S S5 := miF_trans (miF_u n1) (miF_g f5)
  have e38 : S5.1 121 38 = 0 := by rw [f5.2.2 38 (by decide) (by decide) (by decide) (by decide), s4 38 (by decide)]; exact h38
  have e36 : S5.1 121 36 = S.1 121 36 := by rw [f5.2.2 36 (by decide) (by decide) (by decide) (by decide), s4 36 (by decide)]
  have v5' : vCh th n S σ R S5 σ' R' := by
    unfold vCh at v5 ⊢
    rw [s4 37 (by decide)] at v5
    exact v5
  have hpm : pMv (dn, up, (ns, us, fl, bl, z, el), H) σ x (H i) u = (pGo (dn, up, (ns, us, fl, bl, z, el), H) σ x (H i) u).isSome := by unfold pMv; rw [if_neg ho]
  have ec0 : ∀ j w, pE0 (dn, up, (ns, us, fl, bl, z, el), H) σ i x u lc j w → pEc (dn, up, (ns, us, fl, bl, z, el), H) σ i x u lc j w ∨ ∃ v, pGo (dn, up, (ns, us, fl, bl, z, el), H) σ x (H i) u = some v ∧ j = (if x.1 = 19 then x.2.1.toNat else i + 1) ∧ w = qRs (lc j) (H j) v := fun j w hE => by
    rcases hE with ⟨-, v, q⟩ | ⟨q1, q2, -⟩ | q | q
    · exact Or.inr ⟨v, q⟩
    · exact absurd ⟨q1, q2⟩ ho
    · exact Or.inl (Or.inl q)
    · exact Or.inl (Or.inr q)
  unfold ja_X13_look_b94
  rw [s1, bd_some, g1, bd_some]
  cases hgo : pGo (dn, up, (ns, us, fl, bl, z, el), H) σ x (H i) u with
  | none =>
    refine ⟨S5, ?_, A, D, σ', R', f15, I5, aCh_rfl, Or.inl ⟨e36, rfl⟩, v5', gle, rle, c39, c40, ⟨false, e38, Or.inr (by rw [hpm, hgo]; rfl)⟩, fun j w hE => ?_, hec, hco, hen⟩
    · rw [if_pos (show bi (none : Option jQ).isSome = 0 from rfl)]
      unfold ja_X13_look_b133
      rw [if_pos (show bi (none : Option jQ).isSome = 0 from rfl)]
    · rcases ec0 j w hE with q | ⟨v, q, -⟩
      · exact Or.inl q
      · rw [hgo] at q; cases q
  | some v =>
    obtain ⟨j, hj⟩ : ∃ j, j = (if x.1 = 19 then x.2.1.toNat else i + 1) := ⟨_, rfl⟩
    have n43 : ¬ (x.1 = 41 ∨ x.1 = 42 ∨ x.1 = 43) := fun q => by rw [pGo_n q] at hgo; cases hgo
    have hjj : H j = H i - tkX bl x + lvX bl x ∧ lc j = lc i ∧ j < z.1.length ∧ (x.1 = 19 → x.2.1 = (j : Int)) := by
      by_cases c19 : x.1 = 19
      · rw [if_pos c19] at hj
        obtain ⟨g, g1, g2, g3, g4⟩ := pj (by omega)
        rw [g1, Int.toNat_natCast] at hj
        rw [hj]
        exact ⟨g2, g3, g4, fun _ => g1⟩
      · rw [if_neg c19] at hj
        obtain ⟨g1, g2, g3⟩ := pf (fal_y (by omega))
        rw [hj]
        exact ⟨g1, g2, g3, fun q => absurd q c19⟩
    obtain ⟨j1, j2, j3, j4⟩ := hjj
    have hE : pEd (dn, up, (ns, us, fl, bl, z, el), H) σ i x u lc j (qRs (lc j) (H j) v) := Or.inl ⟨ho, v, hgo, hj, rfl⟩
    have hvw := pGo_w hk.2.1 hg hx a1 a2.1 hgo
    have hti : tI (lnP z σ') σ := ⟨fun k w q s r => lnP_m gle (hI.2.2.2.2.2.2.1.2.1 k w q s r), fun b s q => lnP_m gle (hI.2.2.2.2.2.2.1.2.2 b s q)⟩
    have hqi : qI (lnP z σ') u := qI_m (fun _ => lnP_m gle) (hI.2.2.2.2.2.2.1.1 i u hu)
    have hqv : qI (lnP z σ') v := pGo_I lnP_62 hti hqi (fun q => site_ln p1 q (fun q31 => by
      have hc := hco (2646 + x.2.2.1.toNat)
      have hgo := hgo
      unfold pGo at hgo
      rw [if_neg (by omega), if_neg (by omega), if_neg (by omega), if_neg (by omega), if_neg (by omega), if_neg (by omega), if_neg (by omega), if_neg (by omega), if_neg (by omega), if_neg (by omega), if_neg (by omega), if_pos q31] at hgo
      split at hgo
      · cases hgo
      · rename_i hneg
        obtain ⟨w', w1, -⟩ := hc _ (by unfold pCo; rw [if_neg (by omega), if_pos q31, if_neg hneg, if_pos rfl])
        rw [w1]
        exact fun r => by cases r)) hgo
    have htt := tk_tabs x.1 p1.1
    have hv0 : ∀ k, lc j ≤ k → k < 12 → v k = wU := fun k k1 k2 => by
      rw [j2] at k1
      refine pGo_lc (l := lc i) a2.1.2.1 (fun q => ?_) c1 ⟨fun q => ?_, fun q => ?_⟩ k1 k2 (a2.2 k (by unfold rel; omega)) hgo
      · have := p1.2.2.1 (by rcases q with q | q <;> rw [q] <;> decide +kernel)
        omega
      · have := htt.1.1 q
        have := (tkX_n (bl := bl) (x := x) (by omega)).1
        omega
      · have := htt.1.2 q
        have := (tkX_n (bl := bl) (x := x) (by omega)).1
        omega
    have hr := hrow v hgo
    rw [← j1] at hr
    obtain ⟨S', A', D', w1, w2, w3, w4, w5, w6, w7⟩ := rk_on hk I5 hlk hE hqv hvw hv0 hr.2
    refine ⟨S', ?_, A', D', σ', R', miF_trans f15 (miF_o w2), w4, w5, ?_, ?_, gle, rle, by rw [w2.2.2 39 (by decide) (by decide)]; exact c39, by rw [w2.2.2 40 (by decide) (by decide)]; exact c40, ⟨true, w3, Or.inr (by rw [hpm, hgo]; rfl)⟩, fun j' w' hE' => ?_, hec, hco, hen⟩
    · rw [if_neg (show ¬ bi (some v).isSome = 0 from (show ¬ (1 : Int) = 0 by decide))]
      by_cases c19 : x.1 = 19
      · have ho' := (rk_op I5 hx).2.1
        have era : rA x = (j : Int) := by unfold rA; rw [if_neg (by omega), if_neg (by omega)]; exact j4 c19
        rw [if_pos (by omega), if_pos (in_i (N := 1024) (by omega)), (jc_Pc hP).2.1, Int.toNat_natCast, ho', era, w1, bd_some]
      · rw [if_neg (by omega)]
        unfold ja_X13_look_b133 ja_X13_hasNext
        rw [if_neg c19] at hj
        rw [if_neg (show ¬ bi (some v).isSome = 0 from (show ¬ (1 : Int) = 0 by decide)), if_neg (by omega), if_neg (by omega), if_neg (by omega), if_neg (by omega), bd_some, if_neg (by decide), w_nat1 (by omega), ← hj, w1, bd_some]
    · unfold aCg at w6 ⊢
      rw [e36] at w6
      exact w6
    · unfold vCh at v5' ⊢
      rw [w2.2.2 37 (by decide) (by decide)]
      exact v5'
    · rcases ec0 j' w' hE' with q | ⟨v', q1, q2, q3⟩
      · exact Or.inl q
      · right
        rw [hgo] at q1
        cases q1
        rw [← hj] at q2
        rw [q3, q2]
        exact w7
end RMI
