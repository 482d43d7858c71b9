/-! The class throws what is loose: catches. -/
section CTB
variable {ns : List (List Int)} {us : List Int} {fl : List (List Int × Nat × Int)} {bl : List jB} {z : jL} {el : List (Nat × Nat × Nat × Nat)} {F : Int → Prop} {dn up : Int → Int} {H lc : Nat → Nat} {ty : Nat → Option (Nat → Int)} {th : Nat → Int} {n Q m0 : Nat} {σ σ0 : jG} {C : jH} {i : Nat} {x : jC} {u : jQ}
theorem cGm_1 {S S' : nk_S} (h : ∀ a, 100 ≤ a → a ≤ 106 → S'.1 a = S.1 a) (k : cGm S fl bl z σ C) : cGm S' fl bl z σ C := by
  unfold cGm at k ⊢
  rw [h 100 (by omega) (by omega), h 101 (by omega) (by omega), h 102 (by omega) (by omega), h 103 (by omega) (by omega), h 104 (by omega) (by omega), h 105 (by omega) (by omega), h 106 (by omega) (by omega)]
  exact k
theorem cAm_1 {S S' : nk_S} {A : jA} (h : ∀ a, 94 ≤ a → a ≤ 97 → S'.1 a = S.1 a) (k : cAm H lc S A) : cAm H lc S' A := ⟨fun i' hi' => by rw [h 96 (by omega) (by omega)]; exact k.1 i' hi', fun i' u' hu' k' hk' => by rw [h 94 (by omega) (by omega), h 95 (by omega) (by omega)]; exact k.2 i' u' hu' k' hk'⟩
theorem cWt_1 {S S' : nk_S} {W : Nat → Bool} (h : ∀ a, 94 ≤ a → a ≤ 97 → S'.1 a = S.1 a) (k : cWt S W) : cWt S' W := ⟨fun i' hi' => by rw [h 97 (by omega) (by omega)]; exact k.1 i' hi', fun i' hi' => by rw [h 97 (by omega) (by omega)]; exact k.2 i' hi'⟩
theorem cRw_0 {S : nk_S} {l h : Nat} {v : jQ} (k : cRw l h S v) : cRw l 0 (nk_wi S 93 7 0) v := ⟨by rw [wi_at, if_neg (by decide)]; exact k.1, by rw [wi_at, if_pos rfl]; rfl, fun k' hk' => by rw [wi_n (by decide), wi_n (by decide)]; exact k.2.2 k' (rel_h0 hk')⟩
/-- one catch takes -/
theorem c_taken (hk : kX F th n dn up ns us fl bl z el H lc ty Q) {S : nk_S} {A : jA} {W : Nat → Bool} (hI : lkI F dn up ns us fl bl z el H lc ty m0 Q S A W σ C) (hx : z.1[i]? = some x) {uc : jQ} (hA : A i = some uc) {L : Nat → Bool} (hL : sLe L (pLs (dn, up, (ns, us, fl, bl, z, el), H) σ x (H i) uc)) {k : Nat} {y : Nat × Nat × Nat × Nat × Nat} (hy : z.2.2.1[k]? = some y) (h1 : y.1 = x.2.2.2.1) (h2 : y.2.1 ≤ i) (h3 : i < y.2.2.1) (hn : sEx (sAnd (pLf us z x.2.2.2.1 i L k) (pB us z (4 + 2 * (y.2.2.2.2 : Int)))) = true) {v : Int} (hv : cV v (sAnd (pLf us z x.2.2.2.1 i L k) (pB us z (4 + 2 * (y.2.2.2.2 : Int))))) : ∃ S1 S2 S3 W', ja_X4_bring 92 (i : Int) S = some (0, S1) ∧ ja_X7_push 93 v 9007199254740992 (nk_wi S1 93 7 0) = some (0, S2) ∧ S2.1 (ja_c (S2.2 92 0) 15) k = (y.2.2.2.1 : Int) ∧ ja_X7_arrive 93 (y.2.2.2.1 : Int) S2 = some (0, S3) ∧ mFr S S3 ∧ lkI F dn up ns us fl bl z el H lc ty m0 Q S3 (aArr A y.2.2.2.1 (qRs (lc y.2.2.2.1) (H y.2.2.2.1) (qUp uc 12 (wS (sAnd (pLf us z x.2.2.2.1 i L k) (pB us z (4 + 2 * (y.2.2.2.2 : Int)))))))) W' σ C ∧ aCh th n A W (aArr A y.2.2.2.1 (qRs (lc y.2.2.2.1) (H y.2.2.2.1) (qUp uc 12 (wS (sAnd (pLf us z x.2.2.2.1 i L k) (pB us z (4 + 2 * (y.2.2.2.2 : Int)))))))) W' := by
  obtain ⟨hQ, hC, hF, hN, hz⟩ := hk
  obtain ⟨i1, i2, i3, i4, i5, i6, i7, i8⟩ := hI
  obtain ⟨x', t, a1, a2, a3⟩ := i6.1 i uc hA
  have ex : x' = x := by
    have a1 : z.1[i]? = some x' := a1
    rw [hx] at a1; cases a1; rfl
  subst ex
  obtain ⟨xb, e, ⟨p1, p2, p3, p4, p5, p6⟩, -, -, -, pc, -, ⟨l1, l2, l3, l4, l5⟩, -, -⟩ := pAt hC hx a2
  obtain ⟨c1, c2, c3, -⟩ := pc k y hy h1 h2 h3
  have hb48 : x'.2.2.2.1 < 48 := by have := at_lt p3; omega
  have hk64 : k < 64 := by have := at_lt hy; omega
  obtain ⟨o1, o2⟩ := pIn_ct hC i6 hA hx hL hy h1 h2 h3 c1 hn
  obtain ⟨S1, b1, b2, b3⟩ := c_bring hQ i1 hz (i := i) (x := x') hx hb48 i3 hA
  obtain ⟨S2, d1, d2, d3⟩ := c_push (cRw_0 b3) (by decide) (cSt_S hv)
  have f12 : wFr S (nk_wi S1 93 7 0) := wFr_trans b2 (wFr_7 0)
  have f2 : wFr S S2 := wFr_trans f12 d2
  have hr2 : cRw (lc y.2.2.2.1) (H y.2.2.2.1) S2 (qUp uc 12 (wS (sAnd (pLf us z x'.2.2.2.1 i L k) (pB us z (4 + 2 * (y.2.2.2.2 : Int)))))) := by rw [c1, c2]; exact d3
  have hAw := aWf_of i6.1
  obtain ⟨S3, c, e1, e2, e3, e4, e5, e6⟩ := c_arv hC.1 (S := S2) (A := A) (W := W) (j := y.2.2.2.1) (by omega) i1.2.2.2.2 (cAm_w f2 i3) (fun u hu => (hAw _ u hu).1) (fun u hu => (hAw _ u hu).2) o1 (cWt_w f2 i4) hr2
  have fr : mFr S S3 := ⟨by rw [e2, f2.1], fun a ha => by rw [e3 a (by omega) (by omega) (by omega) (by omega), f2.2.1 a (by omega) (by omega) (by omega)]⟩
  have hw := qRs_wf (l := lc y.2.2.2.1) (g := H y.2.2.2.1) o1
  obtain ⟨g1, g2⟩ := aCh_arr (W := W) hN (j := y.2.2.2.1) (by omega) i1.2.2.2.2 hAw hw e6
  refine ⟨S1, S2, S3, _, b1, d1, ?_, e1, fr, ⟨cPv_m hQ fr i1, cFy_m fr i2, e4, e5, cGm_1 (fun a ha hb => by rw [e3 a (by omega) (by omega) (by omega) (by omega), f2.2.1 a (by omega) (by omega) (by omega)]) i5, o2, lnI_arr i7 (qI_rs (qI_up (i7.1 i uc hA) (wI_S (fun s q => ?_))) _ _), i8⟩, g1⟩
  · have hkl := i1.2.2.1.2.2.2.2.2.2.2.2.1.2.2.1.2 k y hy
    rw [f2.1, i1.1, f2.2.1 _ (by rcases hQ with rfl | rfl <;> decide) (by rcases hQ with rfl | rfl <;> decide) (by rcases hQ with rfl | rfl <;> decide), show ja_c Q 15 = Q + 34 by rcases hQ with rfl | rfl <;> rfl]
    exact hkl.2.2.1
  · unfold sAnd at q
    rw [Bool.and_eq_true] at q
    exact pLs_I (lnP_48 l4) i7.2 (i7.1 i uc hA) (hL s (pLf_sub k s q.1))
theorem nk_not_and {v s0 : Int} {M B : Nat → Bool} (hv : cV v M) (hs : cV s0 (sAnd M B)) : cV (nk_land v (nk_lxor s0 (-1))) (sMi M B) := cV_e (cV_and hv (cV_not hs)) (fun j _ => by
  show (M j && !(M j && B j)) = (M j && !B j)
  cases M j <;> cases B j <;> rfl)
/-- all catches of a body -/
theorem c_ctcL (hk : kX F th n dn up ns us fl bl z el H lc ty Q) (hx : z.1[i]? = some x) (hg0 : gLe σ0 σ) {t : Nat → Int} (ht : ty i = some t) {xb : jB} {e : Nat × Nat × Nat × Nat} (hp : pAf ns us fl bl z el H lc i x t xb e) {L : Nat → Bool} (hL0 : L = pLs (dn, up, (ns, us, fl, bl, z, el), H) σ0 x (H i) u) (hL : ∀ j, L j = true → j < 54) : ∀ (d c m : Nat) (S : nk_S) (A : jA) (W : Nat → Bool) (v : Int), c + d = e.2.2.2 → e.2.2.1 ≤ c → lkI F dn up ns us fl bl z el H lc ty m0 Q S A W σ C → cV v (pLf us z x.2.2.2.1 i L c) → (∃ uc, A i = some uc ∧ qLe u uc) → (W i = true ∨ (A i = some u ∧ ctI (dn, up, (ns, us, fl, bl, z, el), H) i x u lc L A c)) → ∃ S' A' W' v', ja_X4_throwLoose_L29 (m + d + 1) 92 (i : Int) (x.2.2.2.1 : Int) v (c : Int) S = ja_X4_throwLoose_b144 92 (i : Int) (x.2.2.2.1 : Int) v' S' ∧ mFr S S' ∧ lkI F dn up ns us fl bl z el H lc ty m0 Q S' A' W' σ C ∧ aCh th n A W A' W' ∧ cV v' (pLf us z x.2.2.2.1 i L z.2.2.1.length) ∧ (W' i = true ∨ (A' i = some u ∧ ctI (dn, up, (ns, us, fl, bl, z, el), H) i x u lc L A' z.2.2.1.length)) := by
  obtain ⟨hQ, hC, hF, hN, hz⟩ := id hk
  obtain ⟨⟨p1, p2, p3, p4, p5, p6⟩, -, -, -, pc, -, ⟨l1, l2, l3, l4, l5⟩, ⟨r1, r2, r3⟩, -⟩ := id hp
  have hb48 : x.2.2.2.1 < 48 := by have := at_lt p3; omega
  have hL63 : ∀ j, L j = true → j < 63 := fun j q => by have := hL j q; omega
  -- the end
  have fin : ∀ (c : Nat) (S : nk_S) (A : jA) (W : Nat → Bool) (v : Int), c ≤ z.2.2.1.length → lkI F dn up ns us fl bl z el H lc ty m0 Q S A W σ C → cV v (pLf us z x.2.2.2.1 i L c) → (W i = true ∨ (A i = some u ∧ ctI (dn, up, (ns, us, fl, bl, z, el), H) i x u lc L A c)) → ((∀ (k : Nat) (y : Nat × Nat × Nat × Nat × Nat), c ≤ k → z.2.2.1[k]? = some y → y.1 ≠ x.2.2.2.1) ∨ ∀ j, pLf us z x.2.2.2.1 i L c j = false) → cV v (pLf us z x.2.2.2.1 i L z.2.2.1.length) ∧ (W i = true ∨ (A i = some u ∧ ctI (dn, up, (ns, us, fl, bl, z, el), H) i x u lc L A z.2.2.1.length)) := by
    intro c S A W v hc hI hv hw hn
    obtain ⟨n1, n2⟩ := pLf_end hL63 hn (z.2.2.1.length - c)
    rw [show c + (z.2.2.1.length - c) = z.2.2.1.length by omega] at n1 n2
    refine ⟨by rw [n1]; exact hv, ?_⟩
    rcases hw with q | ⟨q1, q2⟩
    · exact Or.inl q
    · refine Or.inr ⟨q1, fun k y k1 k2 k3 k4 k5 k6 => ?_⟩
      by_cases e : k < c
      · exact q2 k y e k2 k3 k4 k5 k6
      · exact absurd k6 (by
          have := n2 k y (by omega) k1 k2 k3
          have k6' : sEx (sAnd (pLf us z x.2.2.2.1 i L k) (pB us z (4 + 2 * (y.2.2.2.2 : Int)))) = true := k6
          rw [this] at k6'; cases k6')
  intro d
  induction d with
  | zero =>
    intro c m S A W v hc hcs hI hv hu hw
    obtain ⟨q1, q2⟩ := fin c S A W v (by omega) hI hv hw (Or.inl (fun k y k1 k2 k3 => by have := (r3 k y k2).mp k3; omega))
    refine ⟨S, A, W, v, ?_, mFr_rfl, hI, aCh_rfl, q1, q2⟩
    have hcl : S.1 (Q + 21) x.2.2.2.1 = (e.2.2.2 : Int) := (hI.1.2.2.1.2.2.2.2.2.2.1 _ e p4).2.2.2
    show ja_X4_throwLoose_b29 _ 92 _ _ _ _ _ = _
    unfold ja_X4_throwLoose_b29
    rw [if_pos (in_i (N := 48) (by omega)), hI.1.1, (jc_Q2 hQ).1, (jc_Qb hQ).2.2.2.2.1, Int.toNat_natCast, hcl, if_pos (by omega)]
  | succ d ih =>
    intro c m S A W v hc hcs hI hv hu hw
    have hcl : S.1 (Q + 21) x.2.2.2.1 = (e.2.2.2 : Int) := (hI.1.2.2.1.2.2.2.2.2.2.1 _ e p4).2.2.2
    obtain ⟨y, hy⟩ : ∃ y, z.2.2.1[c]? = some y := ⟨_, List.getElem?_eq_getElem (by omega)⟩
    have hyb : y.1 = x.2.2.2.1 := (r3 c y hy).mpr ⟨hcs, by omega⟩
    have e1 : ∀ _ : Unit, nk_w ((c : Int) + 1) = ((c + 1 : Nat) : Int) := fun _ => w_nat1 (by omega)
    have head : ∀ r, (v ≠ 0 → ja_X4_throwLoose_b78 (ja_X4_throwLoose_L29 (m + d + 1)) 92 (i : Int) (x.2.2.2.1 : Int) v (c : Int) (if y.2.1 ≤ i ∧ i < y.2.2.1 then nk_land v (S.1 110 c) else 0) S = r) → (v = 0 → ja_X4_throwLoose_b144 92 (i : Int) (x.2.2.2.1 : Int) v S = r) → ja_X4_throwLoose_L29 (m + (d + 1) + 1) 92 (i : Int) (x.2.2.2.1 : Int) v (c : Int) S = r := by
      intro r g1 g2
      show ja_X4_throwLoose_b29 (ja_X4_throwLoose_L29 (m + d + 1)) 92 _ _ _ _ _ = _
      unfold ja_X4_throwLoose_b29
      rw [if_pos (in_i (N := 48) (by omega)), hI.1.1, (jc_Q2 hQ).1, (jc_Qb hQ).2.2.2.2.1, Int.toNat_natCast, hcl, if_neg (by omega)]
      by_cases v0 : v = 0
      · rw [if_pos v0]; exact g2 v0
      · rw [if_neg v0, c_cov hQ hI.1.2.2.1.2.2.2.2.2.2.2.2.1.2.2.1 hy l5, bd_some]
        have g1 := g1 v0
        by_cases cv : y.2.1 ≤ i ∧ i < y.2.2.1
        · rw [if_pos cv] at g1
          rw [decide_eq_true cv, if_neg (by decide), if_pos (in_i (N := 64) (by omega)), jc_92_7, Int.toNat_natCast]
          exact g1
        · rw [if_neg cv] at g1
          rw [decide_eq_false cv, if_pos (show bi false = 0 from rfl)]
          exact g1
    by_cases v0 : v = 0
    · obtain ⟨q1, q2⟩ := fin c S A W v (by omega) hI hv hw (Or.inr (fun j => by
        by_cases hj : j < 64
        · exact (cV_z hv).mp v0 j hj
        · cases hq : pLf us z x.2.2.2.1 i L c j with
          | false => rfl
          | true => have := hL j (pLf_sub c j hq); omega))
      exact ⟨S, A, W, v, head _ (fun q => absurd v0 q) (fun _ => rfl), mFr_rfl, hI, aCh_rfl, q1, q2⟩
    -- nothing is taken
    have none' : (if y.2.1 ≤ i ∧ i < y.2.2.1 then nk_land v (S.1 110 c) else 0) = 0 → (y.2.1 ≤ i ∧ i < y.2.2.1 → sEx (sAnd (pLf us z x.2.2.2.1 i L c) (pB us z (4 + 2 * (y.2.2.2.2 : Int)))) = false) → ∃ S' A' W' v', ja_X4_throwLoose_L29 (m + (d + 1) + 1) 92 (i : Int) (x.2.2.2.1 : Int) v (c : Int) S = ja_X4_throwLoose_b144 92 (i : Int) (x.2.2.2.1 : Int) v' S' ∧ mFr S S' ∧ lkI F dn up ns us fl bl z el H lc ty m0 Q S' A' W' σ C ∧ aCh th n A W A' W' ∧ cV v' (pLf us z x.2.2.2.1 i L z.2.2.1.length) ∧ (W' i = true ∨ (A' i = some u ∧ ctI (dn, up, (ns, us, fl, bl, z, el), H) i x u lc L A' z.2.2.1.length)) := by
      intro h0 hs
      obtain ⟨S', A', W', v', g1, g2⟩ := ih (c + 1) m S A W v (by omega) (by omega) hI (by rw [pLf_no hy hL63 (fun q => hs q.2)]; exact hv) hu (by
        rcases hw with q | ⟨q1, q2⟩
        · exact Or.inl q
        · refine Or.inr ⟨q1, fun k y' k1 k2 k3 k4 k5 k6 => ?_⟩
          by_cases e : k < c
          · exact q2 k y' e k2 k3 k4 k5 k6
          · have ek : k = c := by omega
            rw [ek] at k2 k6
            have k2 : z.2.2.1[c]? = some y' := k2
            rw [hy] at k2
            cases k2
            have k6' : sEx (sAnd (pLf us z x.2.2.2.1 i L c) (pB us z (4 + 2 * (y.2.2.2.2 : Int)))) = true := k6
            rw [hs ⟨k4, k5⟩] at k6'; cases k6')
      refine ⟨S', A', W', v', head _ (fun _ => ?_) (fun q => absurd q v0), g2⟩
      unfold ja_X4_throwLoose_b78
      rw [h0, if_pos rfl, lt_eq, e1 ()]
      exact g1
    by_cases cv : y.2.1 ≤ i ∧ i < y.2.2.1
    · have hcb : cV (S.1 110 c) (pB us z (4 + 2 * (y.2.2.2.2 : Int))) := hI.2.1.1.2.1 c y hy
      have hcv := cV_and hv hcb
      have hx63 : ∀ j, sAnd (pLf us z x.2.2.2.1 i L c) (pB us z (4 + 2 * (y.2.2.2.2 : Int))) j = true → j < 63 := fun j q => by
        unfold sAnd at q
        rw [Bool.and_eq_true] at q
        exact hL63 j (pLf_sub c j q.1)
      by_cases z0 : nk_land v (S.1 110 c) = 0
      · exact none' (by rw [if_pos cv]; exact z0) (fun _ => (cV_ex hcv hx63).mp z0)
      · have hn : sEx (sAnd (pLf us z x.2.2.2.1 i L c) (pB us z (4 + 2 * (y.2.2.2.2 : Int)))) = true := by
          cases hq : sEx (sAnd (pLf us z x.2.2.2.1 i L c) (pB us z (4 + 2 * (y.2.2.2.2 : Int)))) with
          | true => rfl
          | false => exact absurd ((cV_ex hcv hx63).mpr hq) z0
        obtain ⟨uc, hA, hle⟩ := hu
        obtain ⟨x', t', a1, a2, a3⟩ := hI.2.2.2.2.2.1.1 i uc hA
        have hLc : sLe L (pLs (dn, up, (ns, us, fl, bl, z, el), H) σ x (H i) uc) := by
          have a2 : ty i = some t' := a2
          rw [hL0]
          exact pLs_mono hC.1 hg0 (gOk_kd hI.2.2.2.2.2.1.2.1) hle a3.1.2.1 (pCx_at hC hx a2 a3.1).1
        obtain ⟨S1, S2, S3, W1, b1, b2, b3, b4, b5, b6, b7⟩ := c_taken hk hI hx hA hLc hy hyb cv.1 cv.2 hn hcv
        obtain ⟨A1, hA1⟩ : ∃ A1, A1 = aArr A y.2.2.2.1 (qRs (lc y.2.2.2.1) (H y.2.2.2.1) (qUp uc 12 (wS (sAnd (pLf us z x.2.2.2.1 i L c) (pB us z (4 + 2 * (y.2.2.2.2 : Int))))))) := ⟨_, rfl⟩
        rw [← hA1] at b6 b7
        have hlf : pLf us z x.2.2.2.1 i L (c + 1) = sMi (pLf us z x.2.2.2.1 i L c) (pB us z (4 + 2 * (y.2.2.2.2 : Int))) := by
          rw [pLf, hy]
          dsimp only
          rw [if_pos ⟨hyb, cv⟩]
        obtain ⟨S', A', W', v', g1, g2, g3, g4, g5⟩ := ih (c + 1) m S3 A1 W1 (nk_land v (nk_lxor (nk_land v (S.1 110 c)) (-1))) (by omega) (by omega) b6 (by rw [hlf]; exact nk_not_and hv hcv) (by
          obtain ⟨q, q1, q2⟩ := b7.1 i uc hA
          exact ⟨q, q1, qLe_trans hle q2⟩) (by
          rcases hw with q | ⟨q1, q2⟩
          · exact Or.inl (b7.2.1 i q)
          · by_cases ei : A1 i = A i
            · have eu : uc = u := by rw [q1] at hA; cases hA; rfl
              refine Or.inr ⟨by rw [ei]; exact q1, fun k y' k1 k2 k3 k4 k5 k6 => ?_⟩
              by_cases e : k < c
              · exact ctI_m b7.1 q2 k y' e k2 k3 k4 k5 k6
              · have ek : k = c := by omega
                rw [ek] at k2 ⊢
                have k2 : z.2.2.1[c]? = some y' := k2
                rw [hy] at k2
                cases k2
                rw [hA1, eu]
                exact (aLe_arr A _ _).2
            · exact Or.inl (b7.2.2.1 i ei))
        refine ⟨S', A', W', v', head _ (fun _ => ?_) (fun q => absurd q v0), mFr_trans b5 g2, g3, aCh_trans b7 g4, g5⟩
        unfold ja_X4_throwLoose_b78
        rw [if_pos cv, if_neg z0, b1, bd_some, lt_eq, jc_92_2, b2, bd_some, if_pos (in_i (N := 64) (by omega)), Int.toNat_natCast, b3, b4, bd_some, lt_eq, lt_eq, e1 ()]
        exact g1
    · exact none' (by rw [if_neg cv]) (fun q => absurd q cv)
end CTB
