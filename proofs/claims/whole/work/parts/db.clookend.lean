/-! The class looks at an instruction: its end. -/
/-- all arrows but those to catches -/
def pE0 (G : jZ) (σ : jG) (i : Nat) (x : jC) (u : jQ) (lc : Nat → Nat) (j : Nat) (w : jQ) : Prop :=
  (¬ (20 ≤ x.1 ∧ x.1 ≤ 29) ∧ ∃ v, pGo G σ x (zH G i) u = some v ∧ j = (if x.1 = 19 then x.2.1.toNat else i + 1) ∧ w = qRs (lc j) (zH G j) v)
  ∨ (20 ≤ x.1 ∧ x.1 ≤ 29 ∧ ∃ v, w = qRs (lc j) (zH G j) v ∧ ((pWy (zDn G) (zUp G) x.1 u (zH G i) = some v ∧ j = x.2.1.toNat) ∨ (pWy (zDn G) (zUp G) (ctr x.1) u (zH G i) = some v ∧ j = i + 1)))
  ∨ (x.1 = 39 ∧ ∃ (y : jB) (e : Nat × Nat × Nat × Nat), (zBl G)[x.2.1.toNat]? = some y ∧ (zEl G)[x.2.1.toNat]? = some e ∧ j = e.1 ∧ w = qRs (lc j) (zH G j) (pEn y u (12 + zH G i - tkX (zBl G) x) none))
  ∨ (x.1 = 40 ∧ (pDr u (12 + zH G i - tkX (zBl G) x)).isSome = true ∧ ∃ (s b : Nat) (y y' : jB) (e : Nat × Nat × Nat × Nat), s < 54 ∧ (u (12 + zH G i - tkX (zBl G) x)).2.2.1 s = true ∧ (zBl G)[x.2.1.toNat]? = some y ∧ rnS (zUs G) (zBl G) (cl (sTp (zZ G) s)) y = (b : Int) ∧ (zBl G)[b]? = some y' ∧ (zEl G)[b]? = some e ∧ j = e.1 ∧ w = qRs (lc j) (zH G j) (pEn y' u (12 + zH G i - tkX (zBl G) x) (some s)))
theorem pE0_d {G : jZ} {σ : jG} {i : Nat} {x : jC} {u : jQ} {lc : Nat → Nat} {j : Nat} {w : jQ} (h : pE0 G σ i x u lc j w) : pEd G σ i x u lc j w := by
  rcases h with q | q | q | q
  · exact Or.inl q
  · exact Or.inr (Or.inl q)
  · exact Or.inr (Or.inr (Or.inr (Or.inl q)))
  · exact Or.inr (Or.inr (Or.inr (Or.inr q)))
/-- the first half of a look is done -/
def lkM (F : Int → Prop) (th : Nat → Int) (n : Nat) (dn up : Int → Int) (ns : List (List Int)) (us : List Int) (fl : List (List Int × Nat × Int)) (bl : List jB) (z : jL) (el : List (Nat × Nat × Nat × Nat)) (H lc : Nat → Nat) (ty : Nat → Option (Nat → Int)) (m0 Q : Nat) (S : nk_S) (A : jA) (W : Nat → Bool) (σ : jG) (C : jH) (i : Nat) (x : jC) (u : jQ) (S' : nk_S) : Prop := ∃ A' W' σ' C', mFr S S' ∧ lkI F dn up ns us fl bl z el H lc ty m0 Q S' A' W' σ' C' ∧ aCh th n A W A' W' ∧ gCg th n σ σ' C C' ∧ gLe σ σ' ∧ cRs S' (pFd (dn, up, (ns, us, fl, bl, z, el), H) σ x (H i) u) (pLs (dn, up, (ns, us, fl, bl, z, el), H) σ x (H i) u) ∧ (∃ mv, S'.1 92 11 = bi mv ∧ (W' i = true ∨ mv = pMv (dn, up, (ns, us, fl, bl, z, el), H) σ x (H i) u)) ∧ (∀ j w, pE0 (dn, up, (ns, us, fl, bl, z, el), H) σ i x u lc j w → ∃ t, A' j = some t ∧ qLe w t) ∧ (∀ k, oLe (pCo (dn, up, (ns, us, fl, bl, z, el), H) σ x (H i) u k) (σ'.1 k)) ∧ (x.1 = 42 ∨ x.1 = 43 → σ'.2.1 x.2.2.2.1 = true)
/-- all that comes from an instruction, as it was looked at, is there -/
def lkC (G : jZ) (lc : Nat → Nat) (σ : jG) (A' : jA) (σ' : jG) (i : Nat) (x : jC) (u : jQ) : Prop := (∀ j w, pEd G σ i x u lc j w → ∃ t, A' j = some t ∧ qLe w t) ∧ (∀ k, oLe (pCo G σ x (zH G i) u k) (σ'.1 k)) ∧ (x.1 = 42 ∨ x.1 = 43 → σ'.2.1 x.2.2.2.1 = true) ∧ sLe (pEs G σ i x (zH G i) u) (σ'.2.2 x.2.2.2.1)
/-- a look is done -/
def lkF (F : Int → Prop) (th : Nat → Int) (n : Nat) (dn up : Int → Int) (ns : List (List Int)) (us : List Int) (fl : List (List Int × Nat × Int)) (bl : List jB) (z : jL) (el : List (Nat × Nat × Nat × Nat)) (H lc : Nat → Nat) (ty : Nat → Option (Nat → Int)) (m0 Q : Nat) (S : nk_S) (A : jA) (W : Nat → Bool) (σ : jG) (C : jH) (i : Nat) (x : jC) (u : jQ) (S' : nk_S) : Prop := ∃ A' W' σ' C', (S'.2 = S.2 ∧ (∀ a, a < 92 ∨ 109 ≤ a → S'.1 a = S.1 a) ∧ ∀ a, a = 107 ∨ a = 108 → ∀ j, j ≠ i → S'.1 a j = S.1 a j) ∧ lkI F dn up ns us fl bl z el H lc ty m0 Q S' A' W' σ' C' ∧ aCh th n A W A' W' ∧ gCg th n σ σ' C C' ∧ gLe σ σ' ∧ cV (S'.1 108 i) (pEs (dn, up, (ns, us, fl, bl, z, el), H) σ i x (H i) u) ∧ (W' i = true ∨ (A' i = some u ∧ cI (S'.1 107 i) (fun e => pFd (dn, up, (ns, us, fl, bl, z, el), H) σ x (H i) u e || (decide (e = 9) && !pMv (dn, up, (ns, us, fl, bl, z, el), H) σ x (H i) u)) ∧ lkC (dn, up, (ns, us, fl, bl, z, el), H) lc σ A' σ' i x u))
section CLE
variable {ns : List (List Int)} {us : List Int} {fl : List (List Int × Nat × Int)} {bl : List jB} {z : jL} {el : List (Nat × Nat × Nat × Nat)} {F : Int → Prop} {dn up : Int → Int} {H lc : Nat → Nat} {ty : Nat → Option (Nat → Int)} {th : Nat → Int} {n Q m0 : Nat} {σ : jG} {C : jH} {i : Nat} {x : jC} {u : jQ} {S : nk_S} {A : jA} {W : Nat → Bool}
theorem lkI_107 (hQ : Q = 13 ∨ Q = 49) {S : nk_S} {A : jA} {W : Nat → Bool} {a : Nat} (ha : a = 107 ∨ a = 108) (k : Nat) (v : Int) (h : lkI F dn up ns us fl bl z el H lc ty m0 Q S A W σ C) : lkI F dn up ns us fl bl z el H lc ty m0 Q (nk_wi S a k v) A W σ C := by
  obtain ⟨i1, i2, i3, i4, i5, i6⟩ := h
  have tn : ∀ c, c ≠ 107 → c ≠ 108 → (nk_wi S a k v).1 c = S.1 c := fun c h1 h2 => wi_n (by omega)
  refine ⟨cPv_c (S := S) hQ rfl (fun c hc => tn c (by omega) (by omega)) i1, ⟨?_, fun i x hx ho => by rw [tn 109 (by decide) (by decide)]; exact i2.2 i x hx ho⟩, cAm_1 (fun c _ _ => tn c (by omega) (by omega)) i3, cWt_1 (fun c _ _ => tn c (by omega) (by omega)) i4, cGm_1 (fun c _ _ => tn c (by omega) (by omega)) i5, i6⟩
  have := i2.1
  unfold cFx at this ⊢
  rw [tn 109 (by decide) (by decide), tn 110 (by decide) (by decide), tn 111 (by decide) (by decide)]
  exact this
theorem c_b294 (hk : kX F th n dn up ns us fl bl z el H lc ty Q) (hI0 : lkI F dn up ns us fl bl z el H lc ty m0 Q S A W σ C) (hx : z.1[i]? = some x) (hu : A i = some u) {S1 : nk_S} (hm : lkM F th n dn up ns us fl bl z el H lc ty m0 Q S A W σ C i x u S1) : ∃ S', ja_X4_look_b294 92 (i : Int) S1 = some (0, S') ∧ lkF F th n dn up ns us fl bl z el H lc ty m0 Q S A W σ C i x u S' := by
  obtain ⟨A1, W1, σ1, C1, m1, m2, m3, m4, m5, m6, ⟨mv, m7, m7'⟩, m8, m9, m10⟩ := hm
  obtain ⟨hQ, hC, hF, hN, hz⟩ := id hk
  obtain ⟨x', t, a1, a2, a3⟩ := hI0.2.2.2.2.2.1.1 i u hu
  have ex : x' = x := by
    have a1 : z.1[i]? = some x' := a1
    rw [hx] at a1; cases a1; rfl
  subst ex
  have a2 : ty i = some t := a2
  obtain ⟨xb, e, hp⟩ := pAt hC hx a2
  obtain ⟨⟨p1, p2, p3, p4, p5, p6⟩, -, -, -, -, -, ⟨l1, l2, l3, l4, l5⟩, ⟨r1, r2, r3⟩, -⟩ := id hp
  have hb48 : x'.2.2.2.1 < 48 := by have := at_lt p3; omega
  obtain ⟨G, hG⟩ : ∃ G : jZ, G = (dn, up, (ns, us, fl, bl, z, el), H) := ⟨_, rfl⟩
  obtain ⟨L, hL⟩ : ∃ L, L = pLs (dn, up, (ns, us, fl, bl, z, el), H) σ x' (H i) u := ⟨_, rfl⟩
  have hL54 : ∀ j, L j = true → j < 54 := fun j q => by
    rw [hL] at q
    exact sV_54 l4 j (pLs_ok hC hI0.2.2.2.2.2.1.2.1 hx a2 a3.1 q)
  obtain ⟨fv, hfv, hfi⟩ : ∃ fv, (∀ S2, ja_X4_look_b294 92 (i : Int) S1 = ja_X4_look_b321 92 (i : Int) 107 (i : Int) fv S1 ∨ S2 = S1 ∧ False) ∧ cI fv (fun e => pFd (dn, up, (ns, us, fl, bl, z, el), H) σ x' (H i) u e || (decide (e = 9) && !mv)) := by
    unfold ja_X4_look_b294
    rw [m7, jc_92_4]
    cases hmv : mv with
    | true =>
      refine ⟨S1.1 92 9, fun _ => Or.inl (by rw [if_neg (by decide)]), cI_e m6.1 (fun j => by rw [Bool.not_true, Bool.and_false, Bool.or_false])⟩
    | false =>
      refine ⟨nk_ior (S1.1 92 9) 512, fun _ => Or.inl (by rw [if_pos (show bi false = 0 from rfl)]), cI_e (cI_or m6.1 (t := onS 9) (cI_on (e := 9) (by decide))) (fun j => by
        show (_ || decide (j = 9)) = _
        rw [Bool.not_false, Bool.and_true])⟩
  have hfv := (hfv S1).resolve_right (fun q => q.2)
  obtain ⟨T, hT⟩ : ∃ T, T = nk_wi S1 107 i fv := ⟨_, rfl⟩
  have IT : lkI F dn up ns us fl bl z el H lc ty m0 Q T A1 W1 σ1 C1 := by rw [hT]; exact lkI_107 hQ (Or.inl rfl) i fv m2
  have t10 : T.1 92 10 = S1.1 92 10 := by rw [hT, wi_n (by decide)]
  obtain ⟨d, hd⟩ : ∃ d, e.2.2.1 + d = e.2.2.2 := ⟨e.2.2.2 - e.2.2.1, by omega⟩
  obtain ⟨mm, hmm⟩ := big_ge (d + 1) (by omega)
  have start : pLf us z x'.2.2.2.1 i L e.2.2.1 = L ∧ ctI (dn, up, (ns, us, fl, bl, z, el), H) i x' u lc L A1 e.2.2.1 := by
    have gen : ∀ c, c ≤ e.2.2.1 → pLf us z x'.2.2.2.1 i L c = L := by
      intro c
      induction c with
      | zero => intro _; rfl
      | succ c ih =>
        intro hc
        rw [pLf]
        cases hy : z.2.2.1[c]? with
        | none => exact ih (by omega)
        | some y =>
          dsimp only
          rw [if_neg (fun q => by have := (r3 c y hy).mp q.1; omega)]
          exact ih (by omega)
    refine ⟨gen _ (Nat.le_refl _), fun k y k1 k2 k3 => ?_⟩
    have k2 : z.2.2.1[k]? = some y := k2
    have := (r3 k y k2).mp k3
    omega
  have hw1 : W1 i = true ∨ (A1 i = some u ∧ ctI (dn, up, (ns, us, fl, bl, z, el), H) i x' u lc L A1 e.2.2.1) := by
    by_cases e : A1 i = A i
    · exact Or.inr ⟨by rw [e]; exact hu, start.2⟩
    · exact Or.inl (m3.2.2.1 i e)
  obtain ⟨S2, A2, W2, v2, s1, s2, s3, s4, s5, s6⟩ := c_ctcL hk hx m5 a2 hp hL hL54 d e.2.2.1 mm T A1 W1 (T.1 92 10) hd (Nat.le_refl _) IT (by rw [start.1, t10, hL]; exact m6.2) (m3.1 i u hu) hw1
  have hes : pLf us z x'.2.2.2.1 i L z.2.2.1.length = pEs (dn, up, (ns, us, fl, bl, z, el), H) σ i x' (H i) u := by rw [hL]; rfl
  rw [hes] at s5
  have hs54 : ∀ j, pEs (dn, up, (ns, us, fl, bl, z, el), H) σ i x' (H i) u j = true → j < 54 := fun j q => hL54 j (by rw [← hes] at q; exact pLf_sub _ j q)
  obtain ⟨T3, hT3⟩ : ∃ T3, T3 = nk_wi S2 108 i v2 := ⟨_, rfl⟩
  have I3 : lkI F dn up ns us fl bl z el H lc ty m0 Q T3 A2 W2 σ1 C1 := by rw [hT3]; exact lkI_107 hQ (Or.inr rfl) i v2 s3
  obtain ⟨S4, C4, u1, u2, u3, u4⟩ := c_addT (th := th) (n := n) l1 l2 I3.2.2.2.2.1 p3 hs54 s5
  have hlk : pLk F (dn, up, (ns, us, fl, bl, z, el), H) lc ty m0 i x' u σ := by
    obtain ⟨x2, h2⟩ := pLk_of hI0.2.2.2.2.2.1 hu
    have : x2 = x' := by
      have q : z.1[i]? = some x2 := h2.1
      rw [hx] at q; cases q; rfl
    rw [← this]; exact h2
  have hln : ∀ j, pEs (dn, up, (ns, us, fl, bl, z, el), H) σ i x' (H i) u j = true → lnP z σ1 j := fun j q => by
    rw [← hes] at q
    have q := pLf_sub _ j q
    rw [hL] at q
    exact lnP_m m5 (pLs_I (lnP_48 l4) hI0.2.2.2.2.2.2.1.2 (hI0.2.2.2.2.2.2.1.1 i u hu) q)
  have I4 : lkI F dn up ns us fl bl z el H lc ty m0 Q S4 A2 W2 (gTh σ1 x'.2.2.2.1 (pEs (dn, up, (ns, us, fl, bl, z, el), H) σ i x' (H i) u)) C4 := ⟨cPv_m hQ (mFr_s u2) I3.1, cFy_m (mFr_s u2) I3.2.1, cAm_1 (fun a h1 h2 => u2.2 a (by omega)) I3.2.2.1, cWt_1 (fun a h1 h2 => u2.2 a (by omega)) I3.2.2.2.1, u3, pIn_th hC I3.2.2.2.2.2.1 hlk, lnI_th I3.2.2.2.2.2.2.1 hln, I3.2.2.2.2.2.2.2⟩
  have f4 : ∀ a, a ≠ 107 → a ≠ 108 → a < 92 ∨ 107 ≤ a → S4.1 a = S.1 a := fun a h1 h2 h3 => by
    rw [u2.2 a (by omega), hT3, wi_n h2, s2.2 a h3, hT, wi_n h1, m1.2 a h3]
  refine ⟨S4, ?_, A2, W2, _, C4, ⟨by rw [u2.1, hT3]; show S2.2 = S.2; rw [s2.1, hT]; exact m1.1, fun a ha => f4 a (by omega) (by omega) (by omega), fun a ha j hj => ?_⟩, I4, aCh_trans m3 s4, gCg_trans m4 u4, gLe_trans m5 (gTh_le _ _ _), ?_, ?_⟩
  · have hcs : T.1 (Q + 20) x'.2.2.2.1 = (e.2.2.1 : Int) := (IT.1.2.2.1.2.2.2.2.2.2.1 _ e p4).2.2.1
    have hbo : T.1 (Q + 29) i = (x'.2.2.2.1 : Int) := (IT.1.2.2.1.2.2.2.2.2.2.2.2.1.1.2 i x' hx).2.2.2.2
    rw [hfv]
    unfold ja_X4_look_b321
    rw [if_pos (in_i (N := 1024) (by omega)), Int.toNat_natCast, lt_eq, ← hT]
    have tl : ja_X4_throwLoose 92 (i : Int) T = some (0, S4) := by
      unfold ja_X4_throwLoose
      rw [if_pos (in_i (N := 1024) (by omega)), IT.1.1, (jc_Qp hQ).2.2.2.2.2.1, Int.toNat_natCast, hbo, lt_eq, lt_eq, if_pos (in_i (N := 48) (by omega)), (jc_Q2 hQ).1, (jc_Qb hQ).2.2.2.1, Int.toNat_natCast, hcs, lt_eq, hmm, ← Nat.add_assoc, s1]
      unfold ja_X4_throwLoose_b144
      rw [if_pos (in_i (N := 1024) (by omega)), jc_92_5, Int.toNat_natCast, lt_eq, ← hT3, jc_92_3, u1, bd_some]
    rw [tl, bd_some]
  · rw [u2.2 a (by omega), hT3, wi_v]
    rcases ha with q | q
    · rw [if_neg (by omega), s2.2 a (by omega), hT, wi_v, if_neg (by omega), m1.2 a (by omega)]
    · rw [if_neg (by omega), s2.2 a (by omega), hT, wi_n (by omega), m1.2 a (by omega)]
  · rw [u2.2 108 (by omega), hT3, wi_at, if_pos rfl]
    exact s5
  · rcases s6 with q | ⟨q1, q2⟩
    · exact Or.inl q
    · rcases m7' with q7 | q7
      · exact Or.inl (s4.2.1 i q7)
      refine Or.inr ⟨q1, by rw [u2.2 107 (by omega), hT3, wi_n (by decide), s2.2 107 (by omega), hT, wi_at, if_pos rfl, ← q7]; exact hfi, fun j w hE => ?_, fun k => m9 k, fun q => m10 q, fun j q => ?_⟩
      · have old : ∀ t, A1 j = some t ∧ qLe w t → ∃ t, A2 j = some t ∧ qLe w t := fun t ht => by
          obtain ⟨v, v1, v2⟩ := s4.1 j t ht.1
          exact ⟨v, v1, qLe_trans ht.2 v2⟩
        rcases hE with q | q | ⟨k, y, c1, c2, c3, c4, c5, c6, c7⟩ | q | q
        · obtain ⟨t, ht⟩ := m8 j w (Or.inl q); exact old t ht
        · obtain ⟨t, ht⟩ := m8 j w (Or.inr (Or.inl q)); exact old t ht
        · rw [c5, c7]
          have := q2 k y (at_lt c1) c1 c2 c3 c4 (by rw [hL]; exact c6)
          rw [hL] at this
          rw [c5]
          exact this
        · obtain ⟨t, ht⟩ := m8 j w (Or.inr (Or.inr (Or.inl q))); exact old t ht
        · obtain ⟨t, ht⟩ := m8 j w (Or.inr (Or.inr (Or.inr q))); exact old t ht
      · unfold gTh
        dsimp only
        rw [if_pos rfl]
        unfold sOr
        rw [Bool.or_eq_true]
        exact Or.inr q
end CLE
