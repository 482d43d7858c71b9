/-! The reference's look, whole. -/
/-- all that comes from an instruction, as it was looked at, is there -/
def rkC (G : jZ) (lc : Nat → Nat) (σ : jG) (A' : jA) (σ' : jG) (R' : jA) (i : Nat) (x : jC) (u : jQ) : Prop := (∀ j w, pEd G σ i x u lc j w → (∃ t, A' j = some t ∧ qLe w t) ∨ ∃ b e r, (zEl G)[b]? = some e ∧ j = e.1 ∧ R' b = some r ∧ qLe w r) ∧ (∀ k, oLe (pCo G σ x (zH G i) u k) (σ'.1 k)) ∧ (x.1 = 42 ∨ x.1 = 43 → σ'.2.1 x.2.2.2.1 = true) ∧ sLe (pEs G σ i x (zH G i) u) (σ'.2.2 x.2.2.2.1)
/-- what changes in a look -/
def rlF (P i : Nat) (S S' : nk_S) : Prop := S'.2 = S.2 ∧ (∀ a, ¬ (P + 27 ≤ a ∧ a ≤ P + 45) → (a < 229 ∨ 238 < a) → a ≠ 121 → S'.1 a = S.1 a) ∧ (∀ a, a = P + 37 ∨ a = P + 38 → ∀ j, j ≠ i → S'.1 a j = S.1 a j) ∧ ∀ f, f ≠ 25 → f ≠ 36 → f ≠ 37 → f ≠ 38 → f ≠ 39 → f ≠ 40 → S'.1 121 f = S.1 121 f
/-- a look is done -/
def rkF (F : Int → Prop) (th : Nat → Int) (n : Nat) (dn up : Int → Int) (ns : List (List Int)) (us : List Int) (fl : List (List Int × Nat × Int)) (bl : List jB) (z : jL) (el : List (Nat × Nat × Nat × Nat)) (H lc : Nat → Nat) (ty : Nat → Option (Nat → Int)) (m0 P : Nat) (S : nk_S) (A : jA) (D : Nat → Bool) (σ : jG) (R : jA) (i : Nat) (x : jC) (u : jQ) (S' : nk_S) : Prop := ∃ A' D' σ' R', rlF P i S S' ∧ rkI F dn up ns us fl bl z el H lc ty m0 P S' A' D' σ' R' ∧ aCh th n A D A' D' ∧ aCg th n S A S' A' ∧ vCh th n S σ R S' σ' R' ∧ gLe σ σ' ∧ aLe R R' ∧ cV (S'.1 (P + 38) i) (pEs (dn, up, (ns, us, fl, bl, z, el), H) σ i x (H i) u) ∧ (D' i = true ∨ (A' i = some u ∧ cI (S'.1 (P + 37) i) (fun e => pFd (dn, up, (ns, us, fl, bl, z, el), H) σ x (H i) u e || (decide (e = 9) && !pMv (dn, up, (ns, us, fl, bl, z, el), H) σ x (H i) u)) ∧ rkC (dn, up, (ns, us, fl, bl, z, el), H) lc σ A' σ' R' i x u))
section RLW
variable {ns : List (List Int)} {us : List Int} {fl : List (List Int × Nat × Int)} {bl : List jB} {z : jL} {el : List (Nat × Nat × Nat × Nat)} {F : Int → Prop} {dn up : Int → Int} {H lc : Nat → Nat} {ty : Nat → Option (Nat → Int)} {th : Nat → Int} {n P m0 : Nat} {σ σ0 : jG} {i : Nat} {x : jC} {u : jQ} {S : nk_S} {A R : jA} {D : Nat → Bool}
/-- the second half of a look -/
theorem r_half (hk : rKx F th n dn up ns us fl bl z el H lc ty P) (hkc : ∀ (k : Nat) (y : Nat × Nat × Nat × Nat × Nat), z.2.2.1[k]? = some y → y.2.2.2.2 < us.length) (hI0 : rkI F dn up ns us fl bl z el H lc ty m0 P S A D σ R) (hx : z.1[i]? = some x) (hu : A i = some u) {S1 : nk_S} (hm : rkM F th n dn up ns us fl bl z el H lc ty m0 P S A D σ R i x u S1) {l4 : Int} (h4 : cI l4 (lkB (dn, up, (ns, us, fl, bl, z, el), H) σ x (H i) u)) : ∃ S', ja_X13_look_L207 nk_big 121 P (i : Int) l4 0 S1 = some (0, S') ∧ rkF F th n dn up ns us fl bl z el H lc ty m0 P S A D σ R i x u S' := by
  obtain ⟨A1, D1, σ1, R1, m1, m2, m3, m4, m5, m6, m7, m8, m9, ⟨mv, m10, m11⟩, m12, m13, m14, m15⟩ := hm
  obtain ⟨t, xb, e, a1, a2, hp, hd, hg, hlk⟩ := rk_at hk hI0 hx hu
  obtain ⟨-, -, -, -, -, -, ⟨l1, l2, l3, l4', l5⟩, -⟩ := id hp
  have hP := hk.1
  obtain ⟨S', A2, D2, g1, g2, g3, g4, g5, g6, g7, g8, g9⟩ := r_lkE hk hkc hx hlk m2 m6 (m3.1 i u hu) (by
    by_cases e : A1 i = A i
    · exact Or.inr (by rw [e]; exact hu)
    · exact Or.inl (m3.2.2.1 i e)) (fun s q => pLs_I (lnP_48 l4') hI0.2.2.2.2.2.2.1.2 (hI0.2.2.2.2.2.2.1.1 i u hu) q) m8 m9 m10 h4
  refine ⟨S', g1, A2, D2, _, R1, ⟨by rw [g2.1, m1.1], fun a h1 h2 h3 => by rw [g2.2.1 a (by omega) (by omega) h2 h3, m1.2.1 a (by omega) (by omega) h2 h3], fun a h1 j hj => by rw [g2.2.2.1 a h1 j hj, m1.2.1 a (by omega) (by omega) (by omega) (by omega)], fun f h1 h2 h3 h4 h5 h6 => by rw [g2.2.2.2 f h1 h2 h3 h6, m1.2.2 f h1 h2 h3 h4 h5 h6]⟩, g3, aCh_trans m3 g4, aCg_trans m4 g5, vCh_trans m5 g6, gLe_trans m6 (gTh_le _ _ _), m7, g7, ?_⟩
  rcases g9 with q | ⟨q1, q2⟩
  · exact Or.inl q
  · rcases m11 with q7 | q7
    · exact Or.inl (g4.2.1 i q7)
    refine Or.inr ⟨q1, cI_e g8 (fun e => by rw [lkB_fd, q7]), fun j w hE => ?_, fun k => m14 k, fun q => m15 q, fun j q => ?_⟩
    · have old : ∀ t, A1 j = some t ∧ qLe w t → ∃ t, A2 j = some t ∧ qLe w t := fun t ht => by
        obtain ⟨v, v1, v2⟩ := g4.1 j t ht.1
        exact ⟨v, v1, qLe_trans ht.2 v2⟩
      have e0 : pE0 (dn, up, (ns, us, fl, bl, z, el), H) σ i x u lc j w → (∃ t, A2 j = some t ∧ qLe w t) ∨ ∃ b e r, el[b]? = some e ∧ j = e.1 ∧ R1 b = some r ∧ qLe w r := fun q => by
        rcases m12 j w q with q | ⟨t, ht⟩
        · exact Or.inr (m13 j w q)
        · exact Or.inl (old t ht)
      rcases hE with q | q | ⟨k, y, c1, c2, c3, c4, c5, c6, c7⟩ | q | q
      · exact e0 (Or.inl q)
      · exact e0 (Or.inr (Or.inl q))
      · left
        rw [c7, c5]
        exact q2 k y (at_lt c1) c1 c2 c3 c4 c6
      · exact e0 (Or.inr (Or.inr (Or.inl q)))
      · exact e0 (Or.inr (Or.inr (Or.inr q)))
    · unfold gTh
      dsimp only
      rw [if_pos rfl]
      unfold sOr
      rw [Bool.or_eq_true]
      exact Or.inr q
/-- a look -/
theorem r_look (hk : rKx F th n dn up ns us fl bl z el H lc ty P) (hfw : ∀ (f : Nat) (y : List Int × Nat × Int), fl[f]? = some y → 8 ≤ y.2.1 ∧ y.2.1 < 32) (hpt : ∀ (b : Nat) (y : jB), bl[b]? = some y → ∀ k, k < y.ps.length → y.ps.getD k 0 = 1 ∨ 2 ≤ y.ps.getD k 0) (hkc : ∀ (k : Nat) (y : Nat × Nat × Nat × Nat × Nat), z.2.2.1[k]? = some y → y.2.2.2.2 < us.length) (hI : rkI F dn up ns us fl bl z el H lc ty m0 P S A D σ R) (hx : z.1[i]? = some x) (hu : A i = some u) : ∃ S', ja_X13_look 121 P (i : Int) S = some (0, S') ∧ rkF F th n dn up ns us fl bl z el H lc ty m0 P S A D σ R i x u S' := by
  have hP := hk.1
  obtain ⟨t, xb, e, a1, a2, hp, hd, hg, hlk⟩ := rk_at hk hI hx hu
  obtain ⟨⟨p1, p2, p3, p4, p5, p6⟩, -, -, -, -, -, ⟨l1, l2, l3, l4', l5⟩, -⟩ := id hp
  obtain ⟨T, hT⟩ : ∃ T, T = nk_wi (nk_wi (nk_wi S 121 39 0) 121 40 0) 121 38 0 := ⟨_, rfl⟩
  have tn : ∀ a, a ≠ 121 → T.1 a = S.1 a := fun a ha => by rw [hT, wi_n ha, wi_n ha, wi_n ha]
  have tf : ∀ f, f ≠ 38 → f ≠ 39 → f ≠ 40 → T.1 121 f = S.1 121 f := fun f h1 h2 h3 => by rw [hT, wi_at, if_neg h1, wi_at, if_neg h3, wi_at, if_neg h2]
  have t38 : T.1 121 38 = 0 := by rw [hT, wi_at, if_pos rfl]
  have t40 : T.1 121 40 = 0 := by rw [hT, wi_at, if_neg (by decide), wi_at, if_pos rfl]
  have t39 : T.1 121 39 = 0 := by rw [hT, wi_at, if_neg (by decide), wi_at, if_neg (by decide), wi_at, if_pos rfl]
  obtain ⟨i1, i2, i3, i4, i5, i6, i7, i8, i9⟩ := id hI
  have IT : rkI F dn up ns us fl bl z el H lc ty m0 P T A D σ R := ⟨rPv_c (fun a h1 h2 => tn a (by omega)) (tn 224 (by omega)) i1, rAm_c (fun a h1 h2 => tn a (by omega)) i2, fun j hj => by rw [tn 238 (by omega)]; exact i3 j hj, rGm_c (fun a h1 h2 => tn a (by omega)) i4, rRm_c (fun a h1 h2 => tn a (by omega)) i5, i6, i7, i8, i9⟩
  have hh : ∃ S', ja_X13_look 121 P (i : Int) S = some (0, S') ∧ rkF F th n dn up ns us fl bl z el H lc ty m0 P T A D σ R i x u S' := by
    have hop := (rk_op hI hx).1
    unfold ja_X13_look
    rw [if_pos (in_i (N := 1024) (by omega)), (jc_Pc hP).1, Int.toNat_natCast, hop, lt_eq, lt_eq, lt_eq, lt_eq, ← hT]
    by_cases ho : 20 ≤ x.1 ∧ x.1 ≤ 29
    · rw [if_neg (by omega), if_neg (by omega)]
      obtain ⟨S2, g1, g2⟩ := r_ways hk IT hx hu ho t38 t39 t40
      have g1 := g1
      rw [Int.toNat_natCast] at g1
      rw [g1]
      refine r_half hk hkc IT hx hu g2 (cI_e cI_8.1 (fun e => ?_))
      unfold lkB onS
      rw [decide_eq_false (show ¬ x.1 = 41 by omega), decide_eq_false (show ¬ (x.1 = 39 ∨ x.1 = 40) by omega)]
      simp
    · obtain ⟨S2, g1, g2⟩ := r_b94 hk hfw hpt IT hx hu ho t38 t39 t40
      have eb : (if (x.1 : Int) < 20 then ja_X13_look_b94 121 P (i : Int) (x.1 : Int) 256 T else if 29 < (x.1 : Int) then ja_X13_look_b94 121 P (i : Int) (x.1 : Int) 256 T else none) = ja_X13_look_b94 121 P (i : Int) (x.1 : Int) 256 T := by
        by_cases c : x.1 < 20
        · rw [if_pos (by omega)]
        · rw [if_neg (by omega), if_pos (by omega)]
      obtain ⟨l4, q1, q2⟩ := r_b153 (P := P) (i := (i : Int)) (S := S2) (G := (dn, up, (ns, us, fl, bl, z, el), H)) (σ := σ) (x := x) (h := H i) (u := u) (by obtain ⟨A1, D1, σ1, R1, m1, m2, m3, m4, m5, m6, m7, m8, m9, -⟩ := g2; exact m9) (fun s q => by
        have hl : pLs (dn, up, (ns, us, fl, bl, z, el), H) σ x (H i) u s = true := by unfold pLs; rw [q]; rfl
        have := sV_54 l4' s (pLs_ok hk.2.1 hg hx a1 a2.1 hl)
        omega)
      obtain ⟨S', r1, r2⟩ := r_half hk hkc IT hx hu g2 q2
      refine ⟨S', ?_, r2⟩
      by_cases c : x.1 < 20
      · rw [if_pos (by omega), g1, q1, r1]
      · rw [if_neg (by omega), if_pos (by omega), g1, q1, r1]
  obtain ⟨S', g1, A', D', σ', R', f1, f2, f3, f4, f5, f6⟩ := hh
  refine ⟨S', g1, A', D', σ', R', ⟨by rw [f1.1, hT]; rfl, fun a h1 h2 h3 => by rw [f1.2.1 a h1 h2 h3, tn a h3], fun a h1 j hj => by rw [f1.2.2.1 a h1 j hj, tn a (by omega)], fun f h1 h2 h3 h4 h5 h6 => by rw [f1.2.2.2 f h1 h2 h3 h4 h5 h6, tf f h4 h5 h6]⟩, f2, f3, ?_, ?_, f6⟩
  · unfold aCg at f4 ⊢
    rw [tf 36 (by decide) (by decide) (by decide)] at f4
    exact f4
  · unfold vCh at f5 ⊢
    rw [tf 37 (by decide) (by decide) (by decide)] at f5
    exact f5
end RLW
