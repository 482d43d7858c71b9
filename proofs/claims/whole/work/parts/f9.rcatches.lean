/-! The reference's look: all catches. -/
/-- nothing has changed, or it is told and there is less to come -/
def aCg (th : Nat → Int) (n : Nat) (S : nk_S) (A : jA) (S' : nk_S) (A' : jA) : Prop := (S'.1 121 36 = S.1 121 36 ∧ A' = A) ∨ (S'.1 121 36 = 1 ∧ aMs th n A' < aMs th n A)
/-- what changes while catches take -/
def ctF (P : Nat) (S S' : nk_S) : Prop := S'.2 = S.2 ∧ (∀ a, ¬ (P + 27 ≤ a ∧ a ≤ P + 36) → (a < 229 ∨ 238 < a) → a ≠ 121 → S'.1 a = S.1 a) ∧ ∀ f, f ≠ 36 → f ≠ 25 → f ≠ 40 → S'.1 121 f = S.1 121 f
section RCA
variable {ns : List (List Int)} {us : List Int} {fl : List (List Int × Nat × Int)} {bl : List jB} {z : jL} {el : List (Nat × Nat × Nat × Nat)} {F : Int → Prop} {dn up : Int → Int} {H lc : Nat → Nat} {ty : Nat → Option (Nat → Int)} {th : Nat → Int} {n P m0 : Nat} {σ σ0 : jG} {i : Nat} {x : jC} {u : jQ} {R : jA}
theorem ctF_rfl {S : nk_S} : ctF P S S := ⟨rfl, fun _ _ _ _ => rfl, fun _ _ _ _ => rfl⟩
theorem ctF_trans {S1 S2 S3 : nk_S} (h : ctF P S1 S2) (q : ctF P S2 S3) : ctF P S1 S3 := ⟨q.1.trans h.1, fun a r x y => (q.2.1 a r x y).trans (h.2.1 a r x y), fun f r x y => (q.2.2 f r x y).trans (h.2.2 f r x y)⟩
theorem aCg_rfl {S : nk_S} {A : jA} : aCg th n S A S A := Or.inl ⟨rfl, rfl⟩
theorem aCg_trans {S1 S2 S3 : nk_S} {A1 A2 A3 : jA} (h : aCg th n S1 A1 S2 A2) (k : aCg th n S2 A2 S3 A3) : aCg th n S1 A1 S3 A3 := by
  rcases h with ⟨a, b⟩ | ⟨a, b⟩
  · rcases k with ⟨c, d⟩ | ⟨c, d⟩
    · exact Or.inl ⟨c.trans a, d.trans b⟩
    · right; rw [b] at d; exact ⟨c, d⟩
  · rcases k with ⟨c, d⟩ | ⟨c, d⟩
    · right; rw [d]; exact ⟨c.trans a, b⟩
    · right; exact ⟨c, by omega⟩
theorem aCg_c {S S' : nk_S} {A A' : jA} {D D' : Nat → Bool} {c : Bool} (h : aCh th n A D A' D') (h1 : S'.1 121 36 = (if c = true then 1 else S.1 121 36)) (h2 : c = true ↔ A' ≠ A) : aCg th n S A S' A' := by
  cases hc : c with
  | false =>
    left
    rw [hc, if_neg (by decide)] at h1
    refine ⟨h1, Classical.byContradiction fun q => ?_⟩
    rw [h2.mpr q] at hc
    cases hc
  | true =>
    right
    rw [hc, if_pos rfl] at h1
    rcases h.2.2.2.2 with ⟨q, -⟩ | q
    · exact absurd q (h2.mp hc)
    · exact ⟨h1, q⟩
theorem r_ctL (hk : rKx F th n dn up ns us fl bl z el H lc ty P) (hkc : ∀ (k : Nat) (y : Nat × Nat × Nat × Nat × Nat), z.2.2.1[k]? = some y → y.2.2.2.2 < us.length) (hx : z.1[i]? = some x) (hg0 : gLe σ0 σ) {t : Nat → Int} (ht : ty i = some t) {xb : jB} {e : Nat × Nat × Nat × Nat} (hp : pAf ns us fl bl z el H lc i x t xb e) {L : Nat → Bool} (hL0 : L = pLs (dn, up, (ns, us, fl, bl, z, el), H) σ0 x (H i) u) (hL : ∀ j, L j = true → j < 54) (hLq : ∀ s, L s = true → lnP z σ s) : ∀ (d c m : Nat) (S : nk_S) (A : jA) (D : Nat → Bool), c + d = z.2.2.1.length → d < m → rkI F dn up ns us fl bl z el H lc ty m0 P S A D σ R → cV (S.1 121 40) (pLf us z x.2.2.2.1 i L c) → (∃ uc, A i = some uc ∧ qLe u uc) → (D i = true ∨ (A i = some u ∧ ctI (dn, up, (ns, us, fl, bl, z, el), H) i x u lc L A c)) → ∃ S' A' D' m', ja_X13_look_L280 m 121 P (i : Int) (c : Int) S = ja_X13_look_b280 (ja_X13_look_L280 m') 121 P (i : Int) (z.2.2.1.length : Int) S' ∧ ctF P S S' ∧ rkI F dn up ns us fl bl z el H lc ty m0 P S' A' D' σ R ∧ aCh th n A D A' D' ∧ aCg th n S A S' A' ∧ cV (S'.1 121 40) (pLf us z x.2.2.2.1 i L z.2.2.1.length) ∧ (D' i = true ∨ (A' i = some u ∧ ctI (dn, up, (ns, us, fl, bl, z, el), H) i x u lc L A' z.2.2.1.length)) := by
  obtain ⟨hP, hC, -, hN, hz, hB, hps, -, -⟩ := id hk
  obtain ⟨⟨p1, p2, p3, p4, p5, p6⟩, -, -, -, pc, -, ⟨l1, l2, l3, l4, l5⟩, -⟩ := id hp
  have hul := un_len hC hx
  have hL63 : ∀ j, L j = true → j < 63 := fun j q => by have := hL j q; omega
  obtain ⟨c28, c29, c30, c31, c32⟩ := jc_Pk hP
  intro d
  induction d with
  | zero =>
    intro c m S A D h1 h2 hI hv hu hw
    obtain ⟨m, rfl⟩ : ∃ q, m = q + 1 := ⟨m - 1, by omega⟩
    obtain rfl : c = z.2.2.1.length := by omega
    exact ⟨S, A, D, m, rfl, ctF_rfl, hI, aCh_rfl, aCg_rfl, hv, hw⟩
  | succ d ih =>
    intro c m S A D h1 h2 hI hv hu hw
    obtain ⟨m, rfl⟩ : ∃ q, m = q + 1 := ⟨m - 1, by omega⟩
    have es : ∀ _ : Unit, nk_w ((c : Int) + 1) = ((c + 1 : Nat) : Int) := fun _ => w_nat1 (by omega)
    obtain ⟨y, hy⟩ : ∃ y, z.2.2.1[c]? = some y := ⟨_, List.getElem?_eq_getElem (by omega)⟩
    have hkl := hI.1.1.2.2.2.2.2.2.2.2.2.2.2.2.1
    obtain ⟨y1, y2, y3, y4, y5⟩ := hkl.2 c y hy
    have hlen : S.1 P 5 = (z.2.2.1.length : Int) := hkl.1
    have hbo := (rk_op hI hx).2.2.2
    have hcov := r_cov (S := S) (i := i) hP (k := c) (by omega) p2 y1 y2 y3 hbo
    -- nothing is taken
    have none' : (y.1 = x.2.2.2.1 ∧ y.2.1 ≤ i ∧ i < y.2.2.1 → sEx (sAnd (pLf us z x.2.2.2.1 i L c) (pB us z (4 + 2 * (y.2.2.2.2 : Int)))) = false) → (ja_X13_look_L280 (m + 1) 121 P (i : Int) (c : Int) S = ja_X13_look_L280 m 121 P (i : Int) ((c + 1 : Nat) : Int) S) → ∃ S' A' D' m', ja_X13_look_L280 (m + 1) 121 P (i : Int) (c : Int) S = ja_X13_look_b280 (ja_X13_look_L280 m') 121 P (i : Int) (z.2.2.1.length : Int) S' ∧ ctF P S S' ∧ rkI F dn up ns us fl bl z el H lc ty m0 P S' A' D' σ R ∧ aCh th n A D A' D' ∧ aCg th n S A S' A' ∧ cV (S'.1 121 40) (pLf us z x.2.2.2.1 i L z.2.2.1.length) ∧ (D' i = true ∨ (A' i = some u ∧ ctI (dn, up, (ns, us, fl, bl, z, el), H) i x u lc L A' z.2.2.1.length)) := by
      intro hs he
      rw [he]
      refine ih (c + 1) m S A D (by omega) (by omega) hI (by rw [pLf_no hy hL63 hs]; exact hv) hu ?_
      rcases hw with q | ⟨q1, q2⟩
      · exact Or.inl q
      · refine Or.inr ⟨q1, fun k y' k1 k2 k3 k4 k5 k6 => ?_⟩
        by_cases e : k < c
        · exact q2 k y' e k2 k3 k4 k5 k6
        · have ek : k = c := by omega
          rw [ek] at k2 k6
          have k2 : z.2.2.1[c]? = some y' := k2
          rw [hy] at k2
          cases k2
          have k6' : sEx (sAnd (pLf us z x.2.2.2.1 i L c) (pB us z (4 + 2 * (y.2.2.2.2 : Int)))) = true := k6
          rw [hs ⟨k3, k4, k5⟩] at k6'; cases k6'
    have head : ja_X13_look_L280 (m + 1) 121 P (i : Int) (c : Int) S = ja_X13_look_b280 (ja_X13_look_L280 m) 121 P (i : Int) (c : Int) S := rfl
    by_cases cv : y.1 = x.2.2.2.1 ∧ y.2.1 ≤ i ∧ i < y.2.2.1
    · have hyc := hkc c y hy
      have vt : tV us (4 + 2 * (y.2.2.2.2 : Int)) := by unfold tV; omega
      obtain ⟨r, r1, r2⟩ := rk_sb (S := S) hk hI.1 hul vt
      have er : ∀ _ : Unit, nk_w (8 + (y.2.2.2.2 : Int)) = rvU (4 + 2 * (y.2.2.2.2 : Int)) := fun _ => by
        have := hC.2.2.2.2.1
        rw [nk_w_id (by omega) (by omega)]
        unfold rvU
        rw [if_neg (by omega), if_neg (by omega), if_neg (by omega), if_neg (by omega), if_pos (by omega)]
        omega
      have hcv := cV_and hv r2
      have hx63 : ∀ j, sAnd (pLf us z x.2.2.2.1 i L c) (pB us z (4 + 2 * (y.2.2.2.2 : Int))) j = true → j < 63 := fun j q => by
        unfold sAnd at q
        rw [Bool.and_eq_true] at q
        exact hL63 j (pLf_sub c j q.1)
      by_cases z0 : nk_land (S.1 121 40) r = 0
      · refine none' (fun _ => (cV_ex hcv hx63).mp z0) ?_
        rw [head]
        unfold ja_X13_look_b280
        rw [hlen, if_neg (by omega), hcov, bd_some, decide_eq_true cv, if_neg (show ¬ bi true = 0 by decide), if_pos (in_i (N := 64) (by omega)), c32, Int.toNat_natCast, y5, er (), r1, bd_some, lt_eq, if_pos z0, es (), lt_eq]
      · have hn : sEx (sAnd (pLf us z x.2.2.2.1 i L c) (pB us z (4 + 2 * (y.2.2.2.2 : Int)))) = true := by
          cases hq : sEx (sAnd (pLf us z x.2.2.2.1 i L c) (pB us z (4 + 2 * (y.2.2.2.2 : Int)))) with
          | true => rfl
          | false => exact absurd ((cV_ex hcv hx63).mpr hq) z0
        obtain ⟨uc, hA, hle⟩ := hu
        obtain ⟨x', t', a1, a2, a3⟩ := hI.2.2.2.2.2.1.1 i uc hA
        have hLc : sLe L (pLs (dn, up, (ns, us, fl, bl, z, el), H) σ x (H i) uc) := by
          have a2 : ty i = some t' := a2
          rw [hL0]
          exact pLs_mono hC.1 hg0 (gOk_kd hI.2.2.2.2.2.1.2.1) hle a3.1.2.1 (pCx_at hC hx a2 a3.1).1
        obtain ⟨pc1, pc2, pc3, pc4⟩ := pc c y hy cv.1 cv.2.1 cv.2.2
        obtain ⟨S1, cc, b1, b2, b3, b4, b5⟩ := r_take hk hI hA hx hLc hLq hy cv.1 cv.2.1 cv.2.2 ⟨pc1, pc2⟩ hcv hn (fun S34 => nk_lt (nk_wi S34 121 40 (nk_land (S34.1 121 40) (nk_lxor (nk_land (S.1 121 40) r) (-1)))) fun S36 => nk_lt (nk_w ((c : Int) + 1)) fun v38 => ja_X13_look_L280 m 121 P (i : Int) v38 S36)
        have hch := (aCh_arr (W := D) hN (j := y.2.2.2.1) (by omega) hB (aWf_of hI.2.2.2.2.2.1.1) (qRs_wf (l := lc y.2.2.2.1) (g := H y.2.2.2.1) (pIn_ct hC hI.2.2.2.2.2.1 hA hx hLc hy cv.1 cv.2.1 cv.2.2 pc1 hn).1) b5).1
        obtain ⟨A1, hA1⟩ : ∃ A1, A1 = aArr A y.2.2.2.1 (qRs (lc y.2.2.2.1) (H y.2.2.2.1) (qUp uc 12 (wS (sAnd (pLf us z x.2.2.2.1 i L c) (pB us z (4 + 2 * (y.2.2.2.2 : Int))))))) := ⟨_, rfl⟩
        rw [← hA1] at b3 b5 hch
        obtain ⟨S2, hS2⟩ : ∃ S2, S2 = nk_wi S1 121 40 (nk_land (S.1 121 40) (nk_lxor (nk_land (S.1 121 40) r) (-1))) := ⟨_, rfl⟩
        have s40 : S1.1 121 40 = S.1 121 40 := b2.2.2 40 (by decide) (by decide)
        have n2 : nFr S1 S2 := by rw [hS2]; exact ⟨rfl, fun a _ h => wi_n h, fun f _ _ h => by rw [wi_at, if_neg h]⟩
        have f12 : ctF P S S2 := ⟨by rw [n2.1, b2.1], fun a q1 q2 q3 => by rw [n2.2.1 a (by omega) q3, b2.2.1 a q1 q2 q3], fun f q1 q2 q3 => by rw [hS2, wi_at, if_neg q3, b2.2.2 f q1 q2]⟩
        have hlf : pLf us z x.2.2.2.1 i L (c + 1) = sMi (pLf us z x.2.2.2.1 i L c) (pB us z (4 + 2 * (y.2.2.2.2 : Int))) := by
          rw [pLf, hy]
          dsimp only
          rw [if_pos cv]
        have cg : aCg th n S A S2 A1 := aCg_c hch (by rw [hS2, wi_at, if_neg (show ¬ (36 : Nat) = 40 by decide)]; exact b4) b5
        obtain ⟨S', A', D', m', g1, g2, g3, g4, g5, g6⟩ := ih (c + 1) m S2 A1 _ (by omega) (by omega) (rkI_n hP n2 b3) (by rw [hlf, hS2, wi_at, if_pos rfl]; exact nk_not_and hv hcv) (by
          obtain ⟨q, q1, q2⟩ := hch.1 i uc hA
          exact ⟨q, q1, qLe_trans hle q2⟩) (by
          rcases hw with q | ⟨q1, q2⟩
          · exact Or.inl (hch.2.1 i q)
          · by_cases ei : A1 i = A i
            · have eu : uc = u := by rw [q1] at hA; cases hA; rfl
              refine Or.inr ⟨by rw [ei]; exact q1, fun k y' k1 k2 k3 k4 k5 k6 => ?_⟩
              by_cases e : k < c
              · exact ctI_m hch.1 q2 k y' e k2 k3 k4 k5 k6
              · have ek : k = c := by omega
                rw [ek] at k2 ⊢
                have k2 : z.2.2.1[c]? = some y' := k2
                rw [hy] at k2
                cases k2
                rw [hA1, eu]
                exact (aLe_arr A _ _).2
            · exact Or.inl (hch.2.2.1 i ei))
        refine ⟨S', A', D', m', ?_, ctF_trans f12 g2, g3, aCh_trans hch g4, aCg_trans cg g5, g6⟩
        rw [head, ← g1]
        unfold ja_X13_look_b280
        rw [hlen, if_neg (by omega), hcov, bd_some, decide_eq_true cv, if_neg (show ¬ bi true = 0 by decide), if_pos (in_i (N := 64) (by omega)), c31, c32, Int.toNat_natCast, y5, er (), r1, bd_some, lt_eq, if_neg z0, b1, s40, lt_eq, ← hS2, es (), lt_eq]
    · refine none' (fun q => absurd q cv) ?_
      rw [head]
      unfold ja_X13_look_b280
      rw [hlen, if_neg (by omega), hcov, bd_some, decide_eq_false cv, if_pos (show bi false = 0 from rfl), es (), lt_eq]
end RCA
