/-! The reference's look: a catch takes. -/
section RCT
variable {ns : List (List Int)} {us : List Int} {fl : List (List Int × Nat × Int)} {bl : List jB} {z : jL} {el : List (Nat × Nat × Nat × Nat)} {F : Int → Prop} {dn up : Int → Int} {H lc : Nat → Nat} {ty : Nat → Option (Nat → Int)} {th : Nat → Int} {n P m0 : Nat} {σ : jG} {i : Nat} {x : jC} {u : jQ} {S T : nk_S} {A R : jA} {D : Nat → Bool}
theorem jc_Pk (hP : P = 122 ∨ P = 168) : ja_c P 28 = P + 21 ∧ ja_c P 29 = P + 22 ∧ ja_c P 30 = P + 23 ∧ ja_c P 31 = P + 24 ∧ ja_c P 32 = P + 25 := by
  rcases hP with rfl | rfl <;> exact ⟨rfl, rfl, rfl, rfl, rfl⟩
/-- does a catch cover an instruction -/
theorem r_cov (hP : P = 122 ∨ P = 168) {k : Nat} (hk : k < 64) (hi : i < 1024) {y : Nat × Nat × Nat × Nat × Nat} (h1 : S.1 (P + 21) k = (y.1 : Int)) (h2 : S.1 (P + 22) k = (y.2.1 : Int)) (h3 : S.1 (P + 23) k = (y.2.2.1 : Int)) {b : Nat} (h4 : S.1 (P + 18) i = (b : Int)) : ja_X13_covers P (k : Int) (i : Int) S = some (bi (decide (y.1 = b ∧ y.2.1 ≤ i ∧ i < y.2.2.1)), S) := by
  obtain ⟨c28, c29, c30, -, -⟩ := jc_Pk hP
  obtain ⟨-, -, -, c25, -⟩ := jc_Pc hP
  unfold ja_X13_covers
  rw [if_pos (in_i (N := 64) (by omega)), if_pos (in_i (N := 1024) (by omega)), c28, c29, c30, c25, Int.toNat_natCast, Int.toNat_natCast, h1, h2, h3, h4]
  by_cases d1 : y.1 = b
  · rw [if_pos (show (y.1 : Int) = (b : Int) by omega)]
    by_cases d2 : y.2.1 ≤ i
    · rw [if_neg (by omega)]
      by_cases d3 : i < y.2.2.1
      · rw [if_neg (by omega), decide_eq_true ⟨d1, d2, d3⟩]; rfl
      · rw [if_pos (by omega), decide_eq_false (fun q => d3 q.2.2)]; rfl
    · rw [if_pos (by omega), decide_eq_false (fun q => d2 q.2.1)]; rfl
  · rw [if_neg (show ¬ (y.1 : Int) = (b : Int) by omega), decide_eq_false (fun q => d1 q.1)]; rfl
/-- a row is brought -/
theorem rk_br (hk : rKx F th n dn up ns us fl bl z el H lc ty P) (hI : rkI F dn up ns us fl bl z el H lc ty m0 P S A D σ R) {j : Nat} {v : jQ} (hp : pIn F (dn, up, (ns, us, fl, bl, z, el), H) lc ty m0 (aArr A j (qRs (lc j) (H j) v)) σ) (hq : qI (lnP z σ) v) (hv : ∀ k, wOk F (v k)) (hv0 : ∀ k, lc j ≤ k → k < 12 → v k = wU) (hr : rX S (12 + H j) v) : ∃ S' c, ja_X13_bring 121 P (j : Int) S = some (0, S') ∧ bFr P S S' ∧ rkI F dn up ns us fl bl z el H lc ty m0 P S' (aArr A j (qRs (lc j) (H j) v)) (fun i => if i = j ∧ c = true then true else D i) σ R ∧ S'.1 121 36 = (if c = true then 1 else S.1 121 36) ∧ (c = true ↔ aArr A j (qRs (lc j) (H j) v) ≠ A) := by
  obtain ⟨i1, i2, i3, i4, i5, i6, i7, i8, i9⟩ := id hI
  have hPP := hk.1
  obtain ⟨x', t', s1, s2, -⟩ := hp.1 j _ aArr_at
  have s2 : ty j = some t' := s2
  have s1 : z.1[j]? = some x' := s1
  have hj : j < 1024 := by
    have := at_lt s1
    have := hk.2.2.2.2.1.1
    omega
  have hlc := hk.2.2.2.2.2.1 j
  obtain ⟨S', c, g1, g2, g3, g4, g5, g6⟩ := r_bring (F := F) (lc := lc) (S := S) (A := A) (fun i u hu => (hk.2.2.2.2.2.1 i).2) hPP hj hlc.2 hlc.1 i2 (aWf_of i6.1) (D := D) i3 (v := v) hv hv0 (i1.2 j t' s2) hr
  have hqr : qI (lnP z σ) (qRs (lc j) (H j) v) := fun k => by
    unfold qRs
    split
    · exact hq k
    · intro s q; cases q
  exact ⟨S', c, g1, g2, ⟨rPv_c (fun a h1 h2 => g2.2.1 a (by omega) (by omega) (by omega)) (g2.2.1 224 (by omega) (by omega) (by omega)) i1, g3, g4, rGm_c (fun a h1 h2 => g2.2.1 a (by omega) (by omega) (by omega)) i4, rRm_c (fun a h1 h2 => g2.2.1 a (by omega) (by omega) (by omega)) i5, hp, lnI_row i7 hqr, i8, i9⟩, g5, g6⟩
/-- a catch takes what it can -/
theorem r_take (hk : rKx F th n dn up ns us fl bl z el H lc ty P) (hI : rkI F dn up ns us fl bl z el H lc ty m0 P S A D σ R) {uc : jQ} (hA : A i = some uc) (hx : z.1[i]? = some x) {L : Nat → Bool} (hL : sLe L (pLs (dn, up, (ns, us, fl, bl, z, el), H) σ x (H i) uc)) (hLq : ∀ s, L s = true → lnP z σ s) {k : Nat} {y : Nat × Nat × Nat × Nat × Nat} (hy : z.2.2.1[k]? = some y) (h1 : y.1 = x.2.2.2.1) (h2 : y.2.1 ≤ i) (h3 : i < y.2.2.1) (hH : H y.2.2.2.1 = 1 ∧ lc y.2.2.2.1 = lc i) {v22 : Int} (hv : cV v22 (sAnd (pLf us z x.2.2.2.1 i L k) (pB us z (4 + 2 * (y.2.2.2.2 : Int))))) (hn : sEx (sAnd (pLf us z x.2.2.2.1 i L k) (pB us z (4 + 2 * (y.2.2.2.2 : Int)))) = true) (g : nk_S → Option (Int × nk_S)) : ∃ S' c, (nk_bd (ja_X13_fetch 121 P (i : Int) S) fun _ S25 => nk_lt (nk_wi S25 121 25 12) fun S27 => nk_bd (ja_X13_leaveSites 121 v22 S27) fun _ S30 => nk_bd (ja_X13_bring 121 P (S30.1 (P + 24) k) S30) fun _ S34 => g S34) = g S' ∧ (S'.2 = S.2 ∧ (∀ a, ¬ (P + 27 ≤ a ∧ a ≤ P + 36) → (a < 229 ∨ 238 < a) → a ≠ 121 → S'.1 a = S.1 a) ∧ ∀ f, f ≠ 36 → f ≠ 25 → S'.1 121 f = S.1 121 f) ∧ rkI F dn up ns us fl bl z el H lc ty m0 P S' (aArr A y.2.2.2.1 (qRs (lc y.2.2.2.1) (H y.2.2.2.1) (qUp uc 12 (wS (sAnd (pLf us z x.2.2.2.1 i L k) (pB us z (4 + 2 * (y.2.2.2.2 : Int)))))))) (fun j => if j = y.2.2.2.1 ∧ c = true then true else D j) σ R ∧ S'.1 121 36 = (if c = true then 1 else S.1 121 36) ∧ (c = true ↔ aArr A y.2.2.2.1 (qRs (lc y.2.2.2.1) (H y.2.2.2.1) (qUp uc 12 (wS (sAnd (pLf us z x.2.2.2.1 i L k) (pB us z (4 + 2 * (y.2.2.2.2 : Int))))))) ≠ A) := by
  obtain ⟨i1, i2, i3, i4, i5, i6, i7, i8, i9⟩ := id hI
  have hPP := hk.1
  obtain ⟨t, xb, e, a1, a2, ⟨⟨p1, p2, p3, p4, p5, p6⟩, ⟨c1, c2, c3⟩, -⟩, hd, hg, hlk⟩ := rk_at hk hI hx hA
  obtain ⟨M, hM⟩ : ∃ M, M = sAnd (pLf us z x.2.2.2.1 i L k) (pB us z (4 + 2 * (y.2.2.2.2 : Int))) := ⟨_, rfl⟩
  obtain ⟨w1, w2⟩ := pIn_ct hk.2.1 i6 hA hx hL hy h1 h2 h3 hH.1 hn
  rw [← hM] at w1 w2 hv ⊢
  obtain ⟨S1, s1, s2, s3, s4, s5⟩ := r_fetch (F := F) hPP p2 c3 a2.1.1 i2 hA (i1.2 i t a1)
  have nS1 : uFr S S1 := ⟨s2, s3, s4⟩
  obtain ⟨S2, hS2⟩ : ∃ S2, S2 = nk_wi S1 121 25 ((12 : Nat) : Int) := ⟨_, rfl⟩
  have n2 : uFr S S2 := by rw [hS2]; exact uFr_trans nS1 uFr_25
  have r2 : rRw S2 12 uc := ⟨by rw [hS2, wi_at, if_pos rfl], by rw [hS2]; exact rX_w (rX_25 s5.2) (by omega) (fun _ _ => rfl)⟩
  obtain ⟨S3, g1, g2, g3⟩ := r_leaveS (S := S2) (t := 12) (by omega) r2 hv
  have n3 := uFr_trans n2 g2
  have I3 := rkI_n hPP (nFr_u n3) hI
  have hq : qI (lnP z σ) (qUp uc 12 (wS M)) := fun j => by
    by_cases e0 : j = 12
    · rw [e0, qUp_at]
      intro s q
      have q : M s = true := q
      rw [hM] at q
      unfold sAnd at q
      rw [Bool.and_eq_true] at q
      exact hLq s (pLf_sub k s q.1)
    · rw [qUp_ne e0]; exact i7.1 i uc hA j
  obtain ⟨S4, c, b1, b2, b3, b4, b5⟩ := rk_br hk I3 (j := y.2.2.2.1) (v := qUp uc 12 (wS M)) w2 hq w1 (fun j j1 j2 => by
    rw [qUp_ne (by omega)]
    rw [hH.2] at j1
    exact a2.2 j (by unfold rel; omega)) (by rw [hH.1]; exact g3.2)
  have hat : S3.1 (P + 24) k = (y.2.2.2.1 : Int) := by
    rw [n3.2.1 (P + 24) (by omega) (by omega)]
    exact (i1.1.2.2.2.2.2.2.2.2.2.2.2.2.1.2 k y hy).2.2.2.1
  refine ⟨S4, c, ?_, ⟨by rw [b2.1, n3.1], fun a h1 h2 h3 => by rw [b2.2.1 a (by omega) (by omega) h3, n3.2.1 a (by omega) h3], fun f h1 h2 => by rw [b2.2.2 f h1, n3.2.2 f h2]⟩, b3, by rw [b4, n3.2.2 36 (by decide)], b5⟩
  have hS2' : nk_wi S1 121 25 12 = S2 := hS2.symm
  rw [s1, bd_some, lt_eq, hS2', g1, bd_some, hat, b1, bd_some]
end RCT
