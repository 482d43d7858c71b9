/-! The reference's look: its end, whole. -/
section RLE
variable {ns : List (List Int)} {us : List Int} {fl : List (List Int × Nat × Int)} {bl : List jB} {z : jL} {el : List (Nat × Nat × Nat × Nat)} {F : Int → Prop} {dn up : Int → Int} {H lc : Nat → Nat} {ty : Nat → Option (Nat → Int)} {th : Nat → Int} {n P m0 : Nat} {σ σ0 : jG} {i : Nat} {x : jC} {u : jQ} {S : nk_S} {A R : jA} {D : Nat → Bool}
/-- what changes at the end of a look -/
def leF (P i : Nat) (S S' : nk_S) : Prop := S'.2 = S.2 ∧ (∀ a, ¬ (P + 27 ≤ a ∧ a ≤ P + 38) → a ≠ P + 45 → (a < 229 ∨ 238 < a) → a ≠ 121 → S'.1 a = S.1 a) ∧ (∀ a, a = P + 37 ∨ a = P + 38 → ∀ j, j ≠ i → S'.1 a j = S.1 a j) ∧ ∀ f, f ≠ 25 → f ≠ 36 → f ≠ 37 → f ≠ 40 → S'.1 121 f = S.1 121 f
theorem erT_L {G : jZ} {h : Nat} : erT (pTh G σ x h u) (rzS G σ x h u) 6 = pLs G σ x h u := by
  funext s
  unfold erT pLs rzS
  by_cases c1 : 48 ≤ s
  · by_cases c2 : s < 54
    · rw [decide_eq_true c1, decide_eq_true (show s < 48 + 6 by omega), decide_eq_true (show s - 48 < 6 by omega)]
      simp
    · rw [decide_eq_false (show ¬ s < 48 + 6 by omega)]
      simp
  · rw [decide_eq_false c1]
    simp
theorem r_lkE (hk : rKx F th n dn up ns us fl bl z el H lc ty P) (hkc : ∀ (k : Nat) (y : Nat × Nat × Nat × Nat × Nat), z.2.2.1[k]? = some y → y.2.2.2.2 < us.length) (hx : z.1[i]? = some x) (hlk : pLk F (dn, up, (ns, us, fl, bl, z, el), H) lc ty m0 i x u σ0) (hI : rkI F dn up ns us fl bl z el H lc ty m0 P S A D σ R) (hg0 : gLe σ0 σ) (hAu : ∃ uc, A i = some uc ∧ qLe u uc) (hw : D i = true ∨ A i = some u) (hln : ∀ s, pLs (dn, up, (ns, us, fl, bl, z, el), H) σ0 x (H i) u s = true → lnP z σ0 s) (hrz : cI (S.1 121 39) (rzS (dn, up, (ns, us, fl, bl, z, el), H) σ0 x (H i) u)) (hth : cV (S.1 121 40) (pTh (dn, up, (ns, us, fl, bl, z, el), H) σ0 x (H i) u)) {mv : Bool} (h38 : S.1 121 38 = bi mv) {l4 : Int} {lb : Nat → Bool} (h4 : cI l4 lb) : ∃ S' A' D', ja_X13_look_L207 nk_big 121 P (i : Int) l4 0 S = some (0, S') ∧ leF P i S S' ∧ rkI F dn up ns us fl bl z el H lc ty m0 P S' A' D' (gTh σ x.2.2.2.1 (pEs (dn, up, (ns, us, fl, bl, z, el), H) σ0 i x (H i) u)) R ∧ aCh th n A D A' D' ∧ aCg th n S A S' A' ∧ vCh th n S σ R S' (gTh σ x.2.2.2.1 (pEs (dn, up, (ns, us, fl, bl, z, el), H) σ0 i x (H i) u)) R ∧ cV (S'.1 (P + 38) i) (pEs (dn, up, (ns, us, fl, bl, z, el), H) σ0 i x (H i) u) ∧ cI (S'.1 (P + 37) i) (fun e => (rzS (dn, up, (ns, us, fl, bl, z, el), H) σ0 x (H i) u e || lb e) || (decide (e = 9) && !mv)) ∧ (D' i = true ∨ (A' i = some u ∧ ctI (dn, up, (ns, us, fl, bl, z, el), H) i x u lc (pLs (dn, up, (ns, us, fl, bl, z, el), H) σ0 x (H i) u) A' z.2.2.1.length)) := by
  have hP := hk.1
  obtain ⟨uc, hA, hle⟩ := id hAu
  obtain ⟨t, xb, e, a1, a2, hp, hd, hg, -⟩ := rk_at hk hI hx hA
  obtain ⟨⟨p1, p2, p3, p4, p5, p6⟩, -, -, -, -, -, ⟨l1, l2, l3, l4', l5⟩, -⟩ := id hp
  have hb48 : x.2.2.2.1 < 48 := by have := at_lt p3; omega
  obtain ⟨q1, ⟨t0, q2, q3⟩, q4, q5⟩ := id hlk
  have q2 : ty i = some t0 := q2
  obtain ⟨L, hL⟩ : ∃ L, L = pLs (dn, up, (ns, us, fl, bl, z, el), H) σ0 x (H i) u := ⟨_, rfl⟩
  have hL54 : ∀ j, L j = true → j < 54 := fun j q => by
    rw [hL] at q
    exact sV_54 l4' j (pLs_ok hk.2.1 q4 hx q2 q3.1 q)
  have hLq : ∀ s, L s = true → lnP z σ s := fun s q => by
    rw [hL] at q
    exact lnP_m hg0 (hln s q)
  obtain ⟨T, r, g1, g2, g3, g4, g5, g6⟩ := r_errs (S := S) hP (i := i) p2 h4 hrz hth h38
  rw [erT_L, ← hL] at g6
  obtain ⟨T1, hT1⟩ : ∃ T1, T1 = nk_wi T (P + 37) i r := ⟨_, rfl⟩
  rw [← hT1] at g1
  have tn : ∀ a, a ≠ P + 37 → a ≠ 121 → T1.1 a = S.1 a := fun a h1 h2 => by rw [hT1, wi_n h1, g4 a h2]
  have tf : ∀ f, f ≠ 40 → T1.1 121 f = S.1 121 f := fun f hf => by rw [hT1, wi_n (by omega), g5 f hf]
  have t2 : T1.2 = S.2 := by rw [hT1]; exact g3
  have t40 : T1.1 121 40 = T.1 121 40 := by rw [hT1, wi_n (by omega)]
  obtain ⟨i1, i2, i3, i4, i5, i6, i7, i8, i9⟩ := id hI
  have I1 : rkI F dn up ns us fl bl z el H lc ty m0 P T1 A D σ R := ⟨rPv_c (fun a h1 h2 => tn a (by omega) (by omega)) (tn 224 (by omega) (by omega)) i1, rAm_c (fun a h1 h2 => tn a (by omega) (by omega)) i2, fun j hj => by rw [tn 238 (by omega) (by omega)]; exact i3 j hj, rGm_c (fun a h1 h2 => tn a (by omega) (by omega)) i4, rRm_c (fun a h1 h2 => tn a (by omega) (by omega)) i5, i6, i7, i8, i9⟩
  obtain ⟨bm, hbm⟩ := big_ge 100 (by decide)
  obtain ⟨S2, A', D', m', s1, s2, s3, s4, s5, s6, s7⟩ := r_ctL (R := R) (u := u) hk hkc hx hg0 a1 hp hL hL54 hLq z.2.2.1.length 0 nk_big T1 A D (by omega) (by omega) I1 (by rw [t40]; exact g6) hAu (by
    rcases hw with q | q
    · exact Or.inl q
    · exact Or.inr ⟨q, fun k y k1 => by omega⟩)
  have hes : pLf us z x.2.2.2.1 i L z.2.2.1.length = pEs (dn, up, (ns, us, fl, bl, z, el), H) σ0 i x (H i) u := by rw [hL]; rfl
  rw [hes] at s6
  have hEs : ∀ j, pEs (dn, up, (ns, us, fl, bl, z, el), H) σ0 i x (H i) u j = true → L j = true := fun j q => by rw [← hes] at q; exact pLf_sub _ j q
  obtain ⟨S3, d1, d2, d3, d4, d5⟩ := r_esc (th := th) (n := n) (S := S2) (rc := ja_X13_look_L280 m') hk hx hlk s3 p2 hb48 rfl s6 (fun j q => hL54 j (hEs j q)) (fun j q => hLq j (hEs j q))
  have s1 : ja_X13_look_L280 nk_big 121 P (i : Int) 0 T1 = ja_X13_look_b280 (ja_X13_look_L280 m') 121 P (i : Int) (z.2.2.1.length : Int) S2 := s1
  refine ⟨S3, A', D', by rw [g1, s1, d1], ⟨by rw [d2.1, s2.1, t2], fun a h1 h2 h3 h4 => by rw [d2.2.1 a (by omega) h2 h4, s2.2.1 a (by omega) h3 h4, tn a (by omega) h4], fun a h1 j hj => ?_, fun f h1 h2 h3 h4 => by rw [d2.2.2.2 f h3, s2.2.2 f h2 h1 h4, tf f h4]⟩, d3, s4, ?_, ?_, d5, ?_, by rw [hL] at s7; exact s7⟩
  · rcases h1 with h1 | h1
    · subst h1
      rw [d2.2.1 (P + 37) (by omega) (by omega) (by omega), s2.2.1 (P + 37) (by omega) (by omega) (by omega), hT1, wi_at, if_neg hj, g4 (P + 37) (by omega)]
    · subst h1
      rw [d2.2.2.1 j hj, s2.2.1 (P + 38) (by omega) (by omega) (by omega), tn (P + 38) (by omega) (by omega)]
  · unfold aCg at s5 ⊢
    rw [d2.2.2.2 36 (by decide), ← tf 36 (by decide)]
    exact s5
  · unfold vCh at d4 ⊢
    rw [s2.2.2 37 (by decide) (by decide) (by decide), tf 37 (by decide)] at d4
    exact d4
  · rw [d2.2.1 (P + 37) (by omega) (by omega) (by omega), s2.2.1 (P + 37) (by omega) (by omega) (by omega), hT1, wi_at, if_pos rfl]
    exact g2
end RLE
