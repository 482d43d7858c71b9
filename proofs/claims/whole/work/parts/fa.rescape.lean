/-! The reference's look: what escapes. -/
section RES
variable {ns : List (List Int)} {us : List Int} {fl : List (List Int × Nat × Int)} {bl : List jB} {z : jL} {el : List (Nat × Nat × Nat × Nat)} {F : Int → Prop} {dn up : Int → Int} {H lc : Nat → Nat} {ty : Nat → Option (Nat → Int)} {th : Nat → Int} {n P m0 : Nat} {σ σ0 : jG} {i : Nat} {x : jC} {u : jQ} {S : nk_S} {A R : jA} {D : Nat → Bool}
/-- what changes when the escapes are written down -/
def esF (P i : Nat) (S S' : nk_S) : Prop := S'.2 = S.2 ∧ (∀ a, a ≠ P + 38 → a ≠ P + 45 → a ≠ 121 → S'.1 a = S.1 a) ∧ (∀ j, j ≠ i → S'.1 (P + 38) j = S.1 (P + 38) j) ∧ ∀ f, f ≠ 37 → S'.1 121 f = S.1 121 f
theorem r_esc (hk : rKx F th n dn up ns us fl bl z el H lc ty P) (hx : z.1[i]? = some x) (hlk : pLk F (dn, up, (ns, us, fl, bl, z, el), H) lc ty m0 i x u σ0) (hI : rkI F dn up ns us fl bl z el H lc ty m0 P S A D σ R) (hi : i < 1024) (hb : x.2.2.2.1 < 48) {E : Nat → Bool} (hE : E = pEs (dn, up, (ns, us, fl, bl, z, el), H) σ0 i x (H i) u) (hv : cV (S.1 121 40) E) (h54 : ∀ j, E j = true → j < 54) (hln : ∀ j, E j = true → lnP z σ j) {rc : Nat → Nat → Int → Int → nk_S → Option (Int × nk_S)} : ∃ S', ja_X13_look_b280 rc 121 P (i : Int) (z.2.2.1.length : Int) S = some (0, S') ∧ esF P i S S' ∧ rkI F dn up ns us fl bl z el H lc ty m0 P S' A D (gTh σ x.2.2.2.1 E) R ∧ vCh th n S σ R S' (gTh σ x.2.2.2.1 E) R ∧ cV (S'.1 (P + 38) i) E := by
  obtain ⟨i1, i2, i3, i4, i5, i6, i7, i8, i9⟩ := id hI
  have hP := hk.1
  obtain ⟨-, -, -, c25, -, -, c45⟩ := jc_Pc hP
  obtain ⟨-, -, -, -, -, -, c52⟩ := jc_Pv hP
  have hlen : S.1 P 5 = (z.2.2.1.length : Int) := i1.1.2.2.2.2.2.2.2.2.2.2.2.2.1.1
  have hbo := (rk_op hI hx).2.2.2
  have hth := i4.2.2 x.2.2.2.1 hb
  have hpI := pIn_th hk.2.1 i6 hlk
  rw [← hE] at hpI
  have hlnI := lnI_th i7 (b := x.2.2.2.1) hln
  have hgle := gTh_le σ x.2.2.2.1 E
  have hrp := rpI_m hgle i9
  obtain ⟨T, hT⟩ : ∃ T, T = nk_wi S (P + 38) i (S.1 121 40) := ⟨_, rfl⟩
  have tn : ∀ a, a ≠ P + 38 → T.1 a = S.1 a := fun a h => by rw [hT, wi_n h]
  have t38 : T.1 (P + 38) i = S.1 121 40 := by rw [hT, wi_at, if_pos rfl]
  have zz := cV_ex (cV_and hv (cV_not hth)) (fun j q => by
    unfold sAnd at q
    rw [Bool.and_eq_true] at q
    have := h54 j q.1
    omega)
  unfold ja_X13_look_b280
  rw [hlen, if_pos (Int.le_refl _), if_pos (in_i (N := 1024) (by omega)), c45, c25, c52, Int.toNat_natCast, lt_eq, ← hT, tn (P + 18) (by omega), hbo, lt_eq, if_pos (in_i (N := 48) (by omega)), Int.toNat_natCast, tn 121 (by omega), tn (P + 45) (by omega)]
  by_cases c : nk_land (S.1 121 40) (nk_lxor (S.1 (P + 45) x.2.2.2.1) (-1)) = 0
  · rw [if_pos c]
    have hs := zz.mp c
    have eg : gTh σ x.2.2.2.1 E = σ := by
      unfold gTh
      refine Prod.ext rfl (Prod.ext rfl (funext fun b' => ?_))
      dsimp only
      by_cases e : b' = x.2.2.2.1
      · rw [if_pos e, e]
        funext j
        unfold sOr
        cases hj : E j with
        | false => rw [Bool.or_false]
        | true =>
          cases hq : σ.2.2 x.2.2.2.1 j with
          | true => rfl
          | false =>
            have : sEx (sAnd E (sNo (σ.2.2 x.2.2.2.1))) = true := sEx_iff.mpr ⟨j, by have := h54 j hj; omega, by unfold sAnd sNo; rw [hj, hq]; rfl⟩
            rw [hs] at this; cases this
      · rw [if_neg e]
    rw [eg]
    refine ⟨T, rfl, ⟨by rw [hT]; rfl, fun a h1 _ _ => tn a h1, fun j hj => by rw [hT, wi_at, if_neg hj], fun f _ => by rw [tn 121 (by omega)]⟩, ⟨rPv_c (fun a h1 h2 => tn a (by omega)) (tn 224 (by omega)) i1, rAm_c (fun a h1 h2 => tn a (by omega)) i2, fun j hj => by rw [tn 238 (by omega)]; exact i3 j hj, rGm_c (fun a h1 h2 => tn a (by omega)) i4, rRm_c (fun a h1 h2 => tn a (by omega)) i5, i6, i7, i8, i9⟩, Or.inl ⟨by rw [tn 121 (by omega)], rfl, rfl⟩, by rw [t38]; exact hv⟩
  · rw [if_neg c, lt_eq, lt_eq]
    obtain ⟨T2, hT2⟩ : ∃ T2, T2 = nk_wi (nk_wi T (P + 45) x.2.2.2.1 (nk_lor (S.1 (P + 45) x.2.2.2.1) (S.1 121 40))) 121 37 1 := ⟨_, rfl⟩
    rw [← hT2]
    have mn : ∀ a, a ≠ P + 45 → a ≠ 121 → T2.1 a = T.1 a := fun a h1 h2 => by rw [hT2, wi_n h2, wi_n h1]
    have nn : ∀ a, a ≠ P + 38 → a ≠ P + 45 → a ≠ 121 → T2.1 a = S.1 a := fun a h1 h2 h3 => by rw [mn a h2 h3, tn a h1]
    have hne : gTh σ x.2.2.2.1 E ≠ σ := fun q => by
      apply c
      apply zz.mpr
      refine nf_t (fun w => ?_)
      obtain ⟨j, j1, j2⟩ := sEx_iff.mp w
      unfold sAnd sNo at j2
      rw [Bool.and_eq_true] at j2
      have q := congrFun (congrFun (congrArg (fun τ : jG => τ.2.2) q) x.2.2.2.1) j
      unfold gTh sOr at q
      dsimp only at q
      rw [if_pos rfl] at q
      rw [j2.1, Bool.or_true] at q
      rw [← q] at j2
      cases j2.2
    refine ⟨T2, rfl, ⟨by rw [hT2, hT]; rfl, nn, fun j hj => by rw [mn (P + 38) (by omega) (by omega), hT, wi_at, if_neg hj], fun f hf => by rw [hT2, wi_at, if_neg hf, wi_n (by omega), tn 121 (by omega)]⟩, ⟨rPv_c (fun a h1 h2 => nn a (by omega) (by omega) (by omega)) (nn 224 (by omega) (by omega) (by omega)) i1, rAm_c (fun a h1 h2 => nn a (by omega) (by omega) (by omega)) i2, fun j hj => by rw [nn 238 (by omega) (by omega) (by omega)]; exact i3 j hj, ⟨fun k hk' => rVo_c (fun a h1 h2 => by rw [nn a (by omega) (by omega) (by omega)]) (i4.1 k hk'), fun b hb' => by rw [nn (P + 43) (by omega) (by omega) (by omega)]; exact i4.2.1 b hb', fun b hb' => ?_⟩, fun b yb hyb => ⟨by rw [nn (P + 44) (by omega) (by omega) (by omega)]; exact (i5 b yb hyb).1, fun q j hj => rVo_c (fun a h1 h2 => by rw [nn a (by omega) (by omega) (by omega)]) ((i5 b yb hyb).2.1 q j hj), fun r q j hj => rVo_c (fun a h1 h2 => by rw [nn a (by omega) (by omega) (by omega)]) ((i5 b yb hyb).2.2 r q j hj)⟩, hpI, hlnI, i8, hrp⟩, Or.inr ⟨by rw [hT2, wi_at, if_pos rfl], ?_⟩, by rw [mn (P + 38) (by omega) (by omega), t38]; exact hv⟩
    · rw [hT2, wi_n (by omega), wi_at]
      unfold gTh
      dsimp only
      by_cases e : b = x.2.2.2.1
      · rw [if_pos e, if_pos e]
        exact cV_or hth hv
      · rw [if_neg e, if_neg e, tn (P + 45) (by omega)]
        exact i4.2.2 b hb'
    · have := gMs_th (th := th) (n := n) hb h54 hne
      omega
end RES
