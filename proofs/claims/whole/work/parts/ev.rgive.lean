/-! The reference ends bodies. -/
section RGV
variable {ns : List (List Int)} {us : List Int} {fl : List (List Int × Nat × Int)} {bl : List jB} {z : jL} {el : List (Nat × Nat × Nat × Nat)} {F : Int → Prop} {dn up : Int → Int} {H lc : Nat → Nat} {ty : Nat → Option (Nat → Int)} {th : Nat → Int} {n P m0 : Nat} {σ : jG} {i : Nat} {x : jC} {u : jQ} {S T : nk_S} {A R : jA} {D : Nat → Bool}
theorem r_end (hP : P = 122 ∨ P = 168) {b : Nat} (hb : b < 48) (hG : rGm S P σ) (hR : rRm S P bl R) : ∃ S', ja_X13_given_b20 121 P (b : Int) S = some (0, S') ∧ tbF P S S' ∧ rGm S' P (gEn σ b) ∧ rRm S' P bl R ∧ vCh th n S σ R S' (gEn σ b) R := by
  obtain ⟨c46, c47, c48, c49, c50, -, -⟩ := jc_Pv hP
  obtain ⟨T, hT⟩ : ∃ T, T = (if σ.2.1 b = true then S else nk_wi S 121 37 1) := ⟨_, rfl⟩
  obtain ⟨S', hS'⟩ : ∃ S', S' = nk_wi T (P + 43) b 1 := ⟨_, rfl⟩
  have nT : ∀ a, a ≠ 121 → T.1 a = S.1 a := fun a h => by
    rw [hT]
    split
    · rfl
    · rw [wi_n h]
  have n37 : S'.1 121 37 = (if σ.2.1 b = true then S.1 121 37 else 1) := by
    rw [hS', wi_n (by omega), hT]
    split
    · rfl
    · rw [wi_at, if_pos rfl]
  have fr : tbF P S S' := by
    refine ⟨?_, fun a h1 h2 => by rw [hS', wi_n (by omega), nT a h2], fun f hf => ?_⟩
    · rw [hS', hT]; split <;> rfl
    · rw [hS', wi_n (by omega), hT]
      split
      · rfl
      · rw [wi_at, if_neg hf]
  have nn : ∀ a, a ≠ 121 → a ≠ P + 43 → S'.1 a = S.1 a := fun a h1 h2 => by rw [hS', wi_n h2, nT a h1]
  refine ⟨S', ?_, fr, ⟨fun k hk => rVo_c (fun a h1 h2 => by rw [nn a (by omega) (by omega)]) (hG.1 k hk), fun c hc => ?_, fun c hc => by rw [nn (P + 45) (by omega) (by omega)]; exact hG.2.2 c hc⟩, fun c y hy => ⟨by rw [nn (P + 44) (by omega) (by omega)]; exact (hR c y hy).1, fun q j hj => rVo_c (fun a h1 h2 => by rw [nn a (by omega) (by omega)]) ((hR c y hy).2.1 q j hj), fun r q j hj => rVo_c (fun a h1 h2 => by rw [nn a (by omega) (by omega)]) ((hR c y hy).2.2 r q j hj)⟩, ?_⟩
  · unfold ja_X13_given_b20 ja_X13_given_b34
    rw [if_pos (in_i (N := 48) (by omega)), c50, Int.toNat_natCast, hG.2.1 b hb]
    cases hq : σ.2.1 b with
    | false =>
      rw [hq] at hT
      have hT : T = nk_wi S 121 37 1 := hT
      rw [if_pos (show bi false = 0 from rfl), lt_eq, if_pos (in_i (N := 48) (by omega)), lt_eq, ← hT, ← hS']
    | true =>
      rw [hq] at hT
      have hT : T = S := hT
      rw [if_neg (show ¬ bi true = 0 by decide), if_pos (in_i (N := 48) (by omega)), lt_eq, ← hT, ← hS']
  · unfold gEn
    dsimp only
    rw [hS', wi_at]
    by_cases e : c = b
    · rw [if_pos e, if_pos e]; rfl
    · rw [if_neg e, if_neg e, nT (P + 43) (by omega)]; exact hG.2.1 c hc
  · cases hq : σ.2.1 b with
    | true =>
      left
      rw [hq, if_pos rfl] at n37
      refine ⟨n37, ?_, rfl⟩
      unfold gEn
      refine Prod.ext rfl (Prod.ext (funext fun c => ?_) rfl)
      dsimp only
      by_cases e : c = b
      · rw [if_pos e, e, hq]
      · rw [if_neg e]
    | false =>
      right
      rw [hq, if_neg (by decide)] at n37
      refine ⟨n37, ?_⟩
      have := gMs_en (th := th) (n := n) (σ := σ) hb (fun q => by
        have := congrFun (congrArg (fun τ : jG => τ.2.1) q) b
        unfold gEn at this
        dsimp only at this
        rw [if_pos rfl, hq] at this
        cases this)
      omega
theorem rh_give (hk : rKx F th n dn up ns us fl bl z el H lc ty P) (hS : gbS F dn up ns us fl bl z el H lc ty m0 P A D σ R i u T) (hx : z.1[i]? = some x) (hu : A i = some u) (ho : x.1 = 42) : ∃ S1, ja_X13_goesBehind 121 P (i : Int) T = some (bi (pGo (dn, up, (ns, us, fl, bl, z, el), H) σ x (H i) u).isSome, S1) ∧ gbH F th n dn up ns us fl bl z el H lc ty m0 P T A D σ R i x u S1 := by
  obtain ⟨t1, t2, t3, t4⟩ := id hS
  obtain ⟨t, xb, e, a1, a2, ⟨⟨p1, p2, p3, p4, p5, p6⟩, ⟨c1, c2, c3⟩, -, -, -, ⟨d1, d2⟩, ⟨l1, l2, l3, l4, l5⟩, -, y1, y2⟩, hd, hg, hlk⟩ := rk_at hk t1 hx hu
  obtain ⟨i1, i2, i3, i4, i5, i6, i7, i8, i9⟩ := id t1
  obtain ⟨k2, k4, kb, ki, kr, krr, k33, k34, k36, kc, k40, k42⟩ := hd
  have hPP := hk.1
  have etk := (tkX_n (bl := bl) (x := x) (by omega))
  rw [tHo_1 ⟨by omega, by omega, by omega, by omega⟩ (by rw [etk.1, ho]; exact tk_sp.2.2.2.2.2.2), ho] at d1
  have g1 : (decide (xb.rs ≠ -1) && tLe us (t (12 + H i - 1)) xb.rs) = true := d1
  rw [Bool.and_eq_true] at g1
  have hrs := of_decide_eq_true g1.1
  have hty := (y2 xb (List.mem_of_getElem? p3)).resolve_left hrs
  obtain ⟨-, hso, -, huO, h32, -⟩ := id hk.2.1
  obtain ⟨v1, v2, v3⟩ := vOk_1 a2.1 (12 + H i - 1)
  obtain ⟨q0, q1⟩ := k42 ho
  have hvl : vl1 F us z xb.rs (wBr (u (12 + H i - 1))) := wBr_v ⟨v1, wTy_le huO h32 hso hty.1 g1.2 v2, v3⟩ q0
  have hb48 : x.2.2.2.1 < 48 := by have := at_lt p3; omega
  obtain ⟨o1, o2, o3, o4⟩ := rk_op t1 hx
  have hgo : pGo (dn, up, (ns, us, fl, bl, z, el), H) σ x (H i) u = none := pGo_n (by omega)
  have hco : ∀ k, pCo (dn, up, (ns, us, fl, bl, z, el), H) σ x (H i) u k = if k = 2700 + x.2.2.2.1 then some (wBr (u (12 + H i - 1))) else none := fun k => by
    unfold pCo
    rw [if_neg (by omega), if_neg (by omega), if_neg (by omega), if_neg (by omega), if_pos ho]
  have e1 : ∀ _ : Unit, nk_w (((12 + H i : Nat) : Int) - 1) = ((12 + H i - 1 : Nat) : Int) := fun _ => top_w (d := 1) c3 (by omega)
  have ei : ∀ _ : Unit, nk_w (3276 + (x.2.2.2.1 : Int)) = ((3276 + x.2.2.2.1 : Nat) : Int) := fun _ => by
    rw [nk_w_id (z := 3276 + (x.2.2.2.1 : Int)) (by omega) (by omega)]; omega
  have ix : rIx (2700 + x.2.2.2.1) = 3276 + x.2.2.2.1 := by unfold rIx; rw [if_neg (by omega)]; omega
  have zt : zTp fl bl z (2700 + x.2.2.2.1) = xb.rs := zTp_r p3
  obtain ⟨b1, b2, b3, b4⟩ := gAds_I hk.2.1 i6 i7 i8 hlk (fun τ hτ => qI_m (fun _ => lnP_m hτ) (i7.1 i u hu)) (gAds_ad gAds_rfl (k := 2700 + x.2.2.2.1) (w := wBr (u (12 + H i - 1))) (by rw [hco, if_pos rfl]))
  have jo : jnO P (rIx (2700 + x.2.2.2.1)) T (σ.1 (2700 + x.2.2.2.1)) (wBr (u (12 + H i - 1))) (ja_X13_joinSlotInto 121 P ((rIx (2700 + x.2.2.2.1) : Nat) : Int) ((12 + H i - 1 : Nat) : Int) T) := jn_slot hk.1 (rIx_lt (by omega)) (by omega) (i4.1 _ (by omega)) v1 (t2.2 _ (by omega)) q0 (jn_k hg (w := wBr (u (12 + H i - 1))) (by rw [zt]; exact hvl) (by rw [zt]; exact hty.2))
  obtain ⟨T1, w1, w2, w3, w4, w5⟩ := jn_tb hk.1 hk.2.2.2.1 hg (k := 2700 + x.2.2.2.1) (by omega) (w := wBr (u (12 + H i - 1))) (by rw [zt]; exact hvl) jo i4 i5 l2 hk.2.2.2.2.2.2.1
  rw [ix] at w1
  obtain ⟨T2, r1, r2, r3, r4, r5⟩ := r_end (th := th) (n := n) hk.1 hb48 w3 w4
  have hin := (gAd_le σ (2700 + x.2.2.2.1) (wBr (u (12 + H i - 1)))).2
  have fT := tbF_trans w2 r2
  refine ⟨T2, ?_, gEn (gAd σ (2700 + x.2.2.2.1) (wBr (u (12 + H i - 1)))) x.2.2.2.1, R, gbF_t fT, rkI_g hk.1 (gbF_t fT) t1 r3 r4 (pIn_en hk.2.1 b1 hlk (Or.inl ho) (fun y _ _ => ?_)) (lnI_en b2 _) b3 (rpI_m (gLe_trans b4 (gEn_le _ _)) i9), vCh_trans w5 r5, gLe_trans b4 (gEn_le _ _), aLe_refl R, ?_, ?_, fun w q => (by rw [hgo] at q; cases q), fun k => ?_, fun _ => ?_, fun j w q => by rcases q with ⟨q, -⟩ | ⟨q, -⟩ <;> omega⟩
  · rw [(gb_more hk.1 p2 o1 o2).2.2.2.2.2.2.2.2.2.2.2.1 (by omega), hgo, o4]
    refine rPs_b (b := false) ?_
    unfold ja_X13_given
    rw [if_neg (by decide), ei (), t2.1, e1 (), w1, bd_some, r1]
    rfl
  · obtain ⟨w, w1, -⟩ := hin _ rfl
    rw [w1]
    exact fun q => by cases q
  · rw [fT.2.2 39 (by decide), ← rz_0 (pRz_n (by omega))]
    exact cI_z0 t3
  · rw [fT.2.2 40 (by decide), pTh_n ⟨by omega, by omega, by omega⟩]
    exact cV_z0 t4
  · rw [hco]
    split
    · rename_i e
      rw [e]; exact hin
    · exact oLe_n _
  · unfold gEn; dsimp only; rw [if_pos rfl]
theorem rh_back (hk : rKx F th n dn up ns us fl bl z el H lc ty P) (hS : gbS F dn up ns us fl bl z el H lc ty m0 P A D σ R i u T) (hx : z.1[i]? = some x) (hu : A i = some u) (ho : x.1 = 43) : ∃ S1, ja_X13_goesBehind 121 P (i : Int) T = some (bi (pGo (dn, up, (ns, us, fl, bl, z, el), H) σ x (H i) u).isSome, S1) ∧ gbH F th n dn up ns us fl bl z el H lc ty m0 P T A D σ R i x u S1 := by
  obtain ⟨t1, t2, t3, t4⟩ := id hS
  obtain ⟨t, xb, e, a1, a2, ⟨⟨p1, p2, p3, p4, p5, p6⟩, ⟨c1, c2, c3⟩, -, -, -, ⟨d1, d2⟩, ⟨l1, l2, l3, l4, l5⟩, -, y1, y2⟩, hd, hg, hlk⟩ := rk_at hk t1 hx hu
  obtain ⟨i1, i2, i3, i4, i5, i6, i7, i8, i9⟩ := id t1
  have hrs : xb.rs = -1 := by
    unfold tHo at d1
    rw [if_neg (by omega), if_neg (by omega), if_pos ho] at d1
    exact of_decide_eq_true d1
  have hb48 : x.2.2.2.1 < 48 := by have := at_lt p3; omega
  obtain ⟨o1, o2, o3, o4⟩ := rk_op t1 hx
  have hgo : pGo (dn, up, (ns, us, fl, bl, z, el), H) σ x (H i) u = none := pGo_n (by omega)
  obtain ⟨T2, r1, r2, r3, r4, r5⟩ := r_end (th := th) (n := n) hk.1 hb48 i4 i5
  refine ⟨T2, ?_, gEn σ x.2.2.2.1, R, gbF_t r2, rkI_g hk.1 (gbF_t r2) t1 r3 r4 (pIn_en hk.2.1 i6 hlk (Or.inr ho) (fun y hy hr => ?_)) (lnI_en i7 _) i8 (rpI_m (gEn_le _ _) i9), r5, gEn_le _ _, aLe_refl R, ?_, ?_, fun w q => (by rw [hgo] at q; cases q), fun k => ?_, fun _ => ?_, fun j w q => by rcases q with ⟨q, -⟩ | ⟨q, -⟩ <;> omega⟩
  · rw [(gb_more hk.1 p2 o1 o2).2.2.2.2.2.2.2.2.2.2.2.2.1 (by omega), hgo, o4]
    refine rPs_b (b := false) ?_
    unfold ja_X13_given
    rw [if_pos rfl, r1]
    rfl
  · rw [p3] at hy
    cases hy
    exact absurd hrs hr
  · rw [r2.2.2 39 (by decide), ← rz_0 (pRz_n (by omega))]
    exact cI_z0 t3
  · rw [r2.2.2 40 (by decide), pTh_n ⟨by omega, by omega, by omega⟩]
    exact cV_z0 t4
  · rw [pCo_n ⟨by omega, by omega, by omega, by omega, by omega⟩]
    exact oLe_n _
  · unfold gEn; dsimp only; rw [if_pos rfl]
end RGV
