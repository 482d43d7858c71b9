/-! The reference writes elements, whole; it makes objects and arrays. -/
section RMK
variable {ns : List (List Int)} {us : List Int} {fl : List (List Int × Nat × Int)} {bl : List jB} {z : jL} {el : List (Nat × Nat × Nat × Nat)} {F : Int → Prop} {dn up : Int → Int} {H lc : Nat → Nat} {ty : Nat → Option (Nat → Int)} {th : Nat → Int} {n P m0 : Nat} {σ : jG} {i : Nat} {x : jC} {u : jQ} {S T : nk_S} {A R : jA} {D : Nat → Bool}
theorem gbF_a {S S' : nk_S} (h : asF P S S') : gbF P S S' := ⟨h.1, fun a h1 _ h3 => h.2.1 a h1 h3, fun f _ h2 h3 _ => h.2.2 f h2 h3⟩
theorem rh_astore (hk : rKx F th n dn up ns us fl bl z el H lc ty P) (hS : gbS F dn up ns us fl bl z el H lc ty m0 P A D σ R i u T) (hx : z.1[i]? = some x) (hu : A i = some u) (ho : x.1 = 34) : ∃ S1, ja_X13_goesBehind 121 P (i : Int) T = some (bi (pGo (dn, up, (ns, us, fl, bl, z, el), H) σ x (H i) u).isSome, S1) ∧ gbH F th n dn up ns us fl bl z el H lc ty m0 P T A D σ R i x u S1 := by
  obtain ⟨t1, t2, t3, t4⟩ := id hS
  obtain ⟨t, xb, e, a1, a2, ⟨⟨p1, p2, p3, p4, p5, p6⟩, ⟨c1, c2, c3⟩, -, -, -, ⟨d1, d2⟩, ⟨l1, l2, l3, l4, l5⟩, -⟩, hd, hg, hlk⟩ := rk_at hk t1 hx hu
  obtain ⟨i1, i2, i3, i4, i5, i6, i7, i8, i9⟩ := id t1
  obtain ⟨k2, k4, kb, ki, kr, krr, k33, k34, -⟩ := hd
  have etk := (tkX_n (bl := bl) (x := x) (by omega))
  have h0 : tkT 34 = 3 ∧ lvT 34 = 0 := by decide +kernel
  obtain ⟨q0, q1, q2, q3⟩ := k34 ho
  obtain ⟨n', n1, n2⟩ := rk_t hk t1.1
  obtain ⟨o1, o2, o3, o4⟩ := rk_op t1 hx
  have hul := un_len hk.2.1 hx
  have hPP := hk.1
  rw [tHo_3 ⟨by omega, by omega, by omega, by omega⟩ (by rw [etk.1, ho]; exact h0.1), ho, Bool.and_eq_true, Bool.and_eq_true] at d1
  have g1 : (decide (t (12 + H i - 3) = 2) || tAr (t (12 + H i - 3))) = true := d1.1
  have g3 : (if t (12 + H i - 3) = 2 then decide (t (12 + H i - 1) ≠ 0) else tLe us (t (12 + H i - 1)) (tEl (t (12 + H i - 3)))) = true := d1.2.2
  have har := fun (s : Nat) (hs : s < 54) (h : (u (12 + H i - 3)).2.2.1 s = true) => ar_s hk.2.1 g1 (a2.1.2.2.1 _) hs h
  have hpu := pu_s hk.2.1 a2.1 g1 g3 q0
  have hP4 : T.1 P 4 = (z.2.1.length : Int) := i1.1.2.2.2.2.2.2.2.2.2.2.1.1
  obtain ⟨T2, s1, s2, s3, s4, s5, s6⟩ := r_elI (σ := σ) hk.1 hk.2.1.1 n1 n2 (N := z.2.1.length) (r := 12 + H i - 3) (s := 12 + H i - 2) a2.1 c3 (by omega) ⟨by omega, by omega⟩ q1 t2 l4 hP4 i4 (fun k w hk' hw => by
    have := (hg.1 _ w hw).2
    rw [zTp_l hk'] at this
    exact ⟨vBr_l this, this.1.2.1.1 rfl⟩) (fun k h1 h2 => nf_t fun q => by
    have := (har k h2 q).1
    omega) (fun q => by
    cases hq : pDr u (12 + H i - 3) with
    | none => exact absurd hq q
    | some v => exact lnI_ln (i7.1 i u hu _) (fun s h1 h2 => (har s h1 h2).2.1) (pDr_st hq)) t3
  have hgo : pGo (dn, up, (ns, us, fl, bl, z, el), H) σ x (H i) u = oB (oB (pDr u (12 + H i - 3)) fun v => pIx dn up σ v (12 + H i - 3) (12 + H i - 2)) fun v' => if exB (fun s => (u (12 + H i - 3)).2.2.1 s && (pHl us z s (u (12 + H i - 1))).isSome) 54 = true then some v' else none := by
    unfold pGo
    rw [if_neg (by omega), if_neg (by omega), if_neg (by omega), if_neg (by omega), if_neg (by omega), if_neg (by omega), if_neg (by omega), if_neg (by omega), if_neg (by omega), if_neg (by omega), if_neg (by omega), if_neg (by omega), if_neg (by omega), if_neg (by omega), if_pos ho]
    cases pDr u (12 + H i - 3) <;> rfl
  have hco : ∀ k, pCo (dn, up, (ns, us, fl, bl, z, el), H) σ x (H i) u k = oB (oB (pDr u (12 + H i - 3)) fun v => pIx dn up σ v (12 + H i - 3) (12 + H i - 2)) fun _ => if 2592 ≤ k ∧ k < 2646 ∧ (u (12 + H i - 3)).2.2.1 (k - 2592) = true then pHl us z (k - 2592) (u (12 + H i - 1)) else none := fun k => by
    unfold pCo
    rw [if_neg (by omega), if_neg (by omega), if_pos ho]
    cases pDr u (12 + H i - 3) <;> rfl
  have e0 : pRz (dn, up, (ns, us, fl, bl, z, el), H) σ x (H i) u 0 = (u (12 + H i - 3)).2.2.1 62 := by
    unfold pRz; rw [if_pos rfl, if_neg (by omega), if_neg (by omega), if_pos ho]
  have e1 : pRz (dn, up, (ns, us, fl, bl, z, el), H) σ x (H i) u 1 = (match pDr u (12 + H i - 3) with
    | none => false
    | some v => pIr σ v (12 + H i - 3) (12 + H i - 2)) := by
    unfold pRz; rw [if_neg (by decide), if_pos rfl, if_neg (by omega), if_pos ho]
    cases pDr u (12 + H i - 3) <;> rfl
  have e5 : pRz (dn, up, (ns, us, fl, bl, z, el), H) σ x (H i) u 5 = ((oB (pDr u (12 + H i - 3)) fun v => pIx dn up σ v (12 + H i - 3) (12 + H i - 2)).isSome && (decide ((u (12 + H i - 1)).1 ≠ 1) && exB (fun s => (u (12 + H i - 3)).2.2.1 s && sEx (sMi (u (12 + H i - 1)).2.2.1 (sOr (pB us z (tEl (sTp z s))) (onS 62)))) 54)) := by
    unfold pRz
    rw [if_neg (by decide), if_neg (by decide), if_neg (by decide), if_neg (by decide), if_neg (by decide), if_pos rfl, if_pos ho]
    cases hd : pDr u (12 + H i - 3) with
    | none => rfl
    | some v =>
      show (match pIx dn up σ v (12 + H i - 3) (12 + H i - 2) with
        | none => false
        | some _ => _) = ((pIx dn up σ v (12 + H i - 3) (12 + H i - 2)).isSome && _)
      cases pIx dn up σ v (12 + H i - 3) (12 + H i - 2) with
      | none => rfl
      | some v' => rw [show (some v').isSome = true from rfl, Bool.true_and]
  have hrz := rz_3 (G := (dn, up, (ns, us, fl, bl, z, el), H)) (σ := σ) (x := x) (h := H i) (u := u) (e0 := 0) (e1 := 1) (e2 := 5) ⟨by decide, by decide, by decide⟩ (pRz_34 ho)
  rw [e0, e1, e5] at hrz
  have r40 : T2.1 121 40 = 0 := by rw [s4, t4]
  have e2' : ∀ _ : Unit, nk_w (((12 + H i : Nat) : Int) - 2) = ((12 + H i - 2 : Nat) : Int) := fun _ => top_w (d := 2) c3 (by omega)
  have e3' : ∀ _ : Unit, nk_w (((12 + H i : Nat) : Int) - 3) = ((12 + H i - 3 : Nat) : Int) := fun _ => top_w (d := 3) c3 (by omega)
  have eb : ja_X13_element 121 P 1 T = if (oB (pDr u (12 + H i - 3)) fun v => pIx dn up σ v (12 + H i - 3) (12 + H i - 2)).isSome = true then elR P (12 + H i - 3) 1 T2 else some (0, T2) := by
    unfold ja_X13_element
    rw [if_neg (by decide), t2.1, e2' (), s1]
  rw [(gb_more hk.1 p2 o1 o2).2.2.2.2.1 (by omega), eb, hgo]
  have hG2 : rGm T2 P σ := rGm_c (fun a h1 h2 => s2.2.1 a (by omega) (by omega)) i4
  have hR2 : rRm T2 P bl R := rRm_c (fun a h1 h2 => s2.2.1 a (by omega) (by omega)) i5
  have n37 : T2.1 121 37 = T.1 121 37 := s2.2.2 37 (by decide) (by decide) (by decide)
  cases hq : oB (pDr u (12 + H i - 3)) fun v => pIx dn up σ v (12 + H i - 3) (12 + H i - 2) with
  | none =>
    rw [hq] at hrz
    have hrz : nlR (match pDr u (12 + H i - 3) with
      | none => false
      | some v => pIr σ v (12 + H i - 3) (12 + H i - 2)) 1 (nlR ((u (12 + H i - 3)).2.2.1 62) 0 noS) = rzS (dn, up, (ns, us, fl, bl, z, el), H) σ x (H i) u := hrz
    exact ⟨T2, rPs_b (b := false) (by rw [if_neg (show ¬ (none : Option jQ).isSome = true from (by show ¬ false = true; decide))]; rfl), gbH_t hk hS hx hu (gbF_n s2) ⟨by omega, by omega, by omega, by omega⟩ hG2 hR2 (Or.inl ⟨n37, rfl, rfl⟩) gAds_rfl (by rw [← hrz]; exact s5) r40 (by omega) (fun w q => by rw [hgo, hq] at q; cases q) (fun k => by rw [hco, hq]; exact oLe_n _)⟩
  | some w0 =>
    obtain ⟨W, w1, w2, w3⟩ := s6 w0 hq
    obtain ⟨M, hM⟩ : ∃ M, M = sAnd (u (12 + H i - 3)).2.2.1 sAl := ⟨_, rfl⟩
    have hMs : ∀ s, s < 54 → M s = (u (12 + H i - 3)).2.2.1 s := fun s q => by
      rw [hM]; unfold sAnd sAl; rw [decide_eq_true q, Bool.and_true]
    have hpM : puS F us z (u (12 + H i - 1)) M := fun s h1 h2 => hpu s h1 (by rw [← hMs s h1]; exact h2)
    have had : ∀ m, m ≤ z.2.1.length → gAds (dn, up, (ns, us, fl, bl, z, el), H) σ x (H i) u σ (peG us z M (u (12 + H i - 1)) σ m) := fun m hm => peG_ad m (fun s q' h1 h2 h3 => by
      rw [hco, hq]
      show (if _ then _ else _) = _
      rw [if_pos ⟨by omega, by omega, by rw [show 2592 + s - 2592 = s by omega, ← hMs s (by omega)]; exact h2⟩, show 2592 + s - 2592 = s by omega]
      exact h3)
    have hgI := fun m hm => gAds_I hk.2.1 i6 i7 i8 hlk (fun τ hτ => qI_m (fun _ => lnP_m hτ) (i7.1 i u hu)) (had m hm)
    have w0v : ∀ k, 12 ≤ k → k ≠ 12 + H i - 2 → k ≠ 12 + H i - 3 → w0 k = u k := fun k h1 h2 h3 => by
      obtain ⟨v, v1, v2⟩ := oB_some hq
      have va := pDr_at a2.1.2.1 v1
      unfold pIx at v2
      split at v2
      · cases v2
      · split at v2
        · cases v2
        · rw [(qNr_at va.2.1 v2).1 k h1, va.1 k h1]
    have hXv : W (12 + H i - 1) = u (12 + H i - 1) := by rw [w2 _ (by omega) (by omega), w0v _ (by omega) (by omega) (by omega)]
    have c3' : cV (T2.1 232 (12 + H i - 3)) M := by
      have := (w1 (12 + H i - 3) (by omega)).2.2.2.1
      rw [w3] at this
      rw [hM]; exact this
    obtain ⟨bm, hbm⟩ := big_ge 100 (by decide)
    obtain ⟨T3, b1, b2, b3, b4, b5, b6, b7⟩ := r_asL (S := T2) (σ := σ) (R := R) hk (rPv_c (fun a h1 h2 => s2.2.1 a (by omega) (by omega)) (s2.2.1 224 (by omega) (by omega)) i1) hul (h := H i) (by omega) c3 c3' (a2.1.1 (12 + H i - 1)) q0 hpM (fun m hm => (hgI m hm).1.2.1) (X := W) hXv s3 (r0 := nlR (match pDr u (12 + H i - 3) with
      | none => false
      | some v => pIr σ v (12 + H i - 3) (12 + H i - 2)) 1 (nlR ((u (12 + H i - 3)).2.2.1 62) 0 noS)) z.2.1.length 0 nk_big T2 (by omega) (by omega) ⟨rfl, fun _ _ _ => rfl, fun _ _ _ => rfl⟩ w1 hG2 hR2 vCh_rfl (by
        have : peR us z M (u (12 + H i - 1)) 0 = false := by unfold peR; exact Bool.and_false _
        rw [this]; exact s5)
    have b1 : ja_X13_element_L88 nk_big 121 P (T2.1 232 (12 + H i - 3)) 0 0 T2 = some (bi (exB (fun k => M k && (pHl us z k (u (12 + H i - 1))).isSome) z.2.1.length), nk_wi T3 121 25 (nk_w (((12 + H i : Nat) : Int) - 3))) := b1
    have exE : exB (fun k => M k && (pHl us z k (u (12 + H i - 1))).isSome) z.2.1.length = exB (fun s => (u (12 + H i - 3)).2.2.1 s && (pHl us z s (u (12 + H i - 1))).isSome) 54 := by
      rw [exB_54 (f := fun s => (u (12 + H i - 3)).2.2.1 s && (pHl us z s (u (12 + H i - 1))).isSome) (m := z.2.1.length) (by omega) (fun s h1 h2 => by
        have : (u (12 + H i - 3)).2.2.1 s = false := nf_t fun q => by
          have := (har s h2 q).1
          omega
        rw [this, Bool.false_and])]
      exact exB_cg _ (fun s hs => by rw [hMs s (by omega)])
    have erE : peR us z M (u (12 + H i - 1)) z.2.1.length = (decide ((u (12 + H i - 1)).1 ≠ 1) && exB (fun s => (u (12 + H i - 3)).2.2.1 s && sEx (sMi (u (12 + H i - 1)).2.2.1 (sOr (pB us z (tEl (sTp z s))) (onS 62)))) 54) := by
      unfold peR
      congr 1
      rw [exB_54 (f := fun s => (u (12 + H i - 3)).2.2.1 s && sEx (sMi (u (12 + H i - 1)).2.2.1 (sOr (pB us z (tEl (sTp z s))) (onS 62)))) (m := z.2.1.length) (by omega) (fun s h1 h2 => by
        have : (u (12 + H i - 3)).2.2.1 s = false := nf_t fun q => by
          have := (har s h2 q).1
          omega
        rw [this, Bool.false_and])]
      exact exB_cg _ (fun s hs => by rw [hMs s (by omega)])
    rw [exE, e3' ()] at b1
    rw [hq, show (some w0).isSome = true from rfl, Bool.true_and, ← erE] at hrz
    refine ⟨nk_wi T3 121 25 ((12 + H i - 3 : Nat) : Int), rPs_b (b := (oB (some w0) fun v' => if exB (fun s => (u (12 + H i - 3)).2.2.1 s && (pHl us z s (u (12 + H i - 1))).isSome) 54 = true then some v' else none).isSome) ?_, gbH_t hk hS hx hu (gbF_trans (gbF_trans (gbF_n s2) (gbF_a b2)) (gbF_n (nFr_u uFr_25))) ⟨by omega, by omega, by omega, by omega⟩ (rGm_c (fun a h1 h2 => wi_n (by omega)) b4) (rRm_c (fun a h1 h2 => wi_n (by omega)) b5) ?_ (had _ (Nat.le_refl _)) ?_ ?_ (by omega) (fun w q => ?_) (fun k => ?_)⟩
    · rw [if_pos (show (some w0).isSome = true from rfl)]
      unfold elR
      rw [if_neg (by decide), b1]
      show _ = some (bi (if _ then some w0 else none).isSome, _)
      cases exB (fun s => (u (12 + H i - 3)).2.2.1 s && (pHl us z s (u (12 + H i - 1))).isSome) 54 <;> rfl
    · have e3 : (nk_wi T3 121 25 ((12 + H i - 3 : Nat) : Int)).1 121 37 = T3.1 121 37 := by rw [wi_at, if_neg (by decide)]
      unfold vCh at b6 ⊢
      rw [e3, ← n37]
      exact b6
    · rw [wi_at, if_neg (by decide), ← hrz]; exact b7
    · rw [wi_at, if_neg (by decide), b2.2.2 40 (by decide) (by decide)]; exact r40
    · rw [hgo, hq] at q
      have q : (if exB (fun s => (u (12 + H i - 3)).2.2.1 s && (pHl us z s (u (12 + H i - 1))).isSome) 54 = true then some w0 else none) = some w := q
      split at q
      · cases q
        rw [etk.1, etk.2, ho, h0.1, h0.2, show 12 + (H i - 3 + 0) = 12 + H i - 3 by omega]
        exact ⟨by rw [wi_at, if_pos rfl], rX_25 (rX_w b3 (by omega) (fun k hk' => w2 k (by omega) (by omega)))⟩
      · cases q
    · rw [hco, hq]
      show oLe (if _ then _ else _) _
      split
      · rename_i hq'
        have hs := (har (k - 2592) (by omega) hq'.2.2).1
        intro w hw
        have := (peG_in (us := us) (z := z) (σ := σ) (w := M) (q := u (12 + H i - 1)) z.2.1.length).2 (k - 2592) w hs (by rw [hMs _ (by omega)]; exact hq'.2.2) hw w rfl
        rw [show 2592 + (k - 2592) = k by omega] at this
        exact this
      · exact oLe_n _
end RMK
