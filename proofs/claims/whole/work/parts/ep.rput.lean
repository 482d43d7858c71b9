/-! The reference looks at casts, and writes fields. -/
section RPU
variable {ns : List (List Int)} {us : List Int} {fl : List (List Int × Nat × Int)} {bl : List jB} {z : jL} {el : List (Nat × Nat × Nat × Nat)} {F : Int → Prop} {dn up : Int → Int} {H lc : Nat → Nat} {ty : Nat → Option (Nat → Int)} {th : Nat → Int} {n P m0 : Nat} {σ : jG} {i : Nat} {x : jC} {u : jQ} {S T : nk_S} {A R : jA} {D : Nat → Bool}
theorem rh_cast (hk : rKx F th n dn up ns us fl bl z el H lc ty P) (hS : gbS F dn up ns us fl bl z el H lc ty m0 P A D σ R i u T) (hx : z.1[i]? = some x) (hu : A i = some u) (ho : x.1 = 37) : ∃ S1, ja_X13_goesBehind 121 P (i : Int) T = some (bi (pGo (dn, up, (ns, us, fl, bl, z, el), H) σ x (H i) u).isSome, S1) ∧ gbH F th n dn up ns us fl bl z el H lc ty m0 P T A D σ R i x u S1 := by
  obtain ⟨t1, t2, t3, t4⟩ := id hS
  obtain ⟨t, xb, e, a1, a2, ⟨⟨p1, p2, p3, p4, p5, p6⟩, ⟨c1, c2, c3⟩, -⟩, hd, hg, hlk⟩ := rk_at hk t1 hx hu
  obtain ⟨k2, k4, kb, ki, kr, -⟩ := hd
  have etk := (tkX_n (bl := bl) (x := x) (by omega))
  have h0 : tkT 37 = 1 ∧ lvT 37 = 1 := by decide +kernel
  have h1 := kr (by omega)
  obtain ⟨o1, o2, o3, o4⟩ := rk_op t1 hx
  have hl := un_len hk.2.1 hx
  obtain ⟨vt, v3⟩ := tOk_V (us := us) (p1.2.2.2.2.1 (Or.inr (by rw [ho]; exact fK_ty.2.2.1))).1 hl
  have hra : rA x = rvU x.2.1 := by unfold rA; rw [if_neg (by omega), if_pos (by omega)]; exact rvU_T v3
  rw [hra] at o2
  obtain ⟨o, q1, q2⟩ := rk_sb hk t1.1 hl vt
  obtain ⟨S', s1, s2, s3⟩ := r_cast a2.1 h1.2 c3 h1.1 t2 q1 q2
  have hgo : pGo (dn, up, (ns, us, fl, bl, z, el), H) σ x (H i) u = if sEx (sAnd (u (12 + H i - 1)).2.2.1 (sOr (pB us z x.2.1) (onS 62))) = true then qKp (qUp u (12 + H i - 1) (wSt (u (12 + H i - 1)) (sAnd (u (12 + H i - 1)).2.2.1 (sOr (pB us z x.2.1) (onS 62))))) (12 + H i - 1) (sAnd (u (12 + H i - 1)).2.2.1 (sOr (pB us z x.2.1) (onS 62))) else none := by
    unfold pGo
    rw [if_neg (by omega), if_neg (by omega), if_neg (by omega), if_neg (by omega), if_neg (by omega), if_neg (by omega), if_neg (by omega), if_neg (by omega), if_neg (by omega), if_neg (by omega), if_neg (by omega), if_neg (by omega), if_neg (by omega), if_neg (by omega), if_neg (by omega), if_neg (by omega), if_neg (by omega), if_pos ho]
  have hz0 : pRz (dn, up, (ns, us, fl, bl, z, el), H) σ x (H i) u 4 = sEx (sMi (sMi (u (12 + H i - 1)).2.2.1 (pB us z x.2.1)) (onS 62)) := by
    unfold pRz
    rw [if_neg (by decide), if_neg (by decide), if_neg (by decide), if_neg (by decide), if_pos rfl, decide_eq_true ho, Bool.true_and]
  obtain ⟨f1, f2, f3, f4, f5⟩ := rzW_f (S := T) (b := sEx (sMi (sMi (u (12 + H i - 1)).2.2.1 (pB us z x.2.1)) (onS 62))) (c := 16)
  rw [← hgo] at s1 s3
  refine ⟨S', by rw [(gb_more hk.1 p2 o1 o2).2.2.2.2.2.2.2.1 (by omega)]; exact rPs_b s1, gbH_n hk hS (nFr_trans f1 (nFr_u s2)) ⟨by omega, by omega, by omega, by omega, by omega, by omega, by omega, by omega⟩ ?_ ?_ (fun w q => ?_)⟩
  · rw [s2.2.2 39 (by decide), ← rz_1 (b := pRz (dn, up, (ns, us, fl, bl, z, el), H) σ x (H i) u 4) (e0 := 4) (by decide) (pRz_37 ho), hz0]
    exact rzW_r cI_c.2.2.2.2.1 (cI_z0 t3)
  · rw [s2.2.2 40 (by decide), f3, t4, pTh_n ⟨by omega, by omega, by omega⟩]
    exact cV_0
  · rw [etk.1, etk.2, ho, h0.1, h0.2, show H i - 1 + 1 = H i by omega]
    exact s3 w q
theorem rh_is (hk : rKx F th n dn up ns us fl bl z el H lc ty P) (hS : gbS F dn up ns us fl bl z el H lc ty m0 P A D σ R i u T) (hx : z.1[i]? = some x) (hu : A i = some u) (ho : x.1 = 38) : ∃ S1, ja_X13_goesBehind 121 P (i : Int) T = some (bi (pGo (dn, up, (ns, us, fl, bl, z, el), H) σ x (H i) u).isSome, S1) ∧ gbH F th n dn up ns us fl bl z el H lc ty m0 P T A D σ R i x u S1 := by
  obtain ⟨t1, t2, t3, t4⟩ := id hS
  obtain ⟨t, xb, e, a1, a2, ⟨⟨p1, p2, p3, p4, p5, p6⟩, ⟨c1, c2, c3⟩, -⟩, hd, hg, hlk⟩ := rk_at hk t1 hx hu
  obtain ⟨k2, k4, kb, ki, kr, -⟩ := hd
  have etk := (tkX_n (bl := bl) (x := x) (by omega))
  have h0 : tkT 38 = 1 ∧ lvT 38 = 1 := by decide +kernel
  have h1 := kr (by omega)
  obtain ⟨o1, o2, o3, o4⟩ := rk_op t1 hx
  have hl := un_len hk.2.1 hx
  obtain ⟨n', n1, n2⟩ := rk_t hk t1.1
  obtain ⟨vt, v3⟩ := tOk_V (us := us) (p1.2.2.2.2.1 (Or.inr (by rw [ho]; exact fK_ty.2.2.2))).1 hl
  have hra : rA x = rvU x.2.1 := by unfold rA; rw [if_neg (by omega), if_pos (by omega)]; exact rvU_T v3
  rw [hra] at o2
  obtain ⟨o, q1, q2⟩ := rk_sb hk t1.1 hl vt
  obtain ⟨S', s1, s2, s3⟩ := r_is hk.1 hk.2.1.1 n1 n2 a2.1 h1.2 c3 h1.1 t2 q1 q2
  have hgo : pGo (dn, up, (ns, us, fl, bl, z, el), H) σ x (H i) u = some (qUp u (12 + H i - 1) (wR ((if sEx (sMi (u (12 + H i - 1)).2.2.1 (pB us z x.2.1)) = true then 0 else 1), (if sEx (sAnd (u (12 + H i - 1)).2.2.1 (pB us z x.2.1)) = true then 1 else 0)))) := by
    unfold pGo
    rw [if_neg (by omega), if_neg (by omega), if_neg (by omega), if_neg (by omega), if_neg (by omega), if_neg (by omega), if_neg (by omega), if_neg (by omega), if_neg (by omega), if_neg (by omega), if_neg (by omega), if_neg (by omega), if_neg (by omega), if_neg (by omega), if_neg (by omega), if_neg (by omega), if_neg (by omega), if_neg (by omega), if_pos ho]
  refine ⟨S', by rw [(gb_more hk.1 p2 o1 o2).2.2.2.2.2.2.2.2.1 (by omega)]; exact rPs_b (by rw [hgo]; exact s1), gbH_n hk hS (nFr_u s2) ⟨by omega, by omega, by omega, by omega, by omega, by omega, by omega, by omega⟩ ?_ ?_ (fun w q => ?_)⟩
  · rw [s2.2.2 39 (by decide), ← rz_0 (pRz_n (by omega))]
    exact cI_z0 t3
  · rw [s2.2.2 40 (by decide), t4, pTh_n ⟨by omega, by omega, by omega⟩]
    exact cV_0
  · rw [hgo] at q
    cases q
    rw [etk.1, etk.2, ho, h0.1, h0.2, show H i - 1 + 1 = H i by omega]
    exact s3
theorem jn_k (hg : gOk F us fl bl z σ) {k : Nat} {w : jW} (hw : vl1 F us z (zTp fl bl z k) w) (ht : zTp fl bl z k = 1 ∨ 2 ≤ zTp fl bl z k) : ∀ v, σ.1 k = some v → vBr F v ∧ v.1 = w.1 := fun v hv => by
  have h2 := (hg.1 k v hv).2
  refine ⟨vBr_l h2, ?_⟩
  rcases ht with q | q
  · rw [h2.1.2.1.1 q, hw.1.2.1.1 q]
  · rw [(h2.1.2.1.2 q).1, (hw.1.2.1.2 q).1]
/-- an instruction that adds to the table of values -/
theorem gbH_t (hk : rKx F th n dn up ns us fl bl z el H lc ty P) (hS : gbS F dn up ns us fl bl z el H lc ty m0 P A D σ R i u T) (hx : z.1[i]? = some x) (hu : A i = some u) {S' : nk_S} {σ' : jG} (h : gbF P T S') (ho : x.1 ≠ 39 ∧ x.1 ≠ 40 ∧ x.1 ≠ 42 ∧ x.1 ≠ 43) (g1 : rGm S' P σ') (g2 : rRm S' P bl R) (g3 : vCh th n T σ R S' σ' R) (g4 : gAds (dn, up, (ns, us, fl, bl, z, el), H) σ x (H i) u σ σ') (h1 : cI (S'.1 121 39) (rzS (dn, up, (ns, us, fl, bl, z, el), H) σ x (H i) u)) (h2 : S'.1 121 40 = 0) (h41 : x.1 ≠ 41) (h3 : ∀ w, pGo (dn, up, (ns, us, fl, bl, z, el), H) σ x (H i) u = some w → rRw S' (12 + (H i - tkX bl x + lvX bl x)) w) (h4 : ∀ k, oLe (pCo (dn, up, (ns, us, fl, bl, z, el), H) σ x (H i) u k) (σ'.1 k)) : gbH F th n dn up ns us fl bl z el H lc ty m0 P T A D σ R i x u S' := by
  obtain ⟨t1, t2, t3, t4⟩ := id hS
  obtain ⟨t, xb, e, a1, a2, -, hd, hg, hlk⟩ := rk_at hk t1 hx hu
  obtain ⟨i1, i2, i3, i4, i5, i6, i7, i8, i9⟩ := id t1
  obtain ⟨w1, w2, w3, w4⟩ := gAds_I hk.2.1 i6 i7 i8 hlk (fun τ hτ => qI_m (fun _ => lnP_m hτ) (i7.1 i u hu)) g4
  exact ⟨σ', R, h, rkI_g hk.1 h t1 g1 g2 w1 w2 w3 (rpI_m w4 i9), g3, w4, aLe_refl R, h1, by rw [pTh_n ⟨h41, ho.1, ho.2.1⟩]; exact cV_z0 h2, h3, h4, fun q => by omega, fun j w q => by rcases q with ⟨q, -⟩ | ⟨q, -⟩ <;> omega⟩
/-- slots are kept by what changes the table -/
theorem rX_t (hP : P = 122 ∨ P = 168) {S S' : nk_S} {t : Nat} {u : jQ} (h : tbF P S S') (hr : rX S t u) : rX S' t u := fun k hk => rSo_c (fun j hj => by rw [h.2.1 (rWk j) (by unfold rWk; omega) (by unfold rWk; omega)]) (hr k hk)
theorem r_putL (hP : P = 122 ∨ P = 168) (hN : thN F th n) (hl : bl.length ≤ 48) (hps : ∀ (b : Nat) (y : jB), bl[b]? = some y → y.ps.length ≤ 12) {N h f : Nat} (hN48 : N ≤ 48) (hf : f < 48) (h2 : 2 ≤ h) (h8 : h ≤ 8) {w : Nat → Bool} {x : Int} (hx : cV x w) (ow : wOk F (u (12 + h - 1))) (h0 : (u (12 + h - 1)).1 ≠ 0) {yt : Int} (hty : ∀ s, s < 54 → zTp fl bl z (s * 48 + f) = yt) (hy : yt = 1 ∨ 2 ≤ yt) (hv : vl1 F us z yt (wBr (u (12 + h - 1)))) (hg : ∀ m, m ≤ N → gOk F us fl bl z (ptG w f (wBr (u (12 + h - 1))) σ m)) (hP4 : S.1 P 4 = (N : Int)) {X : jQ} (hX : X (12 + h - 1) = u (12 + h - 1)) (h25 : S.1 121 25 = ((12 + h : Nat) : Int)) : ∀ (d s m : Nat) (T : nk_S), s + d = N → d < m → tbF P S T → rX T (12 + h) X → rGm T P (ptG w f (wBr (u (12 + h - 1))) σ s) → rRm T P bl R → vCh th n S σ R T (ptG w f (wBr (u (12 + h - 1))) σ s) R → ∃ T', ja_X13_fieldStep_L69 m 121 P (f : Int) x (s : Int) T = some (1, nk_wi T' 121 25 ((12 + h - 2 : Nat) : Int)) ∧ tbF P S T' ∧ rX T' (12 + h) X ∧ rGm T' P (ptG w f (wBr (u (12 + h - 1))) σ N) ∧ rRm T' P bl R ∧ vCh th n S σ R T' (ptG w f (wBr (u (12 + h - 1))) σ N) R := by
  have e1 : ∀ _ : Unit, nk_w (((12 + h : Nat) : Int) - 1) = ((12 + h - 1 : Nat) : Int) := fun _ => top_w (d := 1) h8 (by omega)
  have e2 : ∀ _ : Unit, nk_w (((12 + h : Nat) : Int) - 2) = ((12 + h - 2 : Nat) : Int) := fun _ => top_w (d := 2) h8 (by omega)
  intro d
  induction d with
  | zero =>
    intro s m T g1 g2 g3 g4 g5 g6 g7
    obtain ⟨m, rfl⟩ : ∃ q, m = q + 1 := ⟨m - 1, by omega⟩
    obtain rfl : s = N := by omega
    refine ⟨T, ?_, g3, g4, g5, g6, g7⟩
    show ja_X13_fieldStep_b69 _ 121 P _ _ _ _ = _
    unfold ja_X13_fieldStep_b69
    rw [g3.2.1 P (by omega) (by omega), hP4, if_pos (by omega), g3.2.2 25 (by decide), h25, e2 (), lt_eq]
  | succ d ih =>
    intro s m T g1 g2 g3 g4 g5 g6 g7
    obtain ⟨m, rfl⟩ : ∃ q, m = q + 1 := ⟨m - 1, by omega⟩
    have es : ∀ _ : Unit, nk_w ((s : Int) + 1) = ((s + 1 : Nat) : Int) := fun _ => w_nat1 (by omega)
    have ei : ∀ _ : Unit, nk_w (nk_w ((s : Int) * 48) + (f : Int)) = ((s * 48 + f : Nat) : Int) := fun _ => by
      rw [nk_w_id (z := (s : Int) * 48) (by omega) (by omega), nk_w_id (z := (s : Int) * 48 + (f : Int)) (by omega) (by omega)]
      omega
    show ∃ T', ja_X13_fieldStep_b69 (ja_X13_fieldStep_L69 m) 121 P (f : Int) x (s : Int) T = _ ∧ _
    unfold ja_X13_fieldStep_b69
    rw [g3.2.1 P (by omega) (by omega), hP4, if_neg (by omega), r_bit hx (by omega)]
    cases hw : w s with
    | false =>
      rw [if_neg (show ¬ bi false = 1 by decide), es (), lt_eq]
      have e : ptG w f (wBr (u (12 + h - 1))) σ (s + 1) = ptG w f (wBr (u (12 + h - 1))) σ s := by rw [ptG, if_neg (by rw [hw]; decide)]
      exact ih (s + 1) m T (by omega) (by omega) g3 g4 (by rw [e]; exact g5) g6 (by rw [e]; exact g7)
    | true =>
      have e : ptG w f (wBr (u (12 + h - 1))) σ (s + 1) = gAd (ptG w f (wBr (u (12 + h - 1))) σ s) (s * 48 + f) (wBr (u (12 + h - 1))) := by rw [ptG, if_pos hw]
      have ix : rIx (s * 48 + f) = s * 48 + f := by unfold rIx; rw [if_pos (by omega)]
      have zt := hty s (by omega)
      have hsl : rSo T rWk (12 + h - 1) (u (12 + h - 1)) := by have := g4 (12 + h - 1) (by omega); rw [hX] at this; exact this
      have jo : jnO P (rIx (s * 48 + f)) T ((ptG w f (wBr (u (12 + h - 1))) σ s).1 (s * 48 + f)) (wBr (u (12 + h - 1))) (ja_X13_joinSlotInto 121 P ((rIx (s * 48 + f) : Nat) : Int) ((12 + h - 1 : Nat) : Int) T) := jn_slot hP (rIx_lt (by omega)) (by omega) (g5.1 _ (by omega)) ow hsl h0 (jn_k (hg s (by omega)) (w := wBr (u (12 + h - 1))) (by rw [zt]; exact hv) (by rw [zt]; exact hy))
      obtain ⟨T1, b1, b2, b3, b4, b5⟩ := jn_tb hP hN (hg s (by omega)) (k := s * 48 + f) (by omega) (w := wBr (u (12 + h - 1))) (by rw [zt]; exact hv) jo g5 g6 hl hps
      rw [ix] at b1
      rw [if_pos (show bi true = 1 from rfl), ei (), g3.2.2 25 (by decide), h25, e1 (), b1, bd_some, es (), lt_eq]
      exact ih (s + 1) m T1 (by omega) (by omega) (tbF_trans g3 b2) (rX_t hP b2 g4) (by rw [e]; exact b3) b4 (by rw [e]; exact vCh_trans g7 b5)
theorem rh_put (hk : rKx F th n dn up ns us fl bl z el H lc ty P) (hfw : ∀ (f : Nat) (y : List Int × Nat × Int), fl[f]? = some y → 8 ≤ y.2.1 ∧ y.2.1 < 32) (hS : gbS F dn up ns us fl bl z el H lc ty m0 P A D σ R i u T) (hx : z.1[i]? = some x) (hu : A i = some u) (ho : x.1 = 36) : ∃ S1, ja_X13_goesBehind 121 P (i : Int) T = some (bi (pGo (dn, up, (ns, us, fl, bl, z, el), H) σ x (H i) u).isSome, S1) ∧ gbH F th n dn up ns us fl bl z el H lc ty m0 P T A D σ R i x u S1 := by
  obtain ⟨t1, t2, t3, t4⟩ := id hS
  obtain ⟨t, xb, e, a1, a2, ⟨⟨p1, p2, p3, p4, p5, p6⟩, ⟨c1, c2, c3⟩, -, -, -, ⟨d1, d2⟩, ⟨l1, l2, l3, l4, l5⟩, -, y1, y2⟩, hd, hg, hlk⟩ := rk_at hk t1 hx hu
  obtain ⟨i1, i2, i3, i4, i5, i6, i7, i8, i9⟩ := id t1
  obtain ⟨k2, k4, kb, ki, kr, krr, k33, k34, k36, -⟩ := hd
  have etk := (tkX_n (bl := bl) (x := x) (by omega))
  have h0 : tkT 36 = 2 ∧ lvT 36 = 0 := by decide +kernel
  obtain ⟨q0, q1', q2'⟩ := k36 ho
  obtain ⟨o1, o2, o3, o4⟩ := rk_op t1 hx
  obtain ⟨f, c, w1, w2, w3, w4, y, q2, w6⟩ := p1.2.2.2.2.2.1 (Or.inr ho)
  have hl := un_len hk.2.1 hx
  obtain ⟨-, hso, -, huO, h32, -⟩ := id hk.2.1
  have hc8 : 8 ≤ c := by
    have := anc_le huO h32 us.length _ _ (by omega) (by omega) w6
    have := (hfw f y q2).1
    omega
  have hra : rA x = (f : Int) := by unfold rA; rw [if_neg (by omega), if_neg (by omega)]; exact w1
  rw [hra] at o2
  rw [tHo_2 ⟨by omega, by omega, by omega, by omega⟩ (by rw [etk.1, ho]; exact h0.1), ho, Bool.and_eq_true] at d1
  have g1 : tLe us (t (12 + H i - 2)) (4 + 2 * x.2.2.1) = true := d1.1
  have g2 : tLe us (t (12 + H i - 1)) (tFty fl x) = true := d1.2
  have ef : tFty fl x = y.2.2 := by unfold tFty; rw [w1, Int.toNat_natCast, q2]
  rw [w3] at g1
  rw [ef] at g2
  have yt := y1 y (List.mem_of_getElem? q2)
  obtain ⟨v1, v2, v3⟩ := vOk_1 a2.1 (12 + H i - 1)
  have hvl : vl1 F us z y.2.2 (wBr (u (12 + H i - 1))) := wBr_v ⟨v1, wTy_le huO h32 hso yt.1 g2 v2, v3⟩ q0
  have hw : ∀ s, s < 54 → (u (12 + H i - 2)).2.2.1 s = true → s < z.2.1.length := fun s h3 q => (cl_s hk.2.1 hc8 (by omega) g1 (a2.1.2.2.1 _) h3 q).1
  have hf48 : f < 48 := by have := at_lt q2; omega
  have e2 : ∀ _ : Unit, nk_w (((12 + H i : Nat) : Int) - 2) = ((12 + H i - 2 : Nat) : Int) := fun _ => top_w (d := 2) c3 (by omega)
  have hgo : pGo (dn, up, (ns, us, fl, bl, z, el), H) σ x (H i) u = pDr u (12 + H i - 2) := by
    unfold pGo
    rw [if_neg (by omega), if_neg (by omega), if_neg (by omega), if_neg (by omega), if_neg (by omega), if_neg (by omega), if_neg (by omega), if_neg (by omega), if_neg (by omega), if_neg (by omega), if_neg (by omega), if_neg (by omega), if_neg (by omega), if_neg (by omega), if_neg (by omega), if_neg (by omega), if_pos ho]
  have hco : ∀ k, pCo (dn, up, (ns, us, fl, bl, z, el), H) σ x (H i) u k = oB (pDr u (12 + H i - 2)) fun _ => if k < 2592 ∧ k % 48 = f ∧ (u (12 + H i - 2)).2.2.1 (k / 48) = true then some (wBr (u (12 + H i - 1))) else none := fun k => by
    unfold pCo
    rw [if_neg (by omega), if_neg (by omega), if_neg (by omega), if_pos ho, w1, Int.toNat_natCast]
  have hz0 : pRz (dn, up, (ns, us, fl, bl, z, el), H) σ x (H i) u 0 = (u (12 + H i - 2)).2.2.1 62 := by
    unfold pRz; rw [if_pos rfl, if_neg (by omega), if_pos (by omega)]
  obtain ⟨f1, f2, f3, f4, f5⟩ := rzW_f (S := T) (b := (u (12 + H i - 2)).2.2.1 62) (c := 1)
  obtain ⟨T1, b1, b2, b3⟩ := r_deref a2.1.1 (s := 12 + H i - 2) (t := 12 + H i) ⟨by omega, by omega⟩ (by omega) t2.2
  have fT1 : nFr T T1 := nFr_trans f1 (nFr_u (xFr_u b2))
  have r39 : cI (T1.1 121 39) (rzS (dn, up, (ns, us, fl, bl, z, el), H) σ x (H i) u) := by
    rw [b2.2 121 (by omega), ← rz_1 (b := pRz (dn, up, (ns, us, fl, bl, z, el), H) σ x (H i) u 0) (e0 := 0) (by decide) (pRz_d (by omega)), hz0]
    exact rzW_r cI_c.1 (cI_z0 t3)
  have r40 : T1.1 121 40 = 0 := by rw [b2.2 121 (by omega), f3]; exact t4
  have r25 : T1.1 121 25 = ((12 + H i : Nat) : Int) := by rw [b2.2 121 (by omega), f2]; exact t2.1
  rw [(gb_more hk.1 p2 o1 o2).2.2.2.2.2.2.1 (by omega)]
  unfold ja_X13_fieldStep ja_X13_fieldStep_b19
  rw [if_neg (by decide), t2.1, e2 (), b1, bd_some, hgo]
  cases hdr : pDr u (12 + H i - 2) with
  | none =>
    refine ⟨T1, rPs_b (b := false) (by rw [if_pos (show bi (none : Option jQ).isSome = 0 from rfl)]; rfl), gbH_t hk hS hx hu (gbF_n fT1) ⟨by omega, by omega, by omega, by omega⟩ (rGm_c (fun a h1 h2 => fT1.2.1 a (by have := hk.1; omega) (by have := hk.1; omega)) i4) (rRm_c (fun a h1 h2 => fT1.2.1 a (by have := hk.1; omega) (by have := hk.1; omega)) i5) (Or.inl ⟨fT1.2.2 37 (by decide) (by decide) (by decide), rfl, rfl⟩) gAds_rfl r39 r40 (by omega) (fun w q => by rw [hgo, hdr] at q; cases q) (fun k => by rw [hco, hdr]; exact oLe_n _)⟩
  | some v =>
    have x1 := b3 v hdr
    have vk := (pDr_at a2.1.2.1 hdr).1
    have c3' : cV (T1.1 232 (12 + H i - 2)) (sAnd (u (12 + H i - 2)).2.2.1 sAl) := by
      have := (x1 (12 + H i - 2) (by omega)).2.2.2.1
      rw [qUp_at] at this; exact this
    obtain ⟨W, hW⟩ : ∃ W, W = sAnd (u (12 + H i - 2)).2.2.1 sAl := ⟨_, rfl⟩
    rw [← hW] at c3'
    have hWs : ∀ s, W s = true → (u (12 + H i - 2)).2.2.1 s = true := fun s q => by
      rw [hW] at q
      unfold sAnd at q
      rw [Bool.and_eq_true] at q
      exact q.1
    have had : ∀ m, m ≤ z.2.1.length → gAds (dn, up, (ns, us, fl, bl, z, el), H) σ x (H i) u σ (ptG W f (wBr (u (12 + H i - 1))) σ m) := fun m hm => ptG_ad m (fun s h1 h2 => by
      rw [hco, hdr]
      show (if _ then _ else _) = _
      rw [if_pos ⟨by omega, by omega, by rw [show (s * 48 + f) / 48 = s by omega]; exact hWs s h2⟩])
    have hgI := fun m hm => gAds_I hk.2.1 i6 i7 i8 hlk (fun τ hτ => qI_m (fun _ => lnP_m hτ) (i7.1 i u hu)) (had m hm)
    have hP4 : T1.1 P 4 = (z.2.1.length : Int) := by
      rw [fT1.2.1 P (by have := hk.1; omega) (by have := hk.1; omega)]
      exact i1.1.2.2.2.2.2.2.2.2.2.2.1.1
    obtain ⟨bm, hbm⟩ := big_ge 100 (by decide)
    obtain ⟨T2, d1, d2, d3, d4, d5, d6⟩ := r_putL (S := T1) (σ := σ) (R := R) (u := u) hk.1 hk.2.2.2.1 hk.2.2.2.2.2.2.2.1 hk.2.2.2.2.2.2.1 (N := z.2.1.length) (h := H i) (f := f) (by omega) hf48 q2' c3 (w := W) c3' v1 q0 (yt := y.2.2) (fun s hs => zTp_f hs q2 l1) yt.2 hvl (fun m hm => (hgI m hm).1.2.1) hP4 (X := qUp v (12 + H i - 2) (wSt (u (12 + H i - 2)) (sAnd (u (12 + H i - 2)).2.2.1 sAl))) (by rw [qUp_ne (by omega), vk _ (by omega)]) r25 z.2.1.length 0 nk_big T1 (by omega) (by omega) tbF_rfl x1 (rGm_c (fun a h1 h2 => fT1.2.1 a (by have := hk.1; omega) (by have := hk.1; omega)) i4) (rRm_c (fun a h1 h2 => fT1.2.1 a (by have := hk.1; omega) (by have := hk.1; omega)) i5) vCh_rfl
    have d1 : ja_X13_fieldStep_L69 nk_big 121 P (f : Int) (T1.1 232 (12 + H i - 2)) 0 T1 = some (1, nk_wi T2 121 25 ((12 + H i - 2 : Nat) : Int)) := d1
    rw [if_neg (show ¬ bi (some v).isSome = 0 from (by show ¬ (1 : Int) = 0; decide)), if_pos (in_i (N := 24) (by omega)), jc_121_29, Int.toNat_natCast, lt_eq, if_neg (by decide), d1]
    have n37 : T1.1 121 37 = T.1 121 37 := fT1.2.2 37 (by decide) (by decide) (by decide)
    refine ⟨nk_wi T2 121 25 ((12 + H i - 2 : Nat) : Int), rPs_b (b := true) rfl, gbH_t hk hS hx hu (gbF_trans (gbF_trans (gbF_n fT1) (gbF_t d2)) (gbF_n (nFr_u uFr_25))) ⟨by omega, by omega, by omega, by omega⟩ (rGm_c (fun a h1 h2 => wi_n (by have := hk.1; omega)) d4) (rRm_c (fun a h1 h2 => wi_n (by have := hk.1; omega)) d5) ?_ (had _ (Nat.le_refl _)) ?_ ?_ (by omega) (fun w q => ?_) (fun k => ?_)⟩
    · have e3 : (nk_wi T2 121 25 ((12 + H i - 2 : Nat) : Int)).1 121 37 = T2.1 121 37 := by rw [wi_at, if_neg (by decide)]
      unfold vCh at d6 ⊢
      rw [e3, ← n37]
      exact d6
    · rw [wi_at, if_neg (by decide), d2.2.2 39 (by decide)]; exact r39
    · rw [wi_at, if_neg (by decide), d2.2.2 40 (by decide)]; exact r40
    · rw [hgo, hdr] at q
      cases q
      rw [etk.1, etk.2, ho, h0.1, h0.2, show 12 + (H i - 2 + 0) = 12 + H i - 2 by omega]
      exact ⟨by rw [wi_at, if_pos rfl], rX_25 (rX_w d3 (by omega) (fun k hk' => qUp_ne (by omega)))⟩
    · rw [hco, hdr]
      show oLe (if _ then _ else _) _
      split
      · rename_i hq
        have hs := hw (k / 48) (by omega) hq.2.2
        have := (ptG_in (σ := σ) (w := W) (f := f) (v := wBr (u (12 + H i - 1))) z.2.1.length).2 (k / 48) hs (by rw [hW]; unfold sAnd sAl; rw [hq.2.2, decide_eq_true (show k / 48 < 54 by omega)]; rfl)
        rw [show k / 48 * 48 + f = k by omega] at this
        exact this
      · exact oLe_n _
end RPU
