/-! The reference makes objects and arrays; bodies end. -/
section RMB
variable {ns : List (List Int)} {us : List Int} {fl : List (List Int × Nat × Int)} {bl : List jB} {z : jL} {el : List (Nat × Nat × Nat × Nat)} {F : Int → Prop} {dn up : Int → Int} {H lc : Nat → Nat} {ty : Nat → Option (Nat → Int)} {th : Nat → Int} {n P m0 : Nat} {σ : jG} {i : Nat} {x : jC} {u : jQ} {S T : nk_S} {A R : jA} {D : Nat → Bool}
theorem rfA (hP : P = 122 ∨ P = 168) {a : Nat} (h1 : P + 39 ≤ a) (h2 : a ≤ P + 45) : (a < 229 ∨ 237 < a) ∧ a ≠ 121 := by omega
theorem rfB (hP : P = 122 ∨ P = 168) {k : Nat} (h : k ≤ 26) : ¬ (P + 39 ≤ P + k ∧ P + k ≤ P + 45) ∧ (P + k < 229 ∨ 237 < P + k) ∧ P + k ≠ 121 := by omega
theorem rvT_0 {t : Int} (h : t = 1 ∨ 2 ≤ t) : rvT t = 0 ↔ t = 1 := by
  unfold rvT
  by_cases c : t = 1
  · rw [if_pos c]; exact ⟨fun _ => c, fun _ => rfl⟩
  · rw [if_neg c]
    refine ⟨fun q => ?_, fun q => absurd q c⟩
    exfalso
    split at q
    · omega
    · split at q
      · omega
      · split at q <;> omega
theorem r_mdL (hk : rKx F th n dn up ns us fl bl z el H lc ty P) (hv : rPv S P (ns, us, fl, bl, z, el) H ty) (hl : us.length = ns.length) {st c : Nat} (hst : st < 54) (hc : c < us.length) (hf : ∀ (f : Nat) (y : List Int × Nat × Int), fl[f]? = some y → (y.2.2 = 1 ∨ 2 ≤ y.2.2) ∧ vl1 F us z y.2.2 (wNl y.2.2)) (hg : ∀ m, m ≤ fl.length → gOk F us fl bl z (nwG us fl st c σ m)) : ∀ (d f m : Nat) (T : nk_S), f + d = fl.length → d < m → tbF P S T → rGm T P (nwG us fl st c σ f) → rRm T P bl R → vCh th n S σ R T (nwG us fl st c σ f) R → ∃ T', ja_X13_made_L13 m 121 P (st : Int) (c : Int) (f : Int) T = (nk_bd (ja_X13_leaveSites 121 (nk_lshl 1 (st : Int)) T') fun _ S2 => some (1, S2)) ∧ tbF P S T' ∧ rGm T' P (nwG us fl st c σ fl.length) ∧ rRm T' P bl R ∧ vCh th n S σ R T' (nwG us fl st c σ fl.length) R := by
  obtain ⟨hP, hC, -, hN, hz, -, hps, hbl, hfl⟩ := id hk
  obtain ⟨hT, hso, -, huO, h32, hh8, hz48, -⟩ := id hC
  have c10 : ja_c P 10 = P + 3 ∧ ja_c P 11 = P + 4 := by rcases hP with rfl | rfl <;> exact ⟨rfl, rfl⟩
  obtain ⟨b1, b2, b3, b4, -⟩ := hv.1
  intro d
  induction d with
  | zero =>
    intro f m T g1 g2 g3 g5 g6 g7
    obtain ⟨m, rfl⟩ : ∃ q, m = q + 1 := ⟨m - 1, by omega⟩
    obtain rfl : f = fl.length := by omega
    refine ⟨T, ?_, g3, g5, g6, g7⟩
    show ja_X13_made_b13 _ 121 P _ _ _ _ = _
    unfold ja_X13_made_b13
    rw [g3.2.1 P (by omega) (by omega), b3, if_pos (show ((fl.length : Nat) : Int) ≤ (fl.length : Int) by omega)]
  | succ d ih =>
    intro f m T g1 g2 g3 g5 g6 g7
    obtain ⟨m, rfl⟩ : ∃ q, m = q + 1 := ⟨m - 1, by omega⟩
    have es : ∀ _ : Unit, nk_w ((f : Int) + 1) = ((f + 1 : Nat) : Int) := fun _ => w_nat1 (by omega)
    have ei : ∀ _ : Unit, nk_w (nk_w ((st : Int) * 48) + (f : Int)) = ((st * 48 + f : Nat) : Int) := fun _ => by
      rw [nk_w_id (z := (st : Int) * 48) (by omega) (by omega), nk_w_id (z := (st : Int) * 48 + (f : Int)) (by omega) (by omega)]
      omega
    obtain ⟨y, hy⟩ : ∃ y, fl[f]? = some y := ⟨_, List.getElem?_eq_getElem (show f < fl.length by omega)⟩
    have b4' : S.1 (P + 3) f = (y.2.1 : Int) ∧ S.1 (P + 4) f = rvT y.2.2 := b4 f y hy
    have y3 : T.1 (P + 3) f = (y.2.1 : Int) := by rw [g3.2.1 (P + 3) (by omega) (by omega)]; exact b4'.1
    have y4 : T.1 (P + 4) f = rvT y.2.2 := by rw [g3.2.1 (P + 4) (by omega) (by omega)]; exact b4'.2
    have hU : rUs T P us := fun j hj => by rw [g3.2.1 (P + 1) (by omega) (by omega)]; exact b2 j (by show j < ns.length; omega)
    show ∃ T', ja_X13_made_b13 (ja_X13_made_L13 m) 121 P (st : Int) (c : Int) (f : Int) T = _ ∧ _
    unfold ja_X13_made_b13
    rw [g3.2.1 P (by omega) (by omega), b3, if_neg (show ¬ ((fl.length : Nat) : Int) ≤ (f : Int) by omega), if_pos (in_i (N := 48) (by omega)), c10.1, c10.2, Int.toNat_natCast, y3, m_an hP hU huO h32 hc, bd_some]
    cases ha : anc us c y.2.1 with
    | false =>
      rw [if_pos (show bi false = 0 from rfl), es (), lt_eq]
      have e : nwG us fl st c σ (f + 1) = nwG us fl st c σ f := by rw [nwG, hy]; dsimp only; rw [if_neg (by rw [ha]; decide)]
      exact ih (f + 1) m T (by omega) (by omega) g3 (by rw [e]; exact g5) g6 (by rw [e]; exact g7)
    | true =>
      have e : nwG us fl st c σ (f + 1) = gAd (nwG us fl st c σ f) (st * 48 + f) (wNl y.2.2) := by rw [nwG, hy]; dsimp only; rw [if_pos ha]
      obtain ⟨f1, f2⟩ := hf f y hy
      have zt : zTp fl bl z (st * 48 + f) = y.2.2 := zTp_f hst hy hfl
      have ix : rIx (st * 48 + f) = st * 48 + f := by unfold rIx; rw [if_pos (by omega)]
      have jo : jnO P (rIx (st * 48 + f)) T ((nwG us fl st c σ f).1 (st * 48 + f)) (wNl y.2.2) (ja_X13_joinNothing 121 P ((rIx (st * 48 + f) : Nat) : Int) (rvT y.2.2) T) := jn_none (F := F) hP hT.2.2.2.1 (rIx_lt (by omega)) (g5.1 _ (by omega)) (rvT_0 f1) (jn_k (hg f (by omega)) (w := wNl y.2.2) (by rw [zt]; exact f2) (by rw [zt]; exact f1))
      obtain ⟨T1, d1, d2, d3, d4, d5⟩ := jn_tb hP hN (hg f (by omega)) (k := st * 48 + f) (by omega) (w := wNl y.2.2) (by rw [zt]; exact f2) jo g5 g6 hbl hps
      rw [ix] at d1
      rw [if_neg (show ¬ bi true = 0 by decide), ei (), y4, d1, bd_some, es (), lt_eq]
      exact ih (f + 1) m T1 (by omega) (by omega) (tbF_trans g3 d2) (by rw [e]; exact d3) d4 (by rw [e]; exact vCh_trans g7 d5)
theorem rh_new (hk : rKx F th n dn up ns us fl bl z el H lc ty P) (hS : gbS F dn up ns us fl bl z el H lc ty m0 P A D σ R i u T) (hx : z.1[i]? = some x) (hu : A i = some u) (ho : x.1 = 30) : ∃ S1, ja_X13_goesBehind 121 P (i : Int) T = some (bi (pGo (dn, up, (ns, us, fl, bl, z, el), H) σ x (H i) u).isSome, S1) ∧ gbH F th n dn up ns us fl bl z el H lc ty m0 P T A D σ R i x u S1 := by
  obtain ⟨t1, t2, t3, t4⟩ := id hS
  obtain ⟨t, xb, e, a1, a2, ⟨⟨p1, p2, p3, p4, p5, p6⟩, ⟨c1, c2, c3⟩, -, -, -, ⟨d1, d2⟩, ⟨l1, l2, l3, l4, l5⟩, -, y1, y2⟩, hd, hg, hlk⟩ := rk_at hk t1 hx hu
  obtain ⟨i1, i2, i3, i4, i5, i6, i7, i8, i9⟩ := id t1
  have hPP := hk.1
  have etk := (tkX_n (bl := bl) (x := x) (by omega))
  have h0 : tkT 30 = 0 ∧ lvT 30 = 1 := by decide +kernel
  rw [etk.1, etk.2, ho, h0.1, h0.2] at c2
  obtain ⟨-, hso, -, huO, h32, -⟩ := id hk.2.1
  obtain ⟨st, s0, q1, q2, q3⟩ := p1.2.2.2.2.2.2.2.1 (Or.inl ho)
  have hst := at_lt q2
  obtain ⟨c, r1, r2⟩ := p1.2.2.2.1 (by rw [ho]; exact fK_ty.1)
  have hul := un_len hk.2.1 hx
  obtain ⟨o1, o2, o3, o4⟩ := rk_op t1 hx
  have hra : rA x = (st : Int) := by unfold rA; rw [if_pos (by omega)]; exact q1
  rw [hra] at o2
  have est : sTp z st = 4 + 2 * (c : Int) := by
    unfold sTp
    rw [if_pos hst, List.getD_eq_getElem?_getD, q2, Option.getD_some]
    unfold sTy at q3
    rw [if_pos ho, r1] at q3
    simpa using q3
  have hvd : sVd z st = true := by unfold sVd; rw [decide_eq_true hst]; rfl
  have hco : ∀ k, pCo (dn, up, (ns, us, fl, bl, z, el), H) σ x (H i) u k = if k < 2592 ∧ k / 48 = st then oB (fl[k % 48]?) (fun y => if anc us c y.2.1 = true then some (wNl y.2.2) else none) else none := fun k => by
    unfold pCo
    rw [if_pos ho, q1, r1, Int.toNat_natCast, Int.toNat_natCast]
  have had : ∀ m, m ≤ fl.length → gAds (dn, up, (ns, us, fl, bl, z, el), H) σ x (H i) u σ (nwG us fl st c σ m) := fun m hm => nwG_ad m (fun f y h1 h2 h3 => by
    rw [hco, if_pos ⟨by omega, by omega⟩, show (st * 48 + f) % 48 = f by omega, h2]
    show (if _ then _ else _) = _
    rw [if_pos h3])
  have hgI := fun m hm => gAds_I hk.2.1 i6 i7 i8 hlk (fun τ hτ => qI_m (fun _ => lnP_m hτ) (i7.1 i u hu)) (had m hm)
  obtain ⟨bm, hbm⟩ := big_ge 100 (by decide)
  obtain ⟨T1, b1, b2, b3, b4, b5⟩ := r_mdL (S := T) (σ := σ) (R := R) hk i1 hul (st := st) (c := c) (by omega) (by omega) (fun f y hy => ⟨(y1 y (List.mem_of_getElem? hy)).2, wNl_v hk.2.1.1 l4 (y1 y (List.mem_of_getElem? hy)).2⟩) (fun m hm => (hgI m hm).1.2.1) fl.length 0 nk_big T (by omega) (by omega) tbF_rfl i4 i5 vCh_rfl
  have r25 : rRw T1 (12 + H i) u := ⟨by rw [b2.2.2 25 (by decide)]; exact t2.1, rX_t hk.1 b2 t2.2⟩
  obtain ⟨S1, w1, w2, w3⟩ := r_leaveS (t := 12 + H i) (by omega) r25 (cV_one (n := st) (by omega))
  have hgo : pGo (dn, up, (ns, us, fl, bl, z, el), H) σ x (H i) u = some (qUp u (12 + H i) (wS (onS st))) := by
    unfold pGo
    rw [if_neg (by omega), if_neg (by omega), if_neg (by omega), if_neg (by omega), if_neg (by omega), if_neg (by omega), if_neg (by omega), if_neg (by omega), if_neg (by omega), if_neg (by omega), if_pos ho, q1, Int.toNat_natCast]
  have ec : ∀ _ : Unit, nk_w (rvU (sTp z st) - 8) = (c : Int) := fun _ => by
    rw [est]
    unfold rvU
    rw [if_neg (by omega), if_neg (by omega), if_neg (by omega), if_neg (by omega), if_pos (by omega), nk_w_id (by omega) (by omega)]
    omega
  obtain ⟨-, -, -, -, c27, -, -⟩ := jc_Pc hk.1
  refine ⟨S1, ?_, gbH_t hk hS hx hu (gbF_trans (gbF_t b2) (gbF_n (nFr_u w2))) ⟨by omega, by omega, by omega, by omega⟩ (rGm_c (fun a h1 h2 => w2.2.1 a (by omega) (by omega)) b3) (rRm_c (fun a h1 h2 => w2.2.1 a (by omega) (by omega)) b4) ?_ (had _ (Nat.le_refl _)) ?_ ?_ (by omega) (fun w q => ?_) (fun k => ?_)⟩
  · rw [(gb_more hk.1 p2 o1 o2).1 (by omega), hgo]
    refine rPs_b (b := true) ?_
    unfold ja_X13_made
    rw [if_pos (in_i (N := 54) (by omega)), c27, Int.toNat_natCast, rk_st hk i1 (by omega) hvd, ec (), lt_eq]
    have b1 : ja_X13_made_L13 nk_big 121 P (st : Int) (c : Int) 0 T = (nk_bd (ja_X13_leaveSites 121 (nk_lshl 1 (st : Int)) T1) fun _ S2 => some (1, S2)) := b1
    rw [b1, w1, bd_some]
    rfl
  · have e3 : S1.1 121 37 = T1.1 121 37 := w2.2.2 37 (by decide)
    unfold vCh at b5 ⊢
    rw [e3]
    exact b5
  · rw [w2.2.2 39 (by decide), b2.2.2 39 (by decide), ← rz_0 (pRz_n (by omega))]
    exact cI_z0 t3
  · rw [w2.2.2 40 (by decide), b2.2.2 40 (by decide)]; exact t4
  · rw [hgo] at q
    cases q
    rw [etk.1, etk.2, ho, h0.1, h0.2]
    exact w3
  · rw [hco]
    split
    · rename_i hq
      cases hy : fl[k % 48]? with
      | none => exact oLe_n _
      | some y =>
        show oLe (if _ then _ else _) _
        split
        · rename_i ha
          have := (nwG_in (us := us) (fl := fl) (st := st) (c := c) (σ := σ) fl.length).2 (k % 48) y (at_lt hy) hy ha
          rw [show st * 48 + k % 48 = k by omega] at this
          exact this
        · exact oLe_n _
    · exact oLe_n _
theorem rh_array (hk : rKx F th n dn up ns us fl bl z el H lc ty P) (hS : gbS F dn up ns us fl bl z el H lc ty m0 P A D σ R i u T) (hx : z.1[i]? = some x) (hu : A i = some u) (ho : x.1 = 31) : ∃ S1, ja_X13_goesBehind 121 P (i : Int) T = some (bi (pGo (dn, up, (ns, us, fl, bl, z, el), H) σ x (H i) u).isSome, S1) ∧ gbH F th n dn up ns us fl bl z el H lc ty m0 P T A D σ R i x u S1 := by
  obtain ⟨t1, t2, t3, t4⟩ := id hS
  obtain ⟨t, xb, e, a1, a2, ⟨⟨p1, p2, p3, p4, p5, p6⟩, ⟨c1, c2, c3⟩, -, -, -, ⟨d1, d2⟩, ⟨l1, l2, l3, l4, l5⟩, -, y1, y2⟩, hd, hg, hlk⟩ := rk_at hk t1 hx hu
  obtain ⟨i1, i2, i3, i4, i5, i6, i7, i8, i9⟩ := id t1
  obtain ⟨k2, k4, kb, ki, -⟩ := hd
  have hPP := hk.1
  have etk := (tkX_n (bl := bl) (x := x) (by omega))
  have h0 : tkT 31 = 1 ∧ lvT 31 = 1 := by decide +kernel
  obtain ⟨g1, g2⟩ := ki (by omega)
  obtain ⟨st, s0, q1, q2, q3⟩ := p1.2.2.2.2.2.2.2.1 (Or.inr ho)
  have hst := at_lt q2
  have hty := (p1.2.2.2.2.1 (Or.inl (by rw [ho]; exact fK_ty.2.1))).2 (by rw [ho]; exact fK_ty.2.1)
  have ht2 : x.2.1 = 1 ∨ 2 ≤ x.2.1 := by
    rcases hty with r | ⟨c, -, r⟩ <;> omega
  have est : sTp z st = s0 := by unfold sTp; rw [if_pos hst, List.getD_eq_getElem?_getD, q2, Option.getD_some]
  have hta : tAr (sTp z st) = true ∧ tEl (sTp z st) = x.2.1 := by
    unfold sTy at q3
    rw [if_neg (by omega), if_pos ho] at q3
    have q3 : s0 = if x.2.1 = 1 then 3 else x.2.1 + 1 := by simpa using q3
    rw [est]
    rcases hty with r | ⟨c, r1, r2⟩
    · rw [if_pos r] at q3
      rw [q3, r]; exact ⟨rfl, rfl⟩
    · rw [if_neg (by omega)] at q3
      unfold tEl tAr
      rw [if_neg (by omega), decide_eq_true (show 4 < s0 by omega), decide_eq_true (show s0 % 2 = 1 by omega)]
      exact ⟨by rw [Bool.and_self, Bool.or_true], by omega⟩
  obtain ⟨-, hso, -, huO, h32, -⟩ := id hk.2.1
  have hvd : sVd z st = true := by unfold sVd; rw [decide_eq_true hst]; rfl
  have htv := (hso st hvd).1
  have hr := (wOk_1 (a2.1.1 (12 + H i - 1)) g1).1
  have hri := rOk_iR hk.2.1.1 hr
  have hF0 : F 0 := hk.2.1.1.2.2.2.1
  have hul := un_len hk.2.1 hx
  obtain ⟨o1, o2, o3, o4⟩ := rk_op t1 hx
  have hra : rA x = (st : Int) := by unfold rA; rw [if_pos (by omega)]; exact q1
  rw [hra] at o2
  have hco : ∀ k, pCo (dn, up, (ns, us, fl, bl, z, el), H) σ x (H i) u k = if (u (12 + H i - 1)).2.1.2 < 0 then none else if k = 2646 + st then some (wR (max (u (12 + H i - 1)).2.1.1 0, (u (12 + H i - 1)).2.1.2)) else if k = 2592 + st then some (wNl x.2.1) else none := fun k => by
    unfold pCo
    rw [if_neg (by omega), if_pos ho, q1, Int.toNat_natCast]
  have hgo : pGo (dn, up, (ns, us, fl, bl, z, el), H) σ x (H i) u = if (u (12 + H i - 1)).2.1.2 < 0 then none else some (qUp u (12 + H i - 1) (wFc (wS (onS st)) (oOn (u (12 + H i - 1)).2.2.2.1 36))) := by
    unfold pGo
    rw [if_neg (by omega), if_neg (by omega), if_neg (by omega), if_neg (by omega), if_neg (by omega), if_neg (by omega), if_neg (by omega), if_neg (by omega), if_neg (by omega), if_neg (by omega), if_neg (by omega), if_pos ho, q1, Int.toNat_natCast]
  have e1 : ∀ _ : Unit, nk_w (((12 + H i : Nat) : Int) - 1) = ((12 + H i - 1 : Nat) : Int) := fun _ => top_w (d := 1) c3 (by omega)
  -- the top goes down
  obtain ⟨T1, hT1⟩ : ∃ T1, T1 = nk_wi T 121 25 ((12 + H i - 1 : Nat) : Int) := ⟨_, rfl⟩
  have f1 : uFr T T1 := by rw [hT1]; exact uFr_25
  have x1 : rX T1 (12 + H i) u := by rw [hT1]; exact rX_25 t2.2
  have t25 : T1.1 121 25 = ((12 + H i - 1 : Nat) : Int) := by rw [hT1, wi_at, if_pos rfl]
  obtain ⟨E, hE⟩ : ∃ E, E = decide ((u (12 + H i - 1)).2.1.1 < 0) := ⟨_, rfl⟩
  have fr := rzW_f (S := T1) (b := E) (c := 4)
  have rr := rzW_r (S := T1) (b := E) cI_c.2.2.1 (r := noS) (cI_z0 (by rw [f1.2.2 39 (by decide)]; exact t3))
  obtain ⟨T2, hT2⟩ : ∃ T2, T2 = rzW E 4 T1 := ⟨_, rfl⟩
  rw [← hT2] at fr rr
  obtain ⟨v1, v2, v3, v4, v5⟩ := fr
  have x2 : rX T2 (12 + H i) u := v5 x1
  have n2 : nFr T T2 := nFr_trans (nFr_u f1) v1
  have r39 : cI (T2.1 121 39) (rzS (dn, up, (ns, us, fl, bl, z, el), H) σ x (H i) u) := by
    rw [← rz_1 (b := decide ((u (12 + H i - 1)).2.1.1 < 0)) (e0 := 2) (by decide) (pRz_31 ho), ← hE]
    exact rr
  have r40 : T2.1 121 40 = 0 := by rw [v3, f1.2.2 40 (by decide)]; exact t4
  have z1 : T1.1 230 (12 + H i - 1) = (u (12 + H i - 1)).2.1.1 := (x1 (12 + H i - 1) (by omega)).2.1
  have y1' : T2.1 230 (12 + H i - 1) = (u (12 + H i - 1)).2.1.1 := (x2 (12 + H i - 1) (by omega)).2.1
  have y2' : T2.1 231 (12 + H i - 1) = (u (12 + H i - 1)).2.1.2 := (x2 (12 + H i - 1) (by omega)).2.2.1
  have T25 : T2.1 121 25 = ((12 + H i - 1 : Nat) : Int) := by rw [v2]; exact t25
  have hG2 : rGm T2 P σ := rGm_c (fun a h1 h2 => n2.2.1 a (rfA hPP h1 h2).1 (rfA hPP h1 h2).2) i4
  have hR2 : rRm T2 P bl R := rRm_c (fun a h1 h2 => n2.2.1 a (rfA hPP h1 h2).1 (rfA hPP h1 h2).2) i5
  have n37 : T2.1 121 37 = T.1 121 37 := n2.2.2 37 (by decide) (by decide) (by decide)
  have code : ja_X13_madeArray 121 P (st : Int) T = ja_X13_madeArray_b32 121 P (st : Int) T2 := by
    unfold ja_X13_madeArray
    rw [t2.1, e1 (), lt_eq, ← hT1, t25, if_pos (in_i (N := 24) (by omega)), jc_121_27, Int.toNat_natCast, z1, hT2]
    unfold rzW
    by_cases c : (u (12 + H i - 1)).2.1.1 < 0
    · rw [if_neg (by omega), hE, decide_eq_true c, if_pos rfl, lt_eq]
    · rw [if_pos (by omega), hE, decide_eq_false c, if_neg (by decide)]
  rw [(gb_more hk.1 p2 o1 o2).2.1 (by omega), code]
  by_cases hn : (u (12 + H i - 1)).2.1.2 < 0
  · refine ⟨T2, rPs_b (b := (pGo (dn, up, (ns, us, fl, bl, z, el), H) σ x (H i) u).isSome) ?_, gbH_t hk hS hx hu (gbF_n n2) ⟨by omega, by omega, by omega, by omega⟩ hG2 hR2 (Or.inl ⟨n37, rfl, rfl⟩) gAds_rfl r39 r40 (by omega) (fun w q => by rw [hgo, if_pos hn] at q; cases q) (fun k => by rw [hco, if_pos hn]; exact oLe_n _)⟩
    rw [hgo, if_pos hn]
    unfold ja_X13_madeArray_b32
    rw [T25, if_pos (in_i (N := 24) (by omega)), jc_121_28, Int.toNat_natCast, y2', if_neg (by omega)]
    rfl
  · have hrl := hr.2.2
    obtain ⟨w1, hw1⟩ : ∃ w1, w1 = wR (max (u (12 + H i - 1)).2.1.1 0, (u (12 + H i - 1)).2.1.2) := ⟨_, rfl⟩
    have vl_1 : vl1 F us z (zTp fl bl z (2646 + st)) w1 := by
      rw [zTp_l (by omega), hw1]
      exact ⟨u1_R0 ⟨(mm_F hr.1 hF0).1, hr.2.1, by dsimp only; omega⟩, rfl, rfl, (by show 1 ≠ 0; decide)⟩
    have vl_2 : vl1 F us z (zTp fl bl z (2592 + st)) (wNl x.2.1) := by
      rw [zTp_e (by omega), hta.2]
      exact wNl_v hk.2.1.1 l4 ht2
    have ix1 : rIx (2646 + st) = 2646 + st := by unfold rIx; rw [if_pos (by omega)]
    have ix2 : rIx (2592 + st) = 2592 + st := by unfold rIx; rw [if_pos (by omega)]
    have ad1 : gAds (dn, up, (ns, us, fl, bl, z, el), H) σ x (H i) u σ (gAd σ (2646 + st) w1) := gAds_ad gAds_rfl (by rw [hco, if_neg hn, if_pos rfl, hw1])
    have ad2 : gAds (dn, up, (ns, us, fl, bl, z, el), H) σ x (H i) u σ (gAd (gAd σ (2646 + st) w1) (2592 + st) (wNl x.2.1)) := gAds_ad ad1 (by rw [hco, if_neg hn, if_neg (by omega), if_pos rfl])
    have hg1 := (gAds_I hk.2.1 i6 i7 i8 hlk (fun τ hτ => qI_m (fun _ => lnP_m hτ) (i7.1 i u hu)) ad1).1.2.1
    have jo1 : jnO P (rIx (2646 + st)) T2 (σ.1 (2646 + st)) w1 (ja_X13_joinRange 121 P ((rIx (2646 + st) : Nat) : Int) w1.2.1.1 w1.2.1.2 T2) := jn_range hk.1 (rIx_lt (by omega)) (hG2.1 _ (by omega)) (vBr_l vl_1) (by rw [hw1]; rfl) (jn_k hg vl_1 (by rw [zTp_l (by omega)]; exact Or.inl rfl))
    obtain ⟨T3, b1, b2, b3, b4, b5⟩ := jn_tb hk.1 hk.2.2.2.1 hg (k := 2646 + st) (by omega) vl_1 jo1 hG2 hR2 l2 hk.2.2.2.2.2.2.1
    have jo2 : jnO P (rIx (2592 + st)) T3 ((gAd σ (2646 + st) w1).1 (2592 + st)) (wNl x.2.1) (ja_X13_joinNothing 121 P ((rIx (2592 + st) : Nat) : Int) (rvU x.2.1) T3) := jn_none (F := F) hk.1 hF0 (rIx_lt (by omega)) (b3.1 _ (by omega)) (by
      have := rvU_s h32 (tV_el htv hta.1)
      rw [hta.2] at this
      exact this.2.1) (jn_k hg1 vl_2 (by rw [zTp_e (by omega), hta.2]; exact ht2))
    obtain ⟨T4, b6, b7, b8, b9, b10⟩ := jn_tb hk.1 hk.2.2.2.1 hg1 (k := 2592 + st) (by omega) vl_2 jo2 b3 b4 l2 hk.2.2.2.2.2.2.1
    have b2' := tbF_trans b2 b7
    have x4 : rX T4 (12 + H i) u := rX_t hk.1 b2' x2
    have T425 : T4.1 121 25 = ((12 + H i - 1 : Nat) : Int) := by rw [b2'.2.2 25 (by decide)]; exact T25
    obtain ⟨S1, s1, s2, s3⟩ := r_leaveS (S := T4) (t := 12 + H i - 1) (by omega) (u := u) ⟨T425, rX_w x4 (by omega) (fun _ _ => rfl)⟩ (cV_one (n := st) (by omega))
    have c4 : T4.1 233 (12 + H i - 1) = cpI (u (12 + H i - 1)).2.2.2.1 := (x4 (12 + H i - 1) (by omega)).2.2.2.2.1
    have hme := m_elt h32 htv T3
    rw [if_pos hta.1, hta.2] at hme
    have e46 : ∀ _ : Unit, nk_w (2646 + (st : Int)) = ((2646 + st : Nat) : Int) := fun _ => by
      rw [nk_w_id (z := 2646 + (st : Int)) (by omega) (by omega)]; omega
    have e92 : ∀ _ : Unit, nk_w (2592 + (st : Int)) = ((2592 + st : Nat) : Int) := fun _ => by
      rw [nk_w_id (z := 2592 + (st : Int)) (by omega) (by omega)]; omega
    obtain ⟨-, -, -, -, c27, -, -⟩ := jc_Pc hk.1
    have hst3 : T3.1 (P + 20) st = rvU (sTp z st) := by
      rw [b2.2.1 (P + 20) (rfB hPP (by decide)).1 (rfB hPP (by decide)).2.2, n2.2.1 (P + 20) (rfB hPP (by decide)).2.1 (rfB hPP (by decide)).2.2]
      exact rk_st hk i1 (by omega) hvd
    rw [ix1] at b1
    rw [ix2] at b6
    have b1 : ja_X13_joinRange 121 P ((2646 + st : Nat) : Int) (max (u (12 + H i - 1)).2.1.1 0) (u (12 + H i - 1)).2.1.2 T2 = some (0, T3) := by rw [hw1] at b1; exact b1
    rw [show 12 + H i - 1 + 1 = 12 + H i by omega] at s3
    have s25 : S1.1 121 25 = ((12 + H i : Nat) : Int) := s3.1
    have b32 : ja_X13_madeArray_b32 121 P (st : Int) T2 = if cpI (u (12 + H i - 1)).2.2.2.1 < 0 then some (1, S1) else nk_lt (nk_wi S1 237 (12 + H i - 1) (nk_ishl 1 (cpI (u (12 + H i - 1)).2.2.2.1))) fun S28 => some (1, S28) := by
      unfold ja_X13_madeArray_b32
      rw [T25, if_pos (in_i (N := 24) (by omega)), jc_121_28, jc_121_27, jc_121_30, jc_121_34, Int.toNat_natCast, y2', if_pos (by omega), y1', max_i, bd_some, T25, if_pos (in_i (N := 24) (by omega)), Int.toNat_natCast, y2', e46 (), b1, bd_some, if_pos (in_i (N := 54) (by omega)), c27, Int.toNat_natCast, hst3, hme, bd_some, e92 (), b6, bd_some, T425, if_pos (in_i (N := 24) (by omega)), Int.toNat_natCast, c4, lt_eq, s1, bd_some, s25, e1 (), if_pos (in_i (N := 24) (by omega)), Int.toNat_natCast]
    have fin : ∀ (S2 : nk_S) (cp : Option Nat), (u (12 + H i - 1)).2.2.2.1 = cp → wFo (12 + H i - 1) S1 S2 → rSo S2 rWk (12 + H i - 1) (wFc (wS (onS st)) (oOn cp 36)) → gbH F th n dn up ns us fl bl z el H lc ty m0 P T A D σ R i x u S2 := fun S2 cp hcp hf hs => by
      have n4 : uFr T4 S2 := uFr_trans s2 (xFr_u (wFo_x hf))
      refine gbH_t hk hS hx hu (gbF_trans (gbF_trans (gbF_n n2) (gbF_t b2')) (gbF_n (nFr_u n4))) ⟨by omega, by omega, by omega, by omega⟩ (rGm_c (fun a h1 h2 => n4.2.1 a (rfA hPP h1 h2).1 (rfA hPP h1 h2).2) b8) (rRm_c (fun a h1 h2 => n4.2.1 a (rfA hPP h1 h2).1 (rfA hPP h1 h2).2) b9) ?_ ad2 ?_ ?_ (by omega) (fun w q => ?_) (fun k => ?_)
      · have := vCh_trans b5 b10
        unfold vCh at this ⊢
        rw [n4.2.2 37 (by decide), ← n37]
        exact this
      · rw [n4.2.2 39 (by decide), b2'.2.2 39 (by decide)]; exact r39
      · rw [n4.2.2 40 (by decide), b2'.2.2 40 (by decide)]; exact r40
      · rw [hgo, if_neg hn, hcp] at q
        cases q
        rw [etk.1, etk.2, ho, h0.1, h0.2, show H i - 1 + 1 = H i by omega]
        refine ⟨by rw [at_b hf]; exact s25, ?_⟩
        have := rX_up s3.2 (S' := S2) (b := 12 + H i - 1) (fun a i h1 h2 h3 => hf.2.2 a i h3) hs
        refine rX_w this (Nat.le_refl _) (fun k hk' => ?_)
        by_cases c : k = 12 + H i - 1
        · rw [c, qUp_at, qUp_at]
        · rw [qUp_ne c, qUp_ne c, qUp_ne c]
      · rw [hco, if_neg hn]
        split
        · rename_i e
          rw [e, ← hw1]
          exact oLe_g (gAd_le _ _ _).2 (gAd_le _ _ _).1
        · split
          · rename_i e
            rw [e]
            exact (gAd_le _ _ _).2
          · exact oLe_n _
    have s3s : rSo S1 rWk (12 + H i - 1) (wS (onS st)) := by
      have := s3.2 (12 + H i - 1) (by omega)
      rw [qUp_at] at this; exact this
    rw [b32]
    cases hc : (u (12 + H i - 1)).2.2.2.1 with
    | none =>
      rw [if_pos (show cpI none < 0 by decide)]
      exact ⟨S1, rPs_b (b := (pGo (dn, up, (ns, us, fl, bl, z, el), H) σ x (H i) u).isSome) (by rw [hgo, if_neg hn]; rfl), fin S1 none hc ⟨rfl, fun _ _ => rfl, fun _ _ _ => rfl⟩ s3s⟩
    | some k =>
      have hk12 := (a2.1.1 (12 + H i - 1)).1 k hc
      rw [if_neg (show ¬ cpI (some k) < 0 by show ¬ (k : Int) < 0; omega), lt_eq]
      have r7 := rSo_7 (c := 237) (k := 12 + H i - 1) (m := k) hk12 (Or.inr rfl) s3s rfl (cI_on12 hk12)
      rw [if_neg (by decide)] at r7
      exact ⟨_, rPs_b (b := (pGo (dn, up, (ns, us, fl, bl, z, el), H) σ x (H i) u).isSome) (by rw [hgo, if_neg hn]; rfl), fin _ (some k) hc (wFo_wi (by omega)) r7⟩
end RMB
