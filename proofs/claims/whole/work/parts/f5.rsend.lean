/-! The reference sends. -/
section RSF
variable {ns : List (List Int)} {us : List Int} {fl : List (List Int × Nat × Int)} {bl : List jB} {z : jL} {el : List (Nat × Nat × Nat × Nat)} {F : Int → Prop} {dn up : Int → Int} {H lc : Nat → Nat} {ty : Nat → Option (Nat → Int)} {th : Nat → Int} {n P m0 : Nat} {σ : jG} {i : Nat} {x : jC} {u : jQ} {S T : nk_S} {A R : jA} {D : Nat → Bool}
theorem rh_send (hk : rKx F th n dn up ns us fl bl z el H lc ty P) (hS : gbS F dn up ns us fl bl z el H lc ty m0 P A D σ R i u T) (hx : z.1[i]? = some x) (hu : A i = some u) (hpt : ∀ (b : Nat) (y : jB), bl[b]? = some y → ∀ k, k < y.ps.length → y.ps.getD k 0 = 1 ∨ 2 ≤ y.ps.getD k 0) (ho : x.1 = 40) : ∃ S1, ja_X13_goesBehind 121 P (i : Int) T = some (bi (pGo (dn, up, (ns, us, fl, bl, z, el), H) σ x (H i) u).isSome, S1) ∧ gbH F th n dn up ns us fl bl z el H lc ty m0 P T A D σ R i x u S1 := by
  obtain ⟨t1, t2, t3, t4⟩ := id hS
  obtain ⟨t, xb, e, a1, a2, hp, hd, hg, hlk⟩ := rk_at hk t1 hx hu
  obtain ⟨i1, i2, i3, i4, i5, i6, i7, i8, i9⟩ := id t1
  obtain ⟨f, c, y, q1, q2, q3, q4, q5, q6, q7, q8, q9, hty⟩ := rcal_at hk hx hp a2.1 hd (Or.inr ho)
  have hme : y.me = true := by rw [q3]; exact decide_eq_true ho
  have hrc := fun (s : Nat) (hs : s < 54) (h : (u (12 + H i - tkX bl x)).2.2.1 s = true) => rsd_at hk hx hp a2.1 hd ho q1 q2 hme q4 q5 q6 hs h
  obtain ⟨⟨p1, p2, p3, p4, p5, p6⟩, ⟨c1, c2, c3⟩, -, -, -, -, ⟨l1, l2, l3, l4, l5⟩, -⟩ := hp
  obtain ⟨hP, -, -, hN, -, hB, hps, -, -⟩ := id hk
  have hb48 : f < 48 := by have := at_lt q2; omega
  have hN12 := hps f y q2
  obtain ⟨kc1, kc2⟩ := hd.2.2.2.2.2.2.2.2.2.1 (Or.inr ho)
  obtain ⟨k40a, k40b⟩ := hd.2.2.2.2.2.2.2.2.2.2.1 ho
  obtain ⟨o1, o2, o3, o4⟩ := rk_op t1 hx
  have hra : rA x = (f : Int) := by unfold rA; rw [if_neg (by omega), if_neg (by omega)]; exact q1
  rw [hra] at o2
  obtain ⟨low, hlow⟩ : ∃ low, low = 12 + H i - tkX bl x := ⟨_, rfl⟩
  rw [← hlow] at hrc k40a kc2 hty
  have hB0 := i1.1.2.2.2.2.2.2.1 f y q2
  have hP2 : T.1 P 2 = (bl.length : Int) := i1.1.2.2.2.2.1
  have hpn : T.1 (P + 8) f = (y.ps.length : Int) := hB0.2.2.1
  have hprs : T.1 (P + 10) f = rvT y.rs := hB0.2.2.2.2.1
  have hN1 : 1 ≤ y.ps.length := by omega
  have ew : ∀ _ : Unit, nk_w (((12 + H i : Nat) : Int) - (y.ps.length : Int)) = (low : Int) := fun _ => by
    rw [top_w c3 hN12, hlow, q7]
  -- the receiver
  obtain ⟨f1, f2, f3, f4, f5⟩ := rzW_f (S := T) (b := (u low).2.2.1 62) (c := 1)
  obtain ⟨T1, b1, b2, b3⟩ := r_deref a2.1.1 (s := low) (t := 12 + H i) ⟨by omega, by omega⟩ (by omega) t2.2
  have fT1 : nFr T T1 := nFr_trans f1 (nFr_u (xFr_u b2))
  have hz0 : pRz (dn, up, (ns, us, fl, bl, z, el), H) σ x (H i) u 0 = (u low).2.2.1 62 := by
    unfold pRz
    rw [if_pos rfl, if_neg (by omega), if_neg (by omega), if_neg (by omega), if_pos ho, hlow]
  have r39 : cI (T1.1 121 39) (rzS (dn, up, (ns, us, fl, bl, z, el), H) σ x (H i) u) := by
    rw [b2.2 121 (by omega), ← rz_1 (b := pRz (dn, up, (ns, us, fl, bl, z, el), H) σ x (H i) u 0) (e0 := 0) (by decide) (pRz_d (by omega)), hz0]
    exact rzW_r cI_c.1 (cI_z0 t3)
  have r40 : T1.1 121 40 = 0 := by rw [b2.2 121 (by omega), f3]; exact t4
  have hgo0 := pGo_call (G := (dn, up, (ns, us, fl, bl, z, el), H)) (σ := σ) (u := u) (h := H i) (Or.inr ho)
  rw [if_pos ho] at hgo0
  have hgo0 : pGo (dn, up, (ns, us, fl, bl, z, el), H) σ x (H i) u = oB (pDr u (12 + H i - tkX bl x)) fun v => if exB (fun b => pMt us bl z x u (12 + H i - tkX bl x) b && σ.2.1 b) 48 = true then (if lvX bl x = 0 then some v else oB (pRt σ (pMt us bl z x u (12 + H i - tkX bl x))) fun l => some (qUp v (12 + H i - tkX bl x) l)) else none := hgo0
  rw [← hlow] at hgo0
  rw [(gb_more hP p2 o1 o2).2.2.2.2.2.2.2.2.2.2.1 (by omega)]
  have code : ja_X13_call 121 P (f : Int) 1 T = if bi (pDr u low).isSome = 0 then some (0, T1) else ja_X13_call_L38 nk_big 121 P (f : Int) 1 (y.ps.length : Int) (low : Int) 0 0 T1 := by
    unfold ja_X13_call
    rw [if_pos (in_i (N := 48) (by omega)), jc_P15 hP, Int.toNat_natCast, hpn, lt_eq, t2.1, ew (), lt_eq, if_neg (by decide), b1, bd_some]
  rw [code]
  cases hdr : pDr u low with
  | none =>
    have hgo : pGo (dn, up, (ns, us, fl, bl, z, el), H) σ x (H i) u = none := by rw [hgo0, hdr]; rfl
    refine ⟨T1, rPs_b (b := (pGo (dn, up, (ns, us, fl, bl, z, el), H) σ x (H i) u).isSome) (by rw [if_pos (show bi (none : Option jQ).isSome = 0 from rfl), hgo]; rfl), σ, R, gbF_n fT1, rkI_n hP fT1 t1, Or.inl ⟨fT1.2.2 37 (by decide) (by decide) (by decide), rfl, rfl⟩, gLe_refl σ, aLe_refl R, r39, cV_e (cV_z0 r40) (fun s _ => ?_), fun w q => (by rw [hgo] at q; cases q), fun k => ?_, fun q => by omega, fun j w q => ?_⟩
    · unfold pTh
      rw [if_neg (by omega), if_neg (by omega), if_pos ho]
      show false = ((pDr u (12 + H i - tkX bl x)).isSome && _)
      rw [← hlow, hdr]
      rfl
    · rw [pCo_n ⟨by omega, by omega, by omega, by omega, by omega⟩]
      exact oLe_n _
    · rcases q with ⟨q, -⟩ | ⟨-, q, -⟩
      · omega
      · have q : (pDr u (12 + H i - tkX bl x)).isSome = true := q
        rw [← hlow, hdr] at q
        cases q
  | some v =>
    rw [if_neg (show ¬ bi (some v).isSome = 0 from (by show ¬ (1 : Int) = 0; decide))]
    have vk := (pDr_at a2.1.2.1 hdr).1
    obtain ⟨W, hW⟩ : ∃ W, W = sAnd (u low).2.2.1 sAl := ⟨_, rfl⟩
    have x1 := b3 v hdr
    rw [← hW] at x1
    have hWs : ∀ s, W s = true ↔ s < 54 ∧ (u low).2.2.1 s = true := fun s => by
      rw [hW]; unfold sAnd sAl
      rw [Bool.and_eq_true, decide_eq_true_iff]
      exact ⟨fun q => ⟨q.2, q.1⟩, fun q => ⟨q.2, q.1⟩⟩
    have hset : cV (T1.1 232 low) W := by
      have := (x1 low (by omega)).2.2.2.1
      rw [qUp_at] at this; exact this
    obtain ⟨rn, hrnd⟩ : ∃ rn : Nat → Nat, rn = fun s => (rnS us bl (cl (sTp z s)) y).toNat := ⟨_, rfl⟩
    have hrn : ∀ s, W s = true → rnS us bl (cl (sTp z s)) y = (rn s : Int) ∧ ∃ y', bdL us (cl (sTp z s)) y.nm bl 0 (-1) = (rn s : Int) ∧ bl[rn s]? = some y' ∧ y'.ps.length = y.ps.length ∧ y'.rs = y.rs ∧ (∀ k, 1 ≤ k → y'.ps.getD k 0 = y.ps.getD k 0) ∧ vl1 F us z (y'.ps.getD 0 0) (wS (onS s)) ∧ cl (sTp z s) < 32 ∧ rvU (sTp z s) = ((8 + cl (sTp z s) : Nat) : Int) ∧ sVd z s = true ∧ cl (sTp z s) < us.length := fun s q => by
      obtain ⟨b, y', z1, z2, z3⟩ := hrc s ((hWs s).mp q).1 ((hWs s).mp q).2
      have eb : rn s = b := by rw [hrnd]; dsimp only; rw [z1, Int.toNat_natCast]
      rw [eb]
      exact ⟨z1, y', z2, z3⟩
    obtain ⟨π, hπ⟩ : ∃ π : Nat → Nat → Option jW, π = fun c k => match R c with
      | none => none
      | some r => some (r k) := ⟨_, rfl⟩
    have hπn : ∀ c k, R c = none → π c k = none := fun c k q => by rw [hπ]; dsimp only; rw [q]
    have hπs : ∀ c k r, R c = some r → π c k = some (r k) := fun c k r q => by rw [hπ]; dsimp only; rw [q]
    clear hπ
    have hRv : ∀ b r yb, R b = some r → bl[b]? = some yb → (∀ k, k < yb.ps.length → vl1 F us z (yb.ps.getD k 0) (r k)) ∧ ∀ k, yb.ps.length ≤ k → r k = wU := fun b r yb q hyb => by
      obtain ⟨y', e', x'', t'', z1, z2, z3, z4, z5, z6, z7, z8, z9⟩ := i9 b r q
      rw [hyb] at z1
      cases z1
      exact ⟨z7, z6⟩
    have i5T : rRm T1 P bl R := rRm_c (fun a h1 h2 => fT1.2.1 a (rfA hP h1 h2).1 (rfA hP h1 h2).2) i5
    have i4T : rGm T1 P σ := rGm_c (fun a h1 h2 => fT1.2.1 a (rfA hP h1 h2).1 (rfA hP h1 h2).2) i4
    have i1T : rPv T1 P (ns, us, fl, bl, z, el) H ty := rPv_c (fun a h1 h2 => fT1.2.1 a (by omega) (by omega)) (fT1.2.1 224 (by omega) (by omega)) i1
    have hcv : ∀ b k yb, bl[b]? = some yb → k < yb.ps.length → rVo T1 P (pmB b + k) (π b k) := fun b k yb hyb hk' => by
      have := hps b yb hyb
      cases hq : R b with
      | none => rw [hπn b k hq]; exact (i5T b yb hyb).2.1 hq k (by omega)
      | some r => rw [hπs b k r hq]; exact (i5T b yb hyb).2.2 r hq k hk'
    have hpl := i1T.1.2.2.2.2.2.2.2.2.1.2.2
    have hul := un_len hk.2.1 hx
    obtain ⟨bm, hbm⟩ := big_ge 100 (by decide)
    -- the receivers
    obtain ⟨T2, l6', ch1, g1, g2⟩ := r_sdL (S := T1) (F := F) (W := W) (rn := rn) (π := fun b => π b 0) (l4 := (y.ps.length : Int)) hP hb48 (low := low) (by omega) hset (fun s hs hw => by
      obtain ⟨z1, y', z2, z3, z4, z5, z6, z7, z8, z9, z10, z11⟩ := hrn s hw
      refine ⟨cl (sTp z s), z8, by rw [rk_st hk i1T hs z10]; exact z9, ?_, by have := at_lt z3; omega, ?_, fun w q => ?_⟩
      · rw [hpl (cl (sTp z s)) f y (by show _ < ns.length; omega) q2]; exact z2
      · have := hcv (rn s) 0 y' z3 (by omega)
        exact this
      · cases hq : R (rn s) with
        | none => rw [hπn _ 0 hq] at q; cases q
        | some r =>
          rw [hπs _ 0 r hq] at q
          cases q
          have w1 := (hRv (rn s) r y' hq z3).1 0 (by omega)
          refine ⟨vBr_l w1, ?_⟩
          rcases hpt (rn s) y' z3 0 (by omega) with w | w
          · exact absurd (z7.1.2.1.1 w) (by show ¬ (2 : Nat) = 1; decide)
          · exact (w1.1.2.1.2 w).1) 54 0 nk_big T1 0 false (by omega) (by omega) sdJ_i
    obtain ⟨⟨j1, j2, j3⟩, j4, j5, j6, j7, j8⟩ := id g2
    obtain ⟨m, hm⟩ : ∃ m : Nat → Bool, m = fun b => sdB W rn 54 b := ⟨_, rfl⟩
    have hmb : ∀ b, m b = true → ∃ s, s < 54 ∧ W s = true ∧ rn s = b := fun b q => by
      rw [hm] at q
      obtain ⟨s, s1, s2⟩ := (exB_iff 54).mp q
      rw [Bool.and_eq_true] at s2
      exact ⟨s, s1, s2.1, of_decide_eq_true s2.2⟩
    have hmy : ∀ b, m b = true → ∃ yb, bl[b]? = some yb ∧ yb.ps.length = y.ps.length ∧ yb.rs = y.rs ∧ (∀ k, 1 ≤ k → yb.ps.getD k 0 = y.ps.getD k 0) := fun b q => by
      obtain ⟨s, s1, s2, s3⟩ := hmb b q
      obtain ⟨z1, y', z2, z3, z4, z5, z6, -⟩ := hrn s s2
      rw [s3] at z3
      exact ⟨y', z3, z4, z5, z6⟩
    have hm48 : ∀ b, m b = true → b < bl.length ∧ b < 48 := fun b q => by
      obtain ⟨yb, z1, -⟩ := hmy b q
      have := at_lt z1
      omega
    rw [← hm] at j6
    obtain ⟨Xr, hXr⟩ : ∃ Xr, Xr = qUp v low (wSt (u low) W) := ⟨_, rfl⟩
    rw [← hXr] at x1
    have x2 : rX T2 (12 + H i) Xr := rX_g (fun a h1 h2 => j2 a (by omega) (by omega)) x1
    have hX0 : Xr low = wSt (u low) W := by rw [hXr, qUp_at]
    have hXk : ∀ k, 1 ≤ k → Xr (low + k) = u (low + k) := fun k hk' => by rw [hXr, qUp_ne (by omega), vk _ (by omega)]
    obtain ⟨s0, s01, s02⟩ := pDr_st hdr
    have hWn : ∃ s, W s = true := ⟨s0, (hWs s0).mpr ⟨s01, s02⟩⟩
    have ok0 : wOk F (Xr low) := by
      rw [hX0]
      exact ⟨(a2.1.1 low).1, (a2.1.1 low).2.1, Or.inr (Or.inr ⟨k40a, (wOk_2 (a2.1.1 low) k40a).1, hWn, fun j hj => Or.inl ((hWs j).mp hj).1⟩)⟩
    have okX : ∀ k, k < y.ps.length → wOk F (Xr (low + k)) ∧ (Xr (low + k)).1 ≠ 0 := fun k hk' => by
      by_cases e0 : k = 0
      · rw [e0, Nat.add_zero]
        refine ⟨ok0, ?_⟩
        rw [hX0]
        show (u low).1 ≠ 0
        rw [k40a]; decide
      · rw [hXk k (by omega)]
        exact ⟨a2.1.1 _, kc2 k (by omega)⟩
    have hP22 : T2.1 P 2 = (bl.length : Int) := by rw [j2 P (by omega) (by omega), fT1.2.1 P (by omega) (by omega)]; exact hP2
    have i4U : rGm T2 P σ := ⟨fun k hk' => rVo_c (fun a h1 h2 => j4 a _ h1 h2 (fun b hb => by unfold rIx pmB; have := hm48 b (by rw [hm]; exact hb); split <;> omega)) (i4T.1 k hk'), fun b hb => by rw [j2 (P + 43) (by omega) (by omega)]; exact i4T.2.1 b hb, fun b hb => by rw [j2 (P + 45) (by omega) (by omega)]; exact i4T.2.2 b hb⟩
    have r40U : T2.1 121 40 = 0 := by rw [j3 40 (by decide)]; exact r40
    obtain ⟨T3, l8', ch2, mm', k1, k2⟩ := r_moL (S := T2) (F := F) (P := P) (N := y.ps.length) (low := low) (k0 := 1) (NB := bl.length) (X := Xr) (m := m) (π := π) (be := fun c => (R c).isSome) (ce := σ.2.1) (tt := σ.2.2) (thr := noS) hP l2 hP22 hN12 hN1 (Nat.le_refl _) (by omega) (fun k hk' => ⟨x2 (low + k) (by omega), okX k hk'⟩) (fun b k hb hmb' hk1 hk' => by
      obtain ⟨yb, z1, z2, z3, z4⟩ := hmy b hmb'
      refine ⟨rVo_c (fun a h1 h2 => j4 a _ h1 h2 (fun b' hb' => by unfold pmB; omega)) (hcv b k yb z1 (by omega)), fun w q => ?_⟩
      cases hq : R b with
      | none => rw [hπn b k hq] at q; cases q
      | some r =>
        rw [hπs b k r hq] at q
        cases q
        have v1 := (hRv b r yb hq z1).1 k (by omega)
        rw [z4 k hk1] at v1
        have v2 := (hty k hk' (by omega)).2.2
        refine ⟨vBr_l v1, ?_⟩
        rw [hXk k hk1]
        rcases (hty k hk' (by omega)).1 with w | w
        · have w1 := v1.1.2.1.1 w
          have w2 := v2.1.2.1.1 w
          exact w1.trans w2.symm
        · have w1 := (v1.1.2.1.2 w).1
          have w2 := (v2.1.2.1.2 w).1
          exact w1.trans w2.symm) (fun c hc => by
      obtain ⟨yc, hyc⟩ : ∃ yc, bl[c]? = some yc := ⟨_, List.getElem?_eq_getElem hc⟩
      rw [j2 (P + 44) (by omega) (by omega)]
      exact (i5T c yc hyc).1) (fun c hc => i4U.2.1 c (by omega)) (fun c hc => i4U.2.2 c (by omega)) (l2 := (f : Int)) j6 bl.length 0 nk_big T2 0 false (by omega) (by omega) (moI_i (cV_z0 r40U))
    have hGT := moI_g hP hN12 l2 k2 i4U
    obtain ⟨⟨w1, w2, w3⟩, w4, w5, w6, w7, w8, w9, w10⟩ := id k2
    have hends : (fun c => decide (c < bl.length) && (m c && σ.2.1 c)) = fun c => m c && σ.2.1 c := by
      funext c
      cases hq : m c with
      | false => rw [Bool.false_and, Bool.and_false]
      | true => rw [decide_eq_true (hm48 c hq).1, Bool.true_and]
    rw [hends] at w8
    have hm48' : ∀ b, m b = true → b < 48 := fun b q => (hm48 b q).2
    have n3f : ∀ a, a < P + 39 ∨ P + 42 < a → a ≠ 121 → a ≠ P + 44 → T3.1 a = T.1 a ∨ (229 ≤ a ∧ a ≤ 237) := fun a h1 h2 h3 => by
      by_cases q : 229 ≤ a ∧ a ≤ 237
      · exact Or.inr q
      · left
        rw [w2 a h1 h2 h3, j2 a h1 h2, fT1.2.1 a (by omega) h2]
    obtain ⟨S1, d1, d2, d3⟩ := r_cEnd (T := T3) (F := F) (σ := σ) (rc := ja_X13_call_L134 mm') (K := if y.rs = 1 then 1 else 2) (l3 := ((1 : Nat) : Int)) (l4 := (y.ps.length : Int)) (l6 := l6') (rs := y.rs) hP hb48 (low := low) (by omega) (X := v) (fun k hk' => by
      have := x2 k (by omega)
      rw [hXr, qUp_ne (by omega)] at this
      exact rSo_c (fun j hj => by rw [w2 (rWk j) (by unfold rWk; omega) (by unfold rWk; omega) (by unfold rWk; omega)]) this) hGT (by rw [w2 P (by omega) (by omega) (by omega)]; exact hP22) (by rw [(n3f (P + 10) (by omega) (by omega) (by omega)).resolve_right (by omega)]; exact hprs) q9 w8 (fun c q => by
      rw [Bool.and_eq_true] at q
      exact hm48' c q.1) (fun c w q hw => by
      rw [Bool.and_eq_true] at q
      obtain ⟨yb, z1, z2, z3, z4⟩ := hmy c q.1
      have hv := (hg.1 _ w hw).2
      rw [zTp_r z1, z3] at hv
      refine ⟨vBr_l hv, ?_⟩
      by_cases c1 : y.rs = 1
      · rw [if_pos c1]; exact hv.1.2.1.1 c1
      · rw [if_neg c1]
        rcases q9 with q9 | q9 | q9
        · exact absurd q9 c1
        · exact (hv.1.2.1.2 q9).1
        · rw [i8 c yb z1 (by rw [z3]; exact q9)] at hw; cases hw)
    rw [cEO_go hm48'] at d1 d3
    have hpm : pMt us bl z x u low = m := by
      rw [hm]
      funext b
      unfold pMt sdB
      rw [if_neg (by omega), q1, Int.toNat_natCast, q2]
      refine exB_cg 54 (fun s hs => ?_)
      cases hq : W s with
      | false =>
        have : (u low).2.2.1 s = false := nf_t (fun w => by rw [(hWs s).mpr ⟨hs, w⟩] at hq; cases hq)
        rw [this, Bool.false_and, Bool.false_and]
      | true =>
        rw [((hWs s).mp hq).2, (hrn s hq).1]
        congr 1
        exact decide_eq_decide.mpr (by omega)
    have hgo : pGo (dn, up, (ns, us, fl, bl, z, el), H) σ x (H i) u = if exB (fun b => m b && σ.2.1 b) 48 = true then (if y.rs = -1 then some v else oB (pRt σ m) fun l => some (qUp v low l)) else none := by
      rw [hgo0, hdr]
      show (if exB (fun b => pMt us bl z x u low b && σ.2.1 b) 48 = true then (if lvX bl x = 0 then some v else oB (pRt σ (pMt us bl z x u low)) fun l => some (qUp v low l)) else none) = _
      rw [hpm, q8]
      by_cases c1 : y.rs = -1
      · rw [if_pos c1, if_pos rfl, if_pos c1]
      · rw [if_neg c1, if_neg (show ¬ (1 : Nat) = 0 by decide), if_neg c1]
    rw [← hgo] at d1 d3
    -- what is begun
    obtain ⟨E, hE⟩ : ∃ E : Nat → jQ, E = fun b => sdE y.ps.length low u (sdM W rn 54 b) := ⟨_, rfl⟩
    have hE0 : ∀ b, E b 0 = wS (sdM W rn 54 b) := fun b => by rw [hE]; show sdE _ _ _ _ 0 = _; unfold sdE; rw [if_pos (by omega), if_pos rfl]
    have hEk : ∀ b k, 1 ≤ k → k < y.ps.length → E b k = wBr (u (low + k)) := fun b k h1 h2 => by rw [hE]; show sdE _ _ _ _ k = _; unfold sdE; rw [if_pos h2, if_neg (by omega)]
    have hEu : ∀ b k, y.ps.length ≤ k → E b k = wU := fun b k h2 => by rw [hE]; show sdE _ _ _ _ k = _; unfold sdE; rw [if_neg (by omega)]
    have harr : ∀ b s yb eb, bl[b]? = some yb → el[b]? = some eb → W s = true → rn s = b → pEd (dn, up, (ns, us, fl, bl, z, el), H) σ i x u lc eb.1 (pEn yb u low (some s)) := fun b s yb eb hyb heb hw hr => by
      obtain ⟨e0, x0, r1, r2, r3, r4, r5⟩ := bod_at hk.2.1 hyb
      rw [heb] at r1
      cases r1
      have eqr : qRs (lc eb.1) (H eb.1) (pEn yb u (12 + H i - tkX bl x) (some s)) = pEn yb u low (some s) := by
        rw [← hlow]
        funext k
        unfold qRs
        split
        · rfl
        · rename_i hn
          unfold pEn
          rw [if_neg (by unfold rel at hn; omega)]
      rw [← eqr]
      exact Or.inr (Or.inr (Or.inr (Or.inr ⟨ho, by show (pDr u (12 + H i - tkX bl x)).isSome = true; rw [← hlow, hdr]; rfl, s, b, y, yb, eb, ((hWs s).mp hw).1, by show (u (12 + H i - tkX bl x)).2.2.1 s = true; rw [← hlow]; exact ((hWs s).mp hw).2, by show bl[x.2.1.toNat]? = some y; rw [q1, Int.toNat_natCast]; exact q2, by rw [← hr]; exact (hrn s hw).1, hyb, heb, rfl, rfl⟩)))
    have hRE : ∀ b, m b = true → rpR F us bl z el H lc ty m0 (dn, up, (ns, us, fl, bl, z, el), H) σ b (E b) := fun b hmb' => by
      obtain ⟨yb, z1, z2, z3, z4⟩ := hmy b hmb'
      obtain ⟨eb, x0, r1, r2, r3, r4, r5⟩ := bod_at hk.2.1 z1
      rw [hE]
      refine rpR_sd z1 r1 z2 hN1 (sdB_e.mp (by rw [hm] at hmb'; exact hmb')) (fun s hs => ?_) (fun k h1 h2 => by rw [z4 k (by omega)]; exact (hty k h1 (by omega)).2.2) (i7.1 i u hu)
      unfold sdM at hs
      rw [Bool.and_eq_true, Bool.and_eq_true] at hs
      have hs54 := of_decide_eq_true hs.1
      have hsr := of_decide_eq_true hs.2.2
      have hEd := harr b s yb eb z1 r1 hs.2.1 hsr
      obtain ⟨-, -, -, x', t', s1, s2, s3⟩ := pIn_arr hk.2.1 i6 hlk hEd
      obtain ⟨-, y', -, z13, -, -, -, z17, -⟩ := hrn s hs.2.1
      rw [hsr, z1] at z13
      cases z13
      exact ⟨hs54, ⟨x', t', s1, s2, s3⟩, z17, i7.1 i u hu low s ((hWs s).mp hs.2.1).2, fun B τ hB => (pSl_ed hk.2.1 hlk hB).1 eb.1 _ hEd⟩
    have hRw : ∀ b r, R b = some r → (∀ k, wOk F (r k)) ∧ ∀ k, 20 ≤ k → r k = wU := fun b r q => by
      obtain ⟨y', e', x'', t'', z1, z2, z3, z4, z5, z6, -⟩ := i9 b r q
      have := hps b y' z1
      exact ⟨z5.1.1, fun k hk' => z6 k (by omega)⟩
    have hEw : ∀ b, m b = true → (∀ k, wOk F (E b k)) ∧ ∀ k, 20 ≤ k → E b k = wU := fun b q => by
      obtain ⟨y', e', x'', t'', z1, z2, z3, z4, z5, -⟩ := hRE b q
      exact ⟨z5.1.1, fun k hk' => hEu b k (by omega)⟩
    obtain ⟨n1, n2, n3⟩ := nxR_ms (R := R) (m := m) (E := E) hN hRw hEw bl.length l2
    have hval : ∀ b, m b = true → ∀ r, nxR R m E bl.length b = some r → (oJ (π b 0) (some (wS (sdM W rn 54 b))) = some (r 0)) ∧ ∀ k, 1 ≤ k → k < y.ps.length → oJ (π b k) (some (wBr (Xr (low + k)))) = some (r k) := fun b hmb' r hr => by
      rw [nxR_at, if_pos ⟨(hm48 b hmb').1, hmb'⟩] at hr
      cases hr
      cases hq : R b with
      | none =>
        refine ⟨?_, fun k h1 h2 => ?_⟩
        · rw [hπn b 0 hq]; show some _ = some (E b 0); rw [hE0]
        · rw [hπn b k hq, hXk k h1]; show some _ = some (E b k); rw [hEk b k h1 h2]
      | some r =>
        refine ⟨?_, fun k h1 h2 => ?_⟩
        · rw [hπs b 0 r hq]; show some (wJn (r 0) _) = some (wJn (r 0) (E b 0)); rw [hE0]
        · rw [hπs b k r hq, hXk k h1]; show some (wJn (r k) _) = some (wJn (r k) (E b k)); rw [hEk b k h1 h2]
    have hRT : rRm T3 P bl (nxR R m E bl.length) := rRm_nx (Nat.le_refl _) i5T (fun b yb hyb hmb' => by
      have hbl := at_lt hyb
      refine ⟨by rw [w5 b (by omega), if_neg (fun q => by rw [hmb'] at q; cases q.2), j2 (P + 44) (by omega) (by omega)], fun k hk' a h1 h2 => ?_⟩
      show T3.1 a (pmB b + k) = T1.1 a (pmB b + k)
      rw [w4 a _ h1 h2 (fun c j c1 c2 c3 c4 => pmB_ne (c := b) (c' := c) (k := k) (k' := j) hk' (by omega) (fun q => by rw [q, c2] at hmb'; cases hmb'))]
      refine j4 a _ h1 h2 (fun b' hb' q => ?_)
      have : b ≠ b' := fun q' => by
        have hb2 : m b' = true := by rw [hm]; exact hb'
        rw [q', hb2] at hmb'; cases hmb'
      exact pmB_ne (c := b) (c' := b') (k := k) (k' := 0) hk' (by omega) this q) hps (fun b yb hyb hmb' => by
      obtain ⟨yb', z1, z2, z3, z4⟩ := hmy b hmb'
      rw [z1] at hyb
      cases hyb
      refine ⟨by rw [w5 b (hm48' b hmb'), if_pos ⟨(hm48 b hmb').1, hmb'⟩], fun r hr k hk' => ?_⟩
      obtain ⟨v0, vk'⟩ := hval b hmb' r hr
      by_cases e0 : k = 0
      · rw [e0, ← v0]
        have h5 := j5 b (by rw [hm] at hmb'; exact hmb')
        have h6 : rVo T3 P (pmB b) (oJ (π b 0) (some (wS (sdM W rn 54 b)))) := rVo_c (fun a h1 h2 => w4 a _ h1 h2 (fun c j c1 c2 c3 c4 => by unfold pmB; omega)) h5
        exact h6
      · have h6 := w6 b k (hm48 b hmb').1 hmb' (by omega) (by omega)
        rw [vk' k (by omega) (by omega)] at h6
        exact h6)
    have hπ2 : ∀ b, m b = true → ∀ w, π b 0 = some w → w = wS w.2.2.1 := fun b hmb' w q => by
      obtain ⟨s, s1, s2, s3⟩ := hmb b hmb'
      obtain ⟨z1, y', z2, z3, z4, z5, z6, z7, -⟩ := hrn s s2
      rw [s3] at z3
      cases hq : R b with
      | none => rw [hπn b 0 hq] at q; cases q
      | some r =>
        rw [hπs b 0 r hq] at q
        cases q
        have w1 := (hRv b r y' hq z3).1 0 (by omega)
        rcases hpt b y' z3 0 (by omega) with w | w
        · exact absurd (z7.1.2.1.1 w) (by show ¬ (2 : Nat) = 1; decide)
        · exact (vBr_2 (vBr_l w1) (w1.1.2.1.2 w).1).1
    have hch : (ch1 || ch2) = true ↔ nxR R m E bl.length ≠ R := by
      rw [Bool.or_eq_true, j8, w10]
      constructor
      · rintro (⟨b, b1, b2⟩ | ⟨b, b1, b2, b3⟩) hq
        · have hmb' : m b = true := by rw [hm]; exact b1
          have hn : ∃ r, nxR R m E bl.length b = some r := ⟨_, by rw [nxR_at, if_pos ⟨(hm48 b hmb').1, hmb'⟩]⟩
          obtain ⟨r, hr⟩ := hn
          have hv := (hval b hmb' r hr).1
          rw [hq] at hr
          rw [← hπs b 0 r hr] at hv
          exact (sdC_i (hπ2 b hmb')).mpr b2 hv
        · have hn : ∃ r, nxR R m E bl.length b = some r := ⟨_, by rw [nxR_at, if_pos ⟨(hm48 b b2).1, b2⟩]⟩
          obtain ⟨r, hr⟩ := hn
          have hv := (hval b b2 r hr).2
          rw [hq] at hr
          rcases b3 with b3 | ⟨j, jj1, jj2, jj3⟩
          · have b3 : (R b).isSome = false := b3
            rw [hr] at b3; cases b3
          · apply jj3
            rw [hv j jj1 jj2, hπs b j r hr]
      · intro hne
        refine Classical.byContradiction fun hc => hne ?_
        funext b
        rw [nxR_at]
        split
        · rename_i hb
          cases hr : R b with
          | none => exact absurd (Or.inr ⟨b, hb.1, hb.2, Or.inl (show (R b).isSome = false by rw [hr]; rfl)⟩) hc
          | some r =>
            show some (fun k => wJn (r k) (E b k)) = some r
            congr 1
            funext k
            by_cases e0 : k = 0
            · refine Classical.byContradiction fun hn => hc (Or.inl ⟨b, by rw [hm] at hb; exact hb.2, (sdC_i (hπ2 b hb.2)).mp ?_⟩)
              rw [hπs b 0 r hr]
              intro q
              rw [← hE0] at q
              rw [e0] at hn
              exact hn (Option.some.inj q)
            · by_cases hk' : k < y.ps.length
              · refine Classical.byContradiction fun hn => hc (Or.inr ⟨b, hb.1, hb.2, Or.inr ⟨k, by omega, hk', ?_⟩⟩)
                rw [hπs b k r hr, hXk k (by omega)]
                intro q
                rw [← hEk b k (by omega) hk'] at q
                exact hn (Option.some.inj q)
              · obtain ⟨yb, z1, z2, z3, z4⟩ := hmy b hb.2
                rw [(hRv b r yb hr z1).2 k (by omega), hEu b k (by omega)]
                rfl
        · rfl
    have fr : gbF P T S1 := ⟨by rw [d2.1, w1, j1, fT1.1], fun a h1 h2 h3 => by rw [d2.2.1 a h2 h3, w2 a (by omega) h3 (by omega), j2 a (by omega) h3, fT1.2.1 a h2 h3], fun j h1 h2 h3 h4 => by rw [d2.2.2 j h1, w3 j h2 h4, j3 j h2, fT1.2.2 j h1 h3 h4]⟩
    refine ⟨S1, ?_, σ, nxR R m E bl.length, fr, rkI_g hP fr t1 (rGm_c (fun a h1 h2 => d2.2.1 a (rfA hP h1 h2).1 (rfA hP h1 h2).2) hGT) (rRm_c (fun a h1 h2 => d2.2.1 a (rfA hP h1 h2).1 (rfA hP h1 h2).2) hRT) i6 i7 i8 (rpI_nx hpt i9 hRE), ?_, gLe_refl σ, n3, ?_, ?_, fun w q => ?_, fun k => ?_, fun q => by omega, fun j w q => ?_⟩
    · refine rPs_b ?_
      have g1 : ja_X13_call_L38 nk_big 121 P (f : Int) 1 (y.ps.length : Int) (low : Int) 0 0 T1 = ja_X13_call_L134 nk_big 121 P (f : Int) 1 (y.ps.length : Int) (low : Int) l6' 0 0 T2 := g1
      have k1 : ja_X13_call_L134 nk_big 121 P (f : Int) 1 (y.ps.length : Int) (low : Int) l6' 0 0 T2 = ja_X13_call_b134 (ja_X13_call_L134 mm') 121 P (f : Int) ((1 : Nat) : Int) (y.ps.length : Int) (low : Int) l6' l8' (bl.length : Int) T3 := k1
      rw [g1, k1, d1]
    · have e3 : S1.1 121 37 = (if (ch1 || ch2) = true then 1 else T.1 121 37) := by
        rw [d2.2.2 37 (by decide), w9, j7, fT1.2.2 37 (by decide) (by decide) (by decide)]
        cases ch1 <;> cases ch2 <;> rfl
      cases hcc : (ch1 || ch2) with
      | false =>
        left
        rw [hcc, if_neg (by decide)] at e3
        refine ⟨e3, rfl, ?_⟩
        refine Classical.byContradiction fun q => ?_
        rw [hch.mpr q] at hcc
        cases hcc
      | true =>
        right
        rw [hcc, if_pos rfl] at e3
        refine ⟨e3, ?_⟩
        have := n2.resolve_left (hch.mp hcc)
        omega
    · rw [d2.2.2 39 (by decide), w3 39 (by decide) (by decide), j3 39 (by decide)]
      exact r39
    · rw [d2.2.2 40 (by decide)]
      refine cV_e w7 (fun s _ => ?_)
      show (false || exB (fun c => m c && σ.2.2 c s) bl.length) = _
      rw [Bool.false_or]
      unfold pTh
      rw [if_neg (by omega), if_neg (by omega), if_pos ho]
      show _ = ((pDr u (12 + H i - tkX bl x)).isSome && exB (fun b => pMt us bl z x u (12 + H i - tkX bl x) b && σ.2.2 b s) 48)
      rw [← hlow, hpm, hdr, show (some v).isSome = true from rfl, Bool.true_and]
      exact exB_n (fun c q => by
        rw [Bool.and_eq_true] at q
        exact hm48 c q.1)
    · have := d3 w q
      rw [show 12 + (H i - tkX bl x + lvX bl x) = low + (if y.rs = -1 then 0 else 1) by rw [q8, hlow]; omega]
      exact this
    · rw [pCo_n ⟨by omega, by omega, by omega, by omega, by omega⟩]
      exact oLe_n _
    · rcases q with ⟨q, -⟩ | ⟨-, -, s, b, y1, yb, eb, u1, u2, u3, u4, u5, u6, u7, u8⟩
      · omega
      · have u2 : (u (12 + H i - tkX bl x)).2.2.1 s = true := u2
        have u3 : bl[x.2.1.toNat]? = some y1 := u3
        have u4 : rnS us bl (cl (sTp z s)) y1 = (b : Int) := u4
        have u5 : bl[b]? = some yb := u5
        have u6 : el[b]? = some eb := u6
        rw [← hlow] at u2
        rw [q1, Int.toNat_natCast, q2] at u3
        cases u3
        have hws := (hWs s).mpr ⟨u1, u2⟩
        have hrs : rn s = b := by
          have := (hrn s hws).1
          rw [u4] at this
          omega
        have hmb' : m b = true := by rw [hm]; exact (exB_iff 54).mpr ⟨s, u1, by rw [hws, decide_eq_true hrs]; rfl⟩
        obtain ⟨yb', z1, z2, z3, z4⟩ := hmy b hmb'
        rw [u5] at z1
        cases z1
        obtain ⟨e0, x0, r1, r2, r3, r4, r5⟩ := bod_at hk.2.1 u5
        rw [u6] at r1
        cases r1
        have hwE : w = pEn yb u low (some s) := by
          rw [u8, u7]
          show qRs (lc eb.1) (H eb.1) (pEn yb u (12 + H i - tkX bl x) (some s)) = _
          rw [← hlow]
          funext k
          unfold qRs
          split
          · rfl
          · rename_i hn
            unfold pEn
            rw [if_neg (by unfold rel at hn; omega)]
        have hle : qLe w (E b) := fun k => by
          rw [hwE]
          by_cases e0 : k = 0
          · rw [e0, hE0]
            have : pEn yb u low (some s) 0 = wS (onS s) := by unfold pEn; rw [if_pos (by omega)]; rfl
            rw [this]
            refine Or.inr ⟨rfl, rle_refl _, fun j hj => ?_, Or.inl rfl, sLe_refl _⟩
            have hj : j = s := of_decide_eq_true hj
            rw [hj]
            show sdM W rn 54 b s = true
            unfold sdM
            rw [decide_eq_true u1, hws, decide_eq_true hrs]
            rfl
          · by_cases c : k < y.ps.length
            · rw [hEk b k (by omega) c]
              have : pEn yb u low (some s) k = wBr (u (low + k)) := by unfold pEn; rw [if_pos (by omega)]; dsimp only; rw [if_neg e0]
              rw [this]
              exact wle_refl _
            · rw [hEu b k (by omega)]
              have : pEn yb u low (some s) k = wU := by unfold pEn; rw [if_neg (by omega)]
              rw [this]
              exact wle_refl _
        have hex : ∃ r, nxR R m E bl.length b = some r := ⟨_, by rw [nxR_at, if_pos ⟨(hm48 b hmb').1, hmb'⟩]⟩
        obtain ⟨r, hr⟩ := hex
        refine ⟨b, eb, r, u6, u7, hr, qLe_trans hle ?_⟩
        rw [nxR_at, if_pos ⟨(hm48 b hmb').1, hmb'⟩] at hr
        cases hr
        cases R b with
        | none => exact qLe_refl _
        | some r => exact fun k => (wJn_ub _ _).2
end RSF
