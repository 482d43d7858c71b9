/-! The reference reads elements. -/
section REL
variable {ns : List (List Int)} {us : List Int} {fl : List (List Int × Nat × Int)} {bl : List jB} {z : jL} {el : List (Nat × Nat × Nat × Nat)} {F : Int → Prop} {dn up : Int → Int} {H lc : Nat → Nat} {ty : Nat → Option (Nat → Int)} {th : Nat → Int} {n P m0 : Nat} {σ : jG} {i : Nat} {x : jC} {u : jQ} {S T : nk_S} {A R : jA} {D : Nat → Bool}
theorem qNr_up {v : jQ} {s r : Nat} {q : jR} {f : Nat → Bool} {y : jW} (hne : s ≠ r) (h12 : ∀ k, (v s).2.2.2.1 = some k → k ≠ r) : qNr (qUp v r y) s q f = (qNr v s q f).map (fun w => qUp w r y) := by
  unfold qNr
  rw [qUp_ne hne]
  cases hc : (v s).2.2.2.1 with
  | none => rfl
  | some k =>
    have hk := h12 k hc
    dsimp only
    rw [qUp_ne hk]
    cases kCom (v k).2.1 q with
    | none => rfl
    | some q' =>
      show some (qUp (qUp v r y) k (wFc (wRg (v k) q') (sOr (v k).2.2.2.2 f))) = some (qUp (qUp v k (wFc (wRg (v k) q') (sOr (v k).2.2.2.2 f))) r y)
      congr 1
      funext j
      unfold qUp
      by_cases c1 : j = k
      · rw [if_pos c1, if_neg (by rw [c1]; exact hk), if_pos c1]
      · rw [if_neg c1]
        by_cases c2 : j = r
        · rw [if_pos c2, if_pos c2]
        · rw [if_neg c2, if_neg c2, if_neg c1]
theorem ixO_up {v : jQ} {s r : Nat} {l : jR} {m : Nat → Bool} (hne : s ≠ r) (h12 : ∀ k, (v s).2.2.2.1 = some k → k ≠ r) : ixO dn up (qUp v r (wSt (v r) m)) r s l = (ixO dn up v r s l).map (fun w => qUp w r (wSt (v r) m)) := by
  unfold ixO
  rw [qUp_ne hne, qUp_at]
  cases kCut dn up (v s).2.1 0 (l.2 - 1) with
  | none => rfl
  | some q => exact qNr_up hne h12
theorem pUn_up {v : jQ} {s r : Nat} {l : jR} {m : Nat → Bool} (hne : s ≠ r) : pUn (qUp v r (wSt (v r) m)) r s l = pUn v r s l := by
  unfold pUn
  rw [qUp_ne hne, qUp_at]
  rfl
/-- the end of element -/
noncomputable def elR (P r : Nat) (l2 : Int) (S7 : nk_S) : Option (Int × nk_S) := if l2 = 0 then nk_lt (nk_wi S7 121 25 (nk_w ((S7.1 121 25) - 2))) fun S13 => nk_bd (ja_X13_leaveValues 121 P 2592 1 (S7.1 232 r) S13) fun r15 S16 => if r15 = 0 ∨ r15 = 1 then some (r15, S16) else none else ja_X13_element_L88 nk_big 121 P (S7.1 232 r) 0 0 S7
theorem r_elI (hP : P = 122 ∨ P = 168) (hT : thG F dn up) (ht : rTn S P n F) (hn : n ≤ 3079) {h r s N l : Nat} {us : List Int} {z : jL} {t : Nat → Int} (hv : vOk F us z l t u) (h8 : h ≤ 8) (hs : s = r + 1) (hr12 : 12 ≤ r ∧ s < 12 + h) (kx : (u s).1 = 1) (hr : rRw S (12 + h) u) (hN : N ≤ 48) (hP4 : S.1 P 4 = (N : Int)) (hG : rGm S P σ) (hk : ∀ k w, k < 54 → σ.1 (2646 + k) = some w → vBr F w ∧ w.1 = 1) (hset : ∀ k, N ≤ k → k < 54 → (u r).2.2.1 k = false) (hln : pDr u r ≠ none → pLn σ (u r).2.2.1 ≠ none) (h39 : S.1 121 39 = 0) : ∃ T2, (∀ l2 : Int, ja_X13_element_b19 121 P l2 (s : Int) S = if (oB (pDr u r) fun v => pIx dn up σ v r s).isSome = true then elR P r l2 T2 else some (0, T2)) ∧ nFr S T2 ∧ T2.1 121 25 = ((12 + h : Nat) : Int) ∧ T2.1 121 40 = S.1 121 40 ∧ cI (T2.1 121 39) (nlR (match pDr u r with
    | none => false
    | some v => pIr σ v r s) 1 (nlR ((u r).2.2.1 62) 0 noS)) ∧ ∀ w, (oB (pDr u r) fun v => pIx dn up σ v r s) = some w → ∃ W, rX T2 (12 + h) W ∧ (∀ k, k ≠ s → k ≠ r → W k = w k) ∧ W r = wSt (u r) (sAnd (u r).2.2.1 sAl) := by
  obtain ⟨f1, f2, f3, f4, f5⟩ := rzW_f (S := S) (b := (u r).2.2.1 62) (c := 1)
  obtain ⟨T1, b1, b2, b3⟩ := r_deref hv.1 (s := r) (t := 12 + h) ⟨by omega, by omega⟩ (by omega) hr.2
  have er : ∀ _ : Unit, nk_w ((s : Int) - 1) = (r : Int) := fun _ => by
    rw [nk_w_id (z := (s : Int) - 1) (by omega) (by omega)]; omega
  have fT1 : nFr S T1 := nFr_trans f1 (nFr_u (xFr_u b2))
  have r39 : cI (T1.1 121 39) (nlR ((u r).2.2.1 62) 0 noS) := by
    rw [b2.2 121 (by omega)]
    exact rzW_r cI_c.1 (cI_z0 h39)
  have r25 : T1.1 121 25 = ((12 + h : Nat) : Int) := by rw [b2.2 121 (by omega), f2]; exact hr.1
  have r40 : T1.1 121 40 = S.1 121 40 := by rw [b2.2 121 (by omega), f3]
  cases hdr : pDr u r with
  | none =>
    refine ⟨T1, fun l2 => ?_, fT1, r25, r40, r39, fun w q => by cases q⟩
    unfold ja_X13_element_b19
    rw [er (), lt_eq, b1, hdr, bd_some, if_pos (show bi (none : Option jQ).isSome = 0 from rfl), if_neg (show ¬ (oB (none : Option jQ) fun v => pIx dn up σ v r s).isSome = true from (by show ¬ false = true; decide))]
  | some v =>
    have va := pDr_at hv.2.1 hdr
    have vr : v r = u r := va.1 r (by omega)
    have vs : v s = u s := va.1 s (by omega)
    have x1 : rX T1 (12 + h) (qUp v r (wSt (v r) (sAnd (u r).2.2.1 sAl))) := by rw [vr]; exact b3 v hdr
    have hln' := hln (by rw [hdr]; exact fun q => by cases q)
    obtain ⟨lw, hlw⟩ : ∃ lw, pLn σ (u r).2.2.1 = some lw := by
      cases hq : pLn σ (u r).2.2.1 with
      | none => exact absurd hq hln'
      | some lw => exact ⟨lw, rfl⟩
    have hlN : fJ (fun k => σ.1 (2646 + k)) (sAnd (u r).2.2.1 sAl) N = some lw := by
      rw [fJ_al N (by omega), ← fJ_54 (by omega) hset]; exact hlw
    obtain ⟨T2, d1, d2, d3⟩ := r_index (σ := σ) (S := T1) (X := qUp v r (wSt (v r) (sAnd (u r).2.2.1 sAl))) hP hT (rTn_c (S := S) (fun a h1 h2 => fT1.2.1 a (by omega) h2) hP ht) hn (r := r) (s := s) (t := 12 + h) (N := N) ⟨by omega, by omega⟩ ⟨by omega, by omega⟩ (by omega) (by omega) (fun k hk' => by
      rw [qUp_at] at hk'
      have hk' : (v r).2.2.2.1 = some k := hk'
      rw [vr] at hk'
      exact (hv.1 r).1 k hk') (by rw [qUp_ne (by omega), vs]; exact hv.1 s) (by rw [qUp_ne (by omega), vs]; exact kx) x1 hN (by rw [fT1.2.1 P (by omega) (by omega)]; exact hP4) (rGm_c (fun a h1 h2 => fT1.2.1 a (by omega) (by omega)) hG) hk (lw := lw) (by rw [qUp_at]; exact hlN)
    have h12 : ∀ k, (v s).2.2.2.1 = some k → k ≠ r := fun k hk' => by
      rw [vs] at hk'
      have := (hv.1 s).1 k hk'
      omega
    rw [ixO_up (by omega) h12] at d1 d3
    rw [pUn_up (by omega), qUp_ne (by omega)] at d2
    have hix : pIx dn up σ v r s = ixO dn up v r s lw.2.1 := by
      unfold pIx ixO
      rw [vr, hlw]
      rfl
    have hir : pIr σ v r s = (decide ((v s).2.1.1 < 0) || !pUn v r s lw.2.1) := by
      unfold pIr
      rw [vr, hlw]
    have ho : (oB (some v) fun v => pIx dn up σ v r s) = ixO dn up v r s lw.2.1 := hix
    rw [ho]
    dsimp only
    rw [hir]
    obtain ⟨g1, g2, g3, g4, g5⟩ := rzW_f (S := T1) (b := decide ((v s).2.1.1 < 0) || !pUn v r s lw.2.1) (c := 2)
    have em : ((ixO dn up v r s lw.2.1).map (fun w => qUp w r (wSt (v r) (sAnd (u r).2.2.1 sAl)))).isSome = (ixO dn up v r s lw.2.1).isSome := by cases ixO dn up v r s lw.2.1 <;> rfl
    rw [em] at d1
    refine ⟨T2, fun l2 => ?_, nFr_trans fT1 (nFr_trans g1 (nFr_u (xFr_u d2))), by rw [d2.2 121 (by omega), g2]; exact r25, by rw [d2.2 121 (by omega), g3]; exact r40, by rw [d2.2 121 (by omega)]; exact rzW_r cI_c.2.1 r39, fun w q => ?_⟩
    · unfold ja_X13_element_b19
      rw [er (), lt_eq, b1, hdr, bd_some, if_neg (show ¬ bi (some v).isSome = 0 from (by show ¬ (1 : Int) = 0; decide)), d1, bd_some]
      cases hq : ixO dn up v r s lw.2.1 with
      | none => rw [if_pos (show bi (none : Option jQ).isSome = 0 from rfl), if_neg (show ¬ (none : Option jQ).isSome = true from (by show ¬ false = true; decide))]
      | some w =>
        rw [if_neg (show ¬ bi (some w).isSome = 0 from (by show ¬ (1 : Int) = 0; decide)), if_pos (show (some w).isSome = true from rfl), if_pos (in_i (N := 24) (by omega)), jc_121_29, Int.toNat_natCast, lt_eq]
        rfl
    · obtain ⟨q', hq'⟩ := d3 _ (by rw [q]; rfl)
      refine ⟨_, hq', fun k k1 k2 => ?_, ?_⟩
      · rw [qUp_ne k1]
        show qUp w r _ k = w k
        rw [qUp_ne k2]
      · rw [qUp_ne (show r ≠ s by omega)]
        show qUp w r _ r = _
        rw [qUp_at, vr]
/-- arrays of an instruction -/
theorem rh_aload (hk : rKx F th n dn up ns us fl bl z el H lc ty P) (hS : gbS F dn up ns us fl bl z el H lc ty m0 P A D σ R i u T) (hx : z.1[i]? = some x) (hu : A i = some u) (ho : x.1 = 33) : ∃ S1, ja_X13_goesBehind 121 P (i : Int) T = some (bi (pGo (dn, up, (ns, us, fl, bl, z, el), H) σ x (H i) u).isSome, S1) ∧ gbH F th n dn up ns us fl bl z el H lc ty m0 P T A D σ R i x u S1 := by
  obtain ⟨t1, t2, t3, t4⟩ := id hS
  obtain ⟨t, xb, e, a1, a2, ⟨⟨p1, p2, p3, p4, p5, p6⟩, ⟨c1, c2, c3⟩, -, -, -, ⟨d1, d2⟩, ⟨l1, l2, l3, l4, l5⟩, -⟩, hd, hg, hlk⟩ := rk_at hk t1 hx hu
  obtain ⟨i1, i2, i3, i4, i5, i6, i7, i8, i9⟩ := id t1
  obtain ⟨k2, k4, kb, ki, kr, krr, k33, -⟩ := hd
  have etk := (tkX_n (bl := bl) (x := x) (by omega))
  have h0 : tkT 33 = 2 ∧ lvT 33 = 1 := by decide +kernel
  obtain ⟨q1, q2, q3⟩ := k33 ho
  obtain ⟨n', n1, n2⟩ := rk_t hk t1.1
  obtain ⟨o1, o2, o3, o4⟩ := rk_op t1 hx
  rw [tHo_2 ⟨by omega, by omega, by omega, by omega⟩ (by rw [etk.1, ho]; exact h0.1), ho, Bool.and_eq_true] at d1
  have g1 : (decide (t (12 + H i - 2) = 2) || tAr (t (12 + H i - 2))) = true := d1.1
  have har := fun (s : Nat) (hs : s < 54) (h : (u (12 + H i - 2)).2.2.1 s = true) => ar_s hk.2.1 g1 (a2.1.2.2.1 _) hs h
  obtain ⟨tt, ht, hel⟩ : ∃ tt : Int, (tt = 1 ∨ 2 ≤ tt) ∧ elS F us z tt (u (12 + H i - 2)).2.2.1 := by
    by_cases ha : tAr (t (12 + H i - 2)) = true
    · refine ⟨tEl (t (12 + H i - 2)), by have := tEl_nz ha; omega, fun s h1 h2 => ?_⟩
      obtain ⟨r1, r2, r3, r4, r5⟩ := har s h1 h2
      refine ⟨r1, r3, fun v hv => vl1_le hk.2.1 (tV_el (d2 _) ha) r5 hv, ?_⟩
      have n1 := tEl_nz ha
      have n2 := tEl_nz r2
      constructor
      · intro q
        rcases tLe_nz r5 (by omega) with r | r <;> omega
      · intro q
        rcases tLe_nz r5 (by omega) with r | r <;> omega
    · exact ⟨1, Or.inl rfl, fun s h1 h2 => absurd (har s h1 h2).2.2.2.1 ha⟩
  have hP4 : T.1 P 4 = (z.2.1.length : Int) := i1.1.2.2.2.2.2.2.2.2.2.2.1.1
  obtain ⟨T2, s1, s2, s3, s4, s5, s6⟩ := r_elI (σ := σ) hk.1 hk.2.1.1 n1 n2 (N := z.2.1.length) (r := 12 + H i - 2) (s := 12 + H i - 1) a2.1 c3 (by omega) ⟨by omega, by omega⟩ q1 t2 l4 hP4 i4 (fun k w hk' hw => by
    have := (hg.1 _ w hw).2
    rw [zTp_l hk'] at this
    exact ⟨vBr_l this, this.1.2.1.1 rfl⟩) (fun k h1 h2 => nf_t fun q => by
    have := (har k h2 q).1
    omega) (fun q => by
    cases hq : pDr u (12 + H i - 2) with
    | none => exact absurd hq q
    | some v => exact lnI_ln (i7.1 i u hu _) (fun s h1 h2 => (har s h1 h2).2.1) (pDr_st hq)) t3
  have hgo : pGo (dn, up, (ns, us, fl, bl, z, el), H) σ x (H i) u = oB (oB (pDr u (12 + H i - 2)) fun v => pIx dn up σ v (12 + H i - 2) (12 + H i - 1)) fun v' => oB (fJ (fun s => σ.1 (2592 + s)) (u (12 + H i - 2)).2.2.1 54) fun l => some (qUp v' (12 + H i - 2) l) := by
    unfold pGo
    rw [if_neg (by omega), if_neg (by omega), if_neg (by omega), if_neg (by omega), if_neg (by omega), if_neg (by omega), if_neg (by omega), if_neg (by omega), if_neg (by omega), if_neg (by omega), if_neg (by omega), if_neg (by omega), if_neg (by omega), if_pos ho]
    cases pDr u (12 + H i - 2) <;> rfl
  have r39 : cI (T2.1 121 39) (rzS (dn, up, (ns, us, fl, bl, z, el), H) σ x (H i) u) := by
    rw [← rz_3 (e0 := 0) (e1 := 1) (e2 := 5) ⟨by decide, by decide, by decide⟩ (pRz_33 ho)]
    have e0 : pRz (dn, up, (ns, us, fl, bl, z, el), H) σ x (H i) u 0 = (u (12 + H i - 2)).2.2.1 62 := by
      unfold pRz; rw [if_pos rfl, if_neg (by omega), if_pos (by omega)]
    have e1 : pRz (dn, up, (ns, us, fl, bl, z, el), H) σ x (H i) u 1 = (match pDr u (12 + H i - 2) with
      | none => false
      | some v => pIr σ v (12 + H i - 2) (12 + H i - 1)) := by
      unfold pRz; rw [if_neg (by decide), if_pos rfl, if_pos ho]
      cases pDr u (12 + H i - 2) <;> rfl
    rw [e0, e1]
    exact s5
  have r40 : T2.1 121 40 = 0 := by rw [s4, t4]
  have e1' : ∀ _ : Unit, nk_w (((12 + H i : Nat) : Int) - 1) = ((12 + H i - 1 : Nat) : Int) := fun _ => top_w (d := 1) c3 (by omega)
  have e2' : ∀ _ : Unit, nk_w (((12 + H i : Nat) : Int) - 2) = ((12 + H i - 2 : Nat) : Int) := fun _ => top_w (d := 2) c3 (by omega)
  have eb : ja_X13_element 121 P 0 T = if (oB (pDr u (12 + H i - 2)) fun v => pIx dn up σ v (12 + H i - 2) (12 + H i - 1)).isSome = true then elR P (12 + H i - 2) 0 T2 else some (0, T2) := by
    unfold ja_X13_element
    rw [if_pos rfl, t2.1, e1' (), s1]
  rw [(gb_more hk.1 p2 o1 o2).2.2.2.1 (by omega), eb, hgo]
  cases hq : oB (pDr u (12 + H i - 2)) fun v => pIx dn up σ v (12 + H i - 2) (12 + H i - 1) with
  | none =>
    refine ⟨T2, rPs_b (b := false) (by rw [if_neg (show ¬ (none : Option jQ).isSome = true from (by show ¬ false = true; decide))]; rfl), gbH_n hk hS s2 ⟨by omega, by omega, by omega, by omega, by omega, by omega, by omega, by omega⟩ r39 (by rw [pTh_n ⟨by omega, by omega, by omega⟩]; exact cV_z0 r40) (fun w q => by rw [hgo, hq] at q; cases q)⟩
  | some w0 =>
    obtain ⟨W, w1, w2, w3⟩ := s6 w0 hq
    have w1' : rX T2 (12 + H i) (qUp W (12 + H i - 2) (W (12 + H i - 2))) := by rw [qUp_id]; exact w1
    obtain ⟨S1, b1, b2, b3, b4, b5⟩ := r_drv (F := F) hk.1 (d := 2) (h := H i) (by omega) c3 w1' (s := sAnd (u (12 + H i - 2)).2.2.1 sAl) (by rw [w3]; rfl) (fr := 2592) (ap := 1) (Or.inl rfl) (by omega) (f := fun k => σ.1 (2592 + k)) (K := if tt = 1 then 1 else 2) (fun k h1 h2 => ⟨by omega, by
      have := i4.1 (2592 + k) (by omega)
      rw [show rIx (2592 + k) = 2592 + 1 * k by unfold rIx; rw [if_pos (by omega)]; omega] at this
      exact rVo_c (fun a h3 h4 => by rw [s2.2.1 a (by have := hk.1; omega) (by have := hk.1; omega)]) this⟩) (fun k w h1 h2 h3 => by
      have h2' : (u (12 + H i - 2)).2.2.1 k = true := by
        unfold sAnd at h2
        rw [Bool.and_eq_true] at h2
        exact h2.1
      obtain ⟨r1, r2, r3, r4⟩ := hel k h1 h2'
      have hv := (hg.1 _ w h3).2
      rw [zTp_e h1] at hv
      have hv' := r3 w hv
      refine ⟨vBr_l hv, ?_⟩
      by_cases c : tt = 1
      · rw [if_pos c]; exact hv'.1.2.1.1 c
      · rw [if_neg c]; exact (hv'.1.2.1.2 (by omega)).1)
    rw [fJ_al 54 (Nat.le_refl _)] at b1 b4
    have b1 : ja_X13_leaveValues 121 P 2592 1 (T2.1 232 (12 + H i - 2)) (nk_wi T2 121 25 ((12 + H i - 2 : Nat) : Int)) = some (bi (fJ (fun k => σ.1 (2592 + k)) (u (12 + H i - 2)).2.2.1 54).isSome, S1) := b1
    have n3 : nFr T S1 := nFr_trans s2 (nFr_u b2)
    refine ⟨S1, rPs_b (b := (oB (some w0) fun v' => oB (fJ (fun s => σ.1 (2592 + s)) (u (12 + H i - 2)).2.2.1 54) fun l => some (qUp v' (12 + H i - 2) l)).isSome) ?_, gbH_n hk hS n3 ⟨by omega, by omega, by omega, by omega, by omega, by omega, by omega, by omega⟩ (by rw [b2.2.2 39 (by decide)]; exact r39) (by rw [b2.2.2 40 (by decide), pTh_n ⟨by omega, by omega, by omega⟩]; exact cV_z0 r40) (fun w q => ?_)⟩
    · rw [if_pos (show (some w0).isSome = true from rfl)]
      unfold elR
      rw [if_pos rfl, s3, e2' (), lt_eq, b1, bd_some, if_pos (bi_01 _)]
      cases fJ (fun k => σ.1 (2592 + k)) (u (12 + H i - 2)).2.2.1 54 <;> rfl
    · rw [hgo, hq] at q
      have q : (oB (fJ (fun s => σ.1 (2592 + s)) (u (12 + H i - 2)).2.2.1 54) fun l => some (qUp w0 (12 + H i - 2) l)) = some w := q
      obtain ⟨lv, l1, l2⟩ := oB_some q
      cases l2
      rw [l1] at b4
      rw [etk.1, etk.2, ho, h0.1, h0.2, show 12 + (H i - 2 + 1) = 12 + H i - 2 + 1 by omega]
      refine ⟨b3, rX_w (b5 lv b4) (Nat.le_refl _) (fun k hk' => ?_)⟩
      by_cases c : k = 12 + H i - 2
      · rw [c, qUp_at, qUp_at]
      · rw [qUp_ne c, qUp_ne c]
        exact w2 k (by omega) c
end REL
