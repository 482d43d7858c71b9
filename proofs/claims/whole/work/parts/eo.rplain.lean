/-! The reference looks at plain instructions, and at those that use objects. -/
section RPL
variable {ns : List (List Int)} {us : List Int} {fl : List (List Int × Nat × Int)} {bl : List jB} {z : jL} {el : List (Nat × Nat × Nat × Nat)} {F : Int → Prop} {dn up : Int → Int} {H lc : Nat → Nat} {ty : Nat → Option (Nat → Int)} {th : Nat → Int} {n P m0 : Nat} {σ : jG} {i : Nat} {x : jC} {u : jQ} {S T : nk_S} {A R : jA} {D : Nat → Bool}
/-- an answer is passed on -/
def rPs (f : Option (Int × nk_S)) : Option (Int × nk_S) := nk_bd f fun r1 S2 => if r1 = 0 ∨ r1 = 1 then some (r1, S2) else none
theorem rPs_b {b : Bool} {f : Option (Int × nk_S)} (h : f = some (bi b, S)) : rPs f = some (bi b, S) := by
  unfold rPs
  rw [h, bd_some, if_pos (bi_01 _)]
theorem gb_num (hP : P = 122 ∨ P = 168) (hi : i < 1024) {k : Nat} (hk : 8 ≤ k ∧ k ≤ 18) (ho : S.1 (P + 15) i = (k : Int)) : ja_X13_goesBehind 121 P (i : Int) S = rPs (ja_X13_numbers 121 P (k : Int) S) := by
  obtain ⟨c22, c23, c24, -⟩ := jc_Pc hP
  have e : ja_X13_goesBehind 121 P (i : Int) S = ja_X13_goesBehind 121 P (i : Int) S := rfl
  conv at e => rhs; unfold ja_X13_goesBehind
  rw [if_pos (in_i (N := 1024) (by omega)), c22, c23, c24, Int.toNat_natCast, lt_eq, lt_eq] at e
  rcases (show k = 8 ∨ k = 9 ∨ k = 10 ∨ k = 11 ∨ k = 12 ∨ k = 13 ∨ k = 14 ∨ k = 15 ∨ k = 16 ∨ k = 17 ∨ k = 18 by omega) with q | q | q | q | q | q | q | q | q | q | q
  all_goals (subst q; rw [e, ho]; rfl)
theorem gb_more (hP : P = 122 ∨ P = 168) (hi : i < 1024) {o a : Int} (ho : S.1 (P + 15) i = o) (ha : S.1 (P + 16) i = a) :
    (o = 30 → ja_X13_goesBehind 121 P (i : Int) S = rPs (ja_X13_made 121 P a S))
    ∧ (o = 31 → ja_X13_goesBehind 121 P (i : Int) S = rPs (ja_X13_madeArray 121 P a S))
    ∧ (o = 32 → ja_X13_goesBehind 121 P (i : Int) S = rPs (ja_X13_lengthOf 121 P S))
    ∧ (o = 33 → ja_X13_goesBehind 121 P (i : Int) S = rPs (ja_X13_element 121 P 0 S))
    ∧ (o = 34 → ja_X13_goesBehind 121 P (i : Int) S = rPs (ja_X13_element 121 P 1 S))
    ∧ (o = 35 → ja_X13_goesBehind 121 P (i : Int) S = rPs (ja_X13_fieldStep 121 P a 0 S))
    ∧ (o = 36 → ja_X13_goesBehind 121 P (i : Int) S = rPs (ja_X13_fieldStep 121 P a 1 S))
    ∧ (o = 37 → ja_X13_goesBehind 121 P (i : Int) S = rPs (ja_X13_ofType 121 P a 1 S))
    ∧ (o = 38 → ja_X13_goesBehind 121 P (i : Int) S = rPs (ja_X13_ofType 121 P a 0 S))
    ∧ (o = 39 → ja_X13_goesBehind 121 P (i : Int) S = rPs (ja_X13_call 121 P a 0 S))
    ∧ (o = 40 → ja_X13_goesBehind 121 P (i : Int) S = rPs (ja_X13_call 121 P a 1 S))
    ∧ (o = 42 → ja_X13_goesBehind 121 P (i : Int) S = rPs (ja_X13_given 121 P (S.1 (P + 18) i) 1 S))
    ∧ (o = 43 → ja_X13_goesBehind 121 P (i : Int) S = rPs (ja_X13_given 121 P (S.1 (P + 18) i) 0 S))
    ∧ (o = 41 → ja_X13_goesBehind 121 P (i : Int) S = if 0 ≤ (nk_w ((S.1 121 25) - 1)) ∧ (nk_w ((S.1 121 25) - 1)) < 24 then (if (nk_land (S.1 232 (nk_w ((S.1 121 25) - 1)).toNat) 4611686018427387904) = 0 then ja_X13_goesBehind_b579 121 S else nk_lt (nk_wi S 121 39 (nk_ior (S.1 121 39) 1)) fun S73 => ja_X13_goesBehind_b579 121 S73) else none) := by
  obtain ⟨c22, c23, c24, c25, -⟩ := jc_Pc hP
  have e : ja_X13_goesBehind 121 P (i : Int) S = ja_X13_goesBehind 121 P (i : Int) S := rfl
  conv at e => rhs; unfold ja_X13_goesBehind
  rw [if_pos (in_i (N := 1024) (by omega)), c22, c23, c24, Int.toNat_natCast, ho, ha, lt_eq, lt_eq, jc_121_29] at e
  refine ⟨fun q => ?_, fun q => ?_, fun q => ?_, fun q => ?_, fun q => ?_, fun q => ?_, fun q => ?_, fun q => ?_, fun q => ?_, fun q => ?_, fun q => ?_, fun q => ?_, fun q => ?_, fun q => ?_⟩
  · subst q; rw [e]; rfl
  · subst q; rw [e]; rfl
  · subst q; rw [e]; rfl
  · subst q; rw [e]; rfl
  · subst q; rw [e]; rfl
  · subst q; rw [e]; rfl
  · subst q; rw [e]; rfl
  · subst q; rw [e]; rfl
  · subst q; rw [e]; rfl
  · subst q; rw [e]; rfl
  · subst q; rw [e]; rfl
  · subst q
    rw [e]
    simp only [↓reduceIte, Int.reduceEq]
    unfold ja_X13_goesBehind_b605
    rw [if_pos (in_i (N := 1024) (by omega)), if_pos rfl, c25, Int.toNat_natCast]
    rfl
  · subst q
    rw [e]
    simp only [↓reduceIte, Int.reduceEq]
    unfold ja_X13_goesBehind_b605
    rw [if_pos (in_i (N := 1024) (by omega)), if_neg (by decide), c25, Int.toNat_natCast]
    rfl
  · subst q; rw [e]; rfl
theorem cI_z0 {v : Int} (h : v = 0) : cI v noS := by rw [h]; exact cI_0
theorem cV_z0 {v : Int} (h : v = 0) : cV v noS := by rw [h]; exact cV_0
theorem rh_moves (hk : rKx F th n dn up ns us fl bl z el H lc ty P) (hS : gbS F dn up ns us fl bl z el H lc ty m0 P A D σ R i u T) (hx : z.1[i]? = some x) (hu : A i = some u) (ho : x.1 ≤ 7 ∨ x.1 = 45 ∨ x.1 = 44 ∨ x.1 = 19) : ∃ S1, ja_X13_goesBehind 121 P (i : Int) T = some (bi (pGo (dn, up, (ns, us, fl, bl, z, el), H) σ x (H i) u).isSome, S1) ∧ gbH F th n dn up ns us fl bl z el H lc ty m0 P T A D σ R i x u S1 := by
  obtain ⟨t1, t2, t3, t4⟩ := id hS
  obtain ⟨t, xb, e, a1, a2, ⟨⟨p1, p2, p3, p4, p5, p6⟩, ⟨c1, c2, c3⟩, -⟩, hd, hg, hlk⟩ := rk_at hk t1 hx hu
  obtain ⟨k2, k4, -⟩ := hd
  have etk := (tkX_n (bl := bl) (x := x) (by omega))
  obtain ⟨n', n1, n2⟩ := rk_t hk t1.1
  obtain ⟨o1, o2, o3, o4⟩ := rk_op t1 hx
  rw [etk.1, etk.2] at c2
  rw [etk.1] at c1
  obtain ⟨S', v, s1, s2, s3, s4⟩ := r_moves (σ := σ) (G := (dn, up, (ns, us, fl, bl, z, el), H)) hk.1 hk.2.1.1 n1 n2 p2 o1 o2 o3 c3 a2.1 t2 (h' := H i - tkT x.1 + lvT x.1) rfl c1 c2 ho (fun q => (hk.2.1.2.2.2.2.2.2.2.2.2 i x hx).1 q) (fun q => by
    have hf : fK x.1 = 2 ∨ fK x.1 = 3 := by
      rcases q with q | q | q
      · rw [q]; exact Or.inl fK_mv.1
      · rw [q]; exact Or.inl fK_mv.2.1
      · rw [q]; exact Or.inr fK_mv.2.2
    have := p1.2.2.1 hf
    omega) (fun q => ⟨k4 q, p1.2.2.2.2.2.2.2.2.2 q⟩) rfl rfl
  refine ⟨S', by rw [s3]; exact s1, gbH_n hk hS (nFr_u s2) ⟨by omega, by omega, by omega, by omega, by omega, by omega, by omega, by omega⟩ ?_ ?_ (fun w q => ?_)⟩
  · rw [s2.2.2 39 (by decide), t3, ← rz_0 (pRz_n (by omega))]
    exact cI_0
  · rw [s2.2.2 40 (by decide), t4, pTh_n ⟨by omega, by omega, by omega⟩]
    exact cV_0
  · rw [s3] at q
    cases q
    rw [etk.1, etk.2]
    exact s4
theorem rh_nums (hk : rKx F th n dn up ns us fl bl z el H lc ty P) (hS : gbS F dn up ns us fl bl z el H lc ty m0 P A D σ R i u T) (hx : z.1[i]? = some x) (hu : A i = some u) (ho : 8 ≤ x.1 ∧ x.1 ≤ 18) : ∃ S1, ja_X13_goesBehind 121 P (i : Int) T = some (bi (pGo (dn, up, (ns, us, fl, bl, z, el), H) σ x (H i) u).isSome, S1) ∧ gbH F th n dn up ns us fl bl z el H lc ty m0 P T A D σ R i x u S1 := by
  obtain ⟨t1, t2, t3, t4⟩ := id hS
  obtain ⟨t, xb, e, a1, a2, ⟨⟨p1, p2, p3, p4, p5, p6⟩, ⟨c1, c2, c3⟩, -⟩, hd, hg, hlk⟩ := rk_at hk t1 hx hu
  obtain ⟨k2, k4, kb, ki, -⟩ := hd
  have etk := (tkX_n (bl := bl) (x := x) (by omega))
  obtain ⟨n', n1, n2⟩ := rk_t hk t1.1
  obtain ⟨o1, o2, o3, o4⟩ := rk_op t1 hx
  rw [gb_num hk.1 p2 ho o1]
  have rk : ∀ k, (u k).1 = 1 → rOk F (u k).2.1 := fun k q => (wOk_1 (a2.1.1 k) q).1
  by_cases q18 : x.1 = 18
  · obtain ⟨m1, m2⟩ := ki (Or.inl q18)
    obtain ⟨S', s1, s2, s3⟩ := r_neg hk.1 hk.2.1.1 n1 n2 c3 m2 (rk _ m1) t2
    have hgo : pGo (dn, up, (ns, us, fl, bl, z, el), H) σ x (H i) u = some (qUp u (12 + H i - 1) (wR (kNeg dn up (u (12 + H i - 1)).2.1))) := by
      unfold pGo
      rw [if_neg (by omega), if_neg (by omega), if_neg (by omega), if_neg (by omega), if_neg (by omega), if_neg (by omega), if_neg (by omega), if_neg (by omega), if_neg (by omega), if_pos q18]
    refine ⟨S', rPs_b (b := (pGo (dn, up, (ns, us, fl, bl, z, el), H) σ x (H i) u).isSome) (by rw [hgo, q18]; exact s1), gbH_n hk hS (nFr_u s2) ⟨by omega, by omega, by omega, by omega, by omega, by omega, by omega, by omega⟩ ?_ ?_ (fun w q => ?_)⟩
    · rw [s2.2.2 39 (by decide), t3, ← rz_0 (pRz_n (by omega))]
      exact cI_0
    · rw [s2.2.2 40 (by decide), t4, pTh_n ⟨by omega, by omega, by omega⟩]
      exact cV_0
    · rw [hgo] at q
      cases q
      have h18 : lvT x.1 = 1 ∧ tkT x.1 = 1 := by rw [q18]; exact lt_tab.2.2.2.2.2.2.2.1
      rw [etk.1, etk.2, show H i - tkT x.1 + lvT x.1 = H i by omega]
      exact s3
  · obtain ⟨m1, m2, m3⟩ := kb (Or.inl (by omega))
    obtain ⟨S', s1, s2, s3, s4, s5⟩ := r_num hk.1 hk.2.1.1 n1 n2 (op := x.1) (by omega) c3 m3 (rk _ m2) (rk _ m1) t2
    have hgo : pGo (dn, up, (ns, us, fl, bl, z, el), H) σ x (H i) u = oB (kCalc dn up x.1 (u (12 + H i - 2)).2.1 (u (12 + H i - 1)).2.1) fun r => some (qUp u (12 + H i - 2) (wR r)) := by
      unfold pGo
      rw [if_neg (by omega), if_neg (by omega), if_neg (by omega), if_neg (by omega), if_neg (by omega), if_neg (by omega), if_neg (by omega), if_neg (by omega), if_pos (by omega)]
    have his : (pGo (dn, up, (ns, us, fl, bl, z, el), H) σ x (H i) u).isSome = (kCalc dn up x.1 (u (12 + H i - 2)).2.1 (u (12 + H i - 1)).2.1).isSome := by
      rw [hgo]
      cases kCalc dn up x.1 (u (12 + H i - 2)).2.1 (u (12 + H i - 1)).2.1 <;> rfl
    refine ⟨S', rPs_b (by rw [his]; exact s1), gbH_n hk hS s2 ⟨by omega, by omega, by omega, by omega, by omega, by omega, by omega, by omega⟩ ?_ ?_ (fun w q => ?_)⟩
    · rw [s3, t3]
      unfold rzN
      by_cases c : x.1 = 11 ∨ x.1 = 12
      · rw [← rz_1 (b := pRz (dn, up, (ns, us, fl, bl, z, el), H) σ x (H i) u 3) (e0 := 3) (by decide) (pRz_c c)]
        have hp : pRz (dn, up, (ns, us, fl, bl, z, el), H) σ x (H i) u 3 = (decide ((u (12 + H i - 1)).2.1.1 ≤ 0) && decide (0 ≤ (u (12 + H i - 1)).2.1.2)) := by
          unfold pRz
          rw [if_neg (by decide), if_neg (by decide), if_neg (by decide), if_pos rfl, decide_eq_true c, Bool.true_and]
        rw [hp]
        unfold nlR
        by_cases c0 : (u (12 + H i - 1)).2.1.1 ≤ 0 ∧ 0 ≤ (u (12 + H i - 1)).2.1.2
        · rw [if_pos ⟨c, c0⟩, decide_eq_true c0.1, decide_eq_true c0.2, if_pos (show (true && true) = true from rfl)]
          exact cI_or cI_0 cI_c.2.2.2.1
        · rw [if_neg (fun q => c0 q.2), if_neg (fun q => by
            rw [Bool.and_eq_true] at q
            exact c0 ⟨of_decide_eq_true q.1, of_decide_eq_true q.2⟩)]
          exact cI_0
      · rw [if_neg (fun q => c q.1), ← rz_0 (pRz_n (by omega))]
        exact cI_0
    · rw [s4, t4, pTh_n ⟨by omega, by omega, by omega⟩]
      exact cV_0
    · rw [hgo] at q
      obtain ⟨r, r1, r2⟩ := oB_some q
      cases r2
      have hc := lt_cal x.1 p1.1 (by omega)
      rw [etk.1, etk.2, show 12 + (H i - tkT x.1 + lvT x.1) = 12 + H i - 1 by omega]
      exact s5 r r1
theorem rh_length (hk : rKx F th n dn up ns us fl bl z el H lc ty P) (hS : gbS F dn up ns us fl bl z el H lc ty m0 P A D σ R i u T) (hx : z.1[i]? = some x) (hu : A i = some u) (ho : x.1 = 32) : ∃ S1, ja_X13_goesBehind 121 P (i : Int) T = some (bi (pGo (dn, up, (ns, us, fl, bl, z, el), H) σ x (H i) u).isSome, S1) ∧ gbH F th n dn up ns us fl bl z el H lc ty m0 P T A D σ R i x u S1 := by
  obtain ⟨t1, t2, t3, t4⟩ := id hS
  obtain ⟨t, xb, e, a1, a2, ⟨⟨p1, p2, p3, p4, p5, p6⟩, ⟨c1, c2, c3⟩, -⟩, hd, hg, hlk⟩ := rk_at hk t1 hx hu
  obtain ⟨k2, k4, kb, ki, kr, -⟩ := hd
  have etk := (tkX_n (bl := bl) (x := x) (by omega))
  have h0 : tkT 32 = 1 ∧ lvT 32 = 1 := by decide +kernel
  have h1 := kr (by omega)
  obtain ⟨o1, o2, o3, o4⟩ := rk_op t1 hx
  obtain ⟨S', s1, s2, s3⟩ := r_length (F := F) hk.1 a2.1.1 h1.2 c3 t2 t1.2.2.2.1 (fun k w hk' hw => by
    have := (hg.1 _ w hw).2
    rw [zTp_l hk'] at this
    exact ⟨vBr_l this, this.1.2.1.1 rfl⟩)
  have hgo : pGo (dn, up, (ns, us, fl, bl, z, el), H) σ x (H i) u = oB (pDr u (12 + H i - 1)) fun v => oB (pLn σ (u (12 + H i - 1)).2.2.1) fun l => some (qUp v (12 + H i - 1) (wFc (wR l.2.1) (oOn (u (12 + H i - 1)).2.2.2.1 24))) := by
    unfold pGo
    rw [if_neg (by omega), if_neg (by omega), if_neg (by omega), if_neg (by omega), if_neg (by omega), if_neg (by omega), if_neg (by omega), if_neg (by omega), if_neg (by omega), if_neg (by omega), if_neg (by omega), if_neg (by omega), if_pos ho]
  have hz0 : pRz (dn, up, (ns, us, fl, bl, z, el), H) σ x (H i) u 0 = (u (12 + H i - 1)).2.2.1 62 := by
    unfold pRz; rw [if_pos rfl, if_pos (by omega)]
  obtain ⟨f1, f2, f3, f4, f5⟩ := rzW_f (S := T) (b := (u (12 + H i - 1)).2.2.1 62) (c := 1)
  rw [← hgo] at s1 s3
  refine ⟨S', by rw [(gb_more hk.1 p2 o1 o2).2.2.1 (by omega)]; exact rPs_b s1, gbH_n hk hS (nFr_trans f1 (nFr_u s2)) ⟨by omega, by omega, by omega, by omega, by omega, by omega, by omega, by omega⟩ ?_ ?_ (fun w q => ?_)⟩
  · rw [s2.2.2 39 (by decide), ← rz_1 (b := pRz (dn, up, (ns, us, fl, bl, z, el), H) σ x (H i) u 0) (e0 := 0) (by decide) (pRz_d (by omega)), hz0]
    exact rzW_r cI_c.1 (cI_z0 t3)
  · rw [s2.2.2 40 (by decide), f3, t4, pTh_n ⟨by omega, by omega, by omega⟩]
    exact cV_0
  · rw [etk.1, etk.2, ho, h0.1, h0.2, show H i - 1 + 1 = H i by omega]
    exact s3 w q
theorem rh_get (hk : rKx F th n dn up ns us fl bl z el H lc ty P) (hS : gbS F dn up ns us fl bl z el H lc ty m0 P A D σ R i u T) (hx : z.1[i]? = some x) (hu : A i = some u) (ho : x.1 = 35) : ∃ S1, ja_X13_goesBehind 121 P (i : Int) T = some (bi (pGo (dn, up, (ns, us, fl, bl, z, el), H) σ x (H i) u).isSome, S1) ∧ gbH F th n dn up ns us fl bl z el H lc ty m0 P T A D σ R i x u S1 := by
  obtain ⟨t1, t2, t3, t4⟩ := id hS
  obtain ⟨t, xb, e, a1, a2, ⟨⟨p1, p2, p3, p4, p5, p6⟩, ⟨c1, c2, c3⟩, -, -, -, -, ⟨l1, -⟩, -, y1, y2⟩, hd, hg, hlk⟩ := rk_at hk t1 hx hu
  obtain ⟨k2, k4, kb, ki, kr, -⟩ := hd
  have etk := (tkX_n (bl := bl) (x := x) (by omega))
  have h0 : tkT 35 = 1 ∧ lvT 35 = 1 := by decide +kernel
  have h1 := kr (by omega)
  obtain ⟨o1, o2, o3, o4⟩ := rk_op t1 hx
  obtain ⟨f, c, q1, q2, q3, q4, y, q5, q6⟩ := p1.2.2.2.2.2.1 (Or.inl ho)
  have yt := (y1 y (List.mem_of_getElem? q5)).2
  have hra : rA x = (f : Int) := by unfold rA; rw [if_neg (by omega), if_neg (by omega)]; exact q1
  rw [hra] at o2
  obtain ⟨S', s1, s2, s3⟩ := r_get (F := F) (f := f) (K := if y.2.2 = 1 then 1 else 2) hk.1 a2.1.1 h1.2 c3 t2 t1.2.2.2.1 (by omega) (fun k w hk' hw => by
    have := (hg.1 _ w hw).2
    have ez : zTp fl bl z (k * 48 + f) = y.2.2 := by
      unfold zTp
      rw [if_pos (by omega), show (k * 48 + f) % 48 = f by omega, q5]
    rw [ez] at this
    refine ⟨vBr_l this, ?_⟩
    by_cases c : y.2.2 = 1
    · rw [if_pos c]; exact this.1.2.1.1 c
    · rw [if_neg c]; exact (this.1.2.1.2 (by omega)).1)
  have hgo : pGo (dn, up, (ns, us, fl, bl, z, el), H) σ x (H i) u = oB (pDr u (12 + H i - 1)) fun v => oB (fJ (fun s => σ.1 (s * 48 + f)) (u (12 + H i - 1)).2.2.1 54) fun l => some (qUp v (12 + H i - 1) l) := by
    unfold pGo
    rw [if_neg (by omega), if_neg (by omega), if_neg (by omega), if_neg (by omega), if_neg (by omega), if_neg (by omega), if_neg (by omega), if_neg (by omega), if_neg (by omega), if_neg (by omega), if_neg (by omega), if_neg (by omega), if_neg (by omega), if_neg (by omega), if_neg (by omega), if_pos ho, q1, Int.toNat_natCast]
  have hz0 : pRz (dn, up, (ns, us, fl, bl, z, el), H) σ x (H i) u 0 = (u (12 + H i - 1)).2.2.1 62 := by
    unfold pRz; rw [if_pos rfl, if_pos (by omega)]
  obtain ⟨f1, f2, f3, f4, f5⟩ := rzW_f (S := T) (b := (u (12 + H i - 1)).2.2.1 62) (c := 1)
  rw [← hgo] at s1 s3
  refine ⟨S', by rw [(gb_more hk.1 p2 o1 o2).2.2.2.2.2.1 (by omega)]; exact rPs_b s1, gbH_n hk hS (nFr_trans f1 (nFr_u s2)) ⟨by omega, by omega, by omega, by omega, by omega, by omega, by omega, by omega⟩ ?_ ?_ (fun w q => ?_)⟩
  · rw [s2.2.2 39 (by decide), ← rz_1 (b := pRz (dn, up, (ns, us, fl, bl, z, el), H) σ x (H i) u 0) (e0 := 0) (by decide) (pRz_d (by omega)), hz0]
    exact rzW_r cI_c.1 (cI_z0 t3)
  · rw [s2.2.2 40 (by decide), f3, t4, pTh_n ⟨by omega, by omega, by omega⟩]
    exact cV_0
  · rw [etk.1, etk.2, ho, h0.1, h0.2, show H i - 1 + 1 = H i by omega]
    exact s3 w q
/-- the sites of a type, with what the reference knows -/
theorem rk_sb (hk : rKx F th n dn up ns us fl bl z el H lc ty P) (hv : rPv S P (ns, us, fl, bl, z, el) H ty) (hl : us.length = ns.length) {t : Int} (vt : tV us t) : ∃ v, ja_X13_sitesBelow P (rvU t) S = some (v, S) ∧ cV v (pB us z t) := by
  obtain ⟨b1, b2, -, -, -, -, -, -, -, -, ⟨b11, b11'⟩, b12, -⟩ := hv.1
  obtain ⟨hT, hs, -, huO, h32, h8, hz48, -⟩ := id hk.2.1
  refine r_sBelow hk.1 (fun j hj => b2 j (by rw [← hl]; exact hj)) huO h32 b11 hz48 hs (fun s h1 h2 => ?_) vt
  have h3 := (hs s h2).2
  have hrv := rvU_T (t := sTp z s) (Or.inr h3)
  rw [← hrv]
  unfold sTp
  by_cases c : s < z.2.1.length
  · rw [if_pos c]
    obtain ⟨t0, ht0⟩ : ∃ t0, z.2.1[s]? = some t0 := ⟨_, List.getElem?_eq_getElem c⟩
    rw [List.getD_eq_getElem?_getD, ht0, Option.getD_some]
    exact b11' s t0 ht0
  · rw [if_neg c]
    have h48 : 48 ≤ s := by
      unfold sVd at h2
      rw [decide_eq_false c, Bool.false_or, Bool.and_eq_true] at h2
      exact of_decide_eq_true h2.1
    rw [b12 s h48 h1]
    unfold rvT
    rw [if_neg (by omega), if_neg (by omega), if_neg (by omega), if_pos (by omega)]
    omega
theorem rh_throw (hk : rKx F th n dn up ns us fl bl z el H lc ty P) (hS : gbS F dn up ns us fl bl z el H lc ty m0 P A D σ R i u T) (hx : z.1[i]? = some x) (hu : A i = some u) (ho : x.1 = 41) : ∃ S1, ja_X13_goesBehind 121 P (i : Int) T = some (bi (pGo (dn, up, (ns, us, fl, bl, z, el), H) σ x (H i) u).isSome, S1) ∧ gbH F th n dn up ns us fl bl z el H lc ty m0 P T A D σ R i x u S1 := by
  obtain ⟨t1, t2, t3, t4⟩ := id hS
  obtain ⟨t, xb, e, a1, a2, ⟨⟨p1, p2, p3, p4, p5, p6⟩, ⟨c1, c2, c3⟩, -⟩, hd, hg, hlk⟩ := rk_at hk t1 hx hu
  obtain ⟨k2, k4, kb, ki, kr, -⟩ := hd
  have h1 := kr (by omega)
  obtain ⟨o1, o2, o3, o4⟩ := rk_op t1 hx
  have e1 : ∀ _ : Unit, nk_w (((12 + H i : Nat) : Int) - 1) = ((12 + H i - 1 : Nat) : Int) := fun _ => top_w (d := 1) c3 (by omega)
  have h3 : cV (T.1 232 (12 + H i - 1)) (u (12 + H i - 1)).2.2.1 := (t2.2 (12 + H i - 1) (by omega)).2.2.2.1
  have hgo : pGo (dn, up, (ns, us, fl, bl, z, el), H) σ x (H i) u = none := by
    unfold pGo
    rw [if_neg (by omega), if_neg (by omega), if_neg (by omega), if_neg (by omega), if_neg (by omega), if_neg (by omega), if_neg (by omega), if_neg (by omega), if_neg (by omega), if_neg (by omega), if_neg (by omega), if_neg (by omega), if_neg (by omega), if_neg (by omega), if_neg (by omega), if_neg (by omega), if_neg (by omega), if_neg (by omega), if_neg (by omega), if_neg (by omega), if_neg (by omega)]
  have hz0 : pRz (dn, up, (ns, us, fl, bl, z, el), H) σ x (H i) u 0 = (u (12 + H i - 1)).2.2.1 62 := by
    unfold pRz; rw [if_pos rfl, if_pos (by omega)]
  obtain ⟨f1, f2, f3, f4, f5⟩ := rzW_f (S := T) (b := (u (12 + H i - 1)).2.2.1 62) (c := 1)
  obtain ⟨T1, hT1⟩ : ∃ T1, T1 = rzW ((u (12 + H i - 1)).2.2.1 62) 1 T := ⟨_, rfl⟩
  rw [← hT1] at f1 f2 f3 f4 f5
  obtain ⟨T2, hT2⟩ : ∃ T2, T2 = nk_wi T1 121 40 (nk_lor 0 (nk_land (T.1 232 (12 + H i - 1)) (-4611686018427387905))) := ⟨_, rfl⟩
  have b579 : ja_X13_goesBehind_b579 121 T1 = some (0, T2) := by
    unfold ja_X13_goesBehind_b579
    rw [f2, t2.1, e1 (), if_pos (in_i (N := 24) (by omega)), jc_121_29, Int.toNat_natCast, f3, t4, f4 232 (by decide), lt_eq, ← hT2]
  refine ⟨T2, ?_, gbH_n hk hS (nFr_trans f1 (by rw [hT2]; exact ⟨rfl, fun a _ h => wi_n h, fun f _ _ h => by rw [wi_at, if_neg h]⟩)) ⟨by omega, by omega, by omega, by omega, by omega, by omega, by omega, by omega⟩ ?_ ?_ (fun w q => by rw [hgo] at q; cases q)⟩
  · rw [(gb_more hk.1 p2 o1 o2).2.2.2.2.2.2.2.2.2.2.2.2.2 (by omega), t2.1, e1 (), if_pos (in_i (N := 24) (by omega)), Int.toNat_natCast, hgo]
    cases hb : (u (12 + H i - 1)).2.2.1 62 with
    | false =>
      rw [hb] at hT1
      have hT1 : T1 = T := hT1
      rw [if_pos ((cV_bit h3).mpr hb), ← hT1]
      exact b579
    | true =>
      rw [hb] at hT1
      have hT1 : T1 = nk_wi T 121 39 (nk_ior (T.1 121 39) 1) := hT1
      rw [if_neg (fun q => by rw [(cV_bit h3).mp q] at hb; cases hb), lt_eq, ← hT1]
      exact b579
  · rw [hT2, wi_at, if_neg (by decide), ← rz_1 (b := pRz (dn, up, (ns, us, fl, bl, z, el), H) σ x (H i) u 0) (e0 := 0) (by decide) (pRz_d (by omega)), hz0, hT1]
    exact rzW_r cI_c.1 (cI_z0 t3)
  · rw [hT2, wi_at, if_pos rfl]
    have := cV_or cV_0 (cV_and h3 cV_n62)
    rw [sAnd_al (a2.1.1 _)] at this
    refine cV_e this (fun j _ => ?_)
    unfold pTh
    rw [if_pos ho]
    show (false || _) = _
    rw [Bool.false_or]
end RPL
