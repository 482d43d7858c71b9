/-! The reference calls. -/
section RCF
variable {ns : List (List Int)} {us : List Int} {fl : List (List Int × Nat × Int)} {bl : List jB} {z : jL} {el : List (Nat × Nat × Nat × Nat)} {F : Int → Prop} {dn up : Int → Int} {H lc : Nat → Nat} {ty : Nat → Option (Nat → Int)} {th : Nat → Int} {n P m0 : Nat} {σ : jG} {i : Nat} {x : jC} {u : jQ} {S T : nk_S} {A R : jA} {D : Nat → Bool}
theorem exB_n {f : Nat → Bool} {a b : Nat} (h : ∀ c, f c = true → c < a ∧ c < b) : exB f a = exB f b := by
  cases h1 : exB f a with
  | true =>
    obtain ⟨c, c1, c2⟩ := (exB_iff a).mp h1
    exact ((exB_iff b).mpr ⟨c, (h c c2).2, c2⟩).symm
  | false =>
    symm
    refine nf_t (fun q => ?_)
    obtain ⟨c, c1, c2⟩ := (exB_iff b).mp q
    rw [(exB_iff a).mpr ⟨c, (h c c2).1, c2⟩] at h1
    cases h1
theorem cEO_go {m : Nat → Bool} {rs : Int} {X : jQ} {low : Nat} (hm : ∀ b, m b = true → b < 48) : cEO σ (fun c => m c && σ.2.1 c) rs X low = if exB (fun b => m b && σ.2.1 b) 48 = true then (if rs = -1 then some X else oB (pRt σ m) fun l => some (qUp X low l)) else none := by
  unfold cEO pRt sEx
  have e1 : exB (fun c => m c && σ.2.1 c) 63 = exB (fun b => m b && σ.2.1 b) 48 := exB_n (fun c q => by
    rw [Bool.and_eq_true] at q
    have := hm c q.1
    omega)
  have e2 : fJ (fun c => σ.1 (2700 + c)) (fun c => m c && σ.2.1 c) 54 = fJ (fun b => if σ.2.1 b = true then σ.1 (2700 + b) else none) m 48 := by
    rw [fJ_54 (m := 48) (by omega) (fun s h1 h2 => by
      cases hq : m s with
      | false => rfl
      | true => have := hm s hq; omega), fJ_mk]
  rw [e1, e2]
/-- nothing is called yet -/
theorem moI_i {N low k0 : Nat} {X : jQ} {m : Nat → Bool} {π : Nat → Nat → Option jW} {be ce : Nat → Bool} {tt : Nat → Nat → Bool} {thr : Nat → Bool} (h : cV (S.1 121 40) thr) : moI P S N low k0 X m π be ce tt thr 0 S 0 false := by
  refine ⟨⟨rfl, fun _ _ _ _ => rfl, fun _ _ _ => rfl⟩, fun _ _ _ _ _ => rfl, fun j _ => by rw [if_neg (by omega)], fun c k c1 => by omega, cV_e h (fun s _ => by show _ = (thr s || false); rw [Bool.or_false]), cV_e cV_0 (fun c _ => by rw [decide_eq_false (by omega)]; rfl), by rw [if_neg (by decide)], ⟨fun q => (by cases q), fun ⟨c, c1, _⟩ => by omega⟩⟩
/-- the table behind a call -/
theorem moI_g (hP : P = 122 ∨ P = 168) {N low k0 NB : Nat} (hN : N ≤ 12) (hNB : NB ≤ 48) {X : jQ} {m : Nat → Bool} {π : Nat → Nat → Option jW} {be ce : Nat → Bool} {tt : Nat → Nat → Bool} {thr : Nat → Bool} {l8 : Int} {ch : Bool} (h : moI P S N low k0 X m π be ce tt thr NB T l8 ch) (hG : rGm S P σ) : rGm T P σ := by
  obtain ⟨⟨f1, f2, f3⟩, h2, -⟩ := h
  refine ⟨fun k hk => rVo_c (fun a a1 a2 => h2 a _ a1 a2 (fun c j c1 c2 c3 c4 => ?_)) (hG.1 k hk), fun b hb => by rw [f2 (P + 43) (by omega) (by omega) (by omega)]; exact hG.2.1 b hb, fun b hb => by rw [f2 (P + 45) (by omega) (by omega) (by omega)]; exact hG.2.2 b hb⟩
  unfold rIx pmB
  split <;> omega
theorem rh_call (hk : rKx F th n dn up ns us fl bl z el H lc ty P) (hS : gbS F dn up ns us fl bl z el H lc ty m0 P A D σ R i u T) (hx : z.1[i]? = some x) (hu : A i = some u) (hpt : ∀ (b : Nat) (y : jB), bl[b]? = some y → ∀ k, k < y.ps.length → y.ps.getD k 0 = 1 ∨ 2 ≤ y.ps.getD k 0) (ho : x.1 = 39) : ∃ S1, ja_X13_goesBehind 121 P (i : Int) T = some (bi (pGo (dn, up, (ns, us, fl, bl, z, el), H) σ x (H i) u).isSome, S1) ∧ gbH F th n dn up ns us fl bl z el H lc ty m0 P T A D σ R i x u S1 := by
  obtain ⟨t1, t2, t3, t4⟩ := id hS
  obtain ⟨t, xb, e, a1, a2, hp, hd, hg, hlk⟩ := rk_at hk t1 hx hu
  obtain ⟨i1, i2, i3, i4, i5, i6, i7, i8, i9⟩ := id t1
  obtain ⟨f, c, y, q1, q2, q3, q4, q5, q6, q7, q8, q9, hty⟩ := rcal_at hk hx hp a2.1 hd (Or.inl ho)
  obtain ⟨⟨p1, p2, p3, p4, p5, p6⟩, ⟨c1, c2, c3⟩, -, -, -, -, ⟨l1, l2, l3, l4, l5⟩, -⟩ := hp
  obtain ⟨e0, x0, r1, r2, r3, r4, r5⟩ := bod_at hk.2.1 q2
  obtain ⟨hP, -, -, hN, -, hB, hps, -, -⟩ := id hk
  have hb48 : f < 48 := by have := at_lt q2; omega
  have hfN := at_lt q2
  have hN12 := hps f y q2
  obtain ⟨kc1, kc2⟩ := hd.2.2.2.2.2.2.2.2.2.1 (Or.inl ho)
  obtain ⟨o1, o2, o3, o4⟩ := rk_op t1 hx
  have hra : rA x = (f : Int) := by unfold rA; rw [if_neg (by omega), if_neg (by omega)]; exact q1
  rw [hra] at o2
  obtain ⟨low, hlow⟩ : ∃ low, low = 12 + H i - tkX bl x := ⟨_, rfl⟩
  have hB0 := i1.1.2.2.2.2.2.2.1 f y q2
  have hP2 : T.1 P 2 = (bl.length : Int) := i1.1.2.2.2.2.1
  have hpn : T.1 (P + 8) f = (y.ps.length : Int) := hB0.2.2.1
  have hprs : T.1 (P + 10) f = rvT y.rs := hB0.2.2.2.2.1
  obtain ⟨m, hm⟩ : ∃ m : Nat → Bool, m = fun k => decide (k = f) := ⟨_, rfl⟩
  have hmf : ∀ b, m b = true ↔ b = f := fun b => by rw [hm]; exact decide_eq_true_iff
  obtain ⟨E, hE⟩ : ∃ E : Nat → jQ, E = fun _ => pEn y u low none := ⟨_, rfl⟩
  have hEk : ∀ b k, k < y.ps.length → E b k = wBr (u (low + k)) := fun b k hk' => by rw [hE]; show pEn y u low none k = _; unfold pEn; rw [if_pos hk']
  have hEu : ∀ b k, y.ps.length ≤ k → E b k = wU := fun b k hk' => by rw [hE]; show pEn y u low none k = _; unfold pEn; rw [if_neg (by omega)]
  -- the arrow
  have hEd : pEd (dn, up, (ns, us, fl, bl, z, el), H) σ i x u lc e0.1 (qRs (lc e0.1) (H e0.1) (pEn y u (12 + H i - tkX bl x) none)) := Or.inr (Or.inr (Or.inr (Or.inl ⟨ho, y, e0, by rw [q1, Int.toNat_natCast]; exact q2, by rw [q1, Int.toNat_natCast]; exact r1, rfl, rfl⟩)))
  have eqr : qRs (lc e0.1) (H e0.1) (pEn y u (12 + H i - tkX bl x) none) = E f := by
    rw [← hlow]
    funext k
    unfold qRs
    split
    · rw [hE]
    · rename_i hn
      rw [hEu f k (by unfold rel at hn; omega)]
  rw [eqr] at hEd
  obtain ⟨-, -, -, x', t', s1, s2, s3⟩ := pIn_arr hk.2.1 i6 hlk hEd
  have hRE : rpR F us bl z el H lc ty m0 (dn, up, (ns, us, fl, bl, z, el), H) σ f (E f) := ⟨y, e0, x', t', q2, r1, s1, s2, s3, hEu f, fun k hk' => by rw [hEk f k hk', hlow]; exact (hty k hk' (by omega)).2.2, by rw [hE]; exact pEn_I (i7.1 i u hu) low (fun s q => by cases q), fun B τ hB => (pSl_ed hk.2.1 hlk hB).1 e0.1 _ hEd⟩
  obtain ⟨π, hπ⟩ : ∃ π : Nat → Nat → Option jW, π = fun c k => match R c with
    | none => none
    | some r => some (r k) := ⟨_, rfl⟩
  have hπn : ∀ c k, R c = none → π c k = none := fun c k q => by rw [hπ]; dsimp only; rw [q]
  have hπs : ∀ c k r, R c = some r → π c k = some (r k) := fun c k r q => by rw [hπ]; dsimp only; rw [q]
  clear hπ
  -- the call
  obtain ⟨bm, hbm⟩ := big_ge 100 (by decide)
  obtain ⟨T', l8', ch, mm', g1, g2⟩ := r_moL (S := T) (F := F) (P := P) (N := y.ps.length) (low := low) (k0 := 0) (NB := bl.length) (X := u) (m := m) (π := π) (be := fun c => (R c).isSome) (ce := σ.2.1) (tt := σ.2.2) (thr := noS) hP l2 hP2 hN12 (by omega) (by omega) (by omega) (fun k hk' => ⟨t2.2 (low + k) (by omega), a2.1.1 _, by rw [hlow]; exact kc2 k (by omega)⟩) (fun b k hb hmb _ hk' => by
    have hbf := (hmf b).mp hmb
    subst hbf
    have hr := i5 b y q2
    cases hq : R b with
    | none =>
      rw [hπn b k hq]
      exact ⟨hr.2.1 hq k (by omega), fun v q => by cases q⟩
    | some r =>
      rw [hπs b k r hq]
      refine ⟨hr.2.2 r hq k hk', fun v q => ?_⟩
      cases q
      obtain ⟨y', e', x'', t'', z1, z2, z3, z4, z5, z6, z7, z8, z9⟩ := i9 b r hq
      rw [q2] at z1
      cases z1
      have v1 := z7 k hk'
      have v2 := (hty k hk' (by omega)).2.2
      refine ⟨vBr_l v1, ?_⟩
      rw [hlow]
      rcases (hty k hk' (by omega)).1 with w | w
      · have w1 := v1.1.2.1.1 w
        have w2 := v2.1.2.1.1 w
        exact w1.trans w2.symm
      · have w1 := (v1.1.2.1.2 w).1
        have w2 := (v2.1.2.1.2 w).1
        exact w1.trans w2.symm) (fun c hc => by
    obtain ⟨yc, hyc⟩ : ∃ yc, bl[c]? = some yc := ⟨_, List.getElem?_eq_getElem hc⟩
    exact (i5 c yc hyc).1) (fun c hc => i4.2.1 c (by omega)) (fun c hc => i4.2.2 c (by omega)) (l2 := (f : Int)) (l6 := nk_lshl 1 (f : Int)) (by rw [hm]; exact cV_one (by omega)) bl.length 0 nk_big T 0 false (by omega) (by omega) (moI_i (cV_z0 t4))
  have hGT := moI_g hP hN12 l2 g2 i4
  obtain ⟨⟨w1, w2, w3⟩, w4, w5, w6, w7, w8, w9, w10⟩ := id g2
  have hends : (fun c => decide (c < bl.length) && (m c && σ.2.1 c)) = fun c => m c && σ.2.1 c := by
    funext c
    cases hq : m c with
    | false => rw [Bool.false_and, Bool.and_false]
    | true => rw [(hmf c).mp hq, decide_eq_true hfN, Bool.true_and]
  rw [hends] at w8
  have hm48 : ∀ b, m b = true → b < 48 := fun b q => by rw [(hmf b).mp q]; exact hb48
  obtain ⟨S1, d1, d2, d3⟩ := r_cEnd (T := T') (F := F) (σ := σ) (rc := ja_X13_call_L134 mm') (K := if y.rs = 1 then 1 else 2) (l3 := ((0 : Nat) : Int)) (l4 := (y.ps.length : Int)) (l6 := nk_lshl 1 (f : Int)) (rs := y.rs) hP hb48 (low := low) (by omega) (X := u) (fun k hk' => rSo_c (fun j hj => by rw [w2 (rWk j) (by unfold rWk; omega) (by unfold rWk; omega) (by unfold rWk; omega)]) (t2.2 k (by omega))) hGT (by rw [w2 P (by omega) (by omega) (by omega)]; exact hP2) (by rw [w2 (P + 10) (by omega) (by omega) (by omega)]; exact hprs) q9 w8 (fun c q => by
    rw [Bool.and_eq_true] at q
    exact hm48 c q.1) (fun c w q hw => by
    rw [Bool.and_eq_true] at q
    have hcf := (hmf c).mp q.1
    rw [hcf] at hw
    have hv := (hg.1 _ w hw).2
    rw [zTp_r q2] at hv
    refine ⟨vBr_l hv, ?_⟩
    by_cases c1 : y.rs = 1
    · rw [if_pos c1]; exact hv.1.2.1.1 c1
    · rw [if_neg c1]
      rcases q9 with q9 | q9 | q9
      · exact absurd q9 c1
      · exact (hv.1.2.1.2 q9).1
      · rw [i8 f y q2 q9] at hw; cases hw)
  rw [cEO_go hm48] at d1 d3
  have hpm : pMt us bl z x u low = m := by
    rw [hm]
    funext k
    unfold pMt
    rw [if_pos ho, q1, Int.toNat_natCast]
  have hgo : pGo (dn, up, (ns, us, fl, bl, z, el), H) σ x (H i) u = if exB (fun b => m b && σ.2.1 b) 48 = true then (if y.rs = -1 then some u else oB (pRt σ m) fun l => some (qUp u low l)) else none := by
    rw [pGo_call (Or.inl ho), if_neg (by omega)]
    show (if exB (fun b => pMt us bl z x u (12 + H i - tkX bl x) b && σ.2.1 b) 48 = true then (if lvX bl x = 0 then some u else oB (pRt σ (pMt us bl z x u (12 + H i - tkX bl x))) fun l => some (qUp u (12 + H i - tkX bl x) l)) else none) = _
    rw [← hlow, hpm, q8]
    by_cases c1 : y.rs = -1
    · rw [if_pos c1, if_pos rfl, if_pos c1]
    · rw [if_neg c1, if_neg (show ¬ (1 : Nat) = 0 by decide), if_neg c1]
  rw [← hgo] at d1 d3
  -- what is begun
  have hRw : ∀ b r, R b = some r → (∀ k, wOk F (r k)) ∧ ∀ k, 20 ≤ k → r k = wU := fun b r q => by
    obtain ⟨y', e', x'', t'', z1, z2, z3, z4, z5, z6, -⟩ := i9 b r q
    have := hps b y' z1
    exact ⟨z5.1.1, fun k hk' => z6 k (by omega)⟩
  have hEw : ∀ b, m b = true → (∀ k, wOk F (E b k)) ∧ ∀ k, 20 ≤ k → E b k = wU := fun b q => by
    rw [(hmf b).mp q]
    exact ⟨s3.1.1, fun k hk' => hEu f k (by omega)⟩
  obtain ⟨n1, n2, n3⟩ := nxR_ms (R := R) (m := m) (E := E) hN hRw hEw bl.length l2
  have hcell : ∀ r, nxR R m E bl.length f = some r → ∀ k, k < y.ps.length → oJ (π f k) (some (wBr (u (low + k)))) = some (r k) := fun r hr k hk' => by
    rw [nxR_at, if_pos ⟨hfN, (hmf f).mpr rfl⟩] at hr
    cases hr
    cases hq : R f with
    | none => rw [hπn f k hq]; show some _ = some (E f k); rw [hEk f k hk']
    | some r => rw [hπs f k r hq]; show some (wJn (r k) _) = some (wJn (r k) (E f k)); rw [hEk f k hk']
  have hRT : rRm T' P bl (nxR R m E bl.length) := rRm_nx (Nat.le_refl _) i5 (fun b yb hyb hmb => by
    have hbl := at_lt hyb
    have hbf : b ≠ f := fun q => by rw [(hmf b).mpr q] at hmb; cases hmb
    refine ⟨by rw [w5 b (by omega), if_neg (fun q => hbf ((hmf b).mp q.2))], fun k hk' a a1 a2 => w4 a _ a1 a2 (fun c j c1 c2 c3 c4 => ?_)⟩
    exact fun q => pmB_ne (c := b) (c' := c) (k := k) (k' := j) hk' (by omega) (by rw [(hmf c).mp c2]; exact hbf) q) hps (fun b yb hyb hmb => by
    have hbf := (hmf b).mp hmb
    subst hbf
    rw [q2] at hyb
    cases hyb
    refine ⟨by rw [w5 b (by omega), if_pos ⟨hfN, hmb⟩], fun r hr k hk' => ?_⟩
    have := w6 b k hfN hmb (by omega) hk'
    rw [hcell r hr k hk'] at this
    exact this)
  have hch : ch = true ↔ nxR R m E bl.length ≠ R := by
    rw [w10]
    constructor
    · rintro ⟨b, b1, b2, b3⟩ hq
      have hbf := (hmf b).mp b2
      subst hbf
      have hq := congrFun hq b
      rw [nxR_at, if_pos ⟨b1, b2⟩] at hq
      cases hr : R b with
      | none => rw [hr] at hq; cases hq
      | some r =>
        rw [hr] at hq
        have hq : (fun k => wJn (r k) (E b k)) = r := Option.some.inj hq
        rcases b3 with b3 | ⟨j, j1, j2, j3⟩
        · have b3 : (R b).isSome = false := b3
          rw [hr] at b3; cases b3
        · apply j3
          rw [hπs b j r hr]
          show some (wJn (r j) _) = some (r j)
          rw [← hEk b j j2]
          exact congrArg some (congrFun hq j)
    · intro hne
      refine Classical.byContradiction fun hc => hne ?_
      funext b
      rw [nxR_at]
      split
      · rename_i hb
        have hbf := (hmf b).mp hb.2
        subst hbf
        cases hr : R b with
        | none => exact absurd ⟨b, hb.1, hb.2, Or.inl (show (R b).isSome = false by rw [hr]; rfl)⟩ hc
        | some r =>
          show some (fun k => wJn (r k) (E b k)) = some r
          congr 1
          funext k
          by_cases hk' : k < y.ps.length
          · refine Classical.byContradiction fun hn => hc ⟨b, hb.1, hb.2, Or.inr ⟨k, by omega, hk', ?_⟩⟩
            rw [hπs b k r hr]
            intro q
            rw [← hEk b k hk'] at q
            exact hn (Option.some.inj q)
          · obtain ⟨y', e', x'', t'', z1, z2, z3, z4, z5, z6, -⟩ := i9 b r hr
            rw [q2] at z1
            cases z1
            rw [z6 k (by omega), hEu b k (by omega)]
            rfl
      · rfl
  have fr : gbF P T S1 := ⟨by rw [d2.1, w1], fun a b1 b2 b3 => by rw [d2.2.1 a b2 b3, w2 a (by omega) b3 (by omega)], fun j j1 j2 j3 j4 => by rw [d2.2.2 j j1, w3 j j2 j4]⟩
  have etk : tkX bl x = y.ps.length := q7
  refine ⟨S1, ?_, σ, nxR R m E bl.length, fr, rkI_g hP fr t1 (rGm_c (fun a h1 h2 => d2.2.1 a (rfA hP h1 h2).1 (rfA hP h1 h2).2) hGT) (rRm_c (fun a h1 h2 => d2.2.1 a (rfA hP h1 h2).1 (rfA hP h1 h2).2) hRT) i6 i7 i8 (rpI_nx hpt i9 (fun b q => by rw [(hmf b).mp q]; exact hRE)), ?_, gLe_refl σ, n3, ?_, ?_, fun w q => ?_, fun k => ?_, fun q => by omega, fun j w q => ?_⟩
  · rw [(gb_more hP p2 o1 o2).2.2.2.2.2.2.2.2.2.1 (by omega)]
    refine rPs_b ?_
    have ew : ∀ _ : Unit, nk_w (((12 + H i : Nat) : Int) - (y.ps.length : Int)) = (low : Int) := fun _ => by
      rw [top_w c3 hN12, hlow, etk]
    have g1 : ja_X13_call_L134 nk_big 121 P (f : Int) 0 (y.ps.length : Int) (low : Int) (nk_lshl 1 (f : Int)) 0 0 T = ja_X13_call_b134 (ja_X13_call_L134 mm') 121 P (f : Int) ((0 : Nat) : Int) (y.ps.length : Int) (low : Int) (nk_lshl 1 (f : Int)) l8' (bl.length : Int) T' := g1
    unfold ja_X13_call
    rw [if_pos (in_i (N := 48) (by omega)), jc_P15 hP, Int.toNat_natCast, hpn, lt_eq, t2.1, ew (), lt_eq, if_pos rfl, lt_eq, g1, d1]
  · have e3 : S1.1 121 37 = (if ch = true then 1 else T.1 121 37) := by rw [d2.2.2 37 (by decide), w9]
    cases hcc : ch with
    | false =>
      left
      rw [hcc, if_neg (by decide)] at e3
      refine ⟨e3, rfl, ?_⟩
      refine Classical.byContradiction fun q => ?_
      rw [hch.mpr q] at hcc
      cases hcc
    | true =>
      right
      rw [hcc, if_pos rfl] at e3
      refine ⟨e3, ?_⟩
      have := n2.resolve_left (hch.mp hcc)
      omega
  · rw [d2.2.2 39 (by decide), w3 39 (by decide) (by decide), ← rz_0 (pRz_39 ho)]
    exact cI_z0 t3
  · rw [d2.2.2 40 (by decide)]
    refine cV_e w7 (fun s _ => ?_)
    show (false || exB (fun c => m c && σ.2.2 c s) bl.length) = _
    rw [Bool.false_or]
    unfold pTh
    rw [if_neg (by omega), if_pos ho]
    show _ = exB (fun b => pMt us bl z x u (12 + H i - tkX bl x) b && σ.2.2 b s) 48
    rw [← hlow, hpm]
    exact exB_n (fun c q => by
      rw [Bool.and_eq_true] at q
      rw [(hmf c).mp q.1]
      exact ⟨hfN, hb48⟩)
  · have := d3 w q
    rw [show 12 + (H i - tkX bl x + lvX bl x) = low + (if y.rs = -1 then 0 else 1) by rw [q8, hlow]; omega]
    exact this
  · rw [pCo_n ⟨by omega, by omega, by omega, by omega, by omega⟩]
    exact oLe_n _
  · rcases q with ⟨-, y2, e2, u1, u2, u3, u4⟩ | ⟨q, -⟩
    · have u1 : bl[x.2.1.toNat]? = some y2 := u1
      have u2 : el[x.2.1.toNat]? = some e2 := u2
      rw [q1, Int.toNat_natCast] at u1 u2
      rw [q2] at u1
      cases u1
      rw [r1] at u2
      cases u2
      have hwE : w = E f := by rw [u4, u3]; exact eqr
      have hex : ∃ r, nxR R m E bl.length f = some r := ⟨_, by rw [nxR_at, if_pos ⟨hfN, (hmf f).mpr rfl⟩]⟩
      obtain ⟨r, hr⟩ := hex
      refine ⟨f, e0, r, r1, u3, hr, ?_⟩
      rw [hwE]
      rw [nxR_at, if_pos ⟨hfN, (hmf f).mpr rfl⟩] at hr
      cases hr
      cases R f with
      | none => exact qLe_refl _
      | some r => exact fun k => (wJn_ub _ _).2
    · omega
end RCF
