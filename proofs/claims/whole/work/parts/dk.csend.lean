/-! The class looks at sends. -/
section CSE
variable {ns : List (List Int)} {us : List Int} {fl : List (List Int × Nat × Int)} {bl : List jB} {z : jL} {el : List (Nat × Nat × Nat × Nat)} {F : Int → Prop} {dn up : Int → Int} {H lc : Nat → Nat} {ty : Nat → Option (Nat → Int)} {th : Nat → Int} {n Q m0 : Nat} {σ : jG} {C : jH} {i : Nat} {x : jC} {u : jQ} {S T : nk_S} {A : jA} {W : Nat → Bool}
theorem c_b207n {S : nk_S} {h ar : Nat} (h7 : S.1 93 7 = (h : Int)) (har : ar ≤ h) (h8 : h ≤ 8) {t : Int} (hlv : t ≠ -1 → h - ar < 8) {cb : Bool} (h13 : S.1 92 13 = bi cb) : ∃ S', ja_X4_calls_b207 92 (ar : Int) t S = some (bi cb, S') ∧ wFr S S' := by
  have hd : ja_X7_drop 93 (ar : Int) S = some (0, nk_wi S 93 7 ((h - ar : Nat) : Int)) := by
    unfold ja_X7_drop
    rw [h7, wisub har (by omega), lt_eq]
  obtain ⟨S1, hS1⟩ : ∃ S1, S1 = nk_wi S 93 7 ((h - ar : Nat) : Int) := ⟨_, rfl⟩
  have w1 : wFr S S1 := by rw [hS1]; exact wFr_7 _
  have e7 : S1.1 93 7 = ((h - ar : Nat) : Int) := by rw [hS1, wi_at, if_pos rfl]
  have e92 : ∀ R, wFr S R → R.1 92 = S.1 92 := fun R hR => hR.2.1 92 (by decide) (by decide) (by decide)
  unfold ja_X4_calls_b207
  rw [jc_92_2, hd, bd_some, ← hS1, e92 S1 w1, h13]
  by_cases c : t = -1
  · rw [if_pos c, if_pos (bi_01 _)]
    exact ⟨S1, rfl, w1⟩
  · rw [if_neg c]
    have gen : ∀ v f, ∃ S', ja_X4_calls_b245 92 93 v f S1 = some (bi cb, S') ∧ wFr S S' := fun v f => by
      obtain ⟨S2, q1, q2⟩ := c_pushA e7 (hlv c) v f
      unfold ja_X4_calls_b245
      rw [q1, bd_some, e92 S2 (wFr_trans w1 q2), h13, if_pos (bi_01 _)]
      exact ⟨S2, rfl, wFr_trans w1 q2⟩
    by_cases c1 : t = 1
    · rw [if_pos c1]; exact gen _ _
    · rw [if_neg c1]; exact gen _ _
theorem cl_t (hC : pCx F dn up ns us fl bl z el H lc ty) {t : Int} {c : Nat} (hc : 8 ≤ c) (hcl : c < us.length) (h1 : tLe us t (4 + 2 * (c : Int)) = true) {w : jW} (hw : wTy us z t w) {s : Nat} (hs : s < 54) (h : w.2.2.1 s = true) : 4 ≤ sTp z s ∧ sTp z s < 100 := by
  obtain ⟨-, hso, -, huO, h32, h8, hz, -⟩ := hC
  have h2t : 2 ≤ t := by rcases tLe_nz h1 (by omega) with q | q <;> omega
  have hsb := ((hw.2 h2t).2 s h).resolve_left (by omega)
  unfold pB at hsb
  rw [Bool.and_eq_true] at hsb
  have hsv := hso s hsb.1
  have htr := tLe_trans huO h32 hsv.1 (show tV us (4 + 2 * (c : Int)) by unfold tV; omega) hsb.2 h1
  have hv := hsv.1
  unfold tV at hv
  rcases (tLe_iff _ _).mp htr with q | q | ⟨q1, q2, q | q | ⟨q3, q4, q5, q6⟩⟩
  · omega
  · omega
  · omega
  · omega
  · omega
theorem h_send (hk : kX F th n dn up ns us fl bl z el H lc ty Q) (hT : lkS F dn up ns us fl bl z el H lc ty m0 Q S A W σ C i u T) (hx : z.1[i]? = some x) (hu : A i = some u) (ho : x.1 = 40) : ∃ S1, ja_X4_calls 92 (i : Int) 40 T = some (bi (pGo (dn, up, (ns, us, fl, bl, z, el), H) σ x (H i) u).isSome, S1) ∧ lkH F th n dn up ns us fl bl z el H lc ty m0 Q S A W σ C i x u S1 := by
  obtain ⟨t1, t2, t3, t4, t5⟩ := hT
  obtain ⟨t, xb, e, a1, a2, ⟨⟨p1, p2, p3, p4, p5, p6⟩, ⟨c1, c2, c3⟩, -, -, -, ⟨d1, d2⟩, ⟨l1, l2, l3, l4, l5⟩, -, y1, y2⟩, hd, hg, hlk⟩ := lk_at hk t2 hx hu
  obtain ⟨f, c, y, q1, q2, q3, q4, q5, q6, q7, q8, q9⟩ := cal_at hk hx p1 y2 (Or.inr ho)
  obtain ⟨k2, k4, kb, ki, kr, krr, k33, k34, k36, kc, k40, -⟩ := hd
  obtain ⟨g1, g2⟩ := k40 ho
  have hf48 := bl_48 l2 q2
  have hme : y.me = true := by rw [q3]; exact decide_eq_true ho
  unfold tHo at d1
  rw [if_neg (by omega), if_neg (by omega), if_neg (by omega), if_pos (Or.inr ho)] at d1
  have b0 := allR_at _ _ d1 0 (by omega) (by omega)
  have et : tTold bl x 0 = 4 + 2 * x.2.2.1 := by unfold tTold; rw [if_pos ⟨rfl, ho⟩]
  rw [et, Nat.add_zero, q4] at b0
  have hw : ∀ s, s < 54 → (u (12 + H i - tkX bl x)).2.2.1 s = true → s < z.2.1.length ∧ cl (sTp z s) < us.length ∧ 4 ≤ sTp z s ∧ sTp z s < 100 := fun s h1 h2 => by
    obtain ⟨r1, r2⟩ := cl_s hk.2.1 q5 q6 b0 (a2.1.2.2.1 _) h1 h2
    exact ⟨r1, r2, cl_t hk.2.1 q5 q6 b0 (a2.1.2.2.1 _) h1 h2⟩
  obtain ⟨low, hlow⟩ : ∃ low, low = 12 + H i - tkX bl x := ⟨_, rfl⟩
  have hlv : y.rs ≠ -1 → H i - y.ps.length < 8 := fun q => by rw [q7, q8, if_neg q] at c2; omega
  -- the beginning
  obtain ⟨g, x1, x2⟩ := x8_no (decide (y.rs = 1)) T
  obtain ⟨T0, hT0⟩ : ∃ T0, T0 = nk_wi (nk_wi T 92 12 g) 92 13 0 := ⟨_, rfl⟩
  have tn : ∀ a, a ≠ 92 → T0.1 a = T.1 a := fun a ha => by rw [hT0, wi_n ha, wi_n ha]
  have tf : ∀ f, f ≠ 12 → f ≠ 13 → T0.1 92 f = T.1 92 f := fun f f1 f2 => by rw [hT0, wi_at, if_neg f2, wi_at, if_neg f1]
  have t02 : T0.2 = T.2 := by rw [hT0]; rfl
  have I0 : lkI F dn up ns us fl bl z el H lc ty m0 Q T0 A W σ C := lkI_e hk.1 t02 (fun a h1 _ _ _ => tn a h1) t2
  have kT : cRs T0 (onS 8) noS := by unfold cRs; rw [tf 9 (by decide) (by decide), tf 10 (by decide) (by decide)]; exact t4
  have rT : cRw (lc i) (H i) T0 u := by unfold cRw; rw [tn 93 (by decide), tn 98 (by decide), tn 99 (by decide)]; exact t5
  have h12 : cVl y.rs (T0.1 92 12) none := by
    have e12 : T0.1 92 12 = g := by rw [hT0, wi_at, if_neg (by decide), wi_at, if_pos rfl]
    rw [e12, x2]
    rcases q9 with q | q | q
    · exact cVl_no (Or.inl q)
    · exact cVl_no (Or.inr q)
    · rw [q]
      unfold cVl
      rw [if_neg (by decide)]
      exact cV_0
  have h13 : T0.1 92 13 = 0 := by rw [hT0, wi_at, if_pos rfl]
  have rl : rel (lc i) (H i) low ∧ low < 20 := by unfold rel; omega
  obtain ⟨S9, n1, n2, n3, n4, n5⟩ := c_deref kT rT a2.1 rl (by rw [hlow]; exact g1)
  have I9 : lkI F dn up ns us fl bl z el H lc ty m0 Q S9 A W σ C := lkI_e hk.1 n2.1 n2.2.1 I0
  have h13' : S9.1 92 13 = 0 := by rw [n2.2.2 13 (by decide) (by decide)]; exact h13
  have h12' : cVl y.rs (S9.1 92 12) none := by rw [n2.2.2 12 (by decide) (by decide)]; exact h12
  have h11' : S9.1 92 11 = 0 := by rw [n2.2.2 11 (by decide) (by decide), tf 11 (by decide) (by decide)]; exact t3
  have fr9 : mFr T S9 := ⟨by rw [n2.1, t02], fun a ha => by rw [n2.2.1 a (by omega) (by omega) (by omega) (by omega), tn a (by omega)]⟩
  have hcd := t2.1.2.2.1.2.2.2.2.2.2.2.2.1.1.2 i x hx
  have hcell := t2.1.2.2.1.2.2.2.2.2.1 f y q2
  have ew : ∀ _ : Unit, nk_w (nk_w (12 + T.1 93 7) - (y.ps.length : Int)) = (low : Int) := fun _ => by
    rw [t5.2.1, wi12 (by omega), wisub (by omega) (by omega), hlow, q7]
  have head : ∀ R, (ja_X4_calls_b65 92 40 (f : Int) (y.ps.length : Int) (low : Int) y.rs 92 (bi (decide (y.rs = 1))) T = R) → ja_X4_calls 92 (i : Int) 40 T = R := by
    intro R hR
    unfold ja_X4_calls
    rw [if_pos (in_i (N := 1024) (by omega)), t2.1.1, (jc_Qp hk.1).2.2.1, Int.toNat_natCast, hcd.2.1, q1, lt_eq, if_pos (in_i (N := 48) (by omega)), (jc_Q2 hk.1).1, (jc_Q9 hk.1).2.2.2.1, (jc_Q9 hk.1).2.2.2.2.2.1, Int.toNat_natCast, hcell.2.2.1, hcell.2.2.2.2.1, lt_eq, jc_92_2, ew (), lt_eq, lt_eq]
    by_cases d : y.rs = 1
    · rw [if_pos d]
      rw [decide_eq_true d] at hR
      exact hR
    · rw [if_neg d]
      rw [decide_eq_false d] at hR
      exact hR
  have head2 : ja_X4_calls_b65 92 40 (f : Int) (y.ps.length : Int) (low : Int) y.rs 92 (bi (decide (y.rs = 1))) T = if bi (pDr u low).isSome = 0 then ja_X4_calls_b207 92 (y.ps.length : Int) y.rs S9 else ja_X4_calls_L128 nk_big 92 (f : Int) (y.ps.length : Int) (low : Int) y.rs (S9.1 98 low) 0 S9 := by
    unfold ja_X4_calls_b65
    rw [x1, bd_some, lt_eq, lt_eq, ← hT0, if_neg (by decide), n1, bd_some]
    by_cases d : bi (pDr u low).isSome = 0
    · rw [if_pos d, if_pos d]
    · rw [if_neg d, if_neg d, if_pos ⟨by omega, by omega⟩, jc_92_2, jc_93_4, Int.toNat_natCast, lt_eq]
  have hz0 : pRz (dn, up, (ns, us, fl, bl, z, el), H) σ x (H i) u 0 = (u low).2.2.1 62 := by
    unfold pRz
    rw [if_pos rfl, if_neg (by omega), if_neg (by omega), if_neg (by omega), if_pos ho, hlow]
  have hpr : ∀ e, e < 6 → pRz (dn, up, (ns, us, fl, bl, z, el), H) σ x (H i) u e = ((u low).2.2.1 62 && decide (e = 0)) := fun e he => by
    rw [pRz_d (by omega) e he, hz0]
  have d39 : decide (x.1 = 39) = false := decide_eq_false (by omega)
  have hcon : ∀ k, oLe (pCo (dn, up, (ns, us, fl, bl, z, el), H) σ x (H i) u k) (σ.1 k) := fun k => by
    rw [pCo_n ⟨by omega, by omega, by omega, by omega, by omega⟩]
    exact oLe_n _
  cases hdr : pDr u low with
  | none =>
    have hdr' : pDr u (12 + H i - tkX bl x) = none := by rw [← hlow]; exact hdr
    have hgo : pGo (dn, up, (ns, us, fl, bl, z, el), H) σ x (H i) u = none := by
      rw [pGo_call (Or.inr ho), if_pos ho]
      show oB (pDr u (12 + H i - tkX bl x)) _ = none
      rw [hdr']; rfl
    obtain ⟨S1, s1, s2⟩ := c_b207n (S := S9) (h := H i) (ar := y.ps.length) (cb := false) (by rw [n3]; exact rT.2.1) (by omega) c3 hlv h13'
    obtain ⟨f1, f2⟩ := fd_cl (G := (dn, up, (ns, us, fl, bl, z, el), H)) (σ := σ) (x := x) (h := H i) (u := u) (b0 := (u low).2.2.1 62) (b7 := false) (L := noS) (Or.inr ho) hpr (by
      show _ = ((_ || (pDr u (12 + H i - tkX bl x)).isSome) && _)
      rw [hdr', d39]; rfl) (fun s => by
      show _ = ((_ || (pDr u (12 + H i - tkX bl x)).isSome) && _)
      rw [hdr', d39]; rfl)
    refine ⟨S1, head _ ?_, A, W, σ, C, mFr_trans t1 (mFr_trans fr9 (mFr_w s2)), lkI_e hk.1 s2.1 (fun a _ h2 h3 h4 => s2.2.1 a h2 h3 h4) I9, aCh_rfl, gCg_rfl, gLe_refl σ, ?_, ?_, fun j w hE' _ => ?_, hcon, fun q => by omega, fun v hv => by rw [hgo] at hv; cases hv⟩
    · rw [head2, hdr, if_pos (show bi (none : Option jQ).isSome = 0 from rfl), s1, hgo]; rfl
    · rw [← f1, ← f2]
      have n4' := cRs_w s2 n4
      have e1 : sOr (nlR ((u low).2.2.1 62) 48 noS) noS = nlR ((u low).2.2.1 62) 48 noS := by
        funext j
        show (_ || false) = _
        rw [Bool.or_false]
      rw [e1]
      exact n4'
    · rw [s2.2.1 92 (by decide) (by decide) (by decide)]; exact h11'
    · rcases hE' with ⟨-, v, w1, w2, w3⟩ | ⟨w1, w2, -⟩ | ⟨w1, -⟩ | ⟨-, w1, -⟩
      · exact Or.inl ⟨v, w1, by rw [w2, if_neg (by omega)], w3⟩
      · omega
      · omega
      · have w1 : (pDr u (12 + H i - tkX bl x)).isSome = true := w1
        rw [hdr'] at w1; cases w1
  | some v =>
    have hdr' : pDr u (12 + H i - tkX bl x) = some v := by rw [← hlow]; exact hdr
    obtain ⟨hvok, hv12⟩ := pDr_v a2.1 (by omega) (by rw [hlow]; exact g1) hdr
    have r9 := n5 v hdr
    have hsv : cV (S9.1 98 low) (u (12 + H i - tkX bl x)).2.2.1 := by
      have := (r9.2.2 low rl.1).2.2.2 (by rw [hv12 low (by omega), hlow]; exact g1)
      rw [hv12 low (by omega)] at this
      rw [← hlow]
      exact this
    obtain ⟨m, hm⟩ := big_ge (z.2.1.length + 1) (by omega)
    have start : sdI th n us bl z el H lc σ y u (12 + H i - tkX bl x) (u (12 + H i - tkX bl x)).2.2.1 S9 A W (nlR ((u low).2.2.1 62) 0 (onS 8)) (nlR ((u low).2.2.1 62) 48 noS) 0 S9 A W := by
      refine ⟨⟨rfl, fun _ _ => rfl, rfl⟩, aCh_rfl, ?_, h13', h12', fun k _ _ _ h => by omega⟩
      have e1 : sOr (nlR ((u low).2.2.1 62) 48 noS) (fun j => exB (fun k => sGo us bl z y (u (12 + H i - tkX bl x)).2.2.1 k && σ.2.2 (sRn us bl z y k).toNat j) 0) = nlR ((u low).2.2.1 62) 48 noS := by
        funext j
        show (_ || false) = _
        rw [Bool.or_false]
      rw [e1]
      exact n4
    obtain ⟨S2, A2, W2, s1, s2, s3⟩ := c_sdL (A0 := A) hk hx ho q1 q2 hme hlk hg t2.2.2.2.2.2.2.2 hdr' q7 c1 c3 hv12 hvok.1 g1 hw q9 t2.2.2.2.2.2.2.1 hu hsv r9 z.2.1.length 0 m S9 A W (by omega) I9 start
    obtain ⟨⟨f1, f2, f3⟩, u1, u2, u3, u4, u5⟩ := s3
    -- sites and bodies
    have bd : ∀ s, s < 54 → sGo us bl z y (u (12 + H i - tkX bl x)).2.2.1 s = true → ∃ b y', sRn us bl z y s = ((b : Nat) : Int) ∧ bl[b]? = some y' ∧ b < 48 ∧ y'.rs = y.rs ∧ pMt us bl z x u (12 + H i - tkX bl x) b = true := fun s h1 h2 => by
      unfold sGo at h2
      rw [Bool.and_eq_true] at h2
      have h0 := of_decide_eq_true h2.2
      obtain ⟨y', z1, z2, z3, z4, -⟩ := hk.2.1.2.2.1 (cl (sTp z s)) f (sRn us bl z y s).toNat y (hw s h1 h2.1).2.1 q2 hme (by show sRn us bl z y s = _; omega)
      refine ⟨(sRn us bl z y s).toNat, y', by omega, z1, bl_48 l2 z1, z4, ?_⟩
      unfold pMt
      rw [if_neg (by omega), q1, Int.toNat_natCast, q2]
      exact (exB_iff 54).mpr ⟨s, h1, by rw [h2.1, Bool.true_and]; exact decide_eq_true (by show sRn us bl z y s = _; omega)⟩
    have bu : ∀ b, pMt us bl z x u (12 + H i - tkX bl x) b = true → ∃ s, s < z.2.1.length ∧ sGo us bl z y (u (12 + H i - tkX bl x)).2.2.1 s = true ∧ sRn us bl z y s = (b : Int) := fun b h1 => by
      unfold pMt at h1
      rw [if_neg (by omega), q1, Int.toNat_natCast, q2] at h1
      obtain ⟨s, z1, z2⟩ := (exB_iff 54).mp h1
      rw [Bool.and_eq_true] at z2
      have z3 := of_decide_eq_true z2.2
      refine ⟨s, (hw s z1 z2.1).1, ?_, z3⟩
      unfold sGo
      rw [z2.1, Bool.true_and]
      exact decide_eq_true (by show 0 ≤ rnS us bl (cl (sTp z s)) y; omega)
    have sx : ∀ P : Nat → Bool, exB (fun k => sGo us bl z y (u (12 + H i - tkX bl x)).2.2.1 k && P (sRn us bl z y k).toNat) z.2.1.length = exB (fun b => pMt us bl z x u (12 + H i - tkX bl x) b && P b) 48 := fun P => by
      cases hq : exB (fun b => pMt us bl z x u (12 + H i - tkX bl x) b && P b) 48 with
      | true =>
        obtain ⟨b, z1, z2⟩ := (exB_iff 48).mp hq
        rw [Bool.and_eq_true] at z2
        obtain ⟨s, z3, z4, z5⟩ := bu b z2.1
        exact (exB_iff _).mpr ⟨s, z3, by rw [z4, z5, Int.toNat_natCast, z2.2]; rfl⟩
      | false =>
        refine nf_t fun hq' => ?_
        obtain ⟨s, z1, z2⟩ := (exB_iff _).mp hq'
        rw [Bool.and_eq_true] at z2
        obtain ⟨b, y', z3, z4, z5, z6, z7⟩ := bd s (by omega) z2.1
        rw [z3, Int.toNat_natCast] at z2
        rw [(exB_iff 48).mpr ⟨b, z5, by rw [z7, z2.2]; rfl⟩] at hq
        cases hq
    have hfj : y.rs ≠ -1 → fJ (fun k => if σ.2.1 (sRn us bl z y k).toNat = true then σ.1 (2700 + (sRn us bl z y k).toNat) else none) (sGo us bl z y (u (12 + H i - tkX bl x)).2.2.1) z.2.1.length = pRt σ (pMt us bl z x u (12 + H i - tkX bl x)) := fun hr => by
      unfold pRt
      have vb : ∀ b y' w, bl[b]? = some y' → y'.rs = y.rs → (if σ.2.1 b = true then σ.1 (2700 + b) else none) = some w → vl1 F us z y.rs w := fun b y' w z1 z2 z3 => by
        split at z3
        · have := (hg.1 _ _ z3).2
          rw [zT_r z1, z2] at this
          exact this
        · cases z3
      refine fJ_same (F := F) (us := us) (z := z) (t := y.rs) (by omega) (fun a w ha hs hq => ?_) (fun b w hb hm hq => ?_) (fun a ha hs => ?_) (fun b hb hm => ?_)
      · obtain ⟨b, y', z3, z4, z5, z6, z7⟩ := bd a (by omega) hs
        rw [z3, Int.toNat_natCast] at hq
        exact vb b y' w z4 z6 hq
      · obtain ⟨s, z3, z4, z5⟩ := bu b hm
        obtain ⟨b', y', w3, w4, w5, w6, w7⟩ := bd s (by omega) z4
        have : b' = b := by omega
        rw [this] at w4
        exact vb b y' w w4 w6 hq
      · obtain ⟨b, y', z3, z4, z5, z6, z7⟩ := bd a (by omega) hs
        exact Or.inr ⟨b, z5, z7, by rw [z3, Int.toNat_natCast]⟩
      · obtain ⟨s, z3, z4, z5⟩ := bu b hm
        exact Or.inr ⟨s, z3, z4, by rw [z5, Int.toNat_natCast]⟩
    have hfo : ∀ w, fJ (fun k => if σ.2.1 (sRn us bl z y k).toNat = true then σ.1 (2700 + (sRn us bl z y k).toNat) else none) (sGo us bl z y (u (12 + H i - tkX bl x)).2.2.1) z.2.1.length = some w → y.rs ≠ -1 → vl1 F us z y.rs w := fun w hq hr => fJ_v (by omega) z.2.1.length (fun a w' ha hs hq' => by
      obtain ⟨b, y', z3, z4, z5, z6, z7⟩ := bd a (by omega) hs
      rw [z3, Int.toNat_natCast] at hq'
      split at hq'
      · have := (hg.1 _ _ hq').2
        rw [zT_r z4, z6] at this
        exact this
      · cases hq') w hq
    have r2 : cRw (lc i) (H i) S2 v := by
      unfold cRw
      rw [f2 93 (by omega), f2 98 (by omega), f2 99 (by omega)]
      exact r9
    -- the end
    obtain ⟨S3, cb, hcb, e1, e2, e3, e4⟩ : ∃ S3 cb, cb = exB (fun b => pMt us bl z x u (12 + H i - tkX bl x) b && σ.2.1 b) 48 ∧ ja_X4_calls_b207 92 (y.ps.length : Int) y.rs S2 = some (bi cb, S3) ∧ wFr S2 S3 ∧ (y.rs = -1 → cRw (lc i) (H i - y.ps.length) S3 v) ∧ ∀ w, fJ (fun k => if σ.2.1 (sRn us bl z y k).toNat = true then σ.1 (2700 + (sRn us bl z y k).toNat) else none) (sGo us bl z y (u (12 + H i - tkX bl x)).2.2.1) z.2.1.length = some w → y.rs ≠ -1 → cRw (lc i) (H i - y.ps.length + 1) S3 (qUp v (12 + (H i - y.ps.length)) w) := by
      by_cases hr : y.rs = -1
      · obtain ⟨S3, s4, s5, s6, s7⟩ := c_b207 (F := F) (us := us) (z := z) (G := (dn, up, (ns, us, fl, bl, z, el), H)) hk.2.1.1 r2 (ar := y.ps.length) (by omega) c3 q9 hlv (o := none) (fun w q => by cases q) (by
          rw [hr]
          unfold cVl
          rw [if_neg (by decide)]
          have u4' := u4
          rw [hr] at u4'
          unfold cVl at u4'
          rw [if_neg (by decide)] at u4'
          have nn : ∀ m, m ≤ z.2.1.length → fJ (fun k => if σ.2.1 (sRn us bl z y k).toNat = true then σ.1 (2700 + (sRn us bl z y k).toNat) else none) (sGo us bl z y (u (12 + H i - tkX bl x)).2.2.1) m = none := by
            intro m
            induction m with
            | zero => intro _; rfl
            | succ m ihm =>
              intro hm
              rw [fJ, ihm (by omega)]
              show (if _ then _ else _) = none
              split
              · rename_i hsg
                obtain ⟨b, y', z3, z4, z5, z6, z7⟩ := bd m (by omega) hsg
                rw [z3, Int.toNat_natCast, t2.2.2.2.2.2.2.2 b y' z4 (by rw [z6]; exact hr)]
                split <;> rfl
              · rfl
          rw [nn _ (Nat.le_refl _)] at u4'
          exact u4') (by rw [u3]) 
        exact ⟨S3, _, sx σ.2.1, s4, s5, s6, fun w _ q => absurd hr q⟩
      · obtain ⟨S3, s4, s5, s6, s7⟩ := c_b207 (F := F) (us := us) (z := z) (G := (dn, up, (ns, us, fl, bl, z, el), H)) hk.2.1.1 r2 (ar := y.ps.length) (by omega) c3 q9 hlv (fun w q => hfo w q hr) u4 u3
        exact ⟨S3, _, sx σ.2.1, s4, s5, s6, s7⟩
    have hgo : pGo (dn, up, (ns, us, fl, bl, z, el), H) σ x (H i) u = if cb = true then (if lvX bl x = 0 then some v else oB (pRt σ (pMt us bl z x u (12 + H i - tkX bl x))) fun l => some (qUp v (12 + H i - tkX bl x) l)) else none := by
      rw [pGo_call (Or.inr ho), if_pos ho, hcb]
      show oB (pDr u (12 + H i - tkX bl x)) _ = _
      rw [hdr']; rfl
    have hsome : (pGo (dn, up, (ns, us, fl, bl, z, el), H) σ x (H i) u).isSome = cb := by
      rw [hgo]
      cases hb : cb with
      | false => rfl
      | true =>
        rw [if_pos rfl]
        by_cases hl : lvX bl x = 0
        · rw [if_pos hl]; rfl
        · rw [if_neg hl]
          have hr : y.rs ≠ -1 := fun q => hl (by rw [q8, if_pos q])
          rw [hb] at hcb
          obtain ⟨b, z1, z2⟩ := (exB_iff 48).mp hcb.symm
          rw [Bool.and_eq_true] at z2
          obtain ⟨s, z3, z4, z5⟩ := bu b z2.1
          obtain ⟨b', y', w3, w4, w5, w6, w7⟩ := bd s (by omega) z4
          have eb : b' = b := by omega
          rw [eb] at w4
          cases hv : σ.1 (2700 + b) with
          | none => exact absurd hv (hg.2.2 b y' z2.2 w4 (by rw [w6]; exact hr))
          | some w =>
            have := fJ_ub (f := fun b => if σ.2.1 b = true then σ.1 (2700 + b) else none) (s := pMt us bl z x u (12 + H i - tkX bl x)) 48 b z1 z2.1 w (by rw [if_pos z2.2]; exact hv)
            obtain ⟨w', q1', -⟩ := this
            have q1' : pRt σ (pMt us bl z x u (12 + H i - tkX bl x)) = some w' := q1'
            rw [q1']; rfl
    obtain ⟨f4, f5⟩ := fd_cl (G := (dn, up, (ns, us, fl, bl, z, el), H)) (σ := σ) (x := x) (h := H i) (u := u) (b0 := (u low).2.2.1 62) (b7 := exB (fun k => sGo us bl z y (u (12 + H i - tkX bl x)).2.2.1 k && sEx (σ.2.2 (sRn us bl z y k).toNat)) z.2.1.length) (L := fun j => exB (fun k => sGo us bl z y (u (12 + H i - tkX bl x)).2.2.1 k && σ.2.2 (sRn us bl z y k).toNat j) z.2.1.length) (Or.inr ho) hpr (by
      show _ = ((_ || (pDr u (12 + H i - tkX bl x)).isSome) && exB (fun b => pMt us bl z x u (12 + H i - tkX bl x) b && sEx (σ.2.2 b)) 48)
      rw [hdr', d39, sx (fun b => sEx (σ.2.2 b))]; rfl) (fun s => by
      show _ = ((_ || (pDr u (12 + H i - tkX bl x)).isSome) && exB (fun b => pMt us bl z x u (12 + H i - tkX bl x) b && σ.2.2 b s) 48)
      rw [hdr', d39, ← sx (fun b => σ.2.2 b s)]; rfl)
    have fr2 : mFr S9 S2 := ⟨f1, fun a ha => f2 a (by omega)⟩
    refine ⟨S3, head _ ?_, A2, W2, σ, C, mFr_trans t1 (mFr_trans fr9 (mFr_trans fr2 (mFr_w e2))), lkI_e hk.1 e2.1 (fun a _ h2 h3 h4 => e2.2.1 a h2 h3 h4) s2, u1, gCg_rfl, gLe_refl σ, ?_, ?_, fun j w hE' _ => ?_, hcon, fun q => by omega, fun v' hv' => ?_⟩
    · rw [head2, hdr, if_neg (show ¬ bi (some v).isSome = 0 from (show ¬ (1 : Int) = 0 by decide)), hm, ← Nat.add_assoc, hlow]
      have := s1
      rw [show ((0 : Nat) : Int) = 0 from rfl, ← hlow] at this
      rw [← hlow, this, e1, hsome]
    · rw [← f4, ← f5]
      exact cRs_w e2 u2
    · rw [e2.2.1 92 (by decide) (by decide) (by decide), f3]; exact h11'
    · rcases hE' with ⟨-, v', w1, w2, w3⟩ | ⟨w1, w2, -⟩ | ⟨w1, -⟩ | ⟨-, -, s, b, y', y'', e', w1, w2, w3, w4, w5, w6, w7, w8⟩
      · exact Or.inl ⟨v', w1, by rw [w2, if_neg (by omega)], w3⟩
      · omega
      · omega
      · right
        have w3 : bl[x.2.1.toNat]? = some y' := w3
        rw [q1, Int.toNat_natCast, q2] at w3
        cases w3
        rw [w8, w7]
        exact u5 s b y'' e' (hw s w1 w2).1 w2 w4 w5 w6
    · rw [hgo] at hv'
      split at hv'
      · by_cases hr : y.rs = -1
        · rw [q8, if_pos hr, if_pos rfl] at hv'
          cases hv'
          rw [q7, q8, if_pos hr]
          exact e3 hr
        · rw [q8, if_neg hr, if_neg (by decide)] at hv'
          obtain ⟨wv, w1, w2⟩ := oB_some hv'
          cases w2
          rw [q7, q8, if_neg hr, show 12 + H i - y.ps.length = 12 + (H i - y.ps.length) by omega]
          exact e4 wv (by rw [hfj hr]; exact w1) hr
      · cases hv'
end CSE
