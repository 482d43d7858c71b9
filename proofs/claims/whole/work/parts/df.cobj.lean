/-! The class looks at instructions that use objects. -/
section COB
variable {ns : List (List Int)} {us : List Int} {fl : List (List Int × Nat × Int)} {bl : List jB} {z : jL} {el : List (Nat × Nat × Nat × Nat)} {F : Int → Prop} {dn up : Int → Int} {H lc : Nat → Nat} {ty : Nat → Option (Nat → Int)} {th : Nat → Int} {n Q m0 : Nat} {σ : jG} {C : jH} {i : Nat} {x : jC} {u : jQ} {S T : nk_S} {A : jA} {W : Nat → Bool}
/-- what an array's slot means are arrays -/
theorem ar_s (hC : pCx F dn up ns us fl bl z el H lc ty) {t : Int} {w : jW} (ht : (decide (t = 2) || tAr t) = true) (hw : wTy us z t w) {s : Nat} (hs : s < 54) (h : w.2.2.1 s = true) : s < z.2.1.length ∧ tAr (sTp z s) = true ∧ 3 ≤ sTp z s ∧ tAr t = true ∧ tLe us (tEl (sTp z s)) (tEl t) = true := by
  obtain ⟨-, hso, -, huO, h32, h8, hz, -⟩ := hC
  have hsb := ((hw.2 (tAr_2 ht)).2 s h).resolve_left (by omega)
  unfold pB at hsb
  rw [Bool.and_eq_true] at hsb
  have hsv := hso s hsb.1
  have hne2 : t ≠ 2 := by
    intro r
    rw [r] at hsb
    rcases tLe_nz hsb.2 (by decide) with q | q <;> omega
  rw [decide_eq_false hne2, Bool.false_or] at ht
  obtain ⟨e1, e2⟩ := tEl_le huO h32 hsb.2 ht hsv.2
  refine ⟨?_, e2, hsv.2, ht, e1⟩
  by_cases c : s < z.2.1.length
  · exact c
  · exfalso
    unfold sTp at e2
    rw [if_neg c] at e2
    unfold tAr at e2
    rw [Bool.or_eq_true, Bool.and_eq_true] at e2
    rcases e2 with q | ⟨-, q⟩
    · have := of_decide_eq_true q; omega
    · have := of_decide_eq_true q; omega
/-- objects of the program's own classes are made by the program -/
theorem cl_s (hC : pCx F dn up ns us fl bl z el H lc ty) {t : Int} {c : Nat} (hc : 8 ≤ c) (hcl : c < us.length) (h1 : tLe us t (4 + 2 * (c : Int)) = true) {w : jW} (hw : wTy us z t w) {s : Nat} (hs : s < 54) (h : w.2.2.1 s = true) : s < z.2.1.length ∧ cl (sTp z s) < us.length := by
  obtain ⟨-, hso, -, huO, h32, h8, hz, -⟩ := hC
  have h2t : 2 ≤ t := by rcases tLe_nz h1 (by omega) with q | q <;> omega
  have hsb := ((hw.2 h2t).2 s h).resolve_left (by omega)
  unfold pB at hsb
  rw [Bool.and_eq_true] at hsb
  have hsv := hso s hsb.1
  have hcls : cl (sTp z s) < us.length := by
    have h1' := hsv.1
    have h3' := hsv.2
    unfold tV at h1'
    unfold cl
    omega
  refine ⟨?_, hcls⟩
  have htr := tLe_trans huO h32 hsv.1 (show tV us (4 + 2 * (c : Int)) by unfold tV; omega) hsb.2 h1
  by_cases d : s < z.2.1.length
  · exact d
  · exfalso
    have e : sTp z s = 4 + 2 * ((s : Int) - 46) := by unfold sTp; rw [if_neg d]
    have h48 : 48 ≤ s := by
      have := hsb.1
      unfold sVd at this
      rw [decide_eq_false d, Bool.false_or, Bool.and_eq_true] at this
      exact of_decide_eq_true this.1
    rcases (tLe_iff _ _).mp htr with q | q | ⟨q1, q2, q | q | ⟨q3, q4, q5, q6⟩⟩
    · omega
    · omega
    · omega
    · omega
    · have := anc_le huO h32 us.length _ _ hcls hcls q6
      have e1 : cl (4 + 2 * (c : Int)) = c := by unfold cl; omega
      have e2 : cl (sTp z s) = s - 46 := by rw [e]; unfold cl; omega
      omega
theorem un_len (hC : pCx F dn up ns us fl bl z el H lc ty) (hx : z.1[i]? = some x) : us.length = ns.length := by
  obtain ⟨hT, hs, hov, huO, h32, h8, hz, hin, hbd, hop⟩ := hC
  obtain ⟨xb, e, M, X, b1, b2, b3, b4, b5, -⟩ := hin i x hx
  exact b5.2.2.2.2.1
theorem vl1_le (hC : pCx F dn up ns us fl bl z el H lc ty) {t t' : Int} (hv : tV us t') (h : tLe us t t' = true) {w : jW} (hw : vl1 F us z t w) : vl1 F us z t' w := by
  obtain ⟨-, hso, -, huO, h32, -⟩ := hC
  obtain ⟨⟨y1, y2, y3⟩, y4, y5, y6⟩ := hw
  exact ⟨⟨y1, wTy_le huO h32 hso hv h y2, y3⟩, y4, y5, y6⟩
theorem tV_el {t : Int} (h : tV us t) (ha : tAr t = true) : tV us (tEl t) := by
  unfold tEl
  unfold tV at h ⊢
  split
  · omega
  · unfold tAr at ha
    rename_i hn3
    simp [hn3] at ha
    omega
theorem h_length (hk : kX F th n dn up ns us fl bl z el H lc ty Q) (hT : lkS F dn up ns us fl bl z el H lc ty m0 Q S A W σ C i u T) (hx : z.1[i]? = some x) (hu : A i = some u) (ho : x.1 = 32) : ∃ S1, ja_X4_tellsLength 92 T = some (bi (pGo (dn, up, (ns, us, fl, bl, z, el), H) σ x (H i) u).isSome, S1) ∧ lkH F th n dn up ns us fl bl z el H lc ty m0 Q S A W σ C i x u S1 := by
  obtain ⟨t1, t2, t3, t4, t5⟩ := hT
  obtain ⟨t, xb, e, a1, a2, ⟨⟨p1, p2, p3, p4, p5, p6⟩, ⟨c1, c2, c3⟩, -, -, -, ⟨d1, d2⟩, ⟨l1, l2, l3, l4, l5⟩, -⟩, hd, hg, hlk⟩ := lk_at hk t2 hx hu
  obtain ⟨k2, k4, kb, ki, kr, -⟩ := hd
  have etk := (tkX_n (bl := bl) (x := x) (by omega))
  have h0 : tkT 32 = 1 ∧ lvT 32 = 1 := by decide +kernel
  have h1 := kr (by omega)
  rw [tHo_1 ⟨by omega, by omega, by omega, by omega⟩ (by rw [etk.1, ho]; exact h0.1), ho] at d1
  have g1 : (decide (t (12 + H i - 1) = 2) || tAr (t (12 + H i - 1))) = true := d1
  obtain ⟨S1, s1, s2, s3, s4⟩ := c_length (x := x) (σ := σ) (G := (dn, up, (ns, us, fl, bl, z, el), H)) hk.1 hk.2.1.1 t2.1 hk.2.2.2.2 hg l4 rfl t2.2.2.2.2.1 t4 t5 a2.1 ho h1.1 h1.2 (fun s h2 h3 => nf_t fun q => by
    have := (ar_s hk.2.1 g1 (a2.1.2.2.1 _) h3 q).1
    omega)
  have hz0 : pRz (dn, up, (ns, us, fl, bl, z, el), H) σ x (H i) u 0 = (u (12 + H i - 1)).2.2.1 62 := by
    unfold pRz; rw [if_pos rfl, if_pos (by omega)]
  obtain ⟨f1, f2⟩ := fd_1 (G := (dn, up, (ns, us, fl, bl, z, el), H)) (σ := σ) (x := x) (h := H i) (u := u) (e0 := 0) (by decide) ⟨by omega, by omega, by omega⟩ (pRz_d (by omega))
  rw [hz0] at f1 f2
  refine ⟨S1, s1, lkH_e hk t1 t2 s2 t3 ⟨by omega, by omega, by omega, by omega⟩ (pCo_n ⟨by omega, by omega, by omega, by omega, by omega⟩) ?_ (fun v' hv' => ?_)⟩
  · rw [← f1, ← f2]; exact s3
  · rw [etk.1, etk.2, ho, h0.1, h0.2, show H i - 1 + 1 = H i by omega]
    exact s4 v' hv'
/-- the field of an instruction -/
theorem fld_at (hk : kX F th n dn up ns us fl bl z el H lc ty Q) (hfw : ∀ (f : Nat) (y : List Int × Nat × Int), fl[f]? = some y → 8 ≤ y.2.1 ∧ y.2.1 < 32) (hx : z.1[i]? = some x) {a b : Nat} {l : Int} (p1 : cW ns us fl bl z.2.1 a b l x) (ho : x.1 = 35 ∨ x.1 = 36) : ∃ (f c : Nat) (y : List Int × Nat × Int), x.2.1 = (f : Int) ∧ fl[f]? = some y ∧ x.2.2.1 = (c : Int) ∧ 8 ≤ c ∧ c < us.length := by
  obtain ⟨f, c, q1, q2, q3, q4, y, q5, q6⟩ := p1.2.2.2.2.2.1 ho
  have hl := un_len hk.2.1 hx
  obtain ⟨-, -, -, huO, h32, -⟩ := hk.2.1
  have := anc_le huO h32 us.length _ _ (by omega) (by omega) q6
  have := (hfw f y q5).1
  exact ⟨f, c, y, q1, q5, q3, by omega, by omega⟩
theorem h_get (hk : kX F th n dn up ns us fl bl z el H lc ty Q) (hfw : ∀ (f : Nat) (y : List Int × Nat × Int), fl[f]? = some y → 8 ≤ y.2.1 ∧ y.2.1 < 32) (hT : lkS F dn up ns us fl bl z el H lc ty m0 Q S A W σ C i u T) (hx : z.1[i]? = some x) (hu : A i = some u) (ho : x.1 = 35) : ∃ S1, ja_X4_usesField 92 (i : Int) 35 T = some (bi (pGo (dn, up, (ns, us, fl, bl, z, el), H) σ x (H i) u).isSome, S1) ∧ lkH F th n dn up ns us fl bl z el H lc ty m0 Q S A W σ C i x u S1 := by
  obtain ⟨t1, t2, t3, t4, t5⟩ := hT
  obtain ⟨t, xb, e, a1, a2, ⟨⟨p1, p2, p3, p4, p5, p6⟩, ⟨c1, c2, c3⟩, -, -, -, ⟨d1, d2⟩, ⟨l1, l2, l3, l4, l5⟩, -, y1, y2⟩, hd, hg, hlk⟩ := lk_at hk t2 hx hu
  obtain ⟨k2, k4, kb, ki, kr, -⟩ := hd
  have etk := (tkX_n (bl := bl) (x := x) (by omega))
  have h0 : tkT 35 = 1 ∧ lvT 35 = 1 := by decide +kernel
  have h1 := kr (by omega)
  obtain ⟨f, c, y, q1, q2, q3, q4, q5⟩ := fld_at hk hfw hx p1 (Or.inl ho)
  rw [tHo_1 ⟨by omega, by omega, by omega, by omega⟩ (by rw [etk.1, ho]; exact h0.1), ho] at d1
  have g1 : tLe us (t (12 + H i - 1)) (4 + 2 * x.2.2.1) = true := d1
  rw [q3] at g1
  obtain ⟨S1, s1, s2, s3, s4⟩ := c_get (x := x) (σ := σ) (G := (dn, up, (ns, us, fl, bl, z, el), H)) hk.1 hk.2.1.1 t2.1 hk.2.2.2.2 hx rfl l1 l4 rfl hg t2.2.2.2.2.1 t4 t5 a2.1 ho h1.1 h1.2 q1 q2 (y1 y (List.mem_of_getElem? q2)).2 (fun s h2 h3 => nf_t fun q => by
    have := (cl_s hk.2.1 q4 q5 g1 (a2.1.2.2.1 _) h3 q).1
    omega)
  have hz0 : pRz (dn, up, (ns, us, fl, bl, z, el), H) σ x (H i) u 0 = (u (12 + H i - 1)).2.2.1 62 := by
    unfold pRz; rw [if_pos rfl, if_pos (by omega)]
  obtain ⟨f1, f2⟩ := fd_1 (G := (dn, up, (ns, us, fl, bl, z, el), H)) (σ := σ) (x := x) (h := H i) (u := u) (e0 := 0) (by decide) ⟨by omega, by omega, by omega⟩ (pRz_d (by omega))
  rw [hz0] at f1 f2
  refine ⟨S1, s1, lkH_e hk t1 t2 s2 t3 ⟨by omega, by omega, by omega, by omega⟩ (pCo_n ⟨by omega, by omega, by omega, by omega, by omega⟩) ?_ (fun v' hv' => ?_)⟩
  · rw [← f1, ← f2]; exact s3
  · rw [etk.1, etk.2, ho, h0.1, h0.2, show H i - 1 + 1 = H i by omega]
    exact s4 v' hv'
theorem oLe_g {o : Option jW} {σ τ : jG} {k : Nat} (h : oLe o (σ.1 k)) (g : gLe σ τ) : oLe o (τ.1 k) := fun w q => by
  obtain ⟨w1, q1, q2⟩ := h w q
  obtain ⟨w2, r1, r2⟩ := g.1 k w1 q1
  exact ⟨w2, r1, wle_trans q2 r2⟩
theorem ptG_in {w : Nat → Bool} {f : Nat} {v : jW} : ∀ m, gLe σ (ptG w f v σ m) ∧ ∀ s, s < m → w s = true → oLe (some v) ((ptG w f v σ m).1 (s * 48 + f)) := by
  intro m
  induction m with
  | zero => exact ⟨gLe_refl σ, fun s h => by omega⟩
  | succ m ih =>
    rw [ptG]
    by_cases c : w m = true
    · rw [if_pos c]
      refine ⟨gLe_trans ih.1 (gAd_le _ _ _).1, fun s h1 h2 => ?_⟩
      by_cases e : s = m
      · rw [e]; exact (gAd_le _ _ _).2
      · exact oLe_g (ih.2 s (by omega) h2) (gAd_le _ _ _).1
    · rw [if_neg c]
      refine ⟨ih.1, fun s h1 h2 => ?_⟩
      have : s ≠ m := fun e => by rw [e] at h2; exact c h2
      exact ih.2 s (by omega) h2
theorem ptG_ad {G : jZ} {h : Nat} {w : Nat → Bool} {f : Nat} {v : jW} : ∀ m, (∀ s, s < m → w s = true → pCo G σ x h u (s * 48 + f) = some v) → gAds G σ x h u σ (ptG w f v σ m) := by
  intro m
  induction m with
  | zero => intro _; exact gAds_rfl
  | succ m ih =>
    intro hc
    rw [ptG]
    have := ih (fun s h1 h2 => hc s (by omega) h2)
    by_cases c : w m = true
    · rw [if_pos c]; exact gAds_ad this (hc m (by omega) c)
    · rw [if_neg c]; exact this
theorem h_put (hk : kX F th n dn up ns us fl bl z el H lc ty Q) (hfw : ∀ (f : Nat) (y : List Int × Nat × Int), fl[f]? = some y → 8 ≤ y.2.1 ∧ y.2.1 < 32) (hT : lkS F dn up ns us fl bl z el H lc ty m0 Q S A W σ C i u T) (hx : z.1[i]? = some x) (hu : A i = some u) (ho : x.1 = 36) : ∃ S1, ja_X4_usesField 92 (i : Int) 36 T = some (bi (pGo (dn, up, (ns, us, fl, bl, z, el), H) σ x (H i) u).isSome, S1) ∧ lkH F th n dn up ns us fl bl z el H lc ty m0 Q S A W σ C i x u S1 := by
  obtain ⟨t1, t2, t3, t4, t5⟩ := hT
  obtain ⟨t, xb, e, a1, a2, ⟨⟨p1, p2, p3, p4, p5, p6⟩, ⟨c1, c2, c3⟩, -, -, -, ⟨d1, d2⟩, ⟨l1, l2, l3, l4, l5⟩, -, y1, y2⟩, hd, hg, hlk⟩ := lk_at hk t2 hx hu
  obtain ⟨k2, k4, kb, ki, kr, krr, k33, k34, k36, -⟩ := hd
  have etk := (tkX_n (bl := bl) (x := x) (by omega))
  have h0 : tkT 36 = 2 ∧ lvT 36 = 0 := by decide +kernel
  obtain ⟨q0, q1', q2'⟩ := k36 ho
  obtain ⟨f, c, y, q1, q2, q3, q4, q5⟩ := fld_at hk hfw hx p1 (Or.inr ho)
  rw [tHo_2 ⟨by omega, by omega, by omega, by omega⟩ (by rw [etk.1, ho]; exact h0.1), ho, Bool.and_eq_true] at d1
  have g1 : tLe us (t (12 + H i - 2)) (4 + 2 * x.2.2.1) = true := d1.1
  have g2 : tLe us (t (12 + H i - 1)) (tFty fl x) = true := d1.2
  have ef : tFty fl x = y.2.2 := by unfold tFty; rw [q1, Int.toNat_natCast, q2]
  rw [q3] at g1
  rw [ef] at g2
  have yt := y1 y (List.mem_of_getElem? q2)
  obtain ⟨-, hso, -, huO, h32, -⟩ := id hk.2.1
  obtain ⟨v1, v2, v3⟩ := vOk_1 a2.1 (12 + H i - 1)
  have hvl : vl1 F us z y.2.2 (wBr (u (12 + H i - 1))) := wBr_v ⟨v1, wTy_le huO h32 hso yt.1 g2 v2, v3⟩ q0
  have hw : ∀ s, s < 54 → (u (12 + H i - 2)).2.2.1 s = true → s < z.2.1.length := fun s h3 q => (cl_s hk.2.1 q4 q5 g1 (a2.1.2.2.1 _) h3 q).1
  have hf48 : f < 48 := by have := at_lt q2; omega
  obtain ⟨S1, C1, s1, s2, s3, s4, s5, s6⟩ := c_put (th := th) (n := n) (x := x) (σ := σ) (G := (dn, up, (ns, us, fl, bl, z, el), H)) hk.1 hk.2.1.1 hk.2.2.2.1 t2.1 hk.2.2.2.2 hx rfl l1 l4 rfl hg t2.2.2.2.2.1 t4 t5 a2.1 ho q1' q2' q1 q2 yt.2 hvl
  have hz0 : pRz (dn, up, (ns, us, fl, bl, z, el), H) σ x (H i) u 0 = (u (12 + H i - 2)).2.2.1 62 := by
    unfold pRz; rw [if_pos rfl, if_neg (by omega), if_pos (by omega)]
  obtain ⟨f1, f2⟩ := fd_1 (G := (dn, up, (ns, us, fl, bl, z, el), H)) (σ := σ) (x := x) (h := H i) (u := u) (e0 := 0) (by decide) ⟨by omega, by omega, by omega⟩ (pRz_d (by omega))
  rw [hz0] at f1 f2
  have hgo : pGo (dn, up, (ns, us, fl, bl, z, el), H) σ x (H i) u = pDr u (12 + H i - 2) := by
    unfold pGo
    rw [if_neg (by omega), if_neg (by omega), if_neg (by omega), if_neg (by omega), if_neg (by omega), if_neg (by omega), if_neg (by omega), if_neg (by omega), if_neg (by omega), if_neg (by omega), if_neg (by omega), if_neg (by omega), if_neg (by omega), if_neg (by omega), if_neg (by omega), if_neg (by omega), if_pos ho]
  have hco : ∀ k, pCo (dn, up, (ns, us, fl, bl, z, el), H) σ x (H i) u k = oB (pDr u (12 + H i - 2)) fun _ => if k < 2592 ∧ k % 48 = f ∧ (u (12 + H i - 2)).2.2.1 (k / 48) = true then some (wBr (u (12 + H i - 1))) else none := fun k => by
    unfold pCo
    rw [if_neg (by omega), if_neg (by omega), if_neg (by omega), if_pos ho, q1, Int.toNat_natCast]
  obtain ⟨σ1, hσ1⟩ : ∃ σ1, σ1 = (if (pGo (dn, up, (ns, us, fl, bl, z, el), H) σ x (H i) u).isSome = true then ptG (u (12 + H i - 2)).2.2.1 f (wBr (u (12 + H i - 1))) σ z.2.1.length else σ) := ⟨_, rfl⟩
  rw [← hσ1] at s5 s6
  have had : gAds (dn, up, (ns, us, fl, bl, z, el), H) σ x (H i) u σ σ1 ∧ ∀ k, oLe (pCo (dn, up, (ns, us, fl, bl, z, el), H) σ x (H i) u k) (σ1.1 k) := by
    cases hdr : pDr u (12 + H i - 2) with
    | none =>
      rw [hgo, hdr] at hσ1
      have hσ1 : σ1 = σ := hσ1
      rw [hσ1]
      refine ⟨gAds_rfl, fun k => ?_⟩
      rw [hco, hdr]
      exact oLe_n _
    | some v =>
      rw [hgo, hdr] at hσ1
      have hσ1 : σ1 = ptG (u (12 + H i - 2)).2.2.1 f (wBr (u (12 + H i - 1))) σ z.2.1.length := hσ1
      rw [hσ1]
      refine ⟨ptG_ad _ (fun s h1 h2 => ?_), fun k => ?_⟩
      · rw [hco, hdr]
        show (if _ then _ else _) = _
        rw [if_pos ⟨by omega, by omega, by rw [show (s * 48 + f) / 48 = s by omega]; exact h2⟩]
      · rw [hco, hdr]
        show oLe (if _ then _ else _) _
        split
        · rename_i hq
          have hs := hw (k / 48) (by omega) hq.2.2
          have := (ptG_in (σ := σ) (w := (u (12 + H i - 2)).2.2.1) (f := f) (v := wBr (u (12 + H i - 1))) z.2.1.length).2 (k / 48) hs hq.2.2
          rw [show k / 48 * 48 + f = k by omega] at this
          exact this
        · exact oLe_n _
  refine ⟨S1, s1, lkH_k hk t1 t2 s2 t3 ⟨by omega, by omega⟩ s5 s6 (gAds_I hk.2.1 t2.2.2.2.2.2.1 t2.2.2.2.2.2.2.1 t2.2.2.2.2.2.2.2 hlk (fun τ hτ => qI_m (fun _ => lnP_m hτ) (t2.2.2.2.2.2.2.1.1 i u hu)) had.1) had.2 (fun q => by omega) ?_ (fun v' hv' => ?_)⟩
  · rw [← f1, ← f2]; exact s3
  · rw [etk.1, etk.2, ho, h0.1, h0.2]
    exact s4 v' hv'
end COB
