/-! The class's rounds: what is known between two looks. -/
def lkD (G : jZ) (lc : Nat → Nat) (S : nk_S) (A : jA) (σ : jG) (i : Nat) (x : jC) (u : jQ) : Prop := cI (S.1 107 i) (fun e => pFd G σ x (zH G i) u e || (decide (e = 9) && !pMv G σ x (zH G i) u)) ∧ cV (S.1 108 i) (pEs G σ i x (zH G i) u) ∧ lkC G lc σ A σ i x u
def prJ (G : jZ) (lc : Nat → Nat) (S : nk_S) (A : jA) (W : Nat → Bool) (σ : jG) (C : jH) (i : Nat) : Prop := ∀ x, (zZ G).1[i]? = some x → (A i = none → S.1 107 i = 0 ∧ S.1 108 i = 0) ∧ ∀ u, A i = some u → W i = true ∨ uCh (zBl G) C x (zH G i) u (pSu (zUs G) (zBl G) x) = true ∨ lkD G lc S A σ i x u
theorem lkC_cg {G : jZ} {lc : Nat → Nat} {σ σ1 σ' : jG} {A1 A' : jA} {i : Nat} {x : jC} {u : jQ} (h : lkC G lc σ A1 σ1 i x u) (hs : gSame G x (zH G i) u σ σ') (ha : aLe A1 A') (hg : gLe σ1 σ') : lkC G lc σ' A' σ' i x u := by
  obtain ⟨h1, h2, h3, h4⟩ := h
  refine ⟨fun j w hE => ?_, fun k => ?_, fun q => hg.2.1 _ (h3 q), ?_⟩
  · obtain ⟨t, t1, t2⟩ := h1 j w ((pEd_cg hs).mp hE)
    obtain ⟨v, v1, v2⟩ := ha j t t1
    exact ⟨v, v1, qLe_trans t2 v2⟩
  · rw [pCo_cg hs]
    exact oLe_g (h2 k) hg
  · rw [pEs_cg hs]
    exact sLe_trans h4 (hg.2.2 _)
theorem uCh_m {bl : List jB} {C C' : jH} {x : jC} {h : Nat} {u : jQ} {su : Nat → Bool} (hc : sLe C.1 C'.1 ∧ sLe C.2.1 C'.2.1 ∧ sLe C.2.2 C'.2.2) (hu : uCh bl C x h u su = true) : uCh bl C' x h u su = true := by
  unfold uCh at hu ⊢
  split
  · rename_i q
    rw [if_pos q] at hu
    exact hc.1 _ hu
  · rename_i q
    rw [if_neg q] at hu
    split
    · rename_i q2
      rw [if_pos q2] at hu
      obtain ⟨j, j1, j2⟩ := sEx_iff.mp hu
      unfold sAnd at j2
      rw [Bool.and_eq_true] at j2
      exact sEx_iff.mpr ⟨j, j1, by unfold sAnd; rw [hc.2.1 j j2.1, j2.2]; rfl⟩
    · rename_i q2
      rw [if_neg q2] at hu
      split
      · rename_i q3
        rw [if_pos q3] at hu
        obtain ⟨j, j1, j2⟩ := sEx_iff.mp hu
        unfold sAnd at j2
        rw [Bool.and_eq_true] at j2
        exact sEx_iff.mpr ⟨j, j1, by unfold sAnd; rw [hc.2.2 j j2.1, j2.2]; rfl⟩
      · rename_i q3
        rw [if_neg q3] at hu
        cases hu
section CRD
variable {ns : List (List Int)} {us : List Int} {fl : List (List Int × Nat × Int)} {bl : List jB} {z : jL} {el : List (Nat × Nat × Nat × Nat)} {F : Int → Prop} {dn up : Int → Int} {H lc : Nat → Nat} {ty : Nat → Option (Nat → Int)} {th : Nat → Int} {n Q m0 : Nat} {σ σ' : jG} {C C' : jH} {i : Nat} {x : jC} {u : jQ} {S S' : nk_S} {A : jA} {W : Nat → Bool}
/-- the objects that a send goes to -/
theorem snd_at (hk : kX F th n dn up ns us fl bl z el H lc ty Q) (hI : lkI F dn up ns us fl bl z el H lc ty m0 Q S A W σ C) (hx : z.1[i]? = some x) (hu : A i = some u) : (x.1 = 35 → 0 ≤ x.2.1 ∧ x.2.1.toNat < 48) ∧ (x.1 = 40 → ∀ s, s < 54 → (u (12 + H i - tkX bl x)).2.2.1 s = true → cl (sTp z s) < us.length) := by
  obtain ⟨t, xb, e, a1, a2, ⟨⟨p1, p2, p3, p4, p5, p6⟩, ⟨c1, c2, c3⟩, -, -, -, ⟨d1, d2⟩, ⟨l1, l2, l3, l4, l5⟩, -, y1, y2⟩, hd, hg, hlk⟩ := lk_at hk hI hx hu
  constructor
  · intro ho
    obtain ⟨f, c, q1, q2, -⟩ := p1.2.2.2.2.2.1 (Or.inl ho)
    rw [q1, Int.toNat_natCast]
    omega
  · intro ho s h1 h2
    obtain ⟨f, c, y, q1, q2, q3, q4, q5, q6, q7, q8, q9⟩ := cal_at hk hx p1 y2 (Or.inr ho)
    obtain ⟨g1, g2⟩ := hd.2.2.2.2.2.2.2.2.2.2.1 ho
    unfold tHo at d1
    rw [if_neg (by omega), if_neg (by omega), if_neg (by omega), if_pos (Or.inr ho)] at d1
    have b0 := allR_at _ _ d1 0 (by omega) (by omega)
    have et : tTold bl x 0 = 4 + 2 * x.2.2.1 := by unfold tTold; rw [if_pos ⟨rfl, ho⟩]
    rw [et, Nat.add_zero, q4] at b0
    exact (cl_s hk.2.1 q5 q6 b0 (a2.1.2.2.1 _) h1 h2).2
/-- one look more -/
theorem pr_look (hk : kX F th n dn up ns us fl bl z el H lc ty Q) (hI : lkI F dn up ns us fl bl z el H lc ty m0 Q S A W σ C) (hx : z.1[i]? = some x) (hu : A i = some u) (hall : ∀ j, j ≠ i → prJ (dn, up, (ns, us, fl, bl, z, el), H) lc S A W σ C j) (hW : ∀ j, W j = true → A j ≠ none) (hf : lkF F th n dn up ns us fl bl z el H lc ty m0 Q S A W σ C i x u S') : ∃ A' W' σ' C', lkI F dn up ns us fl bl z el H lc ty m0 Q S' A' W' σ' C' ∧ (∀ j, prJ (dn, up, (ns, us, fl, bl, z, el), H) lc S' A' W' σ' C' j) ∧ (∀ j, W' j = true → A' j ≠ none) ∧ aCh th n A W A' W' ∧ gCg th n σ σ' C C' := by
  obtain ⟨A', W', σ', C', ⟨f1, f2, f3⟩, f4, f5, f6, f7, f8, f9⟩ := hf
  have up' : ∀ j, A j ≠ none → A' j ≠ none := fun j q => by
    cases hq : A j with
    | none => exact absurd hq q
    | some v =>
      obtain ⟨t, t1, -⟩ := f5.1 j v hq
      rw [t1]; exact fun r => by cases r
  refine ⟨A', W', σ', C', f4, fun j y hy => ?_, fun j q => ?_, f5, f6⟩
  · have hy : z.1[j]? = some y := hy
    constructor
    · intro hn
      have hAj : A j = none := by
        cases hq : A j with
        | none => rfl
        | some v => exact absurd hn (up' j (by rw [hq]; exact fun r => by cases r))
      have hji : j ≠ i := fun e => by rw [e, hu] at hAj; cases hAj
      rw [f3 107 (Or.inl rfl) j hji, f3 108 (Or.inr rfl) j hji]
      exact (hall j hji y hy).1 hAj
    · intro v hv
      by_cases hc : uCh bl C' y (H j) v (pSu us bl y) = true
      · exact Or.inr (Or.inl hc)
      have hc' : uCh bl C' y (H j) v (pSu us bl y) = false := by
        cases hq : uCh bl C' y (H j) v (pSu us bl y) with
        | false => rfl
        | true => exact absurd hq hc
      obtain ⟨s1, s2⟩ := snd_at hk f4 hy hv
      have hs : gSame (dn, up, (ns, us, fl, bl, z, el), H) y (H j) v σ σ' := gSame_of f6 (fun q => (s1 q).2) s2 hc'
      by_cases hji : j = i
      · subst hji
        have : y = x := by rw [hx] at hy; cases hy; rfl
        subst this
        rcases f9 with q | ⟨q1, q2, q3⟩
        · exact Or.inl q
        · rw [q1] at hv
          cases hv
          refine Or.inr (Or.inr ⟨cI_e q2 (fun e => ?_), ?_, lkC_cg q3 hs (aLe_refl _) (gLe_refl _)⟩)
          · show _ = (pFd (dn, up, (ns, us, fl, bl, z, el), H) σ' y (H j) u e || (decide (e = 9) && !pMv (dn, up, (ns, us, fl, bl, z, el), H) σ' y (H j) u))
            rw [pFd_cg hs, pMv_cg hs]
          · rw [pEs_cg (i := j) hs]; exact f8
      · by_cases hA : A' j = A j
        · rw [hA] at hv
          rcases (hall j hji y hy).2 v hv with q | q | ⟨q1, q2, q3⟩
          · exact Or.inl (f5.2.1 j q)
          · exact absurd (uCh_m f6.1 q) hc
          · refine Or.inr (Or.inr ⟨?_, ?_, lkC_cg q3 hs f5.1 f7⟩)
            · rw [f3 107 (Or.inl rfl) j hji]
              refine cI_e q1 (fun e => ?_)
              show _ = (pFd (dn, up, (ns, us, fl, bl, z, el), H) σ' y (H j) v e || (decide (e = 9) && !pMv (dn, up, (ns, us, fl, bl, z, el), H) σ' y (H j) v))
              rw [pFd_cg hs, pMv_cg hs]
            · rw [f3 108 (Or.inr rfl) j hji, pEs_cg (i := j) hs]
              exact q2
        · exact Or.inl (f5.2.2.1 j hA)
  · rcases f5.2.2.2.1 j q with r | r
    · exact up' j (hW j r)
    · exact r
/-- nothing has changed -/
def jH0 (C : jH) : Prop := ∀ j, j < 64 → C.1 j = false ∧ C.2.1 j = false ∧ C.2.2 j = false
theorem uCh_0 {h : Nat} (hC : jH0 C) (h35 : x.1 = 35 → x.2.1.toNat < 48) {su : Nat → Bool} : uCh bl C x h u su = false := by
  have nx : ∀ a b : Nat → Bool, (∀ j, j < 64 → a j = false) → sEx (sAnd a b) = false := fun a b ha => by
    refine nf_t fun q => ?_
    obtain ⟨j, j1, j2⟩ := sEx_iff.mp q
    unfold sAnd at j2
    rw [ha j (by omega)] at j2
    cases j2
  unfold uCh
  split
  · rename_i q
    exact (hC _ (by have := h35 q; omega)).1
  · split
    · exact nx _ _ (fun j hj => (hC j hj).2.1)
    · split
      · exact nx _ _ (fun j hj => (hC j hj).2.2)
      · rfl
theorem pSu_48 (hk : kX F th n dn up ns us fl bl z el H lc ty Q) (hx : z.1[i]? = some x) {a b : Nat} {l : Int} (p1 : cW ns us fl bl z.2.1 a b l x) (l2 : bl.length ≤ 48) (ho : x.1 = 39 ∨ x.1 = 40) : ∀ j, pSu us bl x j = true → j < 48 := by
  intro j hj
  obtain ⟨f, c, y, q1, q2, q3, -⟩ := p1.2.2.2.2.2.2.1 ho
  have hf48 := bl_48 l2 q2
  unfold pSu at hj
  rw [q1, Int.toNat_natCast, q2] at hj
  by_cases h39 : x.1 = 39
  · rw [if_pos h39] at hj
    have := of_decide_eq_true hj
    omega
  · rw [if_neg h39] at hj
    obtain ⟨c', c1, c2⟩ := (exB_iff _).mp hj
    have c3 := of_decide_eq_true c2
    obtain ⟨y', v1, -⟩ := hk.2.1.2.2.1 c' f j y c1 q2 (by rw [q3]; exact decide_eq_true (by omega)) c3
    exact bl_48 l2 v1
/-- what uses something that has changed waits -/
theorem c_wakeU (hk : kX F th n dn up ns us fl bl z el H lc ty Q) (hI : lkI F dn up ns us fl bl z el H lc ty m0 Q S A W σ C) : ∃ S' W' C', ja_X4_wakeUsers 92 S = some (0, S') ∧ S'.2 = S.2 ∧ (∀ a, a ≠ 97 → a ≠ 100 → S'.1 a = S.1 a) ∧ lkI F dn up ns us fl bl z el H lc ty m0 Q S' A W' σ C' ∧ jH0 C' ∧ (∀ j, W j = true → W' j = true) ∧ (∀ j x u, z.1[j]? = some x → A j = some u → uCh bl C x (H j) u (pSu us bl x) = true → W' j = true) ∧ (∀ j, W' j = true → W j = true ∨ A j ≠ none) ∧ (W' = W ∧ C' = C ∨ ¬ jH0 C) ∧ (S'.1 100 6 = 0 ∧ S'.1 100 7 = 0 ∧ S'.1 100 8 = 0) := by
  obtain ⟨i1, i2, i3, i4, i5, i6, i7, i8⟩ := id hI
  obtain ⟨-, -, -, -, k6, k7, k8⟩ := id i5
  have hor := cV_or (cV_or k6 k7) k8
  by_cases h0 : nk_lor (nk_lor (S.1 100 6) (S.1 100 7)) (S.1 100 8) = 0
  · have hz := (cV_z hor).mp h0
    have hC0 : jH0 C := fun j hj => by
      have := hz j hj
      unfold sOr at this
      rw [Bool.or_eq_false_iff, Bool.or_eq_false_iff] at this
      exact ⟨this.1.1, this.1.2, this.2⟩
    refine ⟨S, W, C, ?_, rfl, fun _ _ _ => rfl, hI, hC0, fun _ q => q, fun j x u hx hu q => ?_, fun j q => Or.inl q, Or.inl ⟨rfl, rfl⟩, ?_⟩
    · unfold ja_X4_wakeUsers
      rw [jc_92_3, if_pos h0]
    · rw [uCh_0 hC0 (fun q => ((snd_at hk hI hx hu).1 q).2)] at q
      cases q
    · exact ⟨(cV_z k6).mpr (fun j hj => (hC0 j hj).1), (cV_z k7).mpr (fun j hj => (hC0 j hj).2.1), (cV_z k8).mpr (fun j hj => (hC0 j hj).2.2)⟩
  · have hC0 : ¬ jH0 C := fun hC => h0 ((cV_z hor).mpr (fun j hj => by
      obtain ⟨r1, r2, r3⟩ := hC j hj
      unfold sOr
      rw [r1, r2, r3]; rfl))
    obtain ⟨ff, hff⟩ : ∃ ff : Nat → Bool, ff = fun j => match z.1[j]?, A j with
      | some x, some u => uCh bl C x (H j) u (pSu us bl x)
      | _, _ => false := ⟨_, rfl⟩
    have hfv : ∀ j x u, z.1[j]? = some x → A j = some u → ff j = uCh bl C x (H j) u (pSu us bl x) := fun j x u h1 h2 => by
      rw [hff]; dsimp only; rw [h1, h2]
    obtain ⟨m, hm⟩ := big_ge 2000 (by decide)
    have hlen := hk.2.2.2.2.1
    obtain ⟨S', s1, s2, s3, s4, s5, s6⟩ := c_wkL (W := W) (f := ff) hk.1 i1 hk.2.2.2.2 i3 (fun T hT j hj hA => by
      obtain ⟨x, hx⟩ : ∃ x, z.1[j]? = some x := ⟨_, List.getElem?_eq_getElem hj⟩
      cases hu : A j with
      | none => exact absurd hu hA
      | some u =>
        rw [hfv j x u hx hu]
        obtain ⟨t, xb, e, a1, a2, ⟨⟨p1, p2, p3, p4, p5, p6⟩, ⟨c1, c2, c3⟩, -, -, -, ⟨d1, d2⟩, ⟨l1, l2, l3, l4, l5⟩, -, y1, y2⟩, hd, hg, hlk⟩ := lk_at hk hI hx hu
        have fr : mFr S T := ⟨hT.1, fun a ha => hT.2 a (by omega)⟩
        have vT := cPv_m hk.1 fr i1
        have mT : cGm T fl bl z σ C := cGm_1 (fun a _ _ => hT.2 a (by omega)) i5
        have aT : cAm H lc T A := ⟨fun i' hi' => by rw [hT.2 96 (by decide)]; exact i3.1 i' hi', fun i' u' hu' k' hk' => by rw [hT.2 94 (by decide), hT.2 95 (by decide)]; exact i3.2 i' u' hu' k' hk'⟩
        refine c_uses hk.1 vT hk.2.2.2.2 hx mT aT hu a2.1.1 (snd_at hk hI hx hu).1 (fun q => ?_) (fun q => ⟨by rw [hT.2 109 (by decide)]; exact i2.2 j x hx q, pSu_48 hk hx p1 l2 q⟩)
        have etk := (tkX_n (bl := bl) (x := x) (by omega)).1
        have hcd := vT.2.2.1.2.2.2.2.2.2.2.2.1.1.2 j x hx
        have htk : ja_X3_takes Q (j : Int) T = some ((tkX bl x : Int), T) := c_takes hk.1 (by omega) hcd.1 hcd.2.1 (fun b y hb => (vT.2.2.1.2.2.2.2.2.1 b y hb).2.2.1) l2 p1
        have hk2 : (u (12 + H j - tkX bl x)).1 = 2 ∧ 1 ≤ tkX bl x := by
          rcases q with q | q | q
          · rw [etk, q, tk_el.1]; exact ⟨(hd.2.2.2.2.1 (by omega)).1, by decide⟩
          · rw [etk, q, tk_el.2.1]; exact ⟨(hd.2.2.2.2.2.2.1 q).2.1, by decide⟩
          · rw [etk, q, tk_el.2.2]; exact ⟨(hd.2.2.2.2.2.2.2.1 q).2.2.1, by decide⟩
        exact ⟨hk2.1, hk2.2, c1, htk⟩) z.1.length 0 nk_big S (Nat.zero_add _) (by omega) ⟨rfl, fun _ _ => rfl⟩ (by
        have : (fun j => W j || (decide (j < 0) && (A j).isSome && ff j)) = W := by
          funext j
          rw [decide_eq_false (by omega), Bool.false_and, Bool.false_and, Bool.or_false]
        rw [this]; exact i4)
    have fr : mFr S S' := ⟨s2, fun a ha => s3 a (by omega) (by omega)⟩
    obtain ⟨W', hW'⟩ : ∃ W', W' = fun j => W j || (decide (j < z.1.length) && (A j).isSome && ff j) := ⟨_, rfl⟩
    have s6 : cWt S' W' := by rw [hW']; exact s6
    refine ⟨S', W', (noS, noS, noS), ?_, s2, s3, ⟨cPv_m hk.1 fr i1, cFy_m fr i2, ⟨fun i' hi' => by rw [s3 96 (by decide) (by decide)]; exact i3.1 i' hi', fun i' u' hu' k' hk' => by rw [s3 94 (by decide) (by decide), s3 95 (by decide) (by decide)]; exact i3.2 i' u' hu' k' hk'⟩, s6, ?_, i6, i7, i8⟩, fun _ _ => ⟨rfl, rfl, rfl⟩, fun j q => ?_, fun j x u hx hu q => ?_, fun j q => ?_, Or.inr hC0, s5⟩
    · unfold ja_X4_wakeUsers
      rw [jc_92_3, if_neg h0]
      exact s1
    · obtain ⟨j1, j2, j3, j4, -⟩ := i5
      refine ⟨fun s f y h1 h2 => by rw [s3 101 (by decide) (by decide)]; exact j1 s f y h1 h2, fun s h1 => by rw [s3 102 (by decide) (by decide)]; exact j2 s h1, fun s h1 => by rw [s3 103 (by decide) (by decide)]; exact j3 s h1, fun b y h1 => by rw [s3 104 (by decide) (by decide), s3 105 (by decide) (by decide), s3 106 (by decide) (by decide)]; exact j4 b y h1, ?_, ?_, ?_⟩
      · rw [s5.1]; exact cV_0
      · rw [s5.2.1]; exact cV_0
      · rw [s5.2.2]; exact cV_0
    · rw [hW']; dsimp only; rw [q, Bool.true_or]
    · rw [hW']; dsimp only
      rw [decide_eq_true (at_lt hx), hu, hfv j x u hx hu, q]
      show (W j || (true && true && true)) = true
      rw [Bool.or_comm]; rfl
    · rw [hW'] at q; dsimp only at q
      rw [Bool.or_eq_true, Bool.and_eq_true, Bool.and_eq_true] at q
      rcases q with q | ⟨⟨-, q⟩, -⟩
      · exact Or.inl q
      · right
        intro hn
        rw [hn] at q; cases q
end CRD
