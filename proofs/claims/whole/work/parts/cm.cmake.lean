/-! The class makes arrays, and ends bodies. -/
def kFr (S S' : nk_S) : Prop := S'.2 = S.2 ∧ (∀ a, a < 92 ∨ (94 ≤ a ∧ a ≤ 97) ∨ 107 ≤ a → S'.1 a = S.1 a) ∧ ∀ f, f ≠ 9 → f ≠ 10 → S'.1 92 f = S.1 92 f
theorem kFr_e {S S' : nk_S} (h : eFr S S') : kFr S S' := ⟨h.1, fun a x => h.2.1 a (by omega) (by omega) (by omega) (by omega), h.2.2⟩
theorem kFr_s {S S' : nk_S} (h : sFr S S') : kFr S S' := ⟨h.1, fun a x => h.2 a (by omega), fun f _ _ => by rw [h.2 92 (by omega)]⟩
theorem kFr_trans {S1 S2 S3 : nk_S} (h : kFr S1 S2) (k : kFr S2 S3) : kFr S1 S3 := ⟨k.1.trans h.1, fun a x => (k.2.1 a x).trans (h.2.1 a x), fun f x y => (k.2.2 f x y).trans (h.2.2 f x y)⟩
theorem kFr_rfl {S : nk_S} : kFr S S := ⟨rfl, fun _ _ => rfl, fun _ _ _ => rfl⟩
theorem cPv_k {S S' : nk_S} {Q : Nat} (hQ : Q = 13 ∨ Q = 49) {p : jP} {H lc : Nat → Nat} (hf : kFr S S') (hv : cPv S Q p H lc) : cPv S' Q p H lc := cPv_c hQ hf.1 (fun a ha => hf.2.1 a (by omega)) hv
theorem cAm_k {H lc : Nat → Nat} {S S' : nk_S} {A : jA} (h : kFr S S') (k : cAm H lc S A) : cAm H lc S' A := by
  have e : ∀ a, a = 94 ∨ a = 95 ∨ a = 96 → S'.1 a = S.1 a := fun a ha => h.2.1 a (by omega)
  exact ⟨fun i hi => by rw [e 96 (by decide)]; exact k.1 i hi, fun i u hu q hq => by rw [e 94 (by decide), e 95 (by decide)]; exact k.2 i u hu q hq⟩
theorem cWt_k {S S' : nk_S} {W : Nat → Bool} (h : kFr S S') (k : cWt S W) : cWt S' W := by
  have e : S'.1 97 = S.1 97 := h.2.1 97 (by decide)
  exact ⟨fun i hi => by rw [e]; exact k.1 i hi, fun i hi => by rw [e]; exact k.2 i hi⟩
theorem cRw_s {l h : Nat} {S S' : nk_S} {u : jQ} (f : sFr S S') (k : cRw l h S u) : cRw l h S' u := by
  unfold cRw
  rw [f.2 93 (by omega), f.2 98 (by omega), f.2 99 (by omega)]; exact k
theorem cRs_s {S S' : nk_S} {r l : Nat → Bool} (f : sFr S S') (k : cRs S r l) : cRs S' r l := by
  unfold cRs
  rw [f.2 92 (by omega)]; exact k
section CMK
variable {F : Int → Prop} {S : nk_S} {Q : Nat} {p : jP} {H lc : Nat → Nat} {us : List Int} {fl : List (List Int × Nat × Int)} {bl : List jB} {z : jL} {t : Nat → Int} {u : jQ} {i : Nat} {x : jC} {G : jZ} {σ : jG} {C : jH} {l h : Nat} {th : Nat → Int} {n : Nat}
theorem cGm_w {S S' : nk_S} (h : wFr S S') (k : cGm S fl bl z σ C) : cGm S' fl bl z σ C := cGm_e (eFr_w h) k
theorem fBt_So {s : Nat → Bool} {k : Nat} (hk : k < 48) : cV (nk_lor 9007199254740992 (nk_lshl 1 ((k : Nat) : Int))) (fBt (wFc (wS s) (onS k))) := by
  refine cV_e (c_addF (w := wS s) (fBt_S s) (cV_one (show k < 64 by omega)) (fun j hj => ?_)) (fun j _ => fBt_e (w := wS s) (fun j _ => ?_) j)
  · have := of_decide_eq_true hj
    omega
  · show (false || _) = _
    rw [Bool.false_or]
/-- the first value of a type -/
theorem cVl_nl {t : Int} (ht : t = 1 ∨ 2 ≤ t) : cVl t (if t = 1 then 0 else 4611686018427387904) (some (wNl t)) := by
  rcases ht with ht | ht
  · subst ht
    rw [if_pos rfl]
    exact cVl_n.mpr (show (0 : Int) = kPk (vN (some (wNl 1))) by unfold wNl; rw [if_pos rfl]; rfl)
  · rw [if_neg (by omega)]
    refine (cVl_r ht).mpr ?_
    unfold wNl
    rw [if_neg (by omega)]
    exact ⟨by unfold lR; decide, lk_62⟩
/-- the table when an array is made -/
def arG (σ : jG) (st : Nat) (a : jR) (t : Int) : jG := if a.2 < 0 then σ else gAd (gAd σ (2646 + st) (wR (max a.1 0, a.2))) (2592 + st) (wNl t)
theorem gOk_ad (hg : gOk F us fl bl z σ) {k : Nat} {w : jW} (hk : k < 2748) (hw : vl1 F us z (zTp fl bl z k) w) (ht : zTp fl bl z k = 1 ∨ 2 ≤ zTp fl bl z k) : gOk F us fl bl z (gAd σ k w) := by
  refine ⟨fun k' v hv => ?_, hg.2.1, fun b y h1 h2 h3 => ?_⟩
  · by_cases c : k' = k
    · rw [c, gAd_at] at hv
      rw [c]
      cases hq : σ.1 k with
      | none => rw [hq] at hv; cases hv; exact ⟨hk, hw⟩
      | some a => rw [hq] at hv; cases hv; exact ⟨hk, wJn_v ht (hg.1 k a hq).2 hw⟩
    · rw [gAd_ne c] at hv; exact hg.1 k' v hv
  · by_cases c : 2700 + b = k
    · rw [c, gAd_at]
      cases σ.1 k with
      | none => exact fun q => by cases q
      | some a => exact fun q => by cases q
    · rw [gAd_ne c]; exact hg.2.2 b y h1 h2 h3
theorem c_array (hQ : Q = 13 ∨ Q = 49) (hT : thG F (zDn G) (zUp G)) (hF : thN F th n) (hv : cPv S Q p H lc) (hz : oJL p.2.2.2.2.1) (hx : p.2.2.2.2.1.1[i]? = some x) (hfl : fl.length ≤ 48) (hbl : bl.length ≤ 48) (hz48 : z.2.1.length ≤ 48) (hg : gOk F us fl bl z σ) (hm : cGm S fl bl z σ C) {r s : Nat → Bool} (k : cRs S r s) (hr : cRw (lc i) (H i) S u) (hok : vOk F us z (lc i) t u) (ho : x.1 = 31) (k1 : (u (12 + H i - 1)).1 = 1) (h1 : 1 ≤ H i) {st : Nat} (hst : x.2.2.1 = (st : Int)) (hs : st < z.2.1.length) (hte : tEl (sTp z st) = x.2.1) (ht : x.2.1 = 1 ∨ 2 ≤ x.2.1) (hw1 : 0 ≤ (u (12 + H i - 1)).2.1.2 → vl1 F us z 1 (wR (max (u (12 + H i - 1)).2.1.1 0, (u (12 + H i - 1)).2.1.2))) (hw2 : vl1 F us z x.2.1 (wNl x.2.1)) : ∃ S' C', ja_X4_makesArray 92 (i : Int) S = some (bi (pGo G σ x (H i) u).isSome, S') ∧ kFr S S' ∧ cRs S' (nlR (decide ((u (12 + H i - 1)).2.1.1 < 0)) 2 r) (nlR (decide ((u (12 + H i - 1)).2.1.1 < 0)) 50 s) ∧ (∀ v, pGo G σ x (H i) u = some v → cRw (lc i) (H i) S' v) ∧ cGm S' fl bl z (arG σ st (u (12 + H i - 1)).2.1 x.2.1) C' ∧ gCg th n σ (arG σ st (u (12 + H i - 1)).2.1 x.2.1) C C' := by
  have hi : i < 1024 := by
    have := (List.getElem?_eq_some_iff.mp hx).1
    have := hz.1
    omega
  have hH8 := (hv.2.2.2.2 i).2
  have hcd := hv.2.2.1.2.2.2.2.2.2.2.2.1.1.2 i x hx
  have top := c_top0 hr hH8
  have r1 : rel (lc i) (H i) (12 + H i - 1) ∧ 12 + H i - 1 < 20 := rel_top (n := 0) (by omega) hH8
  have sl := hr.2.2 _ r1.1
  have o1 := (wOk_1 (hok.1 (12 + H i - 1)) k1).1
  have i1 := rOk_iR hT o1
  obtain ⟨a, hA⟩ : ∃ a, a = (u (12 + H i - 1)).2.1 := ⟨_, rfl⟩
  rw [← hA] at o1 i1 hw1
  have slv : S.1 98 (12 + H i - 1) = pk a := by rw [hA]; exact sl.2.2.1 k1
  have epg : pGo G σ x (H i) u = if a.2 < 0 then none else some (qUp u (12 + H i - 1) (wFc (wS (onS st)) (oOn (u (12 + H i - 1)).2.2.2.1 36))) := by
    unfold pGo
    rw [if_neg (by omega), if_neg (by omega), if_neg (by omega), if_neg (by omega), if_neg (by omega), if_neg (by omega), if_neg (by omega), if_neg (by omega), if_neg (by omega), if_neg (by omega), if_neg (by omega), if_pos ho, hst, Int.toNat_natCast, ← hA]
  rw [epg, ← hA]
  obtain ⟨nb, hnb⟩ : ∃ nb, nb = decide (x.2.1 = 1) := ⟨_, rfl⟩
  have hb76 : ∀ (T : nk_S) (r' s' : Nat → Bool), eFr S T → cRs T r' s' → cRw (lc i) (H i) T u → ∃ S' C', ja_X4_makesArray_b76 92 (pk a) ((oN (u (12 + H i - 1)).2.2.2.1 : Int) - 1) (st : Int) (bi nb) T = some (bi (if a.2 < 0 then none else some (qUp u (12 + H i - 1) (wFc (wS (onS st)) (oOn (u (12 + H i - 1)).2.2.2.1 36)))).isSome, S') ∧ kFr S S' ∧ cRs S' r' s' ∧ (∀ v, (if a.2 < 0 then none else some (qUp u (12 + H i - 1) (wFc (wS (onS st)) (oOn (u (12 + H i - 1)).2.2.2.1 36)))) = some v → cRw (lc i) (H i) S' v) ∧ cGm S' fl bl z (arG σ st a x.2.1) C' ∧ gCg th n σ (arG σ st a x.2.1) C C' := by
    intro T r' s' hT' hk hrT
    unfold ja_X4_makesArray_b76
    rw [hi_e i1, bd_some]
    by_cases c : a.2 < 0
    · have ea : arG σ st a x.2.1 = σ := by unfold arG; rw [if_pos c]
      rw [if_neg (by omega), if_pos c, ea]
      exact ⟨T, C, rfl, kFr_e hT', hk, (fun v q => by cases q), cGm_e hT' hm, gCg_rfl⟩
    · have ea : arG σ st a x.2.1 = gAd (gAd σ (2646 + st) (wR (max a.1 0, a.2))) (2592 + st) (wNl x.2.1) := by unfold arG; rw [if_neg c]
      rw [if_pos (by omega), if_neg c, ea]
      have hw1' := hw1 (by omega)
      have i2 : iR (max a.1 0) := by have := i1.1; unfold iR at this ⊢; omega
      have hpk : ∀ S, ja_X5_pack (max a.1 0) a.2 S = some (pk (max a.1 0, a.2), S) := fun S => by unfold ja_X5_pack; rw [pk_e i2]
      obtain ⟨T1, C1, l1, l2, l3, l4⟩ := c_addL (th := th) (n := n) hT hF hfl hz48 hg (cGm_e hT' hm) (s := st) (by omega) hw1' (x := pk (max a.1 0, a.2)) rfl
      have hg1 : gOk F us fl bl z (gAd σ (2646 + st) (wR (max a.1 0, a.2))) := gOk_ad hg (by omega) (by rw [zT_l (by omega)]; exact hw1') (by rw [zT_l (by omega)]; exact Or.inl rfl)
      obtain ⟨T2, C2, e1, e2, e3, e4⟩ := c_addE (th := th) (n := n) hT hF hfl hz48 hg1 l3 hs (by rw [hte]; exact ht) (w := wNl x.2.1) (by rw [hte]; exact hw2) (by rw [hte]; exact cVl_nl ht)
      rw [hte] at e1
      have f2 := sFr_trans l2 e2
      obtain ⟨T3, d1, d2, d3⟩ := c_drop (cRw_s f2 hrT) (n := 1) h1 hH8
      have d1' : ja_X7_drop 93 1 T2 = some (0, T3) := d1
      obtain ⟨f, hf, hfs⟩ : ∃ f, (if 0 ≤ (oN (u (12 + H i - 1)).2.2.2.1 : Int) - 1 then ja_X4_makesArray_b170 93 (nk_lshl 1 (st : Int)) (nk_lor 9007199254740992 (nk_lshl 1 (nk_w (36 + ((oN (u (12 + H i - 1)).2.2.2.1 : Int) - 1))))) T3 else ja_X4_makesArray_b170 93 (nk_lshl 1 (st : Int)) 9007199254740992 T3) = ja_X4_makesArray_b170 93 (nk_lshl 1 (st : Int)) f T3 ∧ cSt (nk_lshl 1 (st : Int)) f (wFc (wS (onS st)) (oOn (u (12 + H i - 1)).2.2.2.1 36)) := by
        have hc1 : cV (nk_lshl 1 (st : Int)) (onS st) := cV_one (by omega)
        cases hc : (u (12 + H i - 1)).2.2.2.1 with
        | none => exact ⟨9007199254740992, by rw [show oN none = 0 from rfl, if_neg (by decide)], cSt_S hc1⟩
        | some c' =>
          have hc12 := (hok.1 _).1 c' hc
          have e : ((oN (some c') : Nat) : Int) - 1 = (c' : Int) := by show ((c' + 1 : Nat) : Int) - 1 = _; omega
          have h36 : 36 + c' < 48 := by omega
          have hp : 0 ≤ (c' : Int) := by omega
          have ew : nk_w (36 + (c' : Int)) = ((36 + c' : Nat) : Int) := by rw [nk_w_id (by omega) (by omega)]; omega
          refine ⟨nk_lor 9007199254740992 (nk_lshl 1 ((36 + c' : Nat) : Int)), by rw [e, if_pos hp, ew], fBt_So h36, (fun q => by cases q), (fun q => by cases q), fun _ => hc1⟩
      obtain ⟨T4, p1, p2, p3⟩ := c_push d3 (by omega) hfs
      have e127 : ∀ v7, v7 = (if x.2.1 = 1 then 0 else 4611686018427387904 : Int) → ja_X4_makesArray_b127 92 ((oN (u (12 + H i - 1)).2.2.2.1 : Int) - 1) (st : Int) (bi nb) 100 (st : Int) v7 T1 = some (1, T4) := by
        intro v7 hv7
        unfold ja_X4_makesArray_b127
        rw [hv7, hnb, e1, bd_some, jc_92_2, d1', bd_some, hf]
        unfold ja_X4_makesArray_b170
        rw [p1, bd_some]
      refine ⟨T4, C2, ?_, kFr_trans (kFr_e hT') (kFr_trans (kFr_s f2) (kFr_trans (kFr_e (eFr_w d2)) (kFr_e (eFr_w p2)))), cRs_w p2 (cRs_w d2 (cRs_s f2 hk)), fun v q => ?_, cGm_w p2 (cGm_w d2 e3), gCg_trans l4 e4⟩
      · rw [lo_e i1, bd_some, mxI, bd_some, hi_e i1, bd_some, hpk, bd_some, jc_92_3, l1, bd_some, hnb]
        by_cases c1 : x.2.1 = 1
        · rw [decide_eq_true c1, if_neg (show ¬ bi true = 0 by decide)]
          have := e127 0 (by rw [if_pos c1])
          rw [hnb, decide_eq_true c1] at this
          exact this
        · rw [decide_eq_false c1, if_pos (show bi false = 0 from rfl)]
          have := e127 4611686018427387904 (by rw [if_neg c1])
          rw [hnb, decide_eq_false c1] at this
          exact this
      · cases q
        rw [show H i - 1 + 1 = H i by omega, show 12 + (H i - 1) = 12 + H i - 1 by omega] at p3
        exact p3
  have hb62 : ∃ S' C', ja_X4_makesArray_b62 92 (pk a) ((oN (u (12 + H i - 1)).2.2.2.1 : Int) - 1) (st : Int) (bi nb) S = some (bi (if a.2 < 0 then none else some (qUp u (12 + H i - 1) (wFc (wS (onS st)) (oOn (u (12 + H i - 1)).2.2.2.1 36)))).isSome, S') ∧ kFr S S' ∧ cRs S' (nlR (decide (a.1 < 0)) 2 r) (nlR (decide (a.1 < 0)) 50 s) ∧ (∀ v, (if a.2 < 0 then none else some (qUp u (12 + H i - 1) (wFc (wS (onS st)) (oOn (u (12 + H i - 1)).2.2.2.1 36)))) = some v → cRw (lc i) (H i) S' v) ∧ cGm S' fl bl z (arG σ st a x.2.1) C' ∧ gCg th n σ (arG σ st a x.2.1) C C' := by
    unfold ja_X4_makesArray_b62
    rw [lo_e i1, bd_some]
    by_cases c : a.1 < 0
    · rw [if_neg (by omega), decide_eq_true c]
      obtain ⟨T, t1, t2, t3, t4⟩ := c_raise k hr (e := 2) (by decide)
      have t1' : ja_X4_raise 92 2 S = some (0, T) := t1
      rw [t1', bd_some]
      exact hb76 T _ _ t2 t3 t4
    · rw [if_pos (by omega), decide_eq_false c]
      exact hb76 S _ _ eFr_rfl k hr
  unfold ja_X4_makesArray
  rw [jc_92_2, top, bd_some, if_pos (in_i (N := 20) (by omega)), lt_eq, jc_93_4, jc_93_5, Int.toNat_natCast, c_copy (hok.1 _).1 sl.1, bd_some, if_pos (in_i (N := 1024) (by omega)), hv.1, (jc_Qp hQ).2.2.1, (jc_Qp hQ).2.2.2.1, Int.toNat_natCast, hcd.2.1, hcd.2.2.1, hst, slv, lt_eq]
  by_cases c1 : x.2.1 = 1
  · rw [if_pos c1]
    rw [hnb, decide_eq_true c1] at hb62
    exact hb62
  · rw [if_neg c1]
    rw [hnb, decide_eq_false c1] at hb62
    exact hb62
end CMK
