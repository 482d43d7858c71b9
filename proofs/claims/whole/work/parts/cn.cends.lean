/-! The class ends bodies, and makes objects. -/
section CND
variable {F : Int → Prop} {S : nk_S} {Q : Nat} {p : jP} {H lc : Nat → Nat} {us : List Int} {fl : List (List Int × Nat × Int)} {bl : List jB} {z : jL} {t : Nat → Int} {u : jQ} {i : Nat} {x : jC} {G : jZ} {σ : jG} {C : jH} {l h : Nat} {th : Nat → Int} {n : Nat}
/-- a slot as a value of the table -/
theorem cVl_br {t : Int} {w : jW} {v f : Int} (ht : t = 1 ∨ 2 ≤ t) (hw : vl1 F us z t (wBr w)) (hs : cSt v f w) : cVl t v (some (wBr w)) := by
  rcases ht with ht | ht
  · subst ht
    exact cVl_n.mpr (hs.2.2.1 (hw.1.2.1.1 rfl))
  · exact (cVl_r ht).mpr (hs.2.2.2 (hw.1.2.1.2 ht).1)
theorem c_gives (hQ : Q = 13 ∨ Q = 49) (hT : thG F (zDn G) (zUp G)) (hF : thN F th n) (hv : cPv S Q p H lc) (hz : oJL p.2.2.2.2.1) (hx : p.2.2.2.2.1.1[i]? = some x) (hfl : fl.length ≤ 48) (hbl : bl.length ≤ 48) (hz48 : z.2.1.length ≤ 48) (hbp : bl = p.2.2.2.1) (hg : gOk F us fl bl z σ) (hm : cGm S fl bl z σ C) (hr : cRw (lc i) (H i) S u) (h1 : 1 ≤ H i) {y : jB} (hb : bl[x.2.2.2.1]? = some y) (ht : y.rs = 1 ∨ 2 ≤ y.rs) (hw : vl1 F us z y.rs (wBr (u (12 + H i - 1)))) : ∃ S' C', ja_X4_endsBody 92 (i : Int) 42 S = some (0, S') ∧ sFr S S' ∧ cGm S' fl bl z (gEn (gAd σ (2700 + x.2.2.2.1) (wBr (u (12 + H i - 1)))) x.2.2.2.1) C' ∧ gCg th n σ (gEn (gAd σ (2700 + x.2.2.2.1) (wBr (u (12 + H i - 1)))) x.2.2.2.1) C C' := by
  have hi : i < 1024 := by
    have := (List.getElem?_eq_some_iff.mp hx).1
    have := hz.1
    omega
  have hb48 := bl_48 hbl hb
  have hH8 := (hv.2.2.2.2 i).2
  have hcd := hv.2.2.1.2.2.2.2.2.2.2.2.1.1.2 i x hx
  have hrs : S.1 (Q + 15) x.2.2.2.1 = y.rs := by
    rw [hbp] at hb
    exact (hv.2.2.1.2.2.2.2.2.1 _ _ hb).2.2.2.2.1
  have top := c_top0 hr hH8
  have r1 : rel (lc i) (H i) (12 + H i - 1) ∧ 12 + H i - 1 < 20 := rel_top (n := 0) (by omega) hH8
  have sl := hr.2.2 _ r1.1
  obtain ⟨S', C', s1, s2, s3, s4⟩ := c_endG (th := th) (n := n) hT hF hbl hfl hz48 hg hm hb ht hw (cVl_br ht hw sl)
  refine ⟨S', C', ?_, s2, s3, s4⟩
  unfold ja_X4_endsBody
  rw [if_pos (in_i (N := 1024) (by omega)), hv.1, (jc_Qp hQ).2.2.2.2.2.1, Int.toNat_natCast, hcd.2.2.2.2, lt_eq, if_pos rfl]
  unfold ja_X4_endsBody_b21
  rw [if_neg (by decide), jc_92_2, top, bd_some, if_pos (in_i (N := 20) (by omega)), jc_93_4, jc_92_3, Int.toNat_natCast]
  unfold ja_X4_endsBody_b53
  rw [if_neg (by decide), if_pos (in_i (N := 48) (by omega)), hv.1, (jc_Q2 hQ).1, (jc_Q9 hQ).2.2.2.2.2.1, Int.toNat_natCast, hrs]
  by_cases c : y.rs = 1
  · rw [decide_eq_true c] at s1
    have s1' : ja_X8_addEnd 100 (x.2.2.2.1 : Int) (S.1 98 (12 + H i - 1)) 1 S = some (0, S') := s1
    rw [if_pos c]
    unfold ja_X4_endsBody_b79
    rw [s1', bd_some]
  · rw [decide_eq_false c] at s1
    have s1' : ja_X8_addEnd 100 (x.2.2.2.1 : Int) (S.1 98 (12 + H i - 1)) 0 S = some (0, S') := s1
    rw [if_neg c]
    unfold ja_X4_endsBody_b78 ja_X4_endsBody_b79
    rw [s1', bd_some]
theorem c_backs (hQ : Q = 13 ∨ Q = 49) (hv : cPv S Q p H lc) (hz : oJL p.2.2.2.2.1) (hx : p.2.2.2.2.1.1[i]? = some x) (hfl : fl.length ≤ 48) (hbl : bl.length ≤ 48) (hz48 : z.2.1.length ≤ 48) (hm : cGm S fl bl z σ C) {y : jB} (hb : bl[x.2.2.2.1]? = some y) (ht : y.rs ≠ 1) : ∃ S' C', ja_X4_endsBody 92 (i : Int) 43 S = some (0, S') ∧ sFr S S' ∧ cGm S' fl bl z (gEn σ x.2.2.2.1) C' ∧ gCg th n σ (gEn σ x.2.2.2.1) C C' := by
  have hi : i < 1024 := by
    have := (List.getElem?_eq_some_iff.mp hx).1
    have := hz.1
    omega
  have hcd := hv.2.2.1.2.2.2.2.2.2.2.2.1.1.2 i x hx
  obtain ⟨S', C', s1, s2, s3, s4⟩ := c_endB (th := th) (n := n) hbl hfl hz48 hm hb ht
  refine ⟨S', C', ?_, s2, s3, s4⟩
  unfold ja_X4_endsBody
  rw [if_pos (in_i (N := 1024) (by omega)), hv.1, (jc_Qp hQ).2.2.2.2.2.1, Int.toNat_natCast, hcd.2.2.2.2, lt_eq, if_neg (by decide)]
  unfold ja_X4_endsBody_b21
  rw [if_pos rfl]
  unfold ja_X4_endsBody_b53
  rw [if_pos rfl]
  unfold ja_X4_endsBody_b78 ja_X4_endsBody_b79
  rw [jc_92_3, s1, bd_some]
/-- the fields of a new object, up to one -/
def nwG (us : List Int) (fl : List (List Int × Nat × Int)) (st : Nat) (c : Nat) (σ : jG) : Nat → jG
  | 0 => σ
  | f + 1 => match fl[f]? with
    | none => nwG us fl st c σ f
    | some y => if anc us c y.2.1 = true then gAd (nwG us fl st c σ f) (st * 48 + f) (wNl y.2.2) else nwG us fl st c σ f
theorem c_newL (hQ : Q = 13 ∨ Q = 49) (hT : thG F (zDn G) (zUp G)) (hF : thN F th n) (hv0 : cPv S Q p H lc) (hu : uOk us) (h32 : us.length ≤ 32) (hup : us = p.2.1) (hflp : fl = p.2.2.1) (hz : oJL p.2.2.2.2.1) (hx : p.2.2.2.2.1.1[i]? = some x) (hfl : fl.length ≤ 48) (hz48 : z.2.1.length ≤ 48) {st : Nat} (hst : st < 48) {c : Nat} (hc : c < us.length) (hxc : x.2.1 = (c : Int)) (hty : ∀ (f : Nat) (y : List Int × Nat × Int), fl[f]? = some y → y.2.1 < 32 ∧ (y.2.2 = 1 ∨ 2 ≤ y.2.2) ∧ vl1 F us z y.2.2 (wNl y.2.2)) (hr0 : cRw l h S u) (h8 : h < 8) : ∀ (d f m : Nat) (T : nk_S) (C1 : jH), f + d = fl.length → d < m → sFr S T → gOk F us fl bl z (nwG us fl st c σ f) → cGm T fl bl z (nwG us fl st c σ f) C1 → gCg th n σ (nwG us fl st c σ f) C C1 → ∃ S' C', ja_X4_makesObject_L21 m 92 (i : Int) (Q + 1) (st : Int) (f : Int) T = some (1, S') ∧ kFr S S' ∧ (∀ r s, cRs S r s → cRs S' r s) ∧ cRw l (h + 1) S' (qUp u (12 + h) (wS (onS st))) ∧ cGm S' fl bl z (nwG us fl st c σ fl.length) C' ∧ gCg th n σ (nwG us fl st c σ fl.length) C C' := by
  have hi : i < 1024 := by
    have := (List.getElem?_eq_some_iff.mp hx).1
    have := hz.1
    omega
  intro d
  induction d with
  | zero =>
    intro f m T C1 e1 e2 hf hg hm hcg
    obtain ⟨m, rfl⟩ : ∃ q, m = q + 1 := ⟨m - 1, by omega⟩
    have hv := cPv_k hQ (kFr_s hf) hv0
    have hfc : T.1 (Q + 1) 4 = (fl.length : Int) := by rw [hflp]; exact hv.2.2.1.2.1
    obtain ⟨S', s1, s2, s3⟩ := c_push (cRw_s hf hr0) h8 (cSt_S (cV_one (show st < 64 by omega)))
    rw [Nat.add_zero] at e1
    rw [← e1]
    refine ⟨S', C1, ?_, kFr_trans (kFr_s hf) (kFr_e (eFr_w s2)), fun r s k => cRs_w s2 (cRs_s hf k), s3, cGm_w s2 hm, hcg⟩
    show ja_X4_makesObject_b21 (ja_X4_makesObject_L21 m) 92 (i : Int) (Q + 1) (st : Int) (f : Int) T = _
    unfold ja_X4_makesObject_b21
    rw [hfc, if_pos (by omega), jc_92_2, s1, bd_some]
  | succ d ih =>
    intro f m T C1 e1 e2 hf hg hm hcg
    obtain ⟨m, rfl⟩ : ∃ q, m = q + 1 := ⟨m - 1, by omega⟩
    have hv := cPv_k hQ (kFr_s hf) hv0
    have hfc : T.1 (Q + 1) 4 = (fl.length : Int) := by rw [hflp]; exact hv.2.2.1.2.1
    obtain ⟨y, hy⟩ : ∃ y, fl[f]? = some y := ⟨fl[f]'(by omega), List.getElem?_eq_getElem _⟩
    obtain ⟨y1, y2, y3⟩ := hty f y hy
    have hcell : T.1 (Q + 6) f = (y.2.1 : Int) ∧ T.1 (Q + 7) f = y.2.2 := by
      have hy' := hy
      rw [hflp] at hy'
      exact hv.2.2.1.2.2.1 f y hy'
    have hcd := hv.2.2.1.2.2.2.2.2.2.2.2.1.1.2 i x hx
    have hab := c_ab hQ (show cU T Q us by rw [hup]; exact hv.2.2.1.1) hu h32 hc y1
    have e0 : ja_X4_makesObject_L21 (m + 1) 92 (i : Int) (Q + 1) (st : Int) (f : Int) T = ja_X4_makesObject_b21 (ja_X4_makesObject_L21 m) 92 (i : Int) (Q + 1) (st : Int) (f : Int) T := rfl
    rw [e0]
    unfold ja_X4_makesObject_b21
    rw [hfc, if_neg (by omega), if_pos (in_i (N := 48) (by omega)), if_pos (in_i (N := 1024) (by omega)), (jc_Qf hQ).2.1, (jc_Qf hQ).2.2.1, hv.1, (jc_Qp hQ).2.2.1, Int.toNat_natCast, Int.toNat_natCast, hcell.1, hcd.2.1, hxc, hab, bd_some, hcell.2, w_nat1 (by omega)]
    cases ha : anc us c y.2.1 with
    | false =>
      rw [if_pos (show bi false = 0 from rfl), lt_eq]
      have e : nwG us fl st c σ (f + 1) = nwG us fl st c σ f := by
        show (match fl[f]? with
          | none => nwG us fl st c σ f
          | some y => if anc us c y.2.1 = true then gAd (nwG us fl st c σ f) (st * 48 + f) (wNl y.2.2) else nwG us fl st c σ f) = _
        rw [hy]
        show (if anc us c y.2.1 = true then _ else _) = _
        rw [ha, if_neg (by decide)]
      exact ih (f + 1) m T C1 (by omega) (by omega) hf (by rw [e]; exact hg) (by rw [e]; exact hm) (by rw [e]; exact hcg)
    | true =>
      rw [if_neg (show ¬ bi true = 0 by decide)]
      have e : nwG us fl st c σ (f + 1) = gAd (nwG us fl st c σ f) (st * 48 + f) (wNl y.2.2) := by
        show (match fl[f]? with
          | none => nwG us fl st c σ f
          | some y => if anc us c y.2.1 = true then gAd (nwG us fl st c σ f) (st * 48 + f) (wNl y.2.2) else nwG us fl st c σ f) = _
        rw [hy]
        show (if anc us c y.2.1 = true then _ else _) = _
        rw [ha, if_pos rfl]
      have hf48 := fl_48 hfl hy
      obtain ⟨T1, C2, a1, a2, a3, a4⟩ := c_addF1 (th := th) (n := n) hT hF hfl hz48 hg hm hst hy y2 y3 (cVl_nl y2)
      have hg1 := gOk_ad hg (k := st * 48 + f) (w := wNl y.2.2) (by omega) (by rw [zT_f (by omega) hf48 hy]; exact y3) (by rw [zT_f (by omega) hf48 hy]; exact y2)
      have hgo := ih (f + 1) m T1 C2 (by omega) (by omega) (sFr_trans hf a2) (by rw [e]; exact hg1) (by rw [e]; exact a3) (by rw [e]; exact gCg_trans hcg a4)
      by_cases c1 : y.2.2 = 1
      · rw [if_pos c1]
        rw [decide_eq_true c1, if_pos c1] at a1
        have a1' : ja_X8_addField 100 (st : Int) (f : Int) 0 1 T = some (0, T1) := a1
        unfold ja_X4_makesObject_b69 ja_X4_makesObject_b90
        rw [if_neg (by decide), jc_92_3, a1', bd_some, w_nat1 (by omega), lt_eq]
        exact hgo
      · rw [if_neg c1]
        rw [decide_eq_false c1, if_neg c1] at a1
        have a1' : ja_X8_addField 100 (st : Int) (f : Int) 4611686018427387904 0 T = some (0, T1) := a1
        unfold ja_X4_makesObject_b69 ja_X4_makesObject_b90
        rw [if_pos rfl, jc_92_3, a1', bd_some, w_nat1 (by omega), lt_eq]
        exact hgo
end CND
