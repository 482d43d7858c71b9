/-! The class puts into fields. -/
/-- the table when a value is put into a field of sites -/
def ptG (w : Nat → Bool) (f : Nat) (v : jW) (σ : jG) : Nat → jG
  | 0 => σ
  | s + 1 => if w s = true then gAd (ptG w f v σ s) (s * 48 + f) v else ptG w f v σ s
section CPT
variable {F : Int → Prop} {S : nk_S} {Q : Nat} {p : jP} {H lc : Nat → Nat} {us : List Int} {fl : List (List Int × Nat × Int)} {bl : List jB} {z : jL} {t : Nat → Int} {u : jQ} {i : Nat} {x : jC} {G : jZ} {σ : jG} {C : jH} {l h : Nat} {th : Nat → Int} {n : Nat}
theorem c_putL (hQ : Q = 13 ∨ Q = 49) (hT : thG F (zDn G) (zUp G)) (hF : thN F th n) (hv0 : cPv S Q p H lc) (hz48 : z.2.1.length ≤ 48) (hfl : fl.length ≤ 48) (hzp : z = p.2.2.2.2.1) {w : Nat → Bool} {v : Int} (hx : cV v w) {f : Nat} {y : List Int × Nat × Int} (hy : fl[f]? = some y) (ht : y.2.2 = 1 ∨ 2 ≤ y.2.2) {q : jW} (hq : vl1 F us z y.2.2 q) {a : Nat} (ha : a + 1 < 20) (hval : cVl y.2.2 (S.1 98 (a + 1)) (some q)) (l8 : Int) : ∀ (d s m : Nat) (T : nk_S) (C1 : jH), s + d = z.2.1.length → d < m → sFr S T → gOk F us fl bl z (ptG w f q σ s) → cGm T fl bl z (ptG w f q σ s) C1 → gCg th n σ (ptG w f q σ s) C C1 → ∃ S' C', ja_X4_usesField_L86 m 92 36 (f : Int) (bi (decide (y.2.2 = 1))) (a : Int) v l8 (s : Int) T = (nk_bd (ja_X7_drop 93 2 S') fun _ S4 => some (1, S4)) ∧ sFr S S' ∧ cGm S' fl bl z (ptG w f q σ z.2.1.length) C' ∧ gCg th n σ (ptG w f q σ z.2.1.length) C C' := by
  have hf := fl_48 hfl hy
  intro d
  induction d with
  | zero =>
    intro s m T C1 h1 h2 hfT hg hm hcg
    obtain ⟨m, rfl⟩ : ∃ q, m = q + 1 := ⟨m - 1, by omega⟩
    have hv := cPv_k hQ (kFr_s hfT) hv0
    have hc : T.1 Q 10 = (z.2.1.length : Int) := by rw [hzp]; exact hv.2.2.1.2.2.2.2.2.2.2.2.1.2.1.1
    rw [Nat.add_zero] at h1
    refine ⟨T, C1, ?_, hfT, by rw [← h1]; exact hm, by rw [← h1]; exact hcg⟩
    show ja_X4_usesField_b86 (ja_X4_usesField_L86 m) 92 36 (f : Int) (bi (decide (y.2.2 = 1))) (a : Int) v l8 (s : Int) T = _
    unfold ja_X4_usesField_b86
    rw [hv.1, hc, if_pos (by omega), if_neg (by decide), jc_92_2]
  | succ d ih =>
    intro s m T C1 h1 h2 hfT hg hm hcg
    obtain ⟨m, rfl⟩ : ∃ q, m = q + 1 := ⟨m - 1, by omega⟩
    have hv := cPv_k hQ (kFr_s hfT) hv0
    have hc : T.1 Q 10 = (z.2.1.length : Int) := by rw [hzp]; exact hv.2.2.1.2.2.2.2.2.2.2.2.1.2.1.1
    have e0 : ja_X4_usesField_L86 (m + 1) 92 36 (f : Int) (bi (decide (y.2.2 = 1))) (a : Int) v l8 (s : Int) T = ja_X4_usesField_b143 (ja_X4_usesField_L86 m) 92 36 (f : Int) (bi (decide (y.2.2 = 1))) (a : Int) v l8 (s : Int) T := by
      show ja_X4_usesField_b86 (ja_X4_usesField_L86 m) 92 36 (f : Int) (bi (decide (y.2.2 = 1))) (a : Int) v l8 (s : Int) T = _
      unfold ja_X4_usesField_b86
      rw [hv.1, hc, if_neg (by omega)]
      by_cases c : nk_land (nk_lushr v (s : Int)) 1 = 0
      · rw [if_pos c]
      · rw [if_neg c, if_neg (by decide)]
    rw [e0]
    unfold ja_X4_usesField_b143
    have hb := c_bitAt hx (show s < 64 by omega)
    have hs48 : s < 48 := by omega
    have es : ptG w f q σ (s + 1) = if w s = true then gAd (ptG w f q σ s) (s * 48 + f) q else ptG w f q σ s := rfl
    rw [w_nat1 (by omega)]
    cases hw : w s with
    | false =>
      rw [hw, if_neg (by decide)] at es
      rw [if_pos (hb.mpr hw), lt_eq]
      exact ih (s + 1) m T C1 (by omega) (by omega) hfT (by rw [es]; exact hg) (by rw [es]; exact hm) (by rw [es]; exact hcg)
    | true =>
      rw [hw, if_pos rfl] at es
      have hzt := zT_f (bl := bl) (z := z) (show s < 54 by omega) hf hy
      have hk : s * 48 + f < 2748 := by omega
      have ha20 : ((a + 1 : Nat) : Int) < 20 := by omega
      obtain ⟨T1, C2, a1, a2, a3, a4⟩ := c_addF1 (th := th) (n := n) hT hF hfl hz48 hg hm hs48 hy ht hq (x := T.1 98 (a + 1)) (by rw [hfT.2 98 (by omega)]; exact hval)
      have hg1 := gOk_ad hg (k := s * 48 + f) (w := q) hk (by rw [hzt]; exact hq) (by rw [hzt]; exact ht)
      rw [if_neg (fun q => by rw [hb.mp q] at hw; cases hw), w_nat1 (by omega), if_pos (in_i (N := 20) ha20), jc_92_2, jc_92_3, jc_93_4, Int.toNat_natCast, a1, bd_some, lt_eq]
      exact ih (s + 1) m T1 C2 (by omega) (by omega) (sFr_trans hfT a2) (by rw [es]; exact hg1) (by rw [es]; exact a3) (by rw [es]; exact gCg_trans hcg a4)
theorem c_put (hQ : Q = 13 ∨ Q = 49) (hT : thG F (zDn G) (zUp G)) (hF : thN F th n) (hv : cPv S Q p H lc) (hz : oJL p.2.2.2.2.1) (hx : p.2.2.2.2.1.1[i]? = some x) (hflp : fl = p.2.2.1) (hfl : fl.length ≤ 48) (hz48 : z.2.1.length ≤ 48) (hzp : z = p.2.2.2.2.1) (hg : gOk F us fl bl z σ) (hm : cGm S fl bl z σ C) {r s : Nat → Bool} (k : cRs S r s) (hr : cRw (lc i) (H i) S u) (hok : vOk F us z (lc i) t u) (ho : x.1 = 36) (k1 : (u (12 + H i - 2)).1 = 2) (h2 : 2 ≤ H i) {f : Nat} {y : List Int × Nat × Int} (hxf : x.2.1 = (f : Int)) (hy : fl[f]? = some y) (ht : y.2.2 = 1 ∨ 2 ≤ y.2.2) (hq : vl1 F us z y.2.2 (wBr (u (12 + H i - 1)))) : ∃ S' C', ja_X4_usesField 92 (i : Int) 36 S = some (bi (pGo G σ x (H i) u).isSome, S') ∧ kFr S S' ∧ cRs S' (nlR ((u (12 + H i - 2)).2.2.1 62) 0 r) (nlR ((u (12 + H i - 2)).2.2.1 62) 48 s) ∧ (∀ v, pGo G σ x (H i) u = some v → cRw (lc i) (H i - 2) S' v) ∧ cGm S' fl bl z (if (pGo G σ x (H i) u).isSome = true then ptG (u (12 + H i - 2)).2.2.1 f (wBr (u (12 + H i - 1))) σ z.2.1.length else σ) C' ∧ gCg th n σ (if (pGo G σ x (H i) u).isSome = true then ptG (u (12 + H i - 2)).2.2.1 f (wBr (u (12 + H i - 1))) σ z.2.1.length else σ) C C' := by
  have hi : i < 1024 := by
    have := (List.getElem?_eq_some_iff.mp hx).1
    have := hz.1
    omega
  have hH8 := (hv.2.2.2.2 i).2
  have top : ja_X7_fromTop 93 1 S = some (((12 + H i - 2 : Nat) : Int), S) := by
    have := c_top hr (n := 1) (by omega) hH8
    rw [show 12 + H i - 1 - 1 = 12 + H i - 2 by omega] at this
    exact this
  have r2 : rel (lc i) (H i) (12 + H i - 2) ∧ 12 + H i - 2 < 20 := by
    have := rel_top (l := lc i) (n := 1) (show 1 < H i by omega) hH8
    rw [show 12 + H i - 1 - 1 = 12 + H i - 2 by omega] at this
    exact this
  have epg : pGo G σ x (H i) u = pDr u (12 + H i - 2) := by
    unfold pGo
    rw [if_neg (by omega), if_neg (by omega), if_neg (by omega), if_neg (by omega), if_neg (by omega), if_neg (by omega), if_neg (by omega), if_neg (by omega), if_neg (by omega), if_neg (by omega), if_neg (by omega), if_neg (by omega), if_neg (by omega), if_neg (by omega), if_neg (by omega), if_neg (by omega), if_pos ho]
  obtain ⟨S1, s1, s2, s3, s4, s5⟩ := c_deref k hr hok r2 k1
  rw [c_fldB hQ hv hx hi hflp hfl hxf hy 36 (Or.inr rfl), if_neg (by decide), epg]
  unfold ja_X4_usesField_b48
  rw [top, bd_some, s1, bd_some]
  cases hd : pDr u (12 + H i - 2) with
  | none =>
    rw [if_pos (show bi (none : Option jQ).isSome = 0 from rfl), if_neg (show ¬ (none : Option jQ).isSome = true by decide)]
    exact ⟨S1, C, rfl, kFr_e s2, s4, (fun v q => by cases q), cGm_e s2 hm, gCg_rfl⟩
  | some v =>
    rw [if_neg (bi_some rfl), if_pos (in_i (N := 20) (by omega)), lt_eq, jc_92_2, jc_93_4, Int.toNat_natCast, if_pos (show (some v).isSome = true from rfl)]
    have rv := s5 v hd
    obtain ⟨v1, v2⟩ := pDr_v hok (by omega) k1 hd
    have stv := rv.2.2 _ r2.1
    rw [v2 _ (by omega)] at stv
    have stt := rv.2.2 (12 + H i - 1) (by unfold rel; omega)
    rw [v2 _ (by omega)] at stt
    obtain ⟨q, q1, q2⟩ := x8_no (decide (y.2.2 = 1)) S1
    rw [q1, bd_some]
    obtain ⟨bm, hbm⟩ := big_ge 100 (by decide)
    obtain ⟨T, C', a1, a2, a3, a4⟩ := c_putL (σ := σ) (C := C) (th := th) (n := n) hQ hT hF (cPv_e hQ s2 hv) hz48 hfl hzp (stv.2.2.2 k1) hy ht hq (a := 12 + H i - 2) (by omega) (by rw [show 12 + H i - 2 + 1 = 12 + H i - 1 by omega]; exact cVl_br ht hq stt) q z.2.1.length 0 nk_big S1 C (by omega) (by omega) sFr_rfl hg (cGm_e s2 hm) gCg_rfl
    obtain ⟨S2, d1, d2, d3⟩ := c_drop (cRw_s a2 rv) (n := 2) h2 hH8
    have d1' : ja_X7_drop 93 2 T = some (0, S2) := d1
    have a1' : ja_X4_usesField_L86 nk_big 92 36 (f : Int) (bi (decide (y.2.2 = 1))) ((12 + H i - 2 : Nat) : Int) (S1.1 98 (12 + H i - 2)) q 0 S1 = _ := a1
    rw [a1', d1', bd_some]
    refine ⟨S2, C', rfl, kFr_trans (kFr_e s2) (kFr_trans (kFr_s a2) (kFr_e (eFr_w d2))), cRs_w d2 (cRs_s a2 s4), fun v' q' => ?_, cGm_w d2 a3, a4⟩
    cases q'
    exact d3
end CPT
