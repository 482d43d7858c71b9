/-! The class uses fields. -/
section CFD
variable {F : Int → Prop} {S : nk_S} {Q : Nat} {p : jP} {H lc : Nat → Nat} {us : List Int} {fl : List (List Int × Nat × Int)} {bl : List jB} {z : jL} {t : Nat → Int} {u : jQ} {i : Nat} {x : jC} {G : jZ} {σ : jG} {C : jH} {l h : Nat} {th : Nat → Int} {n : Nat}
/-- a value of the table is left -/
theorem c_lvs (hT : thG F (zDn G) (zUp G)) (hr : cRw l h S u) {m : Nat} (hm : m ≤ h) (hm1 : 1 ≤ m) (h8 : h ≤ 8) {ty : Int} (ht : ty = 1 ∨ 2 ≤ ty) {o : Option jW} (ho : ∀ w, o = some w → vl1 F us z ty w) {v : Int} (hv : cVl ty v o) : ∃ S', ja_X4_leavesValue 92 (m : Int) v (bi (decide (ty = 1))) S = some (bi o.isSome, S') ∧ wFr S S' ∧ ∀ w, o = some w → cRw l (h - m + 1) S' (qUp u (12 + (h - m)) w) := by
  obtain ⟨S1, s1, s2, s3⟩ := c_drop hr hm h8
  unfold ja_X4_leavesValue ja_X4_leavesValue_b27
  rw [jc_92_2, s1, bd_some]
  rcases ht with ht | ht
  · subst ht
    rw [if_neg (show ¬ bi (decide ((1 : Int) = 1)) = 0 by decide)]
    rw [cVl_n] at hv
    have okv : ∀ q, vN o = some q → iR2 q ∧ q.1 ≤ q.2 := by
      intro q hq
      cases o with
      | none => cases hq
      | some w =>
        cases hq
        have := (vl1_n (ho w rfl)).2
        exact ⟨rOk_iR hT this, this.2.2⟩
    rw [hv]
    cases o with
    | none =>
      obtain ⟨S2, q1, q2⟩ := c_pushA s3.2.1 (by omega) (kPk (vN none)) 4503599627370496
      rw [q1, bd_some, kPk_n okv, bd_some]
      exact ⟨S2, rfl, wFr_trans s2 q2, fun w q => by cases q⟩
    | some w =>
      obtain ⟨S2, q1, q2, q3⟩ := c_push s3 (by omega) (cSt_R (r := w.2.1))
      have q1' : ja_X7_push 93 (kPk (vN (some w))) 4503599627370496 S1 = some (0, S2) := q1
      rw [q1', bd_some, kPk_n okv, bd_some]
      refine ⟨S2, rfl, wFr_trans s2 q2, fun w' q => ?_⟩
      cases q
      rw [← (vl1_n (ho w rfl)).1] at q3
      exact q3
  · have hn : ¬ ty = 1 := by omega
    rw [decide_eq_false hn, if_pos (show bi false = 0 from rfl)]
    rw [cVl_r ht] at hv
    cases o with
    | none =>
      obtain ⟨S2, q1, q2⟩ := c_pushA s3.2.1 (by omega) v 9007199254740992
      have hv0 : v = 0 := cV_u hv cV_0
      rw [q1, bd_some, if_pos (show bi false = 0 from rfl), if_pos hv0]
      exact ⟨S2, rfl, wFr_trans s2 q2, fun w q => by cases q⟩
    | some w =>
      obtain ⟨w1, w2, w3⟩ := vl1_r ht (ho w rfl)
      obtain ⟨S2, q1, q2, q3⟩ := c_push s3 (by omega) (cSt_S (v := v) (s := w.2.2.1) hv)
      have hne : ¬ v = 0 := by
        intro q
        obtain ⟨j, hj⟩ := w2
        have := (cV_z hv).mp q j (by have := w3 j hj; omega)
        have this : w.2.2.1 j = false := this
        rw [hj] at this; cases this
      rw [q1, bd_some, if_pos (show bi false = 0 from rfl), if_neg hne]
      refine ⟨S2, rfl, wFr_trans s2 q2, fun w' q => ?_⟩
      cases q
      rw [← w1] at q3
      exact q3
/-- what fields hold -/
theorem c_getL (hQ : Q = 13 ∨ Q = 49) (hT : thG F (zDn G) (zUp G)) (hv : cPv S Q p H lc) (hg : gOk F us fl bl z σ) (hz48 : z.2.1.length ≤ 48) (hfl : fl.length ≤ 48) (hzp : z = p.2.2.2.2.1) (hm : cGm S fl bl z σ C) {w : Nat → Bool} {v : Int} (hx : cV v w) {f : Nat} {y : List Int × Nat × Int} (hy : fl[f]? = some y) (ht : y.2.2 = 1 ∨ 2 ≤ y.2.2) (r5 : Int) : ∀ (d s m : Nat) (a : Int), s + d = z.2.1.length → d < m → cVl y.2.2 a (fJ (fun k => σ.1 (k * 48 + f)) w s) → ∃ r, ja_X4_usesField_L86 m 92 35 (f : Int) (bi (decide (y.2.2 = 1))) r5 v a (s : Int) S = (nk_bd (ja_X4_leavesValue 92 1 r (bi (decide (y.2.2 = 1))) S) fun r6 S7 => if r6 = 0 ∨ r6 = 1 then some (r6, S7) else none) ∧ cVl y.2.2 r (fJ (fun k => σ.1 (k * 48 + f)) w z.2.1.length) := by
  have hc : S.1 Q 10 = (z.2.1.length : Int) := by rw [hzp]; exact hv.2.2.1.2.2.2.2.2.2.2.2.1.2.1.1
  have hf := fl_48 hfl hy
  have hvl : ∀ s, s < 54 → ∀ v, σ.1 (s * 48 + f) = some v → vl1 F us z y.2.2 v := fun s hs v q => by
    have := (hg.1 _ _ q).2
    rw [zT_f hs hf hy] at this
    exact this
  intro d
  induction d with
  | zero =>
    intro s m a h1 h2 ha
    obtain ⟨m, rfl⟩ : ∃ q, m = q + 1 := ⟨m - 1, by omega⟩
    refine ⟨a, ?_, by rw [← h1]; exact ha⟩
    show ja_X4_usesField_b86 (ja_X4_usesField_L86 m) 92 35 (f : Int) (bi (decide (y.2.2 = 1))) r5 v a (s : Int) S = _
    unfold ja_X4_usesField_b86
    rw [hv.1, hc, if_pos (by omega), if_pos rfl]
  | succ d ih =>
    intro s m a h1 h2 ha
    obtain ⟨m, rfl⟩ : ∃ q, m = q + 1 := ⟨m - 1, by omega⟩
    have e0 : ja_X4_usesField_L86 (m + 1) 92 35 (f : Int) (bi (decide (y.2.2 = 1))) r5 v a (s : Int) S = ja_X4_usesField_b86 (ja_X4_usesField_L86 m) 92 35 (f : Int) (bi (decide (y.2.2 = 1))) r5 v a (s : Int) S := rfl
    rw [e0]
    unfold ja_X4_usesField_b86 ja_X4_usesField_b143
    have hb := c_bitAt hx (show s < 64 by omega)
    have hs48 : s < 48 := by omega
    have hsv : s * 48 + f < 2304 := by omega
    rw [hv.1, hc, if_neg (by omega), w_nat1 (by omega)]
    cases hw : w s with
    | false =>
      rw [if_pos (hb.mpr hw), if_pos (hb.mpr hw), lt_eq]
      refine ih (s + 1) m a (by omega) (by omega) ?_
      show cVl y.2.2 a (oJ (fJ (fun k => σ.1 (k * 48 + f)) w s) (if w s = true then σ.1 (s * 48 + f) else none))
      rw [hw, if_neg (by decide), oJ_n]; exact ha
    | true =>
      rw [if_neg (fun q => by rw [hb.mp q] at hw; cases hw), if_pos rfl, w_48' hs48 hf, if_pos (in_i (N := 2304) (by omega)), jc_92_3, jc_100_0, Int.toNat_natCast]
      obtain ⟨r, r1, r2⟩ := c_vjoin0 hT ht (o := fJ (fun k => σ.1 (k * 48 + f)) w s) (o' := σ.1 (s * 48 + f)) (fJ_v ht s (fun s' v a _ => hvl s' (by omega) v)) (hvl s (by omega)) ha (hm.1 s f y hs48 hy) S
      rw [r1, bd_some, lt_eq]
      refine ih (s + 1) m r (by omega) (by omega) ?_
      show cVl y.2.2 r (oJ (fJ (fun k => σ.1 (k * 48 + f)) w s) (if w s = true then σ.1 (s * 48 + f) else none))
      rw [if_pos hw]; exact r2
theorem x8_no (b : Bool) (S : nk_S) : ∃ r, ja_X8_nothing (bi b) S = some (r, S) ∧ r = (if b = true then 9223372034707292160 else 0) := by
  unfold ja_X8_nothing
  cases b
  · rw [if_pos (show bi false = 0 from rfl)]; exact ⟨0, rfl, rfl⟩
  · rw [if_neg (show ¬ bi true = 0 by decide)]; exact ⟨_, rfl, rfl⟩
theorem cVl_no {ty : Int} (ht : ty = 1 ∨ 2 ≤ ty) : cVl ty (if decide (ty = 1) = true then 9223372034707292160 else 0) none := by
  rcases ht with ht | ht
  · subst ht
    exact cVl_n.mpr rfl
  · rw [decide_eq_false (show ¬ ty = 1 by omega)]
    exact (cVl_r ht).mpr cV_0
/-- up to where a field is used -/
theorem c_fldB (hQ : Q = 13 ∨ Q = 49) (hv : cPv S Q p H lc) (hx : p.2.2.2.2.1.1[i]? = some x) (hi : i < 1024) (hflp : fl = p.2.2.1) (hfl : fl.length ≤ 48) {f : Nat} {y : List Int × Nat × Int} (hxf : x.2.1 = (f : Int)) (hy : fl[f]? = some y) (op : Int) (hop : op = 35 ∨ op = 36) : ja_X4_usesField 92 (i : Int) op S = ja_X4_usesField_b48 92 op (f : Int) (bi (decide (y.2.2 = 1))) 93 (if op = 35 then 0 else 1) S := by
  have hf := fl_48 hfl hy
  have hcd := hv.2.2.1.2.2.2.2.2.2.2.2.1.1.2 i x hx
  have hcell : S.1 (Q + 7) f = y.2.2 := by
    rw [hflp] at hy
    exact (hv.2.2.1.2.2.1 f y hy).2
  unfold ja_X4_usesField
  rw [if_pos (in_i (N := 1024) (by omega)), hv.1, (jc_Qp hQ).2.2.1, Int.toNat_natCast, hcd.2.1, hxf, lt_eq, if_pos (in_i (N := 48) (by omega)), (jc_Q hQ).1, (jc_Qf hQ).2.2.1, Int.toNat_natCast, hcell]
  unfold ja_X4_usesField_b31
  rw [jc_92_2]
  rcases hop with hop | hop
  · subst hop
    by_cases c : y.2.2 = 1
    · rw [if_pos c, decide_eq_true c, if_pos rfl, if_pos rfl]; rfl
    · rw [if_neg c, decide_eq_false c, if_pos rfl, if_pos rfl]; rfl
  · subst hop
    by_cases c : y.2.2 = 1
    · rw [if_pos c, decide_eq_true c, if_neg (by decide), if_neg (by decide)]; rfl
    · rw [if_neg c, decide_eq_false c, if_neg (by decide), if_neg (by decide)]; rfl
theorem pDr_v (hok : vOk F us z l t u) {a : Nat} (ha : 12 ≤ a) (k1 : (u a).1 = 2) {v : jQ} (hd : pDr u a = some v) : vOk F us z l t v ∧ ∀ k, 12 ≤ k → v k = u k := by
  unfold pDr at hd
  split at hd
  · exact ⟨qKp_ok hok k1 hd, (qKp_at hok.2.1 hd).1⟩
  · cases hd
theorem c_get (hQ : Q = 13 ∨ Q = 49) (hT : thG F (zDn G) (zUp G)) (hv : cPv S Q p H lc) (hz : oJL p.2.2.2.2.1) (hx : p.2.2.2.2.1.1[i]? = some x) (hflp : fl = p.2.2.1) (hfl : fl.length ≤ 48) (hz48 : z.2.1.length ≤ 48) (hzp : z = p.2.2.2.2.1) (hg : gOk F us fl bl z σ) (hm : cGm S fl bl z σ C) {r s : Nat → Bool} (k : cRs S r s) (hr : cRw (lc i) (H i) S u) (hok : vOk F us z (lc i) t u) (ho : x.1 = 35) (k1 : (u (12 + H i - 1)).1 = 2) (h1 : 1 ≤ H i) {f : Nat} {y : List Int × Nat × Int} (hxf : x.2.1 = (f : Int)) (hy : fl[f]? = some y) (ht : y.2.2 = 1 ∨ 2 ≤ y.2.2) (hw : ∀ s, z.2.1.length ≤ s → s < 54 → (u (12 + H i - 1)).2.2.1 s = false) : ∃ S', ja_X4_usesField 92 (i : Int) 35 S = some (bi (pGo G σ x (H i) u).isSome, S') ∧ eFr S S' ∧ cRs S' (nlR ((u (12 + H i - 1)).2.2.1 62) 0 r) (nlR ((u (12 + H i - 1)).2.2.1 62) 48 s) ∧ ∀ v, pGo G σ x (H i) u = some v → cRw (lc i) (H i) S' v := by
  have hi : i < 1024 := by
    have := (List.getElem?_eq_some_iff.mp hx).1
    have := hz.1
    omega
  have hf := fl_48 hfl hy
  have hH8 := (hv.2.2.2.2 i).2
  have top := c_top0 hr hH8
  have r1 : rel (lc i) (H i) (12 + H i - 1) ∧ 12 + H i - 1 < 20 := rel_top (n := 0) (by omega) hH8
  have epg : pGo G σ x (H i) u = oB (pDr u (12 + H i - 1)) fun v => oB (fJ (fun s => σ.1 (s * 48 + f)) (u (12 + H i - 1)).2.2.1 54) fun l => some (qUp v (12 + H i - 1) l) := by
    unfold pGo
    rw [if_neg (by omega), if_neg (by omega), if_neg (by omega), if_neg (by omega), if_neg (by omega), if_neg (by omega), if_neg (by omega), if_neg (by omega), if_neg (by omega), if_neg (by omega), if_neg (by omega), if_neg (by omega), if_neg (by omega), if_neg (by omega), if_neg (by omega), if_pos ho, hxf, Int.toNat_natCast]
  obtain ⟨S1, s1, s2, s3, s4, s5⟩ := c_deref k hr hok r1 k1
  rw [c_fldB hQ hv hx hi hflp hfl hxf hy 35 (Or.inl rfl), if_pos rfl, epg]
  unfold ja_X4_usesField_b48
  rw [top, bd_some, s1, bd_some]
  cases hd : pDr u (12 + H i - 1) with
  | none =>
    rw [if_pos (show bi (none : Option jQ).isSome = 0 from rfl)]
    exact ⟨S1, rfl, s2, s4, fun v q => by cases q⟩
  | some v =>
    rw [if_neg (bi_some rfl), if_pos (in_i (N := 20) (by omega)), lt_eq, jc_92_2, jc_93_4, Int.toNat_natCast]
    have rv := s5 v hd
    obtain ⟨v1, v2⟩ := pDr_v hok (by omega) k1 hd
    have stv := rv.2.2 _ r1.1
    rw [v2 _ (by omega)] at stv
    obtain ⟨q, q1, q2⟩ := x8_no (decide (y.2.2 = 1)) S1
    rw [q1, bd_some]
    have hno : cVl y.2.2 q none := by rw [q2]; exact cVl_no ht
    obtain ⟨bm, hbm⟩ := big_ge 100 (by decide)
    obtain ⟨a, a1, a2⟩ := c_getL hQ hT (cPv_e hQ s2 hv) hg hz48 hfl hzp (cGm_e s2 hm) (stv.2.2.2 k1) hy ht ((12 + H i - 1 : Nat) : Int) z.2.1.length 0 nk_big q (by omega) (by omega) hno
    have e54 : fJ (fun s => σ.1 (s * 48 + f)) (u (12 + H i - 1)).2.2.1 54 = fJ (fun s => σ.1 (s * 48 + f)) (u (12 + H i - 1)).2.2.1 z.2.1.length := fJ_54 (by omega) hw
    have hvl := fJ_v ht (f := fun s => σ.1 (s * 48 + f)) (s := (u (12 + H i - 1)).2.2.1) z.2.1.length (fun s' w a _ q => by have := (hg.1 _ _ q).2; rw [zT_f (by omega) hf hy] at this; exact this)
    obtain ⟨S2, b1, b2, b3⟩ := c_lvs hT rv (m := 1) h1 (by omega) hH8 ht hvl a2
    have b1' : ja_X4_leavesValue 92 1 a (bi (decide (y.2.2 = 1))) S1 = _ := b1
    have a1' : ja_X4_usesField_L86 nk_big 92 35 (f : Int) (bi (decide (y.2.2 = 1))) ((12 + H i - 1 : Nat) : Int) (S1.1 98 (12 + H i - 1)) q 0 S1 = _ := a1
    rw [a1', b1', bd_some, if_pos (bi_01 _)]
    show ∃ S', _ = some (bi (oB (fJ (fun s => σ.1 (s * 48 + f)) (u (12 + H i - 1)).2.2.1 54) fun l => some (qUp v (12 + H i - 1) l)).isSome, S') ∧ eFr S S' ∧ cRs S' _ _ ∧ ∀ v', (oB (fJ (fun s => σ.1 (s * 48 + f)) (u (12 + H i - 1)).2.2.1 54) fun l => some (qUp v (12 + H i - 1) l)) = some v' → _
    rw [e54]
    refine ⟨S2, ?_, eFr_trans s2 (eFr_w b2), cRs_w b2 s4, fun v' q' => ?_⟩
    · cases fJ (fun s => σ.1 (s * 48 + f)) (u (12 + H i - 1)).2.2.1 z.2.1.length <;> rfl
    · obtain ⟨w, w1, w2⟩ := oB_some q'
      cases w2
      have := b3 w w1
      rw [show H i - 1 + 1 = H i by omega, show 12 + (H i - 1) = 12 + H i - 1 by omega] at this
      exact this
end CFD
