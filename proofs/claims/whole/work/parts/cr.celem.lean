/-! The class takes elements. -/
/-- sites of arrays whose elements are of a type -/
def elS (F : Int → Prop) (us : List Int) (z : jL) (ty : Int) (w : Nat → Bool) : Prop := ∀ s, s < 54 → w s = true → s < z.2.1.length ∧ 3 ≤ sTp z s ∧ (∀ v, vl1 F us z (tEl (sTp z s)) v → vl1 F us z ty v) ∧ (tEl (sTp z s) = 1 ↔ ty = 1)
section CEL
variable {F : Int → Prop} {S : nk_S} {Q : Nat} {p : jP} {H lc : Nat → Nat} {us : List Int} {fl : List (List Int × Nat × Int)} {bl : List jB} {z : jL} {t : Nat → Int} {u : jQ} {i : Nat} {x : jC} {G : jZ} {σ : jG} {C : jH} {l h : Nat} {th : Nat → Int} {n : Nat}
theorem cVl_c {t t' v : Int} {o : Option jW} (h : t = 1 ↔ t' = 1) (k : cVl t v o) : cVl t' v o := by
  unfold cVl at k ⊢
  by_cases c : t = 1
  · rw [if_pos c] at k; rw [if_pos (h.mp c)]; exact k
  · rw [if_neg c] at k; rw [if_neg (fun q => c (h.mpr q))]; exact k
theorem c_tkL (hQ : Q = 13 ∨ Q = 49) (hT : thG F (zDn G) (zUp G)) (hv : cPv S Q p H lc) (hg : gOk F us fl bl z σ) (hz48 : z.2.1.length ≤ 48) (hzp : z = p.2.2.2.2.1) (hm : cGm S fl bl z σ C) {w : Nat → Bool} {v : Int} (hx : cV v w) {ty : Int} (ht : ty = 1 ∨ 2 ≤ ty) (hel : elS F us z ty w) : ∀ (d s m : Nat) (a : Int), s + d = z.2.1.length → d < m → cVl ty a (fJ (fun k => σ.1 (2592 + k)) w s) → ∃ r, ja_X4_takesElement_L59 m 92 v (bi (decide (ty = 1))) a (s : Int) S = (nk_bd (ja_X4_leavesValue 92 2 r (bi (decide (ty = 1))) S) fun r6 S7 => if r6 = 0 ∨ r6 = 1 then some (r6, S7) else none) ∧ cVl ty r (fJ (fun k => σ.1 (2592 + k)) w z.2.1.length) := by
  have hc : S.1 Q 10 = (z.2.1.length : Int) := by rw [hzp]; exact hv.2.2.1.2.2.2.2.2.2.2.2.1.2.1.1
  have hvl : ∀ s v, s < 54 → w s = true → σ.1 (2592 + s) = some v → vl1 F us z ty v := fun s v hs hw q => by
    have := (hg.1 _ _ q).2
    rw [zT_e hs] at this
    exact (hel s hs hw).2.2.1 v this
  intro d
  induction d with
  | zero =>
    intro s m a h1 h2 ha
    obtain ⟨m, rfl⟩ : ∃ q, m = q + 1 := ⟨m - 1, by omega⟩
    refine ⟨a, ?_, by rw [← h1]; exact ha⟩
    show ja_X4_takesElement_b59 (ja_X4_takesElement_L59 m) 92 v (bi (decide (ty = 1))) a (s : Int) S = _
    unfold ja_X4_takesElement_b59
    rw [hv.1, hc, if_pos (by omega)]
  | succ d ih =>
    intro s m a h1 h2 ha
    obtain ⟨m, rfl⟩ : ∃ q, m = q + 1 := ⟨m - 1, by omega⟩
    have e0 : ja_X4_takesElement_L59 (m + 1) 92 v (bi (decide (ty = 1))) a (s : Int) S = ja_X4_takesElement_b59 (ja_X4_takesElement_L59 m) 92 v (bi (decide (ty = 1))) a (s : Int) S := rfl
    rw [e0]
    unfold ja_X4_takesElement_b59
    have hb := c_bitAt hx (show s < 64 by omega)
    rw [hv.1, hc, if_neg (by omega), w_nat1 (by omega)]
    cases hw : w s with
    | false =>
      rw [if_pos (hb.mpr hw), lt_eq]
      refine ih (s + 1) m a (by omega) (by omega) ?_
      show cVl ty a (oJ (fJ (fun k => σ.1 (2592 + k)) w s) (if w s = true then σ.1 (2592 + s) else none))
      rw [hw, if_neg (by decide), oJ_n]; exact ha
    | true =>
      rw [if_neg (fun q => by rw [hb.mp q] at hw; cases hw), if_pos (in_i (N := 48) (by omega)), jc_92_3, jc_100_1, Int.toNat_natCast]
      obtain ⟨r, r1, r2⟩ := c_vjoin0 hT ht (o := fJ (fun k => σ.1 (2592 + k)) w s) (o' := σ.1 (2592 + s)) (fJ_v ht s (fun s' v a hw' => hvl s' v (by omega) hw')) (fun v' => hvl s v' (by omega) hw) ha (cVl_c (hel s (by omega) hw).2.2.2 (hm.2.1 s (by omega))) S
      rw [r1, bd_some, lt_eq]
      refine ih (s + 1) m r (by omega) (by omega) ?_
      show cVl ty r (oJ (fJ (fun k => σ.1 (2592 + k)) w s) (if w s = true then σ.1 (2592 + s) else none))
      rw [if_pos hw]; exact r2
theorem c_takeE (hQ : Q = 13 ∨ Q = 49) (hT : thG F (zDn G) (zUp G)) (hv : cPv S Q p H lc) (hg : gOk F us fl bl z σ) (hz48 : z.2.1.length ≤ 48) (hzp : z = p.2.2.2.2.1) (hm : cGm S fl bl z σ C) (hr : cRw l h S u) (h2 : 2 ≤ h) (h8 : h ≤ 8) (k1 : (u (12 + h - 2)).1 = 2) {ty : Int} (ht : ty = 1 ∨ 2 ≤ ty) (hel : elS F us z ty (u (12 + h - 2)).2.2.1) (hex : ∃ s, s < 54 ∧ (u (12 + h - 2)).2.2.1 s = true) : ∃ S', ja_X4_takesElement 92 ((12 + h - 2 : Nat) : Int) S = some (bi (fJ (fun s => σ.1 (2592 + s)) (u (12 + h - 2)).2.2.1 54).isSome, S') ∧ wFr S S' ∧ ∀ w, fJ (fun s => σ.1 (2592 + s)) (u (12 + h - 2)).2.2.1 54 = some w → cRw l (h - 1) S' (qUp u (12 + h - 2) w) := by
  have hc : S.1 Q 10 = (z.2.1.length : Int) := by rw [hzp]; exact hv.2.2.1.2.2.2.2.2.2.2.2.1.2.1.1
  have r2 : rel l h (12 + h - 2) ∧ 12 + h - 2 < 20 := by
    have := rel_top (l := l) (n := 1) (show 1 < h by omega) h8
    rw [show 12 + h - 1 - 1 = 12 + h - 2 by omega] at this
    exact this
  have sl := (hr.2.2 _ r2.1).2.2.2 k1
  obtain ⟨w, hw⟩ : ∃ w, w = (u (12 + h - 2)).2.2.1 := ⟨_, rfl⟩
  rw [← hw] at sl hel hex ⊢
  obtain ⟨q, q1, q2⟩ := lw_ex hex
  obtain ⟨e1, e2, e3, e4⟩ := hel q q1 q2.1
  have htz := c_tz sl (show q < 64 by omega) q2 S
  have hst : S.1 (Q + 31) q = sTp z q := by
    have h1 : sTp z q = z.2.1.getD q 0 := by unfold sTp; rw [if_pos e1]
    rw [h1]
    have hsl := hv.2.2.1.2.2.2.2.2.2.2.2.1.2.1.2.1
    rw [← hzp] at hsl
    refine hsl q _ ?_
    rw [List.getD_eq_getElem?_getD, List.getElem?_eq_getElem e1]; rfl
  have h3 : sTp z q = 3 ↔ ty = 1 := by
    rw [← e4]
    unfold tEl
    by_cases d : sTp z q = 3
    · rw [if_pos d]; exact ⟨fun _ => rfl, fun _ => d⟩
    · rw [if_neg d]; exact ⟨fun q => absurd q d, fun q => by omega⟩
  obtain ⟨bm, hbm⟩ := big_ge 100 (by decide)
  obtain ⟨g, g1, g2⟩ := x8_no (decide (ty = 1)) S
  have hno : cVl ty g none := by rw [g2]; exact cVl_no ht
  obtain ⟨a, a1, a2⟩ := c_tkL hQ hT hv hg hz48 hzp hm sl ht hel z.2.1.length 0 nk_big g (by omega) (by omega) hno
  have e54 : fJ (fun s => σ.1 (2592 + s)) w 54 = fJ (fun s => σ.1 (2592 + s)) w z.2.1.length := fJ_54 (by omega) (fun s h1 h2 => nf_t fun q => by have := (hel s h2 q).1; omega)
  have hvl := fJ_v ht (f := fun s => σ.1 (2592 + s)) (s := w) z.2.1.length (fun s' w' a' hw' q' => by
    have := (hg.1 _ _ q').2
    rw [zT_e (by omega)] at this
    exact (hel s' (by omega) hw').2.2.1 w' this)
  obtain ⟨S2, b1, b2, b3⟩ := c_lvs hT hr (m := 2) h2 (by omega) h8 ht hvl a2
  have b1' : ja_X4_leavesValue 92 2 a (bi (decide (ty = 1))) S = _ := b1
  have a1' : ja_X4_takesElement_L59 nk_big 92 (S.1 98 (12 + h - 2)) (bi (decide (ty = 1))) g 0 S = _ := a1
  have e47 : ja_X4_takesElement_b47 92 (S.1 98 (12 + h - 2)) (bi (decide (ty = 1))) S = some (bi (fJ (fun s => σ.1 (2592 + s)) w z.2.1.length).isSome, S2) := by
    unfold ja_X4_takesElement_b47
    rw [g1, bd_some, a1', b1', bd_some, if_pos (bi_01 _)]
  rw [e54]
  refine ⟨S2, ?_, b2, fun w' q' => ?_⟩
  · unfold ja_X4_takesElement
    rw [if_pos (in_i (N := 20) (by omega)), lt_eq, jc_92_2, jc_93_4, Int.toNat_natCast, htz, bd_some, hv.1, hc, if_neg (by omega), if_pos (in_i (N := 54) (by omega)), (jc_Qp hQ).2.2.2.2.2.2.2.1, Int.toNat_natCast, hst]
    by_cases d : ty = 1
    · rw [if_pos (h3.mpr d), ← e47, decide_eq_true d]; rfl
    · rw [if_neg (fun q => d (h3.mp q)), ← e47, decide_eq_false d]; rfl
  · have := b3 w' q'
    rw [show h - 2 + 1 = h - 1 by omega, show 12 + (h - 2) = 12 + h - 2 by omega] at this
    exact this
end CEL
