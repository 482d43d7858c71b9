/-! The class uses fields. -/
section CFD
variable {F : Int → Prop} {S : nk_S} {Q : Nat} {p : jP} {H lc : Nat → Nat} {us : List Int} {fl : List (List Int × Nat × Int)} {bl : List jB} {z : jL} {t : Nat → Int} {u : jQ} {i : Nat} {x : jC} {G : jZ} {σ : jG} {C : jH} {l h : Nat} {th : Nat → Int} {n : Nat}
/-- a value of the table is left -/
theorem c_lvs (hT : thG F (zDn G) (zUp G)) (hr : cRw l h S u) {m : Nat} (hm : m ≤ h) (hm1 : 1 ≤ m) (h8 : h ≤ 8) {ty : Int} (ht : ty = 1 ∨ 2 ≤ ty) {o : Option jW} (ho : ∀ w, o = some w → vl1 F us z ty w) {v : Int} (hv : cVl ty v o) : ∃ S', ja_X4_leavesValue 92 (m : Int) v (bi (decide (ty = 1))) S = some (bi o.isSome, S') ∧ wFr S S' ∧ ∀ w, o = some w → cRw l (h - m + 1) S' (qUp u (12 + (h - m)) w) := by
  obtain ⟨S1, s1, s2, s3⟩ := c_drop hr hm h8
  unfold ja_X4_leavesValue ja_X4_leavesValue_b27
  rw [jc_92_2, s1, bd_some]
  rcases ht with ht | ht
  · subst ht
    rw [if_neg (show ¬ bi (decide ((1 : Int) = 1)) = 0 by decide)]
    rw [cVl_n] at hv
    have okv : ∀ q, vN o = some q → iR2 q ∧ q.1 ≤ q.2 := by
      intro q hq
      cases o with
      | none => cases hq
      | some w =>
        cases hq
        have := (vl1_n (ho w rfl)).2
        exact ⟨rOk_iR hT this, this.2.2⟩
    rw [hv]
    cases o with
    | none =>
      obtain ⟨S2, q1, q2⟩ := c_pushA s3.2.1 (by omega) (kPk (vN none)) 4503599627370496
      rw [q1, bd_some, kPk_n okv, bd_some]
      exact ⟨S2, rfl, wFr_trans s2 q2, fun w q => by cases q⟩
    | some w =>
      obtain ⟨S2, q1, q2, q3⟩ := c_push s3 (by omega) (cSt_R (r := w.2.1))
      have q1' : ja_X7_push 93 (kPk (vN (some w))) 4503599627370496 S1 = some (0, S2) := q1
      rw [q1', bd_some, kPk_n okv, bd_some]
      refine ⟨S2, rfl, wFr_trans s2 q2, fun w' q => ?_⟩
      cases q
      rw [← (vl1_n (ho w rfl)).1] at q3
      exact q3
  · have hn : ¬ ty = 1 := by omega
    rw [decide_eq_false hn, if_pos (show bi false = 0 from rfl)]
    rw [cVl_r ht] at hv
    cases o with
    | none =>
      obtain ⟨S2, q1, q2⟩ := c_pushA s3.2.1 (by omega) v 9007199254740992
      have hv0 : v = 0 := cV_u hv cV_0
      rw [q1, bd_some, if_pos (show bi false = 0 from rfl), if_pos hv0]
      exact ⟨S2, rfl, wFr_trans s2 q2, fun w q => by cases q⟩
    | some w =>
      obtain ⟨w1, w2, w3⟩ := vl1_r ht (ho w rfl)
      obtain ⟨S2, q1, q2, q3⟩ := c_push s3 (by omega) (cSt_S (v := v) (s := w.2.2.1) hv)
      have hne : ¬ v = 0 := by
        intro q
        obtain ⟨j, hj⟩ := w2
        have := (cV_z hv).mp q j (by have := w3 j hj; omega)
        have this : w.2.2.1 j = false := this
        rw [hj] at this; cases this
      rw [q1, bd_some, if_pos (show bi false = 0 from rfl), if_neg hne]
      refine ⟨S2, rfl, wFr_trans s2 q2, fun w' q => ?_⟩
      cases q
      rw [← w1] at q3
      exact q3
/-- what fields hold -/
theorem c_getL (hQ : Q = 13 ∨ Q = 49) (hT : thG F (zDn G) (zUp G)) (hv : cPv S Q p H lc) (hg : gOk F us fl bl z σ) (hz48 : z.2.1.length ≤ 48) (hfl : fl.length ≤ 48) (hzp : z = p.2.2.2.2.1) (hm : cGm S fl bl z σ C) {w : Nat → Bool} {v : Int} (hx : cV v w) {f : Nat} {y : List Int × Nat × Int} (hy : fl[f]? = some y) (ht : y.2.2 = 1 ∨ 2 ≤ y.2.2) (r5 : Int) : ∀ (d s m : Nat) (a : Int), s + d = z.2.1.length → d < m → cVl y.2.2 a (fJ (fun k => σ.1 (k * 48 + f)) w s) → ∃ r, ja_X4_usesField_L86 m 92 35 (f : Int) (bi (decide (y.2.2 = 1))) r5 v a (s : Int) S = (nk_bd (ja_X4_leavesValue 92 1 r (bi (decide (y.2.2 = 1))) S) fun r6 S7 => if r6 = 0 ∨ r6 = 1 then some (r6, S7) else none) ∧ cVl y.2.2 r (fJ (fun k => σ.1 (k * 48 + f)) w z.2.1.length) := by
  have hc : S.1 Q 10 = (z.2.1.length : Int) := by rw [hzp]; exact hv.2.2.1.2.2.2.2.2.2.2.2.1.2.1.1
  have hf := fl_48 hfl hy
  have hvl : ∀ s, s < 54 → ∀ v, σ.1 (s * 48 + f) = some v → vl1 F us z y.2.2 v := fun s hs v q => by
    have := (hg.1 _ _ q).2
    rw [zT_f hs hf hy] at this
    exact this
  intro d
  induction d with
  | zero =>
    intro s m a h1 h2 ha
    obtain ⟨m, rfl⟩ : ∃ q, m = q + 1 := ⟨m - 1, by omega⟩
    refine ⟨a, ?_, by rw [← h1]; exact ha⟩
    show ja_X4_usesField_b86 (ja_X4_usesField_L86 m) 92 35 (f : Int) (bi (decide (y.2.2 = 1))) r5 v a (s : Int) S = _
    unfold ja_X4_usesField_b86
    rw [hv.1, hc, if_pos (by omega), if_pos rfl]
  | succ d ih =>
    intro s m a h1 h2 ha
    obtain ⟨m, rfl⟩ : ∃ q, m = q + 1 := ⟨m - 1, by omega⟩
    have e0 : ja_X4_usesField_L86 (m + 1) 92 35 (f : Int) (bi (decide (y.2.2 = 1))) r5 v a (s : Int) S = ja_X4_usesField_b86 (ja_X4_usesField_L86 m) 92 35 (f : Int) (bi (decide (y.2.2 = 1))) r5 v a (s : Int) S := rfl
    rw [e0]
    unfold ja_X4_usesField_b86 ja_X4_usesField_b143
    have hb := c_bitAt hx (show s < 64 by omega)
    have hs48 : s < 48 := by omega
    have hsv : s * 48 + f < 2304 := by omega
    rw [hv.1, hc, if_neg (by omega), w_nat1 (by omega)]
    cases hw : w s with
    | false =>
      rw [if_pos (hb.mpr hw), if_pos (hb.mpr hw), lt_eq]
      refine ih (s + 1) m a (by omega) (by omega) ?_
      show cVl y.2.2 a (oJ (fJ (fun k => σ.1 (k * 48 + f)) w s) (if w s = true then σ.1 (s * 48 + f) else none))
      rw [hw, if_neg (by decide), oJ_n]; exact ha
    | true =>
      rw [if_neg (fun q => by rw [hb.mp q] at hw; cases hw), if_pos rfl, w_48' hs48 hf, if_pos (in_i (N := 2304) (by omega)), jc_92_3, jc_100_0, Int.toNat_natCast]
      obtain ⟨r, r1, r2⟩ := c_vjoin0 hT ht (o := fJ (fun k => σ.1 (k * 48 + f)) w s) (o' := σ.1 (s * 48 + f)) (fJ_v ht s (fun s' v a _ => hvl s' (by omega) v)) (hvl s (by omega)) ha (hm.1 s f y hs48 hy) S
      rw [r1, bd_some, lt_eq]
      refine ih (s + 1) m r (by omega) (by omega) ?_
      show cVl y.2.2 r (oJ (fJ (fun k => σ.1 (k * 48 + f)) w s) (if w s = true then σ.1 (s * 48 + f) else none))
      rw [if_pos hw]; exact r2
end CFD
