/-! The class reads what sites hold. -/
section CSI
variable {F : Int → Prop} {dn up : Int → Int} {us : List Int} {fl : List (List Int × Nat × Int)} {bl : List jB} {z : jL} {S : nk_S} {σ : jG} {C : jH} {Q : Nat} {p : jP} {H lc : Nat → Nat}
theorem oJ_n (o : Option jW) : oJ o none = o := by cases o <;> rfl
theorem c_vjoin0 (hT : thG F dn up) {t : Int} (ht : t = 1 ∨ 2 ≤ t) {o o' : Option jW} (ho : ∀ w', o = some w' → vl1 F us z t w') (ho' : ∀ w', o' = some w' → vl1 F us z t w') {v x : Int} (hv : cVl t v o) (hx : cVl t x o') (S : nk_S) : ∃ r, ja_X8_join v x (bi (decide (t = 1))) S = some (r, S) ∧ cVl t r (oJ o o') := by
  cases o' with
  | some w =>
    obtain ⟨r, r1, r2, -⟩ := c_vjoin hT ht ho (ho' w rfl) hv hx S
    exact ⟨r, r1, r2⟩
  | none =>
    rw [oJ_n]
    refine ⟨v, ?_, hv⟩
    unfold ja_X8_join
    rcases ht with ht | ht
    · subst ht
      rw [cVl_n] at hv hx
      have hx' : x = pk (2147483647, -2147483648) := by rw [hx]; exact kPk_no
      rw [if_neg (show ¬ bi (decide ((1 : Int) = 1)) = 0 by decide)]
      cases o with
      | none =>
        have hv' : v = pk (2147483647, -2147483648) := by rw [hv]; exact kPk_no
        rw [hv', hx', c_joinR no_iR no_iR, bd_some, rJn_n no_iR]
      | some a =>
        have ia := rOk_iR hT (vl1_n (ho a rfl)).2
        have hv' : v = pk a.2.1 := hv
        rw [hv', hx', c_joinR ia no_iR, bd_some, rJn_c, rJn_n ia]
    · rw [cVl_r ht] at hv hx
      rw [decide_eq_false (show ¬ t = 1 by omega), if_pos (show bi false = 0 from rfl)]
      have hx' : cV x noS := hx
      have : nk_lor v x = v := cV_u (cV_e (cV_or hv hx') (fun j _ => by show (_ || false) = _; rw [Bool.or_false])) hv
      rw [this]
theorem lk_one : ∀ j, j < 64 → lb 1 j = decide (j = 0) := by decide +kernel
theorem c_bitAt {v : Int} {w : Nat → Bool} (hv : cV v w) {k : Nat} (hk : k < 64) : nk_land (nk_lushr v (k : Int)) 1 = 0 ↔ w k = false := by
  have ha : cV (nk_land (nk_lushr v (k : Int)) 1) (fun j => decide (j = 0) && w k) := by
    refine ⟨lR_and _ _, fun j hj => ?_⟩
    rw [lb_and, lk_one j hj, lb_ushr hk j]
    dsimp only
    by_cases c : j = 0
    · rw [c, decide_eq_true rfl, Bool.and_true, Bool.true_and, Nat.add_zero, hv.2 k hk]
    · rw [decide_eq_false c, Bool.and_false, Bool.false_and]
  rw [cV_z ha]
  constructor
  · intro q
    have := q 0 (by decide)
    rw [decide_eq_true rfl, Bool.true_and] at this
    exact this
  · intro q j _
    rw [q, Bool.and_false]
theorem fJ_cut {f : Nat → Option jW} {w : Nat → Bool} {m : Nat} : ∀ d, (∀ s, m ≤ s → s < m + d → w s = false) → fJ f w (m + d) = fJ f w m := by
  intro d
  induction d with
  | zero => intro _; rfl
  | succ d ih =>
    intro h
    show oJ (fJ f w (m + d)) (if w (m + d) = true then f (m + d) else none) = _
    rw [if_neg (by rw [h (m + d) (by omega) (by omega)]; decide), oJ_n]
    exact ih (fun s a b => h s a (by omega))
theorem fJ_54 {f : Nat → Option jW} {w : Nat → Bool} {m : Nat} (hm : m ≤ 54) (h : ∀ s, m ≤ s → s < 54 → w s = false) : fJ f w 54 = fJ f w m := by
  have := fJ_cut (f := f) (w := w) (m := m) (54 - m) (fun s a b => h s a (by omega))
  rw [show m + (54 - m) = 54 by omega] at this
  exact this
/-- the lengths of arrays -/
theorem c_lenL (hQ : Q = 13 ∨ Q = 49) (hT : thG F dn up) (hv : cPv S Q p H lc) (hz : oJL p.2.2.2.2.1) (hg : gOk F us fl bl z σ) (hz48 : z.2.1.length ≤ 48) (hzp : z = p.2.2.2.2.1) (hm : cGm S fl bl z σ C) {w : Nat → Bool} {x : Int} (hx : cV x w) : ∀ (d s m : Nat) (a : Int), s + d = z.2.1.length → d < m → cVl 1 a (fJ (fun k => σ.1 (2646 + k)) w s) → ∃ r, ja_X4_lengthsOf_L7 m 92 x a (s : Int) S = some (r, S) ∧ cVl 1 r (fJ (fun k => σ.1 (2646 + k)) w z.2.1.length) := by
  have hc : S.1 Q 10 = (z.2.1.length : Int) := by rw [hzp]; exact hv.2.2.1.2.2.2.2.2.2.2.2.1.2.1.1
  have hvl : ∀ s, s < 54 → ∀ v, σ.1 (2646 + s) = some v → vl1 F us z 1 v := fun s hs v q => by
    have := (hg.1 _ _ q).2
    rw [zT_l hs] at this
    exact this
  intro d
  induction d with
  | zero =>
    intro s m a h1 h2 ha
    obtain ⟨m, rfl⟩ : ∃ q, m = q + 1 := ⟨m - 1, by omega⟩
    refine ⟨a, ?_, by rw [← h1]; exact ha⟩
    show ja_X4_lengthsOf_b7 (ja_X4_lengthsOf_L7 m) 92 x a (s : Int) S = _
    unfold ja_X4_lengthsOf_b7
    rw [hv.1, hc, if_pos (by omega)]
  | succ d ih =>
    intro s m a h1 h2 ha
    obtain ⟨m, rfl⟩ : ∃ q, m = q + 1 := ⟨m - 1, by omega⟩
    have e0 : ja_X4_lengthsOf_L7 (m + 1) 92 x a (s : Int) S = ja_X4_lengthsOf_b7 (ja_X4_lengthsOf_L7 m) 92 x a (s : Int) S := rfl
    rw [e0]
    unfold ja_X4_lengthsOf_b7
    rw [hv.1, hc, if_neg (by omega), w_nat1 (by omega), jc_92_3, jc_100_2, Int.toNat_natCast]
    have hb := c_bitAt hx (show s < 64 by omega)
    cases hw : w s with
    | false =>
      rw [if_pos (hb.mpr hw), lt_eq]
      refine ih (s + 1) m a (by omega) (by omega) ?_
      show cVl 1 a (oJ (fJ (fun k => σ.1 (2646 + k)) w s) (if w s = true then σ.1 (2646 + s) else none))
      rw [hw, if_neg (by decide), oJ_n]; exact ha
    | true =>
      rw [if_neg (fun q => by rw [hb.mp q] at hw; cases hw), if_pos (in_i (N := 48) (by omega))]
      obtain ⟨r, r1, r2⟩ := c_vjoin0 hT (Or.inl rfl) (o := fJ (fun k => σ.1 (2646 + k)) w s) (o' := σ.1 (2646 + s)) (fJ_v (Or.inl rfl) s (fun s' v a _ => hvl s' (by omega) v)) (hvl s (by omega)) ha (cVl_n.mpr (hm.2.2.1 s (by omega))) S
      have r1' : ja_X5_join a (S.1 103 s) S = some (r, S) := by
        unfold ja_X8_join at r1
        rw [if_neg (show ¬ bi (decide ((1 : Int) = 1)) = 0 by decide)] at r1
        cases hq : ja_X5_join a (S.1 103 s) S with
        | none => rw [hq] at r1; cases r1
        | some q => rw [hq] at r1; exact r1
      rw [r1', bd_some, lt_eq]
      refine ih (s + 1) m r (by omega) (by omega) ?_
      show cVl 1 r (oJ (fJ (fun k => σ.1 (2646 + k)) w s) (if w s = true then σ.1 (2646 + s) else none))
      rw [if_pos hw]; exact r2
theorem c_lenOf (hQ : Q = 13 ∨ Q = 49) (hT : thG F dn up) (hv : cPv S Q p H lc) (hz : oJL p.2.2.2.2.1) (hg : gOk F us fl bl z σ) (hz48 : z.2.1.length ≤ 48) (hzp : z = p.2.2.2.2.1) (hm : cGm S fl bl z σ C) {w : Nat → Bool} {x : Int} (hx : cV x w) (hw : ∀ s, z.2.1.length ≤ s → s < 54 → w s = false) : ja_X4_lengthsOf 92 x S = some (kPk (vN (pLn σ w)), S) := by
  obtain ⟨bm, hbm⟩ := big_ge 100 (by decide)
  obtain ⟨r, r1, r2⟩ := c_lenL hQ hT hv hz hg hz48 hzp hm hx z.2.1.length 0 nk_big 9223372034707292160 (by omega) (by omega) (cVl_n.mpr rfl)
  have e : pLn σ w = fJ (fun k => σ.1 (2646 + k)) w z.2.1.length := fJ_54 (by omega) hw
  unfold ja_X4_lengthsOf
  rw [e, ← cVl_n.mp r2]
  exact r1
end CSI
