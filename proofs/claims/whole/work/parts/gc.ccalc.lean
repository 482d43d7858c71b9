/-! The run: the class calculates, compares, reads, writes. -/
section CCA
variable {p : jP} {m m' : jM} {Q : Nat} {tx : List (List Int)} {x : jC} {t : Nat → Int} {inp : Nat → Int} {S S' : nk_S} {A : jA} {σ : jG} {i : Nat}
/-- what is on the stack -/
theorem x_top (hk : pKX p Q) (hm : mOk p m) (ht : mTop p m x t) (hc : cMm S m) {k : Nat} (h : k < m.hs m.d) : ja_X2_numberAt 113 (k : Int) S = some ((m.top k).2, S) ∧ vWf m (m.top k) := by
  have := (top_k ht h).2
  exact ⟨x_num hc hm.2.1.2.1 h this, this⟩
theorem x_cal {o : Nat} {a b : Int} (h : 8 ≤ o ∧ o ≤ 17) (hb : (o = 11 ∨ o = 12) → b ≠ 0) (T : nk_S) : ja_X2_calculated (o : Int) a b T = some (mCl o a b, T) := by
  unfold ja_X2_calculated mCl
  by_cases c8 : o = 8
  · rw [if_pos (by omega), if_pos c8]
  rw [if_neg (by omega), if_neg c8]
  by_cases c9 : o = 9
  · rw [if_pos (by omega), if_pos c9]
  rw [if_neg (by omega), if_neg c9]
  by_cases c10 : o = 10
  · rw [if_pos (by omega), if_pos c10]
  rw [if_neg (by omega), if_neg c10]
  by_cases c11 : o = 11
  · have := hb (Or.inl c11)
    rw [if_pos (by omega), if_pos c11, if_neg this]
    by_cases c : b = -1
    · rw [if_pos c, if_pos c]
    · rw [if_neg c, if_neg c, if_pos this]
  rw [if_neg (by omega), if_neg c11]
  by_cases c12 : o = 12
  · have := hb (Or.inr c12)
    rw [if_pos (by omega), if_pos c12, if_neg this]
    by_cases c : b = -1
    · rw [if_pos c, if_pos c]
    · rw [if_neg c, if_neg c, if_pos this]
  rw [if_neg (by omega), if_neg c12]
  by_cases c13 : o = 13
  · rw [if_pos (by omega), if_pos c13]
  rw [if_neg (by omega), if_neg c13]
  by_cases c14 : o = 14
  · rw [if_pos (by omega), if_pos c14]
  rw [if_neg (by omega), if_neg c14]
  by_cases c15 : o = 15
  · rw [if_pos (by omega), if_pos c15]
  rw [if_neg (by omega), if_neg c15]
  by_cases c16 : o = 16
  · rw [if_pos (by omega), if_pos c16]
  rw [if_neg (by omega), if_neg c16]
theorem x_calc (hk : pKX p Q) (h : cXx S Q p A σ) (hm : mOk p m) (ht : mTop p m x t) (hc : cMm S m) (ho : 8 ≤ x.1 ∧ x.1 ≤ 18) : pfO p inp m (m.pc m.d) x S := by
  obtain ⟨b1, b2, b3, b4, b5⟩ := x_at hk hm ht hc
  obtain ⟨⟨xb, e, hp⟩, -, hV⟩ := m_at hk ht
  obtain ⟨⟨p1, -⟩, ⟨c1, c2, c3⟩, -⟩ := id hp
  obtain ⟨t1, t2⟩ := tkX_n (bl := p.2.2.2.1) (x := x) (by omega)
  rw [t1] at c1
  have ht3 := ht.2.2.1
  rw [← ht3] at c1
  have tt := ofTk x.1 p1.1
  have hpf := x_perf h ht.1 b4
  rw [if_pos (by omega), if_neg (by omega)] at hpf
  by_cases q18 : x.1 = 18
  · have hk1 := (tt.2.2.2.2.2.1 (by omega)).1
    obtain ⟨n0, -⟩ := x_top hk hm ht hc (k := 0) (by omega)
    have n0 : ja_X2_numberAt 113 0 S = some ((m.top 0).2, S) := n0
    obtain ⟨S1, d1, d2, d3⟩ := x_leave hc b4 (k := 1) (by omega) (by omega) (1, nk_w (-(m.top 0).2))
    have d1 : ja_X2_leave 113 1 (mCv (1, nk_w (-(m.top 0).2))) S = some (0, S1) := d1
    refine pf_go (ef_18 q18) ⟨S1, ?_, mbF_m d2, d3⟩
    rw [hpf]
    unfold ja_X2_calculate
    rw [n0, bd_some, if_pos (by omega), x_int, bd_some, d1, bd_some]
  · have hk2 := (tt.2.2.2.2.1 (by omega)).1
    obtain ⟨n0, -⟩ := x_top hk hm ht hc (k := 0) (by omega)
    obtain ⟨n1, -⟩ := x_top hk hm ht hc (k := 1) (by omega)
    have n0 : ja_X2_numberAt 113 0 S = some ((m.top 0).2, S) := n0
    have n1 : ja_X2_numberAt 113 1 S = some ((m.top 1).2, S) := n1
    have ef := ef_17 (p := p) (inp := inp) (m := m) (i := m.pc m.d) (x := x) (by omega)
    by_cases cz : (x.1 = 11 ∨ x.1 = 12) ∧ (m.top 0).2 = 0
    · rw [if_pos cz] at ef
      refine pf_rz ef ?_
      rw [hpf]
      unfold ja_X2_calculate ja_X2_calculate_b35
      rw [n0, bd_some, if_neg (by omega), if_pos cz.2, bd_eta]
      rcases cz.1 with q | q
      · rw [if_pos (by omega)]; rfl
      · rw [if_neg (by omega), if_pos (by omega)]; rfl
    · rw [if_neg cz] at ef
      obtain ⟨S1, d1, d2, d3⟩ := x_leave hc b4 (k := 2) (by omega) (by omega) (1, mCl x.1 (m.top 1).2 (m.top 0).2)
      have d1 : ja_X2_leave 113 2 (mCv (1, mCl x.1 (m.top 1).2 (m.top 0).2)) S = some (0, S1) := d1
      refine pf_go ef ⟨S1, ?_, mbF_m d2, d3⟩
      have b46 : ja_X2_calculate_b46 113 (x.1 : Int) (m.top 0).2 S = some (0, S1) := by
        unfold ja_X2_calculate_b46
        rw [n1, bd_some, x_cal (by omega) (fun q r => cz ⟨q, r⟩), bd_some, x_int, bd_some, d1, bd_some]
      rw [hpf]
      unfold ja_X2_calculate ja_X2_calculate_b35
      rw [n0, bd_some, if_neg (by omega), b46]
      by_cases q11 : x.1 = 11
      · rw [if_pos (by omega), if_neg (fun r => cz ⟨Or.inl q11, r⟩)]
      · rw [if_neg (by omega)]
        by_cases q12 : x.1 = 12
        · rw [if_pos (by omega), if_neg (fun r => cz ⟨Or.inr q12, r⟩)]
        · rw [if_neg (by omega)]
/-- does it hold -/
theorem x_holds {o : Nat} (h : 20 ≤ o ∧ o ≤ 29) (a b : jV) (T : nk_S) : ja_X2_holds (o : Int) (if o = 26 ∨ o = 27 then 0 else a.2) b.2 T = some (bi (mWy o a b), T) := by
  unfold ja_X2_holds mWy
  by_cases c26 : o = 26
  · rw [if_neg (by omega), if_neg (by omega), if_neg (by omega), if_neg (by omega), if_neg (by omega), if_neg (by omega), if_pos (by omega), if_pos (Or.inl c26), if_neg (by omega), if_neg (by omega), if_neg (by omega), if_neg (by omega), if_neg (by omega), if_neg (by omega), if_pos c26]
    unfold ja_X2_holds_b56
    by_cases d : b.2 = 0
    · rw [if_pos d.symm, decide_eq_true d]; rfl
    · rw [if_neg (fun q => d q.symm), decide_eq_false d]; rfl
  by_cases c27 : o = 27
  · rw [if_neg (by omega), if_neg (by omega), if_neg (by omega), if_neg (by omega), if_neg (by omega), if_neg (by omega), if_neg (by omega), if_pos (by omega), if_pos (Or.inr c27), if_neg (by omega), if_neg (by omega), if_neg (by omega), if_neg (by omega), if_neg (by omega), if_neg (by omega), if_neg c26]
    unfold ja_X2_holds_b67
    by_cases d : b.2 = 0
    · rw [if_pos d.symm, decide_eq_false (fun q => q d)]; rfl
    · rw [if_neg (fun q => d q.symm), decide_eq_true d]; rfl
  rw [if_neg (show ¬ (o = 26 ∨ o = 27) by omega)]
  have eqq : ∀ T, ja_X2_holds_b56 a.2 b.2 T = some (bi (decide (a.2 = b.2)), T) := fun T => by
    unfold ja_X2_holds_b56
    by_cases d : a.2 = b.2
    · rw [if_pos d, decide_eq_true d]; rfl
    · rw [if_neg d, decide_eq_false d]; rfl
  have nee : ∀ T, ja_X2_holds_b67 a.2 b.2 T = some (bi (decide (a.2 ≠ b.2)), T) := fun T => by
    unfold ja_X2_holds_b67
    by_cases d : a.2 = b.2
    · rw [if_pos d, decide_eq_false (fun q => q d)]; rfl
    · rw [if_neg d, decide_eq_true d]; rfl
  by_cases c20 : o = 20
  · rw [if_pos (by omega), if_pos (by omega), eqq]
  by_cases c21 : o = 21
  · rw [if_neg (by omega), if_pos (by omega), if_neg (by omega), if_pos (by omega), nee]
  by_cases c28 : o = 28
  · rw [if_neg (by omega), if_neg (by omega), if_neg (by omega), if_neg (by omega), if_neg (by omega), if_neg (by omega), if_neg (by omega), if_neg (by omega), if_pos (by omega), if_pos (by omega), eqq]
  by_cases c29 : o = 29
  · rw [if_neg (by omega), if_neg (by omega), if_neg (by omega), if_neg (by omega), if_neg (by omega), if_neg (by omega), if_neg (by omega), if_neg (by omega), if_neg (by omega), if_pos (by omega), if_neg (by omega), if_pos (by omega), nee]
  rw [if_neg (by omega), if_neg (by omega), if_neg (show ¬ (o = 20 ∨ o = 28) by omega), if_neg (show ¬ (o = 21 ∨ o = 29) by omega)]
  by_cases c22 : o = 22
  · rw [if_pos (by omega), if_pos c22]
    by_cases d : a.2 < b.2
    · rw [if_neg (by omega), decide_eq_true d]; rfl
    · rw [if_pos (by omega), decide_eq_false d]; rfl
  rw [if_neg (by omega), if_neg c22]
  by_cases c23 : o = 23
  · rw [if_pos (by omega), if_pos c23]
    by_cases d : a.2 ≤ b.2
    · rw [if_neg (by omega), decide_eq_true d]; rfl
    · rw [if_pos (by omega), decide_eq_false d]; rfl
  rw [if_neg (by omega), if_neg c23]
  by_cases c24 : o = 24
  · rw [if_pos (by omega), if_pos c24]
    by_cases d : b.2 < a.2
    · rw [if_neg (by omega), decide_eq_true d]; rfl
    · rw [if_pos (by omega), decide_eq_false d]; rfl
  rw [if_neg (by omega), if_neg c24, if_pos (by omega), if_pos (by omega)]
  unfold ja_X2_holds_b111
  by_cases d : b.2 ≤ a.2
  · rw [if_neg (by omega), decide_eq_true d]; rfl
  · rw [if_pos (by omega), decide_eq_false d]; rfl
theorem x_b44 (h : cXx S Q p A σ) (ht : mTop p m x t) (hc : cMm S m) (hx : x.1 < 46) (hp : m.pc m.d < 1024) (hk : tkT x.1 ≤ m.hs m.d) (b : Bool) (hg : b = true → ∃ g : Nat, x.2.1 = (g : Int)) : ∃ S', ja_X2_jump_b44 113 (m.pc m.d : Int) (x.1 : Int) (bi b) S = some (0, S') ∧ mkF S S' ∧ cMm S' ((m.drp (tkT x.1)).go (if b = true then x.2.1.toNat else m.pc m.d + 1)) := by
  obtain ⟨S1, f1, f2, f3⟩ := x_drop hc hk
  have hob : (((ja_ob 46).getD (x.1 : Int).toNat 0).toInt) = ((tkT x.1 : Nat) : Int) := by
    rw [Int.toNat_natCast]
    exact (tk_tb x.1 hx).1
  have h5 : S1.1 113 5 = (m.d : Int) := f3.1.1.1
  have hd := hc.1.1.2
  unfold ja_X2_jump_b44
  rw [if_pos (in_i (N := 46) (by omega)), hob, f1, bd_some]
  cases b with
  | false =>
    obtain ⟨g1, g2⟩ := x_goto f3 (m.pc m.d + 1)
    refine ⟨_, ?_, mkF_trans (mbF_m f2) (mbF_m g1), g2⟩
    rw [if_pos (show bi false = 0 from rfl), h5, if_pos (in_i (N := 64) (by omega)), jc_113_3, w_nat1 (by omega), lt_eq, Int.toNat_natCast]
    rfl
  | true =>
    obtain ⟨g, hg⟩ := hg rfl
    obtain ⟨g1, g2⟩ := x_goto f3 x.2.1.toNat
    have hxx := cXx_f (mbF_m f2) h
    refine ⟨_, ?_, mkF_trans (mbF_m f2) (mbF_m g1), g2⟩
    rw [if_neg (show ¬ bi true = 0 by decide), if_pos (in_i (N := 1024) (by omega)), h5, if_pos (in_i (N := 64) (by omega)), jc_113_3, hxx.2.1, (jc_Qp h.1).2.2.1, Int.toNat_natCast, Int.toNat_natCast, (cx_op hxx ht.1).2.1, lt_eq, hg, Int.toNat_natCast]
    rfl
theorem x_jump (hk : pKX p Q) (h : cXx S Q p A σ) (hm : mOk p m) (ht : mTop p m x t) (hc : cMm S m) (ho : 19 ≤ x.1 ∧ x.1 ≤ 29) : pfO p inp m (m.pc m.d) x S := by
  obtain ⟨b1, b2, b3, b4, b5⟩ := x_at hk hm ht hc
  obtain ⟨⟨xb, e, hp⟩, -, hV⟩ := m_at hk ht
  obtain ⟨⟨p1, -⟩, ⟨c1, c2, c3⟩, -, pj, -⟩ := id hp
  obtain ⟨t1, t2⟩ := tkX_n (bl := p.2.2.2.1) (x := x) (by omega)
  rw [t1] at c1
  have ht3 := ht.2.2.1
  rw [← ht3] at c1
  have tt := ofTk x.1 p1.1
  have hpf := x_perf h ht.1 b4
  rw [if_pos (by omega), if_pos (by omega), if_neg (by omega)] at hpf
  have hg : ∃ g : Nat, x.2.1 = (g : Int) := by
    obtain ⟨g, g1, -⟩ := pj (by omega)
    exact ⟨g, g1⟩
  clear pj
  by_cases q19 : x.1 = 19
  · obtain ⟨S1, d1, d2, d3⟩ := x_b44 h ht hc b5 b4 c1 true (fun _ => hg)
    refine pf_go (ef_19 q19) ⟨S1, ?_, d2, ?_⟩
    · rw [hpf]
      unfold ja_X2_jump ja_X2_jump_b39
      rw [if_pos (by omega)]
      exact d1
    · rw [(tt.2.2.2.2.2.2.2.2.2.2.2.2.2.1 q19).1, drp_0, if_pos rfl] at d3
      exact d3
  · have h20 : 20 ≤ x.1 ∧ x.1 ≤ 29 := by omega
    have htk := (tk_tabs x.1 p1.1).2 h20
    have hk1 : 1 ≤ tkT x.1 := by rw [htk.1]; split <;> omega
    obtain ⟨n0, -⟩ := x_top hk hm ht hc (k := 0) (by omega)
    have n0 : ja_X2_numberAt 113 0 S = some ((m.top 0).2, S) := n0
    obtain ⟨S1, d1, d2, d3⟩ := x_b44 h ht hc b5 b4 c1 (mWy x.1 (m.top 1) (m.top 0)) (fun _ => hg)
    refine pf_go (ef_29 h20) ⟨S1, ?_, d2, d3⟩
    have b28 : ja_X2_jump_b28 113 (m.pc m.d : Int) (x.1 : Int) (x.1 : Int) (if x.1 = 26 ∨ x.1 = 27 then 0 else (m.top 1).2) S = some (0, S1) := by
      unfold ja_X2_jump_b28 ja_X2_jump_b39
      rw [n0, bd_some, x_holds h20, bd_some]
      cases hw : mWy x.1 (m.top 1) (m.top 0) with
      | false =>
        rw [hw] at d1
        rw [if_pos (show bi false = 0 from rfl)]
        exact d1
      | true =>
        rw [hw] at d1
        rw [if_neg (show ¬ bi true = 0 by decide)]
        exact d1
    rw [hpf]
    unfold ja_X2_jump ja_X2_jump_b19
    rw [if_neg (by omega)]
    by_cases q26 : x.1 = 26
    · rw [if_pos (by omega)]
      rw [if_pos (Or.inl q26)] at b28
      exact b28
    · rw [if_neg (by omega)]
      by_cases q27 : x.1 = 27
      · rw [if_pos (by omega)]
        rw [if_pos (Or.inr q27)] at b28
        exact b28
      · rw [if_neg (by omega)]
        rw [if_neg (by omega)] at b28
        rw [if_neg (by omega)] at htk
        obtain ⟨n1, -⟩ := x_top hk hm ht hc (k := 1) (by omega)
        have n1 : ja_X2_numberAt 113 1 S = some ((m.top 1).2, S) := n1
        rw [n1, bd_some]
        exact b28
end CCA
