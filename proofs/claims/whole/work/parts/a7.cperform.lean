/-! Types: what the class does at an instruction. -/
theorem jcB {Q : Nat} (hQ : Q = 13 ∨ Q = 49) : ja_c (Q + 9) 5 = Q + 13 ∧ ja_c (Q + 9) 6 = Q + 14 ∧ ja_c (Q + 9) 7 = Q + 15 ∧ ja_c (Q + 9) 8 = Q + 16 := by rcases hQ with rfl | rfl <;> exact ⟨rfl, rfl, rfl, rfl⟩
theorem cPg_c {S S' : nk_S} {Q : Nat} {p : jP} (k : ∀ a, Q ≤ a → a < Q + 36 → a ≠ Q + 30 → S'.1 a = S.1 a) (h : cPg S Q p) : cPg S' Q p := by
  unfold cPg cU cB0 cEl cJL cCd cSl cKl cTh tC at h ⊢
  rw [k Q (by omega) (by omega) (by omega), k (Q + 1) (by omega) (by omega) (by omega), k (Q + 2) (by omega) (by omega) (by omega), k (Q + 3) (by omega) (by omega) (by omega), k (Q + 4) (by omega) (by omega) (by omega), k (Q + 6) (by omega) (by omega) (by omega), k (Q + 7) (by omega) (by omega) (by omega), k (Q + 9) (by omega) (by omega) (by omega), k (Q + 10) (by omega) (by omega) (by omega), k (Q + 12) (by omega) (by omega) (by omega), k (Q + 13) (by omega) (by omega) (by omega), k (Q + 14) (by omega) (by omega) (by omega), k (Q + 15) (by omega) (by omega) (by omega), k (Q + 16) (by omega) (by omega) (by omega), k (Q + 18) (by omega) (by omega) (by omega), k (Q + 19) (by omega) (by omega) (by omega), k (Q + 20) (by omega) (by omega) (by omega), k (Q + 21) (by omega) (by omega) (by omega), k (Q + 22) (by omega) (by omega) (by omega), k (Q + 23) (by omega) (by omega) (by omega), k (Q + 23 + 1) (by omega) (by omega) (by omega), k (Q + 25) (by omega) (by omega) (by omega), k (Q + 26) (by omega) (by omega) (by omega), k (Q + 27) (by omega) (by omega) (by omega), k (Q + 28) (by omega) (by omega) (by omega), k (Q + 29) (by omega) (by omega) (by omega), k (Q + 31) (by omega) (by omega) (by omega), k (Q + 32) (by omega) (by omega) (by omega), k (Q + 33) (by omega) (by omega) (by omega), k (Q + 34) (by omega) (by omega) (by omega), k (Q + 35) (by omega) (by omega) (by omega)]
  exact h
/-- what the class sees while it looks at a body's types -/
def cTv (S : nk_S) (Q : Nat) (p : jP) (e : Nat × Nat × Nat × Nat) (M : Nat → Nat) : Prop := S.2 86 0 = Q ∧ S.2 86 1 = Q + 1 ∧ cPg S Q p ∧ ∀ i, e.1 ≤ i → i < e.2.1 → S.1 (Q + 30) i = (hgt (M i) : Int)
theorem cTv_F {S S' : nk_S} {Q : Nat} (hQ : Q = 13 ∨ Q = 49) {p : jP} {e : Nat × Nat × Nat × Nat} {M : Nat → Nat} (h2 : S'.2 = S.2) (h : ∀ a, a < 86 → S'.1 a = S.1 a) (hv : cTv S Q p e M) : cTv S' Q p e M := by
  obtain ⟨v1, v2, v3, v4⟩ := hv
  exact ⟨by rw [h2]; exact v1, by rw [h2]; exact v2, cPg_c (fun a _ x _ => h a (by omega)) v3, fun i h1 h3 => by rw [h (Q + 30) (by omega)]; exact v4 i h1 h3⟩
theorem tk_op : tkT 3 = 1 ∧ tkT 5 = 1 ∧ tkT 7 = 2 ∧ tkT 33 = 2 ∧ lvT 3 = 0 ∧ lvT 5 = 2 ∧ lvT 7 = 2 ∧ lvT 33 = 1 := by decide +kernel
theorem lv_1 : ∀ o : Nat, o < 46 → o ≠ 5 → o ≠ 7 → lvT o ≤ 1 := by decide +kernel
theorem fK_loc : fK 2 = 2 ∧ fK 3 = 2 ∧ fK 4 = 3 := by decide +kernel
theorem tkX_n {bl : List jB} {x : jC} (h : ¬ (x.1 = 39 ∨ x.1 = 40)) : tkX bl x = tkT x.1 ∧ lvX bl x = lvT x.1 := by
  unfold tkX lvX
  rw [if_neg h, if_neg h]
  exact ⟨rfl, rfl⟩
section CPF
variable {ns : List (List Int)} {us : List Int} {fl : List (List Int × Nat × Int)} {bl : List jB} {z : jL} {el : List (Nat × Nat × Nat × Nat)} {b : Nat} {xb : jB} {e : Nat × Nat × Nat × Nat} {M : Nat → Nat} {Q : Nat}
theorem tk_b (h : tCx ns us fl bl z b xb e M) {i : Nat} {x : jC} (h1 : e.1 ≤ i) (h2 : i < e.2.1) (hx : z.1[i]? = some x) (h0 : M i ≠ 0) : tkX bl x ≤ hgt (M i) ∧ hgt (M i) - tkX bl x + lvX bl x ≤ 8 ∧ hgt (M i) ≤ 8 := by
  obtain ⟨k1, k2, k3, -⟩ := h.2.1.2.2 i x h1 h2 hx h0
  exact ⟨k1, k2, k3⟩
theorem lc_12 (h : tCx ns us fl bl z b xb e M) : xb.lc.toNat ≤ 12 ∧ ((xb.lc.toNat : Nat) : Int) = xb.lc ∧ xb.ps.length ≤ xb.lc.toNat := by
  obtain ⟨-, -, -, -, -, -, -, -, -, l1, l2, -⟩ := h
  omega
theorem cW_at (h : tCx ns us fl bl z b xb e M) {i : Nat} {x : jC} (h1 : e.1 ≤ i) (h2 : i < e.2.1) (hx : z.1[i]? = some x) : x.2.2.2.1 = b ∧ cW ns us fl bl z.2.1 e.1 e.2.1 xb.lc x ∧ i < 1024 := by
  have w := h.1
  have hl := h.2.2.2.2.2.2.2.2.2.2.2.2.2.2.1
  have := w.2.2.1
  obtain ⟨q1, q2⟩ := w.2.2.2.1 i x h1 h2 hx
  exact ⟨q1, q2, by omega⟩
theorem c_arrQ {S : nk_S} {t : Int} (h : 0 ≤ t ∧ t < 100) : ja_X1_isArray t S = some (bi (tAr t), S) := by
  unfold ja_X1_isArray tAr
  by_cases c1 : t = 3
  · rw [if_pos c1, decide_eq_true c1, Bool.true_or]; rfl
  rw [if_neg c1, decide_eq_false c1, Bool.false_or]
  by_cases c2 : t ≤ 4
  · rw [if_pos c2, decide_eq_false (by omega), Bool.false_and]; rfl
  rw [if_neg c2, decide_eq_true (by omega), Bool.true_and, iand1 h]
  by_cases c3 : t % 2 = 1
  · rw [if_pos c3, decide_eq_true c3]; rfl
  · rw [if_neg c3, decide_eq_false c3]; rfl
theorem c_elt {S : nk_S} {t : Int} (h : 0 ≤ t ∧ t < 100) : ja_X1_element t S = some (tEl t, S) := by
  unfold ja_X1_element tEl
  by_cases c1 : t = 3
  · rw [if_pos c1, if_pos c1]
  · rw [if_neg c1, if_neg c1, nk_w_id (by omega) (by omega)]
theorem c_left (hQ : Q = 13 ∨ Q = 49) (h : tCx ns us fl bl z b xb e M) {S : nk_S} (hv : cTv S Q (ns, us, fl, bl, z, el) e M) {i : Nat} {x : jC} (h1 : e.1 ≤ i) (h2 : i < e.2.1) (hx : z.1[i]? = some x) (h0 : M i ≠ 0) {u : Nat → Int} (hu : ∀ k, tV us (u k)) (h91 : ∀ k, rel xb.lc.toNat (hgt (M i)) k → S.1 91 k = u k) : ja_X9_leftType 86 (i : Int) ((12 + hgt (M i) - tkX bl x : Nat) : Int) S = some (tLf fl bl z.2.1 x u (12 + hgt (M i) - tkX bl x), S) := by
  obtain ⟨v1, v2, v3, v4⟩ := hv
  obtain ⟨hbo, hcw, hi⟩ := cW_at h h1 h2 hx
  obtain ⟨t1, t2, t3⟩ := tk_b h h1 h2 hx h0
  obtain ⟨l1, l2, l3⟩ := lc_12 h
  have hJ : cJL S Q z := v3.2.2.2.2.2.2.2.2.1
  have hF : ∀ (f : Nat) (x : List Int × Nat × Int), fl[f]? = some x → S.1 (Q + 6) f = (x.2.1 : Int) ∧ S.1 (Q + 7) f = x.2.2 := v3.2.2.1
  have hB : ∀ (b : Nat) (y : jB), bl[b]? = some y → cB0 S Q b y := v3.2.2.2.2.2.1
  obtain ⟨c1, c2, c3, c4, c5⟩ := hJ.1.2 i x hx
  have i1024 : (0 : Int) ≤ (i : Int) ∧ (i : Int) < 1024 := in_i (N := 1024) (by omega)
  have hfl := h.2.2.2.2.2.2.2.2.2.2.2.2.1
  have hbl := h.2.2.2.2.2.2.2.2.2.2.2.2.2.1
  have hsl := h.2.2.2.2.2.2.2.2.2.2.2.2.2.2.2.1
  unfold ja_X9_leftType tLf
  rw [if_pos i1024, lt_eq, lt_eq, v1, (jc_Qp hQ).2.1, (jc_Qp hQ).2.2.1, Int.toNat_natCast, c1, c2]
  by_cases d1 : x.1 = 1
  · rw [if_pos (by omega), if_pos d1]
  rw [if_neg (by omega), if_neg d1]
  by_cases d2 : x.1 = 2
  · obtain ⟨n1, n2⟩ := hcw.2.2.1 (Or.inl (by rw [d2]; exact fK_loc.1))
    rw [if_pos (by omega), if_pos d2, if_pos (by omega), jc_86_6, h91 _ (by unfold rel; omega)]
  rw [if_neg (by omega), if_neg d2]
  by_cases d3 : x.1 = 30 ∨ x.1 = 31
  · obtain ⟨k, t, k1, k2, k3⟩ := hcw.2.2.2.2.2.2.2.1 d3
    have hk := at_lt k2
    have e109 : ja_X9_leftType_b109 86 (i : Int) S = some (z.2.1.getD x.2.2.1.toNat 0, S) := by
      unfold ja_X9_leftType_b109
      rw [if_pos i1024, v1, (jc_Qp hQ).2.2.2.1, (jc_Qp hQ).2.2.2.2.2.2.2.1, Int.toNat_natCast, c3, k1, if_pos (in_i (N := 54) (by omega)), Int.toNat_natCast, hJ.2.1.2.1 k t k2, List.getD_eq_getElem?_getD, k2]
      rfl
    rw [if_pos d3, e109]
    rcases d3 with d | d
    · rw [if_pos (by omega)]
    · rw [if_neg (by omega), if_pos (by omega)]
  rw [if_neg d3, if_neg (by omega), if_neg (by omega)]
  by_cases d4 : x.1 = 33
  · have e2 : tkX bl x = 2 := by rw [(tkX_n (by omega)).1, d4]; exact tk_op.2.2.2.1
    rw [e2] at t1 ⊢
    have hr : rel xb.lc.toNat (hgt (M i)) (12 + hgt (M i) - 2) := by unfold rel; omega
    have hul := hu (12 + hgt (M i) - 2)
    have h32 := h.2.2.2.2.2.2.1
    have hl := h.2.2.2.2.1
    rw [if_pos (by omega), if_pos d4, if_pos (in_i (N := 20) (by omega)), jc_86_6, Int.toNat_natCast, h91 _ hr]
    by_cases d5 : u (12 + hgt (M i) - 2) = 2
    · rw [if_pos d5, if_pos d5]
    rw [if_neg d5, if_neg d5, c_arrQ (by unfold tV at hul; omega), bd_some]
    cases hA : tAr (u (12 + hgt (M i) - 2)) with
    | false => rw [if_pos (show bi false = 0 from rfl), if_neg (by decide)]
    | true => rw [if_neg (show ¬ bi true = 0 by decide), h91 _ hr, c_elt (by unfold tV at hul; omega), bd_some, if_pos rfl]
  rw [if_neg (by omega), if_neg d4]
  by_cases d5 : x.1 = 35
  · obtain ⟨f, c, q1, q2, q3, q4, y, q5, q6⟩ := hcw.2.2.2.2.2.1 (Or.inl d5)
    rw [if_pos (by omega), if_pos d5, q1, if_pos (in_i (N := 48) (by omega)), v2, (jc_Qf hQ).2.2.1, Int.toNat_natCast, (hF f y q5).2, q5]
  rw [if_neg (by omega), if_neg d5]
  by_cases d6 : x.1 = 37
  · rw [if_pos (by omega), if_pos d6]
  rw [if_neg (by omega), if_neg d6]
  by_cases d7 : x.1 = 39 ∨ x.1 = 40
  · obtain ⟨f, c, y, q1, q2, q3, -⟩ := hcw.2.2.2.2.2.2.1 d7
    have hf := at_lt q2
    have e180 : ja_X9_leftType_b180 86 x.2.1 S = some (y.rs, S) := by
      unfold ja_X9_leftType_b180
      rw [q1, if_pos (in_i (N := 48) (by omega)), v1, (jc_Qf hQ).2.2.2.2, (jcB hQ).2.2.1, Int.toNat_natCast, (hB f y q2).2.2.2.2.1]
    have eR : bl[x.2.1.toNat]? = some y := by rw [q1, Int.toNat_natCast]; exact q2
    rw [if_pos d7, e180]
    simp only [eR]
    rcases d7 with d | d
    · rw [if_pos (by omega)]
    · rw [if_neg (by omega), if_pos (by omega)]
  rw [if_neg d7, if_neg (by omega), if_neg (by omega)]
theorem c_perf (hQ : Q = 13 ∨ Q = 49) (h : tCx ns us fl bl z b xb e M) {S : nk_S} (hv : cTv S Q (ns, us, fl, bl, z, el) e M) {i : Nat} {x : jC} (h1 : e.1 ≤ i) (h2 : i < e.2.1) (hx : z.1[i]? = some x) (h0 : M i ≠ 0) {u : Nat → Int} (hu : ∀ k, tV us (u k)) (h91 : ∀ k, rel xb.lc.toNat (hgt (M i)) k → S.1 91 k = u k) : ∃ S', ja_X9_perform 86 (i : Int) S = some (bi (tPf fl bl z.2.1 x (hgt (M i)) u).isSome, S') ∧ S'.2 = S.2 ∧ (∀ a, a ≠ 91 → S'.1 a = S.1 a) ∧ ∀ v, tPf fl bl z.2.1 x (hgt (M i)) u = some v → ∀ k, rel xb.lc.toNat (hgt (M i) - tkX bl x + lvX bl x) k → S'.1 91 k = v k := by
  have hv0 := hv
  obtain ⟨v1, v2, v3, v4⟩ := hv
  obtain ⟨hbo, hcw, hi⟩ := cW_at h h1 h2 hx
  obtain ⟨t1, t2, t3⟩ := tk_b h h1 h2 hx h0
  obtain ⟨l1, l2, l3⟩ := lc_12 h
  have hJ : cJL S Q z := v3.2.2.2.2.2.2.2.2.1
  have hB : ∀ (b : Nat) (y : jB), bl[b]? = some y → cB0 S Q b y := v3.2.2.2.2.2.1
  obtain ⟨c1, c2, c3, c4, c5⟩ := hJ.1.2 i x hx
  have i1024 : (0 : Int) ≤ (i : Int) ∧ (i : Int) < 1024 := in_i (N := 1024) (by omega)
  have hbl := h.2.2.2.2.2.2.2.2.2.2.2.2.2.1
  have ht := c_takes hQ hi c1 c2 (fun b y hy => (hB b y hy).2.2.1) hbl hcw
  have hl := c_leaves hQ hi c1 c2 (fun b y hy => (hB b y hy).2.2.2.2.1) hbl hcw
  have hlf := c_left hQ h hv0 h1 h2 hx h0 hu h91
  obtain ⟨g, hg⟩ : ∃ g, g = hgt (M i) := ⟨_, rfl⟩
  have v4i := v4 i h1 h2
  rw [← hg] at t1 t2 t3 h91 hlf v4i ⊢
  obtain ⟨k3, k5, k7, k33, r3, r5, r7, r33⟩ := tk_op
  have hstart : ja_X9_perform 86 (i : Int) S = if (x.1 : Int) = 3 then (if (0 : Int) ≤ ((12 + g - tkX bl x : Nat) : Int) ∧ ((12 + g - tkX bl x : Nat) : Int) < 20 then (if 0 ≤ x.2.1 ∧ x.2.1 < 20 then some (1, nk_wi S 91 x.2.1.toNat (S.1 91 (12 + g - tkX bl x))) else none) else none) else if (x.1 : Int) = 4 then ja_X9_perform_b138 86 (i : Int) ((12 + g - tkX bl x : Nat) : Int) S else if (x.1 : Int) = 5 then (if (0 : Int) ≤ ((12 + g - tkX bl x : Nat) : Int) ∧ ((12 + g - tkX bl x : Nat) : Int) < 20 then (if (0 : Int) ≤ ((12 + g : Nat) : Int) ∧ ((12 + g : Nat) : Int) < 20 then some (1, nk_wi S 91 (12 + g) (S.1 91 (12 + g - tkX bl x))) else none) else none) else if (x.1 : Int) = 6 then ja_X9_perform_b138 86 (i : Int) ((12 + g - tkX bl x : Nat) : Int) S else if (x.1 : Int) = 7 then (if (0 : Int) ≤ ((12 + g - tkX bl x : Nat) : Int) ∧ ((12 + g - tkX bl x : Nat) : Int) < 20 then (if (0 : Int) ≤ ((12 + g - tkX bl x + 1 : Nat) : Int) ∧ ((12 + g - tkX bl x + 1 : Nat) : Int) < 20 then some (1, nk_wi (nk_wi S 91 (12 + g - tkX bl x) (S.1 91 (12 + g - tkX bl x + 1))) 91 (12 + g - tkX bl x + 1) (S.1 91 (12 + g - tkX bl x))) else none) else none) else ja_X9_perform_b138 86 (i : Int) ((12 + g - tkX bl x : Nat) : Int) S := by
    unfold ja_X9_perform
    rw [if_pos i1024, v1, (jc_Qp hQ).2.2.2.2.2.2.1, Int.toNat_natCast, v4i, wi12 (by omega), lt_eq, ht, bd_some, wisub (by omega) (by omega), lt_eq, lt_eq, v1, (jc_Qp hQ).2.1, (jc_Qp hQ).2.2.1, c1, c2, jc_86_6, w_nat1 (by omega), Int.toNat_natCast, Int.toNat_natCast, Int.toNat_natCast]
    rfl
  have h138 : x.1 ≠ 3 → x.1 ≠ 5 → x.1 ≠ 7 → ∃ S', ja_X9_perform_b138 86 (i : Int) ((12 + g - tkX bl x : Nat) : Int) S = some (bi (tPf fl bl z.2.1 x g u).isSome, S') ∧ S'.2 = S.2 ∧ (∀ a, a ≠ 91 → S'.1 a = S.1 a) ∧ ∀ v, tPf fl bl z.2.1 x g u = some v → ∀ k, rel xb.lc.toNat (g - tkX bl x + lvX bl x) k → S'.1 91 k = v k := by
    intro n3 n5 n7
    unfold ja_X9_perform_b138 tPf
    rw [v1, hl, bd_some, if_neg n3, if_neg n5, if_neg n7]
    by_cases c : lvX bl x = 0
    · rw [if_pos (show (lvX bl x : Int) = 0 by omega), if_pos c]
      refine ⟨S, rfl, rfl, fun _ _ => rfl, fun v hv' k hk => ?_⟩
      cases hv'
      exact h91 k (by unfold rel at hk ⊢; omega)
    rw [if_neg (show ¬ (lvX bl x : Int) = 0 by omega), if_neg c, hlf, bd_some, if_pos (in_i (N := 20) (by omega)), lt_eq, jc_86_6, Int.toNat_natCast, wi_at, if_pos rfl]
    have e1 : lvX bl x ≤ 1 := by
      by_cases q : x.1 = 39 ∨ x.1 = 40
      · obtain ⟨f, y, -, -, -, q4⟩ := call_at hcw q
        rw [q4]
        split <;> omega
      · rw [(tkX_n q).2]; exact lv_1 x.1 hcw.1 n5 n7
    by_cases c3 : tLf fl bl z.2.1 x u (12 + g - tkX bl x) = -3
    · rw [if_pos c3, if_pos c3]
      exact ⟨_, rfl, rfl, fun a ha => wi_n ha, fun v hv' => by cases hv'⟩
    · rw [if_neg c3, if_neg c3]
      refine ⟨_, rfl, rfl, fun a ha => wi_n ha, fun v hv' k hk => ?_⟩
      cases hv'
      rw [wi_at]
      unfold tUp
      by_cases q : k = 12 + g - tkX bl x
      · rw [if_pos q, if_pos q]
      · rw [if_neg q, if_neg q]
        exact h91 k (by unfold rel at hk ⊢; omega)
  rw [hstart]
  clear hstart
  by_cases d3 : x.1 = 3
  · have e1 : tkX bl x = 1 ∧ lvX bl x = 0 := by rw [(tkX_n (by omega)).1, (tkX_n (by omega)).2, d3]; exact ⟨k3, r3⟩
    obtain ⟨n1, n2⟩ := hcw.2.2.1 (Or.inl (by rw [d3]; exact fK_loc.2.1))
    rw [if_pos (by omega), if_pos (in_i (N := 20) (by omega)), if_pos (by omega)]
    refine ⟨nk_wi S 91 x.2.1.toNat (S.1 91 (12 + g - tkX bl x)), by unfold tPf; rw [if_pos d3]; rfl, rfl, fun a ha => wi_n ha, fun v hv' k hk => ?_⟩
    unfold tPf at hv'
    rw [if_pos d3] at hv'
    cases hv'
    rw [wi_at, e1.1]
    unfold tUp
    by_cases q : k = x.2.1.toNat
    · rw [if_pos q, if_pos q]; exact h91 _ (by unfold rel; omega)
    · rw [if_neg q, if_neg q]; exact h91 k (by unfold rel at hk ⊢; omega)
  rw [if_neg (by omega)]
  by_cases d4 : x.1 = 4
  · rw [if_pos (by omega)]; exact h138 d3 (by omega) (by omega)
  rw [if_neg (by omega)]
  by_cases d5 : x.1 = 5
  · have e1 : tkX bl x = 1 ∧ lvX bl x = 2 := by rw [(tkX_n (by omega)).1, (tkX_n (by omega)).2, d5]; exact ⟨k5, r5⟩
    rw [if_pos (by omega), if_pos (in_i (N := 20) (by omega)), if_pos (in_i (N := 20) (by omega))]
    refine ⟨nk_wi S 91 (12 + g) (S.1 91 (12 + g - tkX bl x)), by unfold tPf; rw [if_neg d3, if_pos d5]; rfl, rfl, fun a ha => wi_n ha, fun v hv' k hk => ?_⟩
    unfold tPf at hv'
    rw [if_neg d3, if_pos d5] at hv'
    cases hv'
    rw [wi_at, e1.1]
    unfold tUp
    by_cases q : k = 12 + g
    · rw [if_pos q, if_pos q]; exact h91 _ (by unfold rel; omega)
    · rw [if_neg q, if_neg q]; exact h91 k (by unfold rel at hk ⊢; omega)
  rw [if_neg (by omega)]
  by_cases d6 : x.1 = 6
  · rw [if_pos (by omega)]; exact h138 d3 d5 (by omega)
  rw [if_neg (by omega)]
  by_cases d7 : x.1 = 7
  · have e1 : tkX bl x = 2 ∧ lvX bl x = 2 := by rw [(tkX_n (by omega)).1, (tkX_n (by omega)).2, d7]; exact ⟨k7, r7⟩
    rw [if_pos (by omega), if_pos (in_i (N := 20) (by omega)), if_pos (in_i (N := 20) (by omega))]
    refine ⟨nk_wi (nk_wi S 91 (12 + g - tkX bl x) (S.1 91 (12 + g - tkX bl x + 1))) 91 (12 + g - tkX bl x + 1) (S.1 91 (12 + g - tkX bl x)), by unfold tPf; rw [if_neg d3, if_neg d5, if_pos d7]; rfl, rfl, fun a ha => by rw [wi_n ha, wi_n ha], fun v hv' k hk => ?_⟩
    unfold tPf at hv'
    rw [if_neg d3, if_neg d5, if_pos d7] at hv'
    cases hv'
    rw [wi_at, wi_at, e1.1]
    unfold tUp
    by_cases q : k = 12 + g - 2 + 1
    · rw [if_pos q, if_pos q]; exact h91 _ (by unfold rel; omega)
    · rw [if_neg q, if_neg q]
      by_cases q2 : k = 12 + g - 2
      · rw [if_pos q2, if_pos q2]; exact h91 _ (by unfold rel; omega)
      · rw [if_neg q2, if_neg q2]; exact h91 k (by unfold rel at hk ⊢; omega)
  rw [if_neg (by omega)]
  exact h138 d3 d5 d7
end CPF
