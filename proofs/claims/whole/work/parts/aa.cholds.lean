/-! Types: do they suit? one function for both sides; the class. -/
/-- what an instruction wants of the k-th that it takes -/
def wn (o k : Nat) : Nat := if (8 ≤ o ∧ o ≤ 18) ∨ (20 ≤ o ∧ o ≤ 25) ∨ o = 31 ∨ o = 45 then 1 else if (26 ≤ o ∧ o ≤ 29) ∨ o = 37 ∨ o = 38 then 2 else if o = 32 then 3 else if o = 33 then (if k = 0 then 3 else 1) else if o = 34 then (if k = 0 then 3 else if k = 1 then 1 else 7) else if o = 35 then 5 else if o = 36 then (if k = 0 then 5 else 6) else if o = 41 then 8 else if o = 42 then 9 else 4
theorem wn_k : ∀ o : Nat, o < 46 → ¬ (o = 39 ∨ o = 40) → ∀ k : Nat, k < tkT o → nk_iand (nk_ishr ((ja_ob 47).getD o 0).toInt (4 * ((tkT o - 1 - k : Nat) : Int))) 15 = (wn o k : Int) := by decide +kernel
theorem wn_v : ∀ o : Nat, o < 46 → ∀ k : Nat, k < 3 → (wn o k = 5 → o = 35 ∨ o = 36) ∧ (wn o k = 6 → o = 35 ∨ o = 36) ∧ (wn o k = 7 → o = 34 ∧ k ≠ 0) := by decide +kernel
def allR (f : Nat → Bool) : Nat → Nat → Bool
  | 0, _ => true
  | d + 1, k => f k && allR f d (k + 1)
def tFty (fl : List (List Int × Nat × Int)) (x : jC) : Int := match fl[x.2.1.toNat]? with
  | some y => y.2.2
  | none => 0
/-- the type told for the k-th argument -/
def tTold (bl : List jB) (x : jC) (k : Nat) : Int := if k = 0 ∧ x.1 = 40 then 4 + 2 * x.2.2.1 else match bl[x.2.1.toNat]? with
  | some y => y.ps.getD k 0
  | none => 0
def tSu (us : List Int) (fl : List (List Int × Nat × Int)) (xb : jB) (x : jC) (w : Nat) (l t : Int) : Bool :=
  if w = 1 then decide (t = 1) else if w = 2 then decide (2 ≤ t) else if w = 3 then decide (t = 2) || tAr t else if w = 4 then true else if w = 5 then tLe us t (4 + 2 * x.2.2.1) else if w = 6 then tLe us t (tFty fl x) else if w = 7 then (if l = 2 then decide (t ≠ 0) else tLe us t (tEl l)) else if w = 8 then tLe us t 6 else decide (xb.rs ≠ -1) && tLe us t xb.rs
/-- do the types at an instruction suit it -/
def tHo (us : List Int) (fl : List (List Int × Nat × Int)) (bl : List jB) (xb : jB) (x : jC) (g : Nat) (u : Nat → Int) : Bool :=
  if x.1 = 2 then decide (u x.2.1.toNat ≠ 0) else if x.1 = 4 then decide (u x.2.1.toNat = 1) else if x.1 = 43 then decide (xb.rs = -1)
  else if x.1 = 39 ∨ x.1 = 40 then allR (fun k => tLe us (u (12 + g - tkX bl x + k)) (tTold bl x k)) (tkX bl x) 0
  else allR (fun k => tSu us fl xb x (wn x.1 k) (u (12 + g - tkX bl x)) (u (12 + g - tkX bl x + k))) (tkX bl x) 0
/-- the first instruction that the types don't suit -/
def tFw (us : List Int) (fl : List (List Int × Nat × Int)) (bl : List jB) (z : jL) (xb : jB) (M : Nat → Nat) (X : jX) : Nat → Nat → Option Nat
  | 0, _ => none
  | d + 1, i => match z.1[i]?, X i with
    | some x, some u => if tHo us fl bl xb x (hgt (M i)) u = true then tFw us fl bl z xb M X d (i + 1) else some i
    | _, _ => tFw us fl bl z xb M X d (i + 1)
section CHO
variable {ns : List (List Int)} {us : List Int} {fl : List (List Int × Nat × Int)} {bl : List jB} {z : jL} {el : List (Nat × Nat × Nat × Nat)} {b : Nat} {xb : jB} {e : Nat × Nat × Nat × Nat} {M : Nat → Nat} {Q : Nat}
/-- what is told of arguments is a type -/
theorem told_v (h : tCx ns us fl bl z b xb e M) {x : jC} (hcw : cW ns us fl bl z.2.1 e.1 e.2.1 xb.lc x) (hc : x.1 = 39 ∨ x.1 = 40) : ∃ (f c : Nat) (y : jB), x.2.1 = (f : Int) ∧ bl[f]? = some y ∧ f < 48 ∧ x.2.2.1 = (c : Int) ∧ c < us.length ∧ tkX bl x = y.ps.length ∧ y.ps.length ≤ 12 ∧ (∀ k, k < y.ps.length → tV us (tTold bl x k) ∧ 3 ≤ tTold bl x k ∨ tTold bl x k = 1) ∧ ∀ k, ¬ (k = 0 ∧ x.1 = 40) → tTold bl x k = y.ps.getD k 0 := by
  obtain ⟨w1, g, hb, huO, hl, h8, h32, tf, tb, -, -, -, -, hbl, -⟩ := h
  obtain ⟨f, c, y, q1, q2, q3, q4, q5, q6⟩ := hcw.2.2.2.2.2.2.1 hc
  obtain ⟨f', y', p1, p2, p3, -⟩ := call_at hcw hc
  have ef : f' = f := by rw [q1] at p1; omega
  rw [ef, q2] at p2
  cases p2
  have hf := at_lt q2
  have h12 := hb.1 y (List.mem_of_getElem? q2)
  have e1 : ∀ k, ¬ (k = 0 ∧ x.1 = 40) → tTold bl x k = y.ps.getD k 0 := by
    intro k hk
    unfold tTold
    rw [if_neg hk, q1, Int.toNat_natCast, q2]
  refine ⟨f, c, y, q1, q2, by omega, q4, by omega, p3, h12, fun k hk => ?_, e1⟩
  by_cases ck : k = 0 ∧ x.1 = 40
  · left
    unfold tTold
    rw [if_pos ck]
    unfold tV
    omega
  · rw [e1 k ck]
    have hm : y.ps.getD k 0 ∈ y.ps := by
      rw [List.getD_eq_getElem?_getD, List.getElem?_eq_getElem hk, Option.getD_some]
      exact List.getElem_mem hk
    obtain ⟨v1, v2⟩ := tOk_V ((tb y (List.mem_of_getElem? q2)).1 _ hm) hl
    rcases v2 with v2 | v2
    · exact Or.inr v2
    · exact Or.inl ⟨v1, v2⟩
theorem tFty_v (h : tCx ns us fl bl z b xb e M) {x : jC} (hcw : cW ns us fl bl z.2.1 e.1 e.2.1 xb.lc x) (hc : x.1 = 35 ∨ x.1 = 36) : ∃ (f c : Nat) (y : List Int × Nat × Int), x.2.1 = (f : Int) ∧ fl[f]? = some y ∧ f < 48 ∧ x.2.2.1 = (c : Int) ∧ c < us.length ∧ tFty fl x = y.2.2 ∧ tV us (tFty fl x) ∧ (tFty fl x = 1 ∨ 3 ≤ tFty fl x) := by
  obtain ⟨w1, g, hb, huO, hl, h8, h32, tf, tb, -, -, -, hfl, -⟩ := h
  obtain ⟨f, c, q1, q2, q3, q4, y, q5, q6⟩ := hcw.2.2.2.2.2.1 hc
  have e1 : tFty fl x = y.2.2 := by
    unfold tFty
    rw [q1, Int.toNat_natCast, q5]
  have := tOk_V (tf y (List.mem_of_getElem? q5)) hl
  exact ⟨f, c, y, q1, q5, by omega, q3, by omega, e1, by rw [e1]; exact this.1, by rw [e1]; exact this.2⟩
theorem c_suit (hQ : Q = 13 ∨ Q = 49) (h : tCx ns us fl bl z b xb e M) {S : nk_S} (hv : cTv S Q (ns, us, fl, bl, z, el) e M) {i : Nat} {x : jC} (h1 : e.1 ≤ i) (h2 : i < e.2.1) (hx : z.1[i]? = some x) {w : Nat} {l t : Int} (hl : tV us l) (ht : tV us t) (h5 : w = 5 → x.1 = 35 ∨ x.1 = 36) (h6 : w = 6 → x.1 = 35 ∨ x.1 = 36) (h7 : w = 7 → l = 2 ∨ tAr l = true) : ja_X9_suits 86 (i : Int) (w : Int) l t S = some (bi (tSu us fl xb x w l t), S) := by
  obtain ⟨v1, v2, v3, v4⟩ := hv
  obtain ⟨hbo, hcw, hi⟩ := cW_at h h1 h2 hx
  have hJ : cJL S Q z := v3.2.2.2.2.2.2.2.2.1
  have hF : ∀ (f : Nat) (x : List Int × Nat × Int), fl[f]? = some x → S.1 (Q + 6) f = (x.2.1 : Int) ∧ S.1 (Q + 7) f = x.2.2 := v3.2.2.1
  have hB : ∀ (b : Nat) (y : jB), bl[b]? = some y → cB0 S Q b y := v3.2.2.2.2.2.1
  have hU : cU S Q us := v3.1
  obtain ⟨c1, c2, c3, c4, c5⟩ := hJ.1.2 i x hx
  have i1024 : (0 : Int) ≤ (i : Int) ∧ (i : Int) < 1024 := in_i (N := 1024) (by omega)
  have huO := h.2.2.2.1
  have hln := h.2.2.2.2.1
  have h8 := h.2.2.2.2.2.1
  have h32 := h.2.2.2.2.2.2.1
  have hxb := h.2.2.2.2.2.2.2.2.2.2.2.1
  have tb := h.2.2.2.2.2.2.2.2.1
  have hbl := h.2.2.2.2.2.2.2.2.2.2.2.2.2.1
  have hb48 := at_lt hxb
  have ht' := ht
  have hl' := hl
  unfold tV at ht' hl'
  unfold ja_X9_suits tSu
  by_cases d1 : w = 1
  · rw [if_pos (by omega), if_pos d1]
    by_cases q : t = 1
    · rw [if_pos q, decide_eq_true q]; rfl
    · rw [if_neg q, decide_eq_false q]; rfl
  rw [if_neg (by omega), if_neg d1]
  by_cases d2 : w = 2
  · rw [if_pos (by omega), if_pos d2]
    unfold ja_X1_isRef
    by_cases q : t < 2
    · rw [if_pos q, bd_some, if_pos (Or.inl rfl), decide_eq_false (by omega)]; rfl
    · rw [if_neg q, bd_some, if_pos (Or.inr rfl), decide_eq_true (by omega)]; rfl
  rw [if_neg (by omega), if_neg d2]
  by_cases d3 : w = 3
  · rw [if_pos (by omega), if_pos d3]
    by_cases q : t = 2
    · rw [if_pos q, decide_eq_true q, Bool.true_or]; rfl
    · rw [if_neg q, decide_eq_false q, Bool.false_or, c_arrQ (by omega), bd_some]
      cases tAr t <;> rfl
  rw [if_neg (by omega), if_neg d3]
  by_cases d4 : w = 4
  · rw [if_pos (by omega), if_pos d4]; rfl
  rw [if_neg (by omega), if_neg d4]
  by_cases d5 : w = 5
  · obtain ⟨f, c, y, q1, q2, q3, q4, q5, q6, q7, q8⟩ := tFty_v h hcw (h5 d5)
    have e2 : nk_w (2 * (c : Int)) = 2 * (c : Int) := nk_w_id (by omega) (by omega)
    have e4 : nk_w (4 + 2 * (c : Int)) = 4 + 2 * (c : Int) := nk_w_id (by omega) (by omega)
    have vv : tV us (4 + 2 * (c : Int)) := by unfold tV; clear e2 e4; omega
    rw [if_pos (show (w : Int) = 5 by clear e2 e4; omega), if_pos d5, if_pos i1024, v1, (jc_Qp hQ).2.2.2.1, Int.toNat_natCast, c3, q4, e2, e4, v2, c_isBe hQ hU huO (by clear e2 e4; omega) ht vv, bd_some]
    cases tLe us t (4 + 2 * (c : Int)) <;> rfl
  rw [if_neg (by omega), if_neg d5]
  by_cases d6 : w = 6
  · obtain ⟨f, c, y, q1, q2, q3, q4, q5, q6, q7, q8⟩ := tFty_v h hcw (h6 d6)
    rw [if_pos (by omega), if_pos d6, if_pos i1024, v1, (jc_Qp hQ).2.2.1, Int.toNat_natCast, c2, q1, if_pos (in_i (N := 48) (by omega)), v2, (jc_Qf hQ).2.2.1, Int.toNat_natCast, (hF f y q2).2, ← q6, c_isBe hQ hU huO (by omega) ht q7, bd_some]
    cases tLe us t (tFty fl x) <;> rfl
  rw [if_neg (by omega), if_neg d6]
  by_cases d7 : w = 7
  · rw [if_pos (by omega), if_pos d7]
    by_cases q : l = 2
    · rw [if_pos q, if_pos q]
      by_cases q0 : t = 0
      · rw [if_pos q0, decide_eq_false (fun k => k q0)]; rfl
      · rw [if_neg q0, decide_eq_true q0]; rfl
    · have hA : tAr l = true := (h7 d7).resolve_left q
      have vv : tV us (tEl l) := by
        unfold tAr at hA
        unfold tEl tV
        by_cases q3 : l = 3
        · rw [if_pos q3]; omega
        · rw [if_neg q3]
          have : 4 < l := by
            simp [q3] at hA
            exact hA.1
          omega
      rw [if_neg q, if_neg q, c_elt (by omega), bd_some, v2, c_isBe hQ hU huO (by omega) ht vv, bd_some]
      cases tLe us t (tEl l) <;> rfl
  rw [if_neg (by omega), if_neg d7]
  by_cases d8 : w = 8
  · have vv : tV us 6 := by unfold tV; omega
    rw [if_pos (by omega), if_pos d8, v2, c_isBe hQ hU huO (by omega) ht vv, bd_some]
    cases tLe us t 6 <;> rfl
  have e29 : S.1 (Q + 29) i = (b : Int) := by rw [c5, hbo]
  rw [if_neg (by omega), if_neg d8, if_pos i1024, v1, (jc_Qp hQ).2.2.2.2.2.1, Int.toNat_natCast, e29, if_pos (in_i (N := 48) (by omega)), lt_eq, (jc_Qf hQ).2.2.2.2, (jcB hQ).2.2.1, Int.toNat_natCast, (hB b xb hxb).2.2.2.2.1]
  by_cases q : xb.rs = -1
  · rw [if_pos q, decide_eq_false (fun k => k q), Bool.false_and]; rfl
  · have hr := (tb xb (List.mem_of_getElem? hxb)).2.resolve_left q
    rw [if_neg q, decide_eq_true q, Bool.true_and, v2, c_isBe hQ hU huO (by omega) ht (tOk_V hr hln).1, bd_some]
    cases tLe us t xb.rs <;> rfl
theorem c_holds (hQ : Q = 13 ∨ Q = 49) (h : tCx ns us fl bl z b xb e M) {S : nk_S} (hv : cTv S Q (ns, us, fl, bl, z, el) e M) {i : Nat} {x : jC} (h1 : e.1 ≤ i) (h2 : i < e.2.1) (hx : z.1[i]? = some x) (h0 : M i ≠ 0) {u : Nat → Int} (hu : ∀ k, tV us (u k)) (h88 : ∀ k, rel xb.lc.toNat (hgt (M i)) k → S.1 88 (i * 20 + k) = u k) : ja_X9_holds 86 (i : Int) S = some (bi (tHo us fl bl xb x (hgt (M i)) u), S) := by
  have hv0 := hv
  obtain ⟨v1, v2, v3, v4⟩ := hv
  obtain ⟨hbo, hcw, hi⟩ := cW_at h h1 h2 hx
  obtain ⟨t1, t2, t3⟩ := tk_b h h1 h2 hx h0
  obtain ⟨l1, l2, l3⟩ := lc_12 h
  have hJ : cJL S Q z := v3.2.2.2.2.2.2.2.2.1
  have hB : ∀ (b : Nat) (y : jB), bl[b]? = some y → cB0 S Q b y := v3.2.2.2.2.2.1
  have hU : cU S Q us := v3.1
  obtain ⟨c1, c2, c3, c4, c5⟩ := hJ.1.2 i x hx
  have i1024 : (0 : Int) ≤ (i : Int) ∧ (i : Int) < 1024 := in_i (N := 1024) (by omega)
  have hbl := h.2.2.2.2.2.2.2.2.2.2.2.2.2.1
  have hxb := h.2.2.2.2.2.2.2.2.2.2.2.1
  have huO := h.2.2.2.1
  have hln := h.2.2.2.2.1
  have h32 := h.2.2.2.2.2.2.1
  have hb48 := at_lt hxb
  have ht := c_takes hQ hi c1 c2 (fun b y hy => (hB b y hy).2.2.1) hbl hcw
  have v4i := v4 i h1 h2
  unfold ja_X9_holds tHo
  rw [if_pos i1024, lt_eq, v1, (jc_Qp hQ).2.1, Int.toNat_natCast, c1, wi20 hi, lt_eq, (jc_Qp hQ).2.2.1, c2]
  by_cases d2 : x.1 = 2
  · obtain ⟨n1, n2⟩ := hcw.2.2.1 (Or.inl (by rw [d2]; exact fK_loc.1))
    have e1 : x.2.1 = ((x.2.1.toNat : Nat) : Int) := by omega
    rw [if_pos (by omega), if_pos d2]
    rw [e1, Int.toNat_natCast, wiadd (by omega), if_pos (in_i (N := 20480) (by omega)), jc_86_3, Int.toNat_natCast, h88 _ (by unfold rel; omega)]
    by_cases q : u x.2.1.toNat = 0
    · rw [if_pos q, decide_eq_false (fun k => k q)]; rfl
    · rw [if_neg q, decide_eq_true q]; rfl
  rw [if_neg (by omega), if_neg d2]
  by_cases d4 : x.1 = 4
  · obtain ⟨n1, n2⟩ := hcw.2.2.1 (Or.inr (by rw [d4]; exact fK_loc.2.2))
    have e1 : x.2.1 = ((x.2.1.toNat : Nat) : Int) := by omega
    rw [if_pos (by omega), if_pos d4]
    rw [e1, Int.toNat_natCast, wiadd (by omega), if_pos (in_i (N := 20480) (by omega)), jc_86_3, Int.toNat_natCast, h88 _ (by unfold rel; omega)]
    by_cases q : u x.2.1.toNat = 1
    · rw [if_pos q, decide_eq_true q]; rfl
    · rw [if_neg q, decide_eq_false q]; rfl
  rw [if_neg (by omega), if_neg d4]
  by_cases d43 : x.1 = 43
  · have e29 : S.1 (Q + 29) i = (b : Int) := by rw [c5, hbo]
    rw [if_pos (by omega), if_pos d43, (jc_Qp hQ).2.2.2.2.2.1, e29, if_pos (in_i (N := 48) (by omega)), (jc_Qf hQ).2.2.2.2, (jcB hQ).2.2.1, Int.toNat_natCast, (hB b xb hxb).2.2.2.2.1]
    by_cases q : xb.rs = -1
    · rw [if_pos q, decide_eq_true q]; rfl
    · rw [if_neg q, decide_eq_false q]; rfl
  rw [if_neg (by omega), if_neg d43, ht, bd_some, v1, (jc_Qp hQ).2.2.2.2.2.2.1, v4i]
  have w12 : nk_w (((i * 20 : Nat) : Int) + 12) = ((i * 20 + 12 : Nat) : Int) := wiadd (a := i * 20) (c := 12) (by omega)
  rw [w12]
  clear w12
  rw [wiadd (by omega), wisub (by omega) (by omega), lt_eq]
  obtain ⟨tk, htk⟩ : ∃ tk, tk = tkX bl x := ⟨_, rfl⟩
  obtain ⟨g, hg⟩ : ∃ g, g = hgt (M i) := ⟨_, rfl⟩
  rw [← htk, ← hg] at t1 ⊢
  rw [← hg] at t3 h88
  have elow : i * 20 + 12 + g - tk = i * 20 + (12 + g - tk) := by omega
  rw [elow]
  obtain ⟨bm, hbm⟩ := big_ge 100 (by decide)
  have hval : ∀ k, k < tk → S.1 88 (i * 20 + (12 + g - tk) + k) = u (12 + g - tk + k) := fun k hk => by
    rw [Nat.add_assoc]; exact h88 _ (by unfold rel; omega)
  -- the loop over what is taken
  have loop : ∀ (f : Nat → Bool), (∀ (k m : Nat), k < tk → (∀ k', k' < k → f k' = true) → ja_X9_holds_L144 (m + 1) 86 (i : Int) (x.1 : Int) (tk : Int) ((i * 20 + (12 + g - tk) : Nat) : Int) (k : Int) S = ja_X9_holds_b223 (ja_X9_holds_L144 m) 86 (i : Int) (x.1 : Int) (tk : Int) ((i * 20 + (12 + g - tk) : Nat) : Int) (k : Int) (bi (f k)) S) → ∀ (d k m : Nat), k + d = tk → d < m → (∀ k', k' < k → f k' = true) → ja_X9_holds_L144 m 86 (i : Int) (x.1 : Int) (tk : Int) ((i * 20 + (12 + g - tk) : Nat) : Int) (k : Int) S = some (bi (allR f d k), S) := by
    intro f hf d
    induction d with
    | zero =>
      intro k m h1 h2 _
      obtain ⟨m, rfl⟩ : ∃ q, m = q + 1 := ⟨m - 1, by omega⟩
      show ja_X9_holds_b144 (ja_X9_holds_L144 m) 86 (i : Int) (x.1 : Int) (tk : Int) ((i * 20 + (12 + g - tk) : Nat) : Int) (k : Int) S = _
      unfold ja_X9_holds_b144
      rw [if_pos (by omega)]
      rfl
    | succ d ih =>
      intro k m h1 h2 h3
      obtain ⟨m, rfl⟩ : ∃ q, m = q + 1 := ⟨m - 1, by omega⟩
      rw [hf k m (by omega) h3, allR]
      unfold ja_X9_holds_b223
      cases hk : f k with
      | false => rw [if_pos (show bi false = 0 from rfl), Bool.false_and]; rfl
      | true =>
        rw [if_neg (show ¬ bi true = 0 by decide), Bool.true_and, lt_eq, w_nat1 (by omega)]
        refine ih (k + 1) m (by omega) (by omega) (fun k' hk' => ?_)
        by_cases ck : k' = k
        · rw [ck]; exact hk
        · exact h3 k' (by omega)
  by_cases dc : x.1 = 39 ∨ x.1 = 40
  · rw [if_pos dc]
    obtain ⟨f, c, y, q1, q2, q3, q4, q5, q6, q7, q8, q9⟩ := told_v h hcw dc
    rw [← htk] at q6
    refine loop _ (fun k m hk _ => ?_) tk 0 nk_big (by omega) (by omega) (fun k' hk' => by omega)
    show ja_X9_holds_b144 (ja_X9_holds_L144 m) 86 (i : Int) (x.1 : Int) (tk : Int) ((i * 20 + (12 + g - tk) : Nat) : Int) (k : Int) S = _
    have e163 : ja_X9_holds_b144 (ja_X9_holds_L144 m) 86 (i : Int) (x.1 : Int) (tk : Int) ((i * 20 + (12 + g - tk) : Nat) : Int) (k : Int) S = ja_X9_holds_b163 (ja_X9_holds_L144 m) 86 (i : Int) (x.1 : Int) (tk : Int) ((i * 20 + (12 + g - tk) : Nat) : Int) (k : Int) S := by
      unfold ja_X9_holds_b144
      rw [if_neg (by omega)]
      rcases dc with d | d
      · rw [if_pos (by omega)]
      · rw [if_neg (by omega), if_pos (by omega)]
    have vt : tV us (tTold bl x k) := by
      rcases q8 k (by omega) with r | r
      · exact r.1
      · rw [r]; unfold tV; omega
    have esp : ja_X9_suitsParameter 86 (i : Int) (k : Int) (u (12 + g - tk + k)) S = some (bi (tLe us (u (12 + g - tk + k)) (tTold bl x k)), S) := by
      have e66 : ja_X9_suitsParameter_b66 86 (u (12 + g - tk + k)) (tTold bl x k) S = some (bi (tLe us (u (12 + g - tk + k)) (tTold bl x k)), S) := by
        unfold ja_X9_suitsParameter_b66
        rw [v2, c_isBe hQ hU huO (by omega) (hu _) vt, bd_some]
        cases tLe us (u (12 + g - tk + k)) (tTold bl x k) <;> rfl
      have e22 : ¬ (k = 0 ∧ x.1 = 40) → ja_X9_suitsParameter_b22 86 (i : Int) (k : Int) (u (12 + g - tk + k)) S = some (bi (tLe us (u (12 + g - tk + k)) (tTold bl x k)), S) := by
        intro hn
        unfold ja_X9_suitsParameter_b22 ja_X9_suitsParameter_b23 ja_X0_parameter
        have hg14 := (hB f y q2).2.2.2.1 k (y.ps.getD k 0) (by omega) (by rw [List.getD_eq_getElem?_getD, List.getElem?_eq_getElem (by omega), Option.getD_some])
        rw [if_pos rfl, if_pos i1024, v1, (jc_Qf hQ).2.2.2.2, (jc_Qp hQ).2.2.1, Int.toNat_natCast, c2, q1, if_neg (by omega), if_neg (by omega), w_12 q3 (by omega), if_pos (in_i (N := 576) (by omega)), bd_some, (jcB hQ).2.1, Int.toNat_natCast, hg14, ← q9 k hn]
        exact e66
      unfold ja_X9_suitsParameter
      by_cases ck : k = 0
      · rw [if_pos (by omega), if_pos i1024, v1, (jc_Qp hQ).2.1, Int.toNat_natCast, c1]
        by_cases c40 : x.1 = 40
        · have e2 : nk_w (2 * (c : Int)) = 2 * (c : Int) := nk_w_id (by omega) (by omega)
          have e4 : nk_w (4 + 2 * (c : Int)) = 4 + 2 * (c : Int) := nk_w_id (by omega) (by omega)
          have et : tTold bl x k = 4 + 2 * (c : Int) := by unfold tTold; rw [if_pos ⟨ck, c40⟩, q4]
          rw [if_pos (show (x.1 : Int) = 40 by clear e2 e4; omega)]
          unfold ja_X9_suitsParameter_b23
          rw [if_neg (by decide), if_pos i1024, v1, (jc_Qp hQ).2.2.2.1, Int.toNat_natCast, c3, q4, e2, e4, ← et]
          exact e66
        · rw [if_neg (by omega)]; exact e22 (fun hh => c40 hh.2)
      · rw [if_neg (by omega)]; exact e22 (fun hh => ck hh.1)
    rw [e163]
    unfold ja_X9_holds_b163
    rw [wiadd (by omega), if_pos (in_i (N := 20480) (by omega)), jc_86_3, Int.toNat_natCast, hval k hk, esp, bd_some]
  · rw [if_neg dc]
    have etk : tk = tkT x.1 := by rw [htk]; exact (tkX_n dc).1
    have ht3 := (tk_tb x.1 hcw.1).2.2.1
    refine loop _ (fun k m hk hall => ?_) tk 0 nk_big (by omega) (by omega) (fun k' hk' => by omega)
    show ja_X9_holds_b144 (ja_X9_holds_L144 m) 86 (i : Int) (x.1 : Int) (tk : Int) ((i * 20 + (12 + g - tk) : Nat) : Int) (k : Int) S = _
    have hval0 := hval 0 (by omega)
    rw [Nat.add_zero, Nat.add_zero] at hval0
    have ew : nk_iand (nk_ishr ((ja_ob 47).getD x.1 0).toInt (nk_w (4 * nk_w (nk_w ((tk : Int) - 1) - (k : Int))))) 15 = (wn x.1 k : Int) := by
      have w1 : nk_w ((tk : Int) - 1) = ((tk - 1 : Nat) : Int) := wisub (a := tk) (c := 1) (by omega) (by omega)
      rw [w1, wisub (by omega) (by omega)]
      clear w1
      have w2 : nk_w (4 * ((tk - 1 - k : Nat) : Int)) = 4 * ((tk - 1 - k : Nat) : Int) := nk_w_id (by omega) (by omega)
      rw [w2]
      clear w2
      rw [etk]
      exact wn_k x.1 hcw.1 dc k (by omega)
    obtain ⟨wv5, wv6, wv7⟩ := wn_v x.1 hcw.1 k (by omega)
    have hsu := c_suit (w := wn x.1 k) hQ h hv0 h1 h2 hx (hu (12 + g - tk)) (hu (12 + g - tk + k)) wv5 wv6 (fun hw => by
      have h34 := wv7 hw
      have h0' := hall 0 (by omega)
      have w0 : wn x.1 0 = 3 := by rw [h34.1]; rfl
      rw [w0, Nat.add_zero] at h0'
      unfold tSu at h0'
      rw [if_neg (by decide), if_neg (by decide), if_pos rfl, Bool.or_eq_true] at h0'
      exact h0'.elim (fun q => Or.inl (of_decide_eq_true q)) Or.inr)
    unfold ja_X9_holds_b144
    rw [if_neg (by omega), if_neg (by omega), if_neg (by omega), if_pos (in_i (N := 46) (by have := hcw.1; omega)), if_pos (in_i (N := 20480) (by omega)), wiadd (by omega), if_pos (in_i (N := 20480) (by omega)), jc_86_3, Int.toNat_natCast, Int.toNat_natCast, Int.toNat_natCast, hval k hk, hval0, ew, hsu, bd_some]
end CHO
