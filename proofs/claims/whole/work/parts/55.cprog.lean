/-! The class looks at the form. -/
theorem amx_none {l : List Int} : ∀ {ws : List (List Int)} {j : Int}, (∀ w ∈ ws, ¬ l = w) → amx l ws j = -1 := by
  intro ws
  induction ws with
  | nil => intro j _; rfl
  | cons w ws ih =>
    intro j h
    rw [amx, if_neg (h w List.mem_cons_self)]
    exact ih (fun v hv => h v (List.mem_cons_of_mem _ hv))
theorem amx_at {l : List Int} : ∀ {ws : List (List Int)} {j : Int} {i : Nat}, ws[i]? = some l → (∀ i', i' < i → ¬ ws[i']? = some l) → amx l ws j = j + (i : Int) := by
  intro ws
  induction ws with
  | nil => intro j i h; cases h
  | cons w ws ih =>
    intro j i h h2
    rw [amx]
    cases i with
    | zero =>
      rw [List.getElem?_cons_zero, Option.some.injEq] at h
      rw [if_pos h.symm]; omega
    | succ i =>
      have h0 := h2 0 (by omega)
      rw [List.getElem?_cons_zero, Option.some.injEq] at h0
      rw [if_neg (fun e => h0 e.symm), ih (i := i) (by rw [List.getElem?_cons_succ] at h; exact h) (fun i' hi' => by have := h2 (i' + 1) (by omega); rw [List.getElem?_cons_succ] at this; exact this)]
      omega
theorem fK_i : ∀ o, o < 46 → ((ja_ob 45).getD o 0).toInt = (fK o : Int) := by decide +kernel
theorem fx_46 : ∀ o, o < 46 → (fx.take 46)[o]? = some (fx.getD o []) := by decide +kernel
theorem fx_46m : ∀ w ∈ fx.take 46, ∃ o, o < 46 ∧ w = fx.getD o [] := by
  intro w hw
  obtain ⟨o, ho, he⟩ := List.mem_iff_getElem.mp hw
  have hl : (fx.take 46).length = 46 := by decide
  have h2 := fx_46 o (by omega)
  rw [List.getElem?_eq_getElem ho, Option.some.injEq] at h2
  exact ⟨o, by omega, by rw [← h2]; exact he.symm⟩
section CPR
variable {S : nk_S} {tx : List (List Int)} {c : Nat}
theorem c_fO (hC : CF S tx c) {a w : Nat} (ha : a < tx.length) (hw : cw S tx a = (w : Int)) : fO tx a = if w < 46 then (w : Int) else -1 := by
  obtain ⟨v, v1, v2, v3, v4⟩ := cw_some hC ha
  obtain rfl : v = w := by omega
  obtain ⟨-, h2, -, -, -, -, h7, h8, -⟩ := hC
  unfold fO
  rw [← v3]
  by_cases q : v < 46
  · rw [if_pos q, h8 v (by omega), amx_at (i := v) (fx_46 v q) (fun i hi => by
      rw [fx_46 i (by omega), Option.some.injEq]
      intro e
      have := fx_inj i (by omega) v (by omega) e
      omega)]
    omega
  · rw [if_neg q]
    refine amx_none (fun u hu e => ?_)
    obtain ⟨o, o1, o2⟩ := fx_46m u hu
    rw [o2, ← h8 o (by omega)] at e
    have := h7 v o v1 (by omega) e
    omega
theorem c_op (hC : CF S tx c) (k a : Nat) (hk : k < 9) (ha : a < 1000000) : ja_X6_takesOperands 85 (k : Int) (ca S a) = cR S (fOp tx k a) := by
  obtain ⟨s1, s2, s3, s5⟩ := c_shapes (tx := tx) a
  obtain ⟨-, -, s3', -⟩ := c_shapes (tx := tx) (a + 1)
  unfold ja_X6_takesOperands
  rw [jc_85_0, ca_at, c_at hC, bd_some]
  have h1 := c_shape hC 1 (by decide) a (by omega)
  have h2 := c_shape hC 2 (by decide) a (by omega)
  have h3 := c_shape hC 3 (by decide) a (by omega)
  have h5 := c_shape hC 5 (by decide) a (by omega)
  have h3' := c_shape hC 3 (by decide) (a + 1) (by omega)
  have ht := c_type hC a (by omega)
  have hw := c_word hC (w := 52) (by decide) a (by omega)
  rw [s1] at h1
  rw [s2] at h2
  rw [s3] at h3
  rw [s5] at h5
  rw [s3'] at h3'
  have hk9 : k = 0 ∨ k = 1 ∨ k = 2 ∨ k = 3 ∨ k = 4 ∨ k = 5 ∨ k = 6 ∨ k = 7 ∨ k = 8 := by omega
  have fin : ∀ (o : Option (Int × nk_S)) (b : Bool), o = cR S (tk b a) → (nk_bd o fun r S2 => if r = 0 ∨ r = 1 then some (r, S2) else none) = cR S (tk b a) := by
    intro o b e; rw [e]; cases b <;> rfl
  rcases hk9 with rfl | rfl | rfl | rfl | rfl | rfl | rfl | rfl | rfl
  · rfl
  · exact fin _ _ h3
  · exact fin _ _ h3
  · show (nk_bd (ja_X6_takesShape 85 3 (ca S a)) fun r5 S6 => if r5 = 0 then some (0, S6) else nk_bd (ja_X6_takesShape 85 3 S6) fun r8 S9 => if r8 = 0 then some (0, S9) else some (1, S9)) = cR S (sq (tk (fU tx a) a) fun a => tk (fU tx a) a)
    refine c_sq (R := cR S) (k := fun a => tk (fU tx a) a) (F := fun S2 => some (0, S2)) h3 rfl (fun _ => ?_)
    show (nk_bd (ja_X6_takesShape 85 3 (ca S (a + 1))) fun r8 S9 => if r8 = 0 then some (0, S9) else some (1, S9)) = cR S (tk (fU tx (a + 1)) (a + 1))
    rw [h3']
    cases fU tx (a + 1) <;> rfl
  · exact fin _ _ h1
  · exact fin _ _ h2
  · show (nk_bd (ja_X6_takesWord 85 52 (ca S a)) fun r19 S20 => if r19 = 0 then nk_bd (ja_X6_takesShape 85 2 S20) fun r22 S23 => if r22 = 0 then some (0, S23) else some (1, S23) else some (1, S20)) = cR S (tk (fW tx 52 a || fC tx a) a)
    rw [show ((52 : Int)) = ((52 : Nat) : Int) from rfl, hw]
    cases fW tx 52 a with
    | true => rfl
    | false =>
      show (nk_bd (ja_X6_takesShape 85 2 (ca S a)) fun r22 S23 => if r22 = 0 then some (0, S23) else some (1, S23)) = cR S (tk (fC tx a) a)
      rw [h2]
      cases fC tx a <;> rfl
  · show (if cw S tx a = 52 then some (0, ca S a) else nk_bd (ja_X6_takesType 85 (ca S a)) fun r25 S26 => if r25 = 0 then some (0, S26) else some (1, S26)) = cR S (tk (fT tx a && !fW tx 52 a) a)
    have hi := cw_iff hC (w := 52) (by decide) a
    rw [show ((52 : Int)) = ((52 : Nat) : Int) from rfl]
    cases hf : fW tx 52 a with
    | true => rw [if_pos (hi.mpr hf)]; cases fT tx a <;> rfl
    | false =>
      rw [if_neg (fun e => by have := hi.mp e; rw [hf] at this; cases this), ht]
      cases fT tx a <;> rfl
  · exact fin _ _ h5
/-- one line -/
theorem c_line (hC : CF S tx c) {rec2 : Nat → Int → nk_S → Option (Int × nk_S)} (a n : Nat) (ha : a < 900000) (hn : n < 16000) : ja_X6_takesLines_b33 rec2 85 (n : Int) (cw S tx a) (ca S a) = if (fLine tx a).1 = true then rec2 85 ((n + 1 : Nat) : Int) (ca S (fLine tx a).2) else some (0, ca S (fLine tx a).2) := by
  obtain ⟨s1, s2, s3, s5⟩ := c_shapes (tx := tx) a
  have hh := c_has hC a a 1 (by decide)
  rw [s1] at hh
  have hwn : nk_w ((n : Int) + 1) = ((n + 1 : Nat) : Int) := w_nat1 (by omega)
  have fin : ∀ (b : Bool) (y : Nat), ja_X6_takesLines_b192 rec2 85 (n : Int) (bi b) (ca S y) = if b = true then rec2 85 ((n + 1 : Nat) : Int) (ca S y) else some (0, ca S y) := by
    intro b y
    unfold ja_X6_takesLines_b192
    cases b with
    | false => rfl
    | true => rw [if_neg (show ¬ bi true = 0 by decide), lt_eq, hwn]; rfl
  clear hwn
  obtain ⟨Rr, hRr⟩ : ∃ Rr : Bool × Nat → Option (Int × nk_S), Rr = fun r => if r.1 = true then rec2 85 ((n + 1 : Nat) : Int) (ca S r.2) else some (0, ca S r.2) := ⟨_, rfl⟩
  have goalR : (if (fLine tx a).1 = true then rec2 85 ((n + 1 : Nat) : Int) (ca S (fLine tx a).2) else some (0, ca S (fLine tx a).2)) = Rr (fLine tx a) := by rw [hRr]
  have finR : ∀ (b : Bool) (y : Nat), ja_X6_takesLines_b192 rec2 85 (n : Int) (bi b) (ca S y) = Rr (b, y) := by intro b y; rw [fin, hRr]
  rw [goalR]
  unfold ja_X6_takesLines_b33 fLine
  rw [jc_85_0, hh, bd_some, ca_at, w_nat1 (by omega), c_at hC, bd_some]
  have i59 := cw_iff hC (w := 59) (by decide) (a + 1)
  have i46 := cw_iff hC (w := 46) (by decide) a
  cases h59 : fW tx 59 (a + 1) with
  | true =>
    rw [if_pos (show cw S tx (a + 1) = 59 from i59.mpr h59), c_step _ (by omega)]
    simp only [if_true]
    cases fN tx a with
    | false => exact finR false a
    | true =>
      rw [show cR S (tk true a) = some (1, ca S (a + 1)) from rfl, bd_some, if_neg (by decide)]
      have := c_step (S := S) (a := a + 1) true (by omega)
      rw [show bi true = 1 from rfl] at this
      rw [this]
      exact finR true (a + 1 + 1)
  | false =>
    rw [if_neg (fun e => by have := i59.mp e; rw [h59] at this; cases this)]
    simp only [Bool.false_eq_true, if_false]
    have hst : ja_X6_step 85 1 (ca S a) = some (1, ca S (a + 1)) := c_step (S := S) (a := a) true (by omega)
    cases h46 : fW tx 46 a with
    | true =>
      rw [if_pos (show cw S tx a = 46 from i46.mpr h46), hst, bd_some, if_neg (by decide)]
      simp only [if_true]
      have hs : ∀ b, b < 950000 → ja_X6_takesShape 85 1 (ca S b) = cR S (tk (fN tx b) b) := fun b hb => by rw [c_shape hC 1 (by decide) b (by omega), (c_shapes (tx := tx) b).1]
      have hs2 : ∀ b, b < 950000 → ja_X6_takesShape 85 2 (ca S b) = cR S (tk (fC tx b) b) := fun b hb => by rw [c_shape hC 2 (by decide) b (by omega), (c_shapes (tx := tx) b).2.1]
      refine c_sq (R := Rr) (F := fun S2 => ja_X6_takesLines_b137 rec2 85 (n : Int) S2) (hs (a + 1) (by omega)) (finR false _) (fun _ => c_sq (R := Rr) (F := fun S2 => ja_X6_takesLines_b137 rec2 85 (n : Int) S2) (hs (a + 1 + 1) (by omega)) (finR false _) (fun _ => c_sq (R := Rr) (F := fun S2 => ja_X6_takesLines_b137 rec2 85 (n : Int) S2) (hs (a + 1 + 1 + 1) (by omega)) (finR false _) (fun _ => ?_)))
      rw [hs2 (a + 1 + 1 + 1 + 1) (by omega)]
      cases fC tx (a + 1 + 1 + 1 + 1) with
      | false => exact finR false _
      | true => exact finR true _
    | false =>
      rw [if_neg (fun e => by have := i46.mp e; rw [h46] at this; cases this)]
      simp only [Bool.false_eq_true, if_false]
      have h183 : ja_X6_takesLines_b183 rec2 85 (n : Int) (bi (fN tx a)) (ca S a) = Rr (false, (tk (fN tx a) a).2) := by
        unfold ja_X6_takesLines_b183
        rw [c_step _ (by omega)]
        cases fN tx a with
        | false => exact finR false _
        | true => exact finR false _
      by_cases ha2 : a < tx.length
      · obtain ⟨w, w1, w2, w3, w4⟩ := cw_some hC ha2
        have hfo := c_fO hC ha2 w2
        rw [w2, hfo]
        rw [if_neg (by omega)]
        by_cases q : w < 46
        · simp only [q, if_true]
          rw [if_neg (by omega), hst, bd_some, if_neg (by decide), if_pos (in_i (N := 46) (by omega)), Int.toNat_natCast, fK_i w q, if_pos (by omega), c_op hC (fK w) (a + 1) (fK_t w q).2.1 (by omega)]
          obtain ⟨b, y, hby⟩ : ∃ b y, fOp tx (fK w) (a + 1) = (b, y) := ⟨_, _, rfl⟩
          rw [hby]
          cases b with
          | false => exact finR false y
          | true => exact finR true y
        · simp only [q, if_false]
          rw [if_pos (by omega), if_neg (by decide)]
          exact h183
      · have hf := (f_none (tx := tx) (a := a) (by omega)).2.2.2.2.2.2
        have hcw : cw S tx a = -1 := by unfold cw; rw [if_neg ha2]
        rw [hcw, hf, if_pos (by decide), if_neg (by decide)]
        exact h183
theorem fLine_end {a : Nat} (h : tx.length ≤ a) : fLine tx a = (false, a) := by
  obtain ⟨n1, n2, -, -, -, -, n7⟩ := f_none (tx := tx) (a := a) h
  obtain ⟨m1, -⟩ := f_none (tx := tx) (a := a + 1) (by omega)
  unfold fLine
  rw [m1 59, n1 46, n7, n2]
  rfl
theorem fLines_end {d a : Nat} (h : tx.length ≤ a) : fLines tx d a = (false, a) := by
  cases d with
  | zero => rfl
  | succ d => rw [fLines, (f_none (tx := tx) (a := a) h).1 58, fLine_end h]; rfl
theorem c_lines (hC : CF S tx c) : ∀ (d m n a : Nat), tx.length < a + d → d < m → n ≤ a → a < 100000 → ja_X6_takesLines_L2 m 85 (n : Int) (ca S a) = cR S (fLines tx d a) := by
  have hT := hC.2.2.2.2.1
  intro d
  induction d with
  | zero =>
    intro m n a h1 h2 h3 h4
    obtain ⟨m, rfl⟩ : ∃ q, m = q + 1 := ⟨m - 1, by omega⟩
    show ja_X6_takesLines_b2 (ja_X6_takesLines_L2 m) 85 (n : Int) (ca S a) = _
    unfold ja_X6_takesLines_b2
    by_cases q : (16000 : Int) ≤ (n : Int)
    · rw [if_pos q]; rfl
    · have i58 := cw_iff hC (w := 58) (by decide) a
      rw [if_neg q, jc_85_0, ca_at, c_at hC, bd_some, if_neg (fun e => by have := i58.mp e; rw [(f_none (tx := tx) (a := a) (by omega)).1 58] at this; cases this), c_line hC a n (by omega) (by omega), fLine_end (by omega)]
      rfl
  | succ d ih =>
    intro m n a h1 h2 h3 h4
    obtain ⟨m, rfl⟩ : ∃ q, m = q + 1 := ⟨m - 1, by omega⟩
    show ja_X6_takesLines_b2 (ja_X6_takesLines_L2 m) 85 (n : Int) (ca S a) = _
    unfold ja_X6_takesLines_b2
    by_cases q : (16000 : Int) ≤ (n : Int)
    · rw [if_pos q, fLines_end (by omega)]; rfl
    · have i58 := cw_iff hC (w := 58) (by decide) a
      rw [if_neg q, jc_85_0, ca_at, c_at hC, bd_some, fLines]
      cases h58 : fW tx 58 a with
      | true =>
        rw [if_pos (show cw S tx a = 58 from i58.mpr h58)]
        have hst : ja_X6_step 85 1 (ca S a) = some (1, ca S (a + 1)) := c_step (S := S) (a := a) true (by omega)
        rw [hst, bd_some, if_pos (Or.inr rfl)]
        rfl
      | false =>
        rw [if_neg (fun e => by have := i58.mp e; rw [h58] at this; cases this), c_line hC a n (by omega) (by omega)]
        simp only [Bool.false_eq_true, if_false]
        have hlt := fLine_lt (tx := tx) (a := a)
        have hT2 := fLine_T (tx := tx) (a := a)
        have hub := fLine_ub (tx := tx) a
        obtain ⟨b, y, hby⟩ : ∃ b y, fLine tx a = (b, y) := ⟨_, _, rfl⟩
        rw [hby] at hlt hT2 hub ⊢
        cases b with
        | false => rfl
        | true =>
          have g1 := hlt rfl
          have g2 := hT2 rfl
          simp only at g1 hub
          exact ih m (n + 1) y (by omega) (by omega) (by omega) (by omega)
end CPR
