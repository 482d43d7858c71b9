/-! Heights: what instructions take and leave. -/
def tkT (o : Nat) : Nat := ((ja_ob 46).getD o 0).toInt.toNat
def lvT (o : Nat) : Nat := ((ja_ob 44).getD o 0).toInt.toNat
def tkX (bl : List jB) (x : jC) : Nat := if x.1 = 39 ∨ x.1 = 40 then (match bl[x.2.1.toNat]? with
  | some y => y.ps.length
  | none => 0) else tkT x.1
def lvX (bl : List jB) (x : jC) : Nat := if x.1 = 39 ∨ x.1 = 40 then (match bl[x.2.1.toNat]? with
  | some y => if y.rs = -1 then 0 else 1
  | none => 0) else lvT x.1
theorem tk_tb : ∀ o : Nat, o < 46 → ((ja_ob 46).getD o 0).toInt = (tkT o : Int) ∧ ((ja_ob 44).getD o 0).toInt = (lvT o : Int) ∧ tkT o ≤ 3 ∧ lvT o ≤ 2 := by decide +kernel
theorem o46 {o : Nat} (h : o < 46) : o = 0 ∨ o = 1 ∨ o = 2 ∨ o = 3 ∨ o = 4 ∨ o = 5 ∨ o = 6 ∨ o = 7 ∨ o = 8 ∨ o = 9 ∨ o = 10 ∨ o = 11 ∨ o = 12 ∨ o = 13 ∨ o = 14 ∨ o = 15 ∨ o = 16 ∨ o = 17 ∨ o = 18 ∨ o = 19 ∨ o = 20 ∨ o = 21 ∨ o = 22 ∨ o = 23 ∨ o = 24 ∨ o = 25 ∨ o = 26 ∨ o = 27 ∨ o = 28 ∨ o = 29 ∨ o = 30 ∨ o = 31 ∨ o = 32 ∨ o = 33 ∨ o = 34 ∨ o = 35 ∨ o = 36 ∨ o = 37 ∨ o = 38 ∨ o = 39 ∨ o = 40 ∨ o = 41 ∨ o = 42 ∨ o = 43 ∨ o = 44 ∨ o = 45 := by omega
section HTK
variable {ns : List (List Int)} {us : List Int} {fl : List (List Int × Nat × Int)} {bl : List jB} {sl : List Int} {s e : Nat} {lc : Int} {x : jC}
theorem call_at (h : cW ns us fl bl sl s e lc x) (hc : x.1 = 39 ∨ x.1 = 40) : ∃ (f : Nat) (y : jB), x.2.1 = (f : Int) ∧ bl[f]? = some y ∧ tkX bl x = y.ps.length ∧ lvX bl x = if y.rs = -1 then 0 else 1 := by
  obtain ⟨f, c, y, h1, h2, -⟩ := h.2.2.2.2.2.2.1 hc
  refine ⟨f, y, h1, h2, ?_, ?_⟩
  · unfold tkX
    rw [if_pos hc, h1, Int.toNat_natCast, h2]
  · unfold lvX
    rw [if_pos hc, h1, Int.toNat_natCast, h2]
theorem tk_le12 (h : cW ns us fl bl sl s e lc x) (h12 : ∀ y ∈ bl, y.ps.length ≤ 12) : tkX bl x ≤ 12 ∧ lvX bl x ≤ 2 := by
  by_cases hc : x.1 = 39 ∨ x.1 = 40
  · obtain ⟨f, y, h1, h2, h3, h4⟩ := call_at h hc
    have := h12 y (List.mem_of_getElem? h2)
    rw [h3, h4]
    refine ⟨this, ?_⟩
    split <;> omega
  · unfold tkX lvX
    rw [if_neg hc, if_neg hc]
    obtain ⟨-, -, t3, t4⟩ := tk_tb x.1 h.1
    omega
/-! the class -/
theorem c_takes {S : nk_S} {Q : Nat} (hQ : Q = 13 ∨ Q = 49) {i : Nat} (hi : i < 1024) (h25 : S.1 (Q + 25) i = (x.1 : Int)) (h26 : S.1 (Q + 26) i = x.2.1) (hb : ∀ (b : Nat) (y : jB), bl[b]? = some y → S.1 (Q + 13) b = (y.ps.length : Int)) (h48 : bl.length ≤ 48) (h : cW ns us fl bl sl s e lc x) : ja_X3_takes Q (i : Int) S = some ((tkX bl x : Int), S) := by
  have hin : (0 : Int) ≤ (i : Int) ∧ (i : Int) < 1024 := in_i (N := 1024) (by omega)
  have h1 := h.1
  have h19 : (x.1 = 39 ∨ x.1 = 40) → ja_X3_takes_b19 Q (i : Int) S = some ((tkX bl x : Int), S) := by
    intro hc
    obtain ⟨f, y, y1, y2, y3, y4⟩ := call_at h hc
    have hf := at_lt y2
    unfold ja_X3_takes_b19
    rw [if_pos hin, (jc_Qp hQ).2.2.1, Int.toNat_natCast, h26, y1, if_pos (in_i (N := 48) (by omega)), (jc_Qf hQ).2.2.2.2, (jc_Q9 hQ).2.2.2.1, Int.toNat_natCast, hb f y y2, y3]
  unfold ja_X3_takes
  rw [if_pos hin, lt_eq, (jc_Qp hQ).2.1, Int.toNat_natCast, h25]
  by_cases c1 : x.1 = 39
  · rw [if_pos (show (x.1 : Int) = 39 by omega)]; exact h19 (Or.inl c1)
  rw [if_neg (show ¬ (x.1 : Int) = 39 by omega)]
  by_cases c2 : x.1 = 40
  · rw [if_pos (show (x.1 : Int) = 40 by omega)]; exact h19 (Or.inr c2)
  rw [if_neg (show ¬ (x.1 : Int) = 40 by omega), if_pos (in_i (N := 46) (by omega)), Int.toNat_natCast, (tk_tb x.1 h1).1]
  unfold tkX
  rw [if_neg (by omega)]
theorem c_leaves {S : nk_S} {Q : Nat} (hQ : Q = 13 ∨ Q = 49) {i : Nat} (hi : i < 1024) (h25 : S.1 (Q + 25) i = (x.1 : Int)) (h26 : S.1 (Q + 26) i = x.2.1) (hb : ∀ (b : Nat) (y : jB), bl[b]? = some y → S.1 (Q + 15) b = y.rs) (h48 : bl.length ≤ 48) (h : cW ns us fl bl sl s e lc x) : ja_X3_leaves Q (i : Int) S = some ((lvX bl x : Int), S) := by
  have hin : (0 : Int) ≤ (i : Int) ∧ (i : Int) < 1024 := in_i (N := 1024) (by omega)
  have h1 := h.1
  have h19 : (x.1 = 39 ∨ x.1 = 40) → ja_X3_leaves_b19 Q (i : Int) S = some ((lvX bl x : Int), S) := by
    intro hc
    obtain ⟨f, y, y1, y2, y3, y4⟩ := call_at h hc
    have hf := at_lt y2
    unfold ja_X3_leaves_b19
    rw [if_pos hin, (jc_Qp hQ).2.2.1, Int.toNat_natCast, h26, y1, if_pos (in_i (N := 48) (by omega)), (jc_Qf hQ).2.2.2.2, (jc_Q9 hQ).2.2.2.2.2.1, Int.toNat_natCast, hb f y y2, y4]
    by_cases q : y.rs = -1
    · rw [if_pos q, if_pos q]; rfl
    · rw [if_neg q, if_neg q]; rfl
  unfold ja_X3_leaves
  rw [if_pos hin, lt_eq, (jc_Qp hQ).2.1, Int.toNat_natCast, h25]
  by_cases c1 : x.1 = 39
  · rw [if_pos (show (x.1 : Int) = 39 by omega)]; exact h19 (Or.inl c1)
  rw [if_neg (show ¬ (x.1 : Int) = 39 by omega)]
  by_cases c2 : x.1 = 40
  · rw [if_pos (show (x.1 : Int) = 40 by omega)]; exact h19 (Or.inr c2)
  rw [if_neg (show ¬ (x.1 : Int) = 40 by omega), if_pos (in_i (N := 46) (by omega)), Int.toNat_natCast, (tk_tb x.1 h1).2.1]
  unfold lvX
  rw [if_neg (by omega)]
theorem fK4 : ∀ o : Nat, o < 46 → (fK o = 4 ↔ 19 ≤ o ∧ o ≤ 29) := by decide +kernel
theorem c_target {S : nk_S} {Q : Nat} (hQ : Q = 13 ∨ Q = 49) {i : Nat} (hi : i < 1024) (h25 : S.1 (Q + 25) i = (x.1 : Int)) (h26 : S.1 (Q + 26) i = x.2.1) (h1 : x.1 < 46) : ja_X3_target Q (i : Int) S = some (if 19 ≤ x.1 ∧ x.1 ≤ 29 then x.2.1 else -1, S) := by
  have h4 := fK4 x.1 h1
  unfold ja_X3_target
  rw [if_pos (in_i (N := 1024) (by omega)), (jc_Qp hQ).2.1, (jc_Qp hQ).2.2.1, Int.toNat_natCast, h25, h26, if_pos (in_i (N := 46) (by omega)), Int.toNat_natCast, (fKv x.1 h1).1]
  by_cases q : fK x.1 = 4
  · rw [if_pos (show (fK x.1 : Int) = 4 by omega), if_pos (h4.mp q)]
  · rw [if_neg (show ¬ (fK x.1 : Int) = 4 by omega), if_neg (fun h => q (h4.mpr h))]
/-- the next instruction follows -/
def fal (o : Nat) : Bool := !decide (o = 19 ∨ o = 41 ∨ o = 42 ∨ o = 43)
theorem c_falls {S : nk_S} {Q : Nat} (hQ : Q = 13 ∨ Q = 49) {i : Nat} (hi : i < 1024) (h25 : S.1 (Q + 25) i = (x.1 : Int)) : ja_X3_fallsThrough Q (i : Int) S = some (bi (fal x.1), S) := by
  unfold ja_X3_fallsThrough fal
  rw [if_pos (in_i (N := 1024) (by omega)), (jc_Qp hQ).2.1, Int.toNat_natCast, h25]
  unfold ja_X3_endsBody
  by_cases c1 : x.1 = 19
  · rw [if_pos (show (x.1 : Int) = 19 by omega), decide_eq_true (Or.inl c1)]; rfl
  rw [if_neg (show ¬ (x.1 : Int) = 19 by omega)]
  by_cases c2 : x.1 = 41
  · rw [if_pos (show (x.1 : Int) = 41 by omega), decide_eq_true (Or.inr (Or.inl c2)), bd_some]; rfl
  rw [if_neg (show ¬ (x.1 : Int) = 41 by omega)]
  by_cases c3 : x.1 = 42
  · rw [if_pos (show (x.1 : Int) = 42 by omega), decide_eq_true (Or.inr (Or.inr (Or.inl c3))), bd_some]; rfl
  rw [if_neg (show ¬ (x.1 : Int) = 42 by omega)]
  by_cases c4 : x.1 = 43
  · rw [if_pos (show (x.1 : Int) = 43 by omega), decide_eq_true (Or.inr (Or.inr (Or.inr c4))), bd_some]; rfl
  rw [if_neg (show ¬ (x.1 : Int) = 43 by omega), decide_eq_false (by omega), bd_some]; rfl
/-! the reference -/
theorem m_hasN (S : nk_S) (o : Nat) : ja_X13_hasNext (o : Int) S = some (bi (fal o), S) := by
  unfold ja_X13_hasNext fal
  by_cases c1 : o = 19
  · rw [if_pos (show (o : Int) = 19 by omega), decide_eq_true (Or.inl c1)]; rfl
  rw [if_neg (show ¬ (o : Int) = 19 by omega)]
  by_cases c2 : o = 41
  · rw [if_pos (show (o : Int) = 41 by omega), decide_eq_true (Or.inr (Or.inl c2))]; rfl
  rw [if_neg (show ¬ (o : Int) = 41 by omega)]
  by_cases c3 : o = 42
  · rw [if_pos (show (o : Int) = 42 by omega), decide_eq_true (Or.inr (Or.inr (Or.inl c3)))]; rfl
  rw [if_neg (show ¬ (o : Int) = 42 by omega)]
  by_cases c4 : o = 43
  · rw [if_pos (show (o : Int) = 43 by omega), decide_eq_true (Or.inr (Or.inr (Or.inr c4)))]; rfl
  rw [if_neg (show ¬ (o : Int) = 43 by omega), decide_eq_false (by omega)]; rfl
theorem m_hasL (S : nk_S) (o : Nat) : ja_X13_hasLabel (o : Int) S = some (bi (decide (19 ≤ o ∧ o ≤ 29)), S) := by
  unfold ja_X13_hasLabel
  by_cases c1 : o < 19
  · rw [if_pos (show (o : Int) < 19 by omega), decide_eq_false (by omega)]; rfl
  rw [if_neg (show ¬ (o : Int) < 19 by omega)]
  by_cases c2 : 29 < o
  · rw [if_pos (show (29 : Int) < (o : Int) by omega), decide_eq_false (by omega)]; rfl
  rw [if_neg (show ¬ (29 : Int) < (o : Int) by omega), decide_eq_true (by omega)]; rfl
theorem m_howM {S : nk_S} {P : Nat} (hP : P = 122 ∨ P = 168) {i : Nat} (hi : i < 1024) (h15 : S.1 (P + 15) i = (x.1 : Int)) (h16 : S.1 (P + 16) i = rA x) (hb : ∀ (b : Nat) (y : jB), bl[b]? = some y → S.1 (P + 8) b = (y.ps.length : Int)) (h48 : bl.length ≤ 48) (h : cW ns us fl bl sl s e lc x) : ja_X13_howMany P (i : Int) S = some ((tkX bl x : Int), S) := by
  have hin : (0 : Int) ≤ (i : Int) ∧ (i : Int) < 1024 := in_i (N := 1024) (by omega)
  have h1 := h.1
  have h15' : S.1 (P + (22 - 7)) i = (x.1 : Int) := h15
  have h202 : (x.1 = 39 ∨ x.1 = 40) → ja_X13_howMany_b202 P (i : Int) S = some ((tkX bl x : Int), S) := by
    intro hc
    obtain ⟨f, y, y1, y2, y3, y4⟩ := call_at h hc
    have hf := at_lt y2
    have er : rA x = (f : Int) := by
      unfold rA
      rw [if_neg (by omega), if_neg (by omega)]
      exact y1
    have h16' : S.1 (P + (23 - 7)) i = (f : Int) := by rw [← er]; exact h16
    have hb' : S.1 (P + (15 - 7)) f = (y.ps.length : Int) := hb f y y2
    unfold ja_X13_howMany_b202
    rw [if_pos hin, (jcP hP 23 (by decide) : ja_c P 23 = P + 16), (jcP hP 15 (by decide) : ja_c P 15 = P + 8), Int.toNat_natCast, h16', if_pos (in_i (N := 48) (by omega)), Int.toNat_natCast, hb', y3]
  by_cases hc : x.1 = 39 ∨ x.1 = 40
  · have h2 := h202 hc
    unfold ja_X13_howMany
    rw [if_pos hin, lt_eq, (jcP hP 22 (by decide) : ja_c P 22 = P + 15), Int.toNat_natCast, h15']
    rcases hc with hc | hc
    · rw [if_neg (show ¬ (x.1 : Int) = 3 by omega), if_neg (show ¬ (x.1 : Int) = 4 by omega), if_neg (show ¬ (x.1 : Int) = 5 by omega), if_neg (show ¬ (x.1 : Int) = 6 by omega), if_neg (show ¬ (x.1 : Int) = 7 by omega), if_neg (show ¬ (x.1 : Int) = 8 by omega), if_neg (show ¬ (x.1 : Int) = 9 by omega), if_neg (show ¬ (x.1 : Int) = 10 by omega), if_neg (show ¬ (x.1 : Int) = 11 by omega), if_neg (show ¬ (x.1 : Int) = 12 by omega), if_neg (show ¬ (x.1 : Int) = 13 by omega), if_neg (show ¬ (x.1 : Int) = 14 by omega), if_neg (show ¬ (x.1 : Int) = 15 by omega), if_neg (show ¬ (x.1 : Int) = 16 by omega), if_neg (show ¬ (x.1 : Int) = 17 by omega), if_neg (show ¬ (x.1 : Int) = 18 by omega), if_neg (show ¬ (x.1 : Int) = 19 by omega), if_neg (show ¬ (x.1 : Int) = 20 by omega), if_neg (show ¬ (x.1 : Int) = 21 by omega), if_neg (show ¬ (x.1 : Int) = 22 by omega), if_neg (show ¬ (x.1 : Int) = 23 by omega), if_neg (show ¬ (x.1 : Int) = 24 by omega), if_neg (show ¬ (x.1 : Int) = 25 by omega), if_neg (show ¬ (x.1 : Int) = 26 by omega), if_neg (show ¬ (x.1 : Int) = 27 by omega), if_neg (show ¬ (x.1 : Int) = 28 by omega), if_neg (show ¬ (x.1 : Int) = 29 by omega), if_neg (show ¬ (x.1 : Int) = 30 by omega), if_neg (show ¬ (x.1 : Int) = 31 by omega), if_neg (show ¬ (x.1 : Int) = 32 by omega), if_neg (show ¬ (x.1 : Int) = 33 by omega), if_neg (show ¬ (x.1 : Int) = 34 by omega), if_neg (show ¬ (x.1 : Int) = 35 by omega), if_neg (show ¬ (x.1 : Int) = 36 by omega), if_neg (show ¬ (x.1 : Int) = 37 by omega), if_neg (show ¬ (x.1 : Int) = 38 by omega), if_pos (show (x.1 : Int) = 39 by omega)]; exact h2
    · rw [if_neg (show ¬ (x.1 : Int) = 3 by omega), if_neg (show ¬ (x.1 : Int) = 4 by omega), if_neg (show ¬ (x.1 : Int) = 5 by omega), if_neg (show ¬ (x.1 : Int) = 6 by omega), if_neg (show ¬ (x.1 : Int) = 7 by omega), if_neg (show ¬ (x.1 : Int) = 8 by omega), if_neg (show ¬ (x.1 : Int) = 9 by omega), if_neg (show ¬ (x.1 : Int) = 10 by omega), if_neg (show ¬ (x.1 : Int) = 11 by omega), if_neg (show ¬ (x.1 : Int) = 12 by omega), if_neg (show ¬ (x.1 : Int) = 13 by omega), if_neg (show ¬ (x.1 : Int) = 14 by omega), if_neg (show ¬ (x.1 : Int) = 15 by omega), if_neg (show ¬ (x.1 : Int) = 16 by omega), if_neg (show ¬ (x.1 : Int) = 17 by omega), if_neg (show ¬ (x.1 : Int) = 18 by omega), if_neg (show ¬ (x.1 : Int) = 19 by omega), if_neg (show ¬ (x.1 : Int) = 20 by omega), if_neg (show ¬ (x.1 : Int) = 21 by omega), if_neg (show ¬ (x.1 : Int) = 22 by omega), if_neg (show ¬ (x.1 : Int) = 23 by omega), if_neg (show ¬ (x.1 : Int) = 24 by omega), if_neg (show ¬ (x.1 : Int) = 25 by omega), if_neg (show ¬ (x.1 : Int) = 26 by omega), if_neg (show ¬ (x.1 : Int) = 27 by omega), if_neg (show ¬ (x.1 : Int) = 28 by omega), if_neg (show ¬ (x.1 : Int) = 29 by omega), if_neg (show ¬ (x.1 : Int) = 30 by omega), if_neg (show ¬ (x.1 : Int) = 31 by omega), if_neg (show ¬ (x.1 : Int) = 32 by omega), if_neg (show ¬ (x.1 : Int) = 33 by omega), if_neg (show ¬ (x.1 : Int) = 34 by omega), if_neg (show ¬ (x.1 : Int) = 35 by omega), if_neg (show ¬ (x.1 : Int) = 36 by omega), if_neg (show ¬ (x.1 : Int) = 37 by omega), if_neg (show ¬ (x.1 : Int) = 38 by omega), if_neg (show ¬ (x.1 : Int) = 39 by omega), if_pos (show (x.1 : Int) = 40 by omega)]; exact h2
  · have et : tkX bl x = tkT x.1 := by unfold tkX; rw [if_neg hc]
    rw [et]
    unfold ja_X13_howMany
    rw [if_pos hin, lt_eq, (jcP hP 22 (by decide) : ja_c P 22 = P + 15), Int.toNat_natCast, h15']
    by_cases c3 : x.1 = 3
    · rw [if_pos (show (x.1 : Int) = 3 by omega), c3]; rfl
    rw [if_neg (show ¬ (x.1 : Int) = 3 by omega)]
    by_cases c4 : x.1 = 4
    · rw [if_pos (show (x.1 : Int) = 4 by omega), c4]; rfl
    rw [if_neg (show ¬ (x.1 : Int) = 4 by omega)]
    by_cases c5 : x.1 = 5
    · rw [if_pos (show (x.1 : Int) = 5 by omega), c5]; rfl
    rw [if_neg (show ¬ (x.1 : Int) = 5 by omega)]
    by_cases c6 : x.1 = 6
    · rw [if_pos (show (x.1 : Int) = 6 by omega), c6]; rfl
    rw [if_neg (show ¬ (x.1 : Int) = 6 by omega)]
    by_cases c7 : x.1 = 7
    · rw [if_pos (show (x.1 : Int) = 7 by omega), c7]; rfl
    rw [if_neg (show ¬ (x.1 : Int) = 7 by omega)]
    by_cases c8 : x.1 = 8
    · rw [if_pos (show (x.1 : Int) = 8 by omega), c8]; rfl
    rw [if_neg (show ¬ (x.1 : Int) = 8 by omega)]
    by_cases c9 : x.1 = 9
    · rw [if_pos (show (x.1 : Int) = 9 by omega), c9]; rfl
    rw [if_neg (show ¬ (x.1 : Int) = 9 by omega)]
    by_cases c10 : x.1 = 10
    · rw [if_pos (show (x.1 : Int) = 10 by omega), c10]; rfl
    rw [if_neg (show ¬ (x.1 : Int) = 10 by omega)]
    by_cases c11 : x.1 = 11
    · rw [if_pos (show (x.1 : Int) = 11 by omega), c11]; rfl
    rw [if_neg (show ¬ (x.1 : Int) = 11 by omega)]
    by_cases c12 : x.1 = 12
    · rw [if_pos (show (x.1 : Int) = 12 by omega), c12]; rfl
    rw [if_neg (show ¬ (x.1 : Int) = 12 by omega)]
    by_cases c13 : x.1 = 13
    · rw [if_pos (show (x.1 : Int) = 13 by omega), c13]; rfl
    rw [if_neg (show ¬ (x.1 : Int) = 13 by omega)]
    by_cases c14 : x.1 = 14
    · rw [if_pos (show (x.1 : Int) = 14 by omega), c14]; rfl
    rw [if_neg (show ¬ (x.1 : Int) = 14 by omega)]
    by_cases c15 : x.1 = 15
    · rw [if_pos (show (x.1 : Int) = 15 by omega), c15]; rfl
    rw [if_neg (show ¬ (x.1 : Int) = 15 by omega)]
    by_cases c16 : x.1 = 16
    · rw [if_pos (show (x.1 : Int) = 16 by omega), c16]; rfl
    rw [if_neg (show ¬ (x.1 : Int) = 16 by omega)]
    by_cases c17 : x.1 = 17
    · rw [if_pos (show (x.1 : Int) = 17 by omega), c17]; rfl
    rw [if_neg (show ¬ (x.1 : Int) = 17 by omega)]
    by_cases c18 : x.1 = 18
    · rw [if_pos (show (x.1 : Int) = 18 by omega), c18]; rfl
    rw [if_neg (show ¬ (x.1 : Int) = 18 by omega)]
    by_cases c19 : x.1 = 19
    · rw [if_pos (show (x.1 : Int) = 19 by omega), c19]; rfl
    rw [if_neg (show ¬ (x.1 : Int) = 19 by omega)]
    by_cases c20 : x.1 = 20
    · rw [if_pos (show (x.1 : Int) = 20 by omega), c20]; rfl
    rw [if_neg (show ¬ (x.1 : Int) = 20 by omega)]
    by_cases c21 : x.1 = 21
    · rw [if_pos (show (x.1 : Int) = 21 by omega), c21]; rfl
    rw [if_neg (show ¬ (x.1 : Int) = 21 by omega)]
    by_cases c22 : x.1 = 22
    · rw [if_pos (show (x.1 : Int) = 22 by omega), c22]; rfl
    rw [if_neg (show ¬ (x.1 : Int) = 22 by omega)]
    by_cases c23 : x.1 = 23
    · rw [if_pos (show (x.1 : Int) = 23 by omega), c23]; rfl
    rw [if_neg (show ¬ (x.1 : Int) = 23 by omega)]
    by_cases c24 : x.1 = 24
    · rw [if_pos (show (x.1 : Int) = 24 by omega), c24]; rfl
    rw [if_neg (show ¬ (x.1 : Int) = 24 by omega)]
    by_cases c25 : x.1 = 25
    · rw [if_pos (show (x.1 : Int) = 25 by omega), c25]; rfl
    rw [if_neg (show ¬ (x.1 : Int) = 25 by omega)]
    by_cases c26 : x.1 = 26
    · rw [if_pos (show (x.1 : Int) = 26 by omega), c26]; rfl
    rw [if_neg (show ¬ (x.1 : Int) = 26 by omega)]
    by_cases c27 : x.1 = 27
    · rw [if_pos (show (x.1 : Int) = 27 by omega), c27]; rfl
    rw [if_neg (show ¬ (x.1 : Int) = 27 by omega)]
    by_cases c28 : x.1 = 28
    · rw [if_pos (show (x.1 : Int) = 28 by omega), c28]; rfl
    rw [if_neg (show ¬ (x.1 : Int) = 28 by omega)]
    by_cases c29 : x.1 = 29
    · rw [if_pos (show (x.1 : Int) = 29 by omega), c29]; rfl
    rw [if_neg (show ¬ (x.1 : Int) = 29 by omega)]
    by_cases c30 : x.1 = 30
    · rw [if_pos (show (x.1 : Int) = 30 by omega), c30]; rfl
    rw [if_neg (show ¬ (x.1 : Int) = 30 by omega)]
    by_cases c31 : x.1 = 31
    · rw [if_pos (show (x.1 : Int) = 31 by omega), c31]; rfl
    rw [if_neg (show ¬ (x.1 : Int) = 31 by omega)]
    by_cases c32 : x.1 = 32
    · rw [if_pos (show (x.1 : Int) = 32 by omega), c32]; rfl
    rw [if_neg (show ¬ (x.1 : Int) = 32 by omega)]
    by_cases c33 : x.1 = 33
    · rw [if_pos (show (x.1 : Int) = 33 by omega), c33]; rfl
    rw [if_neg (show ¬ (x.1 : Int) = 33 by omega)]
    by_cases c34 : x.1 = 34
    · rw [if_pos (show (x.1 : Int) = 34 by omega), c34]; rfl
    rw [if_neg (show ¬ (x.1 : Int) = 34 by omega)]
    by_cases c35 : x.1 = 35
    · rw [if_pos (show (x.1 : Int) = 35 by omega), c35]; rfl
    rw [if_neg (show ¬ (x.1 : Int) = 35 by omega)]
    by_cases c36 : x.1 = 36
    · rw [if_pos (show (x.1 : Int) = 36 by omega), c36]; rfl
    rw [if_neg (show ¬ (x.1 : Int) = 36 by omega)]
    by_cases c37 : x.1 = 37
    · rw [if_pos (show (x.1 : Int) = 37 by omega), c37]; rfl
    rw [if_neg (show ¬ (x.1 : Int) = 37 by omega)]
    by_cases c38 : x.1 = 38
    · rw [if_pos (show (x.1 : Int) = 38 by omega), c38]; rfl
    rw [if_neg (show ¬ (x.1 : Int) = 38 by omega)]
    rw [if_neg (show ¬ (x.1 : Int) = 39 by omega)]
    rw [if_neg (show ¬ (x.1 : Int) = 40 by omega)]
    by_cases c41 : x.1 = 41
    · rw [if_pos (show (x.1 : Int) = 41 by omega), c41]; rfl
    rw [if_neg (show ¬ (x.1 : Int) = 41 by omega)]
    by_cases c42 : x.1 = 42
    · rw [if_pos (show (x.1 : Int) = 42 by omega), c42]; rfl
    rw [if_neg (show ¬ (x.1 : Int) = 42 by omega)]
    by_cases c43 : x.1 = 43
    · rw [if_pos (show (x.1 : Int) = 43 by omega), c43]; rfl
    rw [if_neg (show ¬ (x.1 : Int) = 43 by omega)]
    by_cases c44 : x.1 = 44
    · rw [if_pos (show (x.1 : Int) = 44 by omega), c44]; rfl
    rw [if_neg (show ¬ (x.1 : Int) = 44 by omega)]
    by_cases c45 : x.1 = 45
    · rw [if_pos (show (x.1 : Int) = 45 by omega), c45]; rfl
    rw [if_neg (show ¬ (x.1 : Int) = 45 by omega)]
    have : x.1 = 0 ∨ x.1 = 1 ∨ x.1 = 2 := by omega
    rcases this with q | q | q <;> rw [q] <;> rfl
theorem m_leavR {S : nk_S} {P : Nat} (hP : P = 122 ∨ P = 168) {i : Nat} (hi : i < 1024) (h15 : S.1 (P + 15) i = (x.1 : Int)) (h16 : S.1 (P + 16) i = rA x) (hb : ∀ (b : Nat) (y : jB), bl[b]? = some y → S.1 (P + 10) b = rvT y.rs) (hrs : ∀ y ∈ bl, y.rs = -1 ∨ 1 ≤ y.rs) (h48 : bl.length ≤ 48) (h : cW ns us fl bl sl s e lc x) : ja_X13_leaves P (i : Int) S = some ((lvX bl x : Int), S) := by
  have hin : (0 : Int) ≤ (i : Int) ∧ (i : Int) < 1024 := in_i (N := 1024) (by omega)
  have h1 := h.1
  have h15' : S.1 (P + (22 - 7)) i = (x.1 : Int) := h15
  have h208 : (x.1 = 39 ∨ x.1 = 40) → ja_X13_leaves_b208 P (i : Int) S = some ((lvX bl x : Int), S) := by
    intro hc
    obtain ⟨f, y, y1, y2, y3, y4⟩ := call_at h hc
    have hf := at_lt y2
    have er : rA x = (f : Int) := by
      unfold rA
      rw [if_neg (by omega), if_neg (by omega)]
      exact y1
    have h16' : S.1 (P + (23 - 7)) i = (f : Int) := by rw [← er]; exact h16
    have hb' : S.1 (P + (17 - 7)) f = rvT y.rs := hb f y y2
    have hrs1 : rvT y.rs = -1 ↔ y.rs = -1 := by
      rcases hrs y (List.mem_of_getElem? y2) with h | h
      · rw [h]; exact ⟨fun _ => rfl, fun _ => rfl⟩
      · have := rv_neg (t := y.rs) (by omega)
        constructor
        · intro e; have := this.mpr (by omega); omega
        · intro e; omega
    unfold ja_X13_leaves_b208
    rw [if_pos hin, (jcP hP 23 (by decide) : ja_c P 23 = P + 16), (jcP hP 17 (by decide) : ja_c P 17 = P + 10), Int.toNat_natCast, h16', if_pos (in_i (N := 48) (by omega)), Int.toNat_natCast, hb', y4]
    by_cases q : y.rs = -1
    · rw [if_pos (hrs1.mpr q), if_pos q]; rfl
    · rw [if_neg (fun e => q (hrs1.mp e)), if_neg q]; rfl
  by_cases hc : x.1 = 39 ∨ x.1 = 40
  · have h2 := h208 hc
    unfold ja_X13_leaves
    rw [if_pos hin, lt_eq, (jcP hP 22 (by decide) : ja_c P 22 = P + 15), Int.toNat_natCast, h15']
    rcases hc with hc | hc
    · rw [if_neg (show ¬ (x.1 : Int) = 0 by omega), if_neg (show ¬ (x.1 : Int) = 1 by omega), if_neg (show ¬ (x.1 : Int) = 2 by omega), if_neg (show ¬ (x.1 : Int) = 3 by omega), if_neg (show ¬ (x.1 : Int) = 4 by omega), if_neg (show ¬ (x.1 : Int) = 5 by omega), if_neg (show ¬ (x.1 : Int) = 6 by omega), if_neg (show ¬ (x.1 : Int) = 7 by omega), if_neg (show ¬ (x.1 : Int) = 8 by omega), if_neg (show ¬ (x.1 : Int) = 9 by omega), if_neg (show ¬ (x.1 : Int) = 10 by omega), if_neg (show ¬ (x.1 : Int) = 11 by omega), if_neg (show ¬ (x.1 : Int) = 12 by omega), if_neg (show ¬ (x.1 : Int) = 13 by omega), if_neg (show ¬ (x.1 : Int) = 14 by omega), if_neg (show ¬ (x.1 : Int) = 15 by omega), if_neg (show ¬ (x.1 : Int) = 16 by omega), if_neg (show ¬ (x.1 : Int) = 17 by omega), if_neg (show ¬ (x.1 : Int) = 18 by omega), if_neg (show ¬ (x.1 : Int) = 19 by omega), if_neg (show ¬ (x.1 : Int) = 20 by omega), if_neg (show ¬ (x.1 : Int) = 21 by omega), if_neg (show ¬ (x.1 : Int) = 22 by omega), if_neg (show ¬ (x.1 : Int) = 23 by omega), if_neg (show ¬ (x.1 : Int) = 24 by omega), if_neg (show ¬ (x.1 : Int) = 25 by omega), if_neg (show ¬ (x.1 : Int) = 26 by omega), if_neg (show ¬ (x.1 : Int) = 27 by omega), if_neg (show ¬ (x.1 : Int) = 28 by omega), if_neg (show ¬ (x.1 : Int) = 29 by omega), if_neg (show ¬ (x.1 : Int) = 30 by omega), if_neg (show ¬ (x.1 : Int) = 31 by omega), if_neg (show ¬ (x.1 : Int) = 32 by omega), if_neg (show ¬ (x.1 : Int) = 33 by omega), if_neg (show ¬ (x.1 : Int) = 34 by omega), if_neg (show ¬ (x.1 : Int) = 35 by omega), if_neg (show ¬ (x.1 : Int) = 36 by omega), if_neg (show ¬ (x.1 : Int) = 37 by omega), if_neg (show ¬ (x.1 : Int) = 38 by omega), if_pos (show (x.1 : Int) = 39 by omega)]; exact h2
    · rw [if_neg (show ¬ (x.1 : Int) = 0 by omega), if_neg (show ¬ (x.1 : Int) = 1 by omega), if_neg (show ¬ (x.1 : Int) = 2 by omega), if_neg (show ¬ (x.1 : Int) = 3 by omega), if_neg (show ¬ (x.1 : Int) = 4 by omega), if_neg (show ¬ (x.1 : Int) = 5 by omega), if_neg (show ¬ (x.1 : Int) = 6 by omega), if_neg (show ¬ (x.1 : Int) = 7 by omega), if_neg (show ¬ (x.1 : Int) = 8 by omega), if_neg (show ¬ (x.1 : Int) = 9 by omega), if_neg (show ¬ (x.1 : Int) = 10 by omega), if_neg (show ¬ (x.1 : Int) = 11 by omega), if_neg (show ¬ (x.1 : Int) = 12 by omega), if_neg (show ¬ (x.1 : Int) = 13 by omega), if_neg (show ¬ (x.1 : Int) = 14 by omega), if_neg (show ¬ (x.1 : Int) = 15 by omega), if_neg (show ¬ (x.1 : Int) = 16 by omega), if_neg (show ¬ (x.1 : Int) = 17 by omega), if_neg (show ¬ (x.1 : Int) = 18 by omega), if_neg (show ¬ (x.1 : Int) = 19 by omega), if_neg (show ¬ (x.1 : Int) = 20 by omega), if_neg (show ¬ (x.1 : Int) = 21 by omega), if_neg (show ¬ (x.1 : Int) = 22 by omega), if_neg (show ¬ (x.1 : Int) = 23 by omega), if_neg (show ¬ (x.1 : Int) = 24 by omega), if_neg (show ¬ (x.1 : Int) = 25 by omega), if_neg (show ¬ (x.1 : Int) = 26 by omega), if_neg (show ¬ (x.1 : Int) = 27 by omega), if_neg (show ¬ (x.1 : Int) = 28 by omega), if_neg (show ¬ (x.1 : Int) = 29 by omega), if_neg (show ¬ (x.1 : Int) = 30 by omega), if_neg (show ¬ (x.1 : Int) = 31 by omega), if_neg (show ¬ (x.1 : Int) = 32 by omega), if_neg (show ¬ (x.1 : Int) = 33 by omega), if_neg (show ¬ (x.1 : Int) = 34 by omega), if_neg (show ¬ (x.1 : Int) = 35 by omega), if_neg (show ¬ (x.1 : Int) = 36 by omega), if_neg (show ¬ (x.1 : Int) = 37 by omega), if_neg (show ¬ (x.1 : Int) = 38 by omega), if_neg (show ¬ (x.1 : Int) = 39 by omega), if_pos (show (x.1 : Int) = 40 by omega)]; exact h2
  · have et : lvX bl x = lvT x.1 := by unfold lvX; rw [if_neg hc]
    rw [et]
    unfold ja_X13_leaves
    rw [if_pos hin, lt_eq, (jcP hP 22 (by decide) : ja_c P 22 = P + 15), Int.toNat_natCast, h15']
    by_cases c0 : x.1 = 0
    · rw [if_pos (show (x.1 : Int) = 0 by omega), c0]; rfl
    rw [if_neg (show ¬ (x.1 : Int) = 0 by omega)]
    by_cases c1 : x.1 = 1
    · rw [if_pos (show (x.1 : Int) = 1 by omega), c1]; rfl
    rw [if_neg (show ¬ (x.1 : Int) = 1 by omega)]
    by_cases c2 : x.1 = 2
    · rw [if_pos (show (x.1 : Int) = 2 by omega), c2]; rfl
    rw [if_neg (show ¬ (x.1 : Int) = 2 by omega)]
    by_cases c3 : x.1 = 3
    · rw [if_pos (show (x.1 : Int) = 3 by omega), c3]; rfl
    rw [if_neg (show ¬ (x.1 : Int) = 3 by omega)]
    by_cases c4 : x.1 = 4
    · rw [if_pos (show (x.1 : Int) = 4 by omega), c4]; rfl
    rw [if_neg (show ¬ (x.1 : Int) = 4 by omega)]
    by_cases c5 : x.1 = 5
    · rw [if_pos (show (x.1 : Int) = 5 by omega), c5]; rfl
    rw [if_neg (show ¬ (x.1 : Int) = 5 by omega)]
    by_cases c6 : x.1 = 6
    · rw [if_pos (show (x.1 : Int) = 6 by omega), c6]; rfl
    rw [if_neg (show ¬ (x.1 : Int) = 6 by omega)]
    by_cases c7 : x.1 = 7
    · rw [if_pos (show (x.1 : Int) = 7 by omega), c7]; rfl
    rw [if_neg (show ¬ (x.1 : Int) = 7 by omega)]
    by_cases c8 : x.1 = 8
    · rw [if_pos (show (x.1 : Int) = 8 by omega), c8]; rfl
    rw [if_neg (show ¬ (x.1 : Int) = 8 by omega)]
    by_cases c9 : x.1 = 9
    · rw [if_pos (show (x.1 : Int) = 9 by omega), c9]; rfl
    rw [if_neg (show ¬ (x.1 : Int) = 9 by omega)]
    by_cases c10 : x.1 = 10
    · rw [if_pos (show (x.1 : Int) = 10 by omega), c10]; rfl
    rw [if_neg (show ¬ (x.1 : Int) = 10 by omega)]
    by_cases c11 : x.1 = 11
    · rw [if_pos (show (x.1 : Int) = 11 by omega), c11]; rfl
    rw [if_neg (show ¬ (x.1 : Int) = 11 by omega)]
    by_cases c12 : x.1 = 12
    · rw [if_pos (show (x.1 : Int) = 12 by omega), c12]; rfl
    rw [if_neg (show ¬ (x.1 : Int) = 12 by omega)]
    by_cases c13 : x.1 = 13
    · rw [if_pos (show (x.1 : Int) = 13 by omega), c13]; rfl
    rw [if_neg (show ¬ (x.1 : Int) = 13 by omega)]
    by_cases c14 : x.1 = 14
    · rw [if_pos (show (x.1 : Int) = 14 by omega), c14]; rfl
    rw [if_neg (show ¬ (x.1 : Int) = 14 by omega)]
    by_cases c15 : x.1 = 15
    · rw [if_pos (show (x.1 : Int) = 15 by omega), c15]; rfl
    rw [if_neg (show ¬ (x.1 : Int) = 15 by omega)]
    by_cases c16 : x.1 = 16
    · rw [if_pos (show (x.1 : Int) = 16 by omega), c16]; rfl
    rw [if_neg (show ¬ (x.1 : Int) = 16 by omega)]
    by_cases c17 : x.1 = 17
    · rw [if_pos (show (x.1 : Int) = 17 by omega), c17]; rfl
    rw [if_neg (show ¬ (x.1 : Int) = 17 by omega)]
    by_cases c18 : x.1 = 18
    · rw [if_pos (show (x.1 : Int) = 18 by omega), c18]; rfl
    rw [if_neg (show ¬ (x.1 : Int) = 18 by omega)]
    by_cases c19 : x.1 = 19
    · rw [if_pos (show (x.1 : Int) = 19 by omega), c19]; rfl
    rw [if_neg (show ¬ (x.1 : Int) = 19 by omega)]
    by_cases c20 : x.1 = 20
    · rw [if_pos (show (x.1 : Int) = 20 by omega), c20]; rfl
    rw [if_neg (show ¬ (x.1 : Int) = 20 by omega)]
    by_cases c21 : x.1 = 21
    · rw [if_pos (show (x.1 : Int) = 21 by omega), c21]; rfl
    rw [if_neg (show ¬ (x.1 : Int) = 21 by omega)]
    by_cases c22 : x.1 = 22
    · rw [if_pos (show (x.1 : Int) = 22 by omega), c22]; rfl
    rw [if_neg (show ¬ (x.1 : Int) = 22 by omega)]
    by_cases c23 : x.1 = 23
    · rw [if_pos (show (x.1 : Int) = 23 by omega), c23]; rfl
    rw [if_neg (show ¬ (x.1 : Int) = 23 by omega)]
    by_cases c24 : x.1 = 24
    · rw [if_pos (show (x.1 : Int) = 24 by omega), c24]; rfl
    rw [if_neg (show ¬ (x.1 : Int) = 24 by omega)]
    by_cases c25 : x.1 = 25
    · rw [if_pos (show (x.1 : Int) = 25 by omega), c25]; rfl
    rw [if_neg (show ¬ (x.1 : Int) = 25 by omega)]
    by_cases c26 : x.1 = 26
    · rw [if_pos (show (x.1 : Int) = 26 by omega), c26]; rfl
    rw [if_neg (show ¬ (x.1 : Int) = 26 by omega)]
    by_cases c27 : x.1 = 27
    · rw [if_pos (show (x.1 : Int) = 27 by omega), c27]; rfl
    rw [if_neg (show ¬ (x.1 : Int) = 27 by omega)]
    by_cases c28 : x.1 = 28
    · rw [if_pos (show (x.1 : Int) = 28 by omega), c28]; rfl
    rw [if_neg (show ¬ (x.1 : Int) = 28 by omega)]
    by_cases c29 : x.1 = 29
    · rw [if_pos (show (x.1 : Int) = 29 by omega), c29]; rfl
    rw [if_neg (show ¬ (x.1 : Int) = 29 by omega)]
    by_cases c30 : x.1 = 30
    · rw [if_pos (show (x.1 : Int) = 30 by omega), c30]; rfl
    rw [if_neg (show ¬ (x.1 : Int) = 30 by omega)]
    by_cases c31 : x.1 = 31
    · rw [if_pos (show (x.1 : Int) = 31 by omega), c31]; rfl
    rw [if_neg (show ¬ (x.1 : Int) = 31 by omega)]
    by_cases c32 : x.1 = 32
    · rw [if_pos (show (x.1 : Int) = 32 by omega), c32]; rfl
    rw [if_neg (show ¬ (x.1 : Int) = 32 by omega)]
    by_cases c33 : x.1 = 33
    · rw [if_pos (show (x.1 : Int) = 33 by omega), c33]; rfl
    rw [if_neg (show ¬ (x.1 : Int) = 33 by omega)]
    by_cases c34 : x.1 = 34
    · rw [if_pos (show (x.1 : Int) = 34 by omega), c34]; rfl
    rw [if_neg (show ¬ (x.1 : Int) = 34 by omega)]
    by_cases c35 : x.1 = 35
    · rw [if_pos (show (x.1 : Int) = 35 by omega), c35]; rfl
    rw [if_neg (show ¬ (x.1 : Int) = 35 by omega)]
    by_cases c36 : x.1 = 36
    · rw [if_pos (show (x.1 : Int) = 36 by omega), c36]; rfl
    rw [if_neg (show ¬ (x.1 : Int) = 36 by omega)]
    by_cases c37 : x.1 = 37
    · rw [if_pos (show (x.1 : Int) = 37 by omega), c37]; rfl
    rw [if_neg (show ¬ (x.1 : Int) = 37 by omega)]
    by_cases c38 : x.1 = 38
    · rw [if_pos (show (x.1 : Int) = 38 by omega), c38]; rfl
    rw [if_neg (show ¬ (x.1 : Int) = 38 by omega)]
    rw [if_neg (show ¬ (x.1 : Int) = 39 by omega)]
    rw [if_neg (show ¬ (x.1 : Int) = 40 by omega)]
    by_cases c41 : x.1 = 41
    · rw [if_pos (show (x.1 : Int) = 41 by omega), c41]; rfl
    rw [if_neg (show ¬ (x.1 : Int) = 41 by omega)]
    by_cases c42 : x.1 = 42
    · rw [if_pos (show (x.1 : Int) = 42 by omega), c42]; rfl
    rw [if_neg (show ¬ (x.1 : Int) = 42 by omega)]
    by_cases c43 : x.1 = 43
    · rw [if_pos (show (x.1 : Int) = 43 by omega), c43]; rfl
    rw [if_neg (show ¬ (x.1 : Int) = 43 by omega)]
    by_cases c44 : x.1 = 44
    · rw [if_pos (show (x.1 : Int) = 44 by omega), c44]; rfl
    rw [if_neg (show ¬ (x.1 : Int) = 44 by omega)]
    have : x.1 = 45 := by omega
    rw [this]; rfl
end HTK
