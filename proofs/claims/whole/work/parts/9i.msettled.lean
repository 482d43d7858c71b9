/-! Settled: the reference. -/
def cntF (fl : List (List Int × Nat × Int)) (c : Nat) : Nat := (fl.filter (fun x => decide (x.2.1 = c))).length
def nOfF (us : List Int) (fl : List (List Int × Nat × Int)) : Nat → Nat → Nat
  | 0, _ => 0
  | n + 1, c => (if us.getD c 0 < 0 then 0 else nOfF us fl n (us.getD c 0).toNat) + cntF fl c
/-- how many fields an object of a class has -/
def nOf (us : List Int) (fl : List (List Int × Nat × Int)) (c : Nat) : Nat := nOfF us fl 64 c
/-- those of the classes above -/
def nUp (us : List Int) (fl : List (List Int × Nat × Int)) (c : Nat) : Nat := if us.getD c 0 < 0 then 0 else nOf us fl (us.getD c 0).toNat
theorem nOfF_st {us : List Int} {fl : List (List Int × Nat × Int)} (h : uOk us) : ∀ n m c, c < n → c < m → c < us.length → nOfF us fl n c = nOfF us fl m c := by
  intro n
  induction n with
  | zero => intro m c h1; omega
  | succ n ih =>
    intro m c h1 h2 h3
    obtain ⟨m, rfl⟩ : ∃ q, m = q + 1 := ⟨m - 1, by omega⟩
    rw [nOfF, nOfF]
    by_cases q : c = 0
    · subst q
      rw [h.1, if_pos (by decide), if_pos (by decide)]
    · obtain ⟨u, u1, u2⟩ := h.2 c (by omega) h3
      rw [u1, if_neg (by omega), if_neg (by omega), Int.toNat_natCast, ih m u (by omega) (by omega) (by omega)]
theorem nOf_eq {us : List Int} {fl : List (List Int × Nat × Int)} (h : uOk us) (h32 : us.length ≤ 32) {c : Nat} (hc : c < us.length) : nOf us fl c = nUp us fl c + cntF fl c := by
  unfold nOf nUp
  rw [nOfF]
  by_cases q : c = 0
  · subst q
    rw [h.1, if_pos (by decide), if_pos (by decide)]
  · obtain ⟨u, u1, u2⟩ := h.2 c (by omega) hc
    rw [u1, if_neg (by omega), if_neg (by omega), Int.toNat_natCast]
    unfold nOf
    rw [nOfF_st h 63 64 u (by omega) (by omega) (by omega)]
theorem cnt_one {fl : List (List Int × Nat × Int)} {f c : Nat} {x : List Int × Nat × Int} (hx : fl[f]? = some x) : cntF (fl.take (f + 1)) c = cntF (fl.take f) c + (if x.2.1 = c then 1 else 0) := by
  unfold cntF
  rw [List.take_add_one, hx, List.filter_append, List.length_append]
  congr 1
  show (List.filter _ [x]).length = _
  by_cases q : x.2.1 = c
  · rw [if_pos q, List.filter_cons_of_pos (by simpa using q)]; rfl
  · rw [if_neg q, List.filter_cons_of_neg (by simpa using q)]; rfl
theorem cnt_le (fl : List (List Int × Nat × Int)) (c : Nat) : cntF fl c ≤ fl.length := List.length_filter_le _ _
theorem nOf_le {us : List Int} {fl : List (List Int × Nat × Int)} (hl : fl.length ≤ 48) (n c : Nat) : nOfF us fl n c ≤ n * 48 := by
  induction n generalizing c with
  | zero => exact Nat.le_refl 0
  | succ n ih =>
    rw [nOfF]
    have := cnt_le fl c
    split
    · omega
    · have := ih (us.getD c 0).toNat
      omega
section MST
variable {tx : List (List Int)} {P : Nat} {ns : List (List Int)} {us : List Int} {fl : List (List Int × Nat × Int)} {bl : List jB}
def rS (P : Nat) (S S' : nk_S) : Prop := S'.2 = S.2 ∧ (∀ c, c ≠ 121 → c ≠ P → c ≠ P + 2 → c ≠ P + 5 → c ≠ P + 14 → c ≠ P + 20 → c ≠ P + 26 → S'.1 c = S.1 c) ∧ (∀ i, i ≠ 12 → S'.1 121 i = S.1 121 i) ∧ ∀ i, i ≠ 6 → i ≠ 7 → S'.1 P i = S.1 P i
theorem rS_trans {S1 S2 S3 : nk_S} (h : rS P S1 S2) (k : rS P S2 S3) : rS P S1 S3 := ⟨k.1.trans h.1, fun c x1 x2 x3 x4 x5 x6 x7 => (k.2.1 c x1 x2 x3 x4 x5 x6 x7).trans (h.2.1 c x1 x2 x3 x4 x5 x6 x7), fun i x => (k.2.2.1 i x).trans (h.2.2.1 i x), fun i x y => (k.2.2.2 i x y).trans (h.2.2.2 i x y)⟩
theorem rS_w (hP : P = 122 ∨ P = 168) {S : nk_S} {c i : Nat} {x : Int} (hc : c = P + 2 ∨ c = P + 5 ∨ c = P + 14 ∨ c = P + 20) : rS P S (nk_wi S c i x) := ⟨rfl, fun d _ _ x3 x4 x5 x6 _ => wi_n (by omega), fun i _ => by rw [wi_n (by omega)], fun i _ _ => by rw [wi_n (by omega)]⟩
theorem rS_T (hP : P = 122 ∨ P = 168) {S S' : nk_S} (h : rT1 P S S') : rS P S S' := ⟨h.1, fun c _ x2 _ _ _ _ x7 => h.2.1 c x2 x7, fun i _ => by rw [h.2.1 121 (by omega) (by omega)], fun i _ y => h.2.2 i y⟩
theorem rVm_S (hP : P = 122 ∨ P = 168) {S S' : nk_S} (h : rS P S S') (hV : rVm S tx P ns us fl bl) : rVm S' tx P ns us fl bl := by
  obtain ⟨v1, v2, v3, v4⟩ := hV
  have k := fun c x1 x2 x3 x4 x5 x6 x7 => h.2.1 c x1 x2 x3 x4 x5 x6 x7
  refine ⟨MW_c (h.2.2.1 10 (by decide)) (k 216 (by omega) (by omega) (by omega) (by omega) (by omega) (by omega) (by omega)) (k 217 (by omega) (by omega) (by omega) (by omega) (by omega) (by omega) (by omega)) (k 215 (by omega) (by omega) (by omega) (by omega) (by omega) (by omega) (by omega)) v1, rC_c (h.2.2.2 0 (by decide) (by decide)) (k (P + 1) (by omega) (by omega) (by omega) (by omega) (by omega) (by omega) (by omega)) (k 218 (by omega) (by omega) (by omega) (by omega) (by omega) (by omega) (by omega)) v2, ⟨by rw [h.2.2.2 1 (by decide) (by decide)]; exact v3.1, fun f x hx => ?_⟩, ⟨by rw [h.2.2.2 2 (by decide) (by decide)]; exact v4.1, fun b x hx => ?_⟩⟩
  · rw [k (P + 3) (by omega) (by omega) (by omega) (by omega) (by omega) (by omega) (by omega), k (P + 4) (by omega) (by omega) (by omega) (by omega) (by omega) (by omega) (by omega), k 219 (by omega) (by omega) (by omega) (by omega) (by omega) (by omega) (by omega)]
    exact v3.2 f x hx
  · have := v4.2 b x hx
    unfold rB1 at this ⊢
    rw [k (P + 6) (by omega) (by omega) (by omega) (by omega) (by omega) (by omega) (by omega), k (P + 7) (by omega) (by omega) (by omega) (by omega) (by omega) (by omega) (by omega), k (P + 8) (by omega) (by omega) (by omega) (by omega) (by omega) (by omega) (by omega), k (P + 9) (by omega) (by omega) (by omega) (by omega) (by omega) (by omega) (by omega), k (P + 10) (by omega) (by omega) (by omega) (by omega) (by omega) (by omega) (by omega), k (P + 11) (by omega) (by omega) (by omega) (by omega) (by omega) (by omega) (by omega), k 220 (by omega) (by omega) (by omega) (by omega) (by omega) (by omega) (by omega), k 221 (by omega) (by omega) (by omega) (by omega) (by omega) (by omega) (by omega)]
    exact this
/-- the seven numbers that every program knows -/
theorem m_st7 (hP : P = 122 ∨ P = 168) {S : nk_S} {n : Nat} {F : Int → Prop} (h : rTn S P n F) (hn : n ≤ 3072) : ∃ (S' : nk_S) (n' : Nat), ja_X13_settled 121 P S = ja_X13_settled_L54 nk_big 121 P 0 S' ∧ n' ≤ n + 7 ∧ rTn S' P n' (fun y => th7 y ∨ F y) ∧ rT1 P S S' := by
  obtain ⟨A1, n1, a1, a2, a3, a4⟩ := m_thr1 hP h (by omega) (-1)
  obtain ⟨A2, n2, b1, b2, b3, b4⟩ := m_thr1 hP a3 (by omega) 0
  obtain ⟨A3, n3, c1, c2, c3, c4⟩ := m_thr1 hP b3 (by omega) 1
  obtain ⟨A4, n4, d1, d2, d3, d4⟩ := m_thr1 hP c3 (by omega) (-2147483648)
  obtain ⟨A5, n5, e1, e2, e3, e4⟩ := m_thr1 hP d3 (by omega) (-2147483647)
  obtain ⟨A6, n6, f1, f2, f3, f4⟩ := m_thr1 hP e3 (by omega) 2147483646
  obtain ⟨A7, n7, g1, g2, g3, g4⟩ := m_thr1 hP f3 (by omega) 2147483647
  refine ⟨A7, n7, ?_, by omega, ⟨g3.1, g3.2.1, fun y => ?_⟩, rT1_trans a4 (rT1_trans b4 (rT1_trans c4 (rT1_trans d4 (rT1_trans e4 (rT1_trans f4 g4)))))⟩
  · obtain ⟨m, hm⟩ := big_ge 10 (by decide)
    have e : nk_big = (m + 6) + 1 + 1 + 1 + 1 := by omega
    have w0 : nk_w (-1 + 1) = 0 := by decide
    have w1 : nk_w (0 + 1) = 1 := by decide
    have w2 : nk_w (1 + 1) = 2 := by decide
    unfold ja_X13_settled
    rw [e]
    show ja_X13_settled_b2 (ja_X13_settled_L2 ((m + 6) + 1 + 1 + 1)) 121 P (-1) S = _
    unfold ja_X13_settled_b2
    rw [if_neg (show ¬ (2 : Int) ≤ -1 by decide), a1, bd_some, lt_eq, w0]
    show ja_X13_settled_b2 (ja_X13_settled_L2 ((m + 6) + 1 + 1)) 121 P 0 A1 = _
    unfold ja_X13_settled_b2
    rw [if_neg (show ¬ (2 : Int) ≤ 0 by decide), b1, bd_some, lt_eq, w1]
    show ja_X13_settled_b2 (ja_X13_settled_L2 ((m + 6) + 1)) 121 P 1 A2 = _
    unfold ja_X13_settled_b2
    rw [if_neg (show ¬ (2 : Int) ≤ 1 by decide), c1, bd_some, lt_eq, w2]
    show ja_X13_settled_b2 (ja_X13_settled_L2 (m + 6)) 121 P 2 A3 = _
    unfold ja_X13_settled_b2
    rw [if_pos (show (2 : Int) ≤ 2 by decide), d1, bd_some, e1, bd_some, f1, bd_some, g1, bd_some, e]
  · rw [g3.2.2 y]
    unfold th7
    constructor
    · rintro (((((((h | h) | h) | h) | h) | h) | h) | h)
      · exact Or.inr h
      · exact Or.inl (by omega)
      · exact Or.inl (by omega)
      · exact Or.inl (by omega)
      · exact Or.inl (by omega)
      · exact Or.inl (by omega)
      · exact Or.inl (by omega)
      · exact Or.inl (by omega)
    · rintro (h | h)
      · rcases h with h | h | h | h | h | h | h
        · exact Or.inl (Or.inl (Or.inl (Or.inr ⟨h, by decide, by decide⟩)))
        · exact Or.inl (Or.inl (Or.inr ⟨h, by decide, by decide⟩))
        · exact Or.inl (Or.inl (Or.inl (Or.inl (Or.inl (Or.inl (Or.inr ⟨h, by decide, by decide⟩))))))
        · exact Or.inl (Or.inl (Or.inl (Or.inl (Or.inl (Or.inr ⟨h, by decide, by decide⟩)))))
        · exact Or.inl (Or.inl (Or.inl (Or.inl (Or.inr ⟨h, by decide, by decide⟩))))
        · exact Or.inl (Or.inr ⟨h, by decide, by decide⟩)
        · exact Or.inr ⟨h, by decide, by decide⟩
      · exact Or.inl (Or.inl (Or.inl (Or.inl (Or.inl (Or.inl (Or.inl h))))))
theorem m_six (hP : P = 122 ∨ P = 168) : ∀ (e k m : Nat) (S : nk_S), k + e = 6 → e < m → ∃ S', ja_X13_settled_L54 m 121 P (k : Int) S = ja_X13_settled_L81 nk_big 121 P 0 S' ∧ S'.2 = S.2 ∧ (∀ c, c ≠ P + 20 → S'.1 c = S.1 c) ∧ ∀ i, S'.1 (P + 20) i = if 48 + k ≤ i ∧ i < 54 then ((10 + (i - 48) : Nat) : Int) else S.1 (P + 20) i := by
  intro e
  induction e with
  | zero =>
    intro k m S h1 h2
    obtain ⟨m, rfl⟩ : ∃ q, m = q + 1 := ⟨m - 1, by omega⟩
    refine ⟨S, ?_, rfl, fun _ _ => rfl, fun i => by rw [if_neg (by omega)]⟩
    show ja_X13_settled_b54 (ja_X13_settled_L54 m) 121 P (k : Int) S = _
    unfold ja_X13_settled_b54
    rw [if_pos (by omega)]
  | succ e ih =>
    intro k m S h1 h2
    obtain ⟨m, rfl⟩ : ∃ q, m = q + 1 := ⟨m - 1, by omega⟩
    obtain ⟨T, hT⟩ : ∃ T, T = nk_wi S (P + 20) (48 + k) ((10 + k : Nat) : Int) := ⟨_, rfl⟩
    obtain ⟨S', i1, i2, i3, i4⟩ := ih (k + 1) m T (by omega) (by omega)
    refine ⟨S', ?_, by rw [i2, hT]; rfl, fun c hc => by rw [i3 c hc, hT, wi_n hc], fun i => ?_⟩
    · rw [← i1]
      show ja_X13_settled_b54 (ja_X13_settled_L54 m) 121 P (k : Int) S = _
      have w1 : nk_w (48 + (k : Int)) = ((48 + k : Nat) : Int) := by
        rw [show (48 : Int) + (k : Int) = ((48 + k : Nat) : Int) by omega]
        exact w_n0 (by omega)
      have w2 : nk_w (10 + (k : Int)) = ((10 + k : Nat) : Int) := by
        rw [show (10 : Int) + (k : Int) = ((10 + k : Nat) : Int) by omega]
        exact w_n0 (by omega)
      have hin : (0 : Int) ≤ ((48 + k : Nat) : Int) ∧ ((48 + k : Nat) : Int) < 54 := in_i (N := 54) (by clear w1 w2; omega)
      have h6 : ¬ (6 : Int) ≤ (k : Int) := by clear w1 w2; omega
      have k1 : k + 1 < 2147483648 := by clear w1 w2; omega
      unfold ja_X13_settled_b54
      rw [if_neg h6, w1, if_pos hin, lt_eq, lt_eq, (jcP hP 27 (by decide) : ja_c P 27 = P + 20), Int.toNat_natCast, w2, w_nat1 k1, hT]
    · rw [i4, hT, wi_at]
      by_cases q : 48 + (k + 1) ≤ i ∧ i < 54
      · rw [if_pos q, if_pos (by omega)]
      · rw [if_neg q]
        by_cases q2 : i = 48 + k
        · rw [if_pos q2, if_pos (by omega), q2, show 48 + k - 48 = k by omega]
        · rw [if_neg q2, if_neg (by omega)]
theorem m_plL (hP : P = 122 ∨ P = 168) (hl48 : fl.length ≤ 48) {j : Nat} (hj : j < 32) (hnu : nUp us fl j < 10000) {rec81 : Nat → Nat → Int → nk_S → Option (Int × nk_S)} : ∀ (e f m : Nat) (S : nk_S), S.1 P 1 = (fl.length : Int) → (∀ f x, fl[f]? = some x → S.1 (P + 3) f = (x.2.1 : Int)) → f + e = fl.length → e < m → ∃ S', ja_X13_settled_L118 rec81 m 121 P (j : Int) ((nUp us fl j + cntF (fl.take f) j : Nat) : Int) (f : Int) S = ja_X13_settled_L165 rec81 nk_big 121 P (j : Int) 0 (nk_wi S' (P + 2) j ((nUp us fl j + cntF fl j : Nat) : Int)) ∧ S'.2 = S.2 ∧ (∀ c, c ≠ P + 5 → S'.1 c = S.1 c) ∧ ∀ i x, fl[i]? = some x → S'.1 (P + 5) i = if f ≤ i ∧ x.2.1 = j then ((nUp us fl j + cntF (fl.take i) j : Nat) : Int) else S.1 (P + 5) i := by
  intro e
  induction e with
  | zero =>
    intro f m S h1 h3 h4 h2
    obtain ⟨m, rfl⟩ : ∃ q, m = q + 1 := ⟨m - 1, by omega⟩
    refine ⟨S, ?_, rfl, fun _ _ => rfl, fun i x hx => by have := at_lt hx; rw [if_neg (by omega)]⟩
    show ja_X13_settled_b118 rec81 (ja_X13_settled_L118 rec81 m) 121 P (j : Int) ((nUp us fl j + cntF (fl.take f) j : Nat) : Int) (f : Int) S = _
    unfold ja_X13_settled_b118
    rw [h1, if_pos (by omega), if_pos (in_i (N := 32) (by omega)), lt_eq, (jcP hP 9 (by decide) : ja_c P 9 = P + 2), Int.toNat_natCast, List.take_of_length_le (by omega)]
  | succ e ih =>
    intro f m S h1 h3 h4 h2
    obtain ⟨m, rfl⟩ : ∃ q, m = q + 1 := ⟨m - 1, by omega⟩
    obtain ⟨x, hx⟩ : ∃ x, fl[f]? = some x := ⟨fl[f]'(by omega), List.getElem?_eq_getElem (by omega)⟩
    have hc := cnt_le (fl.take f) j
    rw [List.length_take] at hc
    have h3' : S.1 (P + (10 - 7)) f = (x.2.1 : Int) := h3 f x hx
    have hstep : ja_X13_settled_L118 rec81 (m + 1) 121 P (j : Int) ((nUp us fl j + cntF (fl.take f) j : Nat) : Int) (f : Int) S = if x.2.1 = j then ja_X13_settled_L118 rec81 m 121 P (j : Int) ((nUp us fl j + cntF (fl.take (f + 1)) j : Nat) : Int) ((f + 1 : Nat) : Int) (nk_wi S (P + 5) f ((nUp us fl j + cntF (fl.take f) j : Nat) : Int)) else ja_X13_settled_L118 rec81 m 121 P (j : Int) ((nUp us fl j + cntF (fl.take (f + 1)) j : Nat) : Int) ((f + 1 : Nat) : Int) S := by
      show ja_X13_settled_b118 rec81 (ja_X13_settled_L118 rec81 m) 121 P (j : Int) ((nUp us fl j + cntF (fl.take f) j : Nat) : Int) (f : Int) S = _
      unfold ja_X13_settled_b118
      rw [h1, if_neg (by omega), if_pos (in_i (N := 48) (by omega)), (jcP hP 10 (by decide) : ja_c P 10 = P + 3), Int.toNat_natCast, h3', cnt_one hx]
      by_cases q : x.2.1 = j
      · rw [if_pos (show (x.2.1 : Int) = (j : Int) by omega), if_pos q, lt_eq, lt_eq, lt_eq, (jcP hP 12 (by decide) : ja_c P 12 = P + 5), w_nat1 (by omega), w_nat1 (by omega), if_pos q]
        rfl
      · rw [if_neg (show ¬ (x.2.1 : Int) = (j : Int) by omega), if_neg q, lt_eq, w_nat1 (by omega), if_neg q]
        rfl
    by_cases q : x.2.1 = j
    · rw [if_pos q] at hstep
      obtain ⟨T, hT⟩ : ∃ T, T = nk_wi S (P + 5) f ((nUp us fl j + cntF (fl.take f) j : Nat) : Int) := ⟨_, rfl⟩
      rw [← hT] at hstep
      obtain ⟨S', i1, i2, i3, i4⟩ := ih (f + 1) m T (by rw [hT, wi_n (by omega)]; exact h1) (fun g y hy => by rw [hT, wi_n (by omega)]; exact h3 g y hy) (by omega) (by omega)
      refine ⟨S', by rw [hstep]; exact i1, by rw [i2, hT]; rfl, fun c hc => by rw [i3 c hc, hT, wi_n hc], fun i y hy => ?_⟩
      rw [i4 i y hy, hT, wi_at]
      by_cases e1 : i = f
      · subst e1
        rw [hx] at hy
        cases hy
        rw [if_neg (by omega), if_pos rfl, if_pos ⟨Nat.le_refl _, q⟩]
      · rw [if_neg e1]
        by_cases e2 : f + 1 ≤ i ∧ y.2.1 = j
        · rw [if_pos e2, if_pos ⟨by omega, e2.2⟩]
        · rw [if_neg e2, if_neg (fun h => e2 ⟨by omega, h.2⟩)]
    · rw [if_neg q] at hstep
      obtain ⟨S', i1, i2, i3, i4⟩ := ih (f + 1) m S h1 h3 (by omega) (by omega)
      refine ⟨S', by rw [hstep]; exact i1, i2, i3, fun i y hy => ?_⟩
      rw [i4 i y hy]
      by_cases e1 : i = f
      · subst e1
        rw [hx] at hy
        cases hy
        rw [if_neg (by omega), if_neg (fun h => q h.2)]
      · by_cases e2 : f + 1 ≤ i ∧ y.2.1 = j
        · rw [if_pos e2, if_pos ⟨by omega, e2.2⟩]
        · rw [if_neg e2, if_neg (fun h => e2 ⟨by omega, h.2⟩)]
theorem m_mnL (hP : P = 122 ∨ P = 168) (hu : uOk us) (hOb : bOk us bl) {j : Nat} (hj : j < ns.length) {rec81 : Nat → Nat → Int → nk_S → Option (Int × nk_S)} : ∀ (e b m : Nat) (S : nk_S), rVm S tx P ns us fl bl → b + e = bl.length → e < m → ∃ S', ja_X13_settled_L165 rec81 m 121 P (j : Int) (b : Int) S = rec81 121 P ((j + 1 : Nat) : Int) S' ∧ S'.2 = S.2 ∧ (∀ c, c ≠ P + 14 → S'.1 c = S.1 c) ∧ (∀ i, i < j * 48 ∨ j * 48 + 48 ≤ i → S'.1 (P + 14) i = S.1 (P + 14) i) ∧ ∀ i x, bl[i]? = some x → S'.1 (P + 14) (j * 48 + i) = if b ≤ i then bdL us j x.nm bl 0 (-1) else S.1 (P + 14) (j * 48 + i) := by
  have h48 := hOb.1
  intro e
  induction e with
  | zero =>
    intro b m S hV h1 h2
    obtain ⟨m, rfl⟩ : ∃ q, m = q + 1 := ⟨m - 1, by omega⟩
    have hns := hV.2.1.2.1
    refine ⟨S, ?_, rfl, fun _ _ => rfl, fun _ _ => rfl, fun i x hx => by have := at_lt hx; rw [if_neg (by omega)]⟩
    show ja_X13_settled_b165 rec81 (ja_X13_settled_L165 rec81 m) 121 P (j : Int) (b : Int) S = _
    unfold ja_X13_settled_b165
    rw [hV.2.2.2.1, if_pos (by omega), lt_eq, w_nat1 (by omega)]
  | succ e ih =>
    intro b m S hV h1 h2
    obtain ⟨m, rfl⟩ : ∃ q, m = q + 1 := ⟨m - 1, by omega⟩
    have hns := hV.2.1.2.1
    obtain ⟨x, hx⟩ : ∃ x, bl[b]? = some x := ⟨bl[b]'(by omega), List.getElem?_eq_getElem (by omega)⟩
    have hT0 := hV.1.2.1
    obtain ⟨-, -, -, -, -, -, y3, y4, -⟩ := hV.2.2.2.2 b x hx
    have hq := at_lt y4
    obtain ⟨f, t, e1, e2, e3, e4, e5⟩ := hV.1.2.2 _ _ y4
    obtain ⟨T, hT⟩ : ∃ T, T = nk_wi S (P + 14) (j * 48 + b) (bdL us j x.nm bl 0 (-1)) := ⟨_, rfl⟩
    have hstep : ja_X13_settled_L165 rec81 (m + 1) 121 P (j : Int) (b : Int) S = ja_X13_settled_L165 rec81 m 121 P (j : Int) ((b + 1 : Nat) : Int) T := by
      show ja_X13_settled_b165 rec81 (ja_X13_settled_L165 rec81 m) 121 P (j : Int) (b : Int) S = _
      have hin : (0 : Int) ≤ ((j * 48 + b : Nat) : Int) ∧ ((j * 48 + b : Nat) : Int) < 1536 := in_i (N := 1536) (by omega)
      unfold ja_X13_settled_b165
      rw [hV.2.2.2.1, if_neg (by omega), if_pos (in_i (N := 48) (by omega)), jc_121_15, Int.toNat_natCast, y3, if_pos (in_i (N := 16002) (by omega)), jc_121_8, jc_121_9, Int.toNat_natCast, e1, e2, m_bodyOf hV.1 hP hV.2.1 hu hV.2.2.2 hOb hj (by omega) e4, bd_some, e5, w_48 (by omega) (by omega), if_pos hin, lt_eq, lt_eq, (jcP hP 21 (by decide) : ja_c P 21 = P + 14), Int.toNat_natCast, w_nat1 (by omega), hT]
    have ST : rS P S T := by rw [hT]; exact rS_w hP (by omega)
    obtain ⟨S', i1, i2, i3, i4, i5⟩ := ih (b + 1) m T (rVm_S hP ST hV) (by omega) (by omega)
    refine ⟨S', by rw [hstep]; exact i1, by rw [i2, hT]; rfl, fun c hc => by rw [i3 c hc, hT, wi_n hc], fun i hi => by rw [i4 i hi, hT, wi_at, if_neg (by omega)], fun i y hy => ?_⟩
    rw [i5 i y hy, hT, wi_at]
    by_cases q : i = b
    · subst q
      rw [hx] at hy
      cases hy
      rw [if_neg (by omega), if_pos rfl, if_pos (Nat.le_refl _)]
    · by_cases q2 : b + 1 ≤ i
      · rw [if_pos q2, if_pos (by omega)]
      · rw [if_neg q2, if_neg (by omega), if_neg (by omega)]
end MST
