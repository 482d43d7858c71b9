/-! Lines: the reference's labels. -/
def lix (n : List Int) : List (List Int × Nat × Nat) → Nat → Int
  | [], _ => -1
  | x :: l, k => if x.1 = n then (k : Int) else lix n l (k + 1)
theorem lix_rg {n : List Int} : ∀ (ls : List (List Int × Nat × Nat)) (k : Nat), (lix n ls k = -1 ∧ lfd n ls = none) ∨ ∃ i x, lix n ls k = ((k + i : Nat) : Int) ∧ ls[i]? = some x ∧ lfd n ls = some x.2 := by
  intro ls
  induction ls with
  | nil => intro k; exact Or.inl ⟨rfl, rfl⟩
  | cons x l ih =>
    intro k
    rw [lix, lfd]
    by_cases e : x.1 = n
    · rw [if_pos e, if_pos e]
      exact Or.inr ⟨0, x, rfl, rfl, rfl⟩
    · rw [if_neg e, if_neg e]
      rcases ih (k + 1) with h | ⟨i, y, h1, h2, h3⟩
      · exact Or.inl h
      · exact Or.inr ⟨i + 1, y, by rw [h1]; congr 1; omega, by simpa using h2, h3⟩
def rLs (S : nk_S) (tx : List (List Int)) (ls : List (List Int × Nat × Nat)) : Prop := S.1 121 19 = (ls.length : Int) ∧ ls.length ≤ 16000 ∧ ∀ (k : Nat) (q : List Int × Nat × Nat), ls[k]? = some q → S.1 222 k = (q.2.1 : Int) ∧ S.1 223 k = (q.2.2 : Int) ∧ tx[q.2.1]? = some q.1
section MLB
variable {S : nk_S} {tx : List (List Int)} {P : Nat}
theorem m_cl (hM : MW S tx) (b : Nat) (hb : b < 2000000) : ja_X13_is 121 (b : Int) 27 S = some (bi (fW tx 59 b), S) := m_W0 hM ok_t.2.2.2.2.2.2.2.2.2.2.1 tx_t.2.2.2.2.2.2.2.2.2.2.1 b hb
theorem m_ct (hM : MW S tx) (b : Nat) (hb : b < 2000000) : ja_X13_is 121 (b : Int) 29 S = some (bi (fW tx 46 b), S) := m_W0 hM ok_t.2.2.2.2.2.2.2.2.2.2.2.1 tx_t.2.2.2.2.2.2.2.2.2.2.2.1 b hb
theorem m_isL (hM : MW S tx) (a : Nat) (ha : a < 1000000) : ja_X13_isLabel 121 (a : Int) S = some (bi (fW tx 59 (a + 1)), S) := by
  unfold ja_X13_isLabel
  rw [w_nat1 (by omega), m_cl hM (a + 1) (by omega), bd_some]
  cases fW tx 59 (a + 1) with
  | true => rfl
  | false => rfl
theorem m_op0 (hM : MW S tx) {a : Nat} (ha : a < tx.length) : ja_X13_opOf 121 (a : Int) S = some (fO tx a, S) := by
  obtain ⟨f, t, e1, e2, e3, e4, e5, e6⟩ := MW_get hM ha
  unfold ja_X13_opOf
  rw [if_pos (in_i (N := 16002) (by omega)), jc_121_8, jc_121_9, Int.toNat_natCast, e1, e2, m_among ok_t.2.2.2.2.2.2.2.2.2.2.2.2.1 (by omega) e4 tx_t.2.2.2.2.2.2.2.2.2.2.2.2.2.2.2.1 fx_sp.1, bd_some, e5]
  rfl
theorem m_kind (S : nk_S) {o : Nat} (h : o < 46) : ja_J0_charAt_5068e 33 (o : Int) S = some ((([45, 78, 75, 73, 76, 67, 69, 84, 70] : List Int).getD (fK o) 0), S) := by
  obtain ⟨h1, h2, h3⟩ := fK_t o h
  rw [jchr ok_t.2.2.2.2.2.2.2.2.2.2.2.2.2.1 h3, h1]
theorem fKw (k : Nat) (h : k < 9) : ((([45, 78, 75, 73, 76, 67, 69, 84, 70] : List Int).getD k 0) = 45 ↔ k = 0) ∧ ((([45, 78, 75, 73, 76, 67, 69, 84, 70] : List Int).getD k 0) = 73 ↔ k = 3) := by
  have : k = 0 ∨ k = 1 ∨ k = 2 ∨ k = 3 ∨ k = 4 ∨ k = 5 ∨ k = 6 ∨ k = 7 ∨ k = 8 := by omega
  rcases this with rfl | rfl | rfl | rfl | rfl | rfl | rfl | rfl | rfl <;> decide
theorem m_lineT (hM : MW S tx) {a : Nat} (h : (fLine tx a).1 = true) : ja_X13_lineLength 121 (a : Int) S = some ((((fLine tx a).2 - a : Nat) : Int), S) := by
  have hT := hM.2.1
  have hlen := fLine_len h
  have hlt := fLine_lt h
  unfold ja_X13_lineLength
  rw [m_isL hM a (by omega), bd_some]
  rcases ln_kind h with ⟨h1, h2, h3⟩ | ⟨h0, h1, -, -, -, h2, h3⟩ | ⟨h1, h2, h3, h4, h5⟩
  · rw [h1, if_neg (show ¬ bi true = 0 by decide), h3, show a + 2 - a = 2 by omega]; rfl
  · rw [h0, if_pos (show bi false = 0 from rfl), m_ct hM a (by omega), bd_some, h1, if_neg (show ¬ bi true = 0 by decide), h3, show a + 5 - a = 5 by omega]; rfl
  · have hal := fO_T h3
    have hr := fO_rg (tx := tx) a
    obtain ⟨o, ho⟩ : ∃ o : Nat, fO tx a = (o : Int) := ⟨(fO tx a).toNat, (Int.toNat_of_nonneg h3).symm⟩
    obtain ⟨k1, k2⟩ := fKv o (by omega)
    rw [ho, Int.toNat_natCast] at h4 h5
    have hlen := op_len k2 h4
    obtain ⟨w1, w2⟩ := fKw (fK o) k2
    rw [h1, if_pos (show bi false = 0 from rfl), m_ct hM a (by omega), bd_some, h2, if_pos (show bi false = 0 from rfl), m_op0 hM hal, bd_some, ho, m_kind S (by omega), bd_some, h5, hlen]
    by_cases q0 : fK o = 0
    · rw [if_pos (w1.mpr q0), if_pos q0, show a + 1 + 0 - a = 1 by omega]; rfl
    · rw [if_neg (fun e => q0 (w1.mp e)), if_neg q0]
      by_cases q3 : fK o = 3
      · rw [if_pos (w2.mpr q3), if_pos q3, show a + 1 + 2 - a = 3 by omega]; rfl
      · rw [if_neg (fun e => q3 (w2.mp e)), if_neg q3, show a + 1 + 1 - a = 2 by omega]; rfl
theorem m_labL (hM : MW S tx) {ls : List (List Int × Nat × Nat)} (hL : rLs S tx ls) {t : Nat} (ht : t < tx.length) : ∀ (e k m : Nat), k + e = ls.length → e < m → ja_X13_label_L2 m 121 (t : Int) (k : Int) S = some (lix (tx.getD t []) (ls.drop k) k, S) := by
  obtain ⟨f1, f0, f2⟩ := hL
  intro e
  induction e with
  | zero =>
    intro k m h1 h2
    obtain ⟨m, rfl⟩ : ∃ q, m = q + 1 := ⟨m - 1, by omega⟩
    show ja_X13_label_b2 (ja_X13_label_L2 m) 121 (t : Int) (k : Int) S = _
    unfold ja_X13_label_b2
    rw [f1, if_pos (by omega), List.drop_eq_nil_of_le (by omega)]
    rfl
  | succ e ih =>
    intro k m h1 h2
    obtain ⟨m, rfl⟩ : ∃ q, m = q + 1 := ⟨m - 1, by omega⟩
    show ja_X13_label_b2 (ja_X13_label_L2 m) 121 (t : Int) (k : Int) S = _
    obtain ⟨x, x1, x2⟩ := drop_at (show k < ls.length by omega)
    obtain ⟨y1, y2, y3⟩ := f2 k x x1
    have hq := at_lt y3
    have eg : tx.getD x.2.1 [] = x.1 := by rw [List.getD_eq_getElem?_getD, y3]; rfl
    have hnx := ih (k + 1) m (by omega) (by omega)
    rw [← w_nat1 (by omega)] at hnx
    unfold ja_X13_label_b2
    rw [f1, if_neg (by omega), if_pos (in_i (N := 16000) (by omega)), jc_121_17, Int.toNat_natCast, y1, m_sameT hM ht hq, bd_some, x2, lix, eg]
    by_cases c : tx.getD t [] = x.1
    · rw [decide_eq_true c, if_neg (show ¬ bi true = 0 by decide), if_pos c.symm]
    · rw [decide_eq_false c, if_pos (show bi false = 0 from rfl), lt_eq, hnx, if_neg (fun e => c e.symm)]
theorem m_label (hM : MW S tx) {ls : List (List Int × Nat × Nat)} (hL : rLs S tx ls) {t : Nat} (ht : t < tx.length) : ja_X13_label 121 (t : Int) S = some (lix (tx.getD t []) ls 0, S) := by
  obtain ⟨m, hm⟩ := big_ge 40000 (by decide)
  have := hL.2.1
  exact m_labL hM hL ht ls.length 0 nk_big (by omega) (by omega)
theorem m_labA (hM : MW S tx) {ls : List (List Int × Nat × Nat)} (hL : rLs S tx ls) {t : Nat} (ht : t < tx.length) : ja_X13_labelAt 121 (t : Int) S = some (lat ls (tx.getD t []), S) := by
  have h0 := hL.2.1
  unfold ja_X13_labelAt lat
  rw [m_label hM hL ht, bd_some]
  rcases lix_rg (n := tx.getD t []) ls 0 with ⟨h1, h2⟩ | ⟨i, x, h1, h2, h3⟩
  · rw [h1, if_neg (by decide), h2]
  · have hi := at_lt h2
    rw [h1, h3, Nat.zero_add, if_pos (by omega), if_pos (in_i (N := 16000) (by omega)), jc_121_18, Int.toNat_natCast, (hL.2.2 i x h2).2.1]
end MLB
section MLC
variable {tx : List (List Int)} {P : Nat}
/-- the reference marks the labels -/
theorem m_mkL (hP : P = 122 ∨ P = 168) {b : Nat} (hb : b < 48) {bg : Int} : ∀ (d a m k : Nat) (ls : List (List Int × Nat × Nat)) (S : nk_S), MW S tx → rLs S tx ls → (fLines tx d a).1 = true → ls.length ≤ a → k < a + 2000 → tx.length < a + m → ∃ S', ja_X13_linesOf_L33 m 121 P (b : Int) bg (k : Int) (a : Int) S = ja_X13_linesOf_L131 nk_big 121 P (b : Int) bg ((lbs tx d a k).2 : Int) (nk_wi S' (P + 13) b ((lbs tx d a k).2 : Int)) ∧ rLs S' tx (ls ++ (lbs tx d a k).1) ∧ S'.2 = S.2 ∧ (∀ c, c ≠ 121 → c ≠ 222 → c ≠ 223 → S'.1 c = S.1 c) ∧ ∀ i, i ≠ 19 → S'.1 121 i = S.1 121 i := by
  intro d
  induction d with
  | zero => intro a m k ls S _ _ h; cases h
  | succ d ih =>
    intro a m k ls S hM hL h hla hk hm
    have hT := hM.2.1
    have hend := fLines_ok h
    rw [fLines] at h hend
    rw [lbs]
    have hal : a < tx.length := by
      cases h58 : fW tx 58 a with
      | true => exact fW_T h58
      | false =>
        rw [h58] at h
        simp only [Bool.false_eq_true, if_false] at h
        have h1 := (sq_ok h).1
        have l1 := fLine_len h1
        have l2 := fLine_lt h1
        omega
    obtain ⟨m, rfl⟩ : ∃ q, m = q + 1 := ⟨m - 1, by omega⟩
    have hstep : ja_X13_linesOf_L33 (m + 1) 121 P (b : Int) bg (k : Int) (a : Int) S = ja_X13_linesOf_b33 (ja_X13_linesOf_L33 m) 121 P (b : Int) bg (k : Int) (a : Int) S := rfl
    unfold ja_X13_linesOf_b33 at hstep
    rw [m_rb hM a (by omega), bd_some] at hstep
    cases h58 : fW tx 58 a with
    | true =>
      rw [h58, if_neg (show ¬ bi true = 0 by decide), if_pos (in_i (N := 48) (by omega)), lt_eq, (jcP hP 20 (by decide) : ja_c P 20 = P + 13), Int.toNat_natCast] at hstep
      simp only [if_true]
      exact ⟨S, hstep, by rw [List.append_nil]; exact hL, rfl, fun _ _ _ _ => rfl, fun _ _ => rfl⟩
    | false =>
      rw [h58] at h hend hstep
      simp only [Bool.false_eq_true, if_false] at h hend ⊢
      obtain ⟨h1, h2, h3⟩ := sq_ok h
      have l1 := fLine_len h1
      have l2 := fLine_lt h1
      rw [if_pos (show bi false = 0 from rfl), m_isL hM a (by omega), bd_some] at hstep
      have hnx : ∀ (T : nk_S) (k' : Nat) (ls' : List (List Int × Nat × Nat)), MW T tx → rLs T tx ls' → ls'.length ≤ (fLine tx a).2 → k' < (fLine tx a).2 + 2000 → ∃ S', ja_X13_linesOf_b102 (ja_X13_linesOf_L33 m) 121 P (b : Int) bg (k' : Int) (a : Int) T = ja_X13_linesOf_L131 nk_big 121 P (b : Int) bg ((lbs tx d (fLine tx a).2 k').2 : Int) (nk_wi S' (P + 13) b ((lbs tx d (fLine tx a).2 k').2 : Int)) ∧ rLs S' tx (ls' ++ (lbs tx d (fLine tx a).2 k').1) ∧ S'.2 = T.2 ∧ (∀ c, c ≠ 121 → c ≠ 222 → c ≠ 223 → S'.1 c = T.1 c) ∧ ∀ i, i ≠ 19 → S'.1 121 i = T.1 121 i := by
        intro T k' ls' hMT hLT hl' hk'
        obtain ⟨S', i1, i2⟩ := ih (fLine tx a).2 m k' ls' T hMT hLT h2 hl' hk' (by omega)
        refine ⟨S', ?_, i2⟩
        have w2 : nk_w ((a : Int) + (((fLine tx a).2 - a : Nat) : Int)) = ((fLine tx a).2 : Int) := by
          rw [show (a : Int) + (((fLine tx a).2 - a : Nat) : Int) = ((fLine tx a).2 : Int) by omega]
          exact w_n0 (by omega)
        unfold ja_X13_linesOf_b102
        rw [m_lineT hMT h1, bd_some, lt_eq, w2]
        exact i1
      rcases ln_kind h1 with ⟨g1, g2, g3⟩ | ⟨g0, g1, -, -, -, g2, g3⟩ | ⟨g1, g2, g3, g4, g5⟩
      · rw [if_pos g1]
        rw [g1, if_neg (show ¬ bi true = 0 by decide), hL.1, if_pos (in_i (N := 16000) (by omega)), lt_eq, jc_121_17, Int.toNat_natCast] at hstep
        rw [show (nk_wi S 222 ls.length (a : Int)).1 121 19 = (ls.length : Int) by rw [wi_n (by decide)]; exact hL.1, if_pos (in_i (N := 16000) (by omega)), lt_eq, jc_121_18, Int.toNat_natCast, lt_eq] at hstep
        rw [show (nk_wi (nk_wi S 222 ls.length (a : Int)) 223 ls.length (k : Int)).1 121 19 = (ls.length : Int) by rw [wi_n (by decide), wi_n (by decide)]; exact hL.1, w_nat1 (by omega)] at hstep
        obtain ⟨T, hTT⟩ : ∃ T, T = nk_wi (nk_wi (nk_wi S 222 ls.length (a : Int)) 223 ls.length (k : Int)) 121 19 ((ls.length + 1 : Nat) : Int) := ⟨_, rfl⟩
        rw [← hTT] at hstep
        have tn : ∀ c, c ≠ 121 → c ≠ 222 → c ≠ 223 → T.1 c = S.1 c := fun c x y z => by rw [hTT, wi_n x, wi_n z, wi_n y]
        have t121 : ∀ i, i ≠ 19 → T.1 121 i = S.1 121 i := fun i hi => by rw [hTT, wi_at, if_neg hi, wi_n (by decide), wi_n (by decide)]
        have MT : MW T tx := MW_c (t121 10 (by decide)) (tn 216 (by decide) (by decide) (by decide)) (tn 217 (by decide) (by decide) (by decide)) (tn 215 (by decide) (by decide) (by decide)) hM
        have LT : rLs T tx (ls ++ [(tx.getD a [], a, k)]) := by
          refine ⟨by rw [hTT, wi_at, if_pos rfl, List.length_append]; rfl, by rw [List.length_append, List.length_cons, List.length_nil]; omega, fun j q hq => ?_⟩
          have r2 : T.1 222 j = if j = ls.length then (a : Int) else S.1 222 j := by rw [hTT, wi_n (by decide), wi_n (by decide), wi_at]
          have r3 : T.1 223 j = if j = ls.length then (k : Int) else S.1 223 j := by rw [hTT, wi_n (by decide), wi_at, wi_n (by decide)]
          rw [r2, r3]
          rcases fl_case hq with ⟨z1, e⟩ | ⟨z1, e⟩
          · rw [if_neg (by omega), if_neg (by omega)]
            exact hL.2.2 j q e
          · rw [if_pos z1, if_pos z1, e]
            exact ⟨rfl, rfl, by rw [List.getD_eq_getElem?_getD, List.getElem?_eq_getElem hal]; rfl⟩
        rw [g3] at hnx
        obtain ⟨S', i1, i2, i3, i4, i5⟩ := hnx T k _ MT LT (by rw [List.length_append, List.length_cons, List.length_nil]; omega) (by omega)
        refine ⟨S', by rw [hstep]; exact i1, by rw [List.append_assoc] at i2; exact i2, by rw [i3, hTT]; rfl, fun c x y z => by rw [i4 c x y z, tn c x y z], fun i hi => by rw [i5 i hi, t121 i hi]⟩
      · rw [if_neg (show ¬ fW tx 59 (a + 1) = true by rw [g0]; decide), if_pos g1]
        rw [g0, if_pos (show bi false = 0 from rfl), m_ct hM a (by omega), bd_some, g1, if_neg (show ¬ bi true = 0 by decide)] at hstep
        rw [g3] at hnx
        obtain ⟨S', i1, i2⟩ := hnx S k ls hM hL (by omega) (by omega)
        exact ⟨S', by rw [hstep]; exact i1, i2⟩
      · rw [if_neg (show ¬ fW tx 59 (a + 1) = true by rw [g1]; decide), if_neg (show ¬ fW tx 46 a = true by rw [g2]; decide)]
        rw [g1, if_pos (show bi false = 0 from rfl), m_ct hM a (by omega), bd_some, g2, if_pos (show bi false = 0 from rfl), lt_eq, w_nat1 (by omega)] at hstep
        obtain ⟨S', i1, i2⟩ := hnx S (k + 1) ls hM hL (by omega) (by omega)
        exact ⟨S', by rw [hstep]; exact i1, i2⟩
end MLC
