/-! Lines: the reference's lines and bodies. -/
section MLN
variable {tx : List (List Int)} {P : Nat} {ns : List (List Int)} {us : List Int} {fl : List (List Int × Nat × Int)} {bl : List jB} {ls : List (List Int × Nat × Nat)} {en b : Nat} {lc : Int} {z : jL}
theorem m_code (hP : P = 122 ∨ P = 168) {S : nk_S} (hV : rVm S tx P ns us fl bl) (hu : uOk us) (hO : fOk us fl) (hOb : bOk us bl) (hZ : rJL S P z) (hoz : oJL z) (hL : rLs S tx ls) (hb : b < 48) (hlc : S.1 (P + 11) b = lc) {a : Nat} (g1 : fW tx 59 (a + 1) = false) (g2 : fW tx 46 a = false) (g3 : 0 ≤ fO tx a) (g4 : (fOp tx (fK (fO tx a).toNat) (a + 1)).1 = true) : ∃ S', mcA (lnS tx ns us fl bl ls en b lc a z).1 (ja_X13_code 121 P (b : Int) (a : Int) (en : Int) S) S' ∧ rK P S S' ∧ ((lnS tx ns us fl bl ls en b lc a z).1 = none → rJL S' P (lnS tx ns us fl bl ls en b lc a z).2) := by
  have hM := hV.1
  have hT := hM.2.1
  have hal := fO_T g3
  have hr := fO_rg (tx := tx) a
  obtain ⟨o, ho46⟩ : ∃ o : Nat, fO tx a = (o : Int) := ⟨(fO tx a).toNat, (Int.toNat_of_nonneg g3).symm⟩
  have h46 : o < 46 := by omega
  obtain ⟨cl, sl, kl, nl⟩ := z
  obtain ⟨y1, y2, y3, y4⟩ := hoz
  have y1 : cl.length ≤ 1024 := y1
  have y2 : sl.length ≤ 48 := y2
  have y4 : nl.length ≤ cl.length := y4
  have hz3 : S.1 P 3 = (cl.length : Int) := hZ.1.1
  have hz4 : S.1 P 4 = (sl.length : Int) := hZ.2.1.1
  unfold lnS
  rw [if_neg (show ¬ fW tx 59 (a + 1) = true by rw [g1]; decide), if_neg (show ¬ fW tx 46 a = true by rw [g2]; decide), ho46, Int.toNat_natCast]
  rw [ho46, Int.toNat_natCast] at g4
  unfold ja_X13_code
  rw [m_op0 hM hal, bd_some, ho46, hz3]
  have fin : ∃ S', mcA ((some a, (cl, sl, kl, nl)) : Option Nat × jL).1 (ja_X13_code_b40 121 (a : Int) S) S' ∧ rK P S S' ∧ (((some a, (cl, sl, kl, nl)) : Option Nat × jL).1 = none → rJL S' P ((some a, (cl, sl, kl, nl)) : Option Nat × jL).2) := ⟨nk_wi S 121 12 (a : Int), ⟨rfl, by rw [wi_at, if_pos rfl]⟩, rK_w hP, fun h => by cases h⟩
  by_cases q1 : 1024 ≤ cl.length
  · rw [if_pos (show (cl.length : Int) = 1024 by omega), if_pos (Or.inl q1)]
    exact fin
  rw [if_neg (show ¬ (cl.length : Int) = 1024 by omega)]
  by_cases q2 : ((o : Int) = 30 ∨ (o : Int) = 31) ∧ 48 ≤ sl.length
  · rw [if_pos (Or.inr q2)]
    have h31 : ja_X13_code_b31 121 P (b : Int) (a : Int) (en : Int) (o : Int) S = ja_X13_code_b40 121 (a : Int) S := by
      unfold ja_X13_code_b31
      rw [hz4, if_pos (show (sl.length : Int) = 48 by omega)]
    by_cases q30 : (o : Int) = 30
    · rw [if_pos q30, h31]; exact fin
    · rw [if_neg q30, if_pos (show (o : Int) = 31 by omega), h31]; exact fin
  · rw [if_neg (show ¬ (1024 ≤ cl.length ∨ (((o : Int) = 30 ∨ (o : Int) = 31) ∧ 48 ≤ sl.length)) from fun h => h.elim q1 q2)]
    have hsl : (o = 30 ∨ o = 31) → sl.length < 48 := fun h => by omega
    have e46 : (if (o : Int) = 30 then ja_X13_code_b31 121 P (b : Int) (a : Int) (en : Int) (o : Int) S else if (o : Int) = 31 then ja_X13_code_b31 121 P (b : Int) (a : Int) (en : Int) (o : Int) S else ja_X13_code_b46 121 P (b : Int) (a : Int) (en : Int) (o : Int) S) = ja_X13_code_b46 121 P (b : Int) (a : Int) (en : Int) (o : Int) S := by
      have h31 : (o = 30 ∨ o = 31) → ja_X13_code_b31 121 P (b : Int) (a : Int) (en : Int) (o : Int) S = ja_X13_code_b46 121 P (b : Int) (a : Int) (en : Int) (o : Int) S := by
        intro h
        have := hsl h
        unfold ja_X13_code_b31
        rw [hz4, if_neg (show ¬ (sl.length : Int) = 48 by omega)]
      by_cases q30 : (o : Int) = 30
      · rw [if_pos q30, h31 (by omega)]
      · rw [if_neg q30]
        by_cases q31 : (o : Int) = 31
        · rw [if_pos q31, h31 (by omega)]
        · rw [if_neg q31]
    rw [e46]
    obtain ⟨S', s1, s2⟩ := m_c46 (en := en) (lc := lc) hP hV hu hO hOb hZ hL hb hlc (by omega) hsl y4 h46 g4 (by omega)
    cases hX : oX tx ns us fl bl ls en lc o (a + 1) with
    | none =>
      rw [hX] at s2
      exact ⟨S', s2, s1, fun h => by cases h⟩
    | some q =>
      rw [hX] at s2
      exact ⟨S', s2.1, s1, fun _ => s2.2⟩
theorem m_lnL (hP : P = 122 ∨ P = 168) (hu : uOk us) (hO : fOk us fl) (hOb : bOk us bl) (hb : b < 48) (st : Nat) : ∀ (d a m : Nat) (z : jL) (S : nk_S), rVm S tx P ns us fl bl → rJL S P z → oJL z → (∀ a z, (lnS tx ns us fl bl ls en b lc a z).1 = none → oJL z → oJL (lnS tx ns us fl bl ls en b lc a z).2) → rLs S tx ls → S.1 (P + 11) b = lc → S.1 (P + 12) b = (st : Int) → (fLines tx d a).1 = true → (lbs tx d a z.1.length).2 = en → tx.length < a + m → ∃ S', mcA (lnL tx ns us fl bl ls en b lc st d a z).1 (ja_X13_linesOf_L131 m 121 P (b : Int) (a : Int) (en : Int) S) S' ∧ rK P S S' ∧ ((lnL tx ns us fl bl ls en b lc st d a z).1 = none → rJL S' P (lnL tx ns us fl bl ls en b lc st d a z).2) := by
  intro d
  induction d with
  | zero => intro a m z S _ _ _ _ _ _ _ h; cases h
  | succ d ih =>
    intro a m z S hV hZ hoz hOk hL h11 h12 h hen hm
    have hM := hV.1
    have hT := hM.2.1
    have hend := fLines_ok h
    rw [fLines] at h hend
    rw [lnL]
    rw [lbs] at hen
    have hal : a < tx.length := by
      cases h58 : fW tx 58 a with
      | true => exact fW_T h58
      | false =>
        rw [h58] at h
        simp only [Bool.false_eq_true, if_false] at h
        have h1 := (sq_ok h).1
        have l1 := fLine_len h1
        have l2 := fLine_lt h1
        omega
    obtain ⟨m, rfl⟩ : ∃ q, m = q + 1 := ⟨m - 1, by omega⟩
    have hstep : ja_X13_linesOf_L131 (m + 1) 121 P (b : Int) (a : Int) (en : Int) S = ja_X13_linesOf_b131 (ja_X13_linesOf_L131 m) 121 P (b : Int) (a : Int) (en : Int) S := rfl
    unfold ja_X13_linesOf_b131 at hstep
    rw [m_rb hM a (by omega), bd_some] at hstep
    cases h58 : fW tx 58 a with
    | true =>
      rw [h58] at hen
      simp only [if_true] at hen ⊢
      have h12' : S.1 (P + (19 - 7)) b = (st : Int) := h12
      rw [h58, if_neg (show ¬ bi true = 0 by decide), if_pos (in_i (N := 48) (by omega)), (jcP hP 19 (by decide) : ja_c P 19 = P + 12), Int.toNat_natCast, h12'] at hstep
      have hwr : ja_X13_linesOf_b307 121 (a : Int) 0 S = some (0, nk_wi S 121 12 (a : Int)) := rfl
      have hbad : ∃ S', mcA ((some a, z) : Option Nat × jL).1 (some (0, nk_wi S 121 12 (a : Int))) S' ∧ rK P S S' ∧ (((some a, z) : Option Nat × jL).1 = none → rJL S' P ((some a, z) : Option Nat × jL).2) := ⟨_, ⟨rfl, by rw [wi_at, if_pos rfl]⟩, rK_w hP, fun h => by cases h⟩
      unfold clz
      by_cases q : en ≤ st
      · rw [if_pos (show (en : Int) ≤ (st : Int) by omega)] at hstep
        unfold ja_X13_linesOf_b254 at hstep
        rw [if_pos rfl, hwr] at hstep
        rw [hstep, decide_eq_false (show ¬ st < z.1.length by omega), Bool.false_and, if_neg (by decide)]
        exact hbad
      · have h1024 := hoz.1
        rw [if_neg (show ¬ (en : Int) ≤ (st : Int) by omega)] at hstep
        unfold ja_X13_linesOf_b254 at hstep
        have w1 : nk_w ((en : Int) - 1) = ((en - 1 : Nat) : Int) := by
          rw [show (en : Int) - 1 = ((en - 1 : Nat) : Int) by omega]
          exact w_n0 (by omega)
        have hin : (0 : Int) ≤ ((en - 1 : Nat) : Int) ∧ ((en - 1 : Nat) : Int) < 1024 := in_i (N := 1024) (by clear w1; omega)
        obtain ⟨x, hx⟩ : ∃ x, z.1[en - 1]? = some x := ⟨z.1[en - 1]'(by clear w1; omega), List.getElem?_eq_getElem (by clear w1; omega)⟩
        have hx15 : S.1 (P + (22 - 7)) (en - 1) = (x.1 : Int) := (hZ.1.2 _ x hx).1
        rw [if_neg (show ¬ (1 : Int) = 0 by decide), w1, if_pos hin, lt_eq, (jcP hP 22 (by decide) : ja_c P 22 = P + 15), Int.toNat_natCast, hx15] at hstep
        clear w1
        have hok : ja_X13_linesOf_b300 121 (a : Int) S = some (1, S) := rfl
        have hno : ja_X13_linesOf_b305 121 (a : Int) 0 S = some (0, nk_wi S 121 12 (a : Int)) := rfl
        have hgood : ∃ S', mcA ((none, z) : Option Nat × jL).1 (some (1, S)) S' ∧ rK P S S' ∧ (((none, z) : Option Nat × jL).1 = none → rJL S' P ((none, z) : Option Nat × jL).2) := ⟨S, rfl, rK_rfl, fun _ => hZ⟩
        rw [hok, hno] at hstep
        rw [hstep, decide_eq_true (show st < z.1.length by omega), Bool.true_and, show z.1.length - 1 = en - 1 by omega, hx]
        dsimp only
        by_cases q1 : x.1 = 19
        · rw [if_pos (show (x.1 : Int) = 19 by omega), if_pos (decide_eq_true (Or.inl q1))]; exact hgood
        rw [if_neg (show ¬ (x.1 : Int) = 19 by omega)]
        by_cases q2 : x.1 = 41
        · rw [if_pos (show (x.1 : Int) = 41 by omega), if_pos (decide_eq_true (Or.inr (Or.inl q2)))]; exact hgood
        rw [if_neg (show ¬ (x.1 : Int) = 41 by omega)]
        by_cases q3 : x.1 = 42
        · rw [if_pos (show (x.1 : Int) = 42 by omega), if_pos (decide_eq_true (Or.inr (Or.inr (Or.inl q3))))]; exact hgood
        rw [if_neg (show ¬ (x.1 : Int) = 42 by omega)]
        by_cases q4 : x.1 = 43
        · rw [if_pos (show (x.1 : Int) = 43 by omega), if_pos (decide_eq_true (Or.inr (Or.inr (Or.inr q4))))]; exact hgood
        rw [if_neg (show ¬ (x.1 : Int) = 43 by omega), if_neg (by rw [decide_eq_true_eq]; omega)]
        exact hbad
    | false =>
      rw [h58] at h hend hstep hen
      simp only [Bool.false_eq_true, if_false] at h hend hen ⊢
      obtain ⟨h1, h3, h4⟩ := sq_ok h
      have hlen := fLine_len h1
      have hlt := fLine_lt h1
      rw [if_pos (show bi false = 0 from rfl), m_isL hM a (by omega), bd_some] at hstep
      -- what comes behind a line that is taken
      have hgo : ∀ (T : nk_S) (w : jL), rK P S T → rJL T P w → (lnS tx ns us fl bl ls en b lc a z) = (none, w) → (lbs tx d (fLine tx a).2 w.1.length).2 = en → ∃ S', mcA (lnL tx ns us fl bl ls en b lc st d (fLine tx a).2 w).1 (ja_X13_linesOf_b224 (ja_X13_linesOf_L131 m) 121 P (b : Int) (a : Int) (en : Int) T) S' ∧ rK P S S' ∧ ((lnL tx ns us fl bl ls en b lc st d (fLine tx a).2 w).1 = none → rJL S' P (lnL tx ns us fl bl ls en b lc st d (fLine tx a).2 w).2) := by
        intro T w KT ZT hs hen'
        have how : oJL w := by
          have := hOk a z (by rw [hs]) hoz
          rw [hs] at this
          exact this
        obtain ⟨S', i1, i2, i3⟩ := ih (fLine tx a).2 m w T (rVm_K hP KT hV) ZT how hOk (rLs_K hP KT hL) (by rw [KT.2.1 _ (by omega) (by omega) (by omega) (by omega) (by omega)]; exact h11) (by rw [KT.2.1 _ (by omega) (by omega) (by omega) (by omega) (by omega)]; exact h12) h3 hen' (by omega)
        refine ⟨S', ?_, rK_trans KT i2, i3⟩
        have w2 : nk_w ((a : Int) + (((fLine tx a).2 - a : Nat) : Int)) = ((fLine tx a).2 : Int) := by
          rw [show (a : Int) + (((fLine tx a).2 - a : Nat) : Int) = ((fLine tx a).2 : Int) by omega]
          exact w_n0 (by omega)
        unfold ja_X13_linesOf_b224
        rw [m_lineT (MW_K hP KT hM) h1, bd_some, lt_eq, w2]
        exact i1
      rcases ln_kind h1 with ⟨g1, g2, g3⟩ | ⟨g0, g1, g2, g3, g4, g5, g6⟩ | ⟨g1, g2, g3, g4, g5⟩
      · -- a label
        rw [if_pos g1] at hen
        rw [g1, if_neg (show ¬ bi true = 0 by decide), m_label hM hL hal, bd_some] at hstep
        have h176 : ja_X13_linesOf_b176 121 (a : Int) S = some (0, nk_wi S 121 12 (a : Int)) := rfl
        have hls : lnS tx ns us fl bl ls en b lc a z = (match lfd (tx.getD a []) ls with
            | some q => if q.1 = a then (none, z) else (some a, z)
            | none => (some a, z)) := by
          unfold lnS
          rw [if_pos g1]
          cases lfd (tx.getD a []) ls <;> rfl
        have hbad : lnS tx ns us fl bl ls en b lc a z = (some a, z) → ja_X13_linesOf_L131 (m + 1) 121 P (b : Int) (a : Int) (en : Int) S = some (0, nk_wi S 121 12 (a : Int)) → ∃ S', mcA (match lnS tx ns us fl bl ls en b lc a z with
            | (some y, w) => (some y, w)
            | (none, w) => lnL tx ns us fl bl ls en b lc st d (fLine tx a).2 w : Option Nat × jL).1 (ja_X13_linesOf_L131 (m + 1) 121 P (b : Int) (a : Int) (en : Int) S) S' ∧ rK P S S' ∧ ((match lnS tx ns us fl bl ls en b lc a z with
            | (some y, w) => (some y, w)
            | (none, w) => lnL tx ns us fl bl ls en b lc st d (fLine tx a).2 w : Option Nat × jL).1 = none → rJL S' P (match lnS tx ns us fl bl ls en b lc a z with
            | (some y, w) => (some y, w)
            | (none, w) => lnL tx ns us fl bl ls en b lc st d (fLine tx a).2 w : Option Nat × jL).2) := by
          intro e1 e2
          rw [e1, e2]
          exact ⟨_, ⟨rfl, by rw [wi_at, if_pos rfl]⟩, rK_w hP, fun h => by cases h⟩
        rcases lix_rg (n := tx.getD a []) ls 0 with ⟨k1, k2⟩ | ⟨i, x, k1, k2, k3⟩
        · rw [k1, if_pos (by decide), h176] at hstep
          rw [k2] at hls
          exact hbad hls hstep
        · have hi := at_lt k2
          have hl6 := hL.2.1
          rw [k1, Nat.zero_add, if_neg (by omega), m_label hM hL hal, bd_some, k1, Nat.zero_add, if_pos (in_i (N := 16000) (by omega)), jc_121_17, Int.toNat_natCast, (hL.2.2 i x k2).1, h176] at hstep
          rw [k3] at hls
          dsimp only at hls
          by_cases q : x.2.1 = a
          · rw [if_pos q] at hls
            rw [if_pos (show (x.2.1 : Int) = (a : Int) by omega)] at hstep
            rw [hls, hstep]
            exact hgo S z rK_rfl hZ hls (by rw [g3]; exact hen)
          · rw [if_neg q] at hls
            rw [if_neg (show ¬ (x.2.1 : Int) = (a : Int) by omega)] at hstep
            exact hbad hls hstep
      · -- a catch
        rw [if_neg (show ¬ fW tx 59 (a + 1) = true by rw [g0]; decide), if_pos g1] at hen
        rw [g0, if_pos (show bi false = 0 from rfl), m_ct hM a (by omega), bd_some, g1, if_neg (show ¬ bi true = 0 by decide)] at hstep
        obtain ⟨T, t1, t2, t3⟩ := m_catch (en := en) (lc := lc) hP hV hu hZ hoz hL hb g0 g1 g2 g3 g4 g5
        cases hs : lnS tx ns us fl bl ls en b lc a z with
        | mk r w =>
          rw [hs] at t1 t3
          cases r with
          | some y =>
            obtain ⟨t1, t12⟩ := t1
            refine ⟨T, ⟨?_, t12⟩, t2, fun h => by cases h⟩
            rw [hstep, t1, bd_some, if_pos rfl]
          | none =>
            have t1 : ja_X13_catchLine 121 P (b : Int) (a : Int) (en : Int) S = some (1, T) := t1
            rw [t1, bd_some, if_neg (by decide)] at hstep
            rw [hstep]
            refine hgo T w t2 (t3 rfl) hs ?_
            have : w.1 = z.1 := by
              have h5 := congrArg (fun q => q.2.1) hs
              have h6 := congrArg (fun q => q.1) hs
              unfold lnS at h5 h6
              rw [if_neg (show ¬ fW tx 59 (a + 1) = true by rw [g0]; decide), if_pos g1] at h5 h6
              split at h6
              · cases h6
              rename_i c1
              rw [if_neg c1] at h5
              split at h6
              · cases h6
              rename_i c2
              rw [if_neg c2] at h5
              split at h6
              · cases h6
              rename_i c3
              rw [if_neg c3] at h5
              split at h6
              · cases h6
              rename_i c4
              rw [if_neg c4] at h5
              split at h6
              · cases h6
              rename_i c5
              rw [if_neg c5] at h5
              exact h5.symm
            rw [this, g6]
            exact hen
      · -- an instruction
        rw [if_neg (show ¬ fW tx 59 (a + 1) = true by rw [g1]; decide), if_neg (show ¬ fW tx 46 a = true by rw [g2]; decide)] at hen
        rw [g1, if_pos (show bi false = 0 from rfl), m_ct hM a (by omega), bd_some, g2, if_pos (show bi false = 0 from rfl)] at hstep
        obtain ⟨T, t1, t2, t3⟩ := m_code (en := en) (lc := lc) hP hV hu hO hOb hZ hoz hL hb h11 g1 g2 g3 g4
        cases hs : lnS tx ns us fl bl ls en b lc a z with
        | mk r w =>
          rw [hs] at t1 t3
          cases r with
          | some y =>
            obtain ⟨t1, t12⟩ := t1
            refine ⟨T, ⟨?_, t12⟩, t2, fun h => by cases h⟩
            rw [hstep, t1, bd_some, if_pos rfl]
          | none =>
            have t1 : ja_X13_code 121 P (b : Int) (a : Int) (en : Int) S = some (1, T) := t1
            rw [t1, bd_some, if_neg (by decide)] at hstep
            rw [hstep]
            refine hgo T w t2 (t3 rfl) hs ?_
            have : w.1.length = z.1.length + 1 := by
              have h5 := congrArg (fun q => q.2.1.length) hs
              have h6 := congrArg (fun q => q.1) hs
              unfold lnS at h5 h6
              rw [if_neg (show ¬ fW tx 59 (a + 1) = true by rw [g1]; decide), if_neg (show ¬ fW tx 46 a = true by rw [g2]; decide)] at h5 h6
              by_cases c1 : 1024 ≤ z.1.length ∨ ((fO tx a = 30 ∨ fO tx a = 31) ∧ 48 ≤ z.2.1.length)
              · rw [if_pos c1] at h6; cases h6
              · rw [if_neg c1] at h5 h6
                cases hX : oX tx ns us fl bl ls en lc (fO tx a).toNat (a + 1) with
                | none => rw [hX] at h6; cases h6
                | some q =>
                  rw [hX] at h5
                  have h7 : (z.1 ++ [((fO tx a).toNat, q.1, if (fO tx a).toNat = 30 ∨ (fO tx a).toNat = 31 then (z.2.1.length : Int) else q.2, b, a)]).length = w.1.length := h5
                  rw [List.length_append, List.length_cons, List.length_nil] at h7
                  omega
            rw [this]
            exact hen
end MLN
