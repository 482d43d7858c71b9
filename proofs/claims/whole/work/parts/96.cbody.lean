/-! Lines: the class's bodies. -/
section CBY
variable {tx : List (List Int)} {Q c : Nat} {ns : List (List Int)} {us : List Int} {fl : List (List Int × Nat × Int)} {bl : List jB} {ls : List (List Int × Nat × Nat)} {en op b : Nat} {lc : Int} {z : jL}
/-- a line of any kind -/
theorem c_lineA (hQ : Q = 13 ∨ Q = 49) {S : nk_S} (hV : cVm S tx Q c ns us fl bl) (hu : uOk us) (hO : fOk us fl) (hOb : bOk us bl) (hZ : cJL S Q z) (hoz : oJL z) (hL : cLb S c op ls) (hb : b < 48) (ho : S.1 (Q + 17) b = (op : Int)) (he : S.1 (Q + 19) b = (en : Int)) (hlc : S.1 (Q + 16) b = lc) {a : Nat} (h2 : S.1 85 2 = (a : Int)) (h58 : fW tx 58 a = false) (h : (fLine tx a).1 = true) (hop : op < a) {rec62 : Nat → Int → Nat → Int → nk_S → Option (Int × nk_S)} {n : Nat} (hn : n < 16000) : ∃ S', ja_X6_walkLines_b62 rec62 85 (b : Int) (Q + 9) (n : Int) S = ja_X6_walkLines_b178 rec62 85 (b : Int) (Q + 9) (n : Int) (ccA (lnS tx ns us fl bl ls en b lc a z).1) S' ∧ gF Q S S' ∧ S'.1 85 2 = (a : Int) ∧ ((lnS tx ns us fl bl ls en b lc a z).1 = none → cJL S' Q (lnS tx ns us fl bl ls en b lc a z).2 ∧ oJL (lnS tx ns us fl bl ls en b lc a z).2) := by
  have hC := hV.1
  have hT := hC.2.2.2.2.1
  have hlen := fLine_len h
  have hlt := fLine_lt h
  unfold ja_X6_walkLines_b62
  rw [if_neg (show ¬ (16000 : Int) ≤ (n : Int) by omega), jc_85_0, h2, c_at0 hC, bd_some, if_neg (show ¬ cw _ _ _ = 58 from cw_ne hC (w := 58) (by decide) h58), h2, c_at0 hC, bd_some, h2, w_nat1 (by omega), c_at0 hC, bd_some]
  rcases ln_kind h with ⟨g1, g2, g3⟩ | ⟨g0, g1, g2, g3, g4, g5, g6⟩ | ⟨g1, g2, g3, g4, g5⟩
  · -- a label
    obtain ⟨w, w1, w2, w3⟩ := c_tok hC (fN_T g2)
    have ws : shp (wd S w) = 1 := by
      rw [w3]
      exact (shp_eq _).1.mpr (of_decide_eq_true g2)
    have hl := hL w w1 ws
    rw [if_pos (show cw _ _ _ = 59 from (cw_iff hC (w := 59) (by decide) (a + 1)).mpr g1), w2, c_first hC w1, bd_some, h2]
    unfold lnS ja_X6_walkLines_b141
    rw [if_pos g1, ← w3]
    cases hf : lfd (wd S w) ls with
    | none =>
      rw [hf] at hl
      rw [if_neg (show ¬ S.1 10 w = (a : Int) from fun e => by have : S.1 10 w ≤ (op : Int) := hl; omega)]
      exact ⟨S, rfl, gF_rfl, h2, fun h => by cases h⟩
    | some q =>
      rw [hf] at hl
      obtain ⟨l1, l2, l3⟩ := hl
      rw [l1]
      dsimp only
      by_cases e : q.1 = a
      · rw [if_pos (show (q.1 : Int) = (a : Int) by omega), if_pos e]
        exact ⟨S, rfl, gF_rfl, h2, fun _ => ⟨hZ, hoz⟩⟩
      · rw [if_neg (show ¬ (q.1 : Int) = (a : Int) by omega), if_neg e]
        exact ⟨S, rfl, gF_rfl, h2, fun h => by cases h⟩
  · -- a catch
    rw [if_neg (show ¬ cw _ _ _ = 59 from cw_ne hC (w := 59) (by decide) g0), if_pos (show cw _ _ _ = 46 from (cw_iff hC (w := 46) (by decide) a).mpr g1), h2]
    obtain ⟨S', s1, s2, s3, s4⟩ := c_catch (lc := lc) hQ hV hu hZ hL hb ho he g0 g1 g2 g3 g4 g5
    rw [s1, bd_some]
    refine ⟨S', rfl, s2, by rw [s3]; exact h2, fun hh => ⟨s4 hh, ?_⟩⟩
    obtain ⟨y1, y2, y3, y4⟩ := hoz
    unfold lnS at hh ⊢
    rw [if_neg (show ¬ fW tx 59 (a + 1) = true by rw [g0]; decide), if_pos g1] at hh ⊢
    by_cases q0 : 64 ≤ z.2.2.1.length
    · rw [if_pos q0] at hh; cases hh
    rw [if_neg q0] at hh ⊢
    split at hh
    · cases hh
    rename_i q1
    rw [if_neg q1]
    split at hh
    · cases hh
    rename_i q2
    rw [if_neg q2]
    split at hh
    · cases hh
    rename_i q3
    rw [if_neg q3]
    split at hh
    · cases hh
    rename_i q4
    rw [if_neg q4]
    refine ⟨y1, y2, ?_, y4⟩
    show (z.2.2.1 ++ [_]).length ≤ 64
    rw [List.length_append, List.length_cons, List.length_nil]
    omega
  · -- an instruction
    rw [if_neg (show ¬ cw _ _ _ = 59 from cw_ne hC (w := 59) (by decide) g1), if_neg (show ¬ cw _ _ _ = 46 from cw_ne hC (w := 46) (by decide) g2), h2]
    obtain ⟨S', s1, s2, s3, s4⟩ := c_instr (lc := lc) hQ hV hu hO hOb hZ hoz hL hb ho he hlc g1 g2 g3 g4
    rw [s1, bd_some]
    exact ⟨S', rfl, s2, by rw [s3]; exact h2, s4⟩
theorem c_closes (hQ : Q = 13 ∨ Q = 49) {S : nk_S} {cl : List jC} (hC : cCd S Q cl) (h1024 : cl.length ≤ 1024) (st : Nat) : ja_X3_closes Q (st : Int) S = some (bi (clz st cl), S) := by
  unfold ja_X3_closes clz
  rw [hC.1]
  by_cases q : st < cl.length
  · rw [if_pos (show (st : Int) < (cl.length : Int) by omega), decide_eq_true q, Bool.true_and]
    have w1 : nk_w ((cl.length : Int) - 1) = ((cl.length - 1 : Nat) : Int) := by
      rw [show (cl.length : Int) - 1 = ((cl.length - 1 : Nat) : Int) by omega]
      exact w_n0 (by omega)
    rw [w1, if_pos (in_i (N := 1024) (by omega)), lt_eq, (jc_Qp hQ).2.1, Int.toNat_natCast]
    obtain ⟨x, hx⟩ : ∃ x, cl[cl.length - 1]? = some x := ⟨cl[cl.length - 1]'(by omega), List.getElem?_eq_getElem (by omega)⟩
    rw [(hC.2 _ x hx).1, hx]
    dsimp only
    unfold ja_X3_endsBody
    by_cases q1 : x.1 = 19
    · rw [if_pos (show (x.1 : Int) = 19 by omega), decide_eq_true (Or.inl q1)]; rfl
    rw [if_neg (show ¬ (x.1 : Int) = 19 by omega)]
    by_cases q2 : x.1 = 41
    · rw [if_pos (show (x.1 : Int) = 41 by omega), decide_eq_true (Or.inr (Or.inl q2)), bd_some]; rfl
    rw [if_neg (show ¬ (x.1 : Int) = 41 by omega)]
    by_cases q3 : x.1 = 42
    · rw [if_pos (show (x.1 : Int) = 42 by omega), decide_eq_true (Or.inr (Or.inr (Or.inl q3))), bd_some]; rfl
    rw [if_neg (show ¬ (x.1 : Int) = 42 by omega)]
    by_cases q4 : x.1 = 43
    · rw [if_pos (show (x.1 : Int) = 43 by omega), decide_eq_true (Or.inr (Or.inr (Or.inr q4))), bd_some]; rfl
    rw [if_neg (show ¬ (x.1 : Int) = 43 by omega), decide_eq_false (by omega), bd_some]; rfl
  · rw [if_neg (show ¬ (st : Int) < (cl.length : Int) by omega), decide_eq_false q, Bool.false_and]; rfl
theorem c_lnL (hQ : Q = 13 ∨ Q = 49) (hu : uOk us) (hO : fOk us fl) (hOb : bOk us bl) (hb : b < 48) (st : Nat) : ∀ (d a m n : Nat) (z : jL) (S : nk_S), cVm S tx Q c ns us fl bl → cJL S Q z → oJL z → cLb S c op ls → S.1 (Q + 17) b = (op : Int) → S.1 (Q + 19) b = (en : Int) → S.1 (Q + 16) b = lc → S.1 (Q + 18) b = (st : Int) → S.1 85 2 = (a : Int) → (fLines tx d a).1 = true → op < a → n < a → tx.length < a + m → ∃ S', ja_X6_walkLines_L62 m 85 (b : Int) (Q + 9) (n : Int) S = some (ccA (lnL tx ns us fl bl ls en b lc st d a z).1, S') ∧ (∃ T, gF Q S T ∧ S'.2 = T.2 ∧ (∀ d, d ≠ Q + 21 → S'.1 d = T.1 d) ∧ ∀ i, i ≠ b → S'.1 (Q + 21) i = T.1 (Q + 21) i) ∧ ((lnL tx ns us fl bl ls en b lc st d a z).1 = none → cJL S' Q (lnL tx ns us fl bl ls en b lc st d a z).2 ∧ oJL (lnL tx ns us fl bl ls en b lc st d a z).2 ∧ S'.1 (Q + 21) b = ((lnL tx ns us fl bl ls en b lc st d a z).2.2.2.1.length : Int)) := by
  intro d
  induction d with
  | zero => intro a m n z S _ _ _ _ _ _ _ _ _ h; cases h
  | succ d ih =>
    intro a m n z S hV hZ hoz hL h17 h19 h16 h18 h2 h hop hn hm
    have hC := hV.1
    have hT := hC.2.2.2.2.1
    have hend := fLines_ok h
    rw [fLines] at h hend
    rw [lnL]
    obtain ⟨m, rfl⟩ : ∃ q, m = q + 1 := ⟨m - 1, by omega⟩
    have hstep : ja_X6_walkLines_L62 (m + 1) 85 (b : Int) (Q + 9) (n : Int) S = ja_X6_walkLines_b62 (ja_X6_walkLines_L62 m) 85 (b : Int) (Q + 9) (n : Int) S := rfl
    cases h58 : fW tx 58 a with
    | true =>
      have hal := fW_T h58
      simp only [if_true]
      obtain ⟨U, hU⟩ : ∃ U, U = nk_wi S (Q + 21) b (z.2.2.1.length : Int) := ⟨_, rfl⟩
      have un : ∀ d, d ≠ Q + 21 → U.1 d = S.1 d := fun d hd => by rw [hU]; exact wi_n hd
      have ZU : cJL U Q z := by
        unfold cJL cCd cSl cKl cTh tC at hZ ⊢
        rw [un Q (by omega), un (Q + 25) (by omega), un (Q + 26) (by omega), un (Q + 27) (by omega), un (Q + 28) (by omega), un (Q + 29) (by omega), un (Q + 31) (by omega), un (Q + 32) (by omega), un (Q + 33) (by omega), un (Q + 34) (by omega), un (Q + 35) (by omega), un (Q + 23) (by omega), un (Q + 23 + 1) (by omega)]
        exact hZ
      have e1 : ja_X6_walkLines_L62 (m + 1) 85 (b : Int) (Q + 9) (n : Int) S = if bi (clz st z.1) = 0 then some ((a : Int), U) else some (-1, U) := by
        rw [hstep]
        unfold ja_X6_walkLines_b62
        rw [if_neg (show ¬ (16000 : Int) ≤ (n : Int) by omega), jc_85_0, h2, c_at0 hC, bd_some, if_pos (show cw _ _ _ = 58 from (cw_iff hC (w := 58) (by decide) a).mpr h58)]
        unfold ja_X6_walkLines_b209
        have hU2 : U.2 85 1 = Q := by rw [hU]; exact hV.2.2.2.2.2
        rw [if_pos (in_i (N := 48) (by omega)), hV.2.2.2.2.2, lt_eq, (jc_Qb hQ).2.2.2.2.1, (jc_Qb hQ).2.1, Int.toNat_natCast, hZ.2.2.1.1, ← hU, hU2, un (Q + 18) (by omega), h18, c_closes hQ ZU.1 hoz.1 st, bd_some, un 85 (by omega), h2]
      have fr : ∃ T, gF Q S T ∧ U.2 = T.2 ∧ (∀ d, d ≠ Q + 21 → U.1 d = T.1 d) ∧ ∀ i, i ≠ b → U.1 (Q + 21) i = T.1 (Q + 21) i := ⟨S, gF_rfl, by rw [hU]; rfl, un, fun i hi => by rw [hU, wi_at, if_neg hi]⟩
      cases hc : clz st z.1 with
      | true =>
        rw [if_pos rfl]
        rw [hc, if_neg (show ¬ bi true = 0 by decide)] at e1
        exact ⟨U, e1, fr, fun _ => ⟨ZU, hoz, by rw [hU, wi_at, if_pos rfl]⟩⟩
      | false =>
        rw [if_neg (by decide)]
        rw [hc, if_pos (show bi false = 0 from rfl)] at e1
        exact ⟨U, e1, fr, fun h => by cases h⟩
    | false =>
      rw [h58] at h hend
      simp only [Bool.false_eq_true, if_false] at h hend ⊢
      obtain ⟨h1, h3, h4⟩ := sq_ok h
      have hlen := fLine_len h1
      have hlt := fLine_lt h1
      obtain ⟨T, t1, t2, t3, t4⟩ := c_lineA (rec62 := ja_X6_walkLines_L62 m) (lc := lc) hQ hV hu hO hOb hZ hoz hL hb h17 h19 h16 h2 h58 h1 hop (n := n) (by omega)
      cases hs : lnS tx ns us fl bl ls en b lc a z with
      | mk r w =>
        rw [hs] at t1 t4
        cases r with
        | some y =>
          refine ⟨T, ?_, ⟨T, t2, rfl, fun _ _ => rfl, fun _ _ => rfl⟩, fun h => by cases h⟩
          rw [hstep, t1]
          unfold ja_X6_walkLines_b178
          rw [if_neg (show ¬ ccA (some y) < 0 from by show ¬ (y : Int) < 0; omega)]
        | none =>
          obtain ⟨z1, z2⟩ := t4 rfl
          have VT := cVm_gF hQ t2 hV
          obtain ⟨U, hU⟩ : ∃ U, U = nk_wi T 85 2 ((fLine tx a).2 : Int) := ⟨_, rfl⟩
          have GU : gF Q S U := by rw [hU]; exact gF_trans t2 (gF_85 hQ (by omega))
          have un : ∀ d, d ≠ 85 → U.1 d = T.1 d := fun d hd => by rw [hU]; exact wi_n hd
          have gg := fun d x y z w => GU.2.1 d x y z w
          have w2 : nk_w ((a : Int) + (((fLine tx a).2 - a : Nat) : Int)) = ((fLine tx a).2 : Int) := by
            rw [show (a : Int) + (((fLine tx a).2 - a : Nat) : Int) = ((fLine tx a).2 : Int) by omega]
            exact w_n0 (by omega)
          have e1 : ja_X6_walkLines_L62 (m + 1) 85 (b : Int) (Q + 9) (n : Int) S = ja_X6_walkLines_L62 m 85 (b : Int) (Q + 9) ((n + 1 : Nat) : Int) U := by
            have n1 : n + 1 < 2147483648 := by clear w2; omega
            rw [hstep, t1]
            unfold ja_X6_walkLines_b178
            rw [if_pos (show ccA none < 0 from (by decide)), t3, c_lineT VT.1 h1, bd_some, lt_eq, lt_eq, w2, w_nat1 n1, ← hU]
          clear w2
          obtain ⟨S', i1, ⟨T', i2, i3, i4, i5⟩, i6⟩ := ih (fLine tx a).2 m (n + 1) w U (cVm_gF hQ GU hV) (cJL_85 hQ un z1) z2 (cLb_gF hQ GU hL) (by rw [gg _ (by omega) (by omega) (by omega) (by omega)]; exact h17) (by rw [gg _ (by omega) (by omega) (by omega) (by omega)]; exact h19) (by rw [gg _ (by omega) (by omega) (by omega) (by omega)]; exact h16) (by rw [gg _ (by omega) (by omega) (by omega) (by omega)]; exact h18) (by rw [hU, wi_at, if_pos rfl]) h3 (by omega) (by omega) (by omega)
          refine ⟨S', by rw [e1]; exact i1, ⟨T', gF_trans GU i2, i3, i4, i5⟩, i6⟩
end CBY
