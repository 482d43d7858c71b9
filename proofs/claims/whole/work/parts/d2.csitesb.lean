/-! The class finds the sites of a type. -/
section CSB
variable {S : nk_S} {Q : Nat} {us : List Int} {z : jL}
theorem sVd_54 (hz : z.2.1.length ≤ 48) {s : Nat} (h : sVd z s = true) : s < 54 := by
  unfold sVd at h
  rw [Bool.or_eq_true, Bool.and_eq_true] at h
  rcases h with h | h
  · have := of_decide_eq_true h; omega
  · exact of_decide_eq_true h.2
theorem c_sbL (hQ : Q = 13 ∨ Q = 49) (hU : cU S Q us) (hu : uOk us) (h32 : us.length ≤ 32) (hsl : cSl S Q z.2.1) (hz : z.2.1.length ≤ 48) (hs : sOk us z) {t : Int} (vt : tV us t) : ∀ (d i m : Nat) (a : Int), i + d = 54 → d < m → cV a (fun s => decide (s < i) && pB us z t s) → ∃ r, ja_X3_sitesBelow_L5 m Q t a (i : Int) S = some (r, S) ∧ cV r (pB us z t) := by
  have hstep : ∀ (i : Nat) (b : Bool), pB us z t i = b → ∀ s, (decide (s < i + 1) && pB us z t s) = ((decide (s < i) && pB us z t s) || (decide (s = i) && b)) := by
    intro i b hb s
    by_cases c : s = i
    · rw [c, decide_eq_true (show i < i + 1 by omega), decide_eq_false (show ¬ i < i by omega), decide_eq_true rfl, hb, Bool.true_and, Bool.false_and, Bool.false_or]
    · rw [decide_eq_false c, Bool.false_and, Bool.or_false]
      by_cases c2 : s < i
      · rw [decide_eq_true c2, decide_eq_true (show s < i + 1 by omega)]
      · rw [decide_eq_false c2, decide_eq_false (show ¬ s < i + 1 by omega)]
  intro d
  induction d with
  | zero =>
    intro i m a h1 h2 ha
    obtain ⟨m, rfl⟩ : ∃ q, m = q + 1 := ⟨m - 1, by omega⟩
    refine ⟨a, ?_, cV_e ha (fun s _ => ?_)⟩
    · show ja_X3_sitesBelow_b5 (ja_X3_sitesBelow_L5 m) Q t a (i : Int) S = _
      unfold ja_X3_sitesBelow_b5
      rw [if_pos (by omega)]
    · cases hp : pB us z t s with
      | false => rw [Bool.and_false]
      | true =>
        have hp' := hp
        unfold pB at hp'
        rw [Bool.and_eq_true] at hp'
        have := sVd_54 hz hp'.1
        rw [decide_eq_true (show s < i by omega)]; rfl
  | succ d ih =>
    intro i m a h1 h2 ha
    obtain ⟨m, rfl⟩ : ∃ q, m = q + 1 := ⟨m - 1, by omega⟩
    have e0 : ja_X3_sitesBelow_L5 (m + 1) Q t a (i : Int) S = ja_X3_sitesBelow_b5 (ja_X3_sitesBelow_L5 m) Q t a (i : Int) S := rfl
    rw [e0]
    unfold ja_X3_sitesBelow_b5
    rw [if_neg (by omega), hsl.1]
    have hno : pB us z t i = false → ∃ r, ja_X3_sitesBelow_L5 m Q t a ((i + 1 : Nat) : Int) S = some (r, S) ∧ cV r (pB us z t) := fun hb => ih (i + 1) m a (by omega) (by omega) (cV_e ha (fun s _ => by rw [hstep i false hb s, Bool.and_false, Bool.or_false]))
    have h28 : sVd z i = true → ∃ r, ja_X3_sitesBelow_b28 (ja_X3_sitesBelow_L5 m) Q t a (i : Int) S = some (r, S) ∧ cV r (pB us z t) := by
      intro hd
      have hcell : S.1 (Q + 31) i = sTp z i := by
        unfold sTp
        by_cases c : i < z.2.1.length
        · rw [if_pos c]
          refine hsl.2.1 i _ ?_
          rw [List.getD_eq_getElem?_getD, List.getElem?_eq_getElem c]; rfl
        · rw [if_neg c]
          unfold sVd at hd
          rw [decide_eq_false c, Bool.false_or, Bool.and_eq_true] at hd
          have q1 := of_decide_eq_true hd.1
          have q2 := of_decide_eq_true hd.2
          rw [hsl.2.2 i q1 q2]
          omega
      have hbe := c_isBe hQ hU hu h32 (hs i hd).1 vt
      unfold ja_X3_sitesBelow_b28
      rw [if_pos (in_i (N := 54) (by omega)), (jc_Q hQ).1, (jc_Qp hQ).2.2.2.2.2.2.2.1, Int.toNat_natCast, hcell, hbe, bd_some, w_nat1 (by omega)]
      have epb : pB us z t i = tLe us (sTp z i) t := by unfold pB; rw [hd, Bool.true_and]
      cases hl : tLe us (sTp z i) t with
      | false =>
        rw [if_pos (show bi false = 0 from rfl), lt_eq]
        exact hno (by rw [epb, hl])
      | true =>
        rw [if_neg (show ¬ bi true = 0 by decide), lt_eq, lt_eq]
        refine ih (i + 1) m _ (by omega) (by omega) (cV_e (cV_or ha (cV_one (show i < 64 by omega))) (fun s _ => ?_))
        rw [hstep i true (by rw [epb, hl]) s, Bool.and_true]
        rfl
    by_cases c : i < z.2.1.length
    · rw [if_pos (by omega)]
      exact h28 (by unfold sVd; rw [decide_eq_true c, Bool.true_or])
    · rw [if_neg (by omega)]
      by_cases c2 : i < 48
      · rw [if_pos (by omega), w_nat1 (by omega), lt_eq]
        refine hno ?_
        unfold pB sVd
        rw [decide_eq_false c, decide_eq_false (show ¬ 48 ≤ i by omega)]
        rfl
      · rw [if_neg (by omega)]
        exact h28 (by unfold sVd; rw [decide_eq_true (show 48 ≤ i by omega), decide_eq_true (show i < 54 by omega), Bool.true_and, Bool.or_true])
theorem c_sitesB (hQ : Q = 13 ∨ Q = 49) (hU : cU S Q us) (hu : uOk us) (h32 : us.length ≤ 32) (hsl : cSl S Q z.2.1) (hz : z.2.1.length ≤ 48) (hs : sOk us z) {t : Int} (vt : tV us t) : ∃ r, ja_X3_sitesBelow Q t S = some (r, S) ∧ cV r (pB us z t) := by
  obtain ⟨bm, hbm⟩ := big_ge 100 (by decide)
  exact c_sbL hQ hU hu h32 hsl hz hs vt 54 0 nk_big 0 (by omega) (by omega) (cV_e cV_0 (fun s _ => by rw [decide_eq_false (show ¬ s < 0 by omega), Bool.false_and]; rfl))
end CSB
