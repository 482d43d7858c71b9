/-! Lines: the class's catches and operands. -/
theorem w_n4 {a : Nat} (h : a < 100000) : nk_w ((a : Int) + 4) = ((a + 4 : Nat) : Int) := by
  rw [show (a : Int) + 4 = ((a + 4 : Nat) : Int) by omega]
  exact w_n0 (by omega)
section CCA
variable {tx : List (List Int)} {Q c : Nat} {ns : List (List Int)} {us : List Int} {fl : List (List Int × Nat × Int)} {bl : List jB} {ls : List (List Int × Nat × Nat)} {en op b : Nat} {lc : Int} {z : jL}
/-- a class's name -/
theorem c_clsT {S : nk_S} (hC : CF S tx c) (hK : cC S Q c ns us) {t : Nat} (ht : fC tx t = true) : ∃ w : Nat, w < c ∧ cw S tx t = (w : Int) ∧ ja_X10_firstOf 2 (cw S tx t) S = some (amx (tx.getD t []) ns 0, S) := by
  obtain ⟨w, w1, w2, w3, w4⟩ := c_tok2 hC ht
  refine ⟨w, w1, w2, ?_⟩
  rw [w2, c_first hC w1, hK.2.2.2.2.2.2.2 w w1 w4, w3]
theorem c_catch (hQ : Q = 13 ∨ Q = 49) {S : nk_S} (hV : cVm S tx Q c ns us fl bl) (hu : uOk us) (hZ : cJL S Q z) (hL : cLb S c op ls) (hb : b < 48) (ho : S.1 (Q + 17) b = (op : Int)) (he : S.1 (Q + 19) b = (en : Int)) {a : Nat} (g0 : fW tx 59 (a + 1) = false) (g1 : fW tx 46 a = true) (g2 : fN tx (a + 1) = true) (g3 : fN tx (a + 2) = true) (g4 : fN tx (a + 3) = true) (g5 : fC tx (a + 4) = true) : ∃ S', ja_X6_resolveCatch 85 (b : Int) (a : Int) S = some (ccA (lnS tx ns us fl bl ls en b lc a z).1, S') ∧ gF Q S S' ∧ S'.1 85 = S.1 85 ∧ ((lnS tx ns us fl bl ls en b lc a z).1 = none → cJL S' Q (lnS tx ns us fl bl ls en b lc a z).2) := by
  obtain ⟨hC, hK, hM, hF, hB, h2⟩ := hV
  have hT := hC.2.2.2.2.1
  have hns := hK.2.2.1
  have l5 := fC_T g5
  obtain ⟨w, w1, w2, w3⟩ := c_clsT hC hK g5
  have r1 := lat_rg ls (tx.getD (a + 1) [])
  have r2 := lat_rg ls (tx.getD (a + 2) [])
  have r3 := lat_rg ls (tx.getD (a + 3) [])
  have r4 := amx_rg (tx.getD (a + 4) []) ns 0
  have e1 := c_labA hQ hC h2 hL hb ho g2
  have e2 := c_labA hQ hC h2 hL hb ho g3
  have e3 := c_labA hQ hC h2 hL hb ho g4
  unfold lnS
  rw [if_neg (show ¬ fW tx 59 (a + 1) = true by rw [g0]; decide), if_pos g1]
  unfold ja_X6_resolveCatch
  rw [h2, hZ.2.2.1.1]
  have fin : ∀ y : Nat, ∃ S', some ((y : Int), S) = some (ccA ((some y, z) : Option Nat × jL).1, S') ∧ gF Q S S' ∧ S'.1 85 = S.1 85 ∧ (((some y, z) : Option Nat × jL).1 = none → cJL S' Q ((some y, z) : Option Nat × jL).2) := fun y => ⟨S, rfl, gF_rfl, rfl, fun h => by cases h⟩
  by_cases q0 : 64 ≤ z.2.2.1.length
  · rw [if_pos q0, if_neg (by omega)]
    exact fin a
  rw [if_neg q0, if_pos (by omega)]
  unfold ja_X6_resolveCatch_b14
  rw [w_nat1 (by omega), e1, bd_some]
  by_cases q1 : lat ls (tx.getD (a + 1) []) < 0
  · rw [if_pos q1, if_neg (by omega)]
    exact fin (a + 1)
  rw [if_neg q1, if_pos (show 0 ≤ lat ls (tx.getD (a + 1) []) by omega), w_n2 (by omega), e2, bd_some]
  by_cases q2 : lat ls (tx.getD (a + 2) []) ≤ lat ls (tx.getD (a + 1) [])
  · rw [if_pos q2]
    by_cases q3 : lat ls (tx.getD (a + 2) []) < 0
    · rw [if_pos q3]; exact fin (a + 2)
    · rw [if_neg q3, if_neg (by omega)]; exact fin (a + 2)
  rw [if_neg q2, if_neg (show ¬ lat ls (tx.getD (a + 2) []) < 0 by omega), if_pos (show lat ls (tx.getD (a + 1) []) < lat ls (tx.getD (a + 2) []) by omega), w_n3 (by omega), e3, bd_some, if_pos (in_i (N := 48) (by omega)), h2, (jc_Qf hQ).2.2.2.2, (jc_Qb hQ).2.2.1, Int.toNat_natCast, he]
  by_cases q3 : lat ls (tx.getD (a + 3) []) < 0 ∨ (en : Int) ≤ lat ls (tx.getD (a + 3) [])
  · rw [if_pos q3]
    by_cases q4 : lat ls (tx.getD (a + 3) []) < 0
    · rw [if_pos q4]; exact fin (a + 3)
    · rw [if_neg q4, if_neg (by omega)]; exact fin (a + 3)
  rw [if_neg q3, if_neg (show ¬ lat ls (tx.getD (a + 3) []) < 0 by omega), if_pos (show lat ls (tx.getD (a + 3) []) < (en : Int) by omega), w_n4 (by omega), jc_85_0, c_at0 hC, bd_some, w3, bd_some]
  by_cases q4 : amx (tx.getD (a + 4) []) ns 0 < 0
  · rw [if_pos (Or.inl q4), if_pos q4]; exact fin (a + 4)
  obtain ⟨k, hk⟩ : ∃ k : Nat, amx (tx.getD (a + 4) []) ns 0 = (k : Int) := ⟨(amx (tx.getD (a + 4) []) ns 0).toNat, by omega⟩
  have hkl : k < ns.length := by omega
  rw [if_neg q4, hk, Int.toNat_natCast, h2, (jc_Q hQ).1, show (1 : Int) = ((1 : Nat) : Int) from rfl, c_above hQ hK hu hkl (by decide), bd_some]
  cases h : anc us k 1 with
  | false =>
    rw [if_pos (show (k : Int) < 0 ∨ false = false from Or.inr rfl), if_pos (show bi false = 0 from rfl)]
    exact fin (a + 4)
  | true =>
    rw [if_neg (show ¬ ((k : Int) < 0 ∨ true = false) from fun hh => hh.elim (fun e => by omega) (fun e => by cases e)), if_neg (show ¬ bi true = 0 by decide), h2]
    obtain ⟨x1, hx1⟩ : ∃ x : Nat, lat ls (tx.getD (a + 1) []) = (x : Int) := ⟨(lat ls (tx.getD (a + 1) [])).toNat, by omega⟩
    obtain ⟨x2, hx2⟩ : ∃ x : Nat, lat ls (tx.getD (a + 2) []) = (x : Int) := ⟨(lat ls (tx.getD (a + 2) [])).toNat, by omega⟩
    obtain ⟨x3, hx3⟩ : ∃ x : Nat, lat ls (tx.getD (a + 3) []) = (x : Int) := ⟨(lat ls (tx.getD (a + 3) [])).toNat, by omega⟩
    rw [hx1, hx2, hx3, Int.toNat_natCast, Int.toNat_natCast, Int.toNat_natCast]
    obtain ⟨S', s1, s2, s3, s4, s5⟩ := c_addK hQ hZ.2.2.1 (by omega) b x1 x2 x3 k
    rw [s1, bd_some]
    refine ⟨S', rfl, ⟨s2, fun d _ y1 y2 y3 => s3 d y1 (by omega), fun i _ _ _ => by rw [s3 85 (by omega) (by omega)], fun i _ _ y => s4 i y⟩, s3 85 (by omega) (by omega), fun _ => ⟨?_, ?_, s5, ?_⟩⟩
    · have := hZ.1
      unfold cCd at this ⊢
      rw [s4 3 (by decide), s3 (Q + 25) (by omega) (by omega), s3 (Q + 26) (by omega) (by omega), s3 (Q + 27) (by omega) (by omega), s3 (Q + 28) (by omega) (by omega), s3 (Q + 29) (by omega) (by omega)]
      exact this
    · have := hZ.2.1
      unfold cSl at this ⊢
      rw [s4 10 (by decide), s3 (Q + 31) (by omega) (by omega)]
      exact this
    · have := hZ.2.2.2
      unfold cTh tC at this ⊢
      rw [s3 (Q + 23) (by omega) (by omega), s3 (Q + 23 + 1) (by omega) (by omega)]
      exact this
/-- references: what a word means -/
theorem c_refT {S : nk_S} (hC : CF S tx c) (hM : cM S c) {t : Nat} (ht : fR tx t = true) : ∃ w u x : Nat, w < c ∧ u < c ∧ x < c ∧ cw S tx t = (w : Int) ∧ S.1 10 w = (u : Int) ∧ S.1 11 w = (x : Int) ∧ wd S u = (tx.getD t []).take (dot (tx.getD t [])) ∧ wd S x = (tx.getD t []).drop (dot (tx.getD t []) + 1) := by
  obtain ⟨w, w1, w2, w3⟩ := c_tok hC (fR_T ht)
  obtain ⟨u, x, h1, h2, h3, h4, h5, h6⟩ := (hM w w1).2.2 (by rw [w3]; exact (shp_eq _).2.2.2.2.mpr ht)
  exact ⟨w, u, x, w1, h1, h2, w2, h3, h4, by rw [h5, w3], by rw [h6, w3]⟩
theorem c_mem (hQ : Q = 13 ∨ Q = 49) {S : nk_S} (hV : cVm S tx Q c ns us fl bl) (hu : uOk us) (hO : fOk us fl) (hOb : bOk us bl) {t o : Nat} (ht : fR tx t = true) (hop : o = 35 ∨ o = 36 ∨ o = 39 ∨ o = 40) : ∃ S', ja_X6_resolveMember 85 (cw S tx t) (o : Int) S = some (bi (oM ns us fl bl o (tx.getD t [])).isSome, S') ∧ gF Q S S' ∧ (∀ d, d ≠ 85 → S'.1 d = S.1 d) ∧ S'.1 85 2 = S.1 85 2 ∧ ∀ x y, oM ns us fl bl o (tx.getD t []) = some (x, y) → S'.1 85 3 = x ∧ S'.1 85 4 = y := by
  have hV0 := hV
  obtain ⟨hC, hK, hM, hF, hB, h2⟩ := hV
  have hns := hK.2.2.1
  obtain ⟨w, u, x, w1, u1, x1, cwe, e10, e11, wu, wx⟩ := c_refT hC hM ht
  have hsh : shp (wd S u) = 2 := by
    rw [wu]
    have := of_decide_eq_true ((show refQ (tx.getD t []) = true from ht))
    exact (shp_eq _).2.1.mpr this.1
  have hcl : S.1 10 u = amx ((tx.getD t []).take (dot (tx.getD t []))) ns 0 := by rw [hK.2.2.2.2.2.2.2 u u1 hsh, wu]
  obtain ⟨l, hl⟩ : ∃ l, l = tx.getD t [] := ⟨_, rfl⟩
  rw [← hl] at hcl wx ⊢
  unfold ja_X6_resolveMember oM
  rw [jc_85_0, cwe, c_second hC w1, bd_some, c_first hC w1, bd_some, e10, e11, c_first hC u1, bd_some, lt_eq, hcl]
  obtain ⟨A, hA⟩ : ∃ A, A = nk_wi S 85 4 (amx (l.take (dot l)) ns 0) := ⟨_, rfl⟩
  have GA : gF Q S A := by rw [hA]; exact gF_85 hQ (by omega)
  have a4 : A.1 85 4 = amx (l.take (dot l)) ns 0 := by rw [hA]; simp only [wi_v, and_self, if_true]
  have an : ∀ d, d ≠ 85 → A.1 d = S.1 d := fun d hd => by rw [hA]; exact wi_n hd
  have a2 : A.1 85 2 = S.1 85 2 := by rw [hA, wi_at, if_neg (by decide)]
  rw [← hA, a4]
  have r4 := amx_rg (l.take (dot l)) ns 0
  by_cases q1 : amx (l.take (dot l)) ns 0 < 0
  · rw [if_neg (by omega), if_pos q1]
    exact ⟨A, rfl, GA, an, a2, fun x y h => by cases h⟩
  rw [if_pos (show 0 ≤ amx (l.take (dot l)) ns 0 by omega), if_neg q1]
  obtain ⟨k, hk⟩ : ∃ k : Nat, amx (l.take (dot l)) ns 0 = (k : Int) := ⟨(amx (l.take (dot l)) ns 0).toNat, by omega⟩
  have hkl : k < ns.length := by omega
  have VA := cVm_gF hQ GA hV0
  obtain ⟨hCA, hKA, hMA, hFA, hBA, h2A⟩ := VA
  rw [hk] at a4 ⊢
  rw [Int.toNat_natCast]
  have wxA : wd A x = l.drop (dot l + 1) := by rw [wd_gF hQ GA]; exact wx
  have hfd : ∃ S', ja_X6_resolveMember_b49 85 (x : Int) A = some (bi (if fdL us k (l.drop (dot l + 1)) fl 0 < 0 then none else some (fdL us k (l.drop (dot l + 1)) fl 0, (k : Int)) : Option (Int × Int)).isSome, S') ∧ gF Q S S' ∧ (∀ d, d ≠ 85 → S'.1 d = S.1 d) ∧ S'.1 85 2 = S.1 85 2 ∧ ∀ x y, (if fdL us k (l.drop (dot l + 1)) fl 0 < 0 then none else some (fdL us k (l.drop (dot l + 1)) fl 0, (k : Int)) : Option (Int × Int)) = some (x, y) → S'.1 85 3 = x ∧ S'.1 85 4 = y := by
    unfold ja_X6_resolveMember_b49
    rw [h2A, (jc_Q hQ).1, a4, c_find hQ hCA hKA hu hFA hO hkl x1, bd_some, lt_eq, wxA]
    obtain ⟨B, hB⟩ : ∃ B, B = nk_wi A 85 3 (fdL us k (l.drop (dot l + 1)) fl 0) := ⟨_, rfl⟩
    have GB : gF Q S B := by rw [hB]; exact gF_trans GA (gF_85 hQ (by omega))
    have b3 : B.1 85 3 = fdL us k (l.drop (dot l + 1)) fl 0 := by rw [hB]; simp only [wi_v, and_self, if_true]
    have b4 : B.1 85 4 = (k : Int) := by rw [hB, wi_at, if_neg (by decide)]; exact a4
    have b2 : B.1 85 2 = S.1 85 2 := by rw [hB, wi_at, if_neg (by decide)]; exact a2
    have bn : ∀ d, d ≠ 85 → B.1 d = S.1 d := fun d hd => by rw [hB, wi_n hd, an d hd]
    rw [← hB, b3]
    by_cases q : fdL us k (l.drop (dot l + 1)) fl 0 < 0
    · rw [if_pos q, if_pos q]
      exact ⟨B, rfl, GB, bn, b2, fun x y h => by cases h⟩
    · rw [if_neg q, if_neg q]
      exact ⟨B, rfl, GB, bn, b2, fun x y h => by cases h; exact ⟨b3, b4⟩⟩
  by_cases q5 : o = 35 ∨ o = 36
  · rw [if_pos q5]
    rcases q5 with q5 | q5
    · rw [if_pos (show (o : Int) = 35 by omega)]; exact hfd
    · rw [if_neg (show ¬ (o : Int) = 35 by omega), if_pos (show (o : Int) = 36 by omega)]; exact hfd
  · rw [if_neg q5, if_neg (show ¬ (o : Int) = 35 by omega), if_neg (show ¬ (o : Int) = 36 by omega), h2A, (jc_Qf hQ).2.2.2.2, (jc_Q hQ).1, c_near hQ hCA hKA hu hBA hOb hkl x1, bd_some, lt_eq, wxA]
    obtain ⟨B, hB2⟩ : ∃ B, B = nk_wi A 85 3 (bdL us k (l.drop (dot l + 1)) bl 0 (-1)) := ⟨_, rfl⟩
    have GB : gF Q S B := by rw [hB2]; exact gF_trans GA (gF_85 hQ (by omega))
    have b3 : B.1 85 3 = bdL us k (l.drop (dot l + 1)) bl 0 (-1) := by rw [hB2]; simp only [wi_v, and_self, if_true]
    have b4 : B.1 85 4 = (k : Int) := by rw [hB2, wi_at, if_neg (by decide)]; exact a4
    have b2 : B.1 85 2 = S.1 85 2 := by rw [hB2, wi_at, if_neg (by decide)]; exact a2
    have bn : ∀ d, d ≠ 85 → B.1 d = S.1 d := fun d hd => by rw [hB2, wi_n hd, an d hd]
    rw [← hB2, b3]
    have ho48 := hOb.1
    rcases bdL_rg (us := us) (c := k) (n := l.drop (dot l + 1)) bl 0 (-1) with h | ⟨i, y, h1, h3, h4⟩
    · rw [h, if_pos (by decide)]
      cases bl[((-1 : Int)).toNat]? with
      | none => exact ⟨B, rfl, GB, bn, b2, fun x y h => by cases h⟩
      | some y =>
        dsimp only
        rw [if_pos (Or.inl (by decide))]
        exact ⟨B, rfl, GB, bn, b2, fun x y h => by cases h⟩
    · have hi := at_lt h3
      have hy := hB.2 i y h3
      rw [h1, Nat.zero_add, if_neg (by omega), if_pos (in_i (N := 48) (by omega)), Int.toNat_natCast, h3]
      have hB2' : B.2 85 1 = Q := by rw [GB.1]; exact h2
      have em : B.1 (ja_c (ja_c (B.2 85 1) 1) 4) i = bi y.me := by rw [hB2', (jc_Qf hQ).2.2.2.2, (jc_Q9 hQ).2.2.1, bn _ (by omega)]; exact hy.2.2.1
      rw [em]
      show ∃ S', _ = some (bi (if (i : Int) < 0 ∨ ¬ (y.me = decide (o = 40)) then none else some ((i : Int), (k : Int)) : Option (Int × Int)).isSome, S') ∧ gF Q S S' ∧ (∀ d, d ≠ 85 → S'.1 d = S.1 d) ∧ S'.1 85 2 = S.1 85 2 ∧ ∀ x y_1, (if (i : Int) < 0 ∨ ¬ (y.me = decide (o = 40)) then none else some ((i : Int), (k : Int)) : Option (Int × Int)) = some (x, y_1) → S'.1 85 3 = x ∧ S'.1 85 4 = y_1
      rw [h1, Nat.zero_add] at b3
      unfold ja_X6_resolveMember_b140
      by_cases q40 : o = 40
      · rw [if_pos (show (o : Int) = 40 by omega), decide_eq_true q40]
        cases hme : y.me with
        | true =>
          rw [if_pos (show bi true = 1 from rfl), if_neg (fun hh => hh.elim (fun e => by omega) (fun e => e rfl))]
          exact ⟨B, rfl, GB, bn, b2, fun x y h => by cases h; exact ⟨b3, b4⟩⟩
        | false =>
          rw [if_neg (show ¬ bi false = 1 by decide), if_pos (Or.inr (by decide))]
          exact ⟨B, rfl, GB, bn, b2, fun x y h => by cases h⟩
      · rw [if_neg (show ¬ (o : Int) = 40 by omega), decide_eq_false q40]
        cases hme : y.me with
        | false =>
          rw [if_pos (show bi false = 0 from rfl), if_neg (fun hh => hh.elim (fun e => by omega) (fun e => e rfl))]
          exact ⟨B, rfl, GB, bn, b2, fun x y h => by cases h; exact ⟨b3, b4⟩⟩
        | true =>
          rw [if_neg (show ¬ bi true = 0 by decide), if_pos (Or.inr (by decide))]
          exact ⟨B, rfl, GB, bn, b2, fun x y h => by cases h⟩
end CCA
