/-! Members: what a head adds; the class's members. -/
section BST
variable {tx ns : List (List Int)} {us : List Int}
theorem bdL_ge {c : Nat} {n : List Int} : ∀ (l : List jB) (i : Nat) (f : Int) (k : Nat) (x : jB), l[k]? = some x → x.nm = n ∧ anc us c x.ow = true → ∃ k' y, k ≤ k' ∧ bdL us c n l i f = ((i + k' : Nat) : Int) ∧ l[k']? = some y ∧ y.nm = n ∧ anc us c y.ow = true := by
  intro l
  induction l with
  | nil => intro i f k x h; cases h
  | cons z l ih =>
    intro i f k x h h2
    rw [bdL]
    cases k with
    | zero =>
      have e : z = x := by simpa using h
      rw [e, if_pos h2]
      rcases bdL_rg (us := us) (c := c) (n := n) l (i + 1) (i : Int) with h | ⟨k, y, h1, h3, h4⟩
      · exact ⟨0, x, Nat.le_refl _, h, rfl, h2⟩
      · exact ⟨k + 1, y, by omega, by rw [h1]; congr 1; omega, by simpa using h3, h4⟩
    | succ k =>
      obtain ⟨k', y, h1, h3, h4, h5⟩ := ih (i + 1) (if z.nm = n ∧ anc us c z.ow = true then (i : Int) else f) k x (by simpa using h) h2
      exact ⟨k' + 1, y, by omega, by rw [h3]; congr 1; omega, by simpa using h4, h5⟩
theorem bStep_ok (hu : uOk us) (h32 : us.length ≤ 32) {bl : List jB} (hO : bOk us bl) (hT : bTx tx ns bl) {j a : Nat} (hw : ∀ x ∈ bl, x.ow ≤ j) (hj : j < us.length) (hb : bodyAt tx a) (h : (bStep tx ns us j a bl).1 = none) : (bStep tx ns us j a bl).2 = bl ++ [nB tx ns j a] ∧ bl.length < 48 ∧ badB us bl (nB tx ns j a) = false ∧ bOk us (bl ++ [nB tx ns j a]) ∧ bTx tx ns (bl ++ [nB tx ns j a]) ∧ ∀ x ∈ bl ++ [nB tx ns j a], x.ow ≤ j := by
  unfold bStep at h ⊢
  by_cases q1 : 48 ≤ bl.length
  · rw [if_pos q1] at h; cases h
  rw [if_neg q1] at h ⊢
  by_cases q2 : badB us bl (nB tx ns j a) = true
  · rw [if_pos q2] at h; cases h
  rw [if_neg q2] at h ⊢
  by_cases q3 : 0 ≤ mis (pT tx ns 20000 (a + 3)).1 (a + 3)
  · rw [if_pos q3] at h; cases h
  rw [if_neg q3] at h ⊢
  by_cases q4 : (nB tx ns j a).rs = -2
  · rw [if_pos q4] at h; cases h
  rw [if_neg q4] at h ⊢
  by_cases q5 : (nB tx ns j a).lc < ((nB tx ns j a).ps.length : Int) ∨ 12 < (nB tx ns j a).lc
  · rw [if_pos q5] at h; cases h
  rw [if_neg q5]
  obtain ⟨o1, o2, o3⟩ := hO
  have q2' : badB us bl (nB tx ns j a) = false := by
    cases e : badB us bl (nB tx ns j a) with
    | false => rfl
    | true => exact absurd e q2
  have hlen : (bl ++ [nB tx ns j a]).length = bl.length + 1 := by rw [List.length_append]; rfl
  have hcase : ∀ (b : Nat) (x : jB), (bl ++ [nB tx ns j a])[b]? = some x → (b < bl.length ∧ bl[b]? = some x) ∨ (b = bl.length ∧ x = nB tx ns j a) := by
    intro b x hx
    have := at_lt hx
    by_cases e : b < bl.length
    · left; rw [List.getElem?_append_left e] at hx; exact ⟨e, hx⟩
    · right
      have e2 : b = bl.length := by omega
      subst e2
      rw [List.getElem?_append_right (Nat.le_refl _)] at hx
      exact ⟨rfl, by simpa using hx.symm⟩
  refine ⟨rfl, by omega, q2', ⟨by omega, fun b x hx => ?_, fun b1 b2 x y hlt hx hy => ?_⟩, fun x hx => ?_, fun x hx => ?_⟩
  · rcases hcase b x hx with ⟨_, e⟩ | ⟨_, e⟩
    · exact o2 b x e
    · rw [e]; exact hj
  · rcases hcase b2 y hy with ⟨l2, e2⟩ | ⟨l2, e2⟩
    · rcases hcase b1 x hx with ⟨l1, e1⟩ | ⟨l1, e1⟩
      · exact o3 b1 b2 x y hlt e1 e2
      · omega
    · rcases hcase b1 x hx with ⟨l1, e1⟩ | ⟨l1, e1⟩
      · refine ⟨by rw [e2]; exact hw x (List.mem_of_getElem? e1), fun hc => ?_⟩
        rw [e2] at hc
        obtain ⟨k', z, z1, z2, z3, z4, z5⟩ := bdL_ge (us := us) (c := j) (n := (nB tx ns j a).nm) bl 0 (-1) b1 x e1 ⟨hc.1, by rw [hc.2]; exact anc_self j⟩
        have zl : z.ow ≤ j := anc_le hu h32 _ j z.ow (Nat.lt_succ_self j) hj z5
        have zg : j ≤ z.ow := by
          by_cases e : b1 = k'
          · subst e
            rw [e1] at z3
            cases z3
            exact Nat.le_of_eq hc.2.symm
          · have := (o3 b1 k' x z (by omega) e1 z3).1
            have h2 := hc.2
            show j ≤ z.ow
            have h3 : x.ow = j := h2
            omega
        have hbad : badB us bl (nB tx ns j a) = true := by
          unfold badB
          rw [show (nB tx ns j a).ow = j from rfl, z2, if_neg (by omega), Int.toNat_natCast, Nat.zero_add, z3]
          show (!(mayB z (nB tx ns j a))) = true
          have : mayB z (nB tx ns j a) = false := by
            unfold mayB
            exact decide_eq_false (fun hh => hh.1 (by show z.ow = j; omega))
          rw [this]
          rfl
        rw [hbad] at q2'
        cases q2'
      · omega
  · rcases List.mem_append.mp hx with e | e
    · exact hT x e
    · have e2 : x = nB tx ns j a := by simpa using e
      rw [e2]
      exact ⟨rfl, hb, by show mis (pT tx ns 20000 (a + 3)).1 (a + 3) < 0; omega, q4, by omega, by omega⟩
  · rcases List.mem_append.mp hx with e | e
    · exact hw x e
    · have e2 : x = nB tx ns j a := by simpa using e
      rw [e2]
      exact Nat.le_refl j
end BST
section CME
variable {tx : List (List Int)} {Q c : Nat} {ns : List (List Int)} {us : List Int}
theorem c_rhead (hQ : Q = 13 ∨ Q = 49) {S : nk_S} (hC : CF S tx c) (hK : cC S Q c ns us) (hM : cM S c) (hu : uOk us) {bl : List jB} (hB : cBl S Q c bl) (hO : bOk us bl) (hX : bTx tx ns bl) (h2 : S.2 85 1 = Q) {j a : Nat} (hj : j < ns.length) (hb : bodyAt tx a) : ∃ S', ja_X6_resolveHead 85 (a : Int) (j : Int) S = some (ccA (bStep tx ns us j a bl).1, S') ∧ mF Q S S' ∧ (∀ b, b ≠ 85 → ¬ (Q + 9 ≤ b ∧ b ≤ Q + 17) → S'.1 b = S.1 b) ∧ ((bStep tx ns us j a bl).1 = none → cBl S' Q c (bStep tx ns us j a bl).2 ∧ S'.1 85 2 = (((pT tx ns 20000 (a + 3)).2 + 2 : Nat) : Int)) := by
  have hT := hC.2.2.2.2.1
  obtain ⟨k1, k2, k3, k4, k5, k6, k7⟩ := hd_kind (ns := ns) hb
  obtain ⟨p1, p2, p3, p4, p5, p6, p7⟩ := pT_ok (ns := ns) 20000 (a + 3) k1
  have l6 := fW_T k6
  unfold bStep
  by_cases q1 : 48 ≤ bl.length
  · rw [if_pos q1]
    obtain ⟨A, hA⟩ : ∃ A, A = nk_wi S 85 2 (a : Int) := ⟨_, rfl⟩
    have FA : hF Q bl.length S A := by rw [hA]; exact hF_at hQ
    refine ⟨A, ?_, mF_h hQ FA, fun b x _ => by rw [hA, wi_n x], fun h => by cases h⟩
    unfold ja_X6_resolveHead
    rw [lt_eq, ← hA, h2, (jc_Qf hQ).2.2.2.2, FA.2.1 (Q + 9) (by omega) (by omega), hB.1, if_neg (by omega), w_nat1 (by omega)]
    rfl
  rw [if_neg q1]
  obtain ⟨T, w, w1, w3, e1, FT, nT, t85⟩ := c_hd1 (us := us) hQ hC hK hM hB.1 (by omega) h2 hj hb
  have CT := CF_F hQ FT hC
  have KT := cC_F hQ FT hK
  have BT := cBl_F hQ FT hB
  have t2 : T.2 85 1 = Q := by rw [FT.1]; exact h2
  rw [t2, (jc_Q hQ).1, c_near hQ CT KT hu BT hO hj w1, bd_some, wd_F hQ FT, w3] at e1
  have fr : ∀ b, b ≠ 85 → ¬ (Q + 9 ≤ b ∧ b ≤ Q + 17) → T.1 b = S.1 b := fun b x y => FT.2.1 b x (by omega)
  have hlc : (nB tx ns j a).lc = nval (tx.getD ((pT tx ns 20000 (a + 3)).2 + 2) []) := rfl
  -- what comes behind the look at the body above
  have hend : ∃ S', ja_X6_resolveHead_b296 85 (Q + 9) (misH tx ns a) (nB tx ns j a).lc T = some (ccA (if 0 ≤ mis (pT tx ns 20000 (a + 3)).1 (a + 3) then (some (mis (pT tx ns 20000 (a + 3)).1 (a + 3)).toNat, bl) else if (nB tx ns j a).rs = -2 then (some ((pT tx ns 20000 (a + 3)).2 + 1), bl) else if (nB tx ns j a).lc < ((nB tx ns j a).ps.length : Int) ∨ 12 < (nB tx ns j a).lc then (some ((pT tx ns 20000 (a + 3)).2 + 2), bl) else (none, bl ++ [nB tx ns j a])).1, S') ∧ mF Q S S' ∧ (∀ b, b ≠ 85 → ¬ (Q + 9 ≤ b ∧ b ≤ Q + 17) → S'.1 b = S.1 b) ∧ ((if 0 ≤ mis (pT tx ns 20000 (a + 3)).1 (a + 3) then (some (mis (pT tx ns 20000 (a + 3)).1 (a + 3)).toNat, bl) else if (nB tx ns j a).rs = -2 then (some ((pT tx ns 20000 (a + 3)).2 + 1), bl) else if (nB tx ns j a).lc < ((nB tx ns j a).ps.length : Int) ∨ 12 < (nB tx ns j a).lc then (some ((pT tx ns 20000 (a + 3)).2 + 2), bl) else (none, bl ++ [nB tx ns j a])).1 = none → cBl S' Q c (if 0 ≤ mis (pT tx ns 20000 (a + 3)).1 (a + 3) then (some (mis (pT tx ns 20000 (a + 3)).1 (a + 3)).toNat, bl) else if (nB tx ns j a).rs = -2 then (some ((pT tx ns 20000 (a + 3)).2 + 1), bl) else if (nB tx ns j a).lc < ((nB tx ns j a).ps.length : Int) ∨ 12 < (nB tx ns j a).lc then (some ((pT tx ns 20000 (a + 3)).2 + 2), bl) else (none, bl ++ [nB tx ns j a])).2 ∧ S'.1 85 2 = (((pT tx ns 20000 (a + 3)).2 + 2 : Nat) : Int)) := by
    unfold ja_X6_resolveHead_b296 misH
    by_cases q3 : 0 ≤ mis (pT tx ns 20000 (a + 3)).1 (a + 3)
    · rw [if_pos q3, if_pos q3, if_neg (by omega)]
      refine ⟨T, ?_, mF_h hQ FT, fr, fun h => by cases h⟩
      show _ = some ((((mis (pT tx ns 20000 (a + 3)).1 (a + 3)).toNat : Nat) : Int), T)
      rw [Int.toNat_of_nonneg q3]
    · rw [if_neg q3, if_neg q3]
      by_cases q4 : (nB tx ns j a).rs = -2
      · have q4' : tyC ns (tx.getD ((pT tx ns 20000 (a + 3)).2 + 1) []) = -2 := q4
        rw [if_pos q4, if_pos q4', if_neg (by omega)]
        exact ⟨T, rfl, mF_h hQ FT, fr, fun h => by cases h⟩
      · have q4' : ¬ tyC ns (tx.getD ((pT tx ns 20000 (a + 3)).2 + 1) []) = -2 := q4
        rw [if_neg q4, if_neg q4', if_pos (by decide), t85]
        by_cases q5 : (nB tx ns j a).lc < ((nB tx ns j a).ps.length : Int) ∨ 12 < (nB tx ns j a).lc
        · rw [if_pos q5]
          refine ⟨T, ?_, mF_h hQ FT, fr, fun h => by cases h⟩
          show _ = some (((((pT tx ns 20000 (a + 3)).2 + 2 : Nat)) : Int), T)
          by_cases q6 : (nB tx ns j a).lc < 0
          · rw [if_pos q6]
          · rw [if_neg q6]
            by_cases q7 : 12 < (nB tx ns j a).lc
            · rw [if_pos q7]
            · have hin : (0 : Int) ≤ (bl.length : Int) ∧ (bl.length : Int) < 48 := in_i (N := 48) (by omega)
              rw [if_neg q7, BT.1, if_pos hin, (jc_Q9 hQ).2.2.2.1, Int.toNat_natCast, nT.2.2.2.1, if_neg (by omega)]
        · have hin : (0 : Int) ≤ (bl.length : Int) ∧ (bl.length : Int) < 48 := in_i (N := 48) (by omega)
          rw [if_neg q5, if_neg (by omega), if_neg (by omega), BT.1, if_pos hin, (jc_Q9 hQ).2.2.2.1, Int.toNat_natCast, nT.2.2.2.1, if_pos (by omega), lt_eq, w_nat1 (by omega)]
          obtain ⟨U, hU⟩ : ∃ U, U = nk_wi T (Q + 9) 0 ((bl.length + 1 : Nat) : Int) := ⟨_, rfl⟩
          have un : ∀ b, b ≠ Q + 9 → U.1 b = T.1 b := fun b hb => by rw [hU]; exact wi_n hb
          have wdU : ∀ v, wd U v = wd T v := fun v => wd_congr (un 3 (by omega)) (by rw [un 5 (by omega)]) (by rw [un 6 (by omega)])
          have c1U : ∀ (b : Nat) (x : jB), cB1 T Q c b x → cB1 U Q c b x := by
            intro b x hx
            unfold cB1 at hx ⊢
            rw [un (Q + 10) (by omega), un (Q + 11) (by omega), un (Q + 12) (by omega), un (Q + 13) (by omega), un (Q + 14) (by omega), un (Q + 15) (by omega), un (Q + 16) (by omega), un (Q + 17) (by omega)]
            simpa only [wdU] using hx
          rw [← hU]
          refine ⟨U, rfl, mF_trans (mF_h hQ FT) ⟨by rw [hU]; rfl, fun b _ _ _ x => un b (by omega), fun i _ => by rw [un 85 (by omega)], fun i _ => by rw [un (Q + 1) (by omega)], fun i hi => by rw [hU]; simp only [wi_v, hi, and_false, if_false]⟩, fun b x y => by rw [un b (by omega), fr b x y], fun _ => ⟨⟨?_, fun b x hx => ?_⟩, by rw [un 85 (by omega), t85]⟩⟩
          · rw [hU, List.length_append]; simp only [wi_v, and_self, if_true]; rfl
          · have hx2 : (bl ++ [nB tx ns j a])[b]? = some x := hx
            have hbl := at_lt hx2
            rw [List.length_append, List.length_cons, List.length_nil] at hbl
            by_cases e : b < bl.length
            · rw [List.getElem?_append_left e] at hx2
              exact c1U b x (BT.2 b x hx2)
            · have e2 : b = bl.length := by omega
              subst e2
              rw [List.getElem?_append_right (Nat.le_refl _)] at hx2
              have e3 : x = nB tx ns j a := by simpa using hx2.symm
              rw [e3]
              exact c1U _ _ nT
  by_cases q2 : badB us bl (nB tx ns j a) = true
  · rw [if_pos q2]
    unfold badB at q2
    by_cases q3 : bdL us j (tx.getD (a + 1) []) bl 0 (-1) < 0
    · rw [if_pos (show bdL us (nB tx ns j a).ow (nB tx ns j a).nm bl 0 (-1) < 0 from q3)] at q2; cases q2
    · rw [if_neg (show ¬ bdL us (nB tx ns j a).ow (nB tx ns j a).nm bl 0 (-1) < 0 from q3)] at q2
      rcases bdL_rg (us := us) (c := j) (n := tx.getD (a + 1) []) bl 0 (-1) with h | ⟨k, x, h1, h3, h4⟩
      · omega
      · rw [show bdL us (nB tx ns j a).ow (nB tx ns j a).nm bl 0 (-1) = ((0 + k : Nat) : Int) from h1, Int.toNat_natCast, Nat.zero_add, h3] at q2
        have hk := at_lt h3
        have ho := hO.1
        have b12 := bTx_12 hX h3
        rw [h1, Nat.zero_add, if_neg (by omega), c_may hQ BT.1 (by omega) (by omega) (BT.2 k x h3) nT b12.1 b12.2, bd_some] at e1
        have q2' : mayB x (nB tx ns j a) = false := by
          have : (!(mayB x (nB tx ns j a))) = true := q2
          simpa using this
        rw [q2', if_pos (show bi false = 0 from rfl), w_nat1 (by omega)] at e1
        exact ⟨T, e1, mF_h hQ FT, fr, fun h => by cases h⟩
  · rw [if_neg q2]
    unfold badB at q2
    by_cases q3 : bdL us j (tx.getD (a + 1) []) bl 0 (-1) < 0
    · rw [if_pos q3] at e1
      rw [e1]
      exact hend
    · rw [if_neg (show ¬ bdL us (nB tx ns j a).ow (nB tx ns j a).nm bl 0 (-1) < 0 from q3)] at q2
      rcases bdL_rg (us := us) (c := j) (n := tx.getD (a + 1) []) bl 0 (-1) with h | ⟨k, x, h1, h3, h4⟩
      · omega
      · rw [show bdL us (nB tx ns j a).ow (nB tx ns j a).nm bl 0 (-1) = ((0 + k : Nat) : Int) from h1, Int.toNat_natCast, Nat.zero_add, h3] at q2
        have hk := at_lt h3
        have ho := hO.1
        have b12 := bTx_12 hX h3
        rw [h1, Nat.zero_add, if_neg (by omega), c_may hQ BT.1 (by omega) (by omega) (BT.2 k x h3) nT b12.1 b12.2, bd_some] at e1
        have q2' : mayB x (nB tx ns j a) = true := by
          have : ¬ (!(mayB x (nB tx ns j a))) = true := q2
          simpa using this
        rw [q2', if_neg (show ¬ bi true = 0 by decide)] at e1
        rw [e1]
        exact hend
end CME
