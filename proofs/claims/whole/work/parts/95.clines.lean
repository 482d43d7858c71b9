/-! Lines: the class's lines. -/
section CLS
variable {tx : List (List Int)} {Q c : Nat} {ns : List (List Int)} {us : List Int} {fl : List (List Int × Nat × Int)} {bl : List jB} {ls : List (List Int × Nat × Nat)} {en op b : Nat} {lc : Int} {z : jL}
theorem c_147 (hQ : Q = 13 ∨ Q = 49) {S : nk_S} (h2 : S.2 85 1 = Q) {cl : List jC} {nl sl : List Int} {kl : List (Nat × Nat × Nat × Nat × Nat)} (hZ : cJL S Q (cl, sl, kl, nl)) (h1024 : cl.length < 1024) (hnl : nl.length ≤ cl.length) {o a : Nat} {x y : Int} (h3 : S.1 85 3 = x) (h4 : S.1 85 4 = y) (hx : o = 0 → -2147483648 ≤ x ∧ x ≤ 2147483647) (hy : o = 4 → -2147483648 ≤ y ∧ y ≤ 2147483647) : ∃ S', ja_X6_resolveInstruction_b147 85 (b : Int) (a : Int) (o : Int) S = some (-1, S') ∧ gF Q S S' ∧ S'.1 85 = S.1 85 ∧ cJL S' Q (cl ++ [(o, x, y, b, a)], sl, kl, nl ++ nTh o x y) := by
  obtain ⟨z1, z2, z3, z4⟩ := hZ
  obtain ⟨S', s1, s2, s3, s4, s5, s6⟩ := c_addC hQ z1 z4 h1024 hnl o x y a b hx hy
  refine ⟨S', ?_, ⟨s2, fun d _ p q _ => s3 d p q, fun i _ _ _ => by rw [s3 85 (by omega) (by omega)], fun i p _ _ => s4 i p⟩, s3 85 (by omega) (by omega), s5, ?_, ?_, s6⟩
  · unfold ja_X6_resolveInstruction_b147
    rw [h2, h3, h4, s1, bd_some]
  · unfold cSl at z2 ⊢
    rw [s4 10 (by decide), s3 (Q + 31) (by omega) (by omega)]
    exact z2
  · unfold cKl at z3 ⊢
    rw [s4 12 (by decide), s3 (Q + 32) (by omega) (by omega), s3 (Q + 33) (by omega) (by omega), s3 (Q + 34) (by omega) (by omega), s3 (Q + 35) (by omega) (by omega)]
    exact z3
theorem c_141 (hQ : Q = 13 ∨ Q = 49) {S : nk_S} (h2 : S.2 85 1 = Q) {cl : List jC} {nl sl : List Int} {kl : List (Nat × Nat × Nat × Nat × Nat)} (hZ : cJL S Q (cl, sl, kl, nl)) (h1024 : cl.length < 1024) (hnl : nl.length ≤ cl.length) (h48 : sl.length < 48) {o a : Nat} {x : Int} (t : Int) (h3 : S.1 85 3 = x) (ho : o = 30 ∨ o = 31) : ∃ S', ja_X6_resolveInstruction_b141 85 (b : Int) (a : Int) (o : Int) 85 Q t S = some (-1, S') ∧ gF Q S S' ∧ S'.1 85 2 = S.1 85 2 ∧ cJL S' Q (cl ++ [(o, x, (sl.length : Int), b, a)], sl ++ [t], kl, nl) := by
  obtain ⟨z1, z2, z3, z4⟩ := hZ
  obtain ⟨T, s1, s2, s3, s4, s5⟩ := c_addS hQ z2 h48 t
  obtain ⟨U, hU⟩ : ∃ U, U = nk_wi T 85 4 (sl.length : Int) := ⟨_, rfl⟩
  have un : ∀ d, d ≠ 85 → U.1 d = T.1 d := fun d hd => by rw [hU]; exact wi_n hd
  have ZT : cJL T Q (cl, sl ++ [t], kl, nl) := by
    refine ⟨?_, s5, ?_, ?_⟩
    · unfold cCd at z1 ⊢
      rw [s4 3 (by decide), s3 (Q + 25) (by omega) (by omega), s3 (Q + 26) (by omega) (by omega), s3 (Q + 27) (by omega) (by omega), s3 (Q + 28) (by omega) (by omega), s3 (Q + 29) (by omega) (by omega)]
      exact z1
    · unfold cKl at z3 ⊢
      rw [s4 12 (by decide), s3 (Q + 32) (by omega) (by omega), s3 (Q + 33) (by omega) (by omega), s3 (Q + 34) (by omega) (by omega), s3 (Q + 35) (by omega) (by omega)]
      exact z3
    · unfold cTh tC at z4 ⊢
      rw [s3 (Q + 23) (by omega) (by omega), s3 (Q + 23 + 1) (by omega) (by omega)]
      exact z4
  have GT : gF Q S T := ⟨s2, fun d _ p _ q => s3 d p (by omega), fun i _ _ _ => by rw [s3 85 (by omega) (by omega)], fun i _ p _ => s4 i p⟩
  have GU : gF Q S U := by rw [hU]; exact gF_trans GT (gF_85 hQ (by omega))
  obtain ⟨V, v1, v2, v3, v4⟩ := c_147 (b := b) (o := o) (a := a) (x := x) (y := (sl.length : Int)) hQ (by rw [GU.1]; exact h2) (cJL_85 hQ un ZT) h1024 hnl (by rw [hU, wi_at, if_neg (by decide), s3 85 (by omega) (by omega)]; exact h3) (by rw [hU, wi_at, if_pos rfl]) (fun e => by omega) (fun e => by omega)
  refine ⟨V, ?_, gF_trans GU v2, ?_, ?_⟩
  · unfold ja_X6_resolveInstruction_b141
    rw [s1, bd_some, lt_eq, ← hU, v1]
  · rw [v3, hU, wi_at, if_neg (by decide), s3 85 (by omega) (by omega)]
  · have e : nTh o x (sl.length : Int) = [] := by
      unfold nTh
      rw [if_neg (by omega), if_neg (by omega)]
    rw [e, List.append_nil] at v4
    exact v4
theorem c_instr (hQ : Q = 13 ∨ Q = 49) {S : nk_S} (hV : cVm S tx Q c ns us fl bl) (hu : uOk us) (hO : fOk us fl) (hOb : bOk us bl) (hZ : cJL S Q z) (hoz : oJL z) (hL : cLb S c op ls) (hb : b < 48) (ho : S.1 (Q + 17) b = (op : Int)) (he : S.1 (Q + 19) b = (en : Int)) (hlc : S.1 (Q + 16) b = lc) {a : Nat} (g1 : fW tx 59 (a + 1) = false) (g2 : fW tx 46 a = false) (g3 : 0 ≤ fO tx a) (g4 : (fOp tx (fK (fO tx a).toNat) (a + 1)).1 = true) : ∃ S', ja_X6_resolveInstruction 85 (b : Int) (a : Int) S = some (ccA (lnS tx ns us fl bl ls en b lc a z).1, S') ∧ gF Q S S' ∧ S'.1 85 2 = S.1 85 2 ∧ ((lnS tx ns us fl bl ls en b lc a z).1 = none → cJL S' Q (lnS tx ns us fl bl ls en b lc a z).2 ∧ oJL (lnS tx ns us fl bl ls en b lc a z).2) := by
  have hV0 := hV
  obtain ⟨hC, hK, hM, hF, hB, h2⟩ := hV
  have hT := hC.2.2.2.2.1
  have hns := hK.2.2.1
  have hal := fO_T g3
  have hr := fO_rg (tx := tx) a
  obtain ⟨o, ho46⟩ : ∃ o : Nat, fO tx a = (o : Int) := ⟨(fO tx a).toNat, (Int.toNat_of_nonneg g3).symm⟩
  have h46 : o < 46 := by omega
  obtain ⟨cl, sl, kl, nl⟩ := z
  obtain ⟨y1, y2, y3, y4⟩ := hoz
  have y1 : cl.length ≤ 1024 := y1
  have y2 : sl.length ≤ 48 := y2
  have y3 : kl.length ≤ 64 := y3
  have y4 : nl.length ≤ cl.length := y4
  unfold lnS
  rw [if_neg (show ¬ fW tx 59 (a + 1) = true by rw [g1]; decide), if_neg (show ¬ fW tx 46 a = true by rw [g2]; decide), ho46, Int.toNat_natCast]
  rw [ho46, Int.toNat_natCast] at g4
  have hz3 : S.1 Q 3 = (cl.length : Int) := hZ.1.1
  have hz10 : S.1 Q 10 = (sl.length : Int) := hZ.2.1.1
  -- the operands
  obtain ⟨A, hA⟩ : ∃ A, A = nk_wi (nk_wi S 85 3 0) 85 4 0 := ⟨_, rfl⟩
  have GA : gF Q S A := by rw [hA]; exact gF_trans (gF_85 hQ (by omega)) (gF_85 hQ (by omega))
  have an : ∀ d, d ≠ 85 → A.1 d = S.1 d := fun d hd => by rw [hA, wi_n hd, wi_n hd]
  have a3 : A.1 85 3 = 0 := by rw [hA, wi_at, if_neg (by decide), wi_at, if_pos rfl]
  have a4 : A.1 85 4 = 0 := by rw [hA, wi_at, if_pos rfl]
  have a2 : A.1 85 2 = S.1 85 2 := by rw [hA, wi_at, if_neg (by decide), wi_at, if_neg (by decide)]
  obtain ⟨B, b1, b2, b3, b4, b5⟩ := c_opnd (lc := lc) (a := a + 1) (o := o) hQ (cVm_gF hQ GA hV0) hu hO hOb (cLb_gF hQ GA hL) hb (by rw [an _ (by omega)]; exact ho) (by rw [an _ (by omega)]; exact he) (by rw [an _ (by omega)]; exact hlc) h46 g4 (by omega) a3 a4
  have GB := gF_trans GA b2
  have bn : ∀ d, d ≠ 85 → B.1 d = S.1 d := fun d hd => by rw [b3 d hd, an d hd]
  have hB2 : B.2 85 1 = Q := by rw [GB.1]; exact h2
  have ZB : cJL B Q (cl, sl, kl, nl) := cJL_85 hQ bn hZ
  have h70 : ∀ s0 : Int, (s0 = 0 ↔ ¬ (o = 30 ∨ o = 31)) → cl.length < 1024 → ((o = 30 ∨ o = 31) → sl.length < 48) → ∃ S', ja_X6_resolveInstruction_b70 85 (b : Int) (a : Int) (o : Int) s0 S = some (ccA (match oX tx ns us fl bl ls en lc o (a + 1) with
      | none => (some (a + 1), (cl, sl, kl, nl))
      | some q => (none, psh b o a q.1 q.2 (cl, sl, kl, nl)) : Option Nat × jL).1, S') ∧ gF Q S S' ∧ S'.1 85 2 = S.1 85 2 ∧ ((match oX tx ns us fl bl ls en lc o (a + 1) with
      | none => (some (a + 1), (cl, sl, kl, nl))
      | some q => (none, psh b o a q.1 q.2 (cl, sl, kl, nl)) : Option Nat × jL).1 = none → cJL S' Q (match oX tx ns us fl bl ls en lc o (a + 1) with
      | none => (some (a + 1), (cl, sl, kl, nl))
      | some q => (none, psh b o a q.1 q.2 (cl, sl, kl, nl)) : Option Nat × jL).2 ∧ oJL (match oX tx ns us fl bl ls en lc o (a + 1) with
      | none => (some (a + 1), (cl, sl, kl, nl))
      | some q => (none, psh b o a q.1 q.2 (cl, sl, kl, nl)) : Option Nat × jL).2) := by
    intro s0 hs0 hcl hsl
    have e1 : ja_X6_resolveInstruction_b70 85 (b : Int) (a : Int) (o : Int) s0 S = if bi (oX tx ns us fl bl ls en lc o (a + 1)).isSome = 0 then some (((a + 1 : Nat) : Int), B) else if s0 = 0 then ja_X6_resolveInstruction_b147 85 (b : Int) (a : Int) (o : Int) B else if (o : Int) = 30 then ja_X6_resolveInstruction_b141 85 (b : Int) (a : Int) (o : Int) 85 Q (nk_w (4 + nk_w (2 * (B.1 85 3)))) B else if B.1 85 3 = 1 then ja_X6_resolveInstruction_b141 85 (b : Int) (a : Int) (o : Int) 85 Q 3 B else ja_X6_resolveInstruction_b141 85 (b : Int) (a : Int) (o : Int) 85 Q (nk_w ((B.1 85 3) + 1)) B := by
      unfold ja_X6_resolveInstruction_b70
      rw [lt_eq, lt_eq, ← hA, w_nat1 (by omega), b1, bd_some, hB2]
    rw [e1]
    cases hX : oX tx ns us fl bl ls en lc o (a + 1) with
    | none =>
      rw [if_pos (show bi (none : Option (Int × Int)).isSome = 0 from rfl)]
      exact ⟨B, rfl, GB, b4.trans a2, fun h => by cases h⟩
    | some q =>
      obtain ⟨x, y⟩ := q
      obtain ⟨x3, x4⟩ := b5 x y hX
      obtain ⟨r1, r2, r3, r4⟩ := oX_rg hns h46 g4 hX
      rw [if_neg (show ¬ bi (some (x, y) : Option (Int × Int)).isSome = 0 from (show ¬ (1 : Int) = 0 by decide))]
      have nlen : (nTh o x y).length ≤ 1 := by
        unfold nTh
        split
        · exact Nat.le_refl 1
        · split
          · exact Nat.le_refl 1
          · exact Nat.zero_le 1
      by_cases qm : o = 30 ∨ o = 31
      · rw [if_neg (fun e => hs0.mp e qm)]
        have fin : ∀ t : Int, [t] = sTy o x → ∃ S', ja_X6_resolveInstruction_b141 85 (b : Int) (a : Int) (o : Int) 85 Q t B = some (ccA ((none, psh b o a x y (cl, sl, kl, nl)) : Option Nat × jL).1, S') ∧ gF Q S S' ∧ S'.1 85 2 = S.1 85 2 ∧ (((none, psh b o a x y (cl, sl, kl, nl)) : Option Nat × jL).1 = none → cJL S' Q ((none, psh b o a x y (cl, sl, kl, nl)) : Option Nat × jL).2 ∧ oJL ((none, psh b o a x y (cl, sl, kl, nl)) : Option Nat × jL).2) := by
          intro t ht
          obtain ⟨V, v1, v2, v3, v4⟩ := c_141 (b := b) (a := a) hQ hB2 ZB hcl y4 (hsl qm) t x3 qm
          have en0 : nTh o x y = [] := by
            unfold nTh
            rw [if_neg (by omega), if_neg (by omega)]
          have ep : psh b o a x y (cl, sl, kl, nl) = (cl ++ [(o, x, (sl.length : Int), b, a)], sl ++ [t], kl, nl) := by
            unfold psh
            rw [if_pos qm, en0, List.append_nil, ht]
          rw [ep]
          refine ⟨V, v1, gF_trans GB v2, v3.trans (b4.trans a2), fun _ => ⟨v4, ?_, ?_, y3, ?_⟩⟩
          · show (cl ++ [(o, x, (sl.length : Int), b, a)]).length ≤ 1024
            rw [List.length_append, List.length_cons, List.length_nil]; omega
          · show (sl ++ [t]).length ≤ 48
            have := hsl qm
            rw [List.length_append, List.length_cons, List.length_nil]; omega
          · show nl.length ≤ (cl ++ [(o, x, (sl.length : Int), b, a)]).length
            rw [List.length_append, List.length_cons, List.length_nil]; omega
        rw [x3]
        by_cases q30 : o = 30
        · have rr := r3 q30
          obtain ⟨k, hk⟩ : ∃ k : Nat, x = (k : Int) := ⟨x.toNat, by omega⟩
          have ew : nk_w (4 + nk_w (2 * x)) = 4 + 2 * x := by
            rw [hk, show (2 : Int) * (k : Int) = ((2 * k : Nat) : Int) by omega, w_n0 (by omega), show (4 : Int) + ((2 * k : Nat) : Int) = ((4 + 2 * k : Nat) : Int) by omega]
            exact w_n0 (by omega)
          rw [if_pos (show (o : Int) = 30 by omega), ew]
          exact fin _ (by unfold sTy; rw [if_pos q30])
        · have q31 : o = 31 := by omega
          have rr := r4 q31
          rw [if_neg (show ¬ (o : Int) = 30 by omega)]
          by_cases q1 : x = 1
          · rw [if_pos q1]
            exact fin _ (by unfold sTy; rw [if_neg q30, if_pos q31, if_pos q1])
          · have ew : nk_w (x + 1) = x + 1 := nk_w_id (z := x + 1) (by omega) (by omega)
            rw [if_neg q1, ew]
            exact fin _ (by unfold sTy; rw [if_neg q30, if_pos q31, if_neg q1])
      · rw [if_pos (hs0.mpr qm)]
        obtain ⟨V, v1, v2, v3, v4⟩ := c_147 (b := b) (a := a) (o := o) (x := x) (y := y) hQ hB2 ZB hcl y4 x3 x4 r1 r2
        have es : sTy o x = [] := by
          unfold sTy
          rw [if_neg (fun e => qm (Or.inl e)), if_neg (fun e => qm (Or.inr e))]
        have ep : psh b o a x y (cl, sl, kl, nl) = (cl ++ [(o, x, y, b, a)], sl, kl, nl ++ nTh o x y) := by
          unfold psh
          rw [if_neg qm, es, List.append_nil]
        show ∃ S', ja_X6_resolveInstruction_b147 85 (b : Int) (a : Int) (o : Int) B = some (-1, S') ∧ gF Q S S' ∧ S'.1 85 2 = S.1 85 2 ∧ (_ → cJL S' Q (psh b o a x y (cl, sl, kl, nl)) ∧ oJL (psh b o a x y (cl, sl, kl, nl)))
        rw [ep]
        refine ⟨V, v1, gF_trans GB v2, by rw [v3]; exact b4.trans a2, fun _ => ⟨v4, ?_, y2, y3, ?_⟩⟩
        · show (cl ++ [(o, x, y, b, a)]).length ≤ 1024
          rw [List.length_append, List.length_cons, List.length_nil]; omega
        · show (nl ++ nTh o x y).length ≤ (cl ++ [(o, x, y, b, a)]).length
          rw [List.length_append, List.length_append, List.length_cons, List.length_nil]; omega
  unfold ja_X6_resolveInstruction
  rw [jc_85_0, c_at0 hC, bd_some, cw_op hC g3 hal, ho46]
  have fin : ∃ S', some ((a : Int), S) = some (ccA ((some a, (cl, sl, kl, nl)) : Option Nat × jL).1, S') ∧ gF Q S S' ∧ S'.1 85 2 = S.1 85 2 ∧ (((some a, (cl, sl, kl, nl)) : Option Nat × jL).1 = none → cJL S' Q ((some a, (cl, sl, kl, nl)) : Option Nat × jL).2 ∧ oJL ((some a, (cl, sl, kl, nl)) : Option Nat × jL).2) := ⟨S, rfl, gF_rfl, rfl, fun h => by cases h⟩
  have h26 : ∀ s0 : Int, (s0 = 0 ↔ ¬ (o = 30 ∨ o = 31)) → ja_X6_resolveInstruction_b26 85 (b : Int) (a : Int) (o : Int) s0 S = if 1024 ≤ cl.length ∨ (((o : Int) = 30 ∨ (o : Int) = 31) ∧ 48 ≤ sl.length) then some ((a : Int), S) else ja_X6_resolveInstruction_b70 85 (b : Int) (a : Int) (o : Int) s0 S := by
    intro s0 hs0
    unfold ja_X6_resolveInstruction_b26
    rw [if_neg (show ¬ (o : Int) < 0 by omega), if_neg (show ¬ (46 : Int) ≤ (o : Int) by omega), h2, hz3, hz10]
    by_cases q1 : 1024 ≤ cl.length
    · rw [if_pos (show (1024 : Int) ≤ (cl.length : Int) by omega), if_pos (Or.inl q1)]
    · rw [if_neg (show ¬ (1024 : Int) ≤ (cl.length : Int) by omega)]
      by_cases q2 : o = 30 ∨ o = 31
      · rw [if_neg (fun e => hs0.mp e q2)]
        by_cases q3 : sl.length < 48
        · rw [if_pos (show (sl.length : Int) < 48 by omega), if_neg (by omega)]
        · rw [if_neg (show ¬ (sl.length : Int) < 48 by omega), if_pos (by omega)]
      · rw [if_pos (hs0.mpr q2), if_neg (by omega)]
  have hgo : ∀ s0 : Int, (s0 = 0 ↔ ¬ (o = 30 ∨ o = 31)) → ∃ S', ja_X6_resolveInstruction_b26 85 (b : Int) (a : Int) (o : Int) s0 S = some (ccA (if 1024 ≤ cl.length ∨ (((o : Int) = 30 ∨ (o : Int) = 31) ∧ 48 ≤ sl.length) then (some a, (cl, sl, kl, nl)) else match oX tx ns us fl bl ls en lc o (a + 1) with
      | none => (some (a + 1), (cl, sl, kl, nl))
      | some q => (none, psh b o a q.1 q.2 (cl, sl, kl, nl)) : Option Nat × jL).1, S') ∧ gF Q S S' ∧ S'.1 85 2 = S.1 85 2 ∧ ((if 1024 ≤ cl.length ∨ (((o : Int) = 30 ∨ (o : Int) = 31) ∧ 48 ≤ sl.length) then (some a, (cl, sl, kl, nl)) else match oX tx ns us fl bl ls en lc o (a + 1) with
      | none => (some (a + 1), (cl, sl, kl, nl))
      | some q => (none, psh b o a q.1 q.2 (cl, sl, kl, nl)) : Option Nat × jL).1 = none → cJL S' Q (if 1024 ≤ cl.length ∨ (((o : Int) = 30 ∨ (o : Int) = 31) ∧ 48 ≤ sl.length) then (some a, (cl, sl, kl, nl)) else match oX tx ns us fl bl ls en lc o (a + 1) with
      | none => (some (a + 1), (cl, sl, kl, nl))
      | some q => (none, psh b o a q.1 q.2 (cl, sl, kl, nl)) : Option Nat × jL).2 ∧ oJL (if 1024 ≤ cl.length ∨ (((o : Int) = 30 ∨ (o : Int) = 31) ∧ 48 ≤ sl.length) then (some a, (cl, sl, kl, nl)) else match oX tx ns us fl bl ls en lc o (a + 1) with
      | none => (some (a + 1), (cl, sl, kl, nl))
      | some q => (none, psh b o a q.1 q.2 (cl, sl, kl, nl)) : Option Nat × jL).2) := by
    intro s0 hs0
    rw [h26 s0 hs0]
    by_cases q : 1024 ≤ cl.length ∨ (((o : Int) = 30 ∨ (o : Int) = 31) ∧ 48 ≤ sl.length)
    · rw [if_pos q, if_pos q]
      exact fin
    · rw [if_neg q, if_neg q]
      exact h70 s0 hs0 (by omega) (fun hh => by omega)
  by_cases q30 : o = 30
  · rw [if_pos (show (o : Int) = 30 by omega)]
    exact hgo 1 ⟨fun h => (by cases h), fun h => absurd (Or.inl q30) h⟩
  · rw [if_neg (show ¬ (o : Int) = 30 by omega)]
    by_cases q31 : o = 31
    · rw [if_pos (show (o : Int) = 31 by omega)]
      exact hgo 1 ⟨fun h => (by cases h), fun h => absurd (Or.inr q31) h⟩
    · rw [if_neg (show ¬ (o : Int) = 31 by omega)]
      exact hgo 0 ⟨fun _ h => h.elim q30 q31, fun _ => rfl⟩
end CLS
