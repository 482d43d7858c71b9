/-! The reference brings what is known to an instruction. -/
section RBR
variable {F : Int → Prop} {S : nk_S} {P : Nat}
theorem facts_z {a w : jW} (ha : wOk F a) {x0 x1 x2 x3 y0 y1 y2 y3 : Int} (a5 : mI x0 a.2.2.2.2 0) (a6 : mI x1 a.2.2.2.2 12) (a7 : mI x2 a.2.2.2.2 24) (a8 : mI x3 a.2.2.2.2 36) (w5 : mI y0 w.2.2.2.2 0) (w6 : mI y1 w.2.2.2.2 12) (w7 : mI y2 w.2.2.2.2 24) (w8 : mI y3 w.2.2.2.2 36) : nk_ior (nk_ior (nk_ior (nk_iand x0 (nk_ixor y0 (-1))) (nk_iand x1 (nk_ixor y1 (-1)))) (nk_iand x2 (nk_ixor y2 (-1)))) (nk_iand x3 (nk_ixor y3 (-1))) = 0 ↔ ¬ ∃ j, j < 48 ∧ a.2.2.2.2 j = true ∧ w.2.2.2.2 j = false := by
  have h := cI_or (cI_or (cI_or (mI_mi a5 w5) (mI_mi a6 w6)) (mI_mi a7 w7)) (mI_mi a8 w8)
  rw [cI_z h]
  constructor
  · rintro q ⟨j, hj, h1, h2⟩
    have hb := q (j % 12) (by omega)
    unfold sOr at hb
    rw [Bool.or_eq_false_iff, Bool.or_eq_false_iff, Bool.or_eq_false_iff] at hb
    obtain ⟨⟨⟨b0, b1⟩, b2⟩, b3⟩ := hb
    have d12 : decide (j % 12 < 12) = true := decide_eq_true (by omega)
    dsimp only at b0 b1 b2 b3
    rw [d12, Bool.true_and] at b0 b1 b2 b3
    have key : ∀ o, o + j % 12 = j → (a.2.2.2.2 (o + j % 12) && !w.2.2.2.2 (o + j % 12)) = true := fun o ho => by rw [ho, h1, h2]; rfl
    by_cases c0 : j < 12
    · rw [key 0 (by omega)] at b0; cases b0
    · by_cases c1 : j < 24
      · rw [key 12 (by omega)] at b1; cases b1
      · by_cases c2 : j < 36
        · rw [key 24 (by omega)] at b2; cases b2
        · rw [key 36 (by omega)] at b3; cases b3
  · intro q j hj
    have z : ∀ o, o ≤ 36 → (decide (j < 12) && (a.2.2.2.2 (o + j) && !w.2.2.2.2 (o + j))) = false := fun o ho => by
      by_cases c : j < 12
      · rw [decide_eq_true c, Bool.true_and]
        cases h1 : a.2.2.2.2 (o + j) with
        | false => rfl
        | true =>
          cases h2 : w.2.2.2.2 (o + j) with
          | true => rfl
          | false => exact absurd ⟨o + j, by omega, h1, h2⟩ q
      · rw [decide_eq_false c, Bool.false_and]
    unfold sOr
    dsimp only
    rw [z 0 (by omega), z 12 (by omega), z 24 (by omega), z 36 (by omega)]
    rfl
theorem r_join (hP : P = 122 ∨ P = 168) {k s : Nat} (hk : k < 20480) (hs : s < 24) {a w : jW} (oa : wOk F a) (ow : wOk F w) (ha : rSo S (rSt P) k a) (hw : rSo S rWk s w) : ∃ S' ch, ja_X13_joinSlot 121 P (k : Int) (s : Int) S = some (bi ch, S') ∧ oFr P k S S' ∧ rSo S' (rSt P) k (wJn a w) ∧ (ch = true ↔ wJn a w ≠ a) := by
  obtain ⟨c0, c1, c2, c3, c4, c5, c6, c7, c8, -, -⟩ := jc_Ps hP
  obtain ⟨a0, a1, a2, a3, a4, a5, a6, a7, a8⟩ := id ha
  obtain ⟨w0, w1, w2, w3, w4, w5, w6, w7, w8⟩ := id hw
  have a0' : S.1 (P + 28) k = (a.1 : Int) := a0
  have w0' : S.1 229 s = (w.1 : Int) := w0
  unfold ja_X13_joinSlot
  rw [if_pos (in_i (N := 20480) (by omega)), c0, Int.toNat_natCast, a0']
  by_cases h0 : a.1 = 0
  · have hj : wJn a w = a := by
      rw [wOk_0 oa h0]
      unfold wJn
      rw [if_neg (fun q => q.2 rfl)]
    refine ⟨S, false, by rw [if_pos (by omega)]; rfl, ⟨rfl, fun _ _ => rfl, fun _ _ _ => rfl⟩, by rw [hj]; exact ha, ?_⟩
    rw [hj]
    exact ⟨(fun q => by cases q), fun q => absurd rfl q⟩
  · rw [if_neg (by omega)]
    unfold ja_X13_joinSlot_b11
    rw [if_pos (in_i (N := 24) (by omega)), if_pos (in_i (N := 20480) (by omega)), c0, c1, c2, c3, c4, c5, c6, c7, c8, jc_121_26, jc_121_27, jc_121_28, jc_121_29, jc_121_30, Int.toNat_natCast, Int.toNat_natCast, a0', w0']
    by_cases h1 : a.1 = w.1
    · rw [if_pos (by omega)]
      have hmo := moR_iff oa ow h1 h0
      obtain ⟨S1, q1, q2, q3⟩ := r_b250 hP hk hs h1 h0 ha hw (f := 1) (Or.inr rfl)
      obtain ⟨S0, z1, z2, z3⟩ := r_b250 hP hk hs h1 h0 ha hw (f := 0) (Or.inl rfl)
      have y167 : ja_X13_joinSlot_b167 121 P (k : Int) (s : Int) S = some (1, S1) := by
        unfold ja_X13_joinSlot_b167 ja_X13_joinSlot_b172 ja_X13_joinSlot_b245
        rw [if_neg (by decide), q1]
      have yes : moR a w → ∃ S' ch, some ((1 : Int), S1) = some (bi ch, S') ∧ oFr P k S S' ∧ rSo S' (rSt P) k (wJn a w) ∧ (ch = true ↔ wJn a w ≠ a) := fun q => ⟨S1, true, rfl, q2, q3, ⟨fun _ => hmo.mp q, fun _ => rfl⟩⟩
      have a1' : S.1 (P + 29) k = a.2.1.1 := a1
      have w1' : S.1 230 s = w.2.1.1 := w1
      have a2' : S.1 (P + 30) k = a.2.1.2 := a2
      have w2' : S.1 231 s = w.2.1.2 := w2
      have a4' : S.1 (P + 32) k = cpI a.2.2.2.1 := a4
      have w4' : S.1 233 s = cpI w.2.2.2.1 := w4
      rw [a1', w1', a2', w2', a4', w4', y167]
      by_cases n1 : w.2.1.1 < a.2.1.1
      · rw [if_pos n1]; exact yes (Or.inl n1)
      rw [if_neg n1]
      by_cases n2 : a.2.1.2 < w.2.1.2
      · rw [if_pos n2]; exact yes (Or.inr (Or.inl n2))
      rw [if_neg n2]
      have hv := cV_and w3 (cV_not a3)
      by_cases n3 : nk_land (S.1 232 s) (nk_lxor (S.1 (P + 31) k) (-1)) = 0
      · rw [if_pos n3]
        have m3 : ¬ ∃ j, j < 64 ∧ w.2.2.1 j = true ∧ a.2.2.1 j = false := by
          rintro ⟨j, hj, e1, e2⟩
          have := (cV_z hv).mp n3 j hj
          unfold sAnd sNo at this
          rw [e1, e2] at this
          cases this
        -- the facts
        have last : ¬ (a.2.2.2.1 ≠ none ∧ w.2.2.2.1 ≠ a.2.2.2.1) → ∃ S' ch, ja_X13_joinSlot_b171 121 P (k : Int) (s : Int) S = some (bi ch, S') ∧ oFr P k S S' ∧ rSo S' (rSt P) k (wJn a w) ∧ (ch = true ↔ wJn a w ≠ a) := fun m4 => by
          unfold ja_X13_joinSlot_b171 ja_X13_joinSlot_b172
          rw [if_pos rfl, if_pos (in_i (N := 20480) (by omega)), if_pos (in_i (N := 24) (by omega)), c5, c6, c7, c8, jc_121_31, jc_121_32, jc_121_33, jc_121_34, Int.toNat_natCast, Int.toNat_natCast]
          have hz := facts_z (w := w) oa a5 a6 a7 a8 w5 w6 w7 w8
          by_cases n5 : nk_ior (nk_ior (nk_ior (nk_iand (S.1 (P + 33) k) (nk_ixor (S.1 234 s) (-1))) (nk_iand (S.1 (P + 34) k) (nk_ixor (S.1 235 s) (-1)))) (nk_iand (S.1 (P + 35) k) (nk_ixor (S.1 236 s) (-1)))) (nk_iand (S.1 (P + 36) k) (nk_ixor (S.1 237 s) (-1))) = 0
          · rw [if_pos n5, z1]
            have m5 := hz.mp n5
            have hm : ¬ moR a w := by
              rintro (q | q | q | q | q)
              · exact n1 q
              · exact n2 q
              · exact m3 q
              · exact m4 q
              · exact m5 q
            refine ⟨S0, false, rfl, z2, z3, ⟨(fun q => by cases q), fun q => absurd (hmo.mpr q) hm⟩⟩
          · rw [if_neg n5]
            unfold ja_X13_joinSlot_b245
            rw [q1]
            refine yes (Or.inr (Or.inr (Or.inr (Or.inr ?_))))
            exact Classical.byContradiction (fun q => n5 (hz.mpr q))
        cases hc : a.2.2.2.1 with
        | none =>
          rw [if_pos (show cpI none < 0 by decide)]
          exact last (fun q => q.1 hc)
        | some m =>
          rw [if_neg (show ¬ cpI (some m) < 0 by show ¬ (m : Int) < 0; omega)]
          by_cases n4 : w.2.2.2.1 = some m
          · rw [if_pos (cpI_u.mpr n4)]
            exact last (fun q => q.2 (by rw [n4, hc]))
          · rw [if_neg (fun q => n4 (cpI_u.mp q))]
            exact yes (Or.inr (Or.inr (Or.inr (Or.inl ⟨by rw [hc]; exact (fun q => by cases q), by rw [hc]; exact n4⟩))))
      · rw [if_neg n3]
        refine yes (Or.inr (Or.inr (Or.inl ?_)))
        refine Classical.byContradiction (fun q => n3 ((cV_z hv).mpr (fun j hj => ?_)))
        unfold sAnd sNo
        cases e1 : w.2.2.1 j with
        | false => rfl
        | true =>
          cases e2 : a.2.2.1 j with
          | true => rfl
          | false => exact absurd ⟨j, hj, e1, e2⟩ q
    · rw [if_neg (by omega), bt_0.1, bt_0.2]
      have hj : wJn a w = wU := by unfold wJn; rw [if_neg (fun q => h1 q.1)]
      obtain ⟨T, hT⟩ : ∃ T, T = nk_wi (nk_wi (nk_wi (nk_wi (nk_wi (nk_wi (nk_wi (nk_wi (nk_wi S (P + 28) k 0) (P + 29) k 0) (P + 30) k 0) (P + 31) k 0) (P + 32) k (-1)) (P + 33) k 0) (P + 34) k 0) (P + 35) k 0) (P + 36) k 0 := ⟨_, rfl⟩
      refine ⟨T, true, by rw [lt_eq, lt_eq, lt_eq, lt_eq, lt_eq, lt_eq, lt_eq, lt_eq, lt_eq, ← hT]; rfl, ?_, ?_, ?_⟩
      · rw [hT]
        exact oFr_trans (oFr_trans (oFr_trans (oFr_trans (oFr_trans (oFr_trans (oFr_trans (oFr_trans (oFr_wi (by omega)) (oFr_wi (by omega))) (oFr_wi (by omega))) (oFr_wi (by omega))) (oFr_wi (by omega))) (oFr_wi (by omega))) (oFr_wi (by omega))) (oFr_wi (by omega))) (oFr_wi (by omega))
      · rw [hj]
        refine ⟨?_, ?_, ?_, ?_, ?_, ?_, ?_, ?_, ?_⟩
        · show T.1 (P + 28) k = 0
          rw [hT, wi_n (by omega), wi_n (by omega), wi_n (by omega), wi_n (by omega), wi_n (by omega), wi_n (by omega), wi_n (by omega), wi_n (by omega), wi_at, if_pos rfl]
        · show T.1 (P + 29) k = 0
          rw [hT, wi_n (by omega), wi_n (by omega), wi_n (by omega), wi_n (by omega), wi_n (by omega), wi_n (by omega), wi_n (by omega), wi_at, if_pos rfl]
        · show T.1 (P + 30) k = 0
          rw [hT, wi_n (by omega), wi_n (by omega), wi_n (by omega), wi_n (by omega), wi_n (by omega), wi_n (by omega), wi_at, if_pos rfl]
        · show cV (T.1 (P + 31) k) noS
          rw [hT, wi_n (by omega), wi_n (by omega), wi_n (by omega), wi_n (by omega), wi_n (by omega), wi_at, if_pos rfl]
          exact cV_0
        · show T.1 (P + 32) k = -1
          rw [hT, wi_n (by omega), wi_n (by omega), wi_n (by omega), wi_n (by omega), wi_at, if_pos rfl]
        · show mI (T.1 (P + 33) k) noS 0
          rw [hT, wi_n (by omega), wi_n (by omega), wi_n (by omega), wi_at, if_pos rfl]
          exact mI_0 0
        · show mI (T.1 (P + 34) k) noS 12
          rw [hT, wi_n (by omega), wi_n (by omega), wi_at, if_pos rfl]
          exact mI_0 12
        · show mI (T.1 (P + 35) k) noS 24
          rw [hT, wi_n (by omega), wi_at, if_pos rfl]
          exact mI_0 24
        · show mI (T.1 (P + 36) k) noS 36
          rw [hT, wi_at, if_pos rfl]
          exact mI_0 36
      · rw [hj]
        refine ⟨fun _ q => ?_, fun _ => rfl⟩
        rw [← q] at h0
        exact h0 rfl
/-- the states of all instructions -/
def rAm (H : Nat → Nat) (S : nk_S) (P : Nat) (A : jA) : Prop := (∀ i, i < 1024 → S.1 (P + 27) i = bi (A i).isSome) ∧ ∀ i u, A i = some u → ∀ k, k < 12 + H i → rSo S (rSt P) (i * 20 + k) (u k)
/-- the working row -/
def rRw (S : nk_S) (t : Nat) (u : jQ) : Prop := S.1 121 25 = (t : Int) ∧ ∀ k, k < t → rSo S rWk k (u k)
/-- what is due -/
def rDu (S : nk_S) (D : Nat → Bool) : Prop := ∀ i, i < 1024 → S.1 238 i = bi (D i)
theorem i2b_k {x : Int} (h : -128 ≤ x ∧ x ≤ 127) : nk_i2b x = x := Int.bmod_eq_of_le (by show -(128 : Int) ≤ x; omega) (by show x < (128 : Int); omega)
theorem cpI_b {F : Int → Prop} {w : jW} (h : wOk F w) : -128 ≤ cpI w.2.2.2.1 ∧ cpI w.2.2.2.1 ≤ 127 := by
  cases hc : w.2.2.2.1 with
  | none => exact ⟨by decide, by decide⟩
  | some k =>
    have := h.1 k hc
    show -128 ≤ (k : Int) ∧ (k : Int) ≤ 127
    omega
/-- the first that comes to a slot -/
theorem r_b75 (hP : P = 122 ∨ P = 168) {rec18 : Nat → Nat → Int → Int → Int → nk_S → Option (Int × nk_S)} {k s : Nat} (hk : k < 20480) (hs : s < 24) {w : jW} (ow : wOk F w) (hw : rSo S rWk s w) (j m : Int) : ∃ S', ja_X13_bring_b75 rec18 121 P j m (s : Int) (k : Int) S = rec18 121 P j m ((s + 1 : Nat) : Int) S' ∧ oFr P k S S' ∧ rSo S' (rSt P) k w := by
  obtain ⟨c0, c1, c2, c3, c4, c5, c6, c7, c8, -, -⟩ := jc_Ps hP
  obtain ⟨w0, w1, w2, w3, w4, w5, w6, w7, w8⟩ := id hw
  have es : ∀ _ : Unit, nk_w ((s : Int) + 1) = ((s + 1 : Nat) : Int) := fun _ => w_nat1 (by omega)
  have k0 := wOk_k ow
  have e0 : nk_i2b (S.1 229 s) = S.1 229 s := i2b_k (by rw [show S.1 229 s = (w.1 : Int) from w0]; omega)
  have e4 : nk_i2b (nk_i2b (S.1 233 s)) = S.1 233 s := by
    have hb := cpI_b ow
    rw [show S.1 233 s = cpI w.2.2.2.1 from w4, i2b_k hb, i2b_k hb]
  obtain ⟨T, hT⟩ : ∃ T, T = nk_wi (nk_wi (nk_wi (nk_wi (nk_wi (nk_wi (nk_wi (nk_wi (nk_wi S (P + 28) k (S.1 229 s)) (P + 29) k (S.1 230 s)) (P + 30) k (S.1 231 s)) (P + 31) k (S.1 232 s)) (P + 32) k (S.1 233 s)) (P + 33) k (S.1 234 s)) (P + 34) k (S.1 235 s)) (P + 35) k (S.1 236 s)) (P + 36) k (S.1 237 s) := ⟨_, rfl⟩
  refine ⟨T, ?_, ?_, ?_⟩
  · unfold ja_X13_bring_b75
    rw [if_pos (in_i (N := 24) (by omega)), if_pos (in_i (N := 20480) (by omega)), c0, c1, c2, c3, c4, c5, c6, c7, c8, jc_121_26, jc_121_27, jc_121_28, jc_121_29, jc_121_30, jc_121_31, jc_121_32, jc_121_33, jc_121_34, Int.toNat_natCast, Int.toNat_natCast, e0, es ()]
    rw [lt_eq, wi_n (b := 230) (by omega)]
    rw [lt_eq, wi_n (b := 231) (by omega), wi_n (b := 231) (by omega)]
    rw [lt_eq, wi_n (b := 232) (by omega), wi_n (b := 232) (by omega), wi_n (b := 232) (by omega)]
    rw [lt_eq, wi_n (b := 233) (by omega), wi_n (b := 233) (by omega), wi_n (b := 233) (by omega), wi_n (b := 233) (by omega), e4]
    rw [lt_eq, wi_n (b := 234) (by omega), wi_n (b := 234) (by omega), wi_n (b := 234) (by omega), wi_n (b := 234) (by omega), wi_n (b := 234) (by omega)]
    rw [lt_eq, wi_n (b := 235) (by omega), wi_n (b := 235) (by omega), wi_n (b := 235) (by omega), wi_n (b := 235) (by omega), wi_n (b := 235) (by omega), wi_n (b := 235) (by omega)]
    rw [lt_eq, wi_n (b := 236) (by omega), wi_n (b := 236) (by omega), wi_n (b := 236) (by omega), wi_n (b := 236) (by omega), wi_n (b := 236) (by omega), wi_n (b := 236) (by omega), wi_n (b := 236) (by omega)]
    rw [lt_eq, wi_n (b := 237) (by omega), wi_n (b := 237) (by omega), wi_n (b := 237) (by omega), wi_n (b := 237) (by omega), wi_n (b := 237) (by omega), wi_n (b := 237) (by omega), wi_n (b := 237) (by omega), wi_n (b := 237) (by omega)]
    rw [lt_eq, lt_eq, ← hT]
  · rw [hT]
    exact oFr_trans (oFr_trans (oFr_trans (oFr_trans (oFr_trans (oFr_trans (oFr_trans (oFr_trans (oFr_wi (by omega)) (oFr_wi (by omega))) (oFr_wi (by omega))) (oFr_wi (by omega))) (oFr_wi (by omega))) (oFr_wi (by omega))) (oFr_wi (by omega))) (oFr_wi (by omega))) (oFr_wi (by omega))
  · refine ⟨?_, ?_, ?_, ?_, ?_, ?_, ?_, ?_, ?_⟩
    · show T.1 (P + 28) k = _
      rw [hT, wi_n (by omega), wi_n (by omega), wi_n (by omega), wi_n (by omega), wi_n (by omega), wi_n (by omega), wi_n (by omega), wi_n (by omega), wi_at, if_pos rfl]; exact w0
    · show T.1 (P + 29) k = _
      rw [hT, wi_n (by omega), wi_n (by omega), wi_n (by omega), wi_n (by omega), wi_n (by omega), wi_n (by omega), wi_n (by omega), wi_at, if_pos rfl]; exact w1
    · show T.1 (P + 30) k = _
      rw [hT, wi_n (by omega), wi_n (by omega), wi_n (by omega), wi_n (by omega), wi_n (by omega), wi_n (by omega), wi_at, if_pos rfl]; exact w2
    · show cV (T.1 (P + 31) k) _
      rw [hT, wi_n (by omega), wi_n (by omega), wi_n (by omega), wi_n (by omega), wi_n (by omega), wi_at, if_pos rfl]; exact w3
    · show T.1 (P + 32) k = _
      rw [hT, wi_n (by omega), wi_n (by omega), wi_n (by omega), wi_n (by omega), wi_at, if_pos rfl]; exact w4
    · show mI (T.1 (P + 33) k) _ 0
      rw [hT, wi_n (by omega), wi_n (by omega), wi_n (by omega), wi_at, if_pos rfl]; exact w5
    · show mI (T.1 (P + 34) k) _ 12
      rw [hT, wi_n (by omega), wi_n (by omega), wi_at, if_pos rfl]; exact w6
    · show mI (T.1 (P + 35) k) _ 24
      rw [hT, wi_n (by omega), wi_at, if_pos rfl]; exact w7
    · show mI (T.1 (P + 36) k) _ 36
      rw [hT, wi_at, if_pos rfl]; exact w8
end RBR
