/-! The reference joins slots. -/
section RJO
variable {F : Int → Prop} {S : nk_S} {P : Nat}
theorem jc_Ps (hP : P = 122 ∨ P = 168) : ja_c P 35 = P + 28 ∧ ja_c P 36 = P + 29 ∧ ja_c P 37 = P + 30 ∧ ja_c P 38 = P + 31 ∧ ja_c P 39 = P + 32 ∧ ja_c P 40 = P + 33 ∧ ja_c P 41 = P + 34 ∧ ja_c P 42 = P + 35 ∧ ja_c P 43 = P + 36 ∧ ja_c P 34 = P + 27 ∧ ja_c P 26 = P + 19 := by
  rcases hP with rfl | rfl <;> exact ⟨rfl, rfl, rfl, rfl, rfl, rfl, rfl, rfl, rfl, rfl, rfl⟩
/-- only one slot of the states changes -/
def oFr (P k : Nat) (S S' : nk_S) : Prop := S'.2 = S.2 ∧ (∀ a, a < P + 28 ∨ P + 36 < a → S'.1 a = S.1 a) ∧ ∀ a j, j ≠ k → S'.1 a j = S.1 a j
theorem oFr_wi {a k : Nat} {x : Int} (h : P + 28 ≤ a ∧ a ≤ P + 36) : oFr P k S (nk_wi S a k x) := ⟨rfl, fun c hc => wi_n (by omega), fun c j hj => by rw [wi_v, if_neg (fun q => hj q.2)]⟩
theorem oFr_trans {k : Nat} {S1 S2 S3 : nk_S} (h : oFr P k S1 S2) (q : oFr P k S2 S3) : oFr P k S1 S3 := ⟨q.1.trans h.1, fun a r => (q.2.1 a r).trans (h.2.1 a r), fun a j r => (q.2.2 a j r).trans (h.2.2 a j r)⟩
theorem bt_0 : nk_i2b 0 = 0 ∧ nk_i2b (-1) = -1 := by decide
/-- the slot is joined, whatever is answered -/
theorem r_b250 (hP : P = 122 ∨ P = 168) {k s : Nat} (hk : k < 20480) (hs : s < 24) {a w : jW} (h1 : a.1 = w.1) (h0 : a.1 ≠ 0) (ha : rSo S (rSt P) k a) (hw : rSo S rWk s w) {f : Int} (hf : f = 0 ∨ f = 1) : ∃ S', ja_X13_joinSlot_b250 121 P (k : Int) (s : Int) f S = some (f, S') ∧ oFr P k S S' ∧ rSo S' (rSt P) k (wJn a w) := by
  obtain ⟨c0, c1, c2, c3, c4, c5, c6, c7, c8, -, -⟩ := jc_Ps hP
  obtain ⟨a0, a1, a2, a3, a4, a5, a6, a7, a8⟩ := ha
  obtain ⟨w0, w1, w2, w3, w4, w5, w6, w7, w8⟩ := hw
  have e : wJn a w = (a.1, rJn a.2.1 w.2.1, sOr a.2.2.1 w.2.2.1, if a.2.2.2.1 = w.2.2.2.1 then a.2.2.2.1 else none, sAnd a.2.2.2.2 w.2.2.2.2) := by unfold wJn; rw [if_pos ⟨h1, h0⟩]
  have hmin : ∀ T, ja_J9_min_7cf53 a.2.1.1 w.2.1.1 T = some (min a.2.1.1 w.2.1.1, T) := fun T => by
    unfold ja_J9_min_7cf53
    split
    · rw [show min a.2.1.1 w.2.1.1 = w.2.1.1 by omega]
    · rw [show min a.2.1.1 w.2.1.1 = a.2.1.1 by omega]
  have hmax : ∀ T, ja_J9_max_7cf53 a.2.1.2 w.2.1.2 T = some (max a.2.1.2 w.2.1.2, T) := fun T => by
    unfold ja_J9_max_7cf53
    split
    · rw [show max a.2.1.2 w.2.1.2 = w.2.1.2 by omega]
    · rw [show max a.2.1.2 w.2.1.2 = a.2.1.2 by omega]
  obtain ⟨T1, hT1⟩ : ∃ T1, T1 = nk_wi S (P + 29) k (min a.2.1.1 w.2.1.1) := ⟨_, rfl⟩
  obtain ⟨T2, hT2⟩ : ∃ T2, T2 = nk_wi T1 (P + 30) k (max a.2.1.2 w.2.1.2) := ⟨_, rfl⟩
  obtain ⟨T3, hT3⟩ : ∃ T3, T3 = nk_wi T2 (P + 31) k (nk_lor (S.1 (P + 31) k) (S.1 232 s)) := ⟨_, rfl⟩
  obtain ⟨T4, hT4⟩ : ∃ T4, T4 = (if a.2.2.2.1 = w.2.2.2.1 then T3 else nk_wi T3 (P + 32) k (-1)) := ⟨_, rfl⟩
  have t1 : ∀ c, c ≠ P + 29 → T1.1 c = S.1 c := fun c hc => by rw [hT1, wi_n hc]
  have t2 : ∀ c, c ≠ P + 30 → T2.1 c = T1.1 c := fun c hc => by rw [hT2, wi_n hc]
  have t3 : ∀ c, c ≠ P + 31 → T3.1 c = T2.1 c := fun c hc => by rw [hT3, wi_n hc]
  have t4 : ∀ c, c ≠ P + 32 → T4.1 c = T3.1 c := fun c hc => by
    rw [hT4]
    split
    · rfl
    · rw [wi_n hc]
  have tS : ∀ c, c ≠ P + 29 → c ≠ P + 30 → c ≠ P + 31 → c ≠ P + 32 → T4.1 c = S.1 c := fun c x1 x2 x3 x4 => by rw [t4 c x4, t3 c x3, t2 c x2, t1 c x1]
  have f1 : oFr P k S T1 := by rw [hT1]; exact oFr_wi (by omega)
  have f2 : oFr P k T1 T2 := by rw [hT2]; exact oFr_wi (by omega)
  have f3 : oFr P k T2 T3 := by rw [hT3]; exact oFr_wi (by omega)
  have f34 : oFr P k T3 T4 := by
    rw [hT4]
    split
    · exact ⟨rfl, fun _ _ => rfl, fun _ _ _ => rfl⟩
    · exact oFr_wi (by omega)
  have f4 : oFr P k S T4 := oFr_trans (oFr_trans (oFr_trans f1 f2) f3) f34
  obtain ⟨T8, hT8⟩ : ∃ T8, T8 = nk_wi (nk_wi (nk_wi (nk_wi T4 (P + 33) k (nk_iand (S.1 (P + 33) k) (S.1 234 s))) (P + 34) k (nk_iand (S.1 (P + 34) k) (S.1 235 s))) (P + 35) k (nk_iand (S.1 (P + 35) k) (S.1 236 s))) (P + 36) k (nk_iand (S.1 (P + 36) k) (S.1 237 s)) := ⟨_, rfl⟩
  have t8 : ∀ c, c < P + 33 ∨ P + 36 < c → T8.1 c = T4.1 c := fun c hc => by rw [hT8, wi_n (by omega), wi_n (by omega), wi_n (by omega), wi_n (by omega)]
  have f8 : oFr P k S T8 := by
    refine oFr_trans f4 ?_
    rw [hT8]
    exact oFr_trans (oFr_trans (oFr_trans (oFr_wi (by omega)) (oFr_wi (by omega))) (oFr_wi (by omega))) (oFr_wi (by omega))
  have b331 : ja_X13_joinSlot_b331 121 P (k : Int) (s : Int) f T4 = some (f, T8) := by
    unfold ja_X13_joinSlot_b331
    rw [if_pos (in_i (N := 20480) (by omega)), if_pos (in_i (N := 24) (by omega)), c5, c6, c7, c8, jc_121_31, jc_121_32, jc_121_33, jc_121_34, Int.toNat_natCast, Int.toNat_natCast]
    rw [lt_eq, lt_eq, lt_eq, lt_eq, if_pos hf]
    rw [tS (P + 33) (by omega) (by omega) (by omega) (by omega), tS 234 (by omega) (by omega) (by omega) (by omega)]
    rw [wi_n (b := P + 34) (by omega), wi_n (b := 235) (by omega), tS (P + 34) (by omega) (by omega) (by omega) (by omega), tS 235 (by omega) (by omega) (by omega) (by omega)]
    rw [wi_n (b := P + 35) (by omega), wi_n (b := P + 35) (by omega), wi_n (b := 236) (by omega), wi_n (b := 236) (by omega), tS (P + 35) (by omega) (by omega) (by omega) (by omega), tS 236 (by omega) (by omega) (by omega) (by omega)]
    rw [wi_n (b := P + 36) (by omega), wi_n (b := P + 36) (by omega), wi_n (b := P + 36) (by omega), wi_n (b := 237) (by omega), wi_n (b := 237) (by omega), wi_n (b := 237) (by omega), tS (P + 36) (by omega) (by omega) (by omega) (by omega), tS 237 (by omega) (by omega) (by omega) (by omega), ← hT8]
  refine ⟨T8, ?_, f8, ?_⟩
  · unfold ja_X13_joinSlot_b250
    rw [if_pos (in_i (N := 20480) (by omega)), if_pos (in_i (N := 24) (by omega)), c1, c2, c3, c4, jc_121_27, jc_121_28, jc_121_29, jc_121_30, Int.toNat_natCast, Int.toNat_natCast]
    have a1' : S.1 (P + 29) k = a.2.1.1 := a1
    have w1' : S.1 230 s = w.2.1.1 := w1
    rw [a1', w1', hmin, bd_some, lt_eq, ← hT1, t1 (P + 30) (by omega), t1 231 (by omega)]
    have a2' : S.1 (P + 30) k = a.2.1.2 := a2
    have w2' : S.1 231 s = w.2.1.2 := w2
    rw [a2', w2', hmax, bd_some, lt_eq, ← hT2, t2 (P + 31) (by omega), t1 (P + 31) (by omega), t2 232 (by omega), t1 232 (by omega), lt_eq, ← hT3, t3 233 (by omega), t2 233 (by omega), t1 233 (by omega), t3 (P + 32) (by omega), t2 (P + 32) (by omega), t1 (P + 32) (by omega)]
    have a4' : S.1 (P + 32) k = cpI a.2.2.2.1 := a4
    have w4' : S.1 233 s = cpI w.2.2.2.1 := w4
    rw [a4', w4']
    by_cases q : a.2.2.2.1 = w.2.2.2.1
    · rw [if_pos q] at hT4
      rw [if_pos (cpI_u.mpr q.symm), ← hT4, b331]
    · rw [if_neg q] at hT4
      rw [if_neg (fun r => q (cpI_u.mp r).symm), bt_0.2, lt_eq, ← hT4, b331]
  · rw [e]
    refine ⟨?_, ?_, ?_, ?_, ?_, ?_, ?_, ?_, ?_⟩
    · show T8.1 (P + 28) k = _
      rw [t8 _ (by omega), tS _ (by omega) (by omega) (by omega) (by omega)]; exact a0
    · show T8.1 (P + 29) k = min a.2.1.1 w.2.1.1
      rw [t8 _ (by omega), t4 _ (by omega), t3 _ (by omega), t2 _ (by omega), hT1, wi_at, if_pos rfl]
    · show T8.1 (P + 30) k = max a.2.1.2 w.2.1.2
      rw [t8 _ (by omega), t4 _ (by omega), t3 _ (by omega), hT2, wi_at, if_pos rfl]
    · show cV (T8.1 (P + 31) k) (sOr a.2.2.1 w.2.2.1)
      rw [t8 _ (by omega), t4 _ (by omega), hT3, wi_at, if_pos rfl]
      exact cV_or a3 w3
    · show T8.1 (P + 32) k = cpI (if a.2.2.2.1 = w.2.2.2.1 then a.2.2.2.1 else none)
      rw [t8 _ (by omega), hT4]
      by_cases q : a.2.2.2.1 = w.2.2.2.1
      · rw [if_pos q, if_pos q, t3 _ (by omega), t2 _ (by omega), t1 _ (by omega)]; exact a4
      · rw [if_neg q, if_neg q, wi_at, if_pos rfl]; rfl
    · show mI (T8.1 (P + 33) k) (sAnd a.2.2.2.2 w.2.2.2.2) 0
      rw [hT8, wi_n (by omega), wi_n (by omega), wi_n (by omega), wi_at, if_pos rfl]
      exact mI_and a5 w5
    · show mI (T8.1 (P + 34) k) (sAnd a.2.2.2.2 w.2.2.2.2) 12
      rw [hT8, wi_n (by omega), wi_n (by omega), wi_at, if_pos rfl]
      exact mI_and a6 w6
    · show mI (T8.1 (P + 35) k) (sAnd a.2.2.2.2 w.2.2.2.2) 24
      rw [hT8, wi_n (by omega), wi_at, if_pos rfl]
      exact mI_and a7 w7
    · show mI (T8.1 (P + 36) k) (sAnd a.2.2.2.2 w.2.2.2.2) 36
      rw [hT8, wi_at, if_pos rfl]
      exact mI_and a8 w8
end RJO
