/-! Members: the class's fields and its walk. -/
section CFD
variable {tx : List (List Int)} {Q c : Nat} {ns : List (List Int)} {us : List Int}
theorem fl_case {α : Type} {l : List α} {z : α} {b : Nat} {x : α} (hx : (l ++ [z])[b]? = some x) : (b < l.length ∧ l[b]? = some x) ∨ (b = l.length ∧ x = z) := by
  have := at_lt hx
  rw [List.length_append, List.length_cons, List.length_nil] at this
  by_cases e : b < l.length
  · left; rw [List.getElem?_append_left e] at hx; exact ⟨e, hx⟩
  · right
    have e2 : b = l.length := by omega
    subst e2
    rw [List.getElem?_append_right (Nat.le_refl _)] at hx
    exact ⟨rfl, by simpa using hx.symm⟩
theorem fStep_ok {fl : List (List Int × Nat × Int)} {j a : Nat} (hO : fOk us fl) (hj : j < us.length) (h : (fStep tx ns us j a fl).1 = none) : (fStep tx ns us j a fl).2 = fl ++ [(tx.getD (a + 1) [], j, tyC ns (tx.getD (a + 2) []))] ∧ fl.length < 48 ∧ tyC ns (tx.getD (a + 2) []) ≠ -2 ∧ ¬ 0 ≤ fdL us j (tx.getD (a + 1) []) fl 0 ∧ fOk us (fl ++ [(tx.getD (a + 1) [], j, tyC ns (tx.getD (a + 2) []))]) := by
  unfold fStep at h ⊢
  by_cases q1 : 0 ≤ fdL us j (tx.getD (a + 1) []) fl 0 ∨ 48 ≤ fl.length
  · rw [if_pos q1] at h; cases h
  rw [if_neg q1] at h ⊢
  by_cases q2 : tyC ns (tx.getD (a + 2) []) = -2
  · rw [if_pos q2] at h; cases h
  rw [if_neg q2]
  refine ⟨rfl, by omega, q2, fun e => q1 (Or.inl e), by rw [List.length_append, List.length_cons, List.length_nil]; omega, fun f x hx => ?_⟩
  rcases fl_case hx with ⟨_, e⟩ | ⟨_, e⟩
  · exact hO.2 f x e
  · rw [e]; exact hj
theorem c_rfield (hQ : Q = 13 ∨ Q = 49) {S : nk_S} (hC : CF S tx c) (hK : cC S Q c ns us) (hM : cM S c) (hu : uOk us) {fl : List (List Int × Nat × Int)} (hF : cFl S Q c fl) (hO : fOk us fl) (h2 : S.2 85 1 = Q) {j a : Nat} (hj : j < ns.length) (hn : fN tx (a + 1) = true) (ht : fT tx (a + 2) = true) : ∃ S', ja_X6_resolveField 85 (a : Int) (j : Int) S = some (ccA (fStep tx ns us j a fl).1, S') ∧ mF Q S S' ∧ (∀ b, b ≠ Q + 1 → ¬ (Q + 5 ≤ b ∧ b ≤ Q + 7) → S'.1 b = S.1 b) ∧ ((fStep tx ns us j a fl).1 = none → cFl S' Q c (fStep tx ns us j a fl).2) := by
  have hT := hC.2.2.2.2.1
  have l2 := fT_T ht
  obtain ⟨w, w1, w2, w3⟩ := c_tok hC (show a + 1 < tx.length by omega)
  have e1 : ja_X6_resolveField 85 (a : Int) (j : Int) S = if 0 ≤ fdL us j (tx.getD (a + 1) []) fl 0 then some (((a + 1 : Nat) : Int), S) else if (fl.length : Int) < 48 then (if tyC ns (tx.getD (a + 2) []) = -2 then some (((a + 2 : Nat) : Int), S) else nk_bd (ja_X1_addField (Q + 1) (j : Int) (w : Int) (tyC ns (tx.getD (a + 2) [])) S) fun r16 S17 => some (-1, S17)) else some (((a + 1 : Nat) : Int), S) := by
    unfold ja_X6_resolveField
    rw [jc_85_0, w_nat1 (by omega), w_n2 (by omega), c_at0 hC, bd_some, c_at0 hC, bd_some, c_ty hC hK hM (Or.inl ht), bd_some, h2, (jc_Q hQ).1, w2, c_find hQ hC hK hu hF hO hj w1, bd_some, w3, hF.1]
  rw [e1]
  unfold fStep
  by_cases q1 : 0 ≤ fdL us j (tx.getD (a + 1) []) fl 0
  · rw [if_pos q1, if_pos (Or.inl q1)]
    exact ⟨S, rfl, mF_rfl, fun _ _ _ => rfl, fun h => by cases h⟩
  rw [if_neg q1]
  by_cases q2 : 48 ≤ fl.length
  · rw [if_neg (show ¬ (fl.length : Int) < 48 by omega), if_pos (Or.inr q2)]
    exact ⟨S, rfl, mF_rfl, fun _ _ _ => rfl, fun h => by cases h⟩
  rw [if_pos (show (fl.length : Int) < 48 by omega), if_neg (show ¬ (0 ≤ fdL us j (tx.getD (a + 1) []) fl 0 ∨ 48 ≤ fl.length) from fun h => h.elim q1 q2)]
  by_cases q3 : tyC ns (tx.getD (a + 2) []) = -2
  · rw [if_pos q3, if_pos q3]
    exact ⟨S, rfl, mF_rfl, fun _ _ _ => rfl, fun h => by cases h⟩
  rw [if_neg q3, if_neg q3]
  have hin : (0 : Int) ≤ (fl.length : Int) ∧ (fl.length : Int) < 48 := in_i (N := 48) (by omega)
  obtain ⟨U, hU⟩ : ∃ U, U = nk_wi (nk_wi (nk_wi (nk_wi S (Q + 5) fl.length (w : Int)) (Q + 6) fl.length (j : Int)) (Q + 7) fl.length (tyC ns (tx.getD (a + 2) []))) (Q + 1) 4 ((fl.length + 1 : Nat) : Int) := ⟨_, rfl⟩
  have e2 : ja_X1_addField (Q + 1) (j : Int) (w : Int) (tyC ns (tx.getD (a + 2) [])) S = some (0, U) := by
    unfold ja_X1_addField
    rw [hF.1, if_pos (show (fl.length : Int) < 48 by omega), if_pos hin, lt_eq, (jc_Qf hQ).1, Int.toNat_natCast]
    rw [show (nk_wi S (Q + 5) fl.length (w : Int)).1 (Q + 1) 4 = (fl.length : Int) by rw [wi_n (by omega)]; exact hF.1, if_pos hin, lt_eq, (jc_Qf hQ).2.1, Int.toNat_natCast]
    rw [show (nk_wi (nk_wi S (Q + 5) fl.length (w : Int)) (Q + 6) fl.length (j : Int)).1 (Q + 1) 4 = (fl.length : Int) by rw [wi_n (by omega), wi_n (by omega)]; exact hF.1, if_pos hin, lt_eq, (jc_Qf hQ).2.2.1, Int.toNat_natCast, lt_eq]
    rw [show (nk_wi (nk_wi (nk_wi S (Q + 5) fl.length (w : Int)) (Q + 6) fl.length (j : Int)) (Q + 7) fl.length (tyC ns (tx.getD (a + 2) []))).1 (Q + 1) 4 = (fl.length : Int) by rw [wi_n (by omega), wi_n (by omega), wi_n (by omega)]; exact hF.1, w_nat1 (by omega), ← hU]
  rw [e2, bd_some]
  have un : ∀ b, b ≠ Q + 1 → ¬ (Q + 5 ≤ b ∧ b ≤ Q + 7) → U.1 b = S.1 b := fun b x y => by rw [hU, wi_n x, wi_n (by omega), wi_n (by omega), wi_n (by omega)]
  have u1 : ∀ i, i ≠ 4 → U.1 (Q + 1) i = S.1 (Q + 1) i := fun i hi => by
    rw [hU]
    simp only [wi_v, hi, and_false, if_false]
    rw [if_neg (by omega), if_neg (by omega), if_neg (by omega)]
  have wdU : ∀ v, wd U v = wd S v := fun v => wd_congr (un 3 (by omega) (by omega)) (by rw [un 5 (by omega) (by omega)]) (by rw [un 6 (by omega) (by omega)])
  refine ⟨U, rfl, ⟨by rw [hU]; rfl, fun b _ x y z => un b x y, fun i _ => by rw [un 85 (by omega) (by omega)], u1, fun i _ => by rw [un (Q + 9) (by omega) (by omega)]⟩, un, fun _ => ⟨?_, fun f x hx => ?_⟩⟩
  · rw [hU, List.length_append]; simp only [wi_v, and_self, if_true]; rfl
  · have r5 : ∀ i, U.1 (Q + 5) i = if i = fl.length then (w : Int) else S.1 (Q + 5) i := fun i => by
      rw [hU, wi_n (by omega), wi_n (by omega), wi_n (by omega)]; simp only [wi_v, true_and]
    have r6 : ∀ i, U.1 (Q + 6) i = if i = fl.length then (j : Int) else S.1 (Q + 6) i := fun i => by
      rw [hU, wi_n (by omega), wi_n (by omega)]; simp only [wi_v, true_and]; rw [if_neg (show ¬ (Q + 6 = Q + 5 ∧ i = fl.length) by omega)]
    have r7 : ∀ i, U.1 (Q + 7) i = if i = fl.length then tyC ns (tx.getD (a + 2) []) else S.1 (Q + 7) i := fun i => by
      rw [hU, wi_n (by omega)]; simp only [wi_v, true_and]; rw [if_neg (show ¬ (Q + 7 = Q + 6 ∧ i = fl.length) by omega), if_neg (show ¬ (Q + 7 = Q + 5 ∧ i = fl.length) by omega)]
    rw [r5, r6, r7]
    rcases fl_case hx with ⟨l1, e⟩ | ⟨l1, e⟩
    · rw [if_neg (by omega), if_neg (by omega), if_neg (by omega)]
      obtain ⟨⟨v, v1, v2, v3⟩, y⟩ := hF.2 f x e
      exact ⟨⟨v, v1, v2, by rw [wdU]; exact v3⟩, y⟩
    · rw [if_pos l1, if_pos l1, if_pos l1, e]
      exact ⟨⟨w, w1, rfl, by rw [wdU]; exact w3⟩, rfl, rfl⟩
/-! the walk -/
theorem cw_ne {S : nk_S} (hC : CF S tx c) {w : Nat} (hw : w < 70) {a : Nat} (h : fW tx w a = false) : ¬ cw S tx a = (w : Int) := by
  intro e
  have := (cw_iff hC hw a).mp e
  rw [h] at this
  cases this
theorem wm_114 {rec7 : Nat → Int → Int → Int → nk_S → Option (Int × nk_S)} {k j : Int} {a : Nat} {S : nk_S} (ha : a < 100000) : ja_X6_walkMembers_b114 rec7 85 k j (a : Int) (-1) S = rec7 85 k j ((a + 1 : Nat) : Int) S := by
  unfold ja_X6_walkMembers_b114
  rw [if_pos (by decide), lt_eq, w_nat1 (by omega)]
theorem wm_n {S : nk_S} (hC : CF S tx c) {rec7 : Nat → Int → Int → Int → nk_S → Option (Int × nk_S)} {a k : Nat} {j : Int} (ha : a < tx.length) (h : kn tx a) (hk : 2 ≤ k) : ja_X6_walkMembers_b7 rec7 85 (k : Int) j (a : Int) S = rec7 85 (k : Int) j ((a + 1 : Nat) : Int) S := by
  have hT := hC.2.2.2.2.1
  unfold ja_X6_walkMembers_b7
  rw [jc_85_0, hC.2.2.2.1, if_neg (show ¬ (tx.length : Int) ≤ (a : Int) by omega), c_at0 hC, bd_some]
  rw [if_neg (show ¬ cw _ _ _ = 57 from cw_ne hC (w := 57) (by decide) (kn_no (Or.inl rfl) h)), if_neg (show ¬ cw _ _ _ = 58 from cw_ne hC (w := 58) (by decide) (kn_no (Or.inr rfl) h)), if_neg (show ¬ (k : Int) = 0 by omega), if_neg (show ¬ (k : Int) = 1 by omega)]
  unfold ja_X6_walkMembers_b96
  rw [if_neg (show ¬ (k : Int) = 1 by omega), wm_114 (by omega)]
theorem wm_o {S : nk_S} (hC : CF S tx c) {rec7 : Nat → Int → Int → Int → nk_S → Option (Int × nk_S)} {a k : Nat} {j : Int} (hk : k < 100000) (h : fW tx 57 a = true) : ja_X6_walkMembers_b7 rec7 85 (k : Int) j (a : Int) S = rec7 85 ((k + 1 : Nat) : Int) j ((a + 1 : Nat) : Int) S := by
  have hT := hC.2.2.2.2.1
  have hl := fW_T h
  unfold ja_X6_walkMembers_b7
  rw [jc_85_0, hC.2.2.2.1, if_neg (show ¬ (tx.length : Int) ≤ (a : Int) by omega), c_at0 hC, bd_some, if_pos (show cw _ _ _ = 57 from (cw_iff hC (w := 57) (by decide) a).mpr h), lt_eq, w_nat1 (by omega), wm_114 (by omega)]
theorem wm_c {S : nk_S} (hC : CF S tx c) {rec7 : Nat → Int → Int → Int → nk_S → Option (Int × nk_S)} {a k : Nat} {j : Int} (hk : k < 100000) (h : fW tx 58 a = true) : ja_X6_walkMembers_b7 rec7 85 ((k + 1 : Nat) : Int) j (a : Int) S = rec7 85 (k : Int) j ((a + 1 : Nat) : Int) S := by
  have hT := hC.2.2.2.2.1
  have hl := fW_T h
  have e : nk_w (((k + 1 : Nat) : Int) + -1) = (k : Int) := by
    rw [show ((k + 1 : Nat) : Int) + -1 = (k : Int) by omega]
    exact w_n0 (by omega)
  unfold ja_X6_walkMembers_b7
  rw [jc_85_0, hC.2.2.2.1, if_neg (show ¬ (tx.length : Int) ≤ (a : Int) by omega), c_at0 hC, bd_some, if_neg (show ¬ cw _ _ _ = 57 from cw_ne hC (w := 57) (by decide) (br_ex2 h)), if_pos (show cw _ _ _ = 58 from (cw_iff hC (w := 58) (by decide) a).mpr h), lt_eq, e, wm_114 (by omega)]
theorem wm_NB {S : nk_S} (hC : CF S tx c) {k : Nat} {j : Int} (hk : 2 ≤ k) : ∀ (e a b m : Nat), a + e = b → b ≤ tx.length → NB tx a b → ja_X6_walkMembers_L7 (m + e) 85 (k : Int) j (a : Int) S = ja_X6_walkMembers_L7 m 85 (k : Int) j (b : Int) S := by
  intro e
  induction e with
  | zero =>
    intro a b m h1 h2 h3
    obtain rfl : a = b := by omega
    rfl
  | succ e ih =>
    intro a b m h1 h2 h3
    show ja_X6_walkMembers_b7 (ja_X6_walkMembers_L7 (m + e)) 85 (k : Int) j (a : Int) S = _
    rw [wm_n hC (by omega) (h3 a (by omega) (by omega)) hk]
    exact ih (a + 1) b m (by omega) h2 (fun i x y => h3 i (by omega) y)
/-- a body's braces are passed over -/
theorem wm_over {S : nk_S} (hC : CF S tx c) {j : Int} {o e m : Nat} (h2 : o < e) (h3 : e < tx.length) (n2 : fW tx 57 o = true) (n3 : NB tx (o + 1) e) (n4 : fW tx 58 e = true) : ja_X6_walkMembers_L7 (m + (e + 1 - o)) 85 1 j (o : Int) S = ja_X6_walkMembers_L7 m 85 1 j ((e + 1 : Nat) : Int) S := by
  rw [show m + (e + 1 - o) = (m + 1 + (e - (o + 1))) + 1 by omega]
  show ja_X6_walkMembers_b7 (ja_X6_walkMembers_L7 (m + 1 + (e - (o + 1)))) 85 ((1 : Nat) : Int) j (o : Int) S = _
  rw [wm_o hC (by omega) n2, wm_NB hC (k := 1 + 1) (by omega) (e - (o + 1)) (o + 1) e _ (by omega) (by omega) n3]
  show ja_X6_walkMembers_b7 (ja_X6_walkMembers_L7 m) 85 ((1 + 1 : Nat) : Int) j (e : Int) S = _
  rw [wm_c hC (by omega) n4]
  rfl
end CFD
