/-! The reference compares: ordered. -/
section ROR
variable {F : Int → Prop} {dn up : Int → Int} {S : nk_S} {P n : Nat}
theorem min_lg (a c : Int) (T : nk_S) : ja_J9_min_f86c9 a c T = some (min a c, T) := by
  unfold ja_J9_min_f86c9
  split
  · first | rw [show min a c = c by omega] | rw [show min a c = a by omega]
  · first | rw [show min a c = a by omega] | rw [show min a c = c by omega]
theorem max_lg (a c : Int) (T : nk_S) : ja_J9_max_f86c9 a c T = some (max a c, T) := by
  unfold ja_J9_max_f86c9
  split
  · first | rw [show max a c = c by omega] | rw [show max a c = a by omega]
  · first | rw [show max a c = a by omega] | rw [show max a c = c by omega]
theorem dnF_s (hT : thG F dn up) {v : Int} (h : F v) : dn v = v ∧ up v = v := by
  obtain ⟨g1, -, -, -, -, -, g7, g8⟩ := hT
  have := g1 v h
  obtain ⟨-, a2, a3⟩ := g7 v (by omega)
  obtain ⟨-, b2, b3⟩ := g8 v (by omega)
  have := a3 v h (Int.le_refl _)
  have := b3 v h (Int.le_refl _)
  omega
/-- the facts of an order -/
def oFa (less : Bool) (fa fc : Nat → Bool) (cp : Option Nat) : Nat → Bool := fun j => fa j || (decide (j < 24) && fc j) || (less && decide (12 ≤ j) && decide (j < 24) && fc (j + 12)) || (less && oOn cp 0 j)
theorem r_ordE {t a b : Nat} {u : jQ} (ha : a < t) (hb : b < t) (hne : a ≠ b) (hr : rRw S t u) {T : nk_S} {l h : Int} {g : Nat → Bool} (h25 : T.1 121 25 = S.1 121 25) (ho : ∀ c k, k ≠ a → k ≠ b → T.1 c k = S.1 c k) (a0 : ∀ c, c ≠ 231 → c ≠ 234 → c ≠ 235 → T.1 c a = S.1 c a) (a1 : T.1 231 a = h) (a5 : mI (T.1 234 a) g 0) (a6 : mI (T.1 235 a) g 12) (a7 : mI (S.1 236 a) g 24) (a8 : mI (S.1 237 a) g 36) (b0 : ∀ c, c ≠ 230 → T.1 c b = S.1 c b) (b1 : T.1 230 b = l) : rRw T t (qUp (qUp u a (wFc (wRg (u a) ((u a).2.1.1, h)) g)) b (wRg (u b) (l, (u b).2.1.2))) := by
  refine ⟨by rw [h25]; exact hr.1, fun j hj => ?_⟩
  by_cases eb : j = b
  · rw [eb, qUp_at]
    obtain ⟨z0, z1, z2, z3, z4, z5, z6, z7, z8⟩ := hr.2 b hb
    refine ⟨?_, b1, ?_, ?_, ?_, ?_, ?_, ?_, ?_⟩
    · show T.1 229 b = _
      rw [b0 229 (by decide)]; exact z0
    · show T.1 231 b = _
      rw [b0 231 (by decide)]; exact z2
    · show cV (T.1 232 b) _
      rw [b0 232 (by decide)]; exact z3
    · show T.1 233 b = _
      rw [b0 233 (by decide)]; exact z4
    · show mI (T.1 234 b) _ 0
      rw [b0 234 (by decide)]; exact z5
    · show mI (T.1 235 b) _ 12
      rw [b0 235 (by decide)]; exact z6
    · show mI (T.1 236 b) _ 24
      rw [b0 236 (by decide)]; exact z7
    · show mI (T.1 237 b) _ 36
      rw [b0 237 (by decide)]; exact z8
  · rw [qUp_ne eb]
    by_cases ea : j = a
    · rw [ea, qUp_at]
      refine rSo_n (hr.2 a ha) (a0 229 (by decide) (by decide) (by decide)) ?_ a1 (a0 232 (by decide) (by decide) (by decide)) (a0 233 (by decide) (by decide) (by decide)) a5 a6 ?_ ?_
      · rw [a0 230 (by decide) (by decide) (by decide)]; exact (hr.2 a ha).2.1
      · rw [a0 236 (by decide) (by decide) (by decide)]; exact a7
      · rw [a0 237 (by decide) (by decide) (by decide)]; exact a8
    · rw [qUp_ne ea]
      exact rSo_c (fun q _ => ho _ _ ea eb) (hr.2 j hj)
theorem r_order (hP : P = 122 ∨ P = 168) (hT : thG F dn up) (ht : rTn S P n F) (hn : n ≤ 3079) {t a b : Nat} {u : jQ} (hu : ∀ k, wOk F (u k)) (ha : a < t) (hb : b < t) (hne : a ≠ b) (h24 : t ≤ 24) (hr : rRw S t u) (fa : rOk F (u a).2.1) (fb : rOk F (u b).2.1) (less : Bool) : ∃ S', ja_X13_ordered 121 P (a : Int) (b : Int) (bi less) S = some (bi (pOrd dn up u a b less).isSome, S') ∧ uFr S S' ∧ ∀ w, pOrd dn up u a b less = some w → rRw S' t w := by
  have g1 := hT.1
  have i1 := g1 _ fa.1
  have i2 := g1 _ fa.2.1
  have i3 := g1 _ fb.1
  have i4 := g1 _ fb.2.1
  obtain ⟨z0, z1, z2, z3, z4, z5, z6, z7, z8⟩ := hr.2 a ha
  obtain ⟨y0, y1, y2, y3, y4, y5, y6, y7, y8⟩ := hr.2 b hb
  have z1' : S.1 230 a = (u a).2.1.1 := z1
  have z2' : S.1 231 a = (u a).2.1.2 := z2
  have y1' : S.1 230 b = (u b).2.1.1 := y1
  have y2' : S.1 231 b = (u b).2.1.2 := y2
  have y4' : S.1 233 b = cpI (u b).2.2.2.1 := y4
  have hst : (if less = true then (1 : Int) else 0) = bi less := by cases less <;> rfl
  have b01 : bi less = 0 ∨ bi less = 1 := bi_01 less
  obtain ⟨h, hh⟩ : ∃ h, h = min (u a).2.1.2 ((u b).2.1.2 - bi less) := ⟨_, rfl⟩
  obtain ⟨l, hl⟩ : ∃ l, l = max (u b).2.1.1 ((u a).2.1.1 + bi less) := ⟨_, rfl⟩
  have hp : pOrd dn up u a b less = if h < (u a).2.1.1 then none else if (u b).2.1.2 < l then none else some (qUp (qUp u a (wFc (wRg (u a) ((u a).2.1.1, up h)) (oFa less (u a).2.2.2.2 (u b).2.2.2.2 (u b).2.2.2.1))) b (wRg (u b) (dn l, (u b).2.1.2))) := by
    have c1 : kCut dn up (u a).2.1 (-2147483648) ((u b).2.1.2 - bi less) = if h < (u a).2.1.1 then none else some ((u a).2.1.1, up h) := by
      unfold kCut
      rw [show max (u a).2.1.1 (-2147483648) = (u a).2.1.1 by omega, ← hh]
      by_cases c : h < (u a).2.1.1
      · rw [if_pos c, if_pos c]
      · rw [if_neg c, if_neg c]
        unfold rAr
        rw [if_neg (by omega), (dnF_s hT fa.1).1]
    have c2 : kCut dn up (u b).2.1 ((u a).2.1.1 + bi less) 2147483647 = if (u b).2.1.2 < l then none else some (dn l, (u b).2.1.2) := by
      unfold kCut
      rw [show min (u b).2.1.2 2147483647 = (u b).2.1.2 by omega, ← hl]
      by_cases c : (u b).2.1.2 < l
      · rw [if_pos c, if_pos c]
      · rw [if_neg c, if_neg c]
        unfold rAr
        rw [if_neg (by omega), (dnF_s hT fb.2.1).2]
    unfold pOrd
    rw [hst, c1, c2]
    by_cases c : h < (u a).2.1.1
    · rw [if_pos c, if_pos c]
    · rw [if_neg c, if_neg c]
      by_cases c' : (u b).2.1.2 < l
      · rw [if_pos c', if_pos c']
      · rw [if_neg c', if_neg c']
        rfl
  unfold ja_X13_ordered
  rw [if_pos (in_i (N := 24) (by omega)), if_pos (in_i (N := 24) (by omega)), jc_121_27, jc_121_28, Int.toNat_natCast, Int.toNat_natCast, z2', y2', W_id (by unfold lR; omega), min_lg, bd_some, y1', z1', W_id (by unfold lR; omega), max_lg, bd_some, ← hh, ← hl, hp, z1']
  by_cases c : h < (u a).2.1.1
  · rw [if_pos c, if_pos c]
    exact ⟨S, rfl, uFr_rfl, fun w q => by cases q⟩
  rw [if_neg c, if_neg c]
  unfold ja_X13_ordered_b59
  rw [if_pos (in_i (N := 24) (by omega)), jc_121_27, jc_121_28, jc_121_30, jc_121_31, jc_121_32, Int.toNat_natCast, Int.toNat_natCast, y2']
  by_cases c' : (u b).2.1.2 < l
  · rw [if_pos c', if_neg (by omega)]
    exact ⟨S, rfl, uFr_rfl, fun w q => by cases q⟩
  rw [if_neg c', if_pos (by omega), (r_thr hP hT ht hn (v := h)).2 (by omega), bd_some, if_pos (in_i (N := 24) (by omega)), lt_eq, (r_thr hP hT (rTn_c (S := S) (fun x h1 _ => wi_n (by omega)) hP ht) hn (v := l)).1 (by omega), bd_some, lt_eq]
  obtain ⟨T2, hT2⟩ : ∃ T2, T2 = nk_wi (nk_wi S 231 a (up h)) 230 b (dn l) := ⟨_, rfl⟩
  rw [← hT2]
  have m2 : ∀ x, x ≠ 230 → x ≠ 231 → T2.1 x = S.1 x := fun x h1 h2 => by rw [hT2, wi_n h1, wi_n h2]
  rw [m2 234 (by decide) (by decide), lt_eq, wi_n (b := 235) (by decide), m2 235 (by decide) (by decide), lt_eq]
  obtain ⟨T4, hT4⟩ : ∃ T4, T4 = nk_wi (nk_wi T2 234 a (nk_ior (S.1 234 a) (S.1 234 b))) 235 a (nk_ior (S.1 235 a) (S.1 235 b)) := ⟨_, rfl⟩
  rw [← hT4]
  have rd : ∀ x k, T4.1 x k = (if x = 235 ∧ k = a then nk_ior (S.1 235 a) (S.1 235 b) else if x = 234 ∧ k = a then nk_ior (S.1 234 a) (S.1 234 b) else if x = 230 ∧ k = b then dn l else if x = 231 ∧ k = a then up h else S.1 x k) := fun x k => by
    rw [hT4, wi_v, wi_v, hT2, wi_v, wi_v]
  have o0 : mI (nk_ior (S.1 234 a) (S.1 234 b)) (sOr (u a).2.2.2.2 (u b).2.2.2.2) 0 := mI_or z5 y5
  have o12 : mI (nk_ior (S.1 235 a) (S.1 235 b)) (sOr (u a).2.2.2.2 (u b).2.2.2.2) 12 := mI_or z6 y6
  have f4 : uFr S T4 := ⟨by rw [hT4, hT2]; rfl, fun x h1 _ => by funext k; rw [rd]; simp [show x ≠ 235 by omega, show x ≠ 234 by omega, show x ≠ 231 by omega, show x ≠ 230 by omega], fun f _ => by rw [rd]; simp⟩
  cases less with
  | false =>
    refine ⟨T4, by rw [if_neg (show ¬ bi false = 1 by decide)]; rfl, f4, fun w q => ?_⟩
    cases q
    have m0 : mI (nk_ior (S.1 234 a) (S.1 234 b)) (oFa false (u a).2.2.2.2 (u b).2.2.2.2 (u b).2.2.2.1) 0 := mI_f o0 (fun j hj => by
      unfold oFa sOr
      rw [decide_eq_true (p := 0 + j < 24) (by omega), Bool.true_and, Bool.false_and, Bool.false_and, Bool.false_and, Bool.false_and, Bool.or_false, Bool.or_false])
    have m12 : mI (nk_ior (S.1 235 a) (S.1 235 b)) (oFa false (u a).2.2.2.2 (u b).2.2.2.2 (u b).2.2.2.1) 12 := mI_f o12 (fun j hj => by
      unfold oFa sOr
      rw [decide_eq_true (p := 12 + j < 24) (by omega), Bool.true_and, Bool.false_and, Bool.false_and, Bool.false_and, Bool.false_and, Bool.or_false, Bool.or_false])
    have m24 : mI (S.1 236 a) (oFa false (u a).2.2.2.2 (u b).2.2.2.2 (u b).2.2.2.1) 24 := mI_f z7 (fun j hj => by
      unfold oFa
      rw [decide_eq_false (p := 24 + j < 24) (by omega), Bool.false_and, Bool.false_and, Bool.false_and, Bool.false_and, Bool.false_and, Bool.or_false, Bool.or_false, Bool.or_false])
    have m36 : mI (S.1 237 a) (oFa false (u a).2.2.2.2 (u b).2.2.2.2 (u b).2.2.2.1) 36 := mI_f z8 (fun j hj => by
      unfold oFa
      rw [decide_eq_false (p := 36 + j < 24) (by omega), Bool.false_and, Bool.false_and, Bool.false_and, Bool.false_and, Bool.false_and, Bool.or_false, Bool.or_false, Bool.or_false])
    exact r_ordE ha hb hne hr (by rw [rd]; simp) (fun x k h1 h2 => by rw [rd]; simp [h1, h2]) (fun x h1 h2 h3 => by rw [rd]; simp [h1, h2, h3, hne]) (by rw [rd]; simp) (by rw [rd, if_neg (by omega), if_pos ⟨rfl, rfl⟩]; exact m0) (by rw [rd, if_pos ⟨rfl, rfl⟩]; exact m12) m24 m36 (fun x h1 => by rw [rd]; simp [h1, hne.symm]) (by rw [rd]; simp)
  | true =>
    have t33 : T4.1 233 b = cpI (u b).2.2.2.1 := by rw [rd]; simp; exact y4'
    have y7s : mI (S.1 236 b) (fun j => (u b).2.2.2.2 (j + 12)) 12 := cI_e y7 (fun j => by
      show (decide (j < 12) && (u b).2.2.2.2 (24 + j)) = (decide (j < 12) && (u b).2.2.2.2 (12 + j + 12))
      rw [show 24 + j = 12 + j + 12 by omega])
    have o12' := mI_or o12 y7s
    -- the last fact
    have last : ∀ (T5 : nk_S) (L : Int), (∀ x k, T5.1 x k = if x = 234 ∧ k = a then L else T4.1 x k) → T5.2 = S.2 → mI L (oFa true (u a).2.2.2.2 (u b).2.2.2.2 (u b).2.2.2.1) 0 → ∃ S', ja_X13_ordered_b160 121 (a : Int) (b : Int) T5 = some (1, S') ∧ uFr S S' ∧ rRw S' t (qUp (qUp u a (wFc (wRg (u a) ((u a).2.1.1, up h)) (oFa true (u a).2.2.2.2 (u b).2.2.2.2 (u b).2.2.2.1))) b (wRg (u b) (dn l, (u b).2.1.2))) := by
      intro T5 L r5 t5 hL
      obtain ⟨T6, hT6⟩ : ∃ T6, T6 = nk_wi T5 235 a (nk_ior (nk_ior (S.1 235 a) (S.1 235 b)) (S.1 236 b)) := ⟨_, rfl⟩
      have r6 : ∀ x k, T6.1 x k = (if x = 235 ∧ k = a then nk_ior (nk_ior (S.1 235 a) (S.1 235 b)) (S.1 236 b) else if x = 234 ∧ k = a then L else T4.1 x k) := fun x k => by rw [hT6, wi_v, r5]
      refine ⟨T6, ?_, ⟨by rw [hT6]; exact t5, fun x h1 _ => by funext k; rw [r6, rd]; simp [show x ≠ 235 by omega, show x ≠ 234 by omega, show x ≠ 231 by omega, show x ≠ 230 by omega], fun f _ => by rw [r6, rd]; simp⟩, ?_⟩
      · have e1 : T5.1 235 a = nk_ior (S.1 235 a) (S.1 235 b) := by rw [r5, rd]; simp
        have e2 : T5.1 236 b = S.1 236 b := by rw [r5, rd]; simp
        unfold ja_X13_ordered_b160
        rw [if_pos (in_i (N := 24) (by omega)), if_pos (in_i (N := 24) (by omega)), jc_121_32, jc_121_33, Int.toNat_natCast, Int.toNat_natCast, lt_eq, e1, e2, ← hT6]
      · have hq : ∀ j, 12 ≤ j → oOn (u b).2.2.2.1 0 j = false := fun j hj => by
          cases hc : (u b).2.2.2.1 with
          | none => rfl
          | some k => have := (hu b).1 k hc; exact decide_eq_false (by omega)
        have m12 : mI (nk_ior (nk_ior (S.1 235 a) (S.1 235 b)) (S.1 236 b)) (oFa true (u a).2.2.2.2 (u b).2.2.2.2 (u b).2.2.2.1) 12 := mI_f o12' (fun j hj => by
          show (((u a).2.2.2.2 (12 + j) || (u b).2.2.2.2 (12 + j)) || (u b).2.2.2.2 (12 + j + 12)) = _
          unfold oFa
          rw [hq _ (by omega), decide_eq_true (p := 12 + j < 24) (by omega), decide_eq_true (p := 12 ≤ 12 + j) (by omega), Bool.true_and, Bool.true_and, Bool.true_and, Bool.true_and, Bool.and_false, Bool.or_false])
        have m24 : mI (S.1 236 a) (oFa true (u a).2.2.2.2 (u b).2.2.2.2 (u b).2.2.2.1) 24 := mI_f z7 (fun j hj => by
          unfold oFa
          rw [hq _ (by omega), decide_eq_false (p := 24 + j < 24) (by omega), Bool.false_and, Bool.and_false, Bool.false_and, Bool.and_false, Bool.or_false, Bool.or_false, Bool.or_false])
        have m36 : mI (S.1 237 a) (oFa true (u a).2.2.2.2 (u b).2.2.2.2 (u b).2.2.2.1) 36 := mI_f z8 (fun j hj => by
          unfold oFa
          rw [hq _ (by omega), decide_eq_false (p := 36 + j < 24) (by omega), Bool.false_and, Bool.and_false, Bool.false_and, Bool.and_false, Bool.or_false, Bool.or_false, Bool.or_false])
        exact r_ordE ha hb hne hr (by rw [r6, rd]; simp) (fun x k h1 h2 => by rw [r6, rd]; simp [h1, h2]) (fun x h1 h2 h3 => by rw [r6, rd]; simp [h1, h2, h3, hne]) (by rw [r6, rd]; simp) (by rw [r6, if_neg (by omega), if_pos ⟨rfl, rfl⟩]; exact hL) (by rw [r6, if_pos ⟨rfl, rfl⟩]; exact m12) m24 m36 (fun x h1 => by rw [r6, rd]; simp [h1, hne.symm]) (by rw [r6, rd]; simp)
    rw [if_pos (show bi true = 1 from rfl), t33]
    cases hc : (u b).2.2.2.1 with
    | none =>
      rw [hc] at last
      rw [if_pos (show cpI none < 0 by decide)]
      obtain ⟨S', s1, s2, s3⟩ := last T4 (nk_ior (S.1 234 a) (S.1 234 b)) (fun x k => by
        by_cases q : x = 234 ∧ k = a
        · rw [if_pos q, q.1, q.2, rd]; simp
        · rw [if_neg q]) f4.1 (mI_f o0 (fun j hj => by
        unfold oFa sOr
        rw [decide_eq_true (p := 0 + j < 24) (by omega), decide_eq_false (p := 12 ≤ 0 + j) (by omega), Bool.true_and, Bool.true_and, Bool.false_and, Bool.false_and, Bool.or_false, Bool.true_and]
        show _ = (_ || false)
        rw [Bool.or_false]))
      exact ⟨S', by rw [s1]; rfl, s2, fun w q => by cases q; exact s3⟩
    | some k =>
      rw [hc] at last
      have hk := (hu b).1 k hc
      rw [if_neg (show ¬ cpI (some k) < 0 by show ¬ (k : Int) < 0; omega), lt_eq]
      have e234 : T4.1 234 a = nk_ior (S.1 234 a) (S.1 234 b) := by rw [rd]; simp
      have hon : mI (nk_ishl 1 (k : Int)) (onS k) 0 := cI_e (cI_on12 hk) (fun j => by
        show decide (j = k) = (decide (j < 12) && decide (0 + j = k))
        by_cases q : j = k
        · rw [decide_eq_true q, decide_eq_true (by omega), decide_eq_true (by omega)]; rfl
        · rw [decide_eq_false q, decide_eq_false (p := 0 + j = k) (by omega), Bool.and_false])
      obtain ⟨S', s1, s2, s3⟩ := last (nk_wi T4 234 a (nk_ior (T4.1 234 a) (nk_ishl 1 (cpI (some k))))) (nk_ior (nk_ior (S.1 234 a) (S.1 234 b)) (nk_ishl 1 (k : Int))) (fun x k' => by rw [wi_v, e234]; rfl) f4.1 (mI_f (mI_or o0 hon) (fun j hj => by
        show (((u a).2.2.2.2 (0 + j) || (u b).2.2.2.2 (0 + j)) || decide (0 + j = k)) = _
        unfold oFa
        show _ = ((u a).2.2.2.2 (0 + j) || (decide (0 + j < 24) && (u b).2.2.2.2 (0 + j)) || (true && decide (12 ≤ 0 + j) && decide (0 + j < 24) && (u b).2.2.2.2 (0 + j + 12)) || (true && decide (0 + j = 0 + k)))
        rw [decide_eq_true (p := 0 + j < 24) (by omega), decide_eq_false (p := 12 ≤ 0 + j) (by omega), decide_eq_decide.mpr (show 0 + j = 0 + k ↔ 0 + j = k by omega)]
        cases (u a).2.2.2.2 (0 + j) <;> cases (u b).2.2.2.2 (0 + j) <;> cases decide (0 + j = k) <;> rfl))
      exact ⟨S', by rw [s1]; rfl, s2, fun w q => by cases q; exact s3⟩
end ROR
