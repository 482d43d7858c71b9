/-! The reference leaves ranges and sites. -/
section RLV
variable {F : Int → Prop} {dn up : Int → Int} {S : nk_S} {P n : Nat}
theorem wFo_trans {k : Nat} {S1 S2 S3 : nk_S} (h : wFo k S1 S2) (q : wFo k S2 S3) : wFo k S1 S3 := ⟨q.1.trans h.1, fun a r => (q.2.1 a r).trans (h.2.1 a r), fun a j r => (q.2.2 a j r).trans (h.2.2 a j r)⟩
theorem wFo_wi {a k : Nat} {x : Int} (h : 229 ≤ a ∧ a ≤ 237) : wFo k S (nk_wi S a k x) := ⟨rfl, fun c hc => wi_n (by omega), fun c j hj => by rw [wi_v, if_neg (fun q => hj q.2)]⟩
theorem r_range (hP : P = 122 ∨ P = 168) (hT : thG F dn up) (ht : rTn S P n F) (hn : n ≤ 3079) {s : Nat} (hs : s < 24) {l h : Int} (hl : l ≤ 2147483647 ∨ 2147483647 < h) (hh : -2147483648 ≤ h ∨ l < -2147483648) : ∃ S', ja_X13_range 121 P (s : Int) l h S = some (0, S') ∧ wFo s S S' ∧ rSo S' rWk s (wR (rAr dn up l h)) := by
  obtain ⟨q1, q2⟩ := r_clear (S := S) hs
  obtain ⟨T, hT0⟩ : ∃ T, T = w9 S 229 s wU9 := ⟨_, rfl⟩
  rw [← hT0] at q1 q2
  have fT : wFo s S T := by rw [hT0]; exact w9_f
  have b1 : nk_i2b 1 = 1 := by decide
  -- what is written
  have wr : ∀ a b : Int, rSo (nk_wi (nk_wi (nk_wi T 229 s 1) 230 s a) 231 s b) rWk s (wR (a, b)) := fun a b => by
    obtain ⟨z0, z1, z2, z3, z4, z5, z6, z7, z8⟩ := q2
    refine ⟨?_, ?_, ?_, ?_, ?_, ?_, ?_, ?_, ?_⟩
    · show (nk_wi (nk_wi (nk_wi T 229 s 1) 230 s a) 231 s b).1 229 s = 1
      rw [wi_n (by decide), wi_n (by decide), wi_at, if_pos rfl]
    · show (nk_wi (nk_wi (nk_wi T 229 s 1) 230 s a) 231 s b).1 230 s = a
      rw [wi_n (by decide), wi_at, if_pos rfl]
    · show (nk_wi (nk_wi (nk_wi T 229 s 1) 230 s a) 231 s b).1 231 s = b
      rw [wi_at, if_pos rfl]
    · show cV ((nk_wi (nk_wi (nk_wi T 229 s 1) 230 s a) 231 s b).1 232 s) noS
      rw [wi_n (by decide), wi_n (by decide), wi_n (by decide)]; exact z3
    · show (nk_wi (nk_wi (nk_wi T 229 s 1) 230 s a) 231 s b).1 233 s = -1
      rw [wi_n (by decide), wi_n (by decide), wi_n (by decide)]; exact z4
    · show mI ((nk_wi (nk_wi (nk_wi T 229 s 1) 230 s a) 231 s b).1 234 s) noS 0
      rw [wi_n (by decide), wi_n (by decide), wi_n (by decide)]; exact z5
    · show mI ((nk_wi (nk_wi (nk_wi T 229 s 1) 230 s a) 231 s b).1 235 s) noS 12
      rw [wi_n (by decide), wi_n (by decide), wi_n (by decide)]; exact z6
    · show mI ((nk_wi (nk_wi (nk_wi T 229 s 1) 230 s a) 231 s b).1 236 s) noS 24
      rw [wi_n (by decide), wi_n (by decide), wi_n (by decide)]; exact z7
    · show mI ((nk_wi (nk_wi (nk_wi T 229 s 1) 230 s a) 231 s b).1 237 s) noS 36
      rw [wi_n (by decide), wi_n (by decide), wi_n (by decide)]; exact z8
  have fr : ∀ a b : Int, wFo s S (nk_wi (nk_wi (nk_wi T 229 s 1) 230 s a) 231 s b) := fun a b => wFo_trans fT (wFo_trans (wFo_trans (wFo_wi (by omega)) (wFo_wi (by omega))) (wFo_wi (by omega)))
  have tn : ∀ R : nk_S, (∀ a, a < 229 → R.1 a = T.1 a) → rTn R P n F := fun R hR => by
    unfold rTn at ht ⊢
    rw [hR P (by omega), hR (P + 26) (by omega), fT.2.1 P (by omega), fT.2.1 (P + 26) (by omega)]
    exact ht
  have no : ja_X13_range_b26 121 P (s : Int) l h T = some (0, nk_wi (nk_wi (nk_wi T 229 s 1) 230 s (-2147483648)) 231 s 2147483647) := by
    unfold ja_X13_range_b26 ja_X13_range_b27 ja_X13_range_b57
    rw [if_pos (in_i (N := 24) (by omega)), jc_121_26, jc_121_27, jc_121_28, Int.toNat_natCast, b1, lt_eq, if_pos rfl, if_pos (in_i (N := 24) (by omega)), lt_eq, if_pos rfl, if_pos (in_i (N := 24) (by omega)), lt_eq]
  unfold ja_X13_range
  rw [q1, bd_some]
  by_cases c1 : l < -2147483648
  · rw [if_pos c1, no]
    refine ⟨_, rfl, fr _ _, ?_⟩
    unfold rAr
    rw [if_pos (Or.inl c1)]
    exact wr _ _
  · rw [if_neg c1]
    by_cases c2 : 2147483647 < h
    · rw [if_pos c2, no]
      refine ⟨_, rfl, fr _ _, ?_⟩
      unfold rAr
      rw [if_pos (Or.inr c2)]
      exact wr _ _
    · rw [if_neg c2]
      refine ⟨nk_wi (nk_wi (nk_wi T 229 s 1) 230 s (dn l)) 231 s (up h), ?_, fr _ _, ?_⟩
      · unfold ja_X13_range_b27 ja_X13_range_b57
        rw [if_pos (in_i (N := 24) (by omega)), jc_121_26, jc_121_27, jc_121_28, Int.toNat_natCast, b1, lt_eq, if_neg (by decide), (r_thr hP hT (tn _ (fun a ha => wi_n (by omega))) hn (v := l)).1 (by omega), bd_some, if_pos (in_i (N := 24) (by omega)), lt_eq, if_neg (by decide), (r_thr hP hT (tn _ (fun a ha => by rw [wi_n (by omega), wi_n (by omega)])) hn (v := h)).2 (by omega), bd_some, if_pos (in_i (N := 24) (by omega)), lt_eq]
      · unfold rAr
        rw [if_neg (by omega)]
        exact wr _ _
/-- the working row and its height -/
def uFr (S S' : nk_S) : Prop := S'.2 = S.2 ∧ (∀ a, a < 229 ∨ 237 < a → a ≠ 121 → S'.1 a = S.1 a) ∧ ∀ f, f ≠ 25 → S'.1 121 f = S.1 121 f
theorem uFr_rfl : uFr S S := ⟨rfl, fun _ _ _ => rfl, fun _ _ => rfl⟩
theorem uFr_trans {S1 S2 S3 : nk_S} (h : uFr S1 S2) (q : uFr S2 S3) : uFr S1 S3 := ⟨q.1.trans h.1, fun a r x => (q.2.1 a r x).trans (h.2.1 a r x), fun f r => (q.2.2 f r).trans (h.2.2 f r)⟩
theorem rRw_up {S1 S2 : nk_S} {t : Nat} {u : jQ} {w : jW} (hr : rRw S1 t u) (h25 : S2.1 121 25 = ((t + 1 : Nat) : Int)) (hf : ∀ a i, 229 ≤ a → a ≤ 237 → i ≠ t → S2.1 a i = S1.1 a i) (hw : rSo S2 rWk t w) : rRw S2 (t + 1) (qUp u t w) := by
  refine ⟨h25, fun k hk => ?_⟩
  by_cases e : k = t
  · rw [e, qUp_at]; exact hw
  · rw [qUp_ne e]
    exact rSo_c (fun j hj => hf _ _ (by unfold rWk; omega) (by unfold rWk; omega) e) (hr.2 k (by omega))
theorem r_leaveR (hP : P = 122 ∨ P = 168) (hT : thG F dn up) (ht : rTn S P n F) (hn : n ≤ 3079) {t : Nat} {u : jQ} (h20 : t < 24) (hr : rRw S t u) {l h : Int} (hl : l ≤ 2147483647 ∨ 2147483647 < h) (hh : -2147483648 ≤ h ∨ l < -2147483648) : ∃ S', ja_X13_leaveRange 121 P l h S = some (0, S') ∧ uFr S S' ∧ rRw S' (t + 1) (qUp u t (wR (rAr dn up l h))) := by
  obtain ⟨S1, s1, s2, s3⟩ := r_range hP hT ht hn h20 hl hh
  have e1 : ∀ _ : Unit, nk_w ((t : Int) + 1) = ((t + 1 : Nat) : Int) := fun _ => w_nat1 (by omega)
  refine ⟨nk_wi S1 121 25 ((t + 1 : Nat) : Int), ?_, ⟨s2.1, fun a h1 h2 => by rw [wi_n h2, s2.2.1 a h1], fun f hf => by rw [wi_at, if_neg hf, s2.2.1 121 (by omega)]⟩, rRw_up hr (by rw [wi_at, if_pos rfl]) (fun a i h1 h2 h3 => by rw [wi_n (by omega), s2.2.2 a i h3]) (rSo_c (fun j hj => by rw [wi_n (by unfold rWk; omega)]) s3)⟩
  unfold ja_X13_leaveRange
  rw [hr.1, s1, bd_some, s2.2.1 121 (by omega), hr.1, e1 (), lt_eq]
theorem r_leaveS {t : Nat} {u : jQ} (h20 : t < 24) (hr : rRw S t u) {v : Int} {a : Nat → Bool} (hv : cV v a) : ∃ S', ja_X13_leaveSites 121 v S = some (0, S') ∧ uFr S S' ∧ rRw S' (t + 1) (qUp u t (wS a)) := by
  obtain ⟨q1, q2⟩ := r_clear (S := S) h20
  obtain ⟨T, hT0⟩ : ∃ T, T = w9 S 229 t wU9 := ⟨_, rfl⟩
  rw [← hT0] at q1 q2
  have fT : wFo t S T := by rw [hT0]; exact w9_f
  have b2 : nk_i2b 2 = 2 := by decide
  have e1 : ∀ _ : Unit, nk_w ((t : Int) + 1) = ((t + 1 : Nat) : Int) := fun _ => w_nat1 (by omega)
  obtain ⟨T2, hT2⟩ : ∃ T2, T2 = nk_wi (nk_wi T 229 t 2) 232 t v := ⟨_, rfl⟩
  have f2 : wFo t S T2 := by rw [hT2]; exact wFo_trans fT (wFo_trans (wFo_wi (by omega)) (wFo_wi (by omega)))
  have h2 : rSo T2 rWk t (wS a) := by
    obtain ⟨z0, z1, z2, z3, z4, z5, z6, z7, z8⟩ := q2
    rw [hT2]
    refine ⟨?_, ?_, ?_, ?_, ?_, ?_, ?_, ?_, ?_⟩
    · show (nk_wi (nk_wi T 229 t 2) 232 t v).1 229 t = 2
      rw [wi_n (by decide), wi_at, if_pos rfl]
    · show (nk_wi (nk_wi T 229 t 2) 232 t v).1 230 t = 0
      rw [wi_n (by decide), wi_n (by decide)]; exact z1
    · show (nk_wi (nk_wi T 229 t 2) 232 t v).1 231 t = 0
      rw [wi_n (by decide), wi_n (by decide)]; exact z2
    · show cV ((nk_wi (nk_wi T 229 t 2) 232 t v).1 232 t) a
      rw [wi_at, if_pos rfl]; exact hv
    · show (nk_wi (nk_wi T 229 t 2) 232 t v).1 233 t = -1
      rw [wi_n (by decide), wi_n (by decide)]; exact z4
    · show mI ((nk_wi (nk_wi T 229 t 2) 232 t v).1 234 t) noS 0
      rw [wi_n (by decide), wi_n (by decide)]; exact z5
    · show mI ((nk_wi (nk_wi T 229 t 2) 232 t v).1 235 t) noS 12
      rw [wi_n (by decide), wi_n (by decide)]; exact z6
    · show mI ((nk_wi (nk_wi T 229 t 2) 232 t v).1 236 t) noS 24
      rw [wi_n (by decide), wi_n (by decide)]; exact z7
    · show mI ((nk_wi (nk_wi T 229 t 2) 232 t v).1 237 t) noS 36
      rw [wi_n (by decide), wi_n (by decide)]; exact z8
  have t25 : T.1 121 25 = (t : Int) := by rw [fT.2.1 121 (by omega)]; exact hr.1
  refine ⟨nk_wi T2 121 25 ((t + 1 : Nat) : Int), ?_, ⟨f2.1, fun a h1 h2 => by rw [wi_n h2, f2.2.1 a h1], fun f hf => by rw [wi_at, if_neg hf, f2.2.1 121 (by omega)]⟩, rRw_up hr (by rw [wi_at, if_pos rfl]) (fun a i h1 h2 h3 => by rw [wi_n (by omega), f2.2.2 a i h3]) (rSo_c (fun j hj => by rw [wi_n (by unfold rWk; omega)]) h2)⟩
  unfold ja_X13_leaveSites
  rw [hr.1, q1, bd_some, t25, if_pos (in_i (N := 24) (by omega)), jc_121_26, Int.toNat_natCast, b2, lt_eq, wi_n (b := 121) (by decide), t25, if_pos (in_i (N := 24) (by omega)), jc_121_29, Int.toNat_natCast, lt_eq, ← hT2, f2.2.1 121 (by omega), hr.1, e1 (), lt_eq]
end RLV
