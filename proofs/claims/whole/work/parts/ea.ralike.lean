/-! The reference compares: alike. -/
section RAL
variable {F : Int → Prop} {S : nk_S}
/-- a slot whose range and first facts are new -/
theorem rSo_n {T : nk_S} {k : Nat} {w : jW} {l h : Int} {g : Nat → Bool} (hw : rSo S rWk k w) (c0 : T.1 229 k = S.1 229 k) (c1 : T.1 230 k = l) (c2 : T.1 231 k = h) (c3 : T.1 232 k = S.1 232 k) (c4 : T.1 233 k = S.1 233 k) (c5 : mI (T.1 234 k) g 0) (c6 : mI (T.1 235 k) g 12) (c7 : mI (T.1 236 k) g 24) (c8 : mI (T.1 237 k) g 36) : rSo T rWk k (wFc (wRg w (l, h)) g) := by
  obtain ⟨z0, z1, z2, z3, z4, -⟩ := hw
  refine ⟨?_, c1, c2, ?_, ?_, c5, c6, c7, c8⟩
  · show T.1 229 k = _
    rw [c0]; exact z0
  · show cV (T.1 232 k) _
    rw [c3]; exact z3
  · show T.1 233 k = _
    rw [c4]; exact z4
theorem r_alike {t a b : Nat} {u : jQ} (ha : a < t) (hb : b < t) (hne : a ≠ b) (ht : t ≤ 24) (hr : rRw S t u) : ∃ S', ja_X13_alike 121 (a : Int) (b : Int) S = some (bi (pEq u a b).isSome, S') ∧ uFr S S' ∧ ∀ w, pEq u a b = some w → rRw S' t w := by
  have qa := hr.2 a ha
  have qb := hr.2 b hb
  obtain ⟨z0, z1, z2, z3, z4, z5, z6, z7, z8⟩ := id qa
  obtain ⟨y0, y1, y2, y3, y4, y5, y6, y7, y8⟩ := id qb
  have z1' : S.1 230 a = (u a).2.1.1 := z1
  have y1' : S.1 230 b = (u b).2.1.1 := y1
  have z2' : S.1 231 a = (u a).2.1.2 := z2
  have y2' : S.1 231 b = (u b).2.1.2 := y2
  have hp : pEq u a b = if min (u a).2.1.2 (u b).2.1.2 < max (u a).2.1.1 (u b).2.1.1 then none else some (qUp (qUp u a (wFc (wRg (u a) (max (u a).2.1.1 (u b).2.1.1, min (u a).2.1.2 (u b).2.1.2)) (sOr (u a).2.2.2.2 (iS (sOr (u a).2.2.2.2 (u b).2.2.2.2))))) b (wFc (wRg (u b) (max (u a).2.1.1 (u b).2.1.1, min (u a).2.1.2 (u b).2.1.2)) (sOr (u b).2.2.2.2 (iS (sOr (u a).2.2.2.2 (u b).2.2.2.2))))) := by
    unfold pEq kCom
    by_cases c : min (u a).2.1.2 (u b).2.1.2 < max (u a).2.1.1 (u b).2.1.1
    · rw [if_pos c, if_pos c]
    · rw [if_neg c, if_neg c]
  unfold ja_X13_alike
  rw [if_pos (in_i (N := 24) (by omega)), if_pos (in_i (N := 24) (by omega)), jc_121_27, jc_121_28, Int.toNat_natCast, Int.toNat_natCast, z1', y1', max_i, bd_some, z2', y2', min_i, bd_some, hp]
  obtain ⟨l, hl⟩ : ∃ l, l = max (u a).2.1.1 (u b).2.1.1 := ⟨_, rfl⟩
  obtain ⟨h, hh⟩ : ∃ h, h = min (u a).2.1.2 (u b).2.1.2 := ⟨_, rfl⟩
  rw [← hl, ← hh]
  by_cases c : h < l
  · rw [if_pos c, if_neg (by omega)]
    exact ⟨S, rfl, uFr_rfl, fun w q => by cases q⟩
  · rw [if_neg c, if_pos (by omega)]
    obtain ⟨T, hT⟩ : ∃ T, T = nk_wi (nk_wi (nk_wi (nk_wi (nk_wi (nk_wi (nk_wi (nk_wi (nk_wi (nk_wi S 230 a l) 230 b l) 231 a h) 231 b h) 234 a (nk_ior (S.1 234 a) (S.1 234 b))) 235 a (nk_ior (S.1 235 a) (S.1 235 b))) 236 a (nk_ior (S.1 236 a) (S.1 236 b))) 234 b (nk_ior (S.1 234 a) (S.1 234 b))) 235 b (nk_ior (S.1 235 a) (S.1 235 b))) 236 b (nk_ior (S.1 236 a) (S.1 236 b)) := ⟨_, rfl⟩
    have hx : ja_X13_alike_b41 121 (a : Int) (b : Int) l h S = some (1, T) := by
      unfold ja_X13_alike_b41
      rw [if_pos (in_i (N := 24) (by omega)), lt_eq, if_pos (in_i (N := 24) (by omega)), jc_121_27, jc_121_28, jc_121_31, jc_121_32, jc_121_33, Int.toNat_natCast, Int.toNat_natCast]
      simp only [lt_eq]
      rw [hT]
      simp [wi_v, hne]
    have rd : ∀ c k, T.1 c k = (if c = 236 ∧ k = b then nk_ior (S.1 236 a) (S.1 236 b) else if c = 235 ∧ k = b then nk_ior (S.1 235 a) (S.1 235 b) else if c = 234 ∧ k = b then nk_ior (S.1 234 a) (S.1 234 b) else if c = 236 ∧ k = a then nk_ior (S.1 236 a) (S.1 236 b) else if c = 235 ∧ k = a then nk_ior (S.1 235 a) (S.1 235 b) else if c = 234 ∧ k = a then nk_ior (S.1 234 a) (S.1 234 b) else if c = 231 ∧ k = b then h else if c = 231 ∧ k = a then h else if c = 230 ∧ k = b then l else if c = 230 ∧ k = a then l else S.1 c k) := fun c k => by
      rw [hT, wi_v, wi_v, wi_v, wi_v, wi_v, wi_v, wi_v, wi_v, wi_v, wi_v]
    refine ⟨T, by rw [hx]; rfl, ⟨by rw [hT]; rfl, fun c h1 _ => by funext k; rw [rd]; simp [show c ≠ 236 by omega, show c ≠ 235 by omega, show c ≠ 234 by omega, show c ≠ 231 by omega, show c ≠ 230 by omega], fun f _ => by rw [rd]; simp⟩, fun w q => ?_⟩
    cases q
    have iA : ∀ o, o ≤ 24 → ∀ j, j < 12 → sOr (u a).2.2.2.2 (u b).2.2.2.2 (o + j) = sOr (u a).2.2.2.2 (iS (sOr (u a).2.2.2.2 (u b).2.2.2.2)) (o + j) := fun o ho j hj => by
      show (_ || _) = (_ || (decide (o + j < 36) && (_ || _)))
      rw [decide_eq_true (by omega), Bool.true_and]
      cases (u a).2.2.2.2 (o + j) <;> rfl
    have iB : ∀ o, o ≤ 24 → ∀ j, j < 12 → sOr (u a).2.2.2.2 (u b).2.2.2.2 (o + j) = sOr (u b).2.2.2.2 (iS (sOr (u a).2.2.2.2 (u b).2.2.2.2)) (o + j) := fun o ho j hj => by
      show (_ || _) = (_ || (decide (o + j < 36) && (_ || _)))
      rw [decide_eq_true (by omega), Bool.true_and]
      cases (u a).2.2.2.2 (o + j) <;> cases (u b).2.2.2.2 (o + j) <;> rfl
    have i36 : ∀ f g : Nat → Bool, ∀ j, j < 12 → f (36 + j) = sOr f (iS g) (36 + j) := fun f g j hj => by
      show _ = (_ || (decide (36 + j < 36) && _))
      rw [decide_eq_false (by omega), Bool.false_and, Bool.or_false]
    refine ⟨by rw [rd]; simp; exact hr.1, fun j hj => ?_⟩
    by_cases eb : j = b
    · rw [eb, qUp_at]
      refine rSo_n qb (by rw [rd]; simp) (by rw [rd]; simp) (by rw [rd]; simp) (by rw [rd]; simp) (by rw [rd]; simp) ?_ ?_ ?_ ?_
      · rw [rd]; simp
        exact mI_f (mI_or z5 y5) (iB 0 (by omega))
      · rw [rd]; simp
        exact mI_f (mI_or z6 y6) (iB 12 (by omega))
      · rw [rd]; simp
        exact mI_f (mI_or z7 y7) (iB 24 (by omega))
      · rw [rd]; simp
        exact mI_f y8 (i36 _ _)
    · rw [qUp_ne eb]
      by_cases ea : j = a
      · rw [ea, qUp_at]
        refine rSo_n qa (by rw [rd]; simp) (by rw [rd]; simp [hne]) (by rw [rd]; simp [hne]) (by rw [rd]; simp) (by rw [rd]; simp) ?_ ?_ ?_ ?_
        · rw [rd]; simp [hne]
          exact mI_f (mI_or z5 y5) (iA 0 (by omega))
        · rw [rd]; simp [hne]
          exact mI_f (mI_or z6 y6) (iA 12 (by omega))
        · rw [rd]; simp [hne]
          exact mI_f (mI_or z7 y7) (iA 24 (by omega))
        · rw [rd]; simp
          exact mI_f z8 (i36 _ _)
      · rw [qUp_ne ea]
        exact rSo_c (fun q _ => by rw [rd]; simp [ea, eb]) (hr.2 j hj)
end RAL
