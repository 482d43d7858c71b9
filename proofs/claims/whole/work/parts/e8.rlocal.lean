/-! The reference narrows a local; a local changes. -/
theorem mI_or {x y : Int} {f g : Nat → Bool} {o : Nat} (h : mI x f o) (k : mI y g o) : mI (nk_ior x y) (sOr f g) o := cI_e (cI_or h k) (fun j => by
  show ((decide (j < 12) && f (o + j)) || (decide (j < 12) && g (o + j))) = (decide (j < 12) && (f (o + j) || g (o + j)))
  cases decide (j < 12) <;> cases f (o + j) <;> cases g (o + j) <;> rfl)
theorem mI_f {x : Int} {f g : Nat → Bool} {o : Nat} (h : mI x f o) (e : ∀ j, j < 12 → f (o + j) = g (o + j)) : mI x g o := cI_e h (fun j => by
  by_cases c : j < 12
  · rw [decide_eq_true c, e j c]
  · rw [decide_eq_false c, Bool.false_and, Bool.false_and])
section RLO
variable {F : Int → Prop} {S : nk_S}
theorem min_i (a c : Int) (T : nk_S) : ja_J9_min_7cf53 a c T = some (min a c, T) := by
  unfold ja_J9_min_7cf53
  split
  · rw [show min a c = c by omega]
  · rw [show min a c = a by omega]
theorem max_i (a c : Int) (T : nk_S) : ja_J9_max_7cf53 a c T = some (max a c, T) := by
  unfold ja_J9_max_7cf53
  split
  · rw [show max a c = c by omega]
  · rw [show max a c = a by omega]
theorem x_toL {t s : Nat} {u : jQ} (hu : ∀ k, wOk F (u k)) (hs : 12 ≤ s ∧ s < t) (ht : t ≤ 24) (hr : rX S t u) : ∃ S', ja_X13_rangeToLocal 121 (s : Int) S = some (bi (qPs u s).isSome, S') ∧ xFr S S' ∧ ∀ w, qPs u s = some w → rX S' t w := by
  have hq := hr s hs.2
  have e33 : S.1 233 s = cpI (u s).2.2.2.1 := hq.2.2.2.2.1
  unfold ja_X13_rangeToLocal
  rw [if_pos (in_i (N := 24) (by omega)), jc_121_30, Int.toNat_natCast, e33, lt_eq]
  cases hc : (u s).2.2.2.1 with
  | none =>
    have hp : qPs u s = some u := by unfold qPs qNr; rw [hc]
    rw [if_neg (show ¬ 0 ≤ cpI none by decide), hp]
    exact ⟨S, rfl, xFr_rfl, fun w q => by cases q; exact hr⟩
  | some k =>
    have hk12 := (hu s).1 k hc
    have hk := hr k (by omega)
    obtain ⟨z0, z1, z2, z3, z4, z5, z6, z7, z8⟩ := id hk
    obtain ⟨y0, y1, y2, y3, y4, y5, y6, y7, y8⟩ := id hq
    have z1' : S.1 230 k = (u k).2.1.1 := z1
    have y1' : S.1 230 s = (u s).2.1.1 := y1
    have z2' : S.1 231 k = (u k).2.1.2 := z2
    have y2' : S.1 231 s = (u s).2.1.2 := y2
    have ne : s ≠ k := by omega
    have e1 : (cpI (some k)).toNat = k := by show ((k : Int)).toNat = k; omega
    obtain ⟨T1, hT1⟩ : ∃ T1, T1 = nk_wi S 230 k (max (u k).2.1.1 (u s).2.1.1) := ⟨_, rfl⟩
    obtain ⟨T2, hT2⟩ : ∃ T2, T2 = nk_wi T1 231 k (min (u k).2.1.2 (u s).2.1.2) := ⟨_, rfl⟩
    obtain ⟨T3, hT3⟩ : ∃ T3, T3 = nk_wi T2 234 k (nk_ior (S.1 234 k) (S.1 234 s)) := ⟨_, rfl⟩
    obtain ⟨T4, hT4⟩ : ∃ T4, T4 = nk_wi T3 235 k (nk_ior (S.1 235 k) (S.1 235 s)) := ⟨_, rfl⟩
    obtain ⟨T5, hT5⟩ : ∃ T5, T5 = nk_wi T4 236 k (nk_ior (S.1 236 k) (S.1 236 s)) := ⟨_, rfl⟩
    have n1 : ∀ a, a ≠ 230 → T1.1 a = S.1 a := fun a h => by rw [hT1, wi_n h]
    have n2 : ∀ a, a ≠ 230 → a ≠ 231 → T2.1 a = S.1 a := fun a h1 h2 => by rw [hT2, wi_n h2, n1 a h1]
    have n3 : ∀ a, a ≠ 230 → a ≠ 231 → a ≠ 234 → T3.1 a = S.1 a := fun a h1 h2 h3 => by rw [hT3, wi_n h3, n2 a h1 h2]
    have n4 : ∀ a, a ≠ 230 → a ≠ 231 → a ≠ 234 → a ≠ 235 → T4.1 a = S.1 a := fun a h1 h2 h3 h4 => by rw [hT4, wi_n h4, n3 a h1 h2 h3]
    have n5 : ∀ a, a ≠ 230 → a ≠ 231 → a ≠ 234 → a ≠ 235 → a ≠ 236 → T5.1 a = S.1 a := fun a h1 h2 h3 h4 h5 => by rw [hT5, wi_n h5, n4 a h1 h2 h3 h4]
    have t0 : T5.1 230 k = max (u k).2.1.1 (u s).2.1.1 := by rw [hT5, wi_n (by decide), hT4, wi_n (by decide), hT3, wi_n (by decide), hT2, wi_n (by decide), hT1, wi_at, if_pos rfl]
    have t1 : T5.1 231 k = min (u k).2.1.2 (u s).2.1.2 := by rw [hT5, wi_n (by decide), hT4, wi_n (by decide), hT3, wi_n (by decide), hT2, wi_at, if_pos rfl]
    have hne : ∀ a j, j ≠ k → T5.1 a j = S.1 a j := fun a j hj => by
      rw [hT5, wi_v, if_neg (fun q => hj q.2), hT4, wi_v, if_neg (fun q => hj q.2), hT3, wi_v, if_neg (fun q => hj q.2), hT2, wi_v, if_neg (fun q => hj q.2), hT1, wi_v, if_neg (fun q => hj q.2)]
    have fr : xFr S T5 := ⟨by rw [hT5, hT4, hT3, hT2, hT1]; rfl, fun a h1 => n5 a (by omega) (by omega) (by omega) (by omega) (by omega)⟩
    have body : ja_X13_rangeToLocal_b13 121 (s : Int) (cpI (some k)) S = some (if min (u k).2.1.2 (u s).2.1.2 < max (u k).2.1.1 (u s).2.1.1 then 0 else 1, T5) := by
      unfold ja_X13_rangeToLocal_b13
      rw [if_pos (show 0 ≤ cpI (some k) ∧ cpI (some k) < 24 by show (0 : Int) ≤ (k : Int) ∧ (k : Int) < 24; omega), if_pos (in_i (N := 24) (by omega)), jc_121_27, jc_121_28, jc_121_31, jc_121_32, jc_121_33, e1, Int.toNat_natCast, z1', y1', max_i, bd_some, lt_eq, ← hT1, n1 231 (by decide), z2', y2', min_i, bd_some, lt_eq, ← hT2, n2 234 (by decide) (by decide), lt_eq, ← hT3, n3 235 (by decide) (by decide) (by decide), lt_eq, ← hT4, n4 236 (by decide) (by decide) (by decide) (by decide), lt_eq, ← hT5, t0, t1]
      split <;> rfl
    have hp : qPs u s = if min (u k).2.1.2 (u s).2.1.2 < max (u k).2.1.1 (u s).2.1.1 then none else some (qUp u k (wFc (wRg (u k) (max (u k).2.1.1 (u s).2.1.1, min (u k).2.1.2 (u s).2.1.2)) (sOr (u k).2.2.2.2 (iS (u s).2.2.2.2)))) := by
      unfold qPs qNr
      rw [hc]
      dsimp only
      unfold kCom
      by_cases c : min (u k).2.1.2 (u s).2.1.2 < max (u k).2.1.1 (u s).2.1.1
      · rw [if_pos c, if_pos c]
      · rw [if_neg c, if_neg c]
    rw [if_pos (show 0 ≤ cpI (some k) by show (0 : Int) ≤ (k : Int); omega), body, hp]
    by_cases hlt : min (u k).2.1.2 (u s).2.1.2 < max (u k).2.1.1 (u s).2.1.1
    · rw [if_pos hlt, if_pos hlt]
      exact ⟨T5, rfl, fr, fun w q => by cases q⟩
    · rw [if_neg hlt, if_neg hlt]
      refine ⟨T5, rfl, fr, fun w q => ?_⟩
      cases q
      have iE : ∀ o, o ≤ 24 → ∀ j, j < 12 → sOr (u k).2.2.2.2 (u s).2.2.2.2 (o + j) = sOr (u k).2.2.2.2 (iS (u s).2.2.2.2) (o + j) := fun o ho j hj => by
        show (_ || _) = (_ || (decide (o + j < 36) && _))
        rw [decide_eq_true (by omega), Bool.true_and]
      intro j hj
      by_cases e : j = k
      · rw [e, qUp_at]
        refine ⟨?_, ?_, ?_, ?_, ?_, ?_, ?_, ?_, ?_⟩
        · show T5.1 229 k = _
          rw [n5 229 (by decide) (by decide) (by decide) (by decide) (by decide)]; exact z0
        · exact t0
        · exact t1
        · show cV (T5.1 232 k) _
          rw [n5 232 (by decide) (by decide) (by decide) (by decide) (by decide)]; exact z3
        · show T5.1 233 k = _
          rw [n5 233 (by decide) (by decide) (by decide) (by decide) (by decide)]; exact z4
        · show mI (T5.1 234 k) _ 0
          rw [hT5, wi_n (by decide), hT4, wi_n (by decide), hT3, wi_at, if_pos rfl]
          exact mI_f (mI_or z5 y5) (iE 0 (by omega))
        · show mI (T5.1 235 k) _ 12
          rw [hT5, wi_n (by decide), hT4, wi_at, if_pos rfl]
          exact mI_f (mI_or z6 y6) (iE 12 (by omega))
        · show mI (T5.1 236 k) _ 24
          rw [hT5, wi_at, if_pos rfl]
          exact mI_f (mI_or z7 y7) (iE 24 (by omega))
        · show mI (T5.1 237 k) _ 36
          rw [n5 237 (by decide) (by decide) (by decide) (by decide) (by decide)]
          refine mI_f z8 (fun j hj => ?_)
          show _ = (_ || (decide (36 + j < 36) && _))
          rw [decide_eq_false (by omega), Bool.false_and, Bool.or_false]
      · rw [qUp_ne e]
        exact rSo_c (fun q _ => hne _ _ e) (hr j hj)
end RLO
