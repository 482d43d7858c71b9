/-! The reference narrows what is known. -/
section RKE
variable {F : Int → Prop} {S : nk_S}
/-- one number of a slot changes: the sites -/
theorem rSo_3 {c k : Nat} {x : Int} {w : jW} {s : Nat → Bool} (hc : c = 232) (hw : rSo S rWk k w) (hx : cV x s) : rSo (nk_wi S c k x) rWk k (wSt w s) := by
  subst hc
  obtain ⟨z0, z1, z2, z3, z4, z5, z6, z7, z8⟩ := hw
  refine ⟨?_, ?_, ?_, ?_, ?_, ?_, ?_, ?_, ?_⟩
  · show (nk_wi S 232 k x).1 229 k = _
    rw [wi_n (by decide)]; exact z0
  · show (nk_wi S 232 k x).1 230 k = _
    rw [wi_n (by decide)]; exact z1
  · show (nk_wi S 232 k x).1 231 k = _
    rw [wi_n (by decide)]; exact z2
  · show cV ((nk_wi S 232 k x).1 232 k) s
    rw [wi_at, if_pos rfl]; exact hx
  · show (nk_wi S 232 k x).1 233 k = _
    rw [wi_n (by decide)]; exact z4
  · show mI ((nk_wi S 232 k x).1 234 k) _ 0
    rw [wi_n (by decide)]; exact z5
  · show mI ((nk_wi S 232 k x).1 235 k) _ 12
    rw [wi_n (by decide)]; exact z6
  · show mI ((nk_wi S 232 k x).1 236 k) _ 24
    rw [wi_n (by decide)]; exact z7
  · show mI ((nk_wi S 232 k x).1 237 k) _ 36
    rw [wi_n (by decide)]; exact z8
theorem rRw_3 {t k : Nat} {u : jQ} {x : Int} {s : Nat → Bool} (hr : rRw S t u) (hk : k < t) (hx : cV x s) : rRw (nk_wi S 232 k x) t (qUp u k (wSt (u k) s)) := by
  refine ⟨by rw [wi_n (by decide)]; exact hr.1, fun j hj => ?_⟩
  by_cases e : j = k
  · rw [e, qUp_at]; exact rSo_3 rfl (hr.2 k hk) hx
  · rw [qUp_ne e]
    exact rSo_c (fun q _ => by rw [wi_v, if_neg (fun r => e r.2)]) (hr.2 j hj)
theorem uFr_3 {k : Nat} {x : Int} : uFr S (nk_wi S 232 k x) := ⟨rfl, fun a h1 _ => wi_n (by omega), fun f _ => by rw [wi_n (by decide)]⟩
/-- the slots of the working row, whatever its height -/
def rX (S : nk_S) (t : Nat) (u : jQ) : Prop := ∀ k, k < t → rSo S rWk k (u k)
/-- only slots change -/
def xFr (S S' : nk_S) : Prop := S'.2 = S.2 ∧ ∀ a, a < 229 ∨ 237 < a → S'.1 a = S.1 a
theorem xFr_rfl : xFr S S := ⟨rfl, fun _ _ => rfl⟩
theorem xFr_trans {S1 S2 S3 : nk_S} (h : xFr S1 S2) (q : xFr S2 S3) : xFr S1 S3 := ⟨q.1.trans h.1, fun a r => (q.2 a r).trans (h.2 a r)⟩
theorem xFr_3 {k : Nat} {x : Int} : xFr S (nk_wi S 232 k x) := ⟨rfl, fun a h1 => wi_n (by omega)⟩
theorem xFr_u {S S' : nk_S} (h : xFr S S') : uFr S S' := ⟨h.1, fun a h1 _ => h.2 a h1, fun f _ => by rw [h.2 121 (by omega)]⟩
theorem rX_3 {t k : Nat} {u : jQ} {x : Int} {s : Nat → Bool} (hr : rX S t u) (hk : k < t) (hx : cV x s) : rX (nk_wi S 232 k x) t (qUp u k (wSt (u k) s)) := by
  intro j hj
  by_cases e : j = k
  · rw [e, qUp_at]; exact rSo_3 rfl (hr k hk) hx
  · rw [qUp_ne e]
    exact rSo_c (fun q _ => by rw [wi_v, if_neg (fun r => e r.2)]) (hr j hj)
theorem x_keeps {t s : Nat} {u : jQ} (hu : ∀ k, wOk F (u k)) (hs : 12 ≤ s ∧ s < t) (ht : t ≤ 24) (hr : rX S t u) {v : Int} {K : Nat → Bool} (hv : cV v K) : ∃ S', ja_X13_keeps 121 (s : Int) v S = some (bi (sEx (sAnd (u s).2.2.1 K) && (qKp u s K).isSome), S') ∧ xFr S S' ∧ ∀ w, sEx (sAnd (u s).2.2.1 K) = true → qKp u s K = some w → rX S' t (qUp w s (wSt (u s) (sAnd (u s).2.2.1 K))) := by
  have h63 : ∀ k j, sAnd (u k).2.2.1 K j = true → j < 63 := fun k j q => by
    unfold sAnd at q
    rw [Bool.and_eq_true] at q
    rcases (hu k).2.2 with r | ⟨-, -, r⟩ | ⟨-, -, -, r⟩
    · rw [r] at q; cases q.1
    · rw [r] at q; cases q.1
    · have := r j q.1; omega
  have c3 : cV (nk_land (S.1 232 s) v) (sAnd (u s).2.2.1 K) := cV_and (hr s hs.2).2.2.2.1 hv
  have z3 := cV_ex c3 (h63 s)
  obtain ⟨T, hT⟩ : ∃ T, T = nk_wi S 232 s (nk_land (S.1 232 s) v) := ⟨_, rfl⟩
  have rT : rX T t (qUp u s (wSt (u s) (sAnd (u s).2.2.1 K))) := by rw [hT]; exact rX_3 hr hs.2 c3
  have tT : T.1 232 s = nk_land (S.1 232 s) v := by rw [hT, wi_at, if_pos rfl]
  have t33 : T.1 233 s = cpI (u s).2.2.2.1 := by rw [hT, wi_n (by decide)]; exact (hr s hs.2).2.2.2.2.1
  have fT : xFr S T := by rw [hT]; exact xFr_3
  unfold ja_X13_keeps
  rw [if_pos (in_i (N := 24) (by omega)), jc_121_29, jc_121_30, Int.toNat_natCast, lt_eq, ← hT, tT]
  by_cases h0 : nk_land (S.1 232 s) v = 0
  · have hx := z3.mp h0
    rw [if_pos h0, hx]
    exact ⟨T, rfl, fT, fun w q => by cases q⟩
  · have hx : sEx (sAnd (u s).2.2.1 K) = true := by
      cases hq : sEx (sAnd (u s).2.2.1 K) with
      | true => rfl
      | false => exact absurd (z3.mpr hq) h0
    rw [if_neg h0, hx, t33, lt_eq]
    cases hc : (u s).2.2.2.1 with
    | none =>
      have hq : qKp u s K = some u := by unfold qKp; rw [hc]
      rw [if_neg (show ¬ 0 ≤ cpI none by decide), hq]
      exact ⟨T, rfl, fT, fun w _ q => by cases q; exact rT⟩
    | some k =>
      have hk12 := (hu s).1 k hc
      have e1 : (cpI (some k)).toNat = k := by show ((k : Int)).toNat = k; omega
      have hck : rSo T rWk k (u k) := by
        have := rT k (by omega)
        rw [qUp_ne (by omega)] at this
        exact this
      have c4 : cV (nk_land (T.1 232 k) v) (sAnd (u k).2.2.1 K) := cV_and hck.2.2.2.1 hv
      have z4 := cV_ex c4 (h63 k)
      obtain ⟨T2, hT2⟩ : ∃ T2, T2 = nk_wi T 232 k (nk_land (T.1 232 k) v) := ⟨_, rfl⟩
      have r2 := rX_3 (x := nk_land (T.1 232 k) v) (s := sAnd (u k).2.2.1 K) rT (k := k) (by omega) c4
      rw [← hT2, qUp_ne (show k ≠ s by omega)] at r2
      have f2 : xFr S T2 := by rw [hT2]; exact xFr_trans fT xFr_3
      have t2 : T2.1 232 k = nk_land (T.1 232 k) v := by rw [hT2, wi_at, if_pos rfl]
      rw [if_pos (show 0 ≤ cpI (some k) by show (0 : Int) ≤ (k : Int); omega), if_pos (show 0 ≤ cpI (some k) ∧ cpI (some k) < 24 by show (0 : Int) ≤ (k : Int) ∧ (k : Int) < 24; omega), e1, lt_eq, ← hT2, t2]
      have hq : qKp u s K = if sEx (sAnd (u k).2.2.1 K) = true then some (qUp u k (wSt (u k) (sAnd (u k).2.2.1 K))) else none := by unfold qKp; rw [hc]
      by_cases h4 : nk_land (T.1 232 k) v = 0
      · have hx4 := z4.mp h4
        rw [if_neg (by rw [hx4]; decide)] at hq
        rw [if_pos h4, hq]
        exact ⟨T2, rfl, f2, fun w _ q => by cases q⟩
      · have hx4 : sEx (sAnd (u k).2.2.1 K) = true := by
          cases hq' : sEx (sAnd (u k).2.2.1 K) with
          | true => rfl
          | false => exact absurd (z4.mpr hq') h4
        rw [if_pos hx4] at hq
        rw [if_neg h4, hq]
        refine ⟨T2, rfl, f2, fun w _ q => ?_⟩
        cases q
        have e2 : qUp (qUp u k (wSt (u k) (sAnd (u k).2.2.1 K))) s (wSt (u s) (sAnd (u s).2.2.1 K)) = qUp (qUp u s (wSt (u s) (sAnd (u s).2.2.1 K))) k (wSt (u k) (sAnd (u k).2.2.1 K)) := by
          funext j
          by_cases a1 : j = s
          · rw [a1, qUp_at, qUp_ne (show s ≠ k by omega), qUp_at]
          · rw [qUp_ne a1]
            by_cases a2 : j = k
            · rw [a2, qUp_at, qUp_at]
            · rw [qUp_ne a2, qUp_ne a2, qUp_ne a1]
        rw [e2]
        exact r2
end RKE
