/-! The reference compares: apart. -/
def woR (dn up : Int → Int) (r : jR) (c : Int) : Option jR := if (if r.2 = c then r.2 - 1 else r.2) < (if r.1 = c then r.1 + 1 else r.1) then none else some (rAr dn up (if r.1 = c then r.1 + 1 else r.1) (if r.2 = c then r.2 - 1 else r.2))
section RAP
variable {F : Int → Prop} {dn up : Int → Int} {S : nk_S} {P n : Nat}
theorem rRw_r {t k : Nat} {u : jQ} {l h : Int} (hr : rRw S t u) (hk : k < t) : rRw (nk_wi (nk_wi S 230 k l) 231 k h) t (qUp u k (wRg (u k) (l, h))) := by
  refine ⟨by rw [wi_n (by decide), wi_n (by decide)]; exact hr.1, fun j hj => ?_⟩
  by_cases e : j = k
  · rw [e, qUp_at]
    obtain ⟨z0, z1, z2, z3, z4, z5, z6, z7, z8⟩ := hr.2 k hk
    refine ⟨?_, ?_, ?_, ?_, ?_, ?_, ?_, ?_, ?_⟩
    · show (nk_wi (nk_wi S 230 k l) 231 k h).1 229 k = _
      rw [wi_n (by decide), wi_n (by decide)]; exact z0
    · show (nk_wi (nk_wi S 230 k l) 231 k h).1 230 k = l
      rw [wi_n (by decide), wi_at, if_pos rfl]
    · show (nk_wi (nk_wi S 230 k l) 231 k h).1 231 k = h
      rw [wi_at, if_pos rfl]
    · show cV ((nk_wi (nk_wi S 230 k l) 231 k h).1 232 k) _
      rw [wi_n (by decide), wi_n (by decide)]; exact z3
    · show (nk_wi (nk_wi S 230 k l) 231 k h).1 233 k = _
      rw [wi_n (by decide), wi_n (by decide)]; exact z4
    · show mI ((nk_wi (nk_wi S 230 k l) 231 k h).1 234 k) _ 0
      rw [wi_n (by decide), wi_n (by decide)]; exact z5
    · show mI ((nk_wi (nk_wi S 230 k l) 231 k h).1 235 k) _ 12
      rw [wi_n (by decide), wi_n (by decide)]; exact z6
    · show mI ((nk_wi (nk_wi S 230 k l) 231 k h).1 236 k) _ 24
      rw [wi_n (by decide), wi_n (by decide)]; exact z7
    · show mI ((nk_wi (nk_wi S 230 k l) 231 k h).1 237 k) _ 36
      rw [wi_n (by decide), wi_n (by decide)]; exact z8
  · rw [qUp_ne e]
    exact rSo_c (fun q _ => by rw [wi_v, if_neg (fun r => e r.2), wi_v, if_neg (fun r => e r.2)]) (hr.2 j hj)
theorem rTn_c {S' : nk_S} (h : ∀ a, a < 229 → a ≠ 121 → S'.1 a = S.1 a) (hP : P = 122 ∨ P = 168) (k : rTn S P n F) : rTn S' P n F := by
  unfold rTn at k ⊢
  rw [h P (by omega) (by omega), h (P + 26) (by omega) (by omega)]
  exact k
theorem r_wo (hP : P = 122 ∨ P = 168) (hT : thG F dn up) (ht : rTn S P n F) (hn : n ≤ 3079) {t s : Nat} {u : jQ} (hs : s < t) (h24 : t ≤ 24) (hr : rRw S t u) {c : Int} (hc : iR c) (hb : iR (u s).2.1.1 ∧ iR (u s).2.1.2 ∧ (u s).2.1.1 ≤ (u s).2.1.2) : ∃ S', ja_X13_without 121 P (s : Int) c S = some (bi (woR dn up (u s).2.1 c).isSome, S') ∧ uFr S S' ∧ ∀ q, woR dn up (u s).2.1 c = some q → rRw S' t (qUp u s (wRg (u s) q)) := by
  unfold iR at hc hb
  have z1 : S.1 230 s = (u s).2.1.1 := (hr.2 s hs).2.1
  have z2 : S.1 231 s = (u s).2.1.2 := (hr.2 s hs).2.2.1
  obtain ⟨l, hl⟩ : ∃ l, l = (if (u s).2.1.1 = c then (u s).2.1.1 + 1 else (u s).2.1.1) := ⟨_, rfl⟩
  obtain ⟨h, hh⟩ : ∃ h, h = (if (u s).2.1.2 = c then (u s).2.1.2 - 1 else (u s).2.1.2) := ⟨_, rfl⟩
  have bl : -2147483648 ≤ l ∧ l ≤ 2147483648 := by rw [hl]; split <;> omega
  have bh : -2147483649 ≤ h ∧ h ≤ 2147483647 := by rw [hh]; split <;> omega
  have hw : woR dn up (u s).2.1 c = if h < l then none else some (rAr dn up l h) := by unfold woR; rw [← hl, ← hh]
  have e24 : ja_X13_without 121 P (s : Int) c S = ja_X13_without_b50 121 P (s : Int) l h S := by
    have b24 : ∀ x, x = l → ja_X13_without_b24 121 P (s : Int) c x S = ja_X13_without_b50 121 P (s : Int) l h S := fun x hx => by
      unfold ja_X13_without_b24
      rw [if_pos (in_i (N := 24) (by omega)), jc_121_28, Int.toNat_natCast, z2, hx]
      by_cases q : (u s).2.1.2 = c
      · rw [if_pos q, W_id (by unfold lR; omega)]
        rw [if_pos q] at hh
        rw [hh, q]
      · rw [if_neg q]
        rw [if_neg q] at hh
        rw [hh]
    unfold ja_X13_without
    rw [if_pos (in_i (N := 24) (by omega)), jc_121_27, Int.toNat_natCast, z1]
    by_cases q : (u s).2.1.1 = c
    · rw [if_pos q]
      refine b24 _ ?_
      rw [W_id (by unfold lR; omega), hl, if_pos q, q]
    · rw [if_neg q]
      refine b24 _ ?_
      rw [hl, if_neg q]
  rw [e24, hw]
  unfold ja_X13_without_b50
  by_cases q : h < l
  · rw [if_pos q, if_neg (by omega)]
    exact ⟨S, rfl, uFr_rfl, fun r x => by cases x⟩
  · have er : rAr dn up l h = (dn l, up h) := by unfold rAr; rw [if_neg (by omega)]
    rw [if_neg q, if_pos (by omega), (r_thr hP hT ht hn (v := l)).1 (by omega), bd_some, if_pos (in_i (N := 24) (by omega)), jc_121_27, jc_121_28, Int.toNat_natCast, lt_eq, (r_thr hP hT (rTn_c (S := S) (fun a h1 _ => wi_n (by omega)) hP ht) hn (v := h)).2 (by omega), bd_some, lt_eq, er]
    refine ⟨_, rfl, ⟨rfl, fun a h1 _ => by rw [wi_n (by omega), wi_n (by omega)], fun f _ => by rw [wi_n (by decide), wi_n (by decide)]⟩, fun r x => ?_⟩
    cases x
    exact rRw_r hr hs
end RAP
