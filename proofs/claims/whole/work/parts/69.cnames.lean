/-! Names of classes: the class, from the beginning. -/
section CNC
variable {Q c : Nat} {tx : List (List Int)}
theorem cU_c {S S' : nk_S} {us : List Int} (h1 : S'.1 (Q + 1) 0 = S.1 (Q + 1) 0) (h2 : S'.1 (Q + 2) = S.1 (Q + 2)) (h3 : S'.1 (Q + 3) = S.1 (Q + 3)) (h : cU S Q us) : cU S' Q us := by
  unfold cU at h ⊢
  rw [h1, h2, h3]
  exact h
/-- the program of the class when nothing is in it -/
def cZ (S : nk_S) (Q : Nat) : Prop := S.1 Q 3 = 0 ∧ S.1 Q 10 = 0 ∧ S.1 Q 12 = 0 ∧ S.1 (Q + 9) 0 = 0 ∧ S.1 (Q + 1) 4 = 0 ∧ (∀ i, i < 32 → S.1 (Q + 4) i = 0) ∧ (∃ n, n ≤ 7 ∧ tC S (Q + 23) n th7) ∧ ∀ i, 48 ≤ i → i < 54 → S.1 (Q + 31) i = ((8 + 2 * (i - 48) : Nat) : Int)
theorem c_clear (hQ : Q = 13 ∨ Q = 49) (S : nk_S) : ∃ S', ja_X3_clear Q S = some (0, S') ∧ S'.2 = S.2 ∧ (∀ b, b < Q ∨ Q + 36 ≤ b → S'.1 b = S.1 b) ∧ cZ S' Q ∧ cU S' Q us8 := by
  obtain ⟨jq, -, -⟩ := jc_Q hQ
  obtain ⟨j1, j2, j3, jr⟩ := jc_Q2 hQ
  obtain ⟨S3, a1, a2, a3, a4, a5, a6⟩ := c_clear1 hQ S
  obtain ⟨S6, hS6⟩ : ∃ S6, S6 = nk_wi S3 (Q + 9) 0 0 := ⟨_, rfl⟩
  have r6 : ∀ b, b ≠ Q + 9 → S6.1 b = S3.1 b := fun b hb => by rw [hS6]; exact wi_n hb
  obtain ⟨S10, n, b1, b2, b3, b4, b5, b6⟩ := c_thr0 jr S6
  obtain ⟨S16, hS16⟩ : ∃ S16, S16 = nk_wi (nk_wi (nk_wi S10 Q 3 0) Q 10 0) Q 12 0 := ⟨_, rfl⟩
  have r16 : ∀ b, b ≠ Q → S16.1 b = S10.1 b := fun b hb => by rw [hS16, wi_n hb, wi_n hb, wi_n hb]
  obtain ⟨m, hm⟩ := big_ge 7 (by decide)
  obtain ⟨S', d1, d2, d3, d4⟩ := c_six hQ 6 0 nk_big S16 (by omega) (by omega)
  have all : ∀ b, b ≠ Q → b ≠ Q + 9 → b ≠ Q + 23 → b ≠ Q + 24 → b ≠ Q + 31 → S'.1 b = S3.1 b := fun b x1 x2 x3 x4 x5 => by rw [d3 b x5, r16 b x1, b5 b x3 x4, r6 b x2]
  refine ⟨S', ?_, ?_, fun b hb => ?_, ⟨?_, ?_, ?_, ?_, ?_, fun i hi => ?_, ⟨n, b2, ?_⟩, fun i h1 h2 => ?_⟩, ?_⟩
  · unfold ja_X3_clear
    rw [jq, j1, j2, a1, bd_some, lt_eq, ← hS6, b1, bd_some, lt_eq, lt_eq, lt_eq, ← hS16]
    exact d1
  · rw [d2, hS16]; show S10.2 = S.2; rw [b4, hS6]; exact a2
  · rw [all b (by omega) (by omega) (by omega) (by omega) (by omega)]
    exact a3 b (by omega) (by omega) (by omega) (by omega)
  · rw [d3 Q (by omega), hS16]; simp +decide only [wi_v, and_self, and_false, if_true, if_false]
  · rw [d3 Q (by omega), hS16]; simp +decide only [wi_v, and_self, and_false, if_true, if_false]
  · rw [d3 Q (by omega), hS16]; simp +decide only [wi_v, and_self, and_false, if_true, if_false]
  · rw [d3 (Q + 9) (by omega), r16 (Q + 9) (by omega), b5 (Q + 9) (by omega) (by omega), hS6]; simp only [wi_v, and_self, if_true]
  · rw [all (Q + 1) (by omega) (by omega) (by omega) (by omega) (by omega)]; exact a4
  · rw [all (Q + 4) (by omega) (by omega) (by omega) (by omega) (by omega)]; exact a5 i hi
  · unfold tC at b3 ⊢
    rw [d3 (Q + 23) (by omega), r16 (Q + 23) (by omega), d3 (Q + 23 + 1) (by omega), r16 (Q + 23 + 1) (by omega)]
    exact b3
  · rw [d4, if_pos (by omega)]
  · exact cU_c (by rw [all (Q + 1) (by omega) (by omega) (by omega) (by omega) (by omega)]) (all (Q + 2) (by omega) (by omega) (by omega) (by omega) (by omega)) (all (Q + 3) (by omega) (by omega) (by omega) (by omega) (by omega)) a6
theorem kC8_at : ∀ o, o < 8 → kC8[o]? = some (fx.getD (60 + o) []) := by decide +kernel
theorem kc_first {S : nk_S} (hC : CF S tx c) {v : Nat} (hv : v < c) : amx (wd S v) kC8 0 = if 60 ≤ v ∧ v < 68 then ((v - 60 : Nat) : Int) else -1 := by
  obtain ⟨-, h2, -, -, -, -, h7, h8, -⟩ := hC
  by_cases q : 60 ≤ v ∧ v < 68
  · rw [if_pos q, h8 v (by omega), amx_at (i := v - 60) (by rw [kC8_at (v - 60) (by omega), show 60 + (v - 60) = v by omega]) (fun i hi => by
      rw [kC8_at i (by omega), Option.some.injEq]
      intro e
      have := fx_inj (60 + i) (by omega) v (by omega) e
      omega)]
    omega
  · rw [if_neg q]
    refine amx_none (fun u hu e => ?_)
    obtain ⟨o, ho, he⟩ := List.mem_iff_getElem.mp hu
    rw [kC8_len] at ho
    have h3 := kC8_at o ho
    rw [List.getElem?_eq_getElem (by rw [kC8_len]; exact ho), Option.some.injEq] at h3
    have h4 : wd S v = wd S (60 + o) := by rw [e, ← he, h3, h8 (60 + o) (by omega)]
    have := h7 v (60 + o) hv (by omega) h4
    omega
/-- the class looks at the names of classes: behind clear, from words as they are cut -/
theorem c_names (hQ : Q = 13 ∨ Q = 49) {S : nk_S} (hC : CF S tx c) (hU : cU S Q us8) (h10 : ∀ v, v < c → shp (wd S v) < 3 → S.1 10 v = (if 60 ≤ v ∧ v < 68 then ((v - 60 : Nat) : Int) else -1)) (h2 : S.2 85 1 = Q) (h : (fProg tx 20000 20000 0).1 = true) : ∃ S', ja_X6_walkClasses 85 S = some (ccA (fCls tx 20000 0 kC8 us8).1, S') ∧ CF S' tx c ∧ cC S' Q c (fCls tx 20000 0 kC8 us8).2.1 (fCls tx 20000 0 kC8 us8).2.2 ∧ ccF Q S S' := by
  obtain ⟨m, hm⟩ := big_ge 20000 (by decide)
  have hT := hC.2.2.2.2.1
  have h8 := kC8_len
  obtain ⟨u1, u2, u3, u4⟩ := hU
  have hl : us8.length = 8 := rfl
  refine c_clsL hQ 20000 0 nk_big kC8 us8 S hC ⟨?_, by omega, by omega, by omega, ?_, u3, ?_, fun v hv hs => ?_⟩ h2 h (by omega) (by omega)
  · rw [u1, h8]; rfl
  · intro j hj; exact u2 j (by omega)
  · intro j hj1 hj2; exact u4 j hj1 (by omega)
  · rw [kc_first hC hv]; exact h10 v hv (by omega)
end CNC
