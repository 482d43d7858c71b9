/-! The run: the class calls and goes back; every instruction. -/
section CCL
variable {p : jP} {m m' m1 : jM} {Q : Nat} {tx : List (List Int)} {x : jC} {t : Nat → Int} {inp : Nat → Int} {S S' : nk_S} {A : jA} {σ : jG} {i : Nat}
theorem x_begL {D : Nat} (hD : D < 64) (h5 : S.1 113 5 = (D : Int)) {b : Int} : ∀ (d k f : Nat) (T : nk_S), k + d = 20 → d < f → T.2 = S.2 → (∀ a, a ≠ 114 → T.1 a = S.1 a) → (∀ j, T.1 114 j = if D * 20 ≤ j ∧ j < D * 20 + k then 0 else S.1 114 j) → ∃ T' f', ja_X2_beginBody_L2 f 113 b (k : Int) T = ja_X2_beginBody_b2 (ja_X2_beginBody_L2 f') 113 b ((20 : Nat) : Int) T' ∧ T'.2 = S.2 ∧ (∀ a, a ≠ 114 → T'.1 a = S.1 a) ∧ ∀ j, T'.1 114 j = if D * 20 ≤ j ∧ j < D * 20 + 20 then 0 else S.1 114 j := by
  intro d
  induction d with
  | zero =>
    intro k f T h1 h2 g1 g2 g3
    obtain ⟨f, rfl⟩ : ∃ q, f = q + 1 := ⟨f - 1, by omega⟩
    obtain rfl : k = 20 := by omega
    exact ⟨T, f, rfl, g1, g2, g3⟩
  | succ d ih =>
    intro k f T h1 h2 g1 g2 g3
    obtain ⟨f, rfl⟩ : ∃ q, f = q + 1 := ⟨f - 1, by omega⟩
    have es : ∀ _ : Unit, nk_w ((k : Int) + 1) = ((k + 1 : Nat) : Int) := fun _ => w_nat1 (by omega)
    have eb : ∀ _ : Unit, nk_w (nk_w ((D : Int) * 20) + (k : Int)) = ((D * 20 + k : Nat) : Int) := fun _ => by rw [nk_w_id (z := (D : Int) * 20) (by omega) (by omega), nk_w_id (by omega) (by omega)]; omega
    have t5 : T.1 113 5 = (D : Int) := by rw [g2 113 (by decide)]; exact h5
    obtain ⟨T1, hT1⟩ : ∃ T1, T1 = nk_wi T 114 (D * 20 + k) 0 := ⟨_, rfl⟩
    obtain ⟨T', f', w1, w2⟩ := ih (k + 1) f T1 (by omega) (by omega) (by rw [hT1]; exact g1) (fun a ha => by rw [hT1, wi_n ha]; exact g2 a ha) (fun j => by
      rw [hT1, wi_at]
      by_cases e : j = D * 20 + k
      · rw [if_pos e, if_pos (by omega)]
      · rw [if_neg e, g3]
        by_cases c : D * 20 ≤ j ∧ j < D * 20 + k
        · rw [if_pos c, if_pos (by omega)]
        · rw [if_neg c, if_neg (by omega)])
    refine ⟨T', f', ?_, w2⟩
    rw [← w1]
    show ja_X2_beginBody_b2 (ja_X2_beginBody_L2 f) 113 b (k : Int) T = _
    conv => lhs; unfold ja_X2_beginBody_b2
    rw [if_neg (by omega), t5, eb (), if_pos (in_i (N := 1280) (by omega)), jc_113_2, Int.toNat_natCast, lt_eq, ← hT1, es (), lt_eq]
theorem x_beg {D : Nat} (hD : D < 64) (h : cXx S Q p A σ) (h5 : S.1 113 5 = (D : Int)) {b : Nat} (hb : b < 48) {e : Nat × Nat × Nat × Nat} (he : p.2.2.2.2.2[b]? = some e) : ∃ S', ja_X2_beginBody 113 (b : Int) S = some (0, S') ∧ S'.2 = S.2 ∧ (∀ a, a ≠ 114 → a ≠ 115 → a ≠ 116 → S'.1 a = S.1 a) ∧ (∀ j, S'.1 114 j = if D * 20 ≤ j ∧ j < D * 20 + 20 then 0 else S.1 114 j) ∧ (∀ f, S'.1 115 f = if f = D then (e.1 : Int) else S.1 115 f) ∧ ∀ f, S'.1 116 f = if f = D then 0 else S.1 116 f := by
  obtain ⟨bm, hbm⟩ := big_ge 100 (by decide)
  obtain ⟨T, f', g1, g2, g3, g4⟩ := x_begL (S := S) hD h5 (b := (b : Int)) 20 0 nk_big S (by omega) (by omega) rfl (fun _ _ => rfl) (fun j => by rw [if_neg (by omega)])
  have g1 : ja_X2_beginBody_L2 nk_big 113 (b : Int) 0 S = _ := g1
  have t5 : T.1 113 5 = (D : Int) := by rw [g3 113 (by decide)]; exact h5
  have hst : T.1 (Q + 18) b = (e.1 : Int) := by
    rw [g3 _ (by have := h.1; omega)]
    exact (h.2.2.1.2.2.2.2.2.2.1 b e he).1
  obtain ⟨U, hU⟩ : ∃ U, U = nk_wi T 115 D (e.1 : Int) := ⟨_, rfl⟩
  obtain ⟨V, hV⟩ : ∃ V, V = nk_wi U 116 D 0 := ⟨_, rfl⟩
  have u5 : U.1 113 5 = (D : Int) := by rw [hU, wi_n (by decide)]; exact t5
  refine ⟨V, ?_, by rw [hV, hU]; exact g2, fun a q1 q2 q3 => by rw [hV, wi_n q3, hU, wi_n q2, g3 a q1], fun j => by rw [hV, wi_n (by decide), hU, wi_n (by decide), g4], fun f => by rw [hV, wi_n (by decide), hU, wi_at, g3 115 (by decide)], fun f => by rw [hV, wi_at, hU, wi_n (by decide), g3 116 (by decide)]⟩
  unfold ja_X2_beginBody
  rw [g1]
  unfold ja_X2_beginBody_b2
  have hq : T.2 113 1 = Q := by rw [g2]; exact h.2.1
  rw [if_pos (by decide), if_pos (in_i (N := 48) (by omega)), t5, if_pos (in_i (N := 64) (by omega)), jc_113_3, jc_113_4, hq, (jc_Q2 h.1).1, (jc_Qb h.1).2.1, Int.toNat_natCast, Int.toNat_natCast, hst, lt_eq, ← hU, u5, if_pos (in_i (N := 64) (by omega)), Int.toNat_natCast, lt_eq, ← hV]
theorem x_dropc (h : cMm S m) {k : Nat} (hk : k ≤ m.hs m.d) {S1 : nk_S} (h1 : ja_X2_drop 113 (k : Int) S = some (0, S1)) : S1.1 114 = S.1 114 := by
  obtain ⟨⟨⟨a1, hd⟩, h2, h3⟩, -⟩ := id h
  unfold ja_X2_drop at h1
  rw [a1, if_pos (in_i (N := 64) (by omega)), lt_eq] at h1
  cases h1
  exact wi_n (by decide)
/-- a body is entered -/
theorem x_enter (hwf : pWf tx p) (hk : pKX p Q) (h : cXx S Q p A σ) (hm : mOk p m) (hc : cMm S m) {b n : Nat} {y' : jB} (hy' : p.2.2.2.1[b]? = some y') (hn : n ≤ m.hs m.d) (hn12 : n ≤ 12) : ja_X2_enterBody_b73 113 (m.pc m.d : Int) (b : Int) (n : Int) S = (if 63 ≤ m.d then some (0, nk_wi (nk_wi S 113 12 4) 113 15 (m.pc m.d : Int)) else ja_X2_enterBody_b73 113 (m.pc m.d : Int) (b : Int) (n : Int) S) ∧ (¬ 63 ≤ m.d → ∃ S', ja_X2_enterBody_b73 113 (m.pc m.d : Int) (b : Int) (n : Int) S = some (0, S') ∧ mkF S S' ∧ cMm S' (mEn p m b n)) := by
  have hd := hm.1
  have hh := (hc.1.2.1 m.d (Nat.le_refl _)).2.2
  have h5 : S.1 113 5 = (m.d : Int) := hc.1.1.1
  have e5 : ∀ _ : Unit, nk_w ((m.d : Int) + 1) = ((m.d + 1 : Nat) : Int) := fun _ => w_nat1 (by omega)
  have b88 : ja_X2_enterBody_b88 113 (m.pc m.d : Int) S = some (0, nk_wi (nk_wi S 113 12 4) 113 15 (m.pc m.d : Int)) := by
    unfold ja_X2_enterBody_b88 ja_X2_finish
    rw [lt_eq, lt_eq, bd_some]
  by_cases c : 63 ≤ m.d
  · refine ⟨?_, fun q => absurd c q⟩
    rw [if_pos c]
    unfold ja_X2_enterBody_b73
    rw [if_neg (by omega), h5, e5 (), if_neg (by omega), b88]
  · refine ⟨by rw [if_neg c], fun _ => ?_⟩
    obtain ⟨S1, f1, f2, f3⟩ := x_drop hc hn
    have hfr : ja_X2_fromTop 113 0 S1 = some (((m.d * 20 + (11 + (m.hs m.d - n)) : Nat) : Int), S1) := by
      have := x_from f3 (k := 0) (by omega)
      have e : (m.drp n).hs (m.drp n).d = m.hs m.d - n := gU_at
      rw [e] at this
      exact this
    have e7 : ∀ _ : Unit, nk_w (((m.d * 20 + (11 + (m.hs m.d - n)) : Nat) : Int) + 1) = ((m.d * 20 + (12 + (m.hs m.d - n)) : Nat) : Int) := fun _ => by rw [nk_w_id (by omega) (by omega)]; omega
    have s15 : S1.1 113 5 = (m.d : Int) := f3.1.1.1
    obtain ⟨T, hT⟩ : ∃ T, T = nk_wi S1 113 5 ((m.d + 1 : Nat) : Int) := ⟨_, rfl⟩
    have tn : ∀ a, a ≠ 113 → T.1 a = S1.1 a := fun a ha => by rw [hT, wi_n ha]
    have tf : ∀ f, T.1 113 f = if f = 5 then ((m.d + 1 : Nat) : Int) else S1.1 113 f := fun f => by rw [hT, wi_at]
    have hFT : mkF S T := mkF_trans (mbF_m f2) ⟨by rw [hT]; rfl, fun a ha => tn a (by omega), fun f hf => by rw [tf, if_neg (by omega)]⟩
    have hb48 : b < 48 := by have := at_lt hy'; have := hwf.1.2.2.2.2.2.2.1.1; omega
    obtain ⟨e, x', t', a1, -⟩ := ty_ent hk hy'
    obtain ⟨U, u1, u2, u3, u4, u5, u6⟩ := x_beg (D := m.d + 1) (by omega) (cXx_f hFT h) (by rw [tf, if_pos rfl]) hb48 a1
    have u55 : U.1 113 5 = ((m.d + 1 : Nat) : Int) := by rw [u3 113 (by decide) (by decide) (by decide), tf, if_pos rfl]
    have e20 : ∀ _ : Unit, nk_w (((m.d + 1 : Nat) : Int) * 20) = (((m.d + 1) * 20 : Nat) : Int) := fun _ => by rw [nk_w_id (by omega) (by omega)]; omega
    obtain ⟨V, hV⟩ : ∃ V, V = nk_cp U 114 (m.d * 20 + (12 + (m.hs m.d - n))) 114 ((m.d + 1) * 20) n := ⟨_, rfl⟩
    have vn : ∀ a, a ≠ 114 → V.1 a = U.1 a := fun a ha => by
      funext j
      rw [hV, cp_v, if_neg (fun q => ha q.1)]
    have v114 : ∀ j, V.1 114 j = if (m.d + 1) * 20 ≤ j ∧ j < (m.d + 1) * 20 + n then U.1 114 (m.d * 20 + (12 + (m.hs m.d - n)) + (j - (m.d + 1) * 20)) else U.1 114 j := fun j => by
      rw [hV, cp_v]
      by_cases q : (m.d + 1) * 20 ≤ j ∧ j < (m.d + 1) * 20 + n
      · rw [if_pos ⟨rfl, q⟩, if_pos q]
      · rw [if_neg (fun r => q r.2), if_neg q]
    have hE0 : mE0 p b = e.1 := by unfold mE0; rw [a1]
    have o3 := f3.1
    refine ⟨V, ?_, ⟨by rw [hV]; show U.2 = _; rw [u2]; exact hFT.1, fun a ha => by rw [vn a (by omega), u3 a (by omega) (by omega) (by omega)]; exact hFT.2.1 a ha, fun f hf => by rw [vn 113 (by decide), u3 113 (by decide) (by decide) (by decide)]; exact hFT.2.2 f hf⟩, ⟨⟨?_, ?_⟩, fun f hf => ?_, fun f k hf hk' => ?_⟩, ?_, ?_⟩
    · unfold ja_X2_enterBody_b73
      rw [if_neg (by omega), h5, e5 (), if_pos (by omega), f1, bd_some, hfr, bd_some, e7 (), lt_eq, s15, e5 (), lt_eq, ← hT, u1, bd_some, u55, e20 (), if_pos (by omega), jc_113_2, Int.toNat_natCast, Int.toNat_natCast, Int.toNat_natCast, ← hV, lt_eq]
    · rw [vn 113 (by decide)]; exact u55
    · show m.d + 1 < 64; omega
    · have hf : f ≤ m.d + 1 := hf
      rw [vn 115 (by decide), vn 116 (by decide), u5, u6]
      show _ = ((gU m.pc (m.d + 1) (mE0 p b) f : Nat) : Int) ∧ _ = ((gU (gU m.hs m.d (m.hs m.d - n)) (m.d + 1) 0 f : Nat) : Int) ∧ gU (gU m.hs m.d (m.hs m.d - n)) (m.d + 1) 0 f ≤ 8
      rw [hE0]
      by_cases ef : f = m.d + 1
      · rw [if_pos ef, if_pos ef, ef, gU_at, gU_at]; exact ⟨rfl, rfl, by omega⟩
      · rw [if_neg ef, if_neg ef, gU_ne ef, gU_ne ef, tn 115 (by decide), tn 116 (by decide)]
        exact o3.2.1 f (show f ≤ m.d by omega)
    · have hf : f ≤ m.d + 1 := hf
      have hk' : k < 12 ∨ (12 ≤ k ∧ k < 12 + gU (gU m.hs m.d (m.hs m.d - n)) (m.d + 1) 0 f) := hk'
      show _ = mCv (gU m.vs (m.d + 1) (fun k => if k < n then m.vs m.d (12 + m.hs m.d - n + k) else (0, 0)) f k)
      rw [v114]
      by_cases ef : f = m.d + 1
      · subst ef
        rw [gU_at] at hk' ⊢
        have hk12 : k < 12 := by omega
        by_cases ck : k < n
        · rw [if_pos (by omega), if_pos ck, u4, if_neg (by omega), tn 114 (by decide), show m.d * 20 + (12 + (m.hs m.d - n)) + ((m.d + 1) * 20 + k - (m.d + 1) * 20) = m.d * 20 + (12 + m.hs m.d - n + k) by omega, x_dropc hc hn f1, hc.1.2.2 m.d _ (Nat.le_refl _) (by omega)]
        · rw [if_neg (by omega), if_neg ck, u4, if_pos (by omega)]; rfl
      · rw [gU_ne ef] at hk' ⊢
        have h8 := (o3.2.1 f (show f ≤ m.d by omega)).2.2
        have h8 : gU m.hs m.d (m.hs m.d - n) f ≤ 8 := h8
        rw [if_neg (by omega), u4, if_neg (by omega), tn 114 (by decide)]
        exact o3.2.2 f k (show f ≤ m.d by omega) hk'
    · exact cHp_c (S := S1) (by rw [vn 113 (by decide), u3 113 (by decide) (by decide) (by decide), tf, if_neg (by decide)]) (fun a ha => by rw [vn a (by omega), u3 a (by omega) (by omega) (by omega), tn a (by omega)]) f3.2.1
    · exact cIo_c (S := S1) (by rw [vn 113 (by decide), u3 113 (by decide) (by decide) (by decide), tf, if_neg (by decide)]) (by rw [vn 113 (by decide), u3 113 (by decide) (by decide) (by decide), tf, if_neg (by decide)]) (by rw [vn 120 (by decide), u3 120 (by decide) (by decide) (by decide), tn 120 (by decide)]) f3.2.2
end CCL
