/-! The run: the class runs. -/
/-- the state holds -/
noncomputable def hOb (p : jP) (A : jA) (m : jM) : Bool := @decide (hOc p A m) (Classical.propDecidable _)
/-- how a run ends: outcome, place, site, steps, strays, and the machine -/
abbrev jN : Type := Nat × Nat × Int × Nat × Int × jM
/-- a run -/
noncomputable def mRn (p : jP) (A : jA) (σ : jG) (inp : Nat → Int) : Nat → jM → Nat → Int → jN
  | 0, m, s, y => (2, m.pc m.d, -1, s, y, m)
  | c + 1, m, s, y => match p.2.2.2.2.1.1[m.pc m.d]? with
    | none => (0, 0, 0, 0, 0, m)
    | some x => match mSp p inp m (m.pc m.d) x with
      | .inl m' => mRn p A σ inp c m' (s + 1) (if (hOb p A m && !mSx p A σ inp m (m.pc m.d) x) = true then y else nk_w (y + 1))
      | .inr R => (R.1, m.pc m.d, if R.1 = 1 then R.2.1 else -1, s + 1, (if (hOb p A m && !mSx p A σ inp m (m.pc m.d) x) = true then y else nk_w (y + 1)), R.2.2)
section CRN
variable {p : jP} {m m' m1 : jM} {Q : Nat} {tx : List (List Int)} {x : jC} {t : Nat → Int} {inp : Nat → Int} {S S' : nk_S} {A : jA} {σ : jG} {i : Nat} {m0 : Nat}
theorem ef_s5 {e : Nat} (h : mEf p inp m i x = jE.st e) : e < 5 := by
  unfold mEf at h
  by_cases c0 : x.1 = 0
  · rw [if_pos c0] at h
    exact (go_st h).elim
  rw [if_neg c0] at h
  by_cases c1 : x.1 = 1
  · rw [if_pos c1] at h
    exact (go_st h).elim
  rw [if_neg c1] at h
  by_cases c2 : x.1 = 2
  · rw [if_pos c2] at h
    exact (go_st h).elim
  rw [if_neg c2] at h
  by_cases c3 : x.1 = 3
  · rw [if_pos c3] at h
    exact (go_st h).elim
  rw [if_neg c3] at h
  by_cases c4 : x.1 = 4
  · rw [if_pos c4] at h
    exact (go_st h).elim
  rw [if_neg c4] at h
  by_cases c5 : x.1 = 5
  · rw [if_pos c5] at h
    exact (go_st h).elim
  rw [if_neg c5] at h
  by_cases c6 : x.1 = 6
  · rw [if_pos c6] at h
    exact (go_st h).elim
  rw [if_neg c6] at h
  by_cases c7 : x.1 = 7
  · rw [if_pos c7] at h
    exact (go_st h).elim
  rw [if_neg c7] at h
  by_cases c17 : x.1 ≤ 17
  · rw [if_pos c17] at h
    repeat' split at h
    all_goals first
      | exact (go_st h).elim
      | exact (rz_st h).elim
      | exact (th_st h).elim
      | (have := st_i h; omega)
  rw [if_neg c17] at h
  by_cases c18 : x.1 = 18
  · rw [if_pos c18] at h
    exact (go_st h).elim
  rw [if_neg c18] at h
  by_cases c19 : x.1 = 19
  · rw [if_pos c19] at h
    exact (go_st h).elim
  rw [if_neg c19] at h
  by_cases c29 : x.1 ≤ 29
  · rw [if_pos c29] at h
    exact (go_st h).elim
  rw [if_neg c29] at h
  by_cases c30 : x.1 = 30
  · rw [if_pos c30] at h
    repeat' split at h
    all_goals first
      | exact (go_st h).elim
      | exact (rz_st h).elim
      | exact (th_st h).elim
      | (have := st_i h; omega)
  rw [if_neg c30] at h
  by_cases c31 : x.1 = 31
  · rw [if_pos c31] at h
    repeat' split at h
    all_goals first
      | exact (go_st h).elim
      | exact (rz_st h).elim
      | exact (th_st h).elim
      | (have := st_i h; omega)
  rw [if_neg c31] at h
  by_cases c32 : x.1 = 32
  · rw [if_pos c32] at h
    repeat' split at h
    all_goals first
      | exact (go_st h).elim
      | exact (rz_st h).elim
      | exact (th_st h).elim
      | (have := st_i h; omega)
  rw [if_neg c32] at h
  by_cases c33 : x.1 = 33
  · rw [if_pos c33] at h
    repeat' split at h
    all_goals first
      | exact (go_st h).elim
      | exact (rz_st h).elim
      | exact (th_st h).elim
      | (have := st_i h; omega)
  rw [if_neg c33] at h
  by_cases c34 : x.1 = 34
  · rw [if_pos c34] at h
    repeat' split at h
    all_goals first
      | exact (go_st h).elim
      | exact (rz_st h).elim
      | exact (th_st h).elim
      | (have := st_i h; omega)
  rw [if_neg c34] at h
  by_cases c35 : x.1 = 35
  · rw [if_pos c35] at h
    repeat' split at h
    all_goals first
      | exact (go_st h).elim
      | exact (rz_st h).elim
      | exact (th_st h).elim
      | (have := st_i h; omega)
  rw [if_neg c35] at h
  by_cases c36 : x.1 = 36
  · rw [if_pos c36] at h
    repeat' split at h
    all_goals first
      | exact (go_st h).elim
      | exact (rz_st h).elim
      | exact (th_st h).elim
      | (have := st_i h; omega)
  rw [if_neg c36] at h
  by_cases c37 : x.1 = 37
  · rw [if_pos c37] at h
    repeat' split at h
    all_goals first
      | exact (go_st h).elim
      | exact (rz_st h).elim
      | exact (th_st h).elim
      | (have := st_i h; omega)
  rw [if_neg c37] at h
  by_cases c38 : x.1 = 38
  · rw [if_pos c38] at h
    exact (go_st h).elim
  rw [if_neg c38] at h
  by_cases c39 : x.1 = 39
  · rw [if_pos c39] at h
    repeat' split at h
    all_goals first
      | exact (go_st h).elim
      | exact (rz_st h).elim
      | exact (th_st h).elim
      | (have := st_i h; omega)
  rw [if_neg c39] at h
  by_cases c40 : x.1 = 40
  · rw [if_pos c40] at h
    repeat' split at h
    all_goals first
      | exact (go_st h).elim
      | exact (rz_st h).elim
      | exact (th_st h).elim
      | (have := st_i h; omega)
  rw [if_neg c40] at h
  by_cases c41 : x.1 = 41
  · rw [if_pos c41] at h
    repeat' split at h
    all_goals first
      | exact (go_st h).elim
      | exact (rz_st h).elim
      | exact (th_st h).elim
      | (have := st_i h; omega)
  rw [if_neg c41] at h
  by_cases c42 : x.1 = 42
  · rw [if_pos c42] at h
    repeat' split at h
    all_goals first
      | exact (go_st h).elim
      | exact (rz_st h).elim
      | exact (th_st h).elim
      | (have := st_i h; omega)
  rw [if_neg c42] at h
  by_cases c43 : x.1 = 43
  · rw [if_pos c43] at h
    repeat' split at h
    all_goals first
      | exact (go_st h).elim
      | exact (rz_st h).elim
      | exact (th_st h).elim
      | (have := st_i h; omega)
  rw [if_neg c43] at h
  by_cases c44 : x.1 = 44
  · rw [if_pos c44] at h
    exact (go_st h).elim
  rw [if_neg c44] at h
  exact (go_st h).elim
theorem sp_end {R : Nat × Int × jM} (h : mSp p inp m i x = .inr R) : R.1 < 5 := by
  have tw : ∀ (m2 : jM) (r : Nat), mTw p m2 r = .inr R → R.1 < 5 := fun m2 r q => by
    unfold mTw at q
    split at q
    · cases q
    · cases q; show (1 : Nat) < 5; decide
  unfold mSp at h
  split at h
  · cases h
  · rename_i q hq
    cases h
    exact ef_s5 hq
  · exact tw _ _ h
  · split at h
    · cases h; show (3 : Nat) < 5; decide
    · exact tw _ _ h
/-- what a run leaves as it was -/
def mkX (S S' : nk_S) : Prop := S'.2 = S.2 ∧ ∀ a, a < 113 ∨ 120 < a → S'.1 a = S.1 a
theorem iR_if {b : Bool} {y : Int} (h : iR y) : iR (if b = true then y else nk_w (y + 1)) := by
  split
  · exact h
  · exact iR_w _
/-- the class's loop -/
theorem x_exL (hwf : pWf tx p) (hk : pKX p Q) (hI : pIn (pFF p) (pZZ p) (pLc p) (pTy p) m0 A σ) (hin0 : ∀ k, 256 ≤ k → inp k = 0) (hiR : ∀ k, iR (inp k)) {fuel : Nat} (hfu : fuel ≤ 20000) : ∀ (c s : Nat) (m : jM) (y : Int) (S : nk_S) (g : Nat), c + s = fuel → c + 2 ≤ g → cXx S Q p A σ → mOk p m → mLw m → cMm S m → (∀ k, k < 256 → S.1 112 k = inp k) → S.1 113 12 = 5 → S.1 113 14 = (s : Int) → S.1 113 16 = -1 → S.1 113 19 = y → iR y → m.rd ≤ s → m.ow ≤ s → ∃ S', ja_X2_execute_L63 g 113 (fuel : Int) (s : Int) S = some (((mRn p A σ inp c m s y).1 : Int), S') ∧ mkX S S' ∧ S'.1 113 14 = ((mRn p A σ inp c m s y).2.2.2.1 : Int) ∧ S'.1 113 15 = ((mRn p A σ inp c m s y).2.1 : Int) ∧ S'.1 113 16 = (mRn p A σ inp c m s y).2.2.1 ∧ S'.1 113 19 = (mRn p A σ inp c m s y).2.2.2.2.1 ∧ iR (mRn p A σ inp c m s y).2.2.2.2.1 ∧ cIo S' (mRn p A σ inp c m s y).2.2.2.2.2.2.2.2.2.2 := by
  intro c
  induction c with
  | zero =>
    intro s m y S g hcs hg h hm hl hc hin h12 h14 h16 h19 hy hrd how
    obtain ⟨g, rfl⟩ : ∃ q, g = q + 2 := ⟨g - 2, by omega⟩
    have h5 := hc.1.1.1
    have hd := hc.1.1.2
    have e115 := (hc.1.2.1 m.d (Nat.le_refl _)).1
    have e0 : fuel = s := by omega
    subst e0
    rw [mRn]
    refine ⟨nk_wi (nk_wi S 113 12 2) 113 15 (m.pc m.d : Int), ?_, ⟨rfl, fun a ha => by rw [wi_n (by omega), wi_n (by omega)]⟩, ?_, ?_, ?_, ?_, hy, ?_⟩
    · rw [ja_X2_execute_L63]
      unfold ja_X2_execute_b63
      rw [if_neg (by omega), if_pos h12, h14, if_neg (by omega), h5, if_pos (in_i (N := 64) (by omega)), jc_113_3, Int.toNat_natCast, e115]
      unfold ja_X2_finish
      rw [lt_eq, lt_eq, bd_some, w_nat1 (by omega), lt_eq, ja_X2_execute_L63]
      unfold ja_X2_execute_b63
      rw [if_pos (by omega), wi_at, if_neg (by decide), wi_at, if_pos rfl]
      rfl
    · rw [wi_at, if_neg (by decide), wi_at, if_neg (by decide)]; exact h14
    · rw [wi_at, if_pos rfl]
    · rw [wi_at, if_neg (by decide), wi_at, if_neg (by decide)]; exact h16
    · rw [wi_at, if_neg (by decide), wi_at, if_neg (by decide)]; exact h19
    · exact cIo_c (S := S) (by rw [wi_at, if_neg (by decide), wi_at, if_neg (by decide)]) (by rw [wi_at, if_neg (by decide), wi_at, if_neg (by decide)]) (by rw [wi_n (by decide), wi_n (by decide)]) hc.2.2
  | succ c ih =>
    intro s m y S g hcs hg h hm hl hc hin h12 h14 h16 h19 hy hrd how
    obtain ⟨g, rfl⟩ : ∃ q, g = q + 1 := ⟨g - 1, by omega⟩
    obtain ⟨x, t, ht⟩ := hm.2.2.1
    obtain ⟨b1, b2, b3, b4, b5⟩ := x_at hk hm ht hc
    -- the step is counted
    obtain ⟨T, hT⟩ : ∃ T, T = nk_wi S 113 14 ((s + 1 : Nat) : Int) := ⟨_, rfl⟩
    have tn : ∀ a, a ≠ 113 → T.1 a = S.1 a := fun a ha => by rw [hT, wi_n ha]
    have tf : ∀ k, T.1 113 k = if k = 14 then ((s + 1 : Nat) : Int) else S.1 113 k := fun k => by rw [hT, wi_at]
    have hcT : cMm T m := by rw [hT]; exact x_113 (by decide) hc
    have hXT : cXx T Q p A σ := ⟨h.1, by rw [hT]; exact h.2.1, ldC_c h.1 (fun a ha => tn a (by have := h.1; omega)) h.2.2⟩
    obtain ⟨bb, a1, a2⟩ := x_asP hwf hk hXT hI hm ht hcT hl
    have hbb : bb = hOb p A m := by
      unfold hOb
      cases bb with
      | true => exact (@decide_eq_true _ (Classical.propDecidable _) (a2.mp rfl)).symm
      | false => exact (@decide_eq_false _ (Classical.propDecidable _) (fun q => by have := a2.mpr q; cases this)).symm
    -- stray
    obtain ⟨U, hU⟩ : ∃ U, U = nk_wi T 113 13 (bi (!bb)) := ⟨_, rfl⟩
    have un : ∀ a, a ≠ 113 → U.1 a = T.1 a := fun a ha => by rw [hU, wi_n ha]
    have uf : ∀ k, U.1 113 k = if k = 13 then bi (!bb) else T.1 113 k := fun k => by rw [hU, wi_at]
    have hcU : cMm U m := by rw [hU]; exact x_113 (by decide) hcT
    have hXU : cXx U Q p A σ := ⟨h.1, by rw [hU]; exact hXT.2.1, ldC_c h.1 (fun a ha => un a (by have := h.1; omega)) hXT.2.2⟩
    have h5U := hcU.1.1.1
    have e115U := (hcU.1.2.1 m.d (Nat.le_refl _)).1
    obtain ⟨V, v1, v2, v3, v4⟩ := x_sp hwf hk hXU hm ht hcU (inp := inp) (fun k hk' => by rw [un 112 (by decide), tn 112 (by decide)]; exact hin k hk') hin0 (by omega) (by omega) rfl (ja_X2_execute_b159 (ja_X2_execute_L63 g) 113 (fuel : Int) (s : Int))
    obtain ⟨y', hy'⟩ : ∃ y', y' = if (hOb p A m && !mSx p A σ inp m (m.pc m.d) x) = true then y else nk_w (y + 1) := ⟨_, rfl⟩
    have hyR : iR y' := by rw [hy']; exact iR_if hy
    have v19 : V.1 113 19 = y := by rw [v2.2.2 19 (Or.inr rfl), uf, if_neg (by decide), tf, if_neg (by decide)]; exact h19
    -- what is counted
    obtain ⟨W, hW⟩ : ∃ W, W = nk_wi V 113 19 y' := ⟨_, rfl⟩
    have hgo : ja_X2_execute_L63 (g + 1) 113 (fuel : Int) (s : Int) S = ja_X2_execute_L63 g 113 (fuel : Int) ((s + 1 : Nat) : Int) W := by
      have h159 : ja_X2_execute_b159 (ja_X2_execute_L63 g) 113 (fuel : Int) (s : Int) V = ja_X2_execute_L63 g 113 (fuel : Int) ((s + 1 : Nat) : Int) W := by
        unfold ja_X2_execute_b159
        rw [v3, uf, if_pos rfl, v19, w_nat1 (by omega), lt_eq, lt_eq, lt_eq, lt_eq, hW, hy', ← hbb]
        cases mSx p A σ inp m (m.pc m.d) x with
        | true =>
          rw [if_pos rfl, if_neg (by decide), Bool.not_true, Bool.and_false, if_neg (by decide)]
        | false =>
          rw [if_neg (show ¬ false = true by decide), Bool.not_false, Bool.and_true]
          cases bb with
          | true =>
            have : nk_w (y + 0) = y := by rw [Int.add_zero]; exact nk_w_id (by unfold iR at hy; omega) (by unfold iR at hy; omega)
            rw [if_pos (show bi (!true) = 0 from rfl), if_pos rfl, this]
          | false => rw [if_neg (show ¬ bi (!false) = 0 by decide), if_neg (show ¬ false = true by decide)]
      have h124 : ja_X2_execute_b124 (ja_X2_execute_L63 g) 113 (fuel : Int) (s : Int) 113 (bi (!bb)) T = ja_X2_execute_L63 g 113 (fuel : Int) ((s + 1 : Nat) : Int) W := by
        unfold ja_X2_execute_b124
        rw [if_pos (by cases bb <;> decide), lt_eq, ← hU, h5U, if_pos (in_i (N := 64) (by omega)), lt_eq, jc_113_3, Int.toNat_natCast, e115U]
        exact v1.trans h159
      rw [ja_X2_execute_L63]
      unfold ja_X2_execute_b63
      rw [if_neg (by omega), if_pos h12, h14, if_pos (by omega), w_nat1 (by omega), lt_eq, ← hT, a1, bd_some]
      cases bb with
      | true => rw [if_neg (show ¬ bi true = 0 by decide)]; exact h124
      | false => rw [if_pos (show bi false = 0 from rfl)]; exact h124
    have wn : ∀ a, a ≠ 113 → W.1 a = V.1 a := fun a ha => by rw [hW, wi_n ha]
    have wf : ∀ k, W.1 113 k = if k = 19 then y' else V.1 113 k := fun k => by rw [hW, wi_at]
    have hX : mkX S W := ⟨by rw [hW]; show V.2 = S.2; rw [v2.1, hU]; show T.2 = S.2; rw [hT]; rfl, fun a ha => by rw [wn a (by omega), v2.2.1 a ha, un a (by omega), tn a (by omega)]⟩
    have w14 : W.1 113 14 = ((s + 1 : Nat) : Int) := by rw [wf, if_neg (by decide), v2.2.2 14 (Or.inl rfl), uf, if_neg (by decide), tf, if_pos rfl]
    have w19 : W.1 113 19 = y' := by rw [wf, if_pos rfl]
    have u12 : U.1 113 12 = 5 := by rw [uf, if_neg (by decide), tf, if_neg (by decide)]; exact h12
    have u16 : U.1 113 16 = -1 := by rw [uf, if_neg (by decide), tf, if_neg (by decide)]; exact h16
    rw [hgo, mRn, ht.1]
    dsimp only
    rw [← hy']
    cases hS : mSp p inp m (m.pc m.d) x with
    | inl m2 =>
      rw [hS] at v4
      obtain ⟨d1, d2, d3, d4⟩ := v4
      have hcW : cMm W m2 := by rw [hW]; exact x_113 (by decide) d1
      have hm2 := k_sp hwf hk hm ht hiR hS
      obtain ⟨hl2, io1, io2⟩ := lw_sp hwf hk hm ht hl hS
      obtain ⟨S', r1, r2, r3⟩ := ih (s + 1) m2 y' W g (by omega) (by omega) ⟨h.1, by rw [hX.1]; exact h.2.1, ldC_c h.1 (fun a ha => hX.2 a (by have := h.1; omega)) h.2.2⟩ hm2 hl2 hcW (fun k hk' => by rw [hX.2 112 (by omega)]; exact hin k hk') (by rw [wf, if_neg (by decide), d2]; exact u12) w14 (by rw [wf, if_neg (by decide), d4]; exact u16) w19 hyR (by omega) (by omega)
      exact ⟨S', r1, ⟨r2.1.trans hX.1, fun a ha => (r2.2 a ha).trans (hX.2 a ha)⟩, r3⟩
    | inr R =>
      rw [hS] at v4
      obtain ⟨d1, d2, d3, d4⟩ := v4
      have hR := sp_end hS
      obtain ⟨g, rfl⟩ : ∃ q, g = q + 1 := ⟨g - 1, by omega⟩
      refine ⟨W, ?_, hX, w14, ?_, ?_, w19, hyR, ?_⟩
      · rw [ja_X2_execute_L63]
        unfold ja_X2_execute_b63
        have w12 : W.1 113 12 = (R.1 : Int) := by rw [wf, if_neg (by decide)]; exact d1
        by_cases cf : (fuel : Int) < ((s + 1 : Nat) : Int)
        · rw [if_pos cf, w12]
        · rw [if_neg cf, w12, if_neg (by omega)]
      · rw [wf, if_neg (by decide)]; exact d2
      · rw [wf, if_neg (by decide), d3, u16]
      · exact cIo_c (S := V) (by rw [wf, if_neg (by decide)]) (by rw [wf, if_neg (by decide)]) (wn 120 (by decide)) d4
end CRN
