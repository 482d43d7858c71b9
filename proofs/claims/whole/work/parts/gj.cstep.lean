/-! The run: the class throws; one step. -/
/-- is a step a stray, beside what was proved -/
noncomputable def mSx (p : jP) (A : jA) (σ : jG) (inp : Nat → Int) (m : jM) (i : Nat) (x : jC) : Bool := match mEf p inp m i x with
  | .inr (.inl e) => !fnd p A σ i x e
  | _ => false
/-- what comes of a step, in the class -/
def spO (S S' : nk_S) (i : Nat) (T : jT) : Prop := match T with
  | .inl m' => cMm S' m' ∧ S'.1 113 12 = S.1 113 12 ∧ S'.1 113 15 = S.1 113 15 ∧ S'.1 113 16 = S.1 113 16
  | .inr R => S'.1 113 12 = (R.1 : Int) ∧ S'.1 113 15 = (i : Int) ∧ S'.1 113 16 = (if R.1 = 1 then R.2.1 else S.1 113 16) ∧ cIo S' R.2.2.2.2.2.2.2
/-- what a step leaves as it was -/
def mkG (S S' : nk_S) : Prop := S'.2 = S.2 ∧ (∀ a, a < 113 ∨ 120 < a → S'.1 a = S.1 a) ∧ ∀ f, f = 14 ∨ f = 19 → S'.1 113 f = S.1 113 f
section CSP
variable {p : jP} {m m' m1 : jM} {Q : Nat} {tx : List (List Int)} {x : jC} {t : Nat → Int} {inp : Nat → Int} {S S' : nk_S} {A : jA} {σ : jG} {i : Nat}
theorem x_dropv (h : cMm S m) {S1 : nk_S} (h1 : ja_X2_drop 113 (m.hs m.d : Int) S = some (0, S1)) : S1 = nk_wi S 116 m.d 0 := by
  obtain ⟨⟨⟨a1, hd⟩, h2, h3⟩, -⟩ := id h
  unfold ja_X2_drop at h1
  rw [a1, if_pos (in_i (N := 64) (by omega)), lt_eq, jc_113_4, Int.toNat_natCast, (h2 m.d (Nat.le_refl _)).2.1, Int.sub_self] at h1
  cases h1
  rfl
theorem x_tossL (hwf : pWf tx p) (hk : pKX p Q) (hm : mOk p m) {r : Nat} (hr1 : 1 ≤ r) (hr : r ≤ m.n) {i : Int} : ∀ (f c l4 g : Nat) (S : nk_S), f ≤ m.d → f < c → f + l4 < 64 → f < g → cXx S Q p A σ → cMm S ((f, m.2) : jM) → ∃ S', ja_X2_throwObject_L12 g 113 i (r : Int) (m.si (r - 1) : Int) (l4 : Int) S = some (0, S') ∧ (match mTs p r c ((f, m.2) : jM) with
    | some m' => mkF S S' ∧ cMm S' m'
    | none => mkG S S' ∧ S'.1 113 13 = S.1 113 13 ∧ S'.1 113 12 = 1 ∧ S'.1 113 15 = i ∧ S'.1 113 16 = (m.si (r - 1) : Int) ∧ cIo S' m.2.2.2.2.2) := by
  obtain ⟨c1, c2, c3, c4, c5, c6, c7, c8⟩ := p_ctx hwf hk
  have hv := hm.2.1.2.2.2.2.1 (r - 1) (by omega)
  have h54 := sV_54 c8 _ hv
  intro f
  induction f with
  | zero => ?_
  | succ f ih => ?_
  all_goals
    intro c l4 g S hf hc hl hg h hcm
    obtain ⟨c, rfl⟩ : ∃ q, c = q + 1 := ⟨c - 1, by omega⟩
    obtain ⟨g, rfl⟩ : ∃ q, g = q + 1 := ⟨g - 1, by omega⟩
    obtain ⟨x0, t0, q1, q2, q3⟩ := fr_at hm hf
    have hlt1 := at_lt q1
    have hlt2 := hwf.1.2.2.2.2.2.2.2.2.2.2.1.1
    have h5 := hcm.1.1.1
    have e115 := (hcm.1.2.1 _ (Nat.le_refl _)).1
    obtain ⟨rr, g1, g2, g3⟩ := x_catch hwf hk h q1 (Nat.lt_of_lt_of_le hlt1 hlt2) (c4 _ hv).1
    rw [mTs]
  · have e1 : jM.pc ((0, m.2) : jM) (jM.d ((0, m.2) : jM)) = m.pc 0 := rfl
    have e2 : jM.si ((0, m.2) : jM) (r - 1) = m.si (r - 1) := rfl
    rw [e1, e2]
    have h5 : S.1 113 5 = ((0 : Nat) : Int) := h5
    have e115 : S.1 115 0 = (m.pc 0 : Int) := e115
    have hd : ja_X2_throwObject_L12 (g + 1) 113 i (r : Int) (m.si (r - 1) : Int) (l4 : Int) S = ja_X2_throwObject_b12 (ja_X2_throwObject_L12 g) 113 i (r : Int) (m.si (r - 1) : Int) (l4 : Int) S := rfl
    rw [hd]
    unfold ja_X2_throwObject_b12
    rw [if_neg (by omega), h5, if_pos (in_i (N := 64) (by omega)), if_pos (in_i (N := 54) (by omega)), jc_113_3, jc_113_4, Int.toNat_natCast, Int.toNat_natCast, e115, h.2.1, (jc_Qp h.1).2.2.2.2.2.2.2.1, x_site h hv h54, g1, bd_some]
    cases hm1 : mCt p (m.pc 0) (sTp p.2.2.2.2.1 (m.si (r - 1))) p.2.2.2.2.1.2.2.1.length 0 with
    | none =>
      rw [g2 hm1, if_pos (by decide), h5, if_pos (by decide), lt_eq]
      unfold ja_X2_finish
      rw [lt_eq, lt_eq, bd_some]
      dsimp only
      rw [if_pos rfl]
      refine ⟨_, rfl, ⟨rfl, fun a ha => by rw [wi_n (by omega), wi_n (by omega), wi_n (by omega)], fun f hf => by rw [wi_at, if_neg (by omega), wi_at, if_neg (by omega), wi_at, if_neg (by omega)]⟩, by rw [wi_at, if_neg (by decide), wi_at, if_neg (by decide), wi_at, if_neg (by decide)], by rw [wi_at, if_neg (by decide), wi_at, if_pos rfl], by rw [wi_at, if_pos rfl], by rw [wi_at, if_neg (by decide), wi_at, if_neg (by decide), wi_at, if_pos rfl], ?_⟩
      exact cIo_c (S := S) (by rw [wi_at, if_neg (by decide), wi_at, if_neg (by decide), wi_at, if_neg (by decide)]) (by rw [wi_at, if_neg (by decide), wi_at, if_neg (by decide), wi_at, if_neg (by decide)]) (by rw [wi_n (by decide), wi_n (by decide), wi_n (by decide)]) hcm.2.2
    | some j =>
      obtain ⟨c', d1, d2, d3⟩ := g3 j hm1
      obtain ⟨S1, w1, w2, w3⟩ := x_drop hcm (k := m.hs 0) (Nat.le_refl _)
      have w1' : S1 = nk_wi S 116 0 0 := x_dropv hcm w1
      obtain ⟨S2, u1, u2, u3⟩ := x_push w3 (show gU m.hs 0 (m.hs 0 - m.hs 0) 0 < 8 by rw [gU_at, Nat.sub_self]; omega) (2, (r : Int))
      obtain ⟨v1, v2⟩ := x_goto u3 j
      have s25 : S2.1 113 5 = ((0 : Nat) : Int) := u3.1.1.1
      have hF2 : mkF S S2 := mkF_trans (mbF_m w2) (mbF_m u2)
      rw [d1, if_neg (by omega), h5, if_pos (in_i (N := 64) (by omega)), Int.toNat_natCast, lt_eq, ← w1', x_ref (by omega) (by have := hm.2.1.2.1; omega), bd_some, u1, bd_some, if_pos (in_i (N := 64) (by omega)), s25, if_pos (in_i (N := 64) (by omega)), hF2.1, h.2.1, (jc_Qp h.1).2.2.2.2.2.2.2.2.2.2.1, Int.toNat_natCast, Int.toNat_natCast, hF2.2.1 (Q + 34) (by have := h.1; omega), d3, lt_eq]
      exact ⟨_, rfl, mkF_trans hF2 (mbF_m v1), v2⟩
  · have e1 : jM.pc ((f + 1, m.2) : jM) (jM.d ((f + 1, m.2) : jM)) = m.pc (f + 1) := rfl
    have e2 : jM.si ((f + 1, m.2) : jM) (r - 1) = m.si (r - 1) := rfl
    rw [e1, e2]
    have h5 : S.1 113 5 = ((f + 1 : Nat) : Int) := h5
    have e115 : S.1 115 (f + 1) = (m.pc (f + 1) : Int) := e115
    have hd : ja_X2_throwObject_L12 (g + 1) 113 i (r : Int) (m.si (r - 1) : Int) (l4 : Int) S = ja_X2_throwObject_b12 (ja_X2_throwObject_L12 g) 113 i (r : Int) (m.si (r - 1) : Int) (l4 : Int) S := rfl
    rw [hd]
    unfold ja_X2_throwObject_b12
    rw [if_neg (by omega), h5, if_pos (in_i (N := 64) (by omega)), if_pos (in_i (N := 54) (by omega)), jc_113_3, jc_113_4, Int.toNat_natCast, Int.toNat_natCast, e115, h.2.1, (jc_Qp h.1).2.2.2.2.2.2.2.1, x_site h hv h54, g1, bd_some]
    cases hm1 : mCt p (m.pc (f + 1)) (sTp p.2.2.2.2.1 (m.si (r - 1))) p.2.2.2.2.1.2.2.1.length 0 with
    | none =>
      have e5 : ∀ _ : Unit, nk_w (((f + 1 : Nat) : Int) - 1) = (f : Int) := fun _ => by rw [nk_w_id (by omega) (by omega)]; omega
      rw [g2 hm1, if_pos (by decide), h5, if_neg (by omega), e5 (), lt_eq, w_nat1 (by omega), lt_eq]
      dsimp only
      rw [if_neg (show ¬ f + 1 = 0 by omega)]
      obtain ⟨T, hT⟩ : ∃ T, T = nk_wi S 113 5 (f : Int) := ⟨_, rfl⟩
      have tn : ∀ a, a ≠ 113 → T.1 a = S.1 a := fun a ha => by rw [hT, wi_n ha]
      have tf : ∀ k, T.1 113 k = if k = 5 then (f : Int) else S.1 113 k := fun k => by rw [hT, wi_at]
      have hF : mkF S T := ⟨by rw [hT]; rfl, fun a ha => tn a (by omega), fun k hk => by rw [tf, if_neg (by omega)]⟩
      have hcT : cMm T ((f, m.2) : jM) := by
        obtain ⟨⟨r1, r2⟩, r3, r4⟩ := hcm.1
        refine ⟨⟨⟨by rw [tf, if_pos rfl], show f < 64 by omega⟩, fun k hk' => ?_, fun k j hk' hj => ?_⟩, cHp_c (S := S) (by rw [tf, if_neg (by decide)]) (fun a ha => tn a (by omega)) hcm.2.1, cIo_c (S := S) (by rw [tf, if_neg (by decide)]) (by rw [tf, if_neg (by decide)]) (tn 120 (by decide)) hcm.2.2⟩
        · have hk' : k ≤ f := hk'
          rw [tn 115 (by decide), tn 116 (by decide)]
          exact r3 k (show k ≤ f + 1 by omega)
        · have hk' : k ≤ f := hk'
          rw [tn 114 (by decide)]
          exact r4 k j (show k ≤ f + 1 by omega) hj
      rw [← hT]
      obtain ⟨S', z1, z2⟩ := ih c (l4 + 1) g T (by omega) (by omega) (by omega) (by omega) (cXx_f hF h) hcT
      refine ⟨S', z1, ?_⟩
      have eb : jM.bck ((f + 1, m.2) : jM) = ((f, m.2) : jM) := rfl
      rw [eb]
      cases hts : mTs p r c ((f, m.2) : jM) with
      | some m' =>
        rw [hts] at z2
        exact ⟨mkF_trans hF z2.1, z2.2⟩
      | none =>
        rw [hts] at z2
        obtain ⟨⟨y1, y2, y3⟩, y4, y5⟩ := z2
        exact ⟨⟨y1.trans hF.1, fun a ha => (y2 a ha).trans (hF.2.1 a ha), fun k hk => (y3 k hk).trans (hF.2.2 k (by omega))⟩, by rw [y4]; exact hF.2.2 13 (by omega), y5⟩
    | some j =>
      obtain ⟨c', d1, d2, d3⟩ := g3 j hm1
      obtain ⟨S1, w1, w2, w3⟩ := x_drop hcm (k := m.hs (f + 1)) (Nat.le_refl _)
      have w1' : S1 = nk_wi S 116 (f + 1) 0 := x_dropv hcm w1
      obtain ⟨S2, u1, u2, u3⟩ := x_push w3 (show gU m.hs (f + 1) (m.hs (f + 1) - m.hs (f + 1)) (f + 1) < 8 by rw [gU_at, Nat.sub_self]; omega) (2, (r : Int))
      obtain ⟨v1, v2⟩ := x_goto u3 j
      have s25 : S2.1 113 5 = ((f + 1 : Nat) : Int) := u3.1.1.1
      have hF2 : mkF S S2 := mkF_trans (mbF_m w2) (mbF_m u2)
      rw [d1, if_neg (by omega), h5, if_pos (in_i (N := 64) (by omega)), Int.toNat_natCast, lt_eq, ← w1', x_ref (by omega) (by have := hm.2.1.2.1; omega), bd_some, u1, bd_some, if_pos (in_i (N := 64) (by omega)), s25, if_pos (in_i (N := 64) (by omega)), hF2.1, h.2.1, (jc_Qp h.1).2.2.2.2.2.2.2.2.2.2.1, Int.toNat_natCast, Int.toNat_natCast, hF2.2.1 (Q + 34) (by have := h.1; omega), d3, lt_eq]
      exact ⟨_, rfl, mkF_trans hF2 (mbF_m v1), v2⟩
theorem st_i {a b : Nat} (h : jE.st a = jE.st b) : a = b := by unfold jE.st at h; cases h; rfl
theorem go_st {a : jM} {b : Nat} (h : jE.go a = jE.st b) : False := by unfold jE.go jE.st at h; cases h
theorem rz_st {a b : Nat} (h : jE.rz a = jE.st b) : False := by unfold jE.rz jE.st at h; cases h
theorem th_st {a b : Nat} (h : jE.th a = jE.st b) : False := by unfold jE.th jE.st at h; cases h
theorem ef_st {e : Nat} (h : mEf p inp m i x = jE.st e) : e ≠ 1 := by
  unfold mEf at h
  by_cases c0 : x.1 = 0
  · rw [if_pos c0] at h
    exact (go_st h).elim
  rw [if_neg c0] at h
  by_cases c1 : x.1 = 1
  · rw [if_pos c1] at h
    exact (go_st h).elim
  rw [if_neg c1] at h
  by_cases c2 : x.1 = 2
  · rw [if_pos c2] at h
    exact (go_st h).elim
  rw [if_neg c2] at h
  by_cases c3 : x.1 = 3
  · rw [if_pos c3] at h
    exact (go_st h).elim
  rw [if_neg c3] at h
  by_cases c4 : x.1 = 4
  · rw [if_pos c4] at h
    exact (go_st h).elim
  rw [if_neg c4] at h
  by_cases c5 : x.1 = 5
  · rw [if_pos c5] at h
    exact (go_st h).elim
  rw [if_neg c5] at h
  by_cases c6 : x.1 = 6
  · rw [if_pos c6] at h
    exact (go_st h).elim
  rw [if_neg c6] at h
  by_cases c7 : x.1 = 7
  · rw [if_pos c7] at h
    exact (go_st h).elim
  rw [if_neg c7] at h
  by_cases c17 : x.1 ≤ 17
  · rw [if_pos c17] at h
    repeat' split at h
    all_goals first
      | exact (go_st h).elim
      | exact (rz_st h).elim
      | exact (th_st h).elim
      | (have := st_i h; omega)
  rw [if_neg c17] at h
  by_cases c18 : x.1 = 18
  · rw [if_pos c18] at h
    exact (go_st h).elim
  rw [if_neg c18] at h
  by_cases c19 : x.1 = 19
  · rw [if_pos c19] at h
    exact (go_st h).elim
  rw [if_neg c19] at h
  by_cases c29 : x.1 ≤ 29
  · rw [if_pos c29] at h
    exact (go_st h).elim
  rw [if_neg c29] at h
  by_cases c30 : x.1 = 30
  · rw [if_pos c30] at h
    repeat' split at h
    all_goals first
      | exact (go_st h).elim
      | exact (rz_st h).elim
      | exact (th_st h).elim
      | (have := st_i h; omega)
  rw [if_neg c30] at h
  by_cases c31 : x.1 = 31
  · rw [if_pos c31] at h
    repeat' split at h
    all_goals first
      | exact (go_st h).elim
      | exact (rz_st h).elim
      | exact (th_st h).elim
      | (have := st_i h; omega)
  rw [if_neg c31] at h
  by_cases c32 : x.1 = 32
  · rw [if_pos c32] at h
    repeat' split at h
    all_goals first
      | exact (go_st h).elim
      | exact (rz_st h).elim
      | exact (th_st h).elim
      | (have := st_i h; omega)
  rw [if_neg c32] at h
  by_cases c33 : x.1 = 33
  · rw [if_pos c33] at h
    repeat' split at h
    all_goals first
      | exact (go_st h).elim
      | exact (rz_st h).elim
      | exact (th_st h).elim
      | (have := st_i h; omega)
  rw [if_neg c33] at h
  by_cases c34 : x.1 = 34
  · rw [if_pos c34] at h
    repeat' split at h
    all_goals first
      | exact (go_st h).elim
      | exact (rz_st h).elim
      | exact (th_st h).elim
      | (have := st_i h; omega)
  rw [if_neg c34] at h
  by_cases c35 : x.1 = 35
  · rw [if_pos c35] at h
    repeat' split at h
    all_goals first
      | exact (go_st h).elim
      | exact (rz_st h).elim
      | exact (th_st h).elim
      | (have := st_i h; omega)
  rw [if_neg c35] at h
  by_cases c36 : x.1 = 36
  · rw [if_pos c36] at h
    repeat' split at h
    all_goals first
      | exact (go_st h).elim
      | exact (rz_st h).elim
      | exact (th_st h).elim
      | (have := st_i h; omega)
  rw [if_neg c36] at h
  by_cases c37 : x.1 = 37
  · rw [if_pos c37] at h
    repeat' split at h
    all_goals first
      | exact (go_st h).elim
      | exact (rz_st h).elim
      | exact (th_st h).elim
      | (have := st_i h; omega)
  rw [if_neg c37] at h
  by_cases c38 : x.1 = 38
  · rw [if_pos c38] at h
    exact (go_st h).elim
  rw [if_neg c38] at h
  by_cases c39 : x.1 = 39
  · rw [if_pos c39] at h
    repeat' split at h
    all_goals first
      | exact (go_st h).elim
      | exact (rz_st h).elim
      | exact (th_st h).elim
      | (have := st_i h; omega)
  rw [if_neg c39] at h
  by_cases c40 : x.1 = 40
  · rw [if_pos c40] at h
    repeat' split at h
    all_goals first
      | exact (go_st h).elim
      | exact (rz_st h).elim
      | exact (th_st h).elim
      | (have := st_i h; omega)
  rw [if_neg c40] at h
  by_cases c41 : x.1 = 41
  · rw [if_pos c41] at h
    repeat' split at h
    all_goals first
      | exact (go_st h).elim
      | exact (rz_st h).elim
      | exact (th_st h).elim
      | (have := st_i h; omega)
  rw [if_neg c41] at h
  by_cases c42 : x.1 = 42
  · rw [if_pos c42] at h
    repeat' split at h
    all_goals first
      | exact (go_st h).elim
      | exact (rz_st h).elim
      | exact (th_st h).elim
      | (have := st_i h; omega)
  rw [if_neg c42] at h
  by_cases c43 : x.1 = 43
  · rw [if_pos c43] at h
    repeat' split at h
    all_goals first
      | exact (go_st h).elim
      | exact (rz_st h).elim
      | exact (th_st h).elim
      | (have := st_i h; omega)
  rw [if_neg c43] at h
  by_cases c44 : x.1 = 44
  · rw [if_pos c44] at h
    exact (go_st h).elim
  rw [if_neg c44] at h
  exact (go_st h).elim
theorem mkG_f (h : mkF S S') : mkG S S' := ⟨h.1, h.2.1, fun f hf => h.2.2 f (by omega)⟩
theorem mkG_trans {S1 S2 S3 : nk_S} (h : mkG S1 S2) (k : mkG S2 S3) : mkG S1 S3 := ⟨k.1.trans h.1, fun a q => (k.2.1 a q).trans (h.2.1 a q), fun f q => (k.2.2 f q).trans (h.2.2 f q)⟩
/-- an object is thrown -/
theorem x_toss (hwf : pWf tx p) (hk : pKX p Q) (hm : mOk p m) {r : Nat} (hr1 : 1 ≤ r) (hr : r ≤ m.n) (h : cXx S Q p A σ) (hc : cMm S m) (i : Nat) : ∃ S', ja_X2_throwObject 113 (i : Int) (r : Int) S = some (0, S') ∧ mkG S S' ∧ S'.1 113 13 = S.1 113 13 ∧ spO S S' i (mTw p m r) := by
  have hn := hm.2.1.2.1
  have hd := hm.1
  obtain ⟨bm, hbm⟩ := big_ge 100 (by decide)
  obtain ⟨S', g1, g2⟩ := x_tossL (A := A) (σ := σ) hwf hk hm hr1 hr (i := (i : Int)) m.d 64 0 nk_big S (Nat.le_refl _) (by omega) (by omega) (by omega) h hc
  have g1 : ja_X2_throwObject_L12 nk_big 113 (i : Int) (r : Int) (m.si (r - 1) : Int) 0 S = some (0, S') := g1
  have e1 : ∀ _ : Unit, nk_w ((r : Int) - 1) = ((r - 1 : Nat) : Int) := fun _ => by rw [nk_w_id (by omega) (by omega)]; omega
  have h17 : S.1 117 (r - 1) = (m.si (r - 1) : Int) := hc.2.1.2.1 (r - 1) (show r - 1 < m.n by omega)
  have em : ((m.d, m.2) : jM) = m := rfl
  rw [em] at g2
  have hth : ja_X2_throwObject 113 (i : Int) (r : Int) S = some (0, S') := by
    unfold ja_X2_throwObject
    rw [e1 (), if_pos (in_i (N := 2000) (by omega)), jc_113_6, Int.toNat_natCast, h17, lt_eq, g1]
  refine ⟨S', hth, ?_⟩
  unfold mTw
  cases hts : mTs p r 64 m with
  | some m' =>
    rw [hts] at g2
    obtain ⟨y1, y2⟩ := g2
    exact ⟨mkG_f y1, y1.2.2 13 (by omega), y2, y1.2.2 12 (by omega), y1.2.2 15 (by omega), y1.2.2 16 (by omega)⟩
  | none =>
    rw [hts] at g2
    obtain ⟨y1, y2, y3, y4, y5, y6⟩ := g2
    exact ⟨y1, y2, y3, y4, by rw [y5]; rfl, y6⟩
theorem cXx_g (hF : mkG S S') (h : cXx S Q p A σ) : cXx S' Q p A σ := ⟨h.1, by rw [hF.1]; exact h.2.1, ldC_c h.1 (fun a ha => hF.2.1 a (by have := h.1; omega)) h.2.2⟩
theorem tS_120 {T : nk_S} {b : Bool} (hT : T = if b = true then S else nk_wi S 113 13 1) : T.1 120 = S.1 120 := by
  rw [hT]
  split
  · rfl
  · exact wi_n (by decide)
/-- one step of the class -/
theorem x_sp (hwf : pWf tx p) (hk : pKX p Q) (h : cXx S Q p A σ) (hm : mOk p m) (ht : mTop p m x t) (hc : cMm S m) (hin : ∀ k, k < 256 → S.1 112 k = inp k) (hin0 : ∀ k, 256 ≤ k → inp k = 0) (hrd : m.rd < 100000) (how : m.ow < 100000) {i : Nat} (hi : i = m.pc m.d) (k : nk_S → Option (Int × nk_S)) : ∃ S', (nk_bd (ja_X2_perform 113 (i : Int) S) fun r8 S9 => if r8 = 0 then k S9 else nk_bd (ja_X2_throwObject 113 (i : Int) r8 S9) fun _ S12 => k S12) = k S' ∧ mkG S S' ∧ S'.1 113 13 = (if mSx p A σ inp m i x = true then 1 else S.1 113 13) ∧ spO S S' i (mSp p inp m i x) := by
  subst hi
  obtain ⟨b1, b2, b3, b4, b5⟩ := x_at hk hm ht hc
  have hall := x_all hwf hk h hm ht hc hin hin0 hrd how
  unfold pfO at hall
  unfold mSx mSp
  cases hE : mEf p inp m (m.pc m.d) x with
  | inl m' =>
    rw [hE] at hall
    obtain ⟨S1, a1, a2, a3⟩ := hall
    refine ⟨S1, by rw [a1, bd_some, if_pos rfl], mkG_f a2, ?_, a3, a2.2.2 12 (by omega), a2.2.2 15 (by omega), a2.2.2 16 (by omega)⟩
    show _ = if false = true then 1 else _
    rw [if_neg (by decide)]
    exact a2.2.2 13 (by omega)
  | inr E2 =>
    cases E2 with
    | inl e =>
      rw [hE] at hall
      have hall : ja_X2_perform 113 (m.pc m.d : Int) S = ja_X2_raise 113 (m.pc m.d : Int) (e : Int) S := hall
      have he := ef_rz hE
      obtain ⟨T, hT⟩ : ∃ T, T = if fnd p A σ (m.pc m.d) x e = true then S else nk_wi S 113 13 1 := ⟨_, rfl⟩
      obtain ⟨g1, g2⟩ := x_raise h hm.2.1 hc ht.1 b4 he hT
      have t13 : T.1 113 13 = (if (!fnd p A σ (m.pc m.d) x e) = true then 1 else S.1 113 13) := by
        rw [hT]
        cases fnd p A σ (m.pc m.d) x e with
        | true => rfl
        | false => rw [if_neg (by decide), wi_at, if_pos rfl]; rfl
      have tS : mkG S T := by
        rw [hT]
        split
        · exact ⟨rfl, fun _ _ => rfl, fun _ _ => rfl⟩
        · exact ⟨rfl, fun a ha => wi_n (by omega), fun f hf => by rw [wi_at, if_neg (by omega)]⟩
      have tf : ∀ f, f ≠ 13 → T.1 113 f = S.1 113 f := fun f hf => by
        rw [hT]
        split
        · rfl
        · rw [wi_at, if_neg hf]
      have t120 : T.1 120 = S.1 120 := tS_120 hT
      dsimp only
      cases hmk : mMk p m (48 + e) 0 with
      | none =>
        refine ⟨nk_wi (nk_wi T 113 12 3) 113 15 (m.pc m.d : Int), by rw [hall, g1 hmk, bd_some, if_pos rfl], mkG_trans tS ⟨rfl, fun a ha => by rw [wi_n (by omega), wi_n (by omega)], fun f hf => by rw [wi_at, if_neg (by omega), wi_at, if_neg (by omega)]⟩, ?_, ?_, ?_, ?_, ?_⟩
        · rw [wi_at, if_neg (by decide), wi_at, if_neg (by decide), t13]
        · rw [wi_at, if_neg (by decide), wi_at, if_pos rfl]; rfl
        · rw [wi_at, if_pos rfl]
        · rw [wi_at, if_neg (by decide), wi_at, if_neg (by decide), tf 16 (by decide)]; rfl
        · exact cIo_c (S := S) (by rw [wi_at, if_neg (by decide), wi_at, if_neg (by decide), tf 11 (by decide)]) (by rw [wi_at, if_neg (by decide), wi_at, if_neg (by decide), tf 17 (by decide)]) (by rw [wi_n (by decide), wi_n (by decide), t120]) hc.2.2
      | some m1 =>
        obtain ⟨S1, a1, a2, a3⟩ := g2 m1 hmk
        obtain ⟨d1, d2⟩ := k_err hwf hk hm he hmk
        have hS1 : cXx S1 Q p A σ := cXx_f a2 (cXx_g tS h)
        obtain ⟨S2, u1, u2, u3, u4⟩ := x_toss hwf hk d1 (r := m.n + 1) (by omega) (by omega) hS1 a3 (m.pc m.d)
        refine ⟨S2, by rw [hall, a1, bd_some, if_neg (by omega), u1, bd_some], mkG_trans tS (mkG_trans (mkG_f a2) u2), by rw [u3, a2.2.2 13 (by omega), t13], ?_⟩
        unfold spO at u4 ⊢
        rw [a2.2.2 12 (by omega), a2.2.2 15 (by omega), a2.2.2 16 (by omega), tf 12 (by decide), tf 15 (by decide), tf 16 (by decide)] at u4
        exact u4
    | inr E3 =>
      cases E3 with
      | inl r =>
        rw [hE] at hall
        have hall : ja_X2_perform 113 (m.pc m.d : Int) S = some ((r : Int), S) := hall
        obtain ⟨q1, q2, q3⟩ := ef_th hE
        obtain ⟨z1, z2, z3⟩ := thr_at hwf hk hm ht q1
        obtain ⟨o, o1, o2, o3, o4, o5⟩ := obj_top hwf hk hm ht (k := 0) (by omega) z2 q2
        obtain ⟨S2, u1, u2, u3, u4⟩ := x_toss hwf hk hm (r := r) (by omega) (by omega) h hc (m.pc m.d)
        refine ⟨S2, by rw [hall, bd_some, if_neg (by omega), u1, bd_some], u2, ?_, u4⟩
        show _ = if false = true then 1 else _
        rw [if_neg (by decide)]
        exact u3
      | inr how' =>
        rw [hE] at hall
        have hall : ja_X2_perform 113 (m.pc m.d : Int) S = some (0, nk_wi (nk_wi S 113 12 (how' : Int)) 113 15 (m.pc m.d : Int)) := hall
        have hst := ef_st hE
        refine ⟨nk_wi (nk_wi S 113 12 (how' : Int)) 113 15 (m.pc m.d : Int), by rw [hall, bd_some, if_pos rfl], ⟨rfl, fun a ha => by rw [wi_n (by omega), wi_n (by omega)], fun f hf => by rw [wi_at, if_neg (by omega), wi_at, if_neg (by omega)]⟩, ?_, ?_, ?_, ?_, ?_⟩
        · show _ = if false = true then 1 else _
          rw [if_neg (show ¬ false = true by decide), wi_at, if_neg (by decide), wi_at, if_neg (by decide)]
        · rw [wi_at, if_neg (by decide), wi_at, if_pos rfl]
        · rw [wi_at, if_pos rfl]
        · rw [wi_at, if_neg (by decide), wi_at, if_neg (by decide)]
          show _ = if how' = 1 then _ else _
          rw [if_neg hst]
        · exact cIo_c (S := S) (by rw [wi_at, if_neg (by decide), wi_at, if_neg (by decide)]) (by rw [wi_at, if_neg (by decide), wi_at, if_neg (by decide)]) (by rw [wi_n (by decide), wi_n (by decide)]) hc.2.2
end CSP
