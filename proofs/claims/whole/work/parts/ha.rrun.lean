/-! The run: the reference runs. -/
/-- what was written -/
def rOu (S : nk_S) (r : Nat × Nat × (Nat → Int)) : Prop := S.1 121 57 = (r.2.1 : Int) ∧ ∀ k, k < r.2.1 → k < 256 → S.1 249 k = r.2.2 k
/-- what the reference's run leaves as it was -/
def rkX (S S' : nk_S) : Prop := S'.2 = S.2 ∧ (∀ a, a < 121 ∨ (121 < a ∧ a < 239) ∨ a = 248 ∨ 249 < a → S'.1 a = S.1 a) ∧ ∀ f, f < 52 → S'.1 121 f = S.1 121 f
section RRU
variable {p : jP} {m m' m1 : jM} {P Q : Nat} {tx : List (List Int)} {x : jC} {t : Nat → Int} {inp : Nat → Int} {S S' S1 : nk_S} {A : jA} {σ : jG} {i : Nat} {v : jV} {m0 mb : Nat}
/-- every instruction of the reference -/
theorem r_all (hwf : pWf tx p) (hk : pKX p Q) (h : rXx S P p A σ) (hm : mOk p m) (ht : mTop p m x t) (hM : rMm p S m) {N : Nat} (hN : S.1 121 55 = (N : Int)) (hN2 : N ≤ 256) (hin : ∀ k, k < N → S.1 248 k = inp k) (hin0 : ∀ k, N ≤ k → inp k = 0) (hrd : m.rd < 100000) (how : m.ow < 100000) (h6 : x.1 = 41 → (m.top 0).2 ≠ 0 → fnd p A σ (m.pc m.d) x 6 = true ∨ S.1 121 63 = 1) : rsO p A σ inp m (m.pc m.d) x S := by
  obtain ⟨b1, b3, b4, b5, b8⟩ := r_at hk hm ht
  by_cases c0 : x.1 ≤ 7 ∨ x.1 = 18 ∨ x.1 = 19
  · exact r_move hwf hk h hm ht hM c0
  by_cases c1 : 8 ≤ x.1 ∧ x.1 ≤ 17
  · exact r_calc hwf hk h hm ht hM c1
  by_cases c2 : 20 ≤ x.1 ∧ x.1 ≤ 29
  · exact r_bran hwf hk h hm ht hM c2
  by_cases c3 : x.1 = 30 ∨ x.1 = 31
  · exact r_make hwf hk h hm ht hM c3
  by_cases c4 : x.1 = 32
  · exact r_len hwf hk h hm ht hM c4
  by_cases c5 : x.1 = 33
  · exact r_elem hwf hk h hm ht hM c5
  by_cases c6 : x.1 = 34
  · exact r_store hwf hk h hm ht hM c6
  by_cases c7 : x.1 = 35 ∨ x.1 = 36
  · exact r_field hwf hk h hm ht hM c7
  by_cases c8 : x.1 = 37 ∨ x.1 = 38
  · exact r_typ2 hwf hk h hm ht hM c8
  by_cases c9 : x.1 = 39 ∨ x.1 = 40
  · exact r_call hwf hk h hm ht hM c9
  by_cases c10 : x.1 = 41
  · exact r_thw hwf hk h hm ht hM c10 (h6 c10)
  by_cases c11 : x.1 = 42 ∨ x.1 = 43
  · exact r_back hwf hk h hm ht hM c11
  · exact r_io hwf hk h hm ht hM (by omega) hN hN2 hin hin0 hrd how
/-- where the state holds, what is thrown was found -/
theorem hold_6 (hwf : pWf tx p) (hk : pKX p Q) (hI : pIn (pFF p) (pZZ p) (pLc p) (pTy p) m0 A σ) (hm : mOk p m) (ht : mTop p m x t) (ho : x.1 = 41) (h0 : (m.top 0).2 ≠ 0) (hh : hOc p A m) : fnd p A σ (m.pc m.d) x 6 = true := by
  obtain ⟨u, hA, hS⟩ := hh
  obtain ⟨x', t', c1, c2, c3⟩ := hI.1 _ u hA
  have c1 : p.2.2.2.2.1.1[m.pc m.d]? = some x' := c1
  rw [ht.1] at c1
  cases c1
  obtain ⟨g1, g2⟩ := (kd_top hk ht).2.2.1 (by omega)
  have w0 := (top_k ht (k := 0) (by omega)).2
  obtain ⟨hkd, -⟩ := pCx_at hk.2.1 ht.1 c2 c3.1
  have hk2 := (hkd.2.2.2.2.1 (by omega)).1
  rw [← ht.2.2.1] at hk2
  have hs := hS (12 + m.hs m.d - 1) (by unfold rel; omega)
  have et : m.vs m.d (12 + m.hs m.d - 1) = m.top 0 := by unfold jM.top; rw [show 11 + m.hs m.d - 0 = 12 + m.hs m.d - 1 by omega]
  rw [et] at hs
  rcases hs with q | ⟨-, q, -⟩
  · omega
  rcases q with q | q
  · omega
  rw [if_neg h0] at q
  obtain ⟨o, o1, o2, o3⟩ := r_objT w0 g1 h0
  rw [o3] at q
  have hsv := hm.2.1.2.2.2.2.1 o o1
  have c8 := (p_ctx hwf hk).2.2.2.2.2.2.2
  have h54 : m.si o < 54 := by
    unfold sVd at hsv
    rw [Bool.or_eq_true, Bool.and_eq_true] at hsv
    rcases hsv with z | ⟨-, z⟩
    · have := of_decide_eq_true z; omega
    · exact of_decide_eq_true z
  have hse : sEx (sAnd (u (12 + m.hs m.d - 1)).2.2.1 sAl) = true := sEx_iff.mpr ⟨m.si o, by omega, by
    unfold sAnd sAl
    rw [q.2, decide_eq_true h54]; rfl⟩
  unfold fnd
  rw [hA]
  show (pFd (pZZ p) σ x (pH p (m.pc m.d)) u 6 || (decide (6 = 9) && !pMv (pZZ p) σ x (pH p (m.pc m.d)) u)) = true
  unfold pFd
  rw [if_neg (by decide), if_pos rfl, ← ht.2.2.1, hse, decide_eq_true ho]
  rfl
theorem rOu_io {r : Nat × Nat × (Nat → Int)} (h : rIo S r) : rOu S r := ⟨h.2.1, h.2.2⟩
/-- the end of a run -/
theorem r_fin {n : Nat} (h : S.1 121 61 = (n : Int)) (g : Nat) (fu : Int) : ja_X13_run_L71 (g + 1) 121 fu S = some ((n : Int), nk_wi S 121 55 0) := by
  show ja_X13_run_b71 (ja_X13_run_L71 g) 121 fu S = _
  unfold ja_X13_run_b71
  rw [if_pos (by omega), lt_eq, wi_at, if_neg (by decide), h]
/-- the reference's loop -/
theorem r_ruL (hwf : pWf tx p) (hk : pKX p Q) (hI : pIn (pFF p) (pZZ p) (pLc p) (pTy p) m0 A σ) (hC : ∀ i, pCl (pZZ p) (pLc p) A σ i) {N : Nat} (hN2 : N ≤ 256) (hin0 : ∀ k, N ≤ k → inp k = 0) (hiR : ∀ k, iR (inp k)) {fuel : Nat} (hfu : fuel ≤ 20000) : ∀ (c s : Nat) (m : jM) (y : Int) (S : nk_S) (g : Nat), c + s = fuel → c + 2 ≤ g → rXx S P p A σ → mOk p m → mLw m → rMm p S m → S.1 121 55 = (N : Int) → (∀ k, k < N → S.1 248 k = inp k) → S.1 121 61 = -1 → S.1 121 58 = (s : Int) → S.1 121 60 = -1 → S.1 121 62 = y → m.rd ≤ s → m.ow ≤ s → ∃ S', ja_X13_run_L71 g 121 (fuel : Int) S = some (((mRn p A σ inp c m s y).1 : Int), S') ∧ rkX S S' ∧ S'.1 121 55 = 0 ∧ S'.1 121 58 = ((mRn p A σ inp c m s y).2.2.2.1 : Int) ∧ S'.1 121 59 = ((mRn p A σ inp c m s y).2.1 : Int) ∧ S'.1 121 60 = (mRn p A σ inp c m s y).2.2.1 ∧ S'.1 121 62 = (mRn p A σ inp c m s y).2.2.2.2.1 ∧ rOu S' (mRn p A σ inp c m s y).2.2.2.2.2.2.2.2.2.2 := by
  intro c
  induction c with
  | zero =>
    intro s m y S g hcs hg h hm hl hM hN hin h61 h58 h60 h62 hrd how
    obtain ⟨g, rfl⟩ : ∃ q, g = q + 2 := ⟨g - 2, by omega⟩
    have ed : ∀ _ : Unit, nk_w (S.1 121 52 - 1) = (m.d : Int) := r_dw hM.1.1
    have hd := hM.1.1.1.2
    have e242 := hM.1.1.2.1 _ (Nat.le_refl _)
    have e0 : fuel = s := by omega
    subst e0
    rw [mRn]
    obtain ⟨T, hT⟩ : ∃ T, T = nk_wi (nk_wi S 121 61 2) 121 59 (m.pc m.d : Int) := ⟨_, rfl⟩
    have tn : ∀ a, a ≠ 121 → T.1 a = S.1 a := fun a ha => by rw [hT, wi_n ha, wi_n ha]
    have tf : ∀ f, T.1 121 f = if f = 59 then (m.pc m.d : Int) else if f = 61 then 2 else S.1 121 f := fun f => by rw [hT, wi_at, wi_at]
    have wf : ∀ f, (nk_wi T 121 55 0).1 121 f = if f = 55 then 0 else T.1 121 f := fun f => by rw [wi_at]
    refine ⟨nk_wi T 121 55 0, ?_, ⟨by rw [hT]; rfl, fun a ha => by rw [wi_n (by omega), tn a (by omega)], fun f hf => by rw [wf, if_neg (by omega), tf, if_neg (by omega), if_neg (by omega)]⟩, by rw [wf, if_pos rfl], ?_, ?_, ?_, ?_, ?_⟩
    · show ja_X13_run_b71 (ja_X13_run_L71 (g + 1)) 121 (fuel : Int) S = _
      unfold ja_X13_run_b71
      rw [if_neg (by omega), ed (), if_pos (in_i (N := 64) (by omega)), jc_rm.2.2.2.1, Int.toNat_natCast, e242, lt_eq, if_pos h58, lt_eq, lt_eq, ← hT]
      exact r_fin (n := 2) (by rw [tf]; rfl) g (fuel : Int)
    · rw [wf, if_neg (by decide), tf, if_neg (by decide), if_neg (by decide)]; exact h58
    · rw [wf, if_neg (by decide), tf, if_pos rfl]
    · rw [wf, if_neg (by decide), tf, if_neg (by decide), if_neg (by decide)]; exact h60
    · rw [wf, if_neg (by decide), tf, if_neg (by decide), if_neg (by decide)]; exact h62
    · have := rOu_io hM.1.2.2
      refine ⟨by rw [wf, if_neg (by decide), tf, if_neg (by decide), if_neg (by decide)]; exact this.1, fun k k1 k2 => ?_⟩
      rw [wi_n (by decide), tn 249 (by decide)]
      exact this.2 k k1 k2
  | succ c ih =>
    intro s m y S g hcs hg h hm hl hM hN hin h61 h58 h60 h62 hrd how
    obtain ⟨g, rfl⟩ : ∃ q, g = q + 1 := ⟨g - 1, by omega⟩
    obtain ⟨x, t, ht⟩ := hm.2.2.1
    obtain ⟨b1, b3, b4, b5, b8⟩ := r_at hk hm ht
    have ed : ∀ _ : Unit, nk_w (S.1 121 52 - 1) = (m.d : Int) := r_dw hM.1.1
    have e242 := hM.1.1.2.1 _ (Nat.le_refl _)
    -- the step is counted
    obtain ⟨T, hT⟩ : ∃ T, T = nk_wi S 121 58 ((s + 1 : Nat) : Int) := ⟨_, rfl⟩
    have tn : ∀ a, a ≠ 121 → T.1 a = S.1 a := fun a ha => by rw [hT, wi_n ha]
    have tf : ∀ f, T.1 121 f = if f = 58 then ((s + 1 : Nat) : Int) else S.1 121 f := fun f => by rw [hT, wi_at]
    have hMT : rMm p T m := by rw [hT]; exact rMm_w (by decide) hM
    have hXT : rXx T P p A σ := by rw [hT]; exact rXx_w h
    obtain ⟨bb, a1, a2⟩ := r_holds hwf hk hXT hI hC hm ht hMT hl
    have hbb : bb = hOb p A m := by
      unfold hOb
      cases bb with
      | true => exact (@decide_eq_true _ (Classical.propDecidable _) (a2.mp rfl)).symm
      | false => exact (@decide_eq_false _ (Classical.propDecidable _) (fun q => by have := a2.mpr q; cases this)).symm
    -- stray
    obtain ⟨U, hU⟩ : ∃ U, U = nk_wi T 121 63 (bi (!bb)) := ⟨_, rfl⟩
    have un : ∀ a, a ≠ 121 → U.1 a = S.1 a := fun a ha => by rw [hU, wi_n ha, tn a ha]
    have uf : ∀ f, U.1 121 f = if f = 63 then bi (!bb) else T.1 121 f := fun f => by rw [hU, wi_at]
    have hMU : rMm p U m := by rw [hU]; exact rMm_w (by decide) hMT
    have hXU : rXx U P p A σ := by rw [hU]; exact rXx_w hXT
    obtain ⟨V, v1, v2, v3, v4⟩ := r_all hwf hk hXU hm ht hMU (inp := inp) (N := N) (by rw [uf, if_neg (by decide), tf, if_neg (by decide)]; exact hN) hN2 (fun k hk' => by rw [un 248 (by decide)]; exact hin k hk') hin0 (by omega) (by omega) (fun q1 q2 => by
      cases hb : bb with
      | true => exact Or.inl (hold_6 hwf hk hI hm ht q1 q2 (a2.mp hb))
      | false => exact Or.inr (by rw [uf, if_pos rfl, hb]; rfl))
    obtain ⟨y', hy'⟩ : ∃ y', y' = if (hOb p A m && !mSx p A σ inp m (m.pc m.d) x) = true then y else nk_w (y + 1) := ⟨_, rfl⟩
    have v62 : V.1 121 62 = y := by rw [v2.2.2 62 (by omega), uf, if_neg (by decide), tf, if_neg (by decide)]; exact h62
    obtain ⟨W, hW⟩ : ∃ W, W = if (hOb p A m && !mSx p A σ inp m (m.pc m.d) x) = true then V else nk_wi V 121 62 (nk_w (y + 1)) := ⟨_, rfl⟩
    have hgo : ja_X13_run_L71 (g + 1) 121 (fuel : Int) S = ja_X13_run_L71 g 121 (fuel : Int) W := by
      have h135 : ja_X13_run_b135 (ja_X13_run_L71 g) 121 (fuel : Int) (m.pc m.d : Int) 121 (bi (!bb)) T = ja_X13_run_L71 g 121 (fuel : Int) W := by
        unfold ja_X13_run_b135
        rw [if_pos (by cases bb <;> decide), lt_eq, ← hU, v1, bd_some, v3, uf, if_pos rfl, v62, lt_eq, hW, ← hbb]
        cases mSx p A σ inp m (m.pc m.d) x with
        | true => rw [if_pos rfl, if_neg (by decide), Bool.not_true, Bool.and_false, if_neg (by decide)]
        | false =>
          rw [if_neg (show ¬ false = true by decide), Bool.not_false, Bool.and_true]
          cases bb with
          | true => rw [if_pos (show bi (!true) = 0 from rfl), if_pos rfl]
          | false => rw [if_neg (show ¬ bi (!false) = 0 by decide), if_neg (show ¬ false = true by decide)]
      show ja_X13_run_b71 (ja_X13_run_L71 g) 121 (fuel : Int) S = _
      unfold ja_X13_run_b71
      rw [if_neg (by omega), ed (), if_pos (in_i (N := 64) (by omega)), jc_rm.2.2.2.1, Int.toNat_natCast, e242, lt_eq, h58, if_neg (by omega), w_nat1 (by omega), lt_eq, ← hT, a1, bd_some]
      cases bb with
      | true => rw [if_neg (show ¬ bi true = 0 by decide)]; exact h135
      | false => rw [if_pos (show bi false = 0 from rfl)]; exact h135
    have w2 : W.2 = V.2 := by rw [hW]; split <;> rfl
    have wn : ∀ a, a ≠ 121 → W.1 a = V.1 a := fun a ha => by
      rw [hW]
      split
      · rfl
      · exact wi_n ha
    have wf : ∀ f, f ≠ 62 → W.1 121 f = V.1 121 f := fun f hf => by
      rw [hW]
      split
      · rfl
      · rw [wi_at, if_neg hf]
    have w62 : W.1 121 62 = y' := by
      rw [hW, hy']
      split
      · exact v62
      · rw [wi_at, if_pos rfl]
    have hX : rkX S W := ⟨by rw [w2, v2.1, hU]; show T.2 = S.2; rw [hT]; rfl, fun a ha => by rw [wn a (by omega), v2.2.1 a ha, un a (by omega)], fun f hf => by rw [wf f (by omega), v2.2.2 f (by omega), uf, if_neg (by omega), tf, if_neg (by omega)]⟩
    have w58 : W.1 121 58 = ((s + 1 : Nat) : Int) := by rw [wf 58 (by decide), v2.2.2 58 (by omega), uf, if_neg (by decide), tf, if_pos rfl]
    have w55 : W.1 121 55 = (N : Int) := by rw [wf 55 (by decide), v2.2.2 55 (by omega), uf, if_neg (by decide), tf, if_neg (by decide)]; exact hN
    have u61 : U.1 121 61 = -1 := by rw [uf, if_neg (by decide), tf, if_neg (by decide)]; exact h61
    have u60 : U.1 121 60 = -1 := by rw [uf, if_neg (by decide), tf, if_neg (by decide)]; exact h60
    rw [hgo, mRn, ht.1]
    dsimp only
    rw [← hy']
    cases hS : mSp p inp m (m.pc m.d) x with
    | inl m2 =>
      rw [hS] at v4
      obtain ⟨d1, d2, d3, d4⟩ := v4
      have hMW : rMm p W m2 := by
        rw [hW]
        split
        · exact d1
        · exact rMm_w (by decide) d1
      have hXW : rXx W P p A σ := by
        rw [hW]
        split
        · exact rXx_g v2 hXU
        · exact rXx_w (rXx_g v2 hXU)
      have hm2 := k_sp hwf hk hm ht hiR hS
      obtain ⟨hl2, io1, io2⟩ := lw_sp hwf hk hm ht hl hS
      obtain ⟨S', r1, r2, r3⟩ := ih (s + 1) m2 y' W g (by omega) (by omega) hXW hm2 hl2 hMW w55 (fun k hk' => by rw [hX.2.1 248 (by omega)]; exact hin k hk') (by rw [wf 61 (by decide), d2]; exact u61) w58 (by rw [wf 60 (by decide), d4]; exact u60) w62 (by omega) (by omega)
      exact ⟨S', r1, ⟨r2.1.trans hX.1, fun a ha => (r2.2.1 a ha).trans (hX.2.1 a ha), fun f hf => (r2.2.2 f hf).trans (hX.2.2 f hf)⟩, r3⟩
    | inr R =>
      rw [hS] at v4
      obtain ⟨d1, d2, d3, d4⟩ := v4
      obtain ⟨g, rfl⟩ : ∃ q, g = q + 1 := ⟨g - 1, by omega⟩
      have zf : ∀ f, (nk_wi W 121 55 0).1 121 f = if f = 55 then 0 else W.1 121 f := fun f => by rw [wi_at]
      refine ⟨nk_wi W 121 55 0, r_fin (by rw [wf 61 (by decide)]; exact d1) g (fuel : Int), ⟨hX.1, fun a ha => by rw [wi_n (by omega)]; exact hX.2.1 a ha, fun f hf => by rw [zf, if_neg (by omega)]; exact hX.2.2 f hf⟩, by rw [zf, if_pos rfl], ?_, ?_, ?_, ?_, ?_⟩
      · rw [zf, if_neg (by decide)]; exact w58
      · rw [zf, if_neg (by decide), wf 59 (by decide)]; exact d2
      · rw [zf, if_neg (by decide), wf 60 (by decide), d3, u60]
      · rw [zf, if_neg (by decide)]; exact w62
      · have := rOu_io d4
        refine ⟨by rw [zf, if_neg (by decide), wf 57 (by decide)]; exact this.1, fun k k1 k2 => ?_⟩
        rw [wi_n (by decide), wn 249 (by decide)]
        exact this.2 k k1 k2
end RRU
