/-! The run: one step leaves a right state. -/
section MST
variable {p : jP} {m m' m1 : jM} {Q : Nat} {tx : List (List Int)} {x : jC} {t : Nat → Int} {inp : Nat → Int} {i : Nat}
theorem rz_i {a b : Nat} (h : jE.rz a = jE.rz b) : a = b := by unfold jE.rz at h; cases h; rfl
theorem th_i {a b : Nat} (h : jE.th a = jE.th b) : a = b := by unfold jE.th at h; cases h; rfl
theorem go_rz {a : jM} {b : Nat} (h : jE.go a = jE.rz b) : False := by unfold jE.go jE.rz at h; cases h
theorem st_rz {a b : Nat} (h : jE.st a = jE.rz b) : False := by unfold jE.st jE.rz at h; cases h
theorem th_rz {a b : Nat} (h : jE.th a = jE.rz b) : False := by unfold jE.th jE.rz at h; cases h
theorem go_th {a : jM} {b : Nat} (h : jE.go a = jE.th b) : False := by unfold jE.go jE.th at h; cases h
theorem st_th {a b : Nat} (h : jE.st a = jE.th b) : False := by unfold jE.st jE.th at h; cases h
theorem rz_th {a b : Nat} (h : jE.rz a = jE.th b) : False := by unfold jE.rz jE.th at h; cases h
theorem ef_rz {e : Nat} (h : mEf p inp m i x = jE.rz e) : e < 6 := by
  unfold mEf at h
  by_cases c0 : x.1 = 0
  · rw [if_pos c0] at h
    exact (go_rz h).elim
  rw [if_neg c0] at h
  by_cases c1 : x.1 = 1
  · rw [if_pos c1] at h
    exact (go_rz h).elim
  rw [if_neg c1] at h
  by_cases c2 : x.1 = 2
  · rw [if_pos c2] at h
    exact (go_rz h).elim
  rw [if_neg c2] at h
  by_cases c3 : x.1 = 3
  · rw [if_pos c3] at h
    exact (go_rz h).elim
  rw [if_neg c3] at h
  by_cases c4 : x.1 = 4
  · rw [if_pos c4] at h
    exact (go_rz h).elim
  rw [if_neg c4] at h
  by_cases c5 : x.1 = 5
  · rw [if_pos c5] at h
    exact (go_rz h).elim
  rw [if_neg c5] at h
  by_cases c6 : x.1 = 6
  · rw [if_pos c6] at h
    exact (go_rz h).elim
  rw [if_neg c6] at h
  by_cases c7 : x.1 = 7
  · rw [if_pos c7] at h
    exact (go_rz h).elim
  rw [if_neg c7] at h
  by_cases c17 : x.1 ≤ 17
  · rw [if_pos c17] at h
    repeat' split at h
    all_goals first
      | exact (go_rz h).elim
      | exact (st_rz h).elim
      | exact (th_rz h).elim
      | (have := rz_i h; omega)
  rw [if_neg c17] at h
  by_cases c18 : x.1 = 18
  · rw [if_pos c18] at h
    exact (go_rz h).elim
  rw [if_neg c18] at h
  by_cases c19 : x.1 = 19
  · rw [if_pos c19] at h
    exact (go_rz h).elim
  rw [if_neg c19] at h
  by_cases c29 : x.1 ≤ 29
  · rw [if_pos c29] at h
    exact (go_rz h).elim
  rw [if_neg c29] at h
  by_cases c30 : x.1 = 30
  · rw [if_pos c30] at h
    repeat' split at h
    all_goals first
      | exact (go_rz h).elim
      | exact (st_rz h).elim
      | exact (th_rz h).elim
      | (have := rz_i h; omega)
  rw [if_neg c30] at h
  by_cases c31 : x.1 = 31
  · rw [if_pos c31] at h
    repeat' split at h
    all_goals first
      | exact (go_rz h).elim
      | exact (st_rz h).elim
      | exact (th_rz h).elim
      | (have := rz_i h; omega)
  rw [if_neg c31] at h
  by_cases c32 : x.1 = 32
  · rw [if_pos c32] at h
    repeat' split at h
    all_goals first
      | exact (go_rz h).elim
      | exact (st_rz h).elim
      | exact (th_rz h).elim
      | (have := rz_i h; omega)
  rw [if_neg c32] at h
  by_cases c33 : x.1 = 33
  · rw [if_pos c33] at h
    repeat' split at h
    all_goals first
      | exact (go_rz h).elim
      | exact (st_rz h).elim
      | exact (th_rz h).elim
      | (have := rz_i h; omega)
  rw [if_neg c33] at h
  by_cases c34 : x.1 = 34
  · rw [if_pos c34] at h
    repeat' split at h
    all_goals first
      | exact (go_rz h).elim
      | exact (st_rz h).elim
      | exact (th_rz h).elim
      | (have := rz_i h; omega)
  rw [if_neg c34] at h
  by_cases c35 : x.1 = 35
  · rw [if_pos c35] at h
    repeat' split at h
    all_goals first
      | exact (go_rz h).elim
      | exact (st_rz h).elim
      | exact (th_rz h).elim
      | (have := rz_i h; omega)
  rw [if_neg c35] at h
  by_cases c36 : x.1 = 36
  · rw [if_pos c36] at h
    repeat' split at h
    all_goals first
      | exact (go_rz h).elim
      | exact (st_rz h).elim
      | exact (th_rz h).elim
      | (have := rz_i h; omega)
  rw [if_neg c36] at h
  by_cases c37 : x.1 = 37
  · rw [if_pos c37] at h
    repeat' split at h
    all_goals first
      | exact (go_rz h).elim
      | exact (st_rz h).elim
      | exact (th_rz h).elim
      | (have := rz_i h; omega)
  rw [if_neg c37] at h
  by_cases c38 : x.1 = 38
  · rw [if_pos c38] at h
    exact (go_rz h).elim
  rw [if_neg c38] at h
  by_cases c39 : x.1 = 39
  · rw [if_pos c39] at h
    repeat' split at h
    all_goals first
      | exact (go_rz h).elim
      | exact (st_rz h).elim
      | exact (th_rz h).elim
      | (have := rz_i h; omega)
  rw [if_neg c39] at h
  by_cases c40 : x.1 = 40
  · rw [if_pos c40] at h
    repeat' split at h
    all_goals first
      | exact (go_rz h).elim
      | exact (st_rz h).elim
      | exact (th_rz h).elim
      | (have := rz_i h; omega)
  rw [if_neg c40] at h
  by_cases c41 : x.1 = 41
  · rw [if_pos c41] at h
    repeat' split at h
    all_goals first
      | exact (go_rz h).elim
      | exact (st_rz h).elim
      | exact (th_rz h).elim
      | (have := rz_i h; omega)
  rw [if_neg c41] at h
  by_cases c42 : x.1 = 42
  · rw [if_pos c42] at h
    repeat' split at h
    all_goals first
      | exact (go_rz h).elim
      | exact (st_rz h).elim
      | exact (th_rz h).elim
      | (have := rz_i h; omega)
  rw [if_neg c42] at h
  by_cases c43 : x.1 = 43
  · rw [if_pos c43] at h
    repeat' split at h
    all_goals first
      | exact (go_rz h).elim
      | exact (st_rz h).elim
      | exact (th_rz h).elim
      | (have := rz_i h; omega)
  rw [if_neg c43] at h
  by_cases c44 : x.1 = 44
  · rw [if_pos c44] at h
    exact (go_rz h).elim
  rw [if_neg c44] at h
  exact (go_rz h).elim
theorem ef_th {r : Nat} (h : mEf p inp m i x = jE.th r) : x.1 = 41 ∧ (m.top 0).2 ≠ 0 ∧ r = (m.top 0).2.toNat := by
  unfold mEf at h
  by_cases c0 : x.1 = 0
  · rw [if_pos c0] at h
    exact (go_th h).elim
  rw [if_neg c0] at h
  by_cases c1 : x.1 = 1
  · rw [if_pos c1] at h
    exact (go_th h).elim
  rw [if_neg c1] at h
  by_cases c2 : x.1 = 2
  · rw [if_pos c2] at h
    exact (go_th h).elim
  rw [if_neg c2] at h
  by_cases c3 : x.1 = 3
  · rw [if_pos c3] at h
    exact (go_th h).elim
  rw [if_neg c3] at h
  by_cases c4 : x.1 = 4
  · rw [if_pos c4] at h
    exact (go_th h).elim
  rw [if_neg c4] at h
  by_cases c5 : x.1 = 5
  · rw [if_pos c5] at h
    exact (go_th h).elim
  rw [if_neg c5] at h
  by_cases c6 : x.1 = 6
  · rw [if_pos c6] at h
    exact (go_th h).elim
  rw [if_neg c6] at h
  by_cases c7 : x.1 = 7
  · rw [if_pos c7] at h
    exact (go_th h).elim
  rw [if_neg c7] at h
  by_cases c17 : x.1 ≤ 17
  · rw [if_pos c17] at h
    repeat' split at h
    all_goals first
      | exact (go_th h).elim
      | exact (st_th h).elim
      | exact (rz_th h).elim
  rw [if_neg c17] at h
  by_cases c18 : x.1 = 18
  · rw [if_pos c18] at h
    exact (go_th h).elim
  rw [if_neg c18] at h
  by_cases c19 : x.1 = 19
  · rw [if_pos c19] at h
    exact (go_th h).elim
  rw [if_neg c19] at h
  by_cases c29 : x.1 ≤ 29
  · rw [if_pos c29] at h
    exact (go_th h).elim
  rw [if_neg c29] at h
  by_cases c30 : x.1 = 30
  · rw [if_pos c30] at h
    repeat' split at h
    all_goals first
      | exact (go_th h).elim
      | exact (st_th h).elim
      | exact (rz_th h).elim
  rw [if_neg c30] at h
  by_cases c31 : x.1 = 31
  · rw [if_pos c31] at h
    repeat' split at h
    all_goals first
      | exact (go_th h).elim
      | exact (st_th h).elim
      | exact (rz_th h).elim
  rw [if_neg c31] at h
  by_cases c32 : x.1 = 32
  · rw [if_pos c32] at h
    repeat' split at h
    all_goals first
      | exact (go_th h).elim
      | exact (st_th h).elim
      | exact (rz_th h).elim
  rw [if_neg c32] at h
  by_cases c33 : x.1 = 33
  · rw [if_pos c33] at h
    repeat' split at h
    all_goals first
      | exact (go_th h).elim
      | exact (st_th h).elim
      | exact (rz_th h).elim
  rw [if_neg c33] at h
  by_cases c34 : x.1 = 34
  · rw [if_pos c34] at h
    repeat' split at h
    all_goals first
      | exact (go_th h).elim
      | exact (st_th h).elim
      | exact (rz_th h).elim
  rw [if_neg c34] at h
  by_cases c35 : x.1 = 35
  · rw [if_pos c35] at h
    repeat' split at h
    all_goals first
      | exact (go_th h).elim
      | exact (st_th h).elim
      | exact (rz_th h).elim
  rw [if_neg c35] at h
  by_cases c36 : x.1 = 36
  · rw [if_pos c36] at h
    repeat' split at h
    all_goals first
      | exact (go_th h).elim
      | exact (st_th h).elim
      | exact (rz_th h).elim
  rw [if_neg c36] at h
  by_cases c37 : x.1 = 37
  · rw [if_pos c37] at h
    repeat' split at h
    all_goals first
      | exact (go_th h).elim
      | exact (st_th h).elim
      | exact (rz_th h).elim
  rw [if_neg c37] at h
  by_cases c38 : x.1 = 38
  · rw [if_pos c38] at h
    exact (go_th h).elim
  rw [if_neg c38] at h
  by_cases c39 : x.1 = 39
  · rw [if_pos c39] at h
    repeat' split at h
    all_goals first
      | exact (go_th h).elim
      | exact (st_th h).elim
      | exact (rz_th h).elim
  rw [if_neg c39] at h
  by_cases c40 : x.1 = 40
  · rw [if_pos c40] at h
    repeat' split at h
    all_goals first
      | exact (go_th h).elim
      | exact (st_th h).elim
      | exact (rz_th h).elim
  rw [if_neg c40] at h
  by_cases c41 : x.1 = 41
  · rw [if_pos c41] at h
    by_cases c0' : (m.top 0).2 = 0
    · rw [if_pos c0'] at h; exact (rz_th h).elim
    · rw [if_neg c0'] at h; exact ⟨c41, c0', (th_i h).symm⟩
  rw [if_neg c41] at h
  by_cases c42 : x.1 = 42
  · rw [if_pos c42] at h
    repeat' split at h
    all_goals first
      | exact (go_th h).elim
      | exact (st_th h).elim
      | exact (rz_th h).elim
  rw [if_neg c42] at h
  by_cases c43 : x.1 = 43
  · rw [if_pos c43] at h
    repeat' split at h
    all_goals first
      | exact (go_th h).elim
      | exact (st_th h).elim
      | exact (rz_th h).elim
  rw [if_neg c43] at h
  by_cases c44 : x.1 = 44
  · rw [if_pos c44] at h
    exact (go_th h).elim
  rw [if_neg c44] at h
  exact (go_th h).elim
/-- what is thrown is an object -/
theorem thr_at (hwf : pWf tx p) (hk : pKX p Q) (hm : mOk p m) (ht : mTop p m x t) (ho : x.1 = 41) : 1 ≤ m.hs m.d ∧ 2 ≤ t (12 + m.hs m.d - 1 - 0) ∧ (m.top 0).1 = 2 := by
  obtain ⟨xb, h1, h2, h3⟩ := tH_g hk ht (by omega)
  have htk : tkT x.1 = 1 := by rw [ho]; decide +kernel
  have b0 := h3 0 (by omega)
  have w0 : wn x.1 0 = 8 := by rw [ho]; rfl
  rw [w0, htk] at b0
  have b0 : tLe p.2.1 (t (12 + m.hs m.d - 1 + 0)) 6 = true := b0
  have ei : 12 + m.hs m.d - 1 + 0 = 12 + m.hs m.d - 1 - 0 := by omega
  rw [ei] at b0
  have h2t : 2 ≤ t (12 + m.hs m.d - 1 - 0) := by
    rcases (tLe_iff _ _).mp b0 with s | s | s <;> omega
  exact ⟨by omega, h2t, (vTy_k (top_ty ht (k := 0) (by omega)) h2t).1⟩
theorem k_sp (hwf : pWf tx p) (hk : pKX p Q) (hm : mOk p m) (ht : mTop p m x t) (hi : ∀ k, iR (inp k)) (h : mSp p inp m (m.pc m.d) x = .inl m') : mOk p m' := by
  unfold mSp at h
  split at h
  · rename_i q hq
    cases h
    exact k_go hwf hk hm ht hi hq
  · cases h
  · rename_i r hq
    obtain ⟨q1, q2, q3⟩ := ef_th hq
    obtain ⟨a1, a2, a3⟩ := thr_at hwf hk hm ht q1
    obtain ⟨o, o1, o2, o3, o4, o5⟩ := obj_top hwf hk hm ht (k := 0) (by omega) a2 q2
    exact k_thr hk hm (by omega) (by omega) h
  · rename_i e hq
    have he := ef_rz hq
    split at h
    · cases h
    · rename_i m1 hm1
      obtain ⟨g1, g2⟩ := k_err hwf hk hm he hm1
      exact k_thr hk g1 (by omega) (by omega) h
end MST
