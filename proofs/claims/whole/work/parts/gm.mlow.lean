/-! The run: the locals stay values; what is read and written. -/
/-- one step of reading and writing -/
def mIo (m m' : jM) : Prop := m'.rd ≤ m.rd + 1 ∧ m'.ow ≤ m.ow + 1
section MLW
variable {p : jP} {m m' m1 : jM} {Q : Nat} {tx : List (List Int)} {x : jC} {t : Nat → Int} {inp : Nat → Int} {v : jV}
theorem io_e (h : m'.2.2.2.2.2 = m.2.2.2.2.2) : mIo m m' := by
  unfold mIo
  have e1 : m'.rd = m.rd := congrArg (fun q => q.1) h
  have e2 : m'.ow = m.ow := congrArg (fun q => q.2.1) h
  omega
theorem lw_go {j : Nat} (h : mLw m) : mLw (m.go j) := fun f k hf hk => h f k hf hk
theorem lw_nxt (h : mLw m) : mLw m.nxt := lw_go h
theorem lw_drp {j : Nat} (h : mLw m) : mLw (m.drp j) := fun f k hf hk => h f k hf hk
theorem lw_bck (h : mLw m) : mLw m.bck := fun f k hf hk => h f k (Nat.le_trans hf (Nat.sub_le _ _)) hk
theorem lw_wme {j : Nat} (h : mLw m) : mLw (m.wme j v) := fun f k hf hk => h f k hf hk
theorem lw_sto {j : Nat} (hj : 12 ≤ j ∨ vWf m v) (h : mLw m) : mLw (m.sto j v) := fun f k hf hk => by
  show vWf m (gU m.vs m.d (gU (m.vs m.d) j v) f k)
  by_cases c : f = m.d
  · rw [c, gU_at]
    by_cases c2 : k = j
    · rw [c2, gU_at]
      rcases hj with q | q
      · omega
      · exact q
    · rw [gU_ne c2]; exact h m.d k (Nat.le_refl _) hk
  · rw [gU_ne c]; exact h f k hf hk
theorem lw_psh (h : mLw m) : mLw (m.psh v) := fun f k hf hk => by
  show vWf m (gU m.vs m.d (gU (m.vs m.d) (12 + m.hs m.d) v) f k)
  by_cases c : f = m.d
  · rw [c, gU_at, gU_ne (by omega)]; exact h m.d k (Nat.le_refl _) hk
  · rw [gU_ne c]; exact h f k hf hk
theorem lw_lev {k : Nat} (h : mLw m) : mLw (m.lev k v) := lw_nxt (lw_psh (lw_drp h))
theorem vWf_n (h : m.n ≤ m'.n) (hv : vWf m v) : vWf m' v := by
  rcases hv with q | q | ⟨q1, q2, q3⟩
  · exact Or.inl q
  · exact Or.inr (Or.inl q)
  · exact Or.inr (Or.inr ⟨q1, q2, by omega⟩)
theorem lw_mk {s z : Nat} (h : mLw m) (hk : mMk p m s z = some m') : mLw m' ∧ m'.2.2.2.2.2 = m.2.2.2.2.2 := by
  unfold mMk at hk
  split at hk
  · cases hk
  · cases hk
    exact ⟨fun f k hf hk => vWf_n (m := m) (show m.n ≤ m.n + 1 by omega) (h f k hf hk), rfl⟩
theorem lw_en {b n : Nat} (h : mLw m) (hn : ∀ k, k < n → vWf m (m.vs m.d (12 + m.hs m.d - n + k))) : mLw (mEn p m b n) := fun f k hf hk => by
  show vWf m (gU m.vs (m.d + 1) (fun k => if k < n then m.vs m.d (12 + m.hs m.d - n + k) else (0, 0)) f k)
  have hf : f ≤ m.d + 1 := hf
  by_cases c : f = m.d + 1
  · rw [c, gU_at]
    by_cases c2 : k < n
    · rw [if_pos c2]; exact hn k c2
    · rw [if_neg c2]; exact Or.inl ⟨rfl, rfl⟩
  · rw [gU_ne c]; exact h f k (by omega) hk
theorem goI {a b : jM} (q : jE.go a = jE.go b) : a = b := by unfold jE.go at q; cases q; rfl
theorem rzG {e : Nat} {a : jM} (q : jE.rz e = jE.go a) : False := by unfold jE.rz jE.go at q; cases q
theorem stG {e : Nat} {a : jM} (q : jE.st e = jE.go a) : False := by unfold jE.st jE.go at q; cases q
theorem thO {e : Nat} {a : jM} (q : jE.th e = jE.go a) : False := by unfold jE.th jE.go at q; cases q
theorem lw_ef (hwf : pWf tx p) (hk : pKX p Q) (hm : mOk p m) (ht : mTop p m x t) (hl : mLw m) (h : mEf p inp m (m.pc m.d) x = jE.go m') : mLw m' ∧ mIo m m' := by
  obtain ⟨⟨xb0, e, hp⟩, hkd, hV⟩ := m_at hk ht
  obtain ⟨⟨p1, -⟩, -⟩ := id hp
  have h46 := p1.1
  unfold mEf at h
  by_cases c0 : x.1 = 0
  · rw [if_pos c0] at h
    rw [← goI h]
    exact ⟨lw_lev hl, io_e rfl⟩
  rw [if_neg c0] at h
  by_cases c1 : x.1 = 1
  · rw [if_pos c1] at h
    rw [← goI h]
    exact ⟨lw_lev hl, io_e rfl⟩
  rw [if_neg c1] at h
  by_cases c2 : x.1 = 2
  · rw [if_pos c2] at h
    rw [← goI h]
    exact ⟨lw_lev hl, io_e rfl⟩
  rw [if_neg c2] at h
  by_cases c3 : x.1 = 3
  · rw [if_pos c3] at h
    rw [← goI h]
    obtain ⟨xb, h1, h2, h3⟩ := tH_g hk ht (by omega)
    have htk : tkT x.1 = 1 := by rw [c3]; decide +kernel
    exact ⟨lw_nxt (lw_drp (lw_sto (Or.inr (top_k ht (k := 0) (by omega)).2) hl)), io_e rfl⟩
  rw [if_neg c3] at h
  by_cases c4 : x.1 = 4
  · rw [if_pos c4] at h
    rw [← goI h]
    exact ⟨lw_nxt (lw_sto (Or.inr (Or.inr (Or.inl ⟨rfl, iR_w _⟩))) hl), io_e rfl⟩
  rw [if_neg c4] at h
  by_cases c5 : x.1 = 5
  · rw [if_pos c5] at h
    rw [← goI h]
    exact ⟨lw_lev hl, io_e rfl⟩
  rw [if_neg c5] at h
  by_cases c6 : x.1 = 6
  · rw [if_pos c6] at h
    rw [← goI h]
    exact ⟨lw_nxt (lw_drp hl), io_e rfl⟩
  rw [if_neg c6] at h
  by_cases c7 : x.1 = 7
  · rw [if_pos c7] at h
    rw [← goI h]
    obtain ⟨xb, h1, h2, h3⟩ := tH_g hk ht (by omega)
    have htk : tkT x.1 = 2 := by rw [c7]; decide +kernel
    exact ⟨lw_nxt (lw_sto (Or.inl (by omega)) (lw_sto (Or.inl (by omega)) hl)), io_e rfl⟩
  rw [if_neg c7] at h
  by_cases c17 : x.1 ≤ 17
  · rw [if_pos c17] at h
    split at h
    · exact (rzG h).elim
    · rw [← goI h]
      exact ⟨lw_lev hl, io_e rfl⟩
  rw [if_neg c17] at h
  by_cases c18 : x.1 = 18
  · rw [if_pos c18] at h
    rw [← goI h]
    exact ⟨lw_lev hl, io_e rfl⟩
  rw [if_neg c18] at h
  by_cases c19 : x.1 = 19
  · rw [if_pos c19] at h
    rw [← goI h]
    exact ⟨lw_go hl, io_e rfl⟩
  rw [if_neg c19] at h
  by_cases c29 : x.1 ≤ 29
  · rw [if_pos c29] at h
    rw [← goI h]
    exact ⟨lw_go (lw_drp hl), io_e rfl⟩
  rw [if_neg c29] at h
  by_cases c30 : x.1 = 30
  · rw [if_pos c30] at h
    split at h
    · exact (stG h).elim
    · rename_i m2 hm2
      obtain ⟨g1, g2⟩ := lw_mk hl hm2
      rw [← goI h]
      exact ⟨lw_lev g1, io_e g2⟩
  rw [if_neg c30] at h
  by_cases c31 : x.1 = 31
  · rw [if_pos c31] at h
    split at h
    · exact (rzG h).elim
    · split at h
      · exact (stG h).elim
      · rename_i m2 hm2
        obtain ⟨g1, g2⟩ := lw_mk hl hm2
        rw [← goI h]
        exact ⟨lw_lev g1, io_e g2⟩
  rw [if_neg c31] at h
  by_cases c32 : x.1 = 32
  · rw [if_pos c32] at h
    split at h
    · exact (rzG h).elim
    · rw [← goI h]
      exact ⟨lw_lev hl, io_e rfl⟩
  rw [if_neg c32] at h
  by_cases c33 : x.1 = 33
  · rw [if_pos c33] at h
    split at h
    · exact (rzG h).elim
    · split at h
      · exact (rzG h).elim
      · rw [← goI h]
        exact ⟨lw_lev hl, io_e rfl⟩
  rw [if_neg c33] at h
  by_cases c34 : x.1 = 34
  · rw [if_pos c34] at h
    split at h
    · exact (rzG h).elim
    · split at h
      · exact (rzG h).elim
      · split at h
        · exact (rzG h).elim
        · rw [← goI h]
          exact ⟨lw_nxt (lw_drp (lw_wme hl)), io_e rfl⟩
  rw [if_neg c34] at h
  by_cases c35 : x.1 = 35
  · rw [if_pos c35] at h
    split at h
    · exact (rzG h).elim
    · rw [← goI h]
      exact ⟨lw_lev hl, io_e rfl⟩
  rw [if_neg c35] at h
  by_cases c36 : x.1 = 36
  · rw [if_pos c36] at h
    split at h
    · exact (rzG h).elim
    · rw [← goI h]
      exact ⟨lw_nxt (lw_drp (lw_wme hl)), io_e rfl⟩
  rw [if_neg c36] at h
  by_cases c37 : x.1 = 37
  · rw [if_pos c37] at h
    split at h
    · rw [← goI h]
      exact ⟨lw_nxt hl, io_e rfl⟩
    · exact (rzG h).elim
  rw [if_neg c37] at h
  by_cases c38 : x.1 = 38
  · rw [if_pos c38] at h
    rw [← goI h]
    exact ⟨lw_lev hl, io_e rfl⟩
  rw [if_neg c38] at h
  have args : x.1 = 39 ∨ x.1 = 40 → ∀ k, k < tkX p.2.2.2.1 x → vWf m (m.vs m.d (12 + m.hs m.d - tkX p.2.2.2.1 x + k)) := fun ho k hk' => by
    obtain ⟨f, c, y, -, -, -, -, -, -, -, a8, -, -, a11, -⟩ := cll_at hwf hk ht ho
    exact (ht.2.2.2 _ (by unfold rel; omega)).1
  by_cases c39 : x.1 = 39
  · rw [if_pos c39] at h
    split at h
    · exact (stG h).elim
    · rw [← goI h]
      exact ⟨lw_en hl (args (Or.inl c39)), io_e rfl⟩
  rw [if_neg c39] at h
  by_cases c40 : x.1 = 40
  · rw [if_pos c40] at h
    split at h
    · exact (rzG h).elim
    · split at h
      · exact (stG h).elim
      · rw [← goI h]
        exact ⟨lw_en hl (args (Or.inr c40)), io_e rfl⟩
  rw [if_neg c40] at h
  by_cases c41 : x.1 = 41
  · rw [if_pos c41] at h
    split at h
    · exact (rzG h).elim
    · exact (thO h).elim
  rw [if_neg c41] at h
  by_cases c42 : x.1 = 42
  · rw [if_pos c42] at h
    split at h
    · exact (stG h).elim
    · rw [← goI h]
      exact ⟨lw_nxt (lw_psh (lw_bck hl)), io_e rfl⟩
  rw [if_neg c42] at h
  by_cases c43 : x.1 = 43
  · rw [if_pos c43] at h
    split at h
    · exact (stG h).elim
    · rw [← goI h]
      exact ⟨lw_nxt (lw_bck hl), io_e rfl⟩
  rw [if_neg c43] at h
  by_cases c44 : x.1 = 44
  · rw [if_pos c44] at h
    rw [← goI h]
    have h1 : mLw ((m.d, m.pc, m.hs, m.vs, m.2.2.2.2.1, m.rd + 1, m.2.2.2.2.2.2) : jM) := hl
    exact ⟨lw_lev h1, Nat.le_refl (m.rd + 1), Nat.le_succ m.ow⟩
  rw [if_neg c44] at h
  rw [← goI h]
  have h1 : mLw ((m.d, m.pc, m.hs, m.vs, m.2.2.2.2.1, m.rd, m.ow + 1, if m.ow < 256 then gU m.ou m.ow (m.top 0).2 else m.ou) : jM) := hl
  exact ⟨lw_nxt (lw_drp h1), Nat.le_succ m.rd, Nat.le_refl (m.ow + 1)⟩
theorem lw_ts {r : Nat} : ∀ (c : Nat) (m m' : jM), mLw m → mTs p r c m = some m' → mLw m' ∧ m'.2.2.2.2.2 = m.2.2.2.2.2 := by
  intro c
  induction c with
  | zero => intro m m' _ h; cases h
  | succ c ih =>
    intro m m' hl h
    rw [mTs] at h
    split at h
    · cases h
      exact ⟨lw_go (lw_psh (lw_drp hl)), rfl⟩
    · split at h
      · cases h
      · exact ih m.bck m' (lw_bck hl) h
theorem lw_tw {r : Nat} (hl : mLw m) (h : mTw p m r = .inl m') : mLw m' ∧ m'.2.2.2.2.2 = m.2.2.2.2.2 := by
  unfold mTw at h
  split at h
  · rename_i m2 hm2
    cases h
    exact lw_ts 64 m _ hl hm2
  · cases h
/-- a step -/
theorem lw_sp (hwf : pWf tx p) (hk : pKX p Q) (hm : mOk p m) (ht : mTop p m x t) (hl : mLw m) (h : mSp p inp m (m.pc m.d) x = .inl m') : mLw m' ∧ mIo m m' := by
  unfold mSp at h
  split at h
  · rename_i q hq
    cases h
    exact lw_ef hwf hk hm ht hl hq
  · cases h
  · obtain ⟨g1, g2⟩ := lw_tw hl h
    exact ⟨g1, io_e g2⟩
  · split at h
    · cases h
    · rename_i m2 hm2
      obtain ⟨a1, a2⟩ := lw_mk hl hm2
      obtain ⟨g1, g2⟩ := lw_tw a1 h
      exact ⟨g1, io_e (g2.trans a2)⟩
end MLW
