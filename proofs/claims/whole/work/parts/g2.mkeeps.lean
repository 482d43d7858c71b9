/-! The run: an instruction that goes on leaves a right state. -/
section MKE
variable {p : jP} {m m' m1 : jM} {Q : Nat} {tx : List (List Int)} {x : jC} {t : Nat → Int}
theorem hTy_c (h : m'.2.2.2.2.1 = m.2.2.2.2.1) (hT : hTy p m) : hTy p m' := by
  obtain ⟨d, pc, hs, vs, hp, r⟩ := m
  obtain ⟨d', pc', hs', vs', hp', r'⟩ := m'
  have h : hp' = hp := h
  subst h
  exact hT
theorem vTy_c (h : m'.2.2.2.2.1 = m.2.2.2.2.1) {s : Int} {v : jV} (hT : vTy p m s v) : vTy p m' s v := by
  obtain ⟨d, pc, hs, vs, hp, r⟩ := m
  obtain ⟨d', pc', hs', vs', hp', r'⟩ := m'
  have h : hp' = hp := h
  subst h
  exact hT
/-- the general case -/
theorem mOk_step (hk : pKX p Q) (hm : mOk p m) (ht : mTop p m x t) {w : Nat → Int} {j : Nat} (hE : (tPf p.2.2.1 p.2.2.2.1 p.2.2.2.2.1.2.1 x (pH p (m.pc m.d)) t = some w ∧ ((fal x.1 = true ∧ j = m.pc m.d + 1) ∨ (19 ≤ x.1 ∧ x.1 ≤ 29 ∧ j = x.2.1.toNat))) ∨ ∃ (k : Nat) (y : Nat × Nat × Nat × Nat × Nat), p.2.2.2.2.1.2.2.1[k]? = some y ∧ y.1 = x.2.2.2.1 ∧ y.2.1 ≤ m.pc m.d ∧ m.pc m.d < y.2.2.1 ∧ j = y.2.2.2.1 ∧ w = tUp t 12 (4 + 2 * (y.2.2.2.2 : Int))) (h1 : m'.d = m.d) (h2 : ∀ f, m'.pc f = gU m.pc m.d j f) (h3 : m'.hs m.d = pH p j) (h4 : ∀ f, f < m.d → m'.hs f = m.hs f ∧ m'.vs f = m.vs f) (h5 : m.n ≤ m'.n ∧ ∀ o, o < m.n → m'.si o = m.si o) (h6 : hTy p m') (h7 : ∀ k, rel (pLc p (m.pc m.d)) (pH p j) k → vTy p m' (w k) (m'.vs m.d k)) : mOk p m' := by
  obtain ⟨x', t', a1, a2, a3, a4, a5, a6⟩ := ty_arr hk ht.1 ht.2.1 hE
  have hpd : m'.pc m'.d = j := by rw [h1, h2, gU_at]
  refine ⟨by rw [h1]; exact hm.1, h6, ⟨x', t', by rw [hpd]; exact a1, by rw [hpd]; exact a3, by rw [hpd, h1]; exact h3, fun k hr => ?_⟩, fun f hf => ?_⟩
  · rw [hpd, h1, h3] at hr
    rw [h1]
    exact vTy_le hk (a5 k) (a6 k hr) (h7 k (by rw [← a4]; exact hr))
  · rw [h1] at hf
    obtain ⟨y1, s1, y, y2, y3, b1, b2, b3, b4, b5, b6, b7, b8, b9⟩ := hm.2.2.2 f hf
    have hp1 : m'.pc f = m.pc f := by rw [h2, gU_ne (by omega)]
    obtain ⟨q1, q2⟩ := h4 f hf
    have rw5 : fRw p m' f s1 := fun k hr => by
      rw [hp1, q1] at hr
      rw [q2]
      exact vTy_ext h5.1 h5.2 (b5 k hr)
    by_cases e : f + 1 = m.d
    · rw [e, ht.1] at b7
      cases b7
      refine ⟨y1, s1, y, x', y3, by rw [hp1]; exact b1, by rw [hp1]; exact b2, b3, by rw [hp1, q1]; exact b4, rw5, b6, by rw [e, ← h1, hpd]; exact a1, by rw [a2]; exact b8, b9⟩
    · have hp2 : m'.pc (f + 1) = m.pc (f + 1) := by rw [h2, gU_ne e]
      exact ⟨y1, s1, y, y2, y3, by rw [hp1]; exact b1, by rw [hp1]; exact b2, b3, by rw [hp1, q1]; exact b4, rw5, b6, by rw [hp2]; exact b7, b8, b9⟩
theorem lev_hs {k : Nat} {v : jV} : (m.lev k v).hs m.d = m.hs m.d - k + 1 := by
  show gU (gU m.hs m.d (m.hs m.d - k)) m.d (gU m.hs m.d (m.hs m.d - k) m.d + 1) m.d = _
  rw [gU_at, gU_at]
theorem lev_hf {k f : Nat} {v : jV} (h : f ≠ m.d) : (m.lev k v).hs f = m.hs f := by
  show gU (gU m.hs m.d (m.hs m.d - k)) m.d (gU m.hs m.d (m.hs m.d - k) m.d + 1) f = _
  rw [gU_ne h, gU_ne h]
theorem lev_vs {k j : Nat} {v : jV} : (m.lev k v).vs m.d j = if j = 12 + (m.hs m.d - k) then v else m.vs m.d j := by
  show gU m.vs m.d (gU (m.vs m.d) (12 + gU m.hs m.d (m.hs m.d - k) m.d) v) m.d j = _
  rw [gU_at, gU_at]
  rfl
theorem lev_vf {k f : Nat} {v : jV} (h : f ≠ m.d) : (m.lev k v).vs f = m.vs f := by
  show gU m.vs m.d (gU (m.vs m.d) (12 + gU m.hs m.d (m.hs m.d - k) m.d) v) f = _
  rw [gU_ne h]
/-- a value is left -/
theorem mOk_lev (hk : pKX p Q) (hm : mOk p m) (ht : mTop p m x t) (hf : fal x.1 = true) (hn : x.1 ≠ 3 ∧ x.1 ≠ 5 ∧ x.1 ≠ 7) (hv1 : lvX p.2.2.2.1 x = 1) {s : Int} (hl : tLf p.2.2.1 p.2.2.2.1 p.2.2.2.2.1.2.1 x t (12 + pH p (m.pc m.d) - tkX p.2.2.2.1 x) = s) (hs : s ≠ -3) (e1 : m1.d = m.d) (e2 : m1.pc = m.pc) (e3 : m1.hs = m.hs) (e4 : m1.vs = m.vs) (h5 : m.n ≤ m1.n ∧ ∀ o, o < m.n → m1.si o = m.si o) (h6 : hTy p m1) {k : Nat} (hkk : k = tkX p.2.2.2.1 x) {v : jV} (hv : vTy p m1 s v) : mOk p (m1.lev k v) := by
  obtain ⟨⟨xb, e, hp⟩, -, -⟩ := m_at hk ht
  obtain ⟨-, ⟨c1, c2, c3⟩, pf, -⟩ := id hp
  obtain ⟨g1, g2, g3⟩ := pf hf
  have ht3 := ht.2.2.1
  have htp := tPf_1 (fl := p.2.2.1) (bl := p.2.2.2.1) (sl := p.2.2.2.2.1.2.1) (h := pH p (m.pc m.d)) (t := t) hn hv1 rfl hl hs
  have eh : (m1.lev k v).hs m.d = pH p (m.pc m.d + 1) := by
    rw [← e1, lev_hs, e3, e1, ht3, g1, hv1, hkk]
  refine mOk_step hk hm ht (Or.inl ⟨htp, Or.inl ⟨hf, rfl⟩⟩) e1 (fun f => ?_) eh (fun f hf' => ⟨by rw [lev_hf (by omega), e3], by rw [lev_vf (by omega), e4]⟩) h5 (hTy_c (m := m1) rfl h6) (fun j hr => ?_)
  · show gU m1.pc m1.d (m1.pc m1.d + 1) f = _
    rw [e2, e1]
  · rw [← e1, lev_vs, e3, e1, ht3, e4]
    unfold tUp
    by_cases c : j = 12 + pH p (m.pc m.d) - tkX p.2.2.2.1 x
    · rw [if_pos c, if_pos (by omega)]
      exact vTy_c (m := m1) rfl hv
    · rw [if_neg c, if_neg (by omega)]
      refine vTy_c (m := m1) rfl (vTy_ext h5.1 h5.2 (ht.2.2.2 j ?_))
      rw [ht3]
      rw [g1, hv1] at hr
      unfold rel at hr ⊢
      omega
/-- nothing is left -/
theorem mOk_drp (hk : pKX p Q) (hm : mOk p m) (ht : mTop p m x t) (hn : x.1 ≠ 3 ∧ x.1 ≠ 5 ∧ x.1 ≠ 7) (hv0 : lvX p.2.2.2.1 x = 0) {j : Nat} (hj : (fal x.1 = true ∧ j = m.pc m.d + 1) ∨ (19 ≤ x.1 ∧ x.1 ≤ 29 ∧ j = x.2.1.toNat)) (e1 : m1.d = m.d) (e2 : m1.pc = m.pc) (e3 : m1.hs = m.hs) (e4 : ∀ f, f < m.d → m1.vs f = m.vs f) (h5 : m.n ≤ m1.n ∧ ∀ o, o < m.n → m1.si o = m.si o) (h6 : hTy p m1) {k : Nat} (hkk : k = tkX p.2.2.2.1 x) (hv : ∀ j, rel (pLc p (m.pc m.d)) (m.hs m.d) j → vTy p m1 (t j) (m1.vs m.d j)) : mOk p ((m1.drp k).go j) := by
  obtain ⟨⟨xb, e, hp⟩, -, -⟩ := m_at hk ht
  obtain ⟨-, ⟨c1, c2, c3⟩, pf, pj, -⟩ := id hp
  have ht3 := ht.2.2.1
  have gg : pH p j = pH p (m.pc m.d) - tkX p.2.2.2.1 x := by
    rcases hj with ⟨q1, q2⟩ | ⟨q1, q2, q3⟩
    · rw [q2, (pf q1).1, hv0]; rfl
    · obtain ⟨g, a1, a2, -⟩ := pj ⟨q1, q2⟩
      rw [a1, Int.toNat_natCast] at q3
      rw [q3, a2, hv0]; rfl
  have htp := tPf_0 (fl := p.2.2.1) (bl := p.2.2.2.1) (sl := p.2.2.2.2.1.2.1) (h := pH p (m.pc m.d)) (t := t) hn hv0
  refine mOk_step hk hm ht (Or.inl ⟨htp, hj⟩) e1 (fun f => ?_) ?_ (fun f hf' => ⟨?_, e4 f hf'⟩) h5 (hTy_c (m := m1) rfl h6) (fun i hr => ?_)
  · show gU m1.pc m1.d j f = _
    rw [e2, e1]
  · show gU m1.hs m1.d (m1.hs m1.d - k) m.d = _
    rw [e1, gU_at, e3, ht3, gg, hkk]
  · show gU m1.hs m1.d (m1.hs m1.d - k) f = _
    rw [e1, gU_ne (by omega), e3]
  · refine vTy_c (m := m1) rfl (hv i ?_)
    rw [ht3]
    rw [gg] at hr
    unfold rel at hr ⊢
    omega
/-- new values on the stack -/
theorem top_ty (ht : mTop p m x t) {k : Nat} (h : k < m.hs m.d) : vTy p m (t (12 + m.hs m.d - 1 - k)) (m.top k) := by
  have := ht.2.2.2 (12 + m.hs m.d - 1 - k) (by unfold rel; omega)
  unfold jM.top
  rw [show 11 + m.hs m.d - k = 12 + m.hs m.d - 1 - k by omega]
  exact this
end MKE
