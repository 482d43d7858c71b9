/-! The run: plain instructions leave a right state. -/
section MPL
variable {p : jP} {m m' m1 : jM} {Q : Nat} {tx : List (List Int)} {x : jC} {t : Nat → Int} {inp : Nat → Int} {i : Nat}
theorem iR_cl {o : Nat} {a b : Int} : iR (mCl o a b) := by
  unfold mCl
  repeat' split
  all_goals first
    | exact iR_w _
    | exact iR_t _
    | (unfold iR; omega)
/-- kinds of what is on the stack -/
theorem top_k (ht : mTop p m x t) {k : Nat} (h : k < m.hs m.d) : (aRw p m (m.pc m.d) (m.hs m.d) (12 + pH p (m.pc m.d) - 1 - k)).1 = (m.top k).1 ∧ vWf m (m.top k) := by
  have ht3 := ht.2.2.1
  have h1 := top_ty ht h
  refine ⟨?_, h1.1⟩
  unfold aRw
  rw [← ht3, if_pos (by unfold rel; omega)]
  have e : m.vs m.d (12 + m.hs m.d - 1 - k) = m.top k := by unfold jM.top; rw [show 11 + m.hs m.d - k = 12 + m.hs m.d - 1 - k by omega]
  rw [e, aV_k h1.1]
theorem wf_1 {v : jV} (h : vWf m v) (h1 : v.1 = 1) : iR v.2 := by
  rcases h with q | q | q
  · omega
  · exact q.2
  · omega
theorem wf_2 {v : jV} (h : vWf m v) (h1 : v.1 = 2) : 0 ≤ v.2 ∧ v.2 ≤ (m.n : Int) := by
  rcases h with q | q | q
  · omega
  · omega
  · exact q.2
theorem ofTk0 : ∀ o : Nat, o < 46 → (o ≤ 2 → tkT o = 0 ∧ lvT o = 1 ∧ fal o = true) ∧ (o = 44 → tkT o = 0 ∧ lvT o = 1 ∧ fal o = true) ∧ (o = 4 → tkT o = 0 ∧ lvT o = 0 ∧ fal o = true) ∧ (o = 6 ∨ o = 45 → tkT o = 1 ∧ lvT o = 0 ∧ fal o = true) ∧ (8 ≤ o ∧ o ≤ 17 → tkT o = 2 ∧ lvT o = 1 ∧ fal o = true) := by decide +kernel
theorem ofTk3 : ∀ o : Nat, o < 46 → (o = 18 ∨ o = 31 ∨ o = 32 ∨ o = 35 ∨ o = 37 ∨ o = 38 → tkT o = 1 ∧ lvT o = 1 ∧ fal o = true) := by decide +kernel
theorem ofTk1 : ∀ o : Nat, o < 46 → (o = 33 → tkT o = 2 ∧ lvT o = 1 ∧ fal o = true) ∧ (o = 30 → tkT o = 0 ∧ lvT o = 1 ∧ fal o = true) ∧ (o = 34 → tkT o = 3 ∧ lvT o = 0 ∧ fal o = true) ∧ (o = 36 → tkT o = 2 ∧ lvT o = 0 ∧ fal o = true) := by decide +kernel
theorem ofTk2 : ∀ o : Nat, o < 46 → (o = 3 → tkT o = 1 ∧ lvT o = 0 ∧ fal o = true) ∧ (o = 5 → tkT o = 1 ∧ lvT o = 2 ∧ fal o = true) ∧ (o = 7 → tkT o = 2 ∧ lvT o = 2 ∧ fal o = true) ∧ (o = 19 → tkT o = 0 ∧ lvT o = 0) ∧ (20 ≤ o ∧ o ≤ 29 → lvT o = 0 ∧ fal o = true) := by decide +kernel
theorem ofTk (o : Nat) (h : o < 46) : (o ≤ 2 → tkT o = 0 ∧ lvT o = 1 ∧ fal o = true) ∧ (o = 44 → tkT o = 0 ∧ lvT o = 1 ∧ fal o = true) ∧ (o = 4 → tkT o = 0 ∧ lvT o = 0 ∧ fal o = true) ∧ (o = 6 ∨ o = 45 → tkT o = 1 ∧ lvT o = 0 ∧ fal o = true) ∧ (8 ≤ o ∧ o ≤ 17 → tkT o = 2 ∧ lvT o = 1 ∧ fal o = true) ∧ (o = 18 ∨ o = 31 ∨ o = 32 ∨ o = 35 ∨ o = 37 ∨ o = 38 → tkT o = 1 ∧ lvT o = 1 ∧ fal o = true) ∧ (o = 33 → tkT o = 2 ∧ lvT o = 1 ∧ fal o = true) ∧ (o = 30 → tkT o = 0 ∧ lvT o = 1 ∧ fal o = true) ∧ (o = 34 → tkT o = 3 ∧ lvT o = 0 ∧ fal o = true) ∧ (o = 36 → tkT o = 2 ∧ lvT o = 0 ∧ fal o = true) ∧ (o = 3 → tkT o = 1 ∧ lvT o = 0 ∧ fal o = true) ∧ (o = 5 → tkT o = 1 ∧ lvT o = 2 ∧ fal o = true) ∧ (o = 7 → tkT o = 2 ∧ lvT o = 2 ∧ fal o = true) ∧ (o = 19 → tkT o = 0 ∧ lvT o = 0) ∧ (20 ≤ o ∧ o ≤ 29 → lvT o = 0 ∧ fal o = true) := by
  obtain ⟨a1, a2, a3, a4, a5⟩ := ofTk0 o h
  have b1 := ofTk3 o h
  obtain ⟨b2, b3, b4, b5⟩ := ofTk1 o h
  obtain ⟨c1, c2, c3, c4, c5⟩ := ofTk2 o h
  exact ⟨a1, a2, a3, a4, a5, b1, b2, b3, b4, b5, c1, c2, c3, c4, c5⟩
/-- numbers that are left -/
theorem k_int (hk : pKX p Q) (hm : mOk p m) (ht : mTop p m x t) (ho : x.1 = 0 ∨ x.1 = 44 ∨ (8 ≤ x.1 ∧ x.1 ≤ 18) ∨ x.1 = 32 ∨ x.1 = 38) (e1 : m1.d = m.d) (e2 : m1.pc = m.pc) (e3 : m1.hs = m.hs) (e4 : m1.vs = m.vs) (e5 : m1.2.2.2.2.1 = m.2.2.2.2.1) {k : Nat} (hkk : k = tkT x.1) {n : Int} (hn : iR n) : mOk p (m1.lev k (1, n)) := by
  obtain ⟨⟨xb, e, hp⟩, -, hV⟩ := m_at hk ht
  obtain ⟨⟨p1, -⟩, -⟩ := id hp
  obtain ⟨t1, t2⟩ := tkX_n (bl := p.2.2.2.1) (x := x) (by omega)
  have tt := ofTk x.1 p1.1
  have hlf : fal x.1 = true ∧ lvT x.1 = 1 := by
    rcases ho with q | q | q | q | q
    · have := tt.1 (by omega); exact ⟨this.2.2, this.2.1⟩
    · have := tt.2.1 q; exact ⟨this.2.2, this.2.1⟩
    · by_cases c : x.1 = 18
      · have := tt.2.2.2.2.2.1 (by omega); exact ⟨this.2.2, this.2.1⟩
      · have := tt.2.2.2.2.1 (by omega); exact ⟨this.2.2, this.2.1⟩
    · have := tt.2.2.2.2.2.1 (by omega); exact ⟨this.2.2, this.2.1⟩
    · have := tt.2.2.2.2.2.1 (by omega); exact ⟨this.2.2, this.2.1⟩
  refine mOk_lev hk hm ht hlf.1 (by omega) (by rw [t2]; exact hlf.2) (s := 1) ?_ (by decide) e1 e2 e3 e4 ⟨by show m.2.2.2.2.1.1 ≤ m1.2.2.2.2.1.1; rw [e5]; exact Nat.le_refl _, fun o _ => by show m1.2.2.2.2.1.2.1 o = _; rw [e5]⟩ (hTy_c e5 hm.2.1) (by rw [hkk, t1]) (vTy_int hn)
  unfold tLf
  rw [if_neg (by omega), if_neg (by omega), if_neg (by omega), if_neg (by omega), if_neg (by omega), if_neg (by omega), if_neg (by omega)]
theorem k_null (hk : pKX p Q) (hm : mOk p m) (ht : mTop p m x t) (ho : x.1 = 1) : mOk p (m.lev 0 (2, 0)) := by
  obtain ⟨⟨xb, e, hp⟩, -, hV⟩ := m_at hk ht
  obtain ⟨⟨p1, -⟩, -⟩ := id hp
  obtain ⟨t1, t2⟩ := tkX_n (bl := p.2.2.2.1) (x := x) (by omega)
  have tt := (ofTk x.1 p1.1).1 (by omega)
  exact mOk_lev hk hm ht tt.2.2 (by omega) (by rw [t2]; exact tt.2.1) (s := 2) (by unfold tLf; rw [if_pos ho]) (by decide) rfl rfl rfl rfl ⟨Nat.le_refl _, fun _ _ => rfl⟩ hm.2.1 (by rw [t1]; exact tt.1.symm) (vTy_null (by decide))
/-- the local of an instruction -/
theorem loc_at (hk : pKX p Q) (ht : mTop p m x t) (ho : x.1 = 2 ∨ x.1 = 3 ∨ x.1 = 4) : ∃ a : Nat, x.2.1 = (a : Int) ∧ a < pLc p (m.pc m.d) ∧ a < 12 ∧ vTy p m (t a) (m.loc a) := by
  obtain ⟨⟨xb, e, hp⟩, -, hV⟩ := m_at hk ht
  obtain ⟨⟨p1, p2, p3, p4, p5, p6⟩, -⟩ := id hp
  obtain ⟨f2, f3, f4⟩ := fK_loc
  have := p1.2.2.1 (by
    rcases ho with q | q | q
    · rw [q]; exact Or.inl f2
    · rw [q]; exact Or.inl f3
    · rw [q]; exact Or.inr f4)
  refine ⟨x.2.1.toNat, by omega, by omega, by omega, ht.2.2.2 _ (by unfold rel; omega)⟩
theorem k_load (hk : pKX p Q) (hm : mOk p m) (ht : mTop p m x t) (ho : x.1 = 2) : mOk p (m.lev 0 (m.loc x.2.1.toNat)) := by
  obtain ⟨⟨xb, e, hp⟩, -, hV⟩ := m_at hk ht
  obtain ⟨⟨p1, -⟩, -⟩ := id hp
  obtain ⟨t1, t2⟩ := tkX_n (bl := p.2.2.2.1) (x := x) (by omega)
  have tt := (ofTk x.1 p1.1).1 (by omega)
  obtain ⟨a, a1, a2, a3, a4⟩ := loc_at hk ht (Or.inl ho)
  rw [a1, Int.toNat_natCast]
  refine mOk_lev hk hm ht tt.2.2 (by omega) (by rw [t2]; exact tt.2.1) (s := t a) ?_ (by have := (hV a).1; omega) rfl rfl rfl rfl ⟨Nat.le_refl _, fun _ _ => rfl⟩ hm.2.1 (by rw [t1]; exact tt.1.symm) a4
  unfold tLf
  rw [if_neg (by omega), if_pos ho, a1, Int.toNat_natCast]
theorem sto_vs {k j : Nat} {v : jV} : (m.sto k v).vs m.d j = if j = k then v else m.vs m.d j := by
  show gU m.vs m.d (gU (m.vs m.d) k v) m.d j = _
  rw [gU_at]; rfl
theorem sto_vf {k f : Nat} {v : jV} (h : f ≠ m.d) : (m.sto k v).vs f = m.vs f := by
  show gU m.vs m.d (gU (m.vs m.d) k v) f = _
  rw [gU_ne h]
theorem k_store (hk : pKX p Q) (hm : mOk p m) (ht : mTop p m x t) (ho : x.1 = 3) : mOk p (((m.sto x.2.1.toNat (m.top 0)).drp 1).nxt) := by
  obtain ⟨⟨xb, e, hp⟩, -, hV⟩ := m_at hk ht
  obtain ⟨⟨p1, -⟩, ⟨c1, c2, c3⟩, pf, -⟩ := id hp
  obtain ⟨t1, t2⟩ := tkX_n (bl := p.2.2.2.1) (x := x) (by omega)
  have tt := (ofTk x.1 p1.1).2.2.2.2.2.2.2.2.2.2.1 ho
  obtain ⟨g1, g2, g3⟩ := pf tt.2.2
  obtain ⟨a, a1, a2, a3, a4⟩ := loc_at hk ht (Or.inr (Or.inl ho))
  have ht3 := ht.2.2.1
  rw [a1, Int.toNat_natCast]
  rw [t1, t2, tt.1, tt.2.1] at g1
  rw [t1, tt.1] at c1
  refine mOk_step hk hm ht (w := tUp t a (t (12 + pH p (m.pc m.d) - 1))) (j := m.pc m.d + 1) (Or.inl ⟨by unfold tPf; rw [if_pos ho, a1, Int.toNat_natCast], Or.inl ⟨tt.2.2, rfl⟩⟩) rfl (fun f => rfl) ?_ (fun f hf => ⟨?_, sto_vf (by omega)⟩) ⟨Nat.le_refl _, fun _ _ => rfl⟩ (hTy_c (m := m) rfl hm.2.1) (fun k hr => ?_)
  · show gU m.hs m.d (m.hs m.d - 1) m.d = _
    rw [gU_at, ht3, g1]; rfl
  · show gU m.hs m.d (m.hs m.d - 1) f = _
    rw [gU_ne (by omega)]
  · refine vTy_c (m := m) rfl ?_
    show vTy p m _ ((m.sto a (m.top 0)).vs m.d k)
    rw [sto_vs]
    unfold tUp
    by_cases c : k = a
    · rw [if_pos c, if_pos c]
      have := top_ty ht (k := 0) (by omega)
      rw [ht3] at this
      exact this
    · rw [if_neg c, if_neg c]
      refine ht.2.2.2 k ?_
      rw [g1] at hr
      rw [ht3]
      unfold rel at hr ⊢
      omega
theorem k_inc (hk : pKX p Q) (hm : mOk p m) (ht : mTop p m x t) (ho : x.1 = 4) {n : Int} (hn : iR n) : mOk p ((m.sto x.2.1.toNat (1, n)).nxt) := by
  obtain ⟨⟨xb, e, hp⟩, -, hV⟩ := m_at hk ht
  obtain ⟨⟨p1, -⟩, ⟨c1, c2, c3⟩, pf, -, -, ⟨d1, d2⟩, -⟩ := id hp
  obtain ⟨t1, t2⟩ := tkX_n (bl := p.2.2.2.1) (x := x) (by omega)
  have tt := (ofTk x.1 p1.1).2.2.1 ho
  obtain ⟨g1, g2, g3⟩ := pf tt.2.2
  obtain ⟨a, a1, a2, a3, a4⟩ := loc_at hk ht (Or.inr (Or.inr ho))
  have ht3 := ht.2.2.1
  unfold tHo at d1
  rw [if_neg (by omega), if_pos ho, a1, Int.toNat_natCast] at d1
  have d1 : t a = 1 := of_decide_eq_true d1
  rw [a1, Int.toNat_natCast]
  rw [t1, t2, tt.1, tt.2.1] at g1
  refine mOk_step hk hm ht (w := t) (j := m.pc m.d + 1) (Or.inl ⟨tPf_0 (by omega) (by rw [t2]; exact tt.2.1), Or.inl ⟨tt.2.2, rfl⟩⟩) rfl (fun f => rfl) ?_ (fun f hf => ⟨rfl, sto_vf (by omega)⟩) ⟨Nat.le_refl _, fun _ _ => rfl⟩ (hTy_c (m := m) rfl hm.2.1) (fun k hr => ?_)
  · show m.hs m.d = _
    rw [ht3, g1]; rfl
  · refine vTy_c (m := m) rfl ?_
    show vTy p m _ ((m.sto a (1, n)).vs m.d k)
    rw [sto_vs]
    by_cases c : k = a
    · rw [if_pos c, c, d1]
      exact vTy_int hn
    · rw [if_neg c]
      refine ht.2.2.2 k ?_
      rw [g1] at hr
      rw [ht3]
      unfold rel at hr ⊢
      omega
theorem k_dup (hk : pKX p Q) (hm : mOk p m) (ht : mTop p m x t) (ho : x.1 = 5) : mOk p (m.lev 0 (m.top 0)) := by
  obtain ⟨⟨xb, e, hp⟩, -, hV⟩ := m_at hk ht
  obtain ⟨⟨p1, -⟩, ⟨c1, c2, c3⟩, pf, -⟩ := id hp
  obtain ⟨t1, t2⟩ := tkX_n (bl := p.2.2.2.1) (x := x) (by omega)
  have tt := (ofTk x.1 p1.1).2.2.2.2.2.2.2.2.2.2.2.1 ho
  obtain ⟨g1, g2, g3⟩ := pf tt.2.2
  have ht3 := ht.2.2.1
  rw [t1, t2, tt.1, tt.2.1] at g1
  rw [t1, tt.1] at c1
  refine mOk_step hk hm ht (w := tUp t (12 + pH p (m.pc m.d)) (t (12 + pH p (m.pc m.d) - 1))) (j := m.pc m.d + 1) (Or.inl ⟨by unfold tPf; rw [if_neg (by omega), if_pos ho], Or.inl ⟨tt.2.2, rfl⟩⟩) rfl (fun f => rfl) (by rw [lev_hs, ht3, g1]; omega) (fun f hf => ⟨lev_hf (by omega), lev_vf (by omega)⟩) ⟨Nat.le_refl _, fun _ _ => rfl⟩ (hTy_c (m := m) rfl hm.2.1) (fun k hr => ?_)
  refine vTy_c (m := m) rfl ?_
  rw [lev_vs]
  unfold tUp
  by_cases c : k = 12 + pH p (m.pc m.d)
  · rw [if_pos c, if_pos (by omega)]
    have := top_ty ht (k := 0) (by omega)
    rw [ht3] at this
    exact this
  · rw [if_neg c, if_neg (by omega)]
    refine ht.2.2.2 k ?_
    rw [g1] at hr
    rw [ht3]
    unfold rel at hr ⊢
    omega
theorem k_swap (hk : pKX p Q) (hm : mOk p m) (ht : mTop p m x t) (ho : x.1 = 7) : mOk p (((m.sto (11 + m.hs m.d) (m.top 1)).sto (10 + m.hs m.d) (m.top 0)).nxt) := by
  obtain ⟨⟨xb, e, hp⟩, -, hV⟩ := m_at hk ht
  obtain ⟨⟨p1, -⟩, ⟨c1, c2, c3⟩, pf, -⟩ := id hp
  obtain ⟨t1, t2⟩ := tkX_n (bl := p.2.2.2.1) (x := x) (by omega)
  have tt := (ofTk x.1 p1.1).2.2.2.2.2.2.2.2.2.2.2.2.1 ho
  obtain ⟨g1, g2, g3⟩ := pf tt.2.2
  have ht3 := ht.2.2.1
  rw [t1, t2, tt.1, tt.2.1] at g1
  rw [t1, tt.1] at c1
  refine mOk_step hk hm ht (w := tUp (tUp t (12 + pH p (m.pc m.d) - 2) (t (12 + pH p (m.pc m.d) - 2 + 1))) (12 + pH p (m.pc m.d) - 2 + 1) (t (12 + pH p (m.pc m.d) - 2))) (j := m.pc m.d + 1) (Or.inl ⟨by unfold tPf; rw [if_neg (by omega), if_neg (by omega), if_pos ho], Or.inl ⟨tt.2.2, rfl⟩⟩) rfl (fun f => rfl) (show m.hs m.d = _ by rw [ht3, g1]; omega) (fun f hf => ⟨rfl, ?_⟩) ⟨Nat.le_refl _, fun _ _ => rfl⟩ (hTy_c (m := m) rfl hm.2.1) (fun k hr => ?_)
  · show ((m.sto (11 + m.hs m.d) (m.top 1)).sto (10 + m.hs m.d) (m.top 0)).vs f = _
    rw [sto_vf (m := m.sto (11 + m.hs m.d) (m.top 1)) (show f ≠ m.d by omega), sto_vf (by omega)]
  · refine vTy_c (m := m) rfl ?_
    show vTy p m _ (((m.sto (11 + m.hs m.d) (m.top 1)).sto (10 + m.hs m.d) (m.top 0)).vs m.d k)
    have e1 : ((m.sto (11 + m.hs m.d) (m.top 1)).sto (10 + m.hs m.d) (m.top 0)).vs m.d k = if k = 10 + m.hs m.d then m.top 0 else (m.sto (11 + m.hs m.d) (m.top 1)).vs m.d k := sto_vs (m := m.sto (11 + m.hs m.d) (m.top 1))
    rw [e1, sto_vs]
    have y0 := top_ty ht (k := 0) (by omega)
    have y1 := top_ty ht (k := 1) (by omega)
    rw [ht3] at y0 y1
    unfold tUp
    by_cases c : k = 12 + pH p (m.pc m.d) - 2 + 1
    · rw [if_pos c, if_neg (by omega), if_pos (by omega)]
      exact y1
    · rw [if_neg c]
      by_cases c2 : k = 12 + pH p (m.pc m.d) - 2
      · rw [if_pos c2, if_pos (by omega), show 12 + pH p (m.pc m.d) - 2 + 1 = 12 + pH p (m.pc m.d) - 1 - 0 by omega]
        exact y0
      · rw [if_neg c2, if_neg (by omega), if_neg (by omega)]
        refine ht.2.2.2 k ?_
        rw [g1] at hr
        rw [ht3]
        unfold rel at hr ⊢
        omega
/-- what only takes -/
theorem k_take (hk : pKX p Q) (hm : mOk p m) (ht : mTop p m x t) (ho : x.1 = 6 ∨ x.1 = 45 ∨ (19 ≤ x.1 ∧ x.1 ≤ 29)) (e1 : m1.d = m.d) (e2 : m1.pc = m.pc) (e3 : m1.hs = m.hs) (e4 : m1.vs = m.vs) (e5 : m1.2.2.2.2.1 = m.2.2.2.2.1) {j k : Nat} (hkk : k = tkT x.1) (hj : (x.1 ≠ 19 ∧ j = m.pc m.d + 1) ∨ (19 ≤ x.1 ∧ x.1 ≤ 29 ∧ j = x.2.1.toNat)) : mOk p ((m1.drp k).go j) := by
  obtain ⟨⟨xb, e, hp⟩, -, hV⟩ := m_at hk ht
  obtain ⟨⟨p1, -⟩, -⟩ := id hp
  obtain ⟨t1, t2⟩ := tkX_n (bl := p.2.2.2.1) (x := x) (by omega)
  have tt := ofTk x.1 p1.1
  have hlv : lvT x.1 = 0 := by
    by_cases c : 20 ≤ x.1 ∧ x.1 ≤ 29
    · exact (tt.2.2.2.2.2.2.2.2.2.2.2.2.2.2 c).1
    · by_cases c19 : x.1 = 19
      · exact (tt.2.2.2.2.2.2.2.2.2.2.2.2.2.1 c19).2
      · exact (tt.2.2.2.1 (by omega)).2.1
  refine mOk_drp hk hm ht (by omega) (by rw [t2]; exact hlv) ?_ e1 e2 e3 (fun f _ => by rw [e4]) ⟨by show m.2.2.2.2.1.1 ≤ m1.2.2.2.2.1.1; rw [e5]; exact Nat.le_refl _, fun o _ => by show m1.2.2.2.2.1.2.1 o = _; rw [e5]⟩ (hTy_c e5 hm.2.1) (by rw [hkk, t1]) (fun j hr => by rw [e4]; exact vTy_c e5 (ht.2.2.2 j hr))
  rcases hj with ⟨q1, q2⟩ | q
  · exact Or.inl ⟨fal_y (by omega), q2⟩
  · exact Or.inr q
end MPL
