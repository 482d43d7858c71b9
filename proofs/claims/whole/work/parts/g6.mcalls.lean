/-! The run: new objects, calls, ends of bodies, catches leave a right state. -/
section MCA
variable {p : jP} {m m' m1 : jM} {Q : Nat} {tx : List (List Int)} {x : jC} {t : Nat → Int} {inp : Nat → Int}
/-- the general case, in any body that is begun -/
theorem mOk_fr (hk : pKX p Q) (hm : mOk p m) {fr : Nat} (hfr : fr ≤ m.d) (hx : p.2.2.2.2.1.1[m.pc fr]? = some x) (ht : pTy p (m.pc fr) = some t) {w : Nat → Int} {j : Nat} (hE : (tPf p.2.2.1 p.2.2.2.1 p.2.2.2.2.1.2.1 x (pH p (m.pc fr)) t = some w ∧ ((fal x.1 = true ∧ j = m.pc fr + 1) ∨ (19 ≤ x.1 ∧ x.1 ≤ 29 ∧ j = x.2.1.toNat))) ∨ ∃ (k : Nat) (y : Nat × Nat × Nat × Nat × Nat), p.2.2.2.2.1.2.2.1[k]? = some y ∧ y.1 = x.2.2.2.1 ∧ y.2.1 ≤ m.pc fr ∧ m.pc fr < y.2.2.1 ∧ j = y.2.2.2.1 ∧ w = tUp t 12 (4 + 2 * (y.2.2.2.2 : Int))) (h1 : m'.d = fr) (h2 : ∀ f, m'.pc f = gU m.pc fr j f) (h3 : m'.hs fr = pH p j) (h4 : ∀ f, f < fr → m'.hs f = m.hs f ∧ m'.vs f = m.vs f) (h5 : m.n ≤ m'.n ∧ ∀ o, o < m.n → m'.si o = m.si o) (h6 : hTy p m') (h7 : ∀ k, rel (pLc p (m.pc fr)) (pH p j) k → vTy p m' (w k) (m'.vs fr k)) : mOk p m' := by
  obtain ⟨x', t', a1, a2, a3, a4, a5, a6⟩ := ty_arr hk hx ht hE
  have hpd : m'.pc m'.d = j := by rw [h1, h2, gU_at]
  refine ⟨by rw [h1]; have := hm.1; omega, h6, ⟨x', t', by rw [hpd]; exact a1, by rw [hpd]; exact a3, by rw [hpd, h1]; exact h3, fun k hr => ?_⟩, fun f hf => ?_⟩
  · rw [hpd, h1, h3] at hr
    rw [h1]
    exact vTy_le hk (a5 k) (a6 k hr) (h7 k (by rw [← a4]; exact hr))
  · rw [h1] at hf
    obtain ⟨y1, s1, y, y2, y3, b1, b2, b3, b4, b5, b6, b7, b8, b9⟩ := hm.2.2.2 f (by omega)
    have hp1 : m'.pc f = m.pc f := by rw [h2, gU_ne (by omega)]
    obtain ⟨q1, q2⟩ := h4 f hf
    have rw5 : fRw p m' f s1 := fun k hr => by
      rw [hp1, q1] at hr
      rw [q2]
      exact vTy_ext h5.1 h5.2 (b5 k hr)
    by_cases e : f + 1 = fr
    · rw [e, hx] at b7
      cases b7
      refine ⟨y1, s1, y, x', y3, by rw [hp1]; exact b1, by rw [hp1]; exact b2, b3, by rw [hp1, q1]; exact b4, rw5, b6, by rw [e, ← h1, hpd]; exact a1, by rw [a2]; exact b8, b9⟩
    · have hp2 : m'.pc (f + 1) = m.pc (f + 1) := by rw [h2, gU_ne e]
      exact ⟨y1, s1, y, y2, y3, by rw [hp1]; exact b1, by rw [hp1]; exact b2, b3, by rw [hp1, q1]; exact b4, rw5, b6, by rw [hp2]; exact b7, b8, b9⟩
/-- the site of a new object -/
theorem site_at (hwf : pWf tx p) (hk : pKX p Q) (ht : mTop p m x t) (ho : x.1 = 30 ∨ x.1 = 31) : ∃ k : Nat, x.2.2.1 = (k : Int) ∧ k < p.2.2.2.2.1.2.1.length ∧ k < 48 ∧ sTp p.2.2.2.2.1 k = p.2.2.2.2.1.2.1.getD k 0 ∧ (x.1 = 30 → ∃ c : Nat, x.2.1 = (c : Int) ∧ c < p.2.1.length ∧ sTp p.2.2.2.2.1 k = 4 + 2 * (c : Int) ∧ cl (sTp p.2.2.2.2.1 k) = c ∧ tAr (sTp p.2.2.2.2.1 k) = false) ∧ (x.1 = 31 → tAr (sTp p.2.2.2.2.1 k) = true) := by
  obtain ⟨c1, c2, c3, c4, c5, c6, c7, c8⟩ := p_ctx hwf hk
  obtain ⟨⟨xb0, e, hp⟩, -, hV⟩ := m_at hk ht
  obtain ⟨⟨p1, -⟩, -⟩ := id hp
  obtain ⟨k, s, q1, q2, q3⟩ := p1.2.2.2.2.2.2.2.1 ho
  have hkl := at_lt q2
  have est : sTp p.2.2.2.2.1 k = p.2.2.2.2.1.2.1.getD k 0 := by unfold sTp; rw [if_pos hkl]
  have es : sTp p.2.2.2.2.1 k = s := by rw [est, List.getD_eq_getElem?_getD, q2, Option.getD_some]
  refine ⟨k, q1, hkl, by omega, est, fun h30 => ?_, fun h31 => ?_⟩
  · obtain ⟨c, d1, d2⟩ := p1.2.2.2.1 (by rw [h30]; exact fK_ty.1)
    unfold sTy at q3
    rw [if_pos h30, d1] at q3
    have q3 : s = 4 + 2 * (c : Int) := by simpa using q3
    refine ⟨c, d1, by have := hwf.1.2.1; omega, by rw [es, q3], by rw [es, q3]; unfold cl; omega, ?_⟩
    rw [es, q3]
    unfold tAr
    rw [decide_eq_false (by omega), decide_eq_false (p := (4 + 2 * (c : Int)) % 2 = 1) (by omega), Bool.and_false]; rfl
  · have d := (p1.2.2.2.2.1 (by rw [h31]; exact Or.inl fK_ty.2.1)).2 (by rw [h31]; exact fK_ty.2.1)
    unfold sTy at q3
    rw [if_neg (by omega), if_pos h31] at q3
    rw [es]
    rcases d with d | ⟨c, -, d⟩
    · rw [if_pos d] at q3
      have q3 : s = 3 := by simpa using q3
      rw [q3]; decide
    · rw [if_neg (by omega), d] at q3
      have q3 : s = 4 + 2 * (c : Int) + 1 := by simpa using q3
      unfold tAr
      rw [q3, decide_eq_true (p := (4 + 2 * (c : Int) + 1) % 2 = 1) (by omega), decide_eq_true (show (4 : Int) < 4 + 2 * (c : Int) + 1 by omega)]
      simp
theorem k_make (hwf : pWf tx p) (hk : pKX p Q) (hm : mOk p m) (ht : mTop p m x t) (ho : x.1 = 30 ∨ x.1 = 31) {sz : Nat} (hz : x.1 = 30 → sz = nOf p.2.1 p.2.2.1 x.2.1.toNat) (h : mMk p m x.2.2.1.toNat sz = some m1) {k : Nat} (hkk : k = tkT x.1) : mOk p (m1.lev k (2, ((m.n + 1 : Nat) : Int))) := by
  obtain ⟨c1, c2, c3, c4, c5, c6, c7, c8⟩ := p_ctx hwf hk
  obtain ⟨⟨xb0, e, hp⟩, -, hV⟩ := m_at hk ht
  obtain ⟨⟨p1, -⟩, -⟩ := id hp
  have tt := ofTk x.1 p1.1
  obtain ⟨t1, t2⟩ := tkX_n (bl := p.2.2.2.1) (x := x) (by omega)
  have hx3 : x.1 ≠ 3 ∧ x.1 ≠ 5 ∧ x.1 ≠ 7 ∧ x.1 ≠ 1 ∧ x.1 ≠ 2 := by omega
  obtain ⟨s, s1, s2, s3, s4, s5, s6⟩ := site_at hwf hk ht ho
  rw [s1, Int.toNat_natCast] at h
  have hsv : sVd p.2.2.2.2.1 s = true := by unfold sVd; rw [decide_eq_true s2]; rfl
  obtain ⟨g1, g2, g3, g4, g5, g6, g7, g8, g9, -⟩ := mMk_ok c1 c2 c5 (fun y hy => (c6 y hy).2) c3 c4 hm.2.1 hsv (fun ha => by
    rcases ho with q | q
    · obtain ⟨c, d1, d2, d3, d4, d5⟩ := s5 q
      rw [hz q, d4, d1, Int.toNat_natCast]
    · rw [s6 q] at ha; cases ha) h
  have hlf : fal x.1 = true ∧ lvT x.1 = 1 := by
    rcases ho with q | q
    · have := tt.2.2.2.2.2.2.2.1 q; exact ⟨this.2.2, this.2.1⟩
    · have := tt.2.2.2.2.2.1 (by omega); exact ⟨this.2.2, this.2.1⟩
  have h3 := (c4 s hsv).2
  clear s5 s6
  refine mOk_lev hk hm ht hlf.1 ⟨hx3.1, hx3.2.1, hx3.2.2.1⟩ (by rw [t2]; exact hlf.2) (s := sTp p.2.2.2.2.1 s) ?_ (by omega) g5 g6 g7 g8 ⟨by omega, g3⟩ g1 (by rw [hkk, t1]) ?_
  · unfold tLf
    rw [if_neg hx3.2.2.2.1, if_neg hx3.2.2.2.2, if_pos ho, s1, Int.toNat_natCast, s4]
  · exact vTy_obj (by omega) (by omega) (by rw [g4]; exact hsv) (by rw [g4]; exact tLe_refl _)
/-- a body is called -/
theorem k_enter (hk : pKX p Q) (hm : mOk p m) (ht : mTop p m x t) (ho : x.1 = 39 ∨ x.1 = 40) (hd : m.d < 63) {b n : Nat} {y y' : jB} (hn : n = tkX p.2.2.2.1 x) (hy : p.2.2.2.1[x.2.1.toNat]? = some y) (hy' : p.2.2.2.1[b]? = some y') (hr : y'.rs = y.rs) (hl : y'.ps.length = n) (ha : ∀ k, k < n → vTy p m (y'.ps.getD k 0) (m.vs m.d (12 + m.hs m.d - n + k))) : mOk p (mEn p m b n) := by
  obtain ⟨e, x', t', a1, a2, a3, a4, a5, a6, a7, a8⟩ := ty_ent hk hy'
  obtain ⟨⟨xb0, e0, hp⟩, -, hV⟩ := m_at hk ht
  obtain ⟨-, ⟨c1, -⟩, -⟩ := id hp
  obtain ⟨M, hM⟩ : ∃ M, M = mEn p m b n := ⟨_, rfl⟩
  have hE0 : mE0 p b = e.1 := by unfold mE0; rw [a1]
  have f1 : M.d = m.d + 1 := by rw [hM]; rfl
  have f2 : ∀ f, M.pc f = gU m.pc (m.d + 1) e.1 f := fun f => by rw [hM, ← hE0]; rfl
  have f3 : ∀ f, M.hs f = gU (gU m.hs m.d (m.hs m.d - n)) (m.d + 1) 0 f := fun f => by rw [hM]; rfl
  have f4 : ∀ f, M.vs f = gU m.vs (m.d + 1) (fun k => if k < n then m.vs m.d (12 + m.hs m.d - n + k) else (0, 0)) f := fun f => by rw [hM]; rfl
  have f5 : M.2.2.2.2.1 = m.2.2.2.2.1 := by rw [hM]; rfl
  rw [← hM]
  have ht3 := ht.2.2.1
  refine ⟨by omega, hTy_c f5 hm.2.1, ⟨x', t', by rw [f1, f2, gU_at]; exact a2, by rw [f1, f2, gU_at]; exact a4, by rw [f1, f2, gU_at, f3, gU_at, a5], fun k hr' => ?_⟩, fun f hf => ?_⟩
  · rw [f1, f4, gU_at]
    rw [f1, f2, gU_at, f3, gU_at] at hr'
    refine vTy_c f5 ?_
    by_cases c : k < n
    · rw [if_pos c]
      refine vTy_le hk (a7 k) ?_ (ha k c)
      have := a8 k
      unfold tIn at this
      rw [if_pos (by omega)] at this
      exact this
    · rw [if_neg c]
      have := a8 k
      unfold tIn at this
      rw [if_neg (by omega)] at this
      have h0 : t' k = 0 := by
        rcases (tLe_iff _ _).mp this with q | q | q <;> omega
      rw [h0]
      exact vTy_0 (Or.inl ⟨rfl, rfl⟩)
  · rw [f1] at hf
    by_cases e1 : f = m.d
    · subst e1
      refine ⟨x, t, y, x', y', by rw [f2, gU_ne (by omega)]; exact ht.1, by rw [f2, gU_ne (by omega)]; exact ht.2.1, ho, ?_, fun k hr' => ?_, hy, by rw [f2, gU_at]; exact a2, by rw [a3]; exact hy', hr⟩
      · rw [f3, gU_ne (by omega), gU_at, f2, gU_ne (by omega), ht3, hn]
      · rw [f2, gU_ne (by omega), f3, gU_ne (by omega), gU_at] at hr'
        rw [f4, gU_ne (by omega)]
        refine vTy_c f5 (ht.2.2.2 k ?_)
        unfold rel at hr' ⊢
        omega
    · obtain ⟨y1, s1, yy, y2, y3, b1, b2, b3, b4, b5, b6, b7, b8, b9⟩ := hm.2.2.2 f (by omega)
      refine ⟨y1, s1, yy, y2, y3, by rw [f2, gU_ne (by omega)]; exact b1, by rw [f2, gU_ne (by omega)]; exact b2, b3, by rw [f3, gU_ne (by omega), gU_ne (by omega), f2, gU_ne (by omega)]; exact b4, fun k hr' => ?_, b6, by rw [f2, gU_ne (by omega)]; exact b7, b8, b9⟩
      rw [f2, gU_ne (by omega), f3, gU_ne (by omega), gU_ne (by omega)] at hr'
      rw [f4, gU_ne (by omega)]
      exact vTy_c f5 (b5 k hr')
/-- what a call takes -/
theorem cll_at (hwf : pWf tx p) (hk : pKX p Q) (ht : mTop p m x t) (ho : x.1 = 39 ∨ x.1 = 40) : ∃ (f c : Nat) (y : jB), x.2.1 = (f : Int) ∧ p.2.2.2.1[f]? = some y ∧ y.me = decide (x.1 = 40) ∧ x.2.2.1 = (c : Int) ∧ 8 ≤ c ∧ c < p.2.1.length ∧ anc p.2.1 c y.ow = true ∧ tkX p.2.2.2.1 x = y.ps.length ∧ lvX p.2.2.2.1 x = (if y.rs = -1 then 0 else 1) ∧ (y.rs = -1 ∨ tV p.2.1 y.rs ∧ (y.rs = 1 ∨ 2 ≤ y.rs)) ∧ y.ps.length ≤ m.hs m.d ∧ f < 48 ∧ (x.1 = 40 → 1 ≤ y.ps.length) ∧ ∀ k, k < y.ps.length → tLe p.2.1 (t (12 + m.hs m.d - y.ps.length + k)) (if k = 0 ∧ x.1 = 40 then 4 + 2 * (c : Int) else y.ps.getD k 0) = true ∧ tV p.2.1 (y.ps.getD k 0) := by
  obtain ⟨⟨xb0, e, hp⟩, hkd, hV⟩ := m_at hk ht
  obtain ⟨⟨p1, -⟩, ⟨c1, -⟩, -, -, -, ⟨d1, d2⟩, ⟨l1, l2, -⟩, -, -, y2⟩ := id hp
  obtain ⟨f, c, y, q1, q2, q3, q4, q5, q6, q7, q8, -⟩ := cal_at hk ht.1 p1 y2 ho
  obtain ⟨f', c', y', r1, r2, r3, r4, r5, r6⟩ := p1.2.2.2.2.2.2.1 ho
  have : f' = f := by omega
  subst this
  have : c' = c := by omega
  subst this
  rw [q2] at r2
  cases r2
  have ht3 := ht.2.2.1
  rw [q7] at c1
  obtain ⟨k1, k2, k3, k4, k5, k6, k7, k8, -⟩ := id hwf.1
  refine ⟨f', c', y, q1, q2, q3, q4, q5, q6, r6, q7, q8, y2 y (List.mem_of_getElem? q2), by omega, bl_48 l2 q2, fun h40 => by rw [← q7]; exact (hkd.2.2.2.2.2.2.2.2.2.2.1 h40).2, fun k hk' => ⟨?_, ?_⟩⟩
  · unfold tHo at d1
    rw [if_neg (by omega), if_neg (by omega), if_neg (by omega), if_pos ho] at d1
    have b0 := allR_at _ _ d1 k (by omega) (by omega)
    rw [q7, ← ht3] at b0
    have et : tTold p.2.2.2.1 x k = if k = 0 ∧ x.1 = 40 then 4 + 2 * (c' : Int) else y.ps.getD k 0 := by
      unfold tTold
      rw [q1, Int.toNat_natCast, q2, q4]
    rw [et] at b0
    exact b0
  · have ht := (b_ty k8 k2 k7 y (List.mem_of_getElem? q2)).1 (y.ps.getD k 0) (by
      rw [List.getD_eq_getElem?_getD, List.getElem?_eq_getElem hk', Option.getD_some]
      exact List.getElem_mem hk')
    exact (tOk_V (us := p.2.1) ht k2).1
theorem k_call (hwf : pWf tx p) (hk : pKX p Q) (hm : mOk p m) (ht : mTop p m x t) (ho : x.1 = 39) (hd : m.d < 63) : mOk p (mEn p m x.2.1.toNat (tkX p.2.2.2.1 x)) := by
  obtain ⟨f, c, y, a1, a2, a3, a4, a5, a6, a7, a8, a9, a10, a11, a12, a13, a14⟩ := cll_at hwf hk ht (Or.inl ho)
  have hb : p.2.2.2.1[x.2.1.toNat]? = some y := by rw [a1, Int.toNat_natCast]; exact a2
  refine k_enter hk hm ht (Or.inl ho) hd rfl hb hb rfl a8.symm (fun k hk' => ?_)
  rw [a8] at hk' ⊢
  obtain ⟨b1, b2⟩ := a14 k hk'
  rw [if_neg (fun q => by omega)] at b1
  have := ht.2.2.2 (12 + m.hs m.d - y.ps.length + k) (by unfold rel; omega)
  exact vTy_le hk b2 b1 this
/-- the body that a send means -/
theorem rn_some {us : List Int} {bl : List jB} {c f : Nat} {y : jB} (hf : bl[f]? = some y) (ha : anc us c y.ow = true) : ∃ b : Nat, rnS us bl c y = (b : Int) := by
  unfold rnS
  rw [if_pos ha]
  rcases bdL_last (us := us) (c := c) (n := y.nm) bl 0 (-1) with ⟨h1, h2⟩ | ⟨k, o, h1, -⟩
  · exact absurd ⟨rfl, ha⟩ (h2 f y hf)
  · exact ⟨0 + k, h1⟩
theorem snd_obj (hwf : pWf tx p) (hk : pKX p Q) (hm : mOk p m) (ht : mTop p m x t) (ho : x.1 = 40) (hr : (m.top (tkX p.2.2.2.1 x - 1)).2 ≠ 0) : ∃ (o f b : Nat) (y y' : jB), x.2.1 = (f : Int) ∧ f < 48 ∧ p.2.2.2.1[f]? = some y ∧ tkX p.2.2.2.1 x = y.ps.length ∧ 1 ≤ y.ps.length ∧ y.ps.length ≤ m.hs m.d ∧ o < m.n ∧ (m.top (tkX p.2.2.2.1 x - 1)).2 = ((o + 1 : Nat) : Int) ∧ (m.top (tkX p.2.2.2.1 x - 1)).2.toNat - 1 = o ∧ sVd p.2.2.2.2.1 (m.si o) = true ∧ tAr (sTp p.2.2.2.2.1 (m.si o)) = false ∧ 4 ≤ sTp p.2.2.2.2.1 (m.si o) ∧ cl (sTp p.2.2.2.2.1 (m.si o)) < p.2.1.length ∧ rnS p.2.1 p.2.2.2.1 (cl (sTp p.2.2.2.2.1 (m.si o))) y = (b : Int) ∧ p.2.2.2.1[b]? = some y' ∧ y'.ps.length = y.ps.length ∧ y'.rs = y.rs ∧ y'.ps.drop 1 = y.ps.drop 1 ∧ tLe p.2.1 (sTp p.2.2.2.2.1 (m.si o)) (4 + 2 * (y'.ow : Int)) = true ∧ y'.ps[0]? = some (4 + 2 * (y'.ow : Int)) := by
  obtain ⟨c1, c2, c3, c4, c5, c6, c7, c8⟩ := p_ctx hwf hk
  obtain ⟨f, c, y, a1, a2, a3, a4, a5, a6, a7, a8, a9, a10, a11, a12, a13, a14⟩ := cll_at hwf hk ht (Or.inr ho)
  have h1 := a13 ho
  obtain ⟨b1, b2⟩ := a14 0 (by omega)
  rw [if_pos ⟨rfl, ho⟩, Nat.add_zero] at b1
  have eix : 12 + m.hs m.d - 1 - (tkX p.2.2.2.1 x - 1) = 12 + m.hs m.d - y.ps.length := by rw [a8]; omega
  have h2t : 2 ≤ t (12 + m.hs m.d - y.ps.length) := by
    rcases (tLe_iff _ _).mp b1 with s | s | s <;> omega
  obtain ⟨o, o1, o2, o3, o4, o5⟩ := obj_top hwf hk hm ht (k := tkX p.2.2.2.1 x - 1) (by rw [a8]; omega) (by rw [eix]; exact h2t) hr
  rw [eix] at o5
  obtain ⟨s1, s2⟩ := c4 _ o4
  have hle := tLe_trans c1 c2 s1 (by unfold tV; omega) o5 b1
  have hcls : cl (4 + 2 * (c : Int)) = c := by unfold cl; omega
  obtain ⟨g1, g2, g4⟩ : tAr (sTp p.2.2.2.2.1 (m.si o)) = false ∧ anc p.2.1 (cl (sTp p.2.2.2.2.1 (m.si o))) c = true ∧ 4 ≤ sTp p.2.2.2.2.1 (m.si o) := by
    rcases (tLe_iff _ _).mp hle with s | s | ⟨q1, q2, s | s | ⟨q3, q4, q5, q6⟩⟩
    · rw [s, hcls]
      refine ⟨?_, anc_self c, by omega⟩
      unfold tAr
      rw [decide_eq_false (by omega), decide_eq_false (p := (4 + 2 * (c : Int)) % 2 = 1) (by omega), Bool.and_false]; rfl
    · omega
    · omega
    · omega
    · refine ⟨?_, by rw [hcls] at q6; exact q6, by omega⟩
      unfold tAr
      rw [decide_eq_false q3, decide_eq_false (p := sTp p.2.2.2.2.1 (m.si o) % 2 = 1) (by omega), Bool.and_false]; rfl
  have hco := cl_ok c3 c4 o4
  have g3 := anc_trans c1 c2 p.2.1.length _ c y.ow hco hco g2 a7
  obtain ⟨b, hb⟩ := rn_some a2 g3
  obtain ⟨y', v1, v2, v3, v4, v5, v6, v7⟩ := hk.2.1.2.2.1 _ f b y hco a2 (by rw [a3]; exact decide_eq_true ho) hb
  exact ⟨o, f, b, y, y', a1, a12, a2, a8, h1, a11, o1, o2, o3, o4, g1, g4, hco, hb, v1, v3, v4, v5, tLe_cls c1 (by omega) hle (tLe_refl _) s2 v6, v7⟩
theorem k_send (hwf : pWf tx p) (hk : pKX p Q) (hm : mOk p m) (ht : mTop p m x t) (ho : x.1 = 40) (hr : (m.top (tkX p.2.2.2.1 x - 1)).2 ≠ 0) (hd : m.d < 63) : mOk p (mEn p m (match p.2.2.2.1[x.2.1.toNat]? with
    | none => 0
    | some y => (rnS p.2.1 p.2.2.2.1 (cl (mTp p m (m.top (tkX p.2.2.2.1 x - 1)).2)) y).toNat) (tkX p.2.2.2.1 x)) := by
  obtain ⟨f0, c, y0, a1, a2, a3, a4, a5, a6, a7, a8, a9, a10, a11, a12, a13, a14⟩ := cll_at hwf hk ht (Or.inr ho)
  obtain ⟨o, f, b, y, y', e1, e2, e3, e4, e5, e6, e7, e8, e9, e10, e11, e12, e13, e14, e15, e16, e17, e18, e19, e20⟩ := snd_obj hwf hk hm ht ho hr
  have ef : f0 = f := by omega
  subst ef
  rw [a2] at e3
  cases e3
  have hb : p.2.2.2.1[x.2.1.toNat]? = some y0 := by rw [a1, Int.toNat_natCast]; exact a2
  have emt : mTp p m (m.top (tkX p.2.2.2.1 x - 1)).2 = sTp p.2.2.2.2.1 (m.si o) := by unfold mTp; rw [e9]
  rw [hb]
  dsimp only
  rw [emt, e14, Int.toNat_natCast]
  refine k_enter hk hm ht (Or.inr ho) hd rfl hb e15 e17 (by rw [e16, e4]) (fun k hk' => ?_)
  rw [e4] at hk' ⊢
  have hty := ht.2.2.2 (12 + m.hs m.d - y0.ps.length + k) (by unfold rel; omega)
  by_cases k0 : k = 0
  · subst k0
    have eg : y'.ps.getD 0 0 = 4 + 2 * (y'.ow : Int) := by rw [List.getD_eq_getElem?_getD, e20, Option.getD_some]
    rw [eg]
    have et : m.vs m.d (12 + m.hs m.d - y0.ps.length + 0) = (2, ((o + 1 : Nat) : Int)) := by
      have e : m.vs m.d (12 + m.hs m.d - y0.ps.length + 0) = m.top (tkX p.2.2.2.1 x - 1) := by
        unfold jM.top
        rw [e4, show 11 + m.hs m.d - (y0.ps.length - 1) = 12 + m.hs m.d - y0.ps.length + 0 by omega]
      rw [e]
      refine Prod.ext ?_ e8
      have h2 : 2 ≤ t (12 + m.hs m.d - 1 - (tkX p.2.2.2.1 x - 1)) := by
        obtain ⟨b1, -⟩ := a14 0 (by omega)
        rw [if_pos ⟨rfl, ho⟩, Nat.add_zero] at b1
        rw [e4, show 12 + m.hs m.d - 1 - (y0.ps.length - 1) = 12 + m.hs m.d - y0.ps.length by omega]
        rcases (tLe_iff _ _).mp b1 with s | s | s <;> omega
      exact (vTy_k (top_ty ht (k := tkX p.2.2.2.1 x - 1) (by rw [e4]; omega)) h2).1
    rw [et]
    exact vTy_obj (by omega) e7 e10 e19
  · obtain ⟨b1, b2⟩ := a14 k hk'
    rw [if_neg (fun q => k0 q.1)] at b1
    have eg : y'.ps.getD k 0 = y0.ps.getD k 0 := by
      obtain ⟨k, rfl⟩ : ∃ q, k = q + 1 := ⟨k - 1, by omega⟩
      have h1 : (y'.ps.drop 1)[k]? = (y0.ps.drop 1)[k]? := by rw [e18]
      rw [List.getElem?_drop, List.getElem?_drop, Nat.add_comm 1 k] at h1
      rw [List.getD_eq_getElem?_getD, List.getD_eq_getElem?_getD, h1]
    rw [eg]
    exact vTy_le hk b2 b1 hty
end MCA
