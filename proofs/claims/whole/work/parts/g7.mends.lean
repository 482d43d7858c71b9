/-! The run: ends of bodies and catches leave a right state; one step. -/
section MEN
variable {p : jP} {m m' m1 : jM} {Q : Nat} {tx : List (List Int)} {x : jC} {t : Nat → Int} {inp : Nat → Int}
/-- the call that a body goes back to -/
theorem bck_at (hwf : pWf tx p) (hk : pKX p Q) (hm : mOk p m) (ht : mTop p m x t) (hd : m.d ≠ 0) : ∃ (x1 : jC) (t1 : Nat → Int) (y xb : jB), p.2.2.2.2.1.1[m.pc (m.d - 1)]? = some x1 ∧ pTy p (m.pc (m.d - 1)) = some t1 ∧ (x1.1 = 39 ∨ x1.1 = 40) ∧ m.hs (m.d - 1) = pH p (m.pc (m.d - 1)) - tkX p.2.2.2.1 x1 ∧ tkX p.2.2.2.1 x1 ≤ pH p (m.pc (m.d - 1)) ∧ fRw p m (m.d - 1) t1 ∧ p.2.2.2.1[x1.2.1.toNat]? = some y ∧ p.2.2.2.1[x.2.2.2.1]? = some xb ∧ xb.rs = y.rs ∧ lvX p.2.2.2.1 x1 = (if y.rs = -1 then 0 else 1) ∧ (y.rs = -1 ∨ tV p.2.1 y.rs ∧ (y.rs = 1 ∨ 2 ≤ y.rs)) ∧ pH p (m.pc (m.d - 1) + 1) = pH p (m.pc (m.d - 1)) - tkX p.2.2.2.1 x1 + lvX p.2.2.2.1 x1 ∧ pH p (m.pc (m.d - 1) + 1) ≤ 8 := by
  obtain ⟨x1, t1, y, x', y', b1, b2, b3, b4, b5, b6, b7, b8, b9⟩ := hm.2.2.2 (m.d - 1) (by omega)
  rw [show m.d - 1 + 1 = m.d by omega, ht.1] at b7
  cases b7
  obtain ⟨xb, e, hp⟩ := pAt hk.2.1 b1 b2
  obtain ⟨⟨p1, -⟩, ⟨c1, c2, c3⟩, pf, -, -, -, ⟨l1, l2, -⟩, -, -, y2⟩ := id hp
  obtain ⟨f, c, yy, q1, q2, q3, q4, q5, q6, q7, q8, -⟩ := cal_at hk b1 p1 y2 b3
  rw [q1, Int.toNat_natCast, q2] at b6
  cases b6
  obtain ⟨g1, -, -⟩ := pf (fal_y (by omega))
  exact ⟨x1, t1, y, y', b1, b2, b3, b4, c1, b5, by rw [q1, Int.toNat_natCast]; exact q2, b8, b9, q8, y2 y (List.mem_of_getElem? q2), g1, by rw [g1]; exact c2⟩
theorem k_give (hwf : pWf tx p) (hk : pKX p Q) (hm : mOk p m) (ht : mTop p m x t) (ho : x.1 = 42) (hd : m.d ≠ 0) : mOk p (m.bck.psh (m.top 0)).nxt := by
  obtain ⟨x1, t1, y, xb, b1, b2, b3, b4, b5, b6, b7, b8, b9, b10, b11, b12, b13⟩ := bck_at hwf hk hm ht hd
  obtain ⟨xb', h1, h2, h3⟩ := tH_g hk ht (by omega)
  rw [b8] at h1
  cases h1
  have htk : tkT x.1 = 1 := by rw [ho]; decide +kernel
  have w0 := h3 0 (by omega)
  have wn0 : wn x.1 0 = 9 := by rw [ho]; rfl
  rw [wn0, htk] at w0
  have w0 : (decide (xb.rs ≠ -1) && tLe p.2.1 (t (12 + m.hs m.d - 1 + 0)) xb.rs) = true := w0
  rw [Bool.and_eq_true] at w0
  obtain ⟨w1, w2⟩ := w0
  have w1 := of_decide_eq_true w1
  rw [b9] at w1 w2
  rw [if_neg w1] at b10
  obtain ⟨v1, v2⟩ := b11.resolve_left w1
  have hv := vTy_le hk v1 w2 (top_ty ht (k := 0) (by omega))
  have htp := tPf_1 (fl := p.2.2.1) (bl := p.2.2.2.1) (sl := p.2.2.2.2.1.2.1) (h := pH p (m.pc (m.d - 1))) (t := t1) (s := y.rs) (x := x1) (by omega) b10 rfl (by unfold tLf; rw [if_neg (by omega), if_neg (by omega), if_neg (by omega), if_neg (by omega), if_neg (by omega), if_neg (by omega), if_pos b3, b7]) (by omega)
  have e1 : m.bck.d = m.d - 1 := rfl
  refine mOk_fr hk hm (fr := m.d - 1) (by omega) b1 b2 (Or.inl ⟨htp, Or.inl ⟨fal_y (by omega), rfl⟩⟩) rfl (fun f => rfl) ?_ (fun f hf => ⟨?_, ?_⟩) ⟨Nat.le_refl _, fun _ _ => rfl⟩ (hTy_c (m := m) rfl hm.2.1) (fun k hr => ?_)
  · show gU m.hs (m.d - 1) (m.hs (m.d - 1) + 1) (m.d - 1) = _
    rw [gU_at, b4, b12, b10]
  · show gU m.hs (m.d - 1) (m.hs (m.d - 1) + 1) f = _
    rw [gU_ne (by omega)]
  · show gU m.vs (m.d - 1) (gU (m.vs (m.d - 1)) (12 + m.hs (m.d - 1)) (m.top 0)) f = _
    rw [gU_ne (by omega)]
  · refine vTy_c (m := m) rfl ?_
    show vTy p m _ (gU m.vs (m.d - 1) (gU (m.vs (m.d - 1)) (12 + m.hs (m.d - 1)) (m.top 0)) (m.d - 1) k)
    rw [gU_at]
    unfold tUp gU
    by_cases c : k = 12 + pH p (m.pc (m.d - 1)) - tkX p.2.2.2.1 x1
    · rw [if_pos c, if_pos (by omega)]
      exact hv
    · rw [if_neg c, if_neg (by omega)]
      refine b6 k ?_
      rw [b12, b10] at hr
      unfold rel at hr ⊢
      omega
theorem k_back (hwf : pWf tx p) (hk : pKX p Q) (hm : mOk p m) (ht : mTop p m x t) (ho : x.1 = 43) (hd : m.d ≠ 0) : mOk p m.bck.nxt := by
  obtain ⟨x1, t1, y, xb, b1, b2, b3, b4, b5, b6, b7, b8, b9, b10, b11, b12, b13⟩ := bck_at hwf hk hm ht hd
  obtain ⟨⟨xb0, e, hp⟩, -, hV⟩ := m_at hk ht
  obtain ⟨⟨p1, p2, p3, -⟩, -, -, -, -, ⟨d1, d2⟩, -⟩ := id hp
  rw [b8] at p3
  cases p3
  unfold tHo at d1
  rw [if_neg (by omega), if_neg (by omega), if_pos ho] at d1
  have d1 := of_decide_eq_true d1
  rw [b9] at d1
  rw [if_pos d1] at b10
  have htp := tPf_0 (fl := p.2.2.1) (bl := p.2.2.2.1) (sl := p.2.2.2.2.1.2.1) (h := pH p (m.pc (m.d - 1))) (t := t1) (x := x1) (by omega) b10
  refine mOk_fr hk hm (fr := m.d - 1) (by omega) b1 b2 (Or.inl ⟨htp, Or.inl ⟨fal_y (by omega), rfl⟩⟩) rfl (fun f => rfl) (show m.hs (m.d - 1) = _ by rw [b4, b12, b10]; rfl) (fun f hf => ⟨rfl, rfl⟩) ⟨Nat.le_refl _, fun _ _ => rfl⟩ (hTy_c (m := m) rfl hm.2.1) (fun k hr => ?_)
  refine vTy_c (m := m) rfl (b6 k ?_)
  rw [b12, b10] at hr
  unfold rel at hr ⊢
  omega
/-- the catch that is found -/
theorem mCt_at {i : Nat} {s : Int} : ∀ (c k : Nat) {j : Nat}, mCt p i s c k = some j → ∃ (k' : Nat) (y : Nat × Nat × Nat × Nat × Nat) (x : jC), k ≤ k' ∧ k' < k + c ∧ p.2.2.2.2.1.2.2.1[k']? = some y ∧ p.2.2.2.2.1.1[i]? = some x ∧ (y.1 = x.2.2.2.1 ∧ y.2.1 ≤ i ∧ i < y.2.2.1) ∧ tLe p.2.1 s (4 + 2 * (y.2.2.2.2 : Int)) = true ∧ j = y.2.2.2.1 := by
  intro c
  induction c with
  | zero => intro k j h; cases h
  | succ c ih =>
    intro k j h
    rw [mCt] at h
    split at h
    · rename_i y x hy hx
      split at h
      · rename_i hc
        cases h
        exact ⟨k, y, x, Nat.le_refl _, by omega, hy, hx, hc.1, hc.2, rfl⟩
      · obtain ⟨k', y', x', a1, a2, a3⟩ := ih (k + 1) h
        exact ⟨k', y', x', by omega, by omega, a3⟩
    · obtain ⟨k', y', x', a1, a2, a3⟩ := ih (k + 1) h
      exact ⟨k', y', x', by omega, by omega, a3⟩
/-- a body that is begun, whichever -/
theorem fr_at (hm : mOk p m) {f : Nat} (hf : f ≤ m.d) : ∃ x t, p.2.2.2.2.1.1[m.pc f]? = some x ∧ pTy p (m.pc f) = some t ∧ fRw p m f t := by
  by_cases e : f = m.d
  · obtain ⟨x, t, h1, h2, h3, h4⟩ := hm.2.2.1
    rw [e]
    exact ⟨x, t, h1, h2, h4⟩
  · obtain ⟨x1, t1, y, x', y', b1, b2, b3, b4, b5, -⟩ := hm.2.2.2 f (by omega)
    exact ⟨x1, t1, b1, b2, b5⟩
theorem k_toss (hk : pKX p Q) (hm : mOk p m) {r : Nat} (hr1 : 1 ≤ r) (hr : r ≤ m.n) : ∀ (c f : Nat), f ≤ m.d → ∀ {m'}, mTs p r c ((f, m.2) : jM) = some m' → mOk p m' := by
  intro c
  induction c with
  | zero => intro f _ m' h; cases h
  | succ c ih =>
    intro f hf m' h
    rw [mTs] at h
    have e1 : jM.pc ((f, m.2) : jM) (jM.d ((f, m.2) : jM)) = m.pc f := rfl
    have e2 : jM.si ((f, m.2) : jM) (r - 1) = m.si (r - 1) := rfl
    rw [e1, e2] at h
    split at h
    · rename_i j hj
      cases h
      obtain ⟨k, y, x, a1, a2, a3, a4, a5, a6, a7⟩ := mCt_at _ _ hj
      obtain ⟨x0, t0, q1, q2, q3⟩ := fr_at hm hf
      rw [a4] at q1
      cases q1
      obtain ⟨xb, e, hp⟩ := pAt hk.2.1 a4 q2
      obtain ⟨-, -, -, -, pc, -⟩ := id hp
      obtain ⟨pc1, pc2, pc3, pc4⟩ := pc k y a3 a5.1 a5.2.1 a5.2.2
      refine mOk_fr hk hm (fr := f) hf a4 q2 (j := j) (w := tUp t0 12 (4 + 2 * (y.2.2.2.2 : Int))) (Or.inr ⟨k, y, a3, a5.1, a5.2.1, a5.2.2, a7, rfl⟩) rfl (fun g => rfl) ?_ (fun g hg => ⟨?_, ?_⟩) ⟨Nat.le_refl _, fun _ _ => rfl⟩ (hTy_c (m := m) rfl hm.2.1) (fun i hr' => ?_)
      · show gU (gU m.hs f (m.hs f - m.hs f)) f (gU m.hs f (m.hs f - m.hs f) f + 1) f = _
        rw [gU_at, gU_at, a7, pc1, Nat.sub_self]
      · show gU (gU m.hs f (m.hs f - m.hs f)) f (gU m.hs f (m.hs f - m.hs f) f + 1) g = _
        rw [gU_ne (by omega), gU_ne (by omega)]
      · show gU m.vs f (gU (m.vs f) (12 + gU m.hs f (m.hs f - m.hs f) f) (2, (r : Int))) g = _
        rw [gU_ne (by omega)]
      · refine vTy_c (m := m) rfl ?_
        show vTy p m _ (gU m.vs f (gU (m.vs f) (12 + gU m.hs f (m.hs f - m.hs f) f) (2, (r : Int))) f i)
        rw [gU_at, gU_at, Nat.sub_self]
        unfold tUp gU
        by_cases c : i = 12
        · rw [if_pos c, if_pos (by omega)]
          have ev : ((2, (r : Int)) : jV) = (2, ((r - 1 + 1 : Nat) : Int)) := by rw [show r - 1 + 1 = r by omega]
          rw [ev]
          exact vTy_obj (by omega) (by omega) (hm.2.1.2.2.2.2.1 _ (by omega)) a6
        · rw [if_neg c, if_neg (by omega)]
          refine q3 i ?_
          rw [a7, pc1] at hr'
          unfold rel at hr' ⊢
          omega
    · split at h
      · cases h
      · rename_i hd
        have hd : ¬ f = 0 := hd
        exact ih (f - 1) (by omega) h
theorem k_thr (hk : pKX p Q) (hm : mOk p m) {r : Nat} (hr1 : 1 ≤ r) (hr : r ≤ m.n) (h : mTw p m r = .inl m') : mOk p m' := by
  unfold mTw at h
  split at h
  · rename_i q hq
    cases h
    exact k_toss hk hm hr1 hr 64 m.d (Nat.le_refl _) hq
  · cases h
/-- an error that is raised is an object more -/
theorem k_err (hwf : pWf tx p) (hk : pKX p Q) (hm : mOk p m) {e : Nat} (he : e < 6) (h : mMk p m (48 + e) 0 = some m1) : mOk p m1 ∧ m1.n = m.n + 1 := by
  obtain ⟨c1, c2, c3, c4, c5, c6, c7, c8⟩ := p_ctx hwf hk
  have hsv : sVd p.2.2.2.2.1 (48 + e) = true := by
    unfold sVd
    rw [decide_eq_true (show 48 ≤ 48 + e by omega), decide_eq_true (show 48 + e < 54 by omega)]
    simp
  have es : sTp p.2.2.2.2.1 (48 + e) = 4 + 2 * ((e : Int) + 2) := by
    unfold sTp
    rw [if_neg (by omega)]
    omega
  have ecl : cl (sTp p.2.2.2.2.1 (48 + e)) = e + 2 := by rw [es]; unfold cl; omega
  obtain ⟨g1, g2, g3, g4, g5, g6, g7, g8, g9, -⟩ := mMk_ok c1 c2 c5 (fun y hy => (c6 y hy).2) c3 c4 hm.2.1 hsv (fun _ => by
    rw [ecl, nOf_8 c1 c2 (fun f y hy => c7 y (List.mem_of_getElem? hy)) (e + 2) (by omega) (by omega)]) h
  refine ⟨⟨by rw [g5]; exact hm.1, g1, ?_, fun f hf => ?_⟩, g2⟩
  · obtain ⟨x, t, h1, h2, h3, h4⟩ := hm.2.2.1
    refine ⟨x, t, by rw [g5, g6]; exact h1, by rw [g5, g6]; exact h2, by rw [g5, g6, g7]; exact h3, fun k hr => ?_⟩
    rw [g5, g6, g7] at hr
    rw [g5, g8]
    exact vTy_ext (by omega) g3 (h4 k hr)
  · rw [g5] at hf
    obtain ⟨y1, s1, y, y2, y3, b1, b2, b3, b4, b5, b6, b7, b8, b9⟩ := hm.2.2.2 f hf
    refine ⟨y1, s1, y, y2, y3, by rw [g6]; exact b1, by rw [g6]; exact b2, b3, by rw [g6, g7]; exact b4, fun k hr => ?_, b6, by rw [g6]; exact b7, b8, b9⟩
    rw [g6, g7] at hr
    rw [g8]
    exact vTy_ext (by omega) g3 (b5 k hr)
/-- what an instruction does, if it goes on -/
theorem k_go1 (h29 : x.1 ≤ 29) (hwf : pWf tx p) (hk : pKX p Q) (hm : mOk p m) (ht : mTop p m x t) (hi : ∀ k, iR (inp k)) (h : mEf p inp m (m.pc m.d) x = jE.go m') : mOk p m' := by
  obtain ⟨⟨xb0, e, hp⟩, hkd, hV⟩ := m_at hk ht
  obtain ⟨⟨p1, -⟩, -⟩ := id hp
  have h46 := p1.1
  have tt := ofTk x.1 p1.1
  have inj : ∀ {a b : jM}, jE.go a = jE.go b → a = b := fun q => by unfold jE.go at q; cases q; rfl
  have nr : ∀ {e : Nat} {a : jM}, jE.rz e = jE.go a → False := fun q => by unfold jE.rz jE.go at q; cases q
  have ns : ∀ {e : Nat} {a : jM}, jE.st e = jE.go a → False := fun q => by unfold jE.st jE.go at q; cases q
  have nt : ∀ {e : Nat} {a : jM}, jE.th e = jE.go a → False := fun q => by unfold jE.th jE.go at q; cases q
  unfold mEf at h
  by_cases c0 : x.1 = 0
  · rw [if_pos c0] at h
    rw [← inj h]
    exact k_int hk hm ht (by omega) rfl rfl rfl rfl rfl (tt.1 (by omega)).1.symm (p1.2.2.2.2.2.2.2.2.1 c0)
  rw [if_neg c0] at h
  by_cases c1 : x.1 = 1
  · rw [if_pos c1] at h
    rw [← inj h]
    exact k_null hk hm ht c1
  rw [if_neg c1] at h
  by_cases c2 : x.1 = 2
  · rw [if_pos c2] at h
    rw [← inj h]
    exact k_load hk hm ht c2
  rw [if_neg c2] at h
  by_cases c3 : x.1 = 3
  · rw [if_pos c3] at h
    rw [← inj h]
    exact k_store hk hm ht c3
  rw [if_neg c3] at h
  by_cases c4 : x.1 = 4
  · rw [if_pos c4] at h
    rw [← inj h]
    exact k_inc hk hm ht c4 (iR_w _)
  rw [if_neg c4] at h
  by_cases c5 : x.1 = 5
  · rw [if_pos c5] at h
    rw [← inj h]
    exact k_dup hk hm ht c5
  rw [if_neg c5] at h
  by_cases c6 : x.1 = 6
  · rw [if_pos c6] at h
    rw [← inj h]
    exact k_take hk hm ht (by omega) rfl rfl rfl rfl rfl (tt.2.2.2.1 (by omega)).1.symm (Or.inl ⟨by omega, rfl⟩)
  rw [if_neg c6] at h
  by_cases c7 : x.1 = 7
  · rw [if_pos c7] at h
    rw [← inj h]
    exact k_swap hk hm ht c7
  rw [if_neg c7] at h
  by_cases c17 : x.1 ≤ 17
  · rw [if_pos c17] at h
    split at h
    · exact (nr h).elim
    · rw [← inj h]
      exact k_int hk hm ht (by omega) rfl rfl rfl rfl rfl (tt.2.2.2.2.1 (by omega)).1.symm iR_cl
  rw [if_neg c17] at h
  by_cases c18 : x.1 = 18
  · rw [if_pos c18] at h
    rw [← inj h]
    exact k_int hk hm ht (by omega) rfl rfl rfl rfl rfl (tt.2.2.2.2.2.1 (by omega)).1.symm (iR_w _)
  rw [if_neg c18] at h
  by_cases c19 : x.1 = 19
  · rw [if_pos c19] at h
    rw [← inj h]
    have := k_take hk hm ht (m1 := m) (k := 0) (j := x.2.1.toNat) (by omega) rfl rfl rfl rfl rfl (tt.2.2.2.2.2.2.2.2.2.2.2.2.2.1 c19).1.symm (Or.inr ⟨by omega, by omega, rfl⟩)
    have ed : (m.drp 0).go x.2.1.toNat = m.go x.2.1.toNat := by
      have : gU m.hs m.d (m.hs m.d - 0) = m.hs := by
        funext f
        unfold gU
        split
        · rename_i q; rw [q]; rfl
        · rfl
      show ((m.d, gU m.pc m.d x.2.1.toNat, gU m.hs m.d (m.hs m.d - 0), m.2.2.2) : jM) = _
      rw [this]; rfl
    rw [← ed]
    exact this
  rw [if_neg c19] at h
  by_cases c29 : x.1 ≤ 29
  · rw [if_pos c29] at h
    rw [← inj h]
    refine k_take hk hm ht (by omega) rfl rfl rfl rfl rfl rfl ?_
    split
    · exact Or.inr ⟨by omega, by omega, rfl⟩
    · exact Or.inl ⟨by omega, rfl⟩
  exact absurd h29 c29
theorem k_go2 (h29 : 30 ≤ x.1) (h38 : x.1 ≤ 38) (hwf : pWf tx p) (hk : pKX p Q) (hm : mOk p m) (ht : mTop p m x t) (hi : ∀ k, iR (inp k)) (h : mEf p inp m (m.pc m.d) x = jE.go m') : mOk p m' := by
  obtain ⟨⟨xb0, e, hp⟩, hkd, hV⟩ := m_at hk ht
  obtain ⟨⟨p1, -⟩, -⟩ := id hp
  have h46 := p1.1
  have tt := ofTk x.1 p1.1
  have inj : ∀ {a b : jM}, jE.go a = jE.go b → a = b := fun q => by unfold jE.go at q; cases q; rfl
  have nr : ∀ {e : Nat} {a : jM}, jE.rz e = jE.go a → False := fun q => by unfold jE.rz jE.go at q; cases q
  have ns : ∀ {e : Nat} {a : jM}, jE.st e = jE.go a → False := fun q => by unfold jE.st jE.go at q; cases q
  have nt : ∀ {e : Nat} {a : jM}, jE.th e = jE.go a → False := fun q => by unfold jE.th jE.go at q; cases q
  unfold mEf at h
  rw [if_neg (by omega), if_neg (by omega), if_neg (by omega), if_neg (by omega), if_neg (by omega), if_neg (by omega), if_neg (by omega), if_neg (by omega), if_neg (by omega), if_neg (by omega), if_neg (by omega), if_neg (by omega)] at h
  by_cases c30 : x.1 = 30
  · rw [if_pos c30] at h
    split at h
    · exact (ns h).elim
    · rename_i m1 hm1
      rw [← inj h]
      exact k_make hwf hk hm ht (Or.inl c30) (fun _ => rfl) hm1 (tt.2.2.2.2.2.2.2.1 c30).1.symm
  rw [if_neg c30] at h
  by_cases c31 : x.1 = 31
  · rw [if_pos c31] at h
    split at h
    · exact (nr h).elim
    · split at h
      · exact (ns h).elim
      · rename_i m1 hm1
        rw [← inj h]
        exact k_make hwf hk hm ht (Or.inr c31) (fun q => by omega) hm1 (tt.2.2.2.2.2.1 (by omega)).1.symm
  rw [if_neg c31] at h
  by_cases c32 : x.1 = 32
  · rw [if_pos c32] at h
    split at h
    · exact (nr h).elim
    · rename_i hr
      rw [← inj h]
      refine k_int hk hm ht (by omega) rfl rfl rfl rfl rfl (tt.2.2.2.2.2.1 (by omega)).1.symm ?_
      have hb := hm.2.1.2.2.1
      have hr2 := hkd.2.2.2.2.1 (by omega)
      rw [← ht.2.2.1] at hr2
      have htk := top_k ht (k := 0) (by omega)
      rw [← ht.2.2.1] at htk
      have k2 := wf_2 htk.2 (by rw [← htk.1]; exact hr2.1)
      have := ba_mono hm.2.1 m.n (Nat.le_refl _) ((m.top 0).2.toNat - 1 + 1) (by omega)
      unfold jM.ext iR
      omega
  rw [if_neg c32] at h
  by_cases c33 : x.1 = 33
  · rw [if_pos c33] at h
    split at h
    · exact (nr h).elim
    · split at h
      · exact (nr h).elim
      · rename_i h1 h2
        rw [← inj h]
        exact k_aload hwf hk hm ht c33 h1 h2
  rw [if_neg c33] at h
  by_cases c34 : x.1 = 34
  · rw [if_pos c34] at h
    split at h
    · exact (nr h).elim
    · split at h
      · exact (nr h).elim
      · split at h
        · exact (nr h).elim
        · rename_i h1 h2 h3
          rw [← inj h]
          exact k_astore hwf hk hm ht c34 h1 h2 h3
  rw [if_neg c34] at h
  by_cases c35 : x.1 = 35
  · rw [if_pos c35] at h
    split at h
    · exact (nr h).elim
    · rename_i h1
      rw [← inj h]
      exact k_get hwf hk hm ht c35 h1
  rw [if_neg c35] at h
  by_cases c36 : x.1 = 36
  · rw [if_pos c36] at h
    split at h
    · exact (nr h).elim
    · rename_i h1
      rw [← inj h]
      exact k_put hwf hk hm ht c36 h1
  rw [if_neg c36] at h
  by_cases c37 : x.1 = 37
  · rw [if_pos c37] at h
    split at h
    · rename_i h1
      rw [← inj h]
      exact k_cast hwf hk hm ht c37 h1
    · exact (nr h).elim
  rw [if_neg c37] at h
  by_cases c38 : x.1 = 38
  · rw [if_pos c38] at h
    rw [← inj h]
    refine k_int hk hm ht (by omega) rfl rfl rfl rfl rfl (tt.2.2.2.2.2.1 (by omega)).1.symm ?_
    split <;> (unfold iR; omega)
  exact absurd h38 (by omega)
theorem k_go3 (h29 : 39 ≤ x.1) (hwf : pWf tx p) (hk : pKX p Q) (hm : mOk p m) (ht : mTop p m x t) (hi : ∀ k, iR (inp k)) (h : mEf p inp m (m.pc m.d) x = jE.go m') : mOk p m' := by
  obtain ⟨⟨xb0, e, hp⟩, hkd, hV⟩ := m_at hk ht
  obtain ⟨⟨p1, -⟩, -⟩ := id hp
  have h46 := p1.1
  have tt := ofTk x.1 p1.1
  have inj : ∀ {a b : jM}, jE.go a = jE.go b → a = b := fun q => by unfold jE.go at q; cases q; rfl
  have nr : ∀ {e : Nat} {a : jM}, jE.rz e = jE.go a → False := fun q => by unfold jE.rz jE.go at q; cases q
  have ns : ∀ {e : Nat} {a : jM}, jE.st e = jE.go a → False := fun q => by unfold jE.st jE.go at q; cases q
  have nt : ∀ {e : Nat} {a : jM}, jE.th e = jE.go a → False := fun q => by unfold jE.th jE.go at q; cases q
  unfold mEf at h
  rw [if_neg (by omega), if_neg (by omega), if_neg (by omega), if_neg (by omega), if_neg (by omega), if_neg (by omega), if_neg (by omega), if_neg (by omega), if_neg (by omega), if_neg (by omega), if_neg (by omega), if_neg (by omega), if_neg (by omega), if_neg (by omega), if_neg (by omega), if_neg (by omega), if_neg (by omega), if_neg (by omega), if_neg (by omega), if_neg (by omega), if_neg (by omega)] at h
  by_cases c39 : x.1 = 39
  · rw [if_pos c39] at h
    split at h
    · exact (ns h).elim
    · rw [← inj h]
      exact k_call hwf hk hm ht c39 (by omega)
  rw [if_neg c39] at h
  by_cases c40 : x.1 = 40
  · rw [if_pos c40] at h
    split at h
    · exact (nr h).elim
    · split at h
      · exact (ns h).elim
      · rename_i h1 h2
        rw [← inj h]
        exact k_send hwf hk hm ht c40 h1 (by omega)
  rw [if_neg c40] at h
  by_cases c41 : x.1 = 41
  · rw [if_pos c41] at h
    split at h
    · exact (nr h).elim
    · exact (nt h).elim
  rw [if_neg c41] at h
  by_cases c42 : x.1 = 42
  · rw [if_pos c42] at h
    split at h
    · exact (ns h).elim
    · rename_i h1
      rw [← inj h]
      exact k_give hwf hk hm ht c42 h1
  rw [if_neg c42] at h
  by_cases c43 : x.1 = 43
  · rw [if_pos c43] at h
    split at h
    · exact (ns h).elim
    · rename_i h1
      rw [← inj h]
      exact k_back hwf hk hm ht c43 h1
  rw [if_neg c43] at h
  by_cases c44 : x.1 = 44
  · rw [if_pos c44] at h
    rw [← inj h]
    exact k_int (m1 := (m.d, m.pc, m.hs, m.vs, m.2.2.2.2.1, m.rd + 1, m.2.2.2.2.2.2)) hk hm ht (by omega) rfl rfl rfl rfl rfl (tt.2.1 c44).1.symm (hi _)
  rw [if_neg c44] at h
  rw [← inj h]
  exact k_take (m1 := (m.d, m.pc, m.hs, m.vs, m.2.2.2.2.1, m.rd, m.ow + 1, if m.ow < 256 then gU m.ou m.ow (m.top 0).2 else m.ou)) (j := m.pc m.d + 1) hk hm ht (by omega) rfl rfl rfl rfl rfl (tt.2.2.2.1 (by omega)).1.symm (Or.inl ⟨by omega, rfl⟩)
/-- what an instruction does, if it goes on -/
theorem k_go (hwf : pWf tx p) (hk : pKX p Q) (hm : mOk p m) (ht : mTop p m x t) (hi : ∀ k, iR (inp k)) (h : mEf p inp m (m.pc m.d) x = jE.go m') : mOk p m' := by
  by_cases c : x.1 ≤ 29
  · exact k_go1 c hwf hk hm ht hi h
  · by_cases c2 : x.1 ≤ 38
    · exact k_go2 (by omega) c2 hwf hk hm ht hi h
    · exact k_go3 (by omega) hwf hk hm ht hi h
end MEN
