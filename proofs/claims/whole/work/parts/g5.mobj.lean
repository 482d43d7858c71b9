/-! The run: objects and arrays; their instructions leave a right state. -/
section MOB
variable {p : jP} {m m' m1 : jM} {Q : Nat} {tx : List (List Int)} {x : jC} {t : Nat → Int} {inp : Nat → Int}
/-- what is known of a right program -/
theorem p_ctx (hwf : pWf tx p) (hk : pKX p Q) : uOk p.2.1 ∧ p.2.1.length ≤ 32 ∧ 8 ≤ p.2.1.length ∧ sOk p.2.1 p.2.2.2.2.1 ∧ fOk p.2.1 p.2.2.1 ∧ (∀ y ∈ p.2.2.1, tV p.2.1 y.2.2 ∧ (y.2.2 = 1 ∨ 2 ≤ y.2.2)) ∧ (∀ y ∈ p.2.2.1, 8 ≤ y.2.1) ∧ p.2.2.2.2.1.2.1.length ≤ 48 := by
  obtain ⟨hT, hs, hov, huO, h32, h8, hz, -⟩ := hk.2.1
  obtain ⟨k1, k2, k3, k4, k5, k6, k7, k8, k9, k10, -⟩ := id hwf.1
  refine ⟨huO, h32, h8, hs, k6, fun y hy => ?_, k10, hz⟩
  obtain ⟨q1, q2⟩ := tOk_V (us := p.2.1) (hwf.2.2.2 y hy) k2
  exact ⟨q1, by omega⟩
theorem ba_mono (hT : hTy p m) : ∀ o', o' ≤ m.n → ∀ o, o ≤ o' → m.ba o ≤ m.ba o' := by
  obtain ⟨t1, t2, t3, t4, -⟩ := hT
  intro o'
  induction o' with
  | zero =>
    intro _ o h1
    have : o = 0 := by omega
    rw [this]; exact Nat.le_refl _
  | succ o' ih =>
    intro h2 o h1
    by_cases e : o = o' + 1
    · rw [e]; exact Nat.le_refl _
    · have := ih (by omega) o (by omega)
      have := t4 o' (by omega)
      omega
/-- cells of two objects are apart -/
theorem ba_apart (hT : hTy p m) {o o' q q' : Nat} (ho : o < m.n) (ho' : o' < m.n) (hq : q < m.ext o) (hq' : q' < m.ext o') (he : m.ba o + q = m.ba o' + q') : o = o' ∧ q = q' := by
  unfold jM.ext at hq hq'
  rcases Nat.lt_trichotomy o o' with c | c | c
  · have := ba_mono hT o' (by omega) (o + 1) (by omega); omega
  · subst c; exact ⟨rfl, by omega⟩
  · have := ba_mono hT o (by omega) (o' + 1) (by omega); omega
theorem hTy_w (hT : hTy p m) {o q : Nat} (ho : o < m.n) (hq : q < m.ext o) {v : jV} (h1 : tAr (sTp p.2.2.2.2.1 (m.si o)) = true → vTy p m (tEl (sTp p.2.2.2.2.1 (m.si o))) v) (h2 : tAr (sTp p.2.2.2.2.1 (m.si o)) = false → ∀ (f : Nat) (y : List Int × Nat × Int), p.2.2.1[f]? = some y → anc p.2.1 (cl (sTp p.2.2.2.2.1 (m.si o))) y.2.1 = true → fPl p f = q → vTy p m y.2.2 v) (hpl : ∀ o', o' < m.n → tAr (sTp p.2.2.2.2.1 (m.si o')) = false → ∀ (f : Nat) (y : List Int × Nat × Int), p.2.2.1[f]? = some y → anc p.2.1 (cl (sTp p.2.2.2.2.1 (m.si o'))) y.2.1 = true → fPl p f < m.ext o') : hTy p (m.wme (m.ba o + q) v) := by
  obtain ⟨t1, t2, t3, t4, t5, t6, t7⟩ := id hT
  obtain ⟨M, hM⟩ : ∃ M, M = m.wme (m.ba o + q) v := ⟨_, rfl⟩
  have e1 : M.n = m.n := by rw [hM]; rfl
  have e2 : M.si = m.si := by rw [hM]; rfl
  have e3 : M.ba = m.ba := by rw [hM]; rfl
  have e4 : ∀ j, M.me j = if j = m.ba o + q then v else m.me j := fun j => by rw [hM]; rfl
  have e5 : ∀ o, M.ext o = m.ext o := fun o => by unfold jM.ext; rw [e3]
  have vx : ∀ {t : Int} {v : jV}, vTy p m t v → vTy p M t v := fun hv => vTy_ext (by rw [e1]; exact Nat.le_refl _) (fun o _ => by rw [e2]) hv
  rw [← hM]
  refine ⟨by rw [e3]; exact t1, by rw [e1]; exact t2, by rw [e1, e3]; exact t3, fun o' h' => by rw [e3]; exact t4 o' (by rw [← e1]; exact h'), fun o' h' => by rw [e2]; exact t5 o' (by rw [← e1]; exact h'), fun o' h' ha q' hq' => ?_, fun o' h' ha => ?_⟩
  · rw [e1] at h'
    rw [e2] at ha ⊢
    rw [e5] at hq'
    rw [e3, e4]
    by_cases c : m.ba o' + q' = m.ba o + q
    · obtain ⟨c1, c2⟩ := ba_apart hT h' ho hq' hq c
      rw [if_pos c]
      subst c1
      exact vx (h1 ha)
    · rw [if_neg c]
      exact vx (t6 o' h' ha q' hq')
  · rw [e1] at h'
    rw [e2] at ha ⊢
    obtain ⟨r1, r2⟩ := t7 o' h' ha
    refine ⟨by rw [e5]; exact r1, fun f y hy hanc => ?_⟩
    rw [e3, e4]
    by_cases c : m.ba o' + fPl p f = m.ba o + q
    · obtain ⟨c1, c2⟩ := ba_apart hT h' ho (hpl o' h' ha f y hy hanc) hq c
      rw [if_pos c]
      subst c1
      exact vx (h2 ha f y hy hanc c2)
    · rw [if_neg c]
      exact vx (r2 f y hy hanc)
theorem h_pl (hwf : pWf tx p) (hk : pKX p Q) (hT : hTy p m) : ∀ o', o' < m.n → tAr (sTp p.2.2.2.2.1 (m.si o')) = false → ∀ (f : Nat) (y : List Int × Nat × Int), p.2.2.1[f]? = some y → anc p.2.1 (cl (sTp p.2.2.2.2.1 (m.si o'))) y.2.1 = true → fPl p f < m.ext o' := by
  obtain ⟨c1, c2, c3, c4, c5, c6, c7, c8⟩ := p_ctx hwf hk
  intro o' h' ha f y hy hanc
  rw [(hT.2.2.2.2.2.2 o' h' ha).1]
  exact fPl_lt c1 c2 c5 hy (cl_ok c3 c4 (hT.2.2.2.2.1 o' h')) hanc
/-- what an instruction wants of the types -/
theorem tH_g (hk : pKX p Q) (ht : mTop p m x t) (hn : x.1 ≠ 2 ∧ x.1 ≠ 4 ∧ x.1 ≠ 43 ∧ ¬ (x.1 = 39 ∨ x.1 = 40)) : ∃ xb : jB, p.2.2.2.1[x.2.2.2.1]? = some xb ∧ tkT x.1 ≤ m.hs m.d ∧ (∀ k, k < tkT x.1 → tSu p.2.1 p.2.2.1 xb x (wn x.1 k) (t (12 + m.hs m.d - tkT x.1)) (t (12 + m.hs m.d - tkT x.1 + k)) = true) := by
  obtain ⟨⟨xb, e, hp⟩, -, hV⟩ := m_at hk ht
  obtain ⟨⟨p1, p2, p3, -⟩, ⟨c1, -⟩, -, -, -, ⟨d1, d2⟩, -⟩ := id hp
  have hX := (tkX_n (bl := p.2.2.2.1) (x := x) hn.2.2.2).1
  rw [hX] at c1
  have ht3 := ht.2.2.1
  rw [tHo_g hn, hX] at d1
  refine ⟨xb, p3, by omega, fun k hk' => ?_⟩
  rw [ht3]
  exact allR_at _ _ d1 k (by omega) (by omega)
/-- an object on the stack -/
theorem obj_top (hwf : pWf tx p) (hk : pKX p Q) (hm : mOk p m) (ht : mTop p m x t) {k : Nat} (hkH : k < m.hs m.d) (h2 : 2 ≤ t (12 + m.hs m.d - 1 - k)) (h0 : (m.top k).2 ≠ 0) : ∃ o : Nat, o < m.n ∧ (m.top k).2 = ((o + 1 : Nat) : Int) ∧ (m.top k).2.toNat - 1 = o ∧ sVd p.2.2.2.2.1 (m.si o) = true ∧ tLe p.2.1 (sTp p.2.2.2.2.1 (m.si o)) (t (12 + m.hs m.d - 1 - k)) = true := vTy_2 hm.2.1 (p_ctx hwf hk).2.2.2.2.2.2.2 (top_ty ht hkH) h2 h0
theorem tV_el2 {us : List Int} {s : Int} (h : tV us s) (ha : tAr s = true) : tV us (tEl s) := by
  unfold tV at h ⊢
  unfold tEl
  unfold tAr at ha
  by_cases c : s = 3
  · rw [if_pos c]; omega
  · rw [if_neg c]
    simp [c] at ha
    omega
/-- an array that is read or written -/
theorem arr_at (hwf : pWf tx p) (hk : pKX p Q) (hm : mOk p m) (ht : mTop p m x t) (ho : x.1 = 33 ∨ x.1 = 34) (hr : (m.top (tkT x.1 - 1)).2 ≠ 0) : ∃ o : Nat, tkT x.1 ≤ m.hs m.d ∧ 2 ≤ tkT x.1 ∧ o < m.n ∧ (m.top (tkT x.1 - 1)).2 = ((o + 1 : Nat) : Int) ∧ (m.top (tkT x.1 - 1)).2.toNat - 1 = o ∧ tAr (sTp p.2.2.2.2.1 (m.si o)) = true ∧ tAr (t (12 + m.hs m.d - tkT x.1)) = true ∧ tLe p.2.1 (tEl (sTp p.2.2.2.2.1 (m.si o))) (tEl (t (12 + m.hs m.d - tkT x.1))) = true := by
  obtain ⟨c1, c2, c3, c4, c5, c6, c7, c8⟩ := p_ctx hwf hk
  obtain ⟨⟨xb0, e, hp⟩, -, hV⟩ := m_at hk ht
  obtain ⟨⟨p1, -⟩, -⟩ := id hp
  have tt := ofTk x.1 p1.1
  have h23 : 2 ≤ tkT x.1 := by
    rcases ho with q | q
    · have := (tt.2.2.2.2.2.2.1 q).1; omega
    · have := (tt.2.2.2.2.2.2.2.2.1 q).1; omega
  obtain ⟨xb, h1, h2, h3⟩ := tH_g hk ht (by omega)
  have b0 := h3 0 (by omega)
  have w0 : wn x.1 0 = 3 := by rcases ho with q | q <;> rw [q] <;> rfl
  rw [w0] at b0
  have b0 : (decide (t (12 + m.hs m.d - tkT x.1 + 0) = 2) || tAr (t (12 + m.hs m.d - tkT x.1 + 0))) = true := b0
  rw [Nat.add_zero] at b0
  have eix : 12 + m.hs m.d - 1 - (tkT x.1 - 1) = 12 + m.hs m.d - tkT x.1 := by omega
  obtain ⟨o, o1, o2, o3, o4, o5⟩ := obj_top hwf hk hm ht (k := tkT x.1 - 1) (by omega) (by rw [eix]; exact tAr_2 b0) hr
  rw [eix] at o5
  have hs3 := (c4 _ o4).2
  have htA : tAr (t (12 + m.hs m.d - tkT x.1)) = true := by
    rw [Bool.or_eq_true] at b0
    rcases b0 with q | q
    · have q := of_decide_eq_true q
      rw [q] at o5
      rcases (tLe_iff _ _).mp o5 with r | r | r <;> omega
    · exact q
  obtain ⟨e1, e2⟩ := tEl_le c1 c2 o5 htA hs3
  exact ⟨o, h2, h23, o1, o2, o3, e2, htA, e1⟩
theorem k_aload (hwf : pWf tx p) (hk : pKX p Q) (hm : mOk p m) (ht : mTop p m x t) (ho : x.1 = 33) (hr : (m.top 1).2 ≠ 0) (hi : ¬ ((m.top 0).2 < 0 ∨ (m.ext ((m.top 1).2.toNat - 1) : Int) ≤ (m.top 0).2)) : mOk p (m.lev 2 (m.me (m.ba ((m.top 1).2.toNat - 1) + (m.top 0).2.toNat))) := by
  obtain ⟨c1, c2, c3, c4, c5, c6, c7, c8⟩ := p_ctx hwf hk
  obtain ⟨⟨xb0, e, hp⟩, -, hV⟩ := m_at hk ht
  obtain ⟨⟨p1, -⟩, -⟩ := id hp
  have tt := (ofTk x.1 p1.1).2.2.2.2.2.2.1 ho
  obtain ⟨t1, t2⟩ := tkX_n (bl := p.2.2.2.1) (x := x) (by omega)
  obtain ⟨o, a1, a2, a3, a4, a5, a6, a7, a8⟩ := arr_at hwf hk hm ht (Or.inl ho) (by rw [tt.1]; exact hr)
  rw [tt.1] at a1 a4 a5 a7 a8
  rw [a5] at hi ⊢
  have hv := hm.2.1.2.2.2.2.2.1 o a3 a6 (m.top 0).2.toNat (by omega)
  have hv2 := vTy_le hk (tV_el2 (hV _) a7) a8 hv
  have ht3 := ht.2.2.1
  refine mOk_lev hk hm ht tt.2.2 (by omega) (by rw [t2]; exact tt.2.1) (s := tEl (t (12 + m.hs m.d - 2))) ?_ ?_ rfl rfl rfl rfl ⟨Nat.le_refl _, fun _ _ => rfl⟩ hm.2.1 (by rw [t1]; exact tt.1.symm) hv2
  · rw [t1, tt.1, ← ht3]
    unfold tLf
    rw [if_neg (by omega), if_neg (by omega), if_neg (by omega), if_pos ho, if_neg, if_pos a7]
    intro q
    rw [q] at a7
    exact absurd a7 (by decide)
  · have := (tV_el2 (hV _) a7).1
    omega
theorem k_astore (hwf : pWf tx p) (hk : pKX p Q) (hm : mOk p m) (ht : mTop p m x t) (ho : x.1 = 34) (hr : (m.top 2).2 ≠ 0) (hi : ¬ ((m.top 1).2 < 0 ∨ (m.ext ((m.top 2).2.toNat - 1) : Int) ≤ (m.top 1).2)) (hst : ¬ (tEl (mTp p m (m.top 2).2) ≠ 1 ∧ (m.top 0).2 ≠ 0 ∧ tLe p.2.1 (mTp p m (m.top 0).2) (tEl (mTp p m (m.top 2).2)) = false)) : mOk p (((m.wme (m.ba ((m.top 2).2.toNat - 1) + (m.top 1).2.toNat) (m.top 0)).drp 3).nxt) := by
  obtain ⟨c1, c2, c3, c4, c5, c6, c7, c8⟩ := p_ctx hwf hk
  obtain ⟨⟨xb0, e, hp⟩, -, hV⟩ := m_at hk ht
  obtain ⟨⟨p1, -⟩, -⟩ := id hp
  have tt := (ofTk x.1 p1.1).2.2.2.2.2.2.2.2.1 ho
  obtain ⟨t1, t2⟩ := tkX_n (bl := p.2.2.2.1) (x := x) (by omega)
  obtain ⟨o, a1, a2, a3, a4, a5, a6, a7, a8⟩ := arr_at hwf hk hm ht (Or.inr ho) (by rw [tt.1]; exact hr)
  obtain ⟨xb, h1, h2, h3⟩ := tH_g hk ht (by omega)
  have b2 := h3 2 (by rw [tt.1]; omega)
  rw [tt.1] at a1 a4 a5 a7 a8 b2
  have w2 : wn x.1 2 = 7 := by rw [ho]; rfl
  rw [w2] at b2
  have b2 : (if t (12 + m.hs m.d - 3) = 2 then decide (t (12 + m.hs m.d - 3 + 2) ≠ 0) else tLe p.2.1 (t (12 + m.hs m.d - 3 + 2)) (tEl (t (12 + m.hs m.d - 3)))) = true := b2
  rw [if_neg (fun q => by rw [q] at a7; exact absurd a7 (by decide))] at b2
  have ei : 12 + m.hs m.d - 3 + 2 = 12 + m.hs m.d - 1 - 0 := by omega
  rw [ei] at b2
  have a5 : (m.top 2).2.toNat - 1 = o := a5
  rw [a5] at hi ⊢
  have emt : mTp p m (m.top 2).2 = sTp p.2.2.2.2.1 (m.si o) := by unfold mTp; rw [a5]
  rw [emt] at hst
  have hv0 := top_ty ht (k := 0) (by omega)
  have tv : vTy p m (tEl (sTp p.2.2.2.2.1 (m.si o))) (m.top 0) := by
    rcases tEl_nz a6 with q | q
    · rw [q] at a8 ⊢
      have : tEl (t (12 + m.hs m.d - 3)) = 1 := by
        rcases tEl_nz a7 with r | r
        · exact r
        · rcases (tLe_iff _ _).mp a8 with s | s | s <;> omega
      rw [this] at b2
      have ht1 : t (12 + m.hs m.d - 1 - 0) = 1 := by
        rcases (tLe_iff _ _).mp b2 with s | s | s <;> omega
      rw [ht1] at hv0
      exact hv0
    · have h4 : 4 ≤ tEl (t (12 + m.hs m.d - 3)) := by
        rcases tEl_nz a7 with r | r
        · rw [r] at a8
          rcases (tLe_iff _ _).mp a8 with s | s | s <;> omega
        · exact r
      have h2t : 2 ≤ t (12 + m.hs m.d - 1 - 0) := by
        rcases (tLe_iff _ _).mp b2 with s | s | s <;> omega
      by_cases c0 : (m.top 0).2 = 0
      · have := vTy_k hv0 h2t
        have e0 : m.top 0 = (2, 0) := Prod.ext this.1 c0
        rw [e0]
        exact vTy_null (by omega)
      · obtain ⟨o', o1, o2, o3, o4, o5⟩ := obj_top hwf hk hm ht (k := 0) (by omega) h2t c0
        have this := vTy_k hv0 h2t
        have e0 : m.top 0 = (2, ((o' + 1 : Nat) : Int)) := Prod.ext this.1 o2
        have hle : tLe p.2.1 (mTp p m (m.top 0).2) (tEl (sTp p.2.2.2.2.1 (m.si o))) = true := by
          cases hq : tLe p.2.1 (mTp p m (m.top 0).2) (tEl (sTp p.2.2.2.2.1 (m.si o))) with
          | true => rfl
          | false => exact absurd ⟨by omega, c0, hq⟩ hst
        unfold mTp at hle
        rw [o3] at hle
        rw [e0]
        exact vTy_obj (by omega) o1 o4 hle
  have hT := hTy_w hm.2.1 a3 (q := (m.top 1).2.toNat) (by omega) (fun _ => tv) (fun q => by rw [a6] at q; cases q) (h_pl hwf hk hm.2.1)
  refine mOk_drp hk hm ht (by omega) (by rw [t2]; exact tt.2.1) (Or.inl ⟨tt.2.2, rfl⟩) (m1 := m.wme (m.ba o + (m.top 1).2.toNat) (m.top 0)) rfl rfl rfl (fun _ _ => rfl) ⟨Nat.le_refl _, fun _ _ => rfl⟩ hT (by rw [t1]; exact tt.1.symm) (fun j hr => vTy_ext (m := m) (Nat.le_refl _) (fun _ _ => rfl) (ht.2.2.2 j hr))
/-- an object whose field is read or written -/
theorem fldm_at (hwf : pWf tx p) (hk : pKX p Q) (hm : mOk p m) (ht : mTop p m x t) (ho : x.1 = 35 ∨ x.1 = 36) (hr : (m.top (tkT x.1 - 1)).2 ≠ 0) : ∃ (o f : Nat) (y : List Int × Nat × Int), tkT x.1 ≤ m.hs m.d ∧ 1 ≤ tkT x.1 ∧ o < m.n ∧ (m.top (tkT x.1 - 1)).2 = ((o + 1 : Nat) : Int) ∧ (m.top (tkT x.1 - 1)).2.toNat - 1 = o ∧ x.2.1 = (f : Int) ∧ p.2.2.1[f]? = some y ∧ tAr (sTp p.2.2.2.2.1 (m.si o)) = false ∧ anc p.2.1 (cl (sTp p.2.2.2.2.1 (m.si o))) y.2.1 = true ∧ fPl p f < m.ext o := by
  obtain ⟨c1, c2, c3, c4, c5, c6, c7, c8⟩ := p_ctx hwf hk
  obtain ⟨⟨xb0, e, hp⟩, -, hV⟩ := m_at hk ht
  obtain ⟨⟨p1, -⟩, -⟩ := id hp
  have tt := ofTk x.1 p1.1
  have h23 : 1 ≤ tkT x.1 := by
    rcases ho with q | q
    · have := (tt.2.2.2.2.2.1 (by omega)).1; omega
    · have := (tt.2.2.2.2.2.2.2.2.2.1 q).1; omega
  obtain ⟨xb, h1, h2, h3⟩ := tH_g hk ht (by omega)
  have b0 := h3 0 (by omega)
  have w0 : wn x.1 0 = 5 := by rcases ho with q | q <;> rw [q] <;> rfl
  rw [w0] at b0
  have b0 : tLe p.2.1 (t (12 + m.hs m.d - tkT x.1 + 0)) (4 + 2 * x.2.2.1) = true := b0
  rw [Nat.add_zero] at b0
  obtain ⟨f, c, f1, f2, f3, f4, y, f5, f6⟩ := p1.2.2.2.2.2.1 ho
  have hcl : c < p.2.1.length := by have := hwf.1.2.1; omega
  have hc8 : 8 ≤ c := by
    have := anc_le c1 c2 p.2.1.length c y.2.1 hcl hcl f6
    have := c7 y (List.mem_of_getElem? f5)
    omega
  rw [f3] at b0
  have eix : 12 + m.hs m.d - 1 - (tkT x.1 - 1) = 12 + m.hs m.d - tkT x.1 := by omega
  have h2t : 2 ≤ t (12 + m.hs m.d - tkT x.1) := by
    rcases (tLe_iff _ _).mp b0 with s | s | s <;> omega
  obtain ⟨o, o1, o2, o3, o4, o5⟩ := obj_top hwf hk hm ht (k := tkT x.1 - 1) (by omega) (by rw [eix]; exact h2t) hr
  rw [eix] at o5
  obtain ⟨s1, s2⟩ := c4 _ o4
  have hle := tLe_trans c1 c2 s1 (by unfold tV; omega) o5 b0
  have hcls : cl (4 + 2 * (c : Int)) = c := by unfold cl; omega
  obtain ⟨g1, g2⟩ : tAr (sTp p.2.2.2.2.1 (m.si o)) = false ∧ anc p.2.1 (cl (sTp p.2.2.2.2.1 (m.si o))) c = true := by
    rcases (tLe_iff _ _).mp hle with s | s | ⟨q1, q2, s | s | ⟨q3, q4, q5, q6⟩⟩
    · rw [s, hcls]
      refine ⟨?_, anc_self c⟩
      unfold tAr
      rw [decide_eq_false (by omega), decide_eq_false (p := (4 + 2 * (c : Int)) % 2 = 1) (by omega), Bool.and_false]; rfl
    · omega
    · omega
    · omega
    · refine ⟨?_, by rw [hcls] at q6; exact q6⟩
      unfold tAr
      rw [decide_eq_false q3, decide_eq_false (p := sTp p.2.2.2.2.1 (m.si o) % 2 = 1) (by omega), Bool.and_false]; rfl
  have hco := cl_ok c3 c4 o4
  have g3 := anc_trans c1 c2 p.2.1.length _ c y.2.1 hco hco g2 f6
  exact ⟨o, f, y, h2, h23, o1, o2, o3, f1, f5, g1, g3, h_pl hwf hk hm.2.1 o o1 g1 f y f5 g3⟩
theorem k_get (hwf : pWf tx p) (hk : pKX p Q) (hm : mOk p m) (ht : mTop p m x t) (ho : x.1 = 35) (hr : (m.top 0).2 ≠ 0) : mOk p (m.lev 1 (m.me (m.ba ((m.top 0).2.toNat - 1) + fPl p x.2.1.toNat))) := by
  obtain ⟨⟨xb0, e, hp⟩, -, hV⟩ := m_at hk ht
  obtain ⟨⟨p1, -⟩, -⟩ := id hp
  have tt := (ofTk x.1 p1.1).2.2.2.2.2.1 (by omega)
  obtain ⟨t1, t2⟩ := tkX_n (bl := p.2.2.2.1) (x := x) (by omega)
  obtain ⟨o, f, y, a1, a2, a3, a4, a5, a6, a7, a8, a9, a10⟩ := fldm_at hwf hk hm ht (Or.inl ho) (by rw [tt.1]; exact hr)
  rw [tt.1] at a5
  have a5 : (m.top 0).2.toNat - 1 = o := a5
  rw [a5, a6, Int.toNat_natCast]
  have hv := (hm.2.1.2.2.2.2.2.2 o a3 a8).2 f y a7 a9
  obtain ⟨c1, c2, c3, c4, c5, c6, c7, c8⟩ := p_ctx hwf hk
  have := (c6 y (List.mem_of_getElem? a7)).1.1
  refine mOk_lev hk hm ht tt.2.2 (by omega) (by rw [t2]; exact tt.2.1) (s := y.2.2) ?_ (by omega) rfl rfl rfl rfl ⟨Nat.le_refl _, fun _ _ => rfl⟩ hm.2.1 (by rw [t1]; exact tt.1.symm) hv
  unfold tLf
  rw [if_neg (by omega), if_neg (by omega), if_neg (by omega), if_neg (by omega), if_pos ho, a6, Int.toNat_natCast, a7]
theorem k_put (hwf : pWf tx p) (hk : pKX p Q) (hm : mOk p m) (ht : mTop p m x t) (ho : x.1 = 36) (hr : (m.top 1).2 ≠ 0) : mOk p (((m.wme (m.ba ((m.top 1).2.toNat - 1) + fPl p x.2.1.toNat) (m.top 0)).drp 2).nxt) := by
  obtain ⟨c1, c2, c3, c4, c5, c6, c7, c8⟩ := p_ctx hwf hk
  obtain ⟨⟨xb0, e, hp⟩, -, hV⟩ := m_at hk ht
  obtain ⟨⟨p1, -⟩, -⟩ := id hp
  have tt := (ofTk x.1 p1.1).2.2.2.2.2.2.2.2.2.1 ho
  obtain ⟨t1, t2⟩ := tkX_n (bl := p.2.2.2.1) (x := x) (by omega)
  obtain ⟨o, f, y, a1, a2, a3, a4, a5, a6, a7, a8, a9, a10⟩ := fldm_at hwf hk hm ht (Or.inr ho) (by rw [tt.1]; exact hr)
  obtain ⟨xb, h1, h2, h3⟩ := tH_g hk ht (by omega)
  have b1 := h3 1 (by rw [tt.1]; omega)
  rw [tt.1] at a1 a5 b1
  have w1 : wn x.1 1 = 6 := by rw [ho]; rfl
  rw [w1] at b1
  have b1 : tLe p.2.1 (t (12 + m.hs m.d - 2 + 1)) (tFty p.2.2.1 x) = true := b1
  have ei : 12 + m.hs m.d - 2 + 1 = 12 + m.hs m.d - 1 - 0 := by omega
  have ef : tFty p.2.2.1 x = y.2.2 := by unfold tFty; rw [a6, Int.toNat_natCast, a7]
  rw [ei, ef] at b1
  have a5 : (m.top 1).2.toNat - 1 = o := a5
  rw [a5, a6, Int.toNat_natCast]
  have tv := vTy_le hk (c6 y (List.mem_of_getElem? a7)).1 b1 (top_ty ht (k := 0) (by omega))
  have hT := hTy_w hm.2.1 a3 a10 (fun q => by rw [a8] at q; cases q) (fun _ g y' hy' hanc he => by
    have := fPl_inj c1 c2 c5 hy' a7 (cl_ok c3 c4 (hm.2.1.2.2.2.2.1 o a3)) hanc a9 he
    rw [this, a7] at hy'
    cases hy'
    exact tv) (h_pl hwf hk hm.2.1)
  exact mOk_drp hk hm ht (by omega) (by rw [t2]; exact tt.2.1) (Or.inl ⟨tt.2.2, rfl⟩) (m1 := m.wme (m.ba o + fPl p f) (m.top 0)) rfl rfl rfl (fun _ _ => rfl) ⟨Nat.le_refl _, fun _ _ => rfl⟩ hT (by rw [t1]; exact tt.1.symm) (fun j hr => vTy_ext (m := m) (Nat.le_refl _) (fun _ _ => rfl) (ht.2.2.2 j hr))
/-- the type of an object that is looked at -/
theorem cst_at (hwf : pWf tx p) (hk : pKX p Q) (hm : mOk p m) (ht : mTop p m x t) (ho : x.1 = 37 ∨ x.1 = 38) : 1 ≤ m.hs m.d ∧ 2 ≤ t (12 + m.hs m.d - 1 - 0) ∧ (m.top 0).1 = 2 ∧ tV p.2.1 x.2.1 ∧ 2 ≤ x.2.1 := by
  obtain ⟨⟨xb0, e, hp⟩, -, hV⟩ := m_at hk ht
  obtain ⟨⟨p1, -⟩, -⟩ := id hp
  have tt := (ofTk x.1 p1.1).2.2.2.2.2.1 (by omega)
  obtain ⟨xb, h1, h2, h3⟩ := tH_g hk ht (by omega)
  have b0 := h3 0 (by omega)
  have w0 : wn x.1 0 = 2 := by rcases ho with q | q <;> rw [q] <;> rfl
  rw [w0] at b0
  have b0 : 2 ≤ t (12 + m.hs m.d - tkT x.1 + 0) := of_decide_eq_true b0
  rw [tt.1] at b0 h2
  have ei : 12 + m.hs m.d - 1 + 0 = 12 + m.hs m.d - 1 - 0 := by omega
  rw [ei] at b0
  obtain ⟨f7, f8⟩ := fK_78
  have htk := (p1.2.2.2.2.1 (by first | (rcases ho with q | q; (rw [q]; exact Or.inr f7); (rw [q]; exact Or.inr f8)))).1
  have := (tOk_V (us := p.2.1) htk hwf.1.2.1)
  have hne := (hk.2.1.2.2.2.2.2.2.2.2.2 _ x ht.1).2.1
  exact ⟨h2, b0, (vTy_k (top_ty ht (k := 0) (by omega)) b0).1, this.1, by have := hne ho; omega⟩
theorem k_cast (hwf : pWf tx p) (hk : pKX p Q) (hm : mOk p m) (ht : mTop p m x t) (ho : x.1 = 37) (hc : (m.top 0).2 = 0 ∨ tLe p.2.1 (mTp p m (m.top 0).2) x.2.1 = true) : mOk p m.nxt := by
  obtain ⟨⟨xb0, e, hp⟩, -, hV⟩ := m_at hk ht
  obtain ⟨⟨p1, -⟩, ⟨c1, c2, c3⟩, pf, -⟩ := id hp
  have tt := (ofTk x.1 p1.1).2.2.2.2.2.1 (by omega)
  obtain ⟨t1, t2⟩ := tkX_n (bl := p.2.2.2.1) (x := x) (by omega)
  obtain ⟨g1, g2, g3⟩ := pf tt.2.2
  obtain ⟨a1, a2, a3, a4, a5⟩ := cst_at hwf hk hm ht (Or.inl ho)
  have ht3 := ht.2.2.1
  rw [t1, t2, tt.1, tt.2.1] at g1
  have htp := tPf_1 (fl := p.2.2.1) (bl := p.2.2.2.1) (sl := p.2.2.2.2.1.2.1) (h := pH p (m.pc m.d)) (t := t) (s := x.2.1) (x := x) (by omega) (by rw [t2]; exact tt.2.1) (low := 12 + pH p (m.pc m.d) - 1) (by rw [t1, tt.1]) (by unfold tLf; rw [if_neg (by omega), if_neg (by omega), if_neg (by omega), if_neg (by omega), if_neg (by omega), if_pos ho]) (by omega)
  refine mOk_step hk hm ht (Or.inl ⟨htp, Or.inl ⟨tt.2.2, rfl⟩⟩) rfl (fun _ => rfl) (show m.hs m.d = _ by rw [ht3, g1]; omega) (fun _ _ => ⟨rfl, rfl⟩) ⟨Nat.le_refl _, fun _ _ => rfl⟩ (hTy_c (m := m) rfl hm.2.1) (fun k hr => ?_)
  refine vTy_c (m := m) rfl ?_
  show vTy p m _ (m.vs m.d k)
  rw [g1] at hr
  unfold tUp
  by_cases c : k = 12 + pH p (m.pc m.d) - 1
  · rw [if_pos c]
    have etop : m.vs m.d k = m.top 0 := by
      unfold jM.top
      rw [show k = 11 + m.hs m.d - 0 by omega]
    rw [etop]
    by_cases c0 : (m.top 0).2 = 0
    · have e0 : m.top 0 = (2, 0) := Prod.ext a3 c0
      rw [e0]; exact vTy_null a5
    · obtain ⟨o, o1, o2, o3, o4, o5⟩ := obj_top hwf hk hm ht (k := 0) (by omega) a2 c0
      have hle := hc.resolve_left c0
      unfold mTp at hle
      rw [o3] at hle
      have e0 : m.top 0 = (2, ((o + 1 : Nat) : Int)) := Prod.ext a3 o2
      rw [e0]
      exact vTy_obj a5 o1 o4 hle
  · rw [if_neg c]
    refine ht.2.2.2 k ?_
    rw [ht3]
    unfold rel at hr ⊢
    omega
end MOB
