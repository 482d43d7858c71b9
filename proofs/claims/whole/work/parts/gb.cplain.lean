/-! The run: the class's plain instructions. -/
/-- the class's program and proof while it runs -/
def cXx (S : nk_S) (Q : Nat) (p : jP) (A : jA) (σ : jG) : Prop := (Q = 13 ∨ Q = 49) ∧ S.2 113 1 = Q ∧ ldC S Q p A σ
/-- what the class does is what the machine does -/
def pfO (p : jP) (inp : Nat → Int) (m : jM) (i : Nat) (x : jC) (S : nk_S) : Prop := match mEf p inp m i x with
  | .inl m' => ∃ S', ja_X2_perform 113 (i : Int) S = some (0, S') ∧ mkF S S' ∧ cMm S' m'
  | .inr (.inl e) => ja_X2_perform 113 (i : Int) S = ja_X2_raise 113 (i : Int) (e : Int) S
  | .inr (.inr (.inl r)) => ja_X2_perform 113 (i : Int) S = some ((r : Int), S)
  | .inr (.inr (.inr how)) => ja_X2_perform 113 (i : Int) S = some (0, nk_wi (nk_wi S 113 12 (how : Int)) 113 15 (i : Int))
section CPN
variable {p : jP} {m m' : jM} {Q : Nat} {tx : List (List Int)} {x : jC} {t : Nat → Int} {inp : Nat → Int} {S S' : nk_S} {A : jA} {σ : jG} {i : Nat}
theorem cXx_f (hF : mkF S S') (h : cXx S Q p A σ) : cXx S' Q p A σ := ⟨h.1, by rw [hF.1]; exact h.2.1, ldC_c h.1 (fun a ha => hF.2.1 a (by have := h.1; omega)) h.2.2⟩
theorem pf_go (h : mEf p inp m i x = jE.go m') (q : ∃ S', ja_X2_perform 113 (i : Int) S = some (0, S') ∧ mkF S S' ∧ cMm S' m') : pfO p inp m i x S := by unfold pfO; rw [h]; exact q
theorem pf_rz {e : Nat} (h : mEf p inp m i x = jE.rz e) (q : ja_X2_perform 113 (i : Int) S = ja_X2_raise 113 (i : Int) (e : Int) S) : pfO p inp m i x S := by unfold pfO; rw [h]; exact q
theorem pf_th {r : Nat} (h : mEf p inp m i x = jE.th r) (q : ja_X2_perform 113 (i : Int) S = some ((r : Int), S)) : pfO p inp m i x S := by unfold pfO; rw [h]; exact q
theorem pf_st {how : Nat} (h : mEf p inp m i x = jE.st how) (q : ja_X2_perform 113 (i : Int) S = some (0, nk_wi (nk_wi S 113 12 (how : Int)) 113 15 (i : Int))) : pfO p inp m i x S := by unfold pfO; rw [h]; exact q
/-- an instruction as the class sees it -/
theorem cx_op (h : cXx S Q p A σ) (hx : p.2.2.2.2.1.1[i]? = some x) : S.1 (Q + 25) i = (x.1 : Int) ∧ S.1 (Q + 26) i = x.2.1 ∧ S.1 (Q + 27) i = x.2.2.1 ∧ S.1 (Q + 29) i = (x.2.2.2.1 : Int) := by
  have := h.2.2.1.2.2.2.2.2.2.2.2.1.1.2 i x hx
  exact ⟨this.1, this.2.1, this.2.2.1, this.2.2.2.2⟩
/-- wrappers that change nothing -/
theorem bd_eta (o : Option (Int × nk_S)) : (nk_bd o fun r S => some (r, S)) = o := by
  cases o with
  | none => rfl
  | some R => rfl
theorem x_int {n : Int} (T : nk_S) : ja_X2_intCell n T = some (mCv (1, n), T) := by unfold ja_X2_intCell; rw [mCv_i]
theorem x_ref {n : Int} (h0 : 0 ≤ n) (h1 : n < 2147483648) (T : nk_S) : ja_X2_refCell n T = some (mCv (2, n), T) := by unfold ja_X2_refCell; rw [mCv_r h0 h1]
theorem drp_0 : m.drp 0 = m := by
  have : gU m.hs m.d (m.hs m.d - 0) = m.hs := by
    funext f
    unfold gU
    split
    · rename_i q; rw [q]; rfl
    · rfl
  show ((m.d, m.pc, gU m.hs m.d (m.hs m.d - 0), m.2.2.2) : jM) = _
  rw [this]
theorem lev_0 {v : jV} (h : cMm S (m.psh v).nxt) : cMm S (m.lev 0 v) := by
  unfold jM.lev
  rw [drp_0]
  exact h
/-- the frame of what is known for the class -/
theorem x_at (hk : pKX p Q) (hm : mOk p m) (ht : mTop p m x t) (hc : cMm S m) : m.d < 64 ∧ m.hs m.d ≤ 8 ∧ m.n ≤ 2000 ∧ m.pc m.d < 1024 ∧ x.1 < 46 := by
  obtain ⟨⟨xb, e, hp⟩, -, hV⟩ := m_at hk ht
  obtain ⟨⟨p1, p2, -⟩, -⟩ := id hp
  exact ⟨hm.1, (hc.1.2.1 m.d (Nat.le_refl _)).2.2, hm.2.1.2.1, p2, p1.1⟩
theorem x_perf (h : cXx S Q p A σ) (hx : p.2.2.2.2.1.1[i]? = some x) (hi : i < 1024) : ja_X2_perform 113 (i : Int) S = if 7 < x.1 then (if 18 < x.1 then (if 29 < x.1 then ja_X2_perform_b49 113 (i : Int) (x.1 : Int) S else ja_X2_jump 113 (i : Int) (x.1 : Int) S) else ja_X2_calculate 113 (i : Int) (x.1 : Int) S) else ja_X2_move 113 (i : Int) (x.1 : Int) S := by
  unfold ja_X2_perform
  rw [if_pos (in_i (N := 1024) (by omega)), h.2.1, (jc_Qp h.1).2.1, Int.toNat_natCast, (cx_op h hx).1, lt_eq, bd_eta, bd_eta, bd_eta]
  by_cases c7 : 7 < x.1
  · rw [if_pos (by omega), if_pos c7]
    by_cases c18 : 18 < x.1
    · rw [if_pos (by omega), if_pos c18]
      by_cases c29 : 29 < x.1
      · rw [if_pos (by omega), if_pos c29]
      · rw [if_neg (by omega), if_neg c29]
    · rw [if_neg (by omega), if_neg c18]
  · rw [if_neg (by omega), if_neg c7]
/-- a local's cell -/
theorem x_loc (hk : pKX p Q) (h : cXx S Q p A σ) (hm : mOk p m) (ht : mTop p m x t) (hc : cMm S m) (ho : x.1 = 2 ∨ x.1 = 3 ∨ x.1 = 4) : ∃ a : Nat, x.2.1 = (a : Int) ∧ a < 12 ∧ vWf m (m.loc a) ∧ nk_w (nk_w (S.1 113 5 * 20) + S.1 (ja_c (S.2 113 1) 5) (m.pc m.d)) = ((m.d * 20 + a : Nat) : Int) ∧ S.1 114 (m.d * 20 + a) = mCv (m.loc a) := by
  obtain ⟨a, a1, a2, a3, a4⟩ := loc_at hk ht ho
  have hd := hm.1
  refine ⟨a, a1, a3, a4.1, ?_, hc.1.2.2 m.d a (Nat.le_refl _) (by omega)⟩
  rw [hc.1.1.1, h.2.1, (jc_Qp h.1).2.2.1, (cx_op h ht.1).2.1, a1, nk_w_id (z := (m.d : Int) * 20) (by omega) (by omega), nk_w_id (by omega) (by omega)]
  omega
theorem x_move (hk : pKX p Q) (h : cXx S Q p A σ) (hm : mOk p m) (ht : mTop p m x t) (hc : cMm S m) (ho : x.1 ≤ 7) : pfO p inp m (m.pc m.d) x S := by
  obtain ⟨b1, b2, b3, b4, b5⟩ := x_at hk hm ht hc
  obtain ⟨⟨xb, e, hp⟩, -, hV⟩ := m_at hk ht
  obtain ⟨⟨p1, -⟩, ⟨c1, c2, c3⟩, -⟩ := id hp
  obtain ⟨t1, t2⟩ := tkX_n (bl := p.2.2.2.1) (x := x) (by omega)
  rw [t1, t2] at c2
  rw [t1] at c1
  have ht3 := ht.2.2.1
  rw [← ht3] at c1 c2
  have tt := ofTk x.1 p1.1
  have hpf := x_perf h ht.1 b4
  rw [if_neg (by omega)] at hpf
  obtain ⟨o1, o2, o3, o4⟩ := cx_op h ht.1
  have hd0 : (0 : Int) ≤ (m.pc m.d : Int) ∧ (m.pc m.d : Int) < 1024 := in_i (N := 1024) (by omega)
  have b225 : ∀ T, ja_X2_move_b225 113 T = ja_X2_next 113 T := fun T => bd_eta _
  by_cases q0 : x.1 = 0
  · rw [(tt.1 (by omega)).1, (tt.1 (by omega)).2.1] at c2
    obtain ⟨S1, a1, a2, a3⟩ := x_push hc (by omega) (1, x.2.1)
    obtain ⟨S2, d1, d2, d3⟩ := x_next a3 b4
    refine pf_go (ef_0 q0) ⟨S2, ?_, mbF_m (mbF_trans (m2 := m.psh (1, x.2.1)) rfl a2 d2), ?_⟩
    · rw [hpf]
      unfold ja_X2_move
      rw [if_pos hd0, lt_eq, if_pos (by omega), h.2.1, (jc_Qp h.1).2.2.1, Int.toNat_natCast, o2, x_int, bd_some, a1, bd_some, b225, d1]
    · exact lev_0 d3
  by_cases q1 : x.1 = 1
  · rw [(tt.1 (by omega)).1, (tt.1 (by omega)).2.1] at c2
    obtain ⟨S1, a1, a2, a3⟩ := x_push hc (by omega) (2, 0)
    obtain ⟨S2, d1, d2, d3⟩ := x_next a3 b4
    refine pf_go (ef_1 q1) ⟨S2, ?_, mbF_m (mbF_trans (m2 := m.psh (2, 0)) rfl a2 d2), lev_0 d3⟩
    rw [hpf]
    unfold ja_X2_move
    rw [if_pos hd0, lt_eq, if_neg (by omega), if_pos (by omega), x_ref (by decide) (by decide), bd_some, a1, bd_some, b225, d1]
  by_cases q2 : x.1 = 2
  · rw [(tt.1 (by omega)).1, (tt.1 (by omega)).2.1] at c2
    obtain ⟨a, e1, e2, e3, e4, e5⟩ := x_loc hk h hm ht hc (by omega)
    obtain ⟨S1, a1, a2, a3⟩ := x_push hc (by omega) (m.loc a)
    obtain ⟨S2, d1, d2, d3⟩ := x_next a3 b4
    refine pf_go (ef_2 q2) ⟨S2, ?_, mbF_m (mbF_trans (m2 := m.psh (m.loc a)) rfl a2 d2), by rw [e1, Int.toNat_natCast]; exact lev_0 d3⟩
    rw [hpf]
    unfold ja_X2_move
    rw [if_pos hd0, Int.toNat_natCast, e4, lt_eq, if_neg (by omega), if_neg (by omega), if_pos (by omega), if_pos (in_i (N := 1280) (by omega)), jc_113_2, Int.toNat_natCast, e5, a1, bd_some, b225, d1]
  by_cases q3 : x.1 = 3
  · have hk3 := (tt.2.2.2.2.2.2.2.2.2.2.1 q3).1
    obtain ⟨a, e1, e2, e3, e4, e5⟩ := x_loc hk h hm ht hc (by omega)
    obtain ⟨a2, a3⟩ := x_sto hc (k := a) (Or.inl e2) (m.top 0)
    obtain ⟨S1, f1, f2, f3⟩ := x_drop a3 (k := 1) (show 1 ≤ m.hs m.d by omega)
    obtain ⟨S2, d1, d2, d3⟩ := x_next f3 b4
    refine pf_go (ef_3 q3) ⟨S2, ?_, mbF_m (mbF_trans (m2 := (m.sto a (m.top 0)).drp 1) rfl (mbF_trans (m2 := m.sto a (m.top 0)) rfl a2 f2) d2), by rw [e1, Int.toNat_natCast]; exact d3⟩
    have hfr : ja_X2_fromTop 113 0 S = _ := x_from hc (k := 0) (by omega)
    have f1 : ja_X2_drop 113 1 (nk_wi S 114 (m.d * 20 + a) (mCv (m.top 0))) = some (0, S1) := f1
    rw [hpf]
    unfold ja_X2_move
    rw [if_pos hd0, Int.toNat_natCast, e4, lt_eq, if_neg (by omega), if_neg (by omega), if_neg (by omega), if_pos (by omega), hfr, bd_some, if_pos (in_i (N := 1280) (by omega)), if_pos (in_i (N := 1280) (by omega)), jc_113_2, Int.toNat_natCast, Int.toNat_natCast, x_cell hc (k := 0) (by omega), lt_eq, f1, bd_some, b225, d1]
  by_cases q4 : x.1 = 4
  · obtain ⟨a, e1, e2, e3, e4, e5⟩ := x_loc hk h hm ht hc (by omega)
    obtain ⟨n, hn⟩ : ∃ n, n = nk_w ((m.loc a).2 + x.2.2.1) := ⟨_, rfl⟩
    obtain ⟨a2, a3⟩ := x_sto hc (k := a) (Or.inl e2) (1, n)
    obtain ⟨S2, d1, d2, d3⟩ := x_next a3 b4
    refine pf_go (ef_4 q4) ⟨S2, ?_, mbF_m (mbF_trans (m2 := m.sto a (1, n)) rfl a2 d2), by rw [e1, Int.toNat_natCast, ← hn]; exact d3⟩
    rw [hpf]
    unfold ja_X2_move
    rw [if_pos hd0, Int.toNat_natCast, e4, lt_eq, if_neg (by omega), if_neg (by omega), if_neg (by omega), if_neg (by omega), if_pos (by omega), if_pos (in_i (N := 1280) (by omega)), jc_113_2, Int.toNat_natCast, e5, mCv_n e3 b3, h.2.1, (jc_Qp h.1).2.2.2.1, o3, ← hn, x_int, bd_some, lt_eq, b225, d1]
  by_cases q5 : x.1 = 5
  · have hk5 := tt.2.2.2.2.2.2.2.2.2.2.2.1 q5
    rw [hk5.1] at c1
    rw [hk5.1, hk5.2.1] at c2
    obtain ⟨S1, a1, a2, a3⟩ := x_push hc (by omega) (m.top 0)
    obtain ⟨S2, d1, d2, d3⟩ := x_next a3 b4
    refine pf_go (ef_5 q5) ⟨S2, ?_, mbF_m (mbF_trans (m2 := m.psh (m.top 0)) rfl a2 d2), lev_0 d3⟩
    have hfr : ja_X2_fromTop 113 0 S = _ := x_from hc (k := 0) (by omega)
    rw [hpf]
    unfold ja_X2_move
    rw [if_pos hd0, lt_eq, if_neg (by omega), if_neg (by omega), if_neg (by omega), if_neg (by omega), if_neg (by omega), if_pos (by omega), hfr, bd_some, if_pos (in_i (N := 1280) (by omega)), jc_113_2, Int.toNat_natCast, x_cell hc (k := 0) (by omega), a1, bd_some, b225, d1]
  by_cases q6 : x.1 = 6
  · have hk6 := (tt.2.2.2.1 (by omega)).1
    obtain ⟨S1, f1, f2, f3⟩ := x_drop hc (k := 1) (by omega)
    obtain ⟨S2, d1, d2, d3⟩ := x_next f3 b4
    refine pf_go (ef_6 q6) ⟨S2, ?_, mbF_m (mbF_trans (m2 := m.drp 1) rfl f2 d2), d3⟩
    have f1 : ja_X2_drop 113 1 S = some (0, S1) := f1
    rw [hpf]
    unfold ja_X2_move
    rw [if_pos hd0, lt_eq, if_neg (by omega), if_neg (by omega), if_neg (by omega), if_neg (by omega), if_neg (by omega), if_neg (by omega), if_pos (by omega), f1, bd_some, b225, d1]
  · have q7 : x.1 = 7 := by omega
    have hk7 := (tt.2.2.2.2.2.2.2.2.2.2.2.2.1 q7).1
    rw [hk7] at c1
    obtain ⟨a2, a3⟩ := x_sto hc (k := 11 + m.hs m.d) (by omega) (m.top 1)
    obtain ⟨T, hT⟩ : ∃ T, T = nk_wi S 114 (m.d * 20 + (11 + m.hs m.d)) (mCv (m.top 1)) := ⟨_, rfl⟩
    rw [← hT] at a2 a3
    obtain ⟨f2, f3⟩ := x_sto a3 (k := 10 + m.hs m.d) (show _ ∨ (12 ≤ 10 + m.hs m.d ∧ 10 + m.hs m.d < 12 + m.hs m.d) by omega) (m.top 0)
    obtain ⟨S2, d1, d2, d3⟩ := x_next f3 b4
    refine pf_go (ef_7 q7) ⟨S2, ?_, mbF_m (mbF_trans (m2 := (m.sto (11 + m.hs m.d) (m.top 1)).sto (10 + m.hs m.d) (m.top 0)) rfl (mbF_trans (m2 := m.sto (11 + m.hs m.d) (m.top 1)) rfl a2 f2) d2), d3⟩
    have hfr : ja_X2_fromTop 113 0 S = some (((m.d * 20 + (11 + m.hs m.d) : Nat) : Int), S) := x_from hc (k := 0) (by omega)
    have hfr1 : ja_X2_fromTop 113 1 S = some (((m.d * 20 + (10 + m.hs m.d) : Nat) : Int), S) := by
      have := x_from hc (k := 1) (by omega)
      rw [show 11 + m.hs m.d - 1 = 10 + m.hs m.d by omega] at this
      exact this
    have hfr2 : ja_X2_fromTop 113 1 T = some (((m.d * 20 + (10 + m.hs m.d) : Nat) : Int), T) := by
      have := x_from a3 (k := 1) (show 1 ≤ 11 + m.hs m.d by omega)
      have e : (m.sto (11 + m.hs m.d) (m.top 1)).hs (m.sto (11 + m.hs m.d) (m.top 1)).d = m.hs m.d := rfl
      rw [e, show 11 + m.hs m.d - 1 = 10 + m.hs m.d by omega] at this
      exact this
    have hc1 : S.1 114 (m.d * 20 + (10 + m.hs m.d)) = mCv (m.top 1) := by
      have := x_cell hc (k := 1) (by omega)
      rw [show 11 + m.hs m.d - 1 = 10 + m.hs m.d by omega] at this
      exact this
    have hc0 : S.1 114 (m.d * 20 + (11 + m.hs m.d)) = mCv (m.top 0) := x_cell hc (k := 0) (by omega)
    rw [hpf]
    unfold ja_X2_move
    rw [if_pos hd0, lt_eq, if_neg (by omega), if_neg (by omega), if_neg (by omega), if_neg (by omega), if_neg (by omega), if_neg (by omega), if_neg (by omega), hfr, bd_some, if_pos (in_i (N := 1280) (by omega)), lt_eq, hfr, bd_some, hfr1, bd_some, if_pos (in_i (N := 1280) (by omega)), if_pos (in_i (N := 1280) (by omega)), jc_113_2, Int.toNat_natCast, Int.toNat_natCast, hc1, hc0, lt_eq, ← hT, hfr2, bd_some, if_pos (in_i (N := 1280) (by omega)), Int.toNat_natCast, lt_eq, b225]
    exact d1
end CPN
