/-! The run: the reference's plain instructions. -/
section RPL
variable {p : jP} {m m' m1 : jM} {P Q : Nat} {tx : List (List Int)} {x : jC} {t : Nat → Int} {inp : Nat → Int} {S S' S1 : nk_S} {A : jA} {σ : jG} {i : Nat} {v : jV}
theorem ite_b {α : Type} {c : Prop} [Decidable c] {a b : α} (h : b = a) : (if c then a else b) = a := by
  split
  · rfl
  · exact h
/-- the kinds of what an instruction takes -/
theorem kd_top (hk : pKX p Q) (ht : mTop p m x t) : ((8 ≤ x.1 ∧ x.1 ≤ 17) ∨ (20 ≤ x.1 ∧ x.1 ≤ 25) → (m.top 0).1 = 1 ∧ (m.top 1).1 = 1 ∧ 2 ≤ m.hs m.d) ∧ (x.1 = 18 ∨ x.1 = 31 ∨ x.1 = 45 → (m.top 0).1 = 1 ∧ 1 ≤ m.hs m.d) ∧ (x.1 = 26 ∨ x.1 = 27 ∨ x.1 = 32 ∨ x.1 = 35 ∨ x.1 = 37 ∨ x.1 = 38 ∨ x.1 = 41 → (m.top 0).1 = 2 ∧ 1 ≤ m.hs m.d) ∧ (x.1 = 28 ∨ x.1 = 29 → (m.top 0).1 = 2 ∧ (m.top 1).1 = 2 ∧ 2 ≤ m.hs m.d) ∧ (x.1 = 33 → (m.top 0).1 = 1 ∧ (m.top 1).1 = 2 ∧ 2 ≤ m.hs m.d) ∧ (x.1 = 34 → (m.top 0).1 ≠ 0 ∧ (m.top 1).1 = 1 ∧ (m.top 2).1 = 2 ∧ 3 ≤ m.hs m.d) ∧ (x.1 = 36 → (m.top 0).1 ≠ 0 ∧ (m.top 1).1 = 2 ∧ 2 ≤ m.hs m.d) ∧ (x.1 = 42 → 1 ≤ m.hs m.d) := by
  obtain ⟨-, hkd, -⟩ := m_at hk ht
  obtain ⟨-, -, k1, k2, k3, k4, k5, k6, k7, -, -, k8⟩ := hkd
  have ht3 := ht.2.2.1
  have e : ∀ k, k < m.hs m.d → (aRw p m (m.pc m.d) (m.hs m.d) (12 + pH p (m.pc m.d) - 1 - k)).1 = (m.top k).1 := fun k q => (top_k ht q).1
  rw [← ht3] at k1 k2 k3 k4 k5 k6 k7 k8 e
  have e0 : 1 ≤ m.hs m.d → (aRw p m (m.pc m.d) (m.hs m.d) (12 + m.hs m.d - 1)).1 = (m.top 0).1 := fun q => e 0 (by omega)
  have e1 : 2 ≤ m.hs m.d → (aRw p m (m.pc m.d) (m.hs m.d) (12 + m.hs m.d - 2)).1 = (m.top 1).1 := fun q => e 1 (by omega)
  have e2 : 3 ≤ m.hs m.d → (aRw p m (m.pc m.d) (m.hs m.d) (12 + m.hs m.d - 3)).1 = (m.top 2).1 := fun q => e 2 (by omega)
  refine ⟨fun q => ?_, fun q => ?_, fun q => ?_, fun q => ?_, fun q => ?_, fun q => ?_, fun q => ?_, fun q => (k8 q).2⟩
  · obtain ⟨a, b, c⟩ := k1 q; rw [← e0 (by omega), ← e1 c]; exact ⟨a, b, c⟩
  · obtain ⟨a, c⟩ := k2 q; rw [← e0 c]; exact ⟨a, c⟩
  · obtain ⟨a, c⟩ := k3 q; rw [← e0 c]; exact ⟨a, c⟩
  · obtain ⟨a, b, c⟩ := k4 q; rw [← e0 (by omega), ← e1 c]; exact ⟨a, b, c⟩
  · obtain ⟨a, b, c⟩ := k5 q; rw [← e0 (by omega), ← e1 c]; exact ⟨a, b, c⟩
  · obtain ⟨a, b, d, c⟩ := k6 q; rw [← e0 (by omega), ← e1 (by omega), ← e2 c]; exact ⟨a, b, d, c⟩
  · obtain ⟨a, b, c⟩ := k7 q; rw [← e0 (by omega), ← e1 c]; exact ⟨a, b, c⟩
/-- the frame of what is known for the reference -/
theorem r_at (hk : pKX p Q) (hm : mOk p m) (ht : mTop p m x t) : m.d < 64 ∧ m.n ≤ 2000 ∧ m.pc m.d < 1024 ∧ x.1 < 46 ∧ m.hs m.d ≤ 8 := by
  obtain ⟨⟨xb, e, hp⟩, -, hV⟩ := m_at hk ht
  obtain ⟨⟨p1, p2, -⟩, -⟩ := id hp
  exact ⟨hm.1, hm.2.1.2.1, p2, p1.1, by rw [ht.2.2.1]; exact pH_8 _⟩
/-- the height behind an instruction -/
theorem hs_at (hk : pKX p Q) (ht : mTop p m x t) (hn : ¬ (x.1 = 39 ∨ x.1 = 40)) : tkT x.1 ≤ m.hs m.d ∧ m.hs m.d - tkT x.1 + lvT x.1 ≤ 8 := by
  obtain ⟨⟨xb, e, hp⟩, -, hV⟩ := m_at hk ht
  obtain ⟨-, ⟨c1, c2, c3⟩, -⟩ := id hp
  obtain ⟨t1, t2⟩ := tkX_n (bl := p.2.2.2.1) (x := x) hn
  rw [t1, t2] at c2
  rw [t1] at c1
  rw [← ht.2.2.1] at c1 c2
  exact ⟨c1, c2⟩
/-- most instructions go the longer way -/
theorem r_488 (hwf : pWf tx p) (hk : pKX p Q) (h : rXx S P p A σ) (hx : p.2.2.2.2.1.1[i]? = some x) (hi : i < 1024) (ho : 8 ≤ x.1 ∧ x.1 ≠ 18 ∧ x.1 ≠ 19 ∧ x.1 < 44) : ja_X13_step 121 (i : Int) S = ja_X13_step_b488 121 (i : Int) (x.1 : Int) (rA x) S := by
  obtain ⟨o1, o2, -⟩ := (rx_at hwf hk h).2.1 i x hx
  unfold ja_X13_step
  rw [if_pos (in_i (N := 1024) (by omega)), lt_eq, lt_eq, h.2.1, (jc_Pc h.1).1, (jc_Pc h.1).2.1, Int.toNat_natCast, o1, o2]
  rw [if_neg (by omega), if_neg (by omega), if_neg (by omega), if_neg (by omega), if_neg (by omega), if_neg (by omega), if_neg (by omega), if_neg (by omega)]
  refine ite_b ?_
  refine ite_b ?_
  refine ite_b ?_
  refine ite_b ?_
  refine ite_b ?_
  refine ite_b ?_
  refine ite_b ?_
  refine ite_b ?_
  refine ite_b ?_
  refine ite_b ?_
  rw [if_neg (by omega), if_neg (by omega)]
  refine ite_b ?_
  refine ite_b ?_
  refine ite_b ?_
  refine ite_b ?_
  refine ite_b ?_
  refine ite_b ?_
  refine ite_b ?_
  refine ite_b ?_
  refine ite_b ?_
  refine ite_b ?_
  refine ite_b ?_
  refine ite_b ?_
  refine ite_b ?_
  refine ite_b ?_
  refine ite_b ?_
  refine ite_b ?_
  refine ite_b ?_
  refine ite_b ?_
  refine ite_b ?_
  refine ite_b ?_
  refine ite_b ?_
  refine ite_b ?_
  refine ite_b ?_
  refine ite_b ?_
  rw [if_neg (by omega), if_neg (by omega)]
/-- the reference moves values -/
theorem r_move (hwf : pWf tx p) (hk : pKX p Q) (h : rXx S P p A σ) (hm : mOk p m) (ht : mTop p m x t) (hM : rMm p S m) (ho : x.1 ≤ 7 ∨ x.1 = 18 ∨ x.1 = 19) : rsO p A σ inp m (m.pc m.d) x S := by
  obtain ⟨b1, b3, b4, b5, b8⟩ := r_at hk hm ht
  obtain ⟨o1, o2, o3, -⟩ := (rx_at hwf hk h).2.1 _ x ht.1
  obtain ⟨u1, u2⟩ := hs_at hk ht (by omega)
  have tt := ofTk x.1 b5
  have erA : rA x = x.2.1 := by unfold rA; rw [if_neg (by omega), if_neg (by omega)]
  have erB : rB2 x = x.2.2.1 := by unfold rB2; rw [if_neg (by omega)]
  rw [erA] at o2
  rw [erB] at o3
  have hd0 : (0 : Int) ≤ (m.pc m.d : Int) ∧ (m.pc m.d : Int) < 1024 := in_i (N := 1024) (by omega)
  have b538 : ∀ T, ja_X13_step_b538 121 T = ja_X13_next 121 T := fun T => by
    unfold ja_X13_step_b538
    have : ∀ o : Option (Int × nk_S), (∀ r T', o = some (r, T') → r = 0) → (nk_bd o fun r1 S2 => some (0, S2)) = o := fun o q => by
      cases o with
      | none => rfl
      | some R => rw [show R = (R.1, R.2) from rfl, bd_some, q R.1 R.2 rfl]
    refine this _ (fun r T' q => ?_)
    unfold ja_X13_next at q
    split at q
    · rw [lt_eq] at q; cases q; rfl
    · cases q
  have hM0 : rMm p S (m.drp 0) := by rw [drp_0]; exact hM
  by_cases q0 : x.1 = 0
  · rw [(tt.1 (by omega)).1, (tt.1 (by omega)).2.1] at u2
    obtain ⟨S1, S2, a1, a2, a3, a4⟩ := r_lev hM0 (by omega) (by omega) (1, x.2.1)
    refine rp_go (ef_0 q0) ⟨S2, ?_, a3, a4⟩
    unfold ja_X13_step
    rw [if_pos hd0, lt_eq, lt_eq, h.2.1, (jc_Pc h.1).1, (jc_Pc h.1).2.1, Int.toNat_natCast, o1, o2, if_pos (by omega)]
    have a1 : ja_X13_push 121 x.2.1 S = some (0, S1) := a1
    rw [a1, bd_some, b538, a2]
  by_cases q1 : x.1 = 1
  · rw [(tt.1 (by omega)).1, (tt.1 (by omega)).2.1] at u2
    obtain ⟨S1, S2, a1, a2, a3, a4⟩ := r_lev hM0 (by omega) (by omega) (2, 0)
    refine rp_go (ef_1 q1) ⟨S2, ?_, a3, a4⟩
    unfold ja_X13_step
    rw [if_pos hd0, lt_eq, lt_eq, h.2.1, (jc_Pc h.1).1, (jc_Pc h.1).2.1, Int.toNat_natCast, o1, o2, if_neg (by omega), if_pos (by omega)]
    have e : rV (2, 0) = 1099511627776 := rV_r rfl
    rw [e] at a1
    rw [a1, bd_some, b538, a2]
  by_cases q2 : x.1 = 2
  · rw [(tt.1 (by omega)).1, (tt.1 (by omega)).2.1] at u2
    obtain ⟨a, l1, l2, l3, l4⟩ := loc_at hk ht (by omega)
    obtain ⟨S1, S2, a1, a2, a3, a4⟩ := r_lev hM0 (by omega) (by omega) (m.loc a)
    refine rp_go (ef_2 q2) ⟨S2, ?_, a3, by rw [l1, Int.toNat_natCast]; exact a4⟩
    unfold ja_X13_step
    rw [if_pos hd0, lt_eq, lt_eq, h.2.1, (jc_Pc h.1).1, (jc_Pc h.1).2.1, Int.toNat_natCast, o1, o2, if_neg (by omega), if_neg (by omega), if_pos (by omega), l1, r_loc hM.1 l3, bd_some, a1, bd_some, b538, a2]
  by_cases q3 : x.1 = 3
  · have hk3 := (tt.2.2.2.2.2.2.2.2.2.2.1 q3).1
    obtain ⟨a, l1, l2, l3, l4⟩ := loc_at hk ht (by omega)
    obtain ⟨S1, a1, a2, a3⟩ := r_pop hM (by omega)
    obtain ⟨d1, d2⟩ := r_sto a3 l3 (m.top 0)
    have e1 : (m.drp 1).d = m.d := rfl
    rw [e1] at d1 d2
    have em : (m.drp 1).sto a (m.top 0) = (m.sto a (m.top 0)).drp 1 := rfl
    rw [em] at d2
    obtain ⟨S2, f1, f2, f3⟩ := r_next d2 (show m.pc m.d < 100000 by omega)
    refine rp_go (ef_3 q3) ⟨S2, ?_, rxF_trans a2 (rxF_trans d1 f2), by rw [l1, Int.toNat_natCast]; exact f3⟩
    have ed := r_dw hM.1.1
    have eix : ∀ _ : Unit, nk_w (nk_w ((m.d : Int) * 12) + (a : Int)) = ((m.d * 12 + a : Nat) : Int) := fun _ => by
      rw [nk_w_id (z := (m.d : Int) * 12) (by omega) (by omega), nk_w_id (by omega) (by omega)]; omega
    unfold ja_X13_step
    rw [if_pos hd0, lt_eq, lt_eq, h.2.1, (jc_Pc h.1).1, (jc_Pc h.1).2.1, Int.toNat_natCast, o1, o2, if_neg (by omega), if_neg (by omega), if_neg (by omega), if_pos (by omega), l1, a1, bd_some, ed (), eix (), if_pos (in_i (N := 768) (by omega)), jc_rm.1, Int.toNat_natCast, lt_eq, b538, f1]
  by_cases q4 : x.1 = 4
  · obtain ⟨a, l1, l2, l3, l4⟩ := loc_at hk ht (by omega)
    obtain ⟨⟨xb, e, hp⟩, hkd, -⟩ := m_at hk ht
    have hl1 : (m.loc a).1 = 1 := by
      have := hkd.2.1 q4
      rw [l1, Int.toNat_natCast] at this
      unfold aRw at this
      rw [if_pos (by unfold rel; omega)] at this
      have this : (aV m (m.loc a)).1 = 1 := this
      rw [aV_k l4.1] at this
      exact this
    obtain ⟨n, hn⟩ : ∃ n, n = nk_w ((m.loc a).2 + x.2.2.1) := ⟨_, rfl⟩
    obtain ⟨d1, d2⟩ := r_sto hM l3 (1, n)
    obtain ⟨S2, f1, f2, f3⟩ := r_next d2 (show m.pc m.d < 100000 by omega)
    refine rp_go (ef_4 q4) ⟨S2, ?_, rxF_trans d1 f2, by rw [l1, Int.toNat_natCast, ← hn]; exact f3⟩
    have ed := r_dw hM.1.1
    have eix : ∀ _ : Unit, nk_w (nk_w ((m.d : Int) * 12) + (a : Int)) = ((m.d * 12 + a : Nat) : Int) := fun _ => by
      rw [nk_w_id (z := (m.d : Int) * 12) (by omega) (by omega), nk_w_id (by omega) (by omega)]; omega
    have e1n : rV (1, n) = n := rfl
    rw [e1n] at f1
    unfold ja_X13_step
    rw [if_pos hd0, lt_eq, lt_eq, h.2.1, (jc_Pc h.1).1, (jc_Pc h.1).2.1, Int.toNat_natCast, o1, o2, if_neg (by omega), if_neg (by omega), if_neg (by omega), if_neg (by omega), if_pos (by omega), l1, r_loc hM.1 l3, bd_some, ed (), eix (), if_pos (in_i (N := 768) (by omega)), jc_rm.1, Int.toNat_natCast, rV_w l4.1 hl1, h.2.1, (jc_Pc h.1).2.2.1, o3, ← hn, lt_eq, b538, f1]
  by_cases q5 : x.1 = 5
  · have hk5 := tt.2.2.2.2.2.2.2.2.2.2.2.1 q5
    rw [hk5.1, hk5.2.1] at u2
    rw [hk5.1] at u1
    obtain ⟨S1, a1, a2, a3⟩ := r_pop hM (by omega)
    obtain ⟨S2, d1, d2, d3⟩ := r_push a3 (by rw [drp_hs]; omega) (m.top 0)
    have em : (m.drp 1).psh (m.top 0) = m := by
      have e1 : gU (gU m.hs m.d (m.hs m.d - 1)) m.d (gU m.hs m.d (m.hs m.d - 1) m.d + 1) = m.hs := by
        funext f
        unfold gU
        by_cases c : f = m.d
        · rw [if_pos c, if_pos rfl, c]; omega
        · rw [if_neg c, if_neg c]
      have e2 : gU m.vs m.d (gU (m.vs m.d) (12 + gU m.hs m.d (m.hs m.d - 1) m.d) (m.top 0)) = m.vs := by
        funext f k
        by_cases c : f = m.d
        · rw [c, gU_at, gU_at]
          by_cases c2 : k = 12 + (m.hs m.d - 1)
          · rw [c2, gU_at]; unfold jM.top; rw [show 11 + m.hs m.d - 0 = 12 + (m.hs m.d - 1) by omega]
          · rw [gU_ne c2]
        · rw [gU_ne c]
      show ((m.d, m.pc, gU (gU m.hs m.d (m.hs m.d - 1)) m.d (gU m.hs m.d (m.hs m.d - 1) m.d + 1), gU m.vs m.d (gU (m.vs m.d) (12 + gU m.hs m.d (m.hs m.d - 1) m.d) (m.top 0)), m.2.2.2.2) : jM) = m
      rw [e1, e2]
    rw [em] at d3
    obtain ⟨S3, S4, f1, f2, f3, f4⟩ := r_lev (k := 0) (show rMm p S2 (m.drp 0) by rw [drp_0]; exact d3) (by omega) (by omega) (m.top 0)
    refine rp_go (ef_5 q5) ⟨S4, ?_, rxF_trans a2 (rxF_trans d2 f3), f4⟩
    unfold ja_X13_step
    rw [if_pos hd0, lt_eq, lt_eq, h.2.1, (jc_Pc h.1).1, (jc_Pc h.1).2.1, Int.toNat_natCast, o1, o2, if_neg (by omega), if_neg (by omega), if_neg (by omega), if_neg (by omega), if_neg (by omega), if_pos (by omega), a1, bd_some, d1, bd_some, f1, bd_some, b538, f2]
  by_cases q6 : x.1 = 6
  · have hk6 := (tt.2.2.2.1 (by omega)).1
    obtain ⟨S1, a1, a2, a3⟩ := r_pop hM (by omega)
    obtain ⟨S2, f1, f2, f3⟩ := r_next a3 (show m.pc m.d < 100000 by omega)
    refine rp_go (ef_6 q6) ⟨S2, ?_, rxF_trans a2 f2, f3⟩
    unfold ja_X13_step
    rw [if_pos hd0, lt_eq, lt_eq, h.2.1, (jc_Pc h.1).1, (jc_Pc h.1).2.1, Int.toNat_natCast, o1, o2, if_neg (by omega), if_neg (by omega), if_neg (by omega), if_neg (by omega), if_neg (by omega), if_neg (by omega), if_pos (by omega), a1, bd_some, b538, f1]
  by_cases q7 : x.1 = 7
  · have hk7 := (tt.2.2.2.2.2.2.2.2.2.2.2.2.1 q7).1
    obtain ⟨S1, S2, a1, a2, a3, a4⟩ := r_pop2 hM (by omega)
    obtain ⟨S3, d1, d2, d3⟩ := r_push a4 (by rw [drp_hs]; omega) (m.top 0)
    obtain ⟨S4, e1, e2, e3⟩ := r_push d3 (by show gU (m.drp 2).hs (m.drp 2).d ((m.drp 2).hs (m.drp 2).d + 1) (m.drp 2).d < 8; rw [gU_at, drp_hs]; omega) (m.top 1)
    obtain ⟨S5, f1, f2, f3⟩ := r_next e3 (show m.pc m.d < 100000 by omega)
    refine rp_go (ef_7 q7) ⟨S5, ?_, rxF_trans a3 (rxF_trans d2 (rxF_trans e2 f2)), ?_⟩
    · unfold ja_X13_step
      rw [if_pos hd0, lt_eq, lt_eq, h.2.1, (jc_Pc h.1).1, (jc_Pc h.1).2.1, Int.toNat_natCast, o1, o2, if_neg (by omega), if_neg (by omega), if_neg (by omega), if_neg (by omega), if_neg (by omega), if_neg (by omega), if_neg (by omega), if_pos (by omega), a1, bd_some, a2, bd_some, d1, bd_some, e1, bd_some, b538, f1]
    · have em : ((m.drp 2).psh (m.top 0)).psh (m.top 1) = (m.sto (11 + m.hs m.d) (m.top 1)).sto (10 + m.hs m.d) (m.top 0) := by
        have g1 : gU (gU (gU m.hs m.d (m.hs m.d - 2)) m.d (gU m.hs m.d (m.hs m.d - 2) m.d + 1)) m.d (gU (gU m.hs m.d (m.hs m.d - 2)) m.d (gU m.hs m.d (m.hs m.d - 2) m.d + 1) m.d + 1) = m.hs := by
          funext f
          unfold gU
          by_cases c : f = m.d
          · rw [if_pos c, if_pos rfl, if_pos rfl, c]; omega
          · rw [if_neg c, if_neg c, if_neg c]
        have g2 : gU (gU m.vs m.d (gU (m.vs m.d) (12 + gU m.hs m.d (m.hs m.d - 2) m.d) (m.top 0))) m.d (gU (gU m.vs m.d (gU (m.vs m.d) (12 + gU m.hs m.d (m.hs m.d - 2) m.d) (m.top 0)) m.d) (12 + gU (gU m.hs m.d (m.hs m.d - 2)) m.d (gU m.hs m.d (m.hs m.d - 2) m.d + 1) m.d) (m.top 1)) = gU (gU m.vs m.d (gU (m.vs m.d) (11 + m.hs m.d) (m.top 1))) m.d (gU (gU m.vs m.d (gU (m.vs m.d) (11 + m.hs m.d) (m.top 1)) m.d) (10 + m.hs m.d) (m.top 0)) := by
          funext f k
          by_cases c : f = m.d
          · rw [c, gU_at, gU_at, gU_at, gU_at, gU_at, gU_at]
            unfold gU
            by_cases c1 : k = 11 + m.hs m.d
            · rw [if_pos (by omega), if_neg (by omega), if_pos c1]
            · rw [if_neg (by omega)]
              by_cases c2 : k = 10 + m.hs m.d
              · rw [if_pos (by omega), if_pos c2]
              · rw [if_neg (by omega), if_neg c2, if_neg c1]
          · rw [gU_ne c, gU_ne c, gU_ne c, gU_ne c]
        show ((m.d, m.pc, gU (gU (gU m.hs m.d (m.hs m.d - 2)) m.d (gU m.hs m.d (m.hs m.d - 2) m.d + 1)) m.d (gU (gU m.hs m.d (m.hs m.d - 2)) m.d (gU m.hs m.d (m.hs m.d - 2) m.d + 1) m.d + 1), gU (gU m.vs m.d (gU (m.vs m.d) (12 + gU m.hs m.d (m.hs m.d - 2) m.d) (m.top 0))) m.d (gU (gU m.vs m.d (gU (m.vs m.d) (12 + gU m.hs m.d (m.hs m.d - 2) m.d) (m.top 0)) m.d) (12 + gU (gU m.hs m.d (m.hs m.d - 2)) m.d (gU m.hs m.d (m.hs m.d - 2) m.d + 1) m.d) (m.top 1)), m.2.2.2.2) : jM) = (m.d, m.pc, m.hs, gU (gU m.vs m.d (gU (m.vs m.d) (11 + m.hs m.d) (m.top 1))) m.d (gU (gU m.vs m.d (gU (m.vs m.d) (11 + m.hs m.d) (m.top 1)) m.d) (10 + m.hs m.d) (m.top 0)), m.2.2.2.2)
        rw [g1, g2]
      rw [em] at f3
      exact f3
  by_cases q18 : x.1 = 18
  · obtain ⟨g1, g2⟩ := (kd_top hk ht).2.1 (by omega)
    obtain ⟨S1, a1, a2, a3⟩ := r_pop hM (by omega)
    obtain ⟨S2, S3, d1, d2, d3, d4⟩ := r_lev a3 (by omega) (by omega) (1, nk_w (-(m.top 0).2))
    refine rp_go (ef_18 q18) ⟨S3, ?_, rxF_trans a2 d3, d4⟩
    have d1 : ja_X13_push 121 (nk_w (-(m.top 0).2)) S1 = some (0, S2) := d1
    unfold ja_X13_step
    rw [if_pos hd0, lt_eq, lt_eq, h.2.1, (jc_Pc h.1).1, (jc_Pc h.1).2.1, Int.toNat_natCast, o1, o2, if_neg (by omega), if_neg (by omega), if_neg (by omega), if_neg (by omega), if_neg (by omega), if_neg (by omega), if_neg (by omega), if_neg (by omega), if_neg (by omega), if_neg (by omega), if_neg (by omega), if_neg (by omega), if_neg (by omega), if_neg (by omega), if_neg (by omega), if_neg (by omega), if_neg (by omega), if_neg (by omega), if_pos (by omega), a1, bd_some, rV_w (top_k ht (k := 0) (by omega)).2 g1, d1, bd_some, b538, d2]
  have q19 : x.1 = 19 := by omega
  obtain ⟨g, hg⟩ : ∃ g : Nat, x.2.1 = (g : Int) := by
    obtain ⟨⟨xb, e, hp⟩, -, -⟩ := m_at hk ht
    obtain ⟨-, -, -, pj, -⟩ := id hp
    obtain ⟨g, g1, -⟩ := pj (by omega)
    exact ⟨g, g1⟩
  obtain ⟨d1, d2⟩ := r_pc hM g
  have ed := r_dw hM.1.1
  refine rp_go (ef_19 q19) ⟨_, ?_, d1, by rw [hg, Int.toNat_natCast]; exact d2⟩
  unfold ja_X13_step
  rw [if_pos hd0, lt_eq, lt_eq, h.2.1, (jc_Pc h.1).1, (jc_Pc h.1).2.1, Int.toNat_natCast, o1, o2, if_neg (by omega), if_neg (by omega), if_neg (by omega), if_neg (by omega), if_neg (by omega), if_neg (by omega), if_neg (by omega), if_neg (by omega), if_neg (by omega), if_neg (by omega), if_neg (by omega), if_neg (by omega), if_neg (by omega), if_neg (by omega), if_neg (by omega), if_neg (by omega), if_neg (by omega), if_neg (by omega), if_neg (by omega), if_pos (by omega), ed (), if_pos (in_i (N := 64) (by omega)), jc_rm.2.2.2.1, Int.toNat_natCast, lt_eq, hg]
end RPL
