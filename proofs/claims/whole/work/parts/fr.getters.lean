/-! The answers about a loaded program are alike. -/
section GE2
variable {S : nk_S}
theorem w_iR {w : jW} (h : ∃ F, wOk F w ∧ ∀ y, F y → iR y) (h1 : w.1 = 1) : iR2 w.2.1 := by
  obtain ⟨F, h2, h3⟩ := h
  rcases h2.2.2 with q | ⟨-, q, -⟩ | ⟨q, -⟩
  · rw [q] at h1; cases h1
  · exact ⟨h3 _ q.1, h3 _ q.2.1⟩
  · omega
theorem gk_r (h : jRest S) (a b : Int) {w : jW} (hs : (ja_X13_slot 121 a b S = some (-1, S) ∧ w = wU) ∨ ∃ k : Nat, k < 20480 ∧ ja_X13_slot 121 a b S = some ((k : Int), S) ∧ rSo S (rSt (S.2 121 0)) k w ∧ (S.2 121 0 = 122 ∨ S.2 121 0 = 168)) : ja_X13_kind 121 a b S = some ((w.1 : Int), S) := by
  unfold ja_X13_kind
  rcases hs with ⟨q1, q2⟩ | ⟨k, k1, k2, k3, k4⟩
  · rw [q1, bd_some, if_neg (by decide), q2]; rfl
  · rw [k2, bd_some, if_pos (by omega), if_pos (in_i (N := 20480) (by omega)), (jc_rs k4).2.2.1, Int.toNat_natCast]
    have : S.1 (S.2 121 0 + 28) k = _ := k3.1
    rw [this]
theorem jR_kind (a b : Int32) : jb_two (io_I jRest) (ja_X11_kind 0 a.toInt b.toInt) (ja_X13_kind 121 a.toInt b.toInt) := by
  refine jb_pure (fun S h => ?_)
  obtain ⟨w, f, v, g1, g2, g3, ⟨F, g4, g4'⟩, g5⟩ := g_any h.2.2.2.2.2 a.toInt b.toInt
  refine ⟨(w.1 : Int), ?_, gk_r h.2.2.2.2.2 _ _ g5⟩
  unfold ja_X11_kind
  rw [g1, bd_some, g_kind g3.1 (wOk_k2 g4)]
theorem jR_low (a b : Int32) : jb_two (io_I jRest) (ja_X11_low 0 a.toInt b.toInt) (ja_X13_low 121 a.toInt b.toInt) := by
  refine jb_pure (fun S h => ?_)
  obtain ⟨w, f, v, g1, g2, g3, g4, g5⟩ := g_any h.2.2.2.2.2 a.toInt b.toInt
  have hk := gk_r h.2.2.2.2.2 _ _ g5
  by_cases c : w.1 = 1
  · rcases g5 with ⟨q1, q2⟩ | ⟨k, k1, k2, k3, k4⟩
    · rw [q2] at c; cases c
    · refine ⟨w.2.1.1, ?_, ?_⟩
      · unfold ja_X11_low
        rw [g1, bd_some, if_neg (fun q => (g_bit g3.1).1.mp q c), g2, bd_some, g3.2.2.1 c, lo_e (w_iR g4 c), bd_some]
      · unfold ja_X13_low
        have e : S.1 (S.2 121 0 + 29) k = _ := k3.2.1
        rw [hk, bd_some, if_pos (by omega), k2, bd_some, if_pos (in_i (N := 20480) (by omega)), (jc_rs k4).2.2.2.1, Int.toNat_natCast, e]
  · refine ⟨0, ?_, ?_⟩
    · unfold ja_X11_low
      rw [g1, bd_some, if_pos ((g_bit g3.1).1.mpr c)]
    · unfold ja_X13_low
      rw [hk, bd_some, if_neg (by omega)]
theorem jR_high (a b : Int32) : jb_two (io_I jRest) (ja_X11_high 0 a.toInt b.toInt) (ja_X13_high 121 a.toInt b.toInt) := by
  refine jb_pure (fun S h => ?_)
  obtain ⟨w, f, v, g1, g2, g3, g4, g5⟩ := g_any h.2.2.2.2.2 a.toInt b.toInt
  have hk := gk_r h.2.2.2.2.2 _ _ g5
  by_cases c : w.1 = 1
  · rcases g5 with ⟨q1, q2⟩ | ⟨k, k1, k2, k3, k4⟩
    · rw [q2] at c; cases c
    · refine ⟨w.2.1.2, ?_, ?_⟩
      · unfold ja_X11_high
        rw [g1, bd_some, if_neg (fun q => (g_bit g3.1).1.mp q c), g2, bd_some, g3.2.2.1 c, hi_e (w_iR g4 c), bd_some]
      · unfold ja_X13_high
        have e : S.1 (S.2 121 0 + 30) k = _ := k3.2.2.1
        rw [hk, bd_some, if_pos (by omega), k2, bd_some, if_pos (in_i (N := 20480) (by omega)), (jc_rs k4).2.2.2.2.1, Int.toNat_natCast, e]
  · refine ⟨0, ?_, ?_⟩
    · unfold ja_X11_high
      rw [g1, bd_some, if_pos ((g_bit g3.1).1.mpr c)]
    · unfold ja_X13_high
      rw [hk, bd_some, if_neg (by omega)]
theorem jR_sites (a b : Int32) : jb_two (io_I jRest) (ja_X11_sites 0 a.toInt b.toInt) (ja_X13_sites 121 a.toInt b.toInt) := by
  refine jb_pure (fun S h => ?_)
  obtain ⟨w, f, v, g1, g2, g3, g4, g5⟩ := g_any h.2.2.2.2.2 a.toInt b.toInt
  have hk := gk_r h.2.2.2.2.2 _ _ g5
  by_cases c : w.1 = 2
  · rcases g5 with ⟨q1, q2⟩ | ⟨k, k1, k2, k3, k4⟩
    · rw [q2] at c; cases c
    · refine ⟨v, ?_, ?_⟩
      · unfold ja_X11_sites
        rw [g1, bd_some, if_neg (fun q => (g_bit g3.1).2.mp q c), g2, bd_some]
      · unfold ja_X13_sites
        have e : cV (S.1 (S.2 121 0 + 31) k) _ := k3.2.2.2.1
        rw [hk, bd_some, if_pos (by omega), k2, bd_some, if_pos (in_i (N := 20480) (by omega)), (jc_rs k4).2.2.2.2.2.1, Int.toNat_natCast, cV_u e (g3.2.2.2 c)]
  · refine ⟨0, ?_, ?_⟩
    · unfold ja_X11_sites
      rw [g1, bd_some, if_pos ((g_bit g3.1).2.mpr c)]
    · unfold ja_X13_sites
      rw [hk, bd_some, if_neg (by omega)]
theorem cp_oN (o : Option Nat) : ((oN o : Nat) : Int) - 1 = cpI o := by
  cases o with
  | none => rfl
  | some k => show ((k + 1 : Nat) : Int) - 1 = (k : Int); omega
theorem jR_fact (a b c : Int32) : jb_two (io_I jRest) (ja_X11_fact 0 a.toInt b.toInt c.toInt) (ja_X13_fact 121 a.toInt b.toInt c.toInt) := by
  refine jb_pure (fun S h => ?_)
  obtain ⟨w, f, v, g1, g2, g3, ⟨F, g4, g4'⟩, g5⟩ := g_any h.2.2.2.2.2 a.toInt b.toInt
  obtain ⟨n, hn⟩ : ∃ n, n = c.toInt := ⟨_, rfl⟩
  rw [← hn]
  have s0 := g_set0 g3.1
  have s1 := g_set g3.1 (o := 12) (by omega)
  have s2 := g_set g3.1 (o := 24) (by omega)
  have s3 := g_set g3.1 (o := 36) (by omega)
  have hc := c_copy g4.1 g3.1 S
  rw [cp_oN] at hc
  by_cases n0 : n = 0
  · refine ⟨cpI w.2.2.2.1, ?_, ?_⟩
    · unfold ja_X11_fact
      rw [g1, bd_some, if_pos n0, hc, bd_some]
    · unfold ja_X13_fact
      rcases g5 with ⟨q1, q2⟩ | ⟨k, k1, k2, k3, k4⟩
      · rw [q1, bd_some, if_neg (by decide), if_pos n0, q2]; rfl
      · have e : S.1 (S.2 121 0 + 32) k = _ := k3.2.2.2.2.1
        rw [k2, bd_some, if_pos (by omega), if_pos n0, if_pos (in_i (N := 20480) (by omega)), (jc_rs k4).2.2.2.2.2.2.1, Int.toNat_natCast, e]
  by_cases n1 : n = 1
  · refine ⟨nk_w (nk_land f 4095), ?_, ?_⟩
    · unfold ja_X11_fact
      rw [g1, bd_some, if_neg n0, if_pos n1]
    · unfold ja_X13_fact
      rcases g5 with ⟨q1, q2⟩ | ⟨k, k1, k2, k3, k4⟩
      · rw [q1, bd_some, if_neg (by decide), if_neg n0]
        rw [q2] at s0
        rw [cI_u s0 (cI_e cI_0 (fun j => (Bool.and_false _).symm))]
      · have e : mI (S.1 (S.2 121 0 + 33) k) _ 0 := k3.2.2.2.2.2.1
        rw [k2, bd_some, if_pos (by omega), if_neg n0, if_pos n1, if_pos (in_i (N := 20480) (by omega)), (jc_rs k4).2.2.2.2.2.2.2.1, Int.toNat_natCast, cI_u e s0]
  by_cases n2 : n = 2
  · refine ⟨nk_w (nk_land (nk_lushr f 12) 4095), ?_, ?_⟩
    · unfold ja_X11_fact
      rw [g1, bd_some, if_neg n0, if_neg n1, if_pos n2]
    · unfold ja_X13_fact
      rcases g5 with ⟨q1, q2⟩ | ⟨k, k1, k2, k3, k4⟩
      · rw [q1, bd_some, if_neg (by decide), if_neg n0]
        rw [q2] at s1
        have s1 : cI (nk_w (nk_land (nk_lushr f 12) 4095)) _ := s1
        rw [cI_u s1 (cI_e cI_0 (fun j => (Bool.and_false _).symm))]
      · have e : mI (S.1 (S.2 121 0 + 34) k) _ 12 := k3.2.2.2.2.2.2.1
        have s1 : cI (nk_w (nk_land (nk_lushr f 12) 4095)) _ := s1
        rw [k2, bd_some, if_pos (by omega), if_neg n0, if_neg n1, if_pos n2, if_pos (in_i (N := 20480) (by omega)), (jc_rs k4).2.2.2.2.2.2.2.2.1, Int.toNat_natCast, cI_u e s1]
  by_cases n3 : n = 3
  · refine ⟨nk_w (nk_land (nk_lushr f 24) 4095), ?_, ?_⟩
    · unfold ja_X11_fact
      rw [g1, bd_some, if_neg n0, if_neg n1, if_neg n2, if_pos n3]
    · unfold ja_X13_fact
      rcases g5 with ⟨q1, q2⟩ | ⟨k, k1, k2, k3, k4⟩
      · rw [q1, bd_some, if_neg (by decide), if_neg n0]
        rw [q2] at s2
        have s2 : cI (nk_w (nk_land (nk_lushr f 24) 4095)) _ := s2
        rw [cI_u s2 (cI_e cI_0 (fun j => (Bool.and_false _).symm))]
      · have e : mI (S.1 (S.2 121 0 + 35) k) _ 24 := k3.2.2.2.2.2.2.2.1
        have s2 : cI (nk_w (nk_land (nk_lushr f 24) 4095)) _ := s2
        rw [k2, bd_some, if_pos (by omega), if_neg n0, if_neg n1, if_neg n2, if_pos n3, if_pos (in_i (N := 20480) (by omega)), (jc_rs k4).2.2.2.2.2.2.2.2.2.1, Int.toNat_natCast, cI_u e s2]
  by_cases n4 : n = 4
  · refine ⟨nk_w (nk_land (nk_lushr f 36) 4095), ?_, ?_⟩
    · unfold ja_X11_fact
      rw [g1, bd_some, if_neg n0, if_neg n1, if_neg n2, if_neg n3, if_pos n4]
    · unfold ja_X13_fact
      rcases g5 with ⟨q1, q2⟩ | ⟨k, k1, k2, k3, k4⟩
      · rw [q1, bd_some, if_neg (by decide), if_neg n0]
        rw [q2] at s3
        have s3 : cI (nk_w (nk_land (nk_lushr f 36) 4095)) _ := s3
        rw [cI_u s3 (cI_e cI_0 (fun j => (Bool.and_false _).symm))]
      · have e : mI (S.1 (S.2 121 0 + 36) k) _ 36 := k3.2.2.2.2.2.2.2.2
        have s3 : cI (nk_w (nk_land (nk_lushr f 36) 4095)) _ := s3
        rw [k2, bd_some, if_pos (by omega), if_neg n0, if_neg n1, if_neg n2, if_neg n3, if_pos n4, if_pos (in_i (N := 20480) (by omega)), (jc_rs k4).2.2.2.2.2.2.2.2.2.2, Int.toNat_natCast, cI_u e s3]
  · refine ⟨0, ?_, ?_⟩
    · unfold ja_X11_fact
      rw [g1, bd_some, if_neg n0, if_neg n1, if_neg n2, if_neg n3, if_neg n4]
    · unfold ja_X13_fact
      rcases g5 with ⟨q1, q2⟩ | ⟨k, k1, k2, k3, k4⟩
      · rw [q1, bd_some, if_neg (by decide), if_neg n0]
      · rw [k2, bd_some, if_pos (by omega), if_neg n0, if_neg n1, if_neg n2, if_neg n3, if_neg n4]
theorem jR_size (a : Int32) : jb_two (io_I jRest) (ja_X11_size 0 a.toInt) (ja_X13_size 121 a.toInt) := by
  refine jb_pure (fun S h => ?_)
  obtain ⟨n, hn⟩ : ∃ n, n = a.toInt := ⟨_, rfl⟩
  rw [← hn]
  rcases jR_ld h.2.2.2.2.2 with ⟨q1, q2⟩ | ⟨Q, P, p, A, σ, mb, m0, hl⟩
  · refine ⟨-1, ?_, ?_⟩
    · unfold ja_X11_size; rw [q1, if_pos rfl]
    · unfold ja_X13_size; rw [q2, if_pos rfl]
  · obtain ⟨⟨n1, n2⟩, ⟨n3, n4⟩, ⟨n5, n6⟩, -, ⟨n7, n8⟩, n9, b1, b2, b3, b4, b5, b6, b7⟩ := ld_nums hl
    obtain ⟨hQ, hP, e4, e0, e6, e2, -⟩ := hl
    unfold ja_X11_size ja_X13_size
    rw [e6, e2, e4, e0, if_neg (show ¬ (1 : Int) = 0 by decide), if_neg (show ¬ (1 : Int) = 0 by decide), (jc_Q2 hQ).1, (jc_Q2 hQ).2.1, (jc_Q hQ).1, n1, n2, n3, n4, n5, n6, n7, n8, n9]
    have e8 : nk_w ((p.2.1.length : Int) - 8) = ((p.1.length - 8 : Nat) : Int) := by rw [nk_w_id (by omega) (by omega)]; omega
    rw [e8]
    by_cases c0 : n = 0
    · rw [if_pos c0]; exact ⟨_, rfl, rfl⟩
    rw [if_neg c0]
    by_cases c1 : n = 1
    · rw [if_pos c1]; exact ⟨_, rfl, rfl⟩
    rw [if_neg c1]
    by_cases c2 : n = 2
    · rw [if_pos c2]; exact ⟨_, rfl, rfl⟩
    rw [if_neg c2]
    by_cases c3 : n = 3
    · rw [if_pos c3]; exact ⟨_, rfl, rfl⟩
    rw [if_neg c3]
    by_cases c4 : n = 4
    · rw [if_pos c4]; exact ⟨_, rfl, rfl⟩
    rw [if_neg c4]
    exact ⟨_, rfl, rfl⟩
theorem jR_ends : jb_two (io_I jRest) (ja_X11_ends 0) (ja_X13_ends 121) := by
  refine jb_pure (fun S h => ?_)
  rcases jR_ld h.2.2.2.2.2 with ⟨q1, q2⟩ | ⟨Q, P, p, A, σ, mb, m0, hl⟩
  · refine ⟨0, ?_, ?_⟩
    · unfold ja_X11_ends; rw [q1, if_pos rfl]
    · unfold ja_X13_ends; rw [q2, if_pos rfl]
  · obtain ⟨-, -, -, ⟨n1, n2⟩, -, -, b1, b2, b3, b4, b5, b6, b7⟩ := ld_nums hl
    obtain ⟨hQ, hP, e4, e0, e6, e2, hK, hC, hR⟩ := hl
    obtain ⟨y, hy⟩ : ∃ y, p.2.2.2.1[mb]? = some y := ⟨_, List.getElem?_eq_getElem b4⟩
    have h1 := (hC.2.2.2.1.2.2.2.1 mb y hy).2.2
    have h2 := hR.2.2.2.1.2.2 mb (by omega)
    refine ⟨S.1 106 mb, ?_, ?_⟩
    · unfold ja_X11_ends
      rw [e6, if_neg (by decide), e4, (jc_Q2 hQ).1, n1, if_pos (in_i (N := 48) (by omega)), jc_st.2.2.2.2.2.2, Int.toNat_natCast]
    · unfold ja_X13_ends
      rw [e2, if_neg (by decide), e0, n2, if_pos (in_i (N := 48) (by omega)), (jc_Pv hP).2.2.2.2.2.2, Int.toNat_natCast, cV_u h2 h1]
/-- is there such an instruction -/
theorem g_ins (h : jRest S) (a : Int) : (ja_X11_isInstruction 0 a S = some (0, S) ∧ ja_X13_isCode 121 a S = some (0, S)) ∨ ∃ (i : Nat) (Q P : Nat) (p : jP) (A : jA) (σ : jG) (mb m0 : Nat) (x : jC), a = (i : Int) ∧ i < 1024 ∧ LD S Q P p A σ mb m0 ∧ p.2.2.2.2.1.1[i]? = some x ∧ ja_X11_isInstruction 0 a S = some (1, S) ∧ ja_X13_isCode 121 a S = some (1, S) := by
  rcases jR_ld h with ⟨q1, q2⟩ | ⟨Q, P, p, A, σ, mb, m0, hl⟩
  · left
    unfold ja_X11_isInstruction ja_X13_isCode
    rw [q1, q2, if_pos rfl, if_pos rfl]
    exact ⟨rfl, rfl⟩
  · obtain ⟨⟨n1, n2⟩, -, -, -, -, -, b1, -⟩ := ld_nums hl
    obtain ⟨hQ, hP, e4, e0, e6, e2, -⟩ := id hl
    by_cases ca : 0 ≤ a ∧ a < (p.2.2.2.2.1.1.length : Int)
    · right
      refine ⟨a.toNat, Q, P, p, A, σ, mb, m0, _, by omega, by omega, hl, List.getElem?_eq_getElem (by omega), ?_, ?_⟩
      · unfold ja_X11_isInstruction
        rw [e6, if_neg (by decide), if_neg (by omega), e4, n1, if_neg (by omega)]
      · unfold ja_X13_isCode
        rw [e2, if_neg (by decide), if_neg (by omega), e0, n2, if_neg (by omega)]
    · left
      unfold ja_X11_isInstruction ja_X13_isCode
      rw [e6, e2, e4, e0, n1, n2, if_neg (show ¬ (1 : Int) = 0 by decide)]
      by_cases c : a < 0
      · rw [if_pos c]; exact ⟨rfl, rfl⟩
      · rw [if_neg c, if_pos (by omega)]; exact ⟨rfl, rfl⟩
theorem jR_errors (a : Int32) : jb_two (io_I jRest) (ja_X11_errors 0 a.toInt) (ja_X13_errors 121 a.toInt) := by
  refine jb_pure (fun S h => ?_)
  rcases g_ins h.2.2.2.2.2 a.toInt with ⟨q1, q2⟩ | ⟨i, Q, P, p, A, σ, mb, m0, x, ei, hi, hl, hx, q1, q2⟩
  · refine ⟨-1, ?_, ?_⟩
    · unfold ja_X11_errors; rw [q1, bd_some, if_pos rfl]
    · unfold ja_X13_errors; rw [q2, bd_some, if_pos rfl]
  · obtain ⟨hQ, hP, e4, e0, e6, e2, hK, hC, hR⟩ := hl
    have e : S.1 (P + 37) i = S.1 107 i := by
      obtain ⟨c1, c2⟩ := hC.2.2.2.2.1 i x hx
      obtain ⟨r1, r2⟩ := hR.2.2.2.2 i x hx
      cases hA : A i with
      | none => rw [(c1 hA).1, (r1 hA).1]
      | some u => exact cI_u (r2 u hA).1 (c2 u hA).1
    refine ⟨S.1 107 i, ?_, ?_⟩
    · unfold ja_X11_errors
      rw [q1, bd_some, if_neg (by decide), ei, if_pos (in_i (N := 1024) (by omega)), jc_st.2.2.2.1, Int.toNat_natCast]
    · unfold ja_X13_errors
      rw [q2, bd_some, if_neg (by decide), ei, if_pos (in_i (N := 1024) (by omega)), e0, (jc_Pc hP).2.2.2.2.2.1, Int.toNat_natCast, e]
theorem jR_escapes (a : Int32) : jb_two (io_I jRest) (ja_X11_escapes 0 a.toInt) (ja_X13_escapes 121 a.toInt) := by
  refine jb_pure (fun S h => ?_)
  rcases g_ins h.2.2.2.2.2 a.toInt with ⟨q1, q2⟩ | ⟨i, Q, P, p, A, σ, mb, m0, x, ei, hi, hl, hx, q1, q2⟩
  · refine ⟨0, ?_, ?_⟩
    · unfold ja_X11_escapes; rw [q1, bd_some, if_pos rfl]
    · unfold ja_X13_escapes; rw [q2, bd_some, if_pos rfl]
  · obtain ⟨hQ, hP, e4, e0, e6, e2, hK, hC, hR⟩ := hl
    have e : S.1 (P + 38) i = S.1 108 i := by
      obtain ⟨c1, c2⟩ := hC.2.2.2.2.1 i x hx
      obtain ⟨r1, r2⟩ := hR.2.2.2.2 i x hx
      cases hA : A i with
      | none => rw [(c1 hA).2, (r1 hA).2]
      | some u => exact cV_u (r2 u hA).2 (c2 u hA).2
    refine ⟨S.1 108 i, ?_, ?_⟩
    · unfold ja_X11_escapes
      rw [q1, bd_some, if_neg (by decide), ei, if_pos (in_i (N := 1024) (by omega)), jc_st.2.2.2.2.1, Int.toNat_natCast]
    · unfold ja_X13_escapes
      rw [q2, bd_some, if_neg (by decide), ei, if_pos (in_i (N := 1024) (by omega)), e0, (jc_Pc hP).2.2.2.2.2.2, Int.toNat_natCast, e]
theorem jR_lengths (a b : Int32) : jb_two (io_I jRest) (ja_X11_lengths 0 a.toInt b.toInt) (ja_X13_lengths 121 a.toInt b.toInt) := by
  refine jb_pure (fun S h => ?_)
  obtain ⟨s, hs⟩ : ∃ s, s = a.toInt := ⟨_, rfl⟩
  obtain ⟨n, hn⟩ : ∃ n, n = b.toInt := ⟨_, rfl⟩
  rw [← hs, ← hn]
  rcases jR_ld h.2.2.2.2.2 with ⟨q1, q2⟩ | ⟨Q, P, p, A, σ, mb, m0, hl⟩
  · refine ⟨-1, ?_, ?_⟩
    · unfold ja_X11_lengths; rw [q1, if_pos rfl]
    · unfold ja_X13_lengths; rw [q2, if_pos rfl]
  · obtain ⟨-, ⟨n3, n4⟩, -, -, -, -, b1, b2, -⟩ := ld_nums hl
    obtain ⟨hQ, hP, e4, e0, e6, e2, hK, hC, hR⟩ := hl
    unfold ja_X11_lengths ja_X13_lengths
    rw [e6, e2, e4, e0, if_neg (show ¬ (1 : Int) = 0 by decide), if_neg (show ¬ (1 : Int) = 0 by decide), n3, n4]
    by_cases c0 : s < 0
    · rw [if_pos c0, if_pos c0]; exact ⟨_, rfl, rfl⟩
    rw [if_neg c0, if_neg c0]
    by_cases c1 : (p.2.2.2.2.1.2.1.length : Int) ≤ s
    · rw [if_pos c1, if_pos c1]; exact ⟨_, rfl, rfl⟩
    rw [if_neg c1, if_neg c1]
    obtain ⟨k, rfl⟩ : ∃ k : Nat, s = (k : Int) := ⟨s.toNat, by omega⟩
    have ek : ∀ _ : Unit, nk_w (2646 + (k : Int)) = ((2646 + k : Nat) : Int) := fun _ => by rw [nk_w_id (by omega) (by omega)]; omega
    have hc : S.1 103 k = kPk (vN (σ.1 (2646 + k))) := hC.2.2.2.1.2.2.1 k (by omega)
    have hr := hR.2.2.2.1.1 (2646 + k) (by omega)
    have erx : rIx (2646 + k) = 2646 + k := by unfold rIx; rw [if_pos (by omega)]
    rw [erx] at hr
    have hgk : ∀ w, σ.1 (2646 + k) = some w → w.1 = 1 ∧ rOk (pFF p) w.2.1 := fun w hw => by
      have hv := (hK.2.2.2.2.1.2.1.1 (2646 + k) w hw).2
      have ez : zTp (zFl (pZZ p)) (zBl (pZZ p)) (zZ (pZZ p)) (2646 + k) = 1 := zTp_l (by omega)
      rw [ez] at hv
      have h1 := hv.1.2.1.1 rfl
      rcases hv.1.1.2.2 with q | q | q
      · rw [q] at h1; cases h1
      · exact ⟨q.1, q.2.1⟩
      · omega
    rw [ek (), if_pos (in_i (N := 3324) (by omega)), Int.toNat_natCast, (jc_Pv hP).1, (jc_Pv hP).2.1, (jc_Pv hP).2.2.1, jc_st.2.2.2.2.2.1, Int.toNat_natCast, hc]
    have hT := hK.2.2.1.2.1.1
    cases hw : σ.1 (2646 + k) with
    | none =>
      rw [hw] at hr
      have r0 : S.1 (P + 39) (2646 + k) = 0 := hr.1
      rw [r0, if_pos rfl]
      by_cases c2 : n < 0
      · rw [if_pos c2]; exact ⟨_, rfl, rfl⟩
      rw [if_neg c2]
      by_cases c3 : n ≤ 1
      · rw [if_pos c3, if_pos (in_i (N := 48) (by omega)), lt_eq, kPk_n (o := vN none) (fun r q => by cases q), bd_some, if_neg (by decide)]
        exact ⟨_, rfl, rfl⟩
      · rw [if_neg c3]; exact ⟨_, rfl, rfl⟩
    | some w =>
      obtain ⟨w1, w2⟩ := hgk w hw
      rw [hw] at hr
      obtain ⟨r0, r1, r2, -⟩ := hr
      have evN : vN (some w) = some w.2.1 := by unfold vN; dsimp only
      have r0' : ¬ S.1 (P + 39) (2646 + k) = 0 := by rw [r0, w1]; decide
      rw [if_neg r0', r1, r2, evN]
      have hi := rOk_iR hT w2
      by_cases c2 : n < 0
      · rw [if_pos c2, if_neg (by omega), if_neg (by omega)]; exact ⟨_, rfl, rfl⟩
      rw [if_neg c2]
      by_cases c3 : n ≤ 1
      · rw [if_pos c3, if_pos (in_i (N := 48) (by omega)), lt_eq, kPk_n (o := some w.2.1) (fun r q => by cases q; exact ⟨hi, w2.2.2⟩), bd_some, if_pos (show bi (some w.2.1).isNone = 0 from rfl)]
        by_cases c4 : n = 0
        · rw [if_pos c4, if_pos c4]
          have : ja_X5_lowest (kPk (some w.2.1)) S = some (w.2.1.1, S) := lo_e hi S
          rw [this, bd_some]
          exact ⟨_, rfl, rfl⟩
        · rw [if_neg c4, if_neg c4, if_pos (by omega)]
          have : ja_X5_highest (kPk (some w.2.1)) S = some (w.2.1.2, S) := hi_e hi S
          rw [this, bd_some]
          exact ⟨_, rfl, rfl⟩
      · rw [if_neg c3, if_neg (by omega), if_neg (by omega)]; exact ⟨_, rfl, rfl⟩
end GE2
