/-! The run: the reference reads and writes. -/
section RIO
variable {p : jP} {m m' m1 : jM} {P Q : Nat} {tx : List (List Int)} {x : jC} {t : Nat → Int} {inp : Nat → Int} {S S' S1 : nk_S} {A : jA} {σ : jG} {i : Nat} {v : jV}
theorem b538_n (T : nk_S) {T' : nk_S} (h : ja_X13_next 121 T = some (0, T')) : ja_X13_step_b538 121 T = some (0, T') := by
  unfold ja_X13_step_b538
  rw [h, bd_some]
/-- only what is read and written changes -/
theorem rMm_io {T : nk_S} {r : Nat × Nat × (Nat → Int)} (h : rMm p S m) (k1 : ∀ f, 52 ≤ f → f ≤ 54 → T.1 121 f = S.1 121 f) (k2 : ∀ a, 239 ≤ a ∧ a ≤ 247 → T.1 a = S.1 a) (hI : rIo T r) : rMm p T ((m.1, m.2.1, m.2.2.1, m.2.2.2.1, m.2.2.2.2.1, r) : jM) := by
  refine ⟨⟨?_, ?_, hI⟩, ?_⟩
  · exact rFn_c (S := S) (m := m) (k1 52 (by omega) (by omega)) (fun a ha => k2 a (by omega)) h.1.1
  · exact rHp_c (S := S) (fun g hg => k1 g (by omega) (by omega)) (fun a ha => k2 a (by omega)) h.1.2.1
  · exact rFq_c (S := S) (m := m) (fun a ha => k2 a (by omega)) h.2
/-- the reference reads and writes -/
theorem r_io (hwf : pWf tx p) (hk : pKX p Q) (h : rXx S P p A σ) (hm : mOk p m) (ht : mTop p m x t) (hM : rMm p S m) (ho : x.1 = 44 ∨ x.1 = 45) {N : Nat} (hN : S.1 121 55 = (N : Int)) (hN2 : N ≤ 256) (hin : ∀ k, k < N → S.1 248 k = inp k) (hin0 : ∀ k, N ≤ k → inp k = 0) (hrd : m.rd < 100000) (how : m.ow < 100000) : rsO p A σ inp m (m.pc m.d) x S := by
  obtain ⟨b1, b3, b4, b5, b8⟩ := r_at hk hm ht
  obtain ⟨o1, o2, o3, -⟩ := (rx_at hwf hk h).2.1 _ x ht.1
  obtain ⟨u1, u2⟩ := hs_at hk ht (by omega)
  have tt := ofTk x.1 b5
  have hd0 : (0 : Int) ≤ (m.pc m.d : Int) ∧ (m.pc m.d : Int) < 1024 := in_i (N := 1024) (by omega)
  obtain ⟨i1, i2, i3⟩ := hM.1.2.2
  have i1 : S.1 121 56 = min (m.rd : Int) (N : Int) := by rw [← hN]; exact i1
  have i2 : S.1 121 57 = (m.ow : Int) := i2
  have i3 : ∀ k, k < m.ow → k < 256 → S.1 249 k = m.ou k := i3
  rcases ho with q | q
  · have hk1 := tt.2.1 q
    rw [hk1.1, hk1.2.1] at u2
    obtain ⟨S1, a1, a2, a3⟩ := r_push hM (by omega) (1, inp m.rd)
    have a1 : ja_X13_push 121 (inp m.rd) S = some (0, S1) := a1
    have s55 : S1.1 121 55 = (N : Int) := by rw [a2.2.2 55 (by omega)]; exact hN
    obtain ⟨j1, j2, j3⟩ := a3.1.2.2
    have j1 : S1.1 121 56 = min (m.rd : Int) (N : Int) := by rw [← s55]; exact j1
    have j2 : S1.1 121 57 = (m.ow : Int) := j2
    have j3 : ∀ k, k < m.ow → k < 256 → S1.1 249 k = m.ou k := j3
    obtain ⟨T, hT⟩ : ∃ T, T = if m.rd < N then nk_wi S1 121 56 ((m.rd + 1 : Nat) : Int) else S1 := ⟨_, rfl⟩
    have tF : rxF S1 T := by
      rw [hT]
      split
      · exact rxF_w1 (by omega)
      · exact rxF_rfl
    have tn : ∀ a, a ≠ 121 → T.1 a = S1.1 a := fun a ha => by
      rw [hT]
      split
      · exact wi_n ha
      · rfl
    have tf : ∀ f, f ≠ 56 → T.1 121 f = S1.1 121 f := fun f hf => by
      rw [hT]
      split
      · rw [wi_at, if_neg hf]
      · rfl
    have hI : rIo T (m.rd + 1, m.2.2.2.2.2.2) := by
      refine ⟨?_, by rw [tf 57 (by decide)]; exact j2, fun k k1 k2 => by rw [tn 249 (by decide)]; exact j3 k k1 k2⟩
      rw [tf 55 (by decide), s55, hT]
      by_cases c : m.rd < N
      · rw [if_pos c, wi_at, if_pos rfl]
        show ((m.rd + 1 : Nat) : Int) = min ((m.rd + 1 : Nat) : Int) (N : Int)
        omega
      · rw [if_neg c, j1]
        show _ = min ((m.rd + 1 : Nat) : Int) (N : Int)
        omega
    have hMT := rMm_io (r := (m.rd + 1, m.2.2.2.2.2.2)) a3 (fun f h1 h2 => tf f (by omega)) (fun a ha => tn a (by omega)) hI
    obtain ⟨S2, f1, f2, f3⟩ := r_next hMT (show m.pc m.d < 100000 by omega)
    have b393 : ja_X13_step_b393 121 121 (inp m.rd) S = some (0, S2) := by
      unfold ja_X13_step_b393
      rw [a1, bd_some, s55, j1]
      by_cases c : m.rd < N
      · rw [if_pos c] at hT
        rw [if_neg (by omega), show min (m.rd : Int) (N : Int) = (m.rd : Int) by omega, w_nat1 (by omega), lt_eq, ← hT]
        exact b538_n T f1
      · rw [if_neg c] at hT
        rw [if_pos (by omega), ← hT]
        exact b538_n T f1
    refine rp_go (ef_44 q) ⟨S2, ?_, rxF_trans a2 (rxF_trans tF f2), ?_⟩
    · unfold ja_X13_step
      rw [if_pos hd0, lt_eq, lt_eq, h.2.1, (jc_Pc h.1).1, (jc_Pc h.1).2.1, Int.toNat_natCast, o1, o2, if_neg (by omega), if_neg (by omega), if_neg (by omega), if_neg (by omega), if_neg (by omega), if_neg (by omega), if_neg (by omega), if_neg (by omega), if_neg (by omega), if_neg (by omega), if_neg (by omega), if_neg (by omega), if_neg (by omega), if_neg (by omega), if_neg (by omega), if_neg (by omega), if_neg (by omega), if_neg (by omega), if_neg (by omega), if_neg (by omega), if_neg (by omega), if_neg (by omega), if_neg (by omega), if_neg (by omega), if_neg (by omega), if_neg (by omega), if_neg (by omega), if_neg (by omega), if_neg (by omega), if_neg (by omega), if_neg (by omega), if_neg (by omega), if_neg (by omega), if_neg (by omega), if_neg (by omega), if_neg (by omega), if_neg (by omega), if_neg (by omega), if_neg (by omega), if_neg (by omega), if_neg (by omega), if_neg (by omega), if_neg (by omega), if_neg (by omega), if_pos (by omega), hN, i1]
      by_cases c : m.rd < N
      · rw [if_neg (by omega), show min (m.rd : Int) (N : Int) = (m.rd : Int) by omega, if_pos (in_i (N := 256) (by omega)), jc_rm.2.2.2.2.2.2.2.2.2.1, Int.toNat_natCast, hin _ c]
        exact b393
      · rw [if_pos (by omega)]
        rw [hin0 m.rd (by omega)] at b393
        exact b393
    · unfold jM.lev
      rw [drp_0]
      exact f3
  · have hk1 := (tt.2.2.2.1 (by omega)).1
    obtain ⟨g1, g2⟩ := (kd_top hk ht).2.1 (by omega)
    have w0 := (top_k ht (k := 0) (by omega)).2
    obtain ⟨S1, a1, a2, a3⟩ := r_pop hM (by omega)
    obtain ⟨j1, j2, j3⟩ := a3.1.2.2
    have j2 : S1.1 121 57 = (m.ow : Int) := j2
    have j3 : ∀ k, k < m.ow → k < 256 → S1.1 249 k = m.ou k := j3
    obtain ⟨U, hU⟩ : ∃ U, U = if m.ow < 256 then nk_wi S1 249 m.ow (m.top 0).2 else S1 := ⟨_, rfl⟩
    have uF : rxF S1 U := by
      rw [hU]
      split
      · exact rxF_wi (by omega)
      · exact rxF_rfl
    have un : ∀ a, a ≠ 249 → U.1 a = S1.1 a := fun a ha => by
      rw [hU]
      split
      · exact wi_n ha
      · rfl
    obtain ⟨T, hT⟩ : ∃ T, T = nk_wi U 121 57 ((m.ow + 1 : Nat) : Int) := ⟨_, rfl⟩
    have tn : ∀ a, a ≠ 121 → T.1 a = U.1 a := fun a ha => by rw [hT, wi_n ha]
    have tf : ∀ f, f ≠ 57 → T.1 121 f = S1.1 121 f := fun f hf => by rw [hT, wi_at, if_neg hf, un 121 (by decide)]
    have hI : rIo T (m.rd, m.ow + 1, if m.ow < 256 then gU m.ou m.ow (m.top 0).2 else m.ou) := by
      refine ⟨by rw [tf 56 (by decide), tf 55 (by decide)]; exact j1, by rw [hT, wi_at, if_pos rfl], fun k k1 k2 => ?_⟩
      have k1 : k < m.ow + 1 := k1
      show T.1 249 k = (if m.ow < 256 then gU m.ou m.ow (m.top 0).2 else m.ou) k
      rw [tn 249 (by decide), hU]
      by_cases c : m.ow < 256
      · rw [if_pos c, if_pos c, wi_at]
        by_cases e : k = m.ow
        · rw [if_pos e, e, gU_at]
        · rw [if_neg e, gU_ne e]; exact j3 k (by omega) k2
      · rw [if_neg c, if_neg c]; exact j3 k (by omega) k2
    have hMT := rMm_io (r := (m.rd, m.ow + 1, if m.ow < 256 then gU m.ou m.ow (m.top 0).2 else m.ou)) a3 (fun f h1 h2 => tf f (by omega)) (fun a ha => by rw [tn a (by omega), un a (by omega)]) hI
    obtain ⟨S2, f1, f2, f3⟩ := r_next hMT (show m.pc m.d < 100000 by omega)
    have b448 : ja_X13_step_b448 121 U = some (0, S2) := by
      unfold ja_X13_step_b448
      rw [un 121 (by decide), j2, w_nat1 (by omega), lt_eq, ← hT]
      exact b538_n T f1
    refine rp_go (ef_45 q) ⟨S2, ?_, rxF_trans a2 (rxF_trans uF (rxF_trans (by rw [hT]; exact rxF_w1 (by omega)) f2)), f3⟩
    unfold ja_X13_step
    rw [if_pos hd0, lt_eq, lt_eq, h.2.1, (jc_Pc h.1).1, (jc_Pc h.1).2.1, Int.toNat_natCast, o1, o2, if_neg (by omega), if_neg (by omega), if_neg (by omega), if_neg (by omega), if_neg (by omega), if_neg (by omega), if_neg (by omega), if_neg (by omega), if_neg (by omega), if_neg (by omega), if_neg (by omega), if_neg (by omega), if_neg (by omega), if_neg (by omega), if_neg (by omega), if_neg (by omega), if_neg (by omega), if_neg (by omega), if_neg (by omega), if_neg (by omega), if_neg (by omega), if_neg (by omega), if_neg (by omega), if_neg (by omega), if_neg (by omega), if_neg (by omega), if_neg (by omega), if_neg (by omega), if_neg (by omega), if_neg (by omega), if_neg (by omega), if_neg (by omega), if_neg (by omega), if_neg (by omega), if_neg (by omega), if_neg (by omega), if_neg (by omega), if_neg (by omega), if_neg (by omega), if_neg (by omega), if_neg (by omega), if_neg (by omega), if_neg (by omega), if_neg (by omega), if_neg (by omega), if_pos (by omega), a1, bd_some, rV_w w0 g1, lt_eq, j2]
    by_cases c : m.ow < 256
    · rw [if_pos c] at hU
      rw [if_neg (by omega), if_pos (in_i (N := 256) (by omega)), jc_rm.2.2.2.2.2.2.2.2.2.2, Int.toNat_natCast, lt_eq, ← hU]
      exact b448
    · rw [if_neg c] at hU
      rw [if_pos (by omega), ← hU]
      exact b448
end RIO
