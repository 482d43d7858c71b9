/-! The run: the reference's fields. -/
section RFD
variable {p : jP} {m m' m1 : jM} {P Q : Nat} {tx : List (List Int)} {x : jC} {t : Nat → Int} {inp : Nat → Int} {S S' S1 : nk_S} {A : jA} {σ : jG} {i : Nat} {v : jV}
/-- a cell of the heap is written -/
theorem r_wme (h : rMm p S m) {j : Nat} (v : jV) : rxF S (nk_wi S 247 j (rV v)) ∧ rMm p (nk_wi S 247 j (rV v)) (m.wme j v) := by
  have tn : ∀ a, a ≠ 247 → (nk_wi S 247 j (rV v)).1 a = S.1 a := fun a ha => wi_n ha
  obtain ⟨⟨hF, ⟨h1, h2, h3, h4⟩, hI⟩, hQ⟩ := h
  refine ⟨rxF_wi (by omega), ⟨⟨?_, ⟨by rw [tn 121 (by decide)]; exact h1, by rw [tn 121 (by decide)]; exact h2, fun o ho => by rw [tn 243 (by decide), tn 244 (by decide), tn 245 (by decide), tn 246 (by decide)]; exact h3 o ho, fun k hk => ?_⟩, ?_⟩, ?_⟩⟩
  · exact rFn_c (S := S) (m := m) (by rw [tn 121 (by decide)]) (fun a ha => tn a (by omega)) hF
  · show _ = rV (gU m.me j v k)
    rw [wi_at]
    by_cases c : k = j
    · rw [if_pos c, c, gU_at]
    · rw [if_neg c, gU_ne c]; exact h4 k hk
  · exact rIo_c (S := S) (fun g hg => by rw [tn 121 (by decide)]) (tn 249 (by decide)) hI
  · exact rFq_c (S := S) (m := m) (fun a ha => tn a (by omega)) hQ
/-- the reference reads and writes fields -/
theorem r_field (hwf : pWf tx p) (hk : pKX p Q) (h : rXx S P p A σ) (hm : mOk p m) (ht : mTop p m x t) (hM : rMm p S m) (ho : x.1 = 35 ∨ x.1 = 36) : rsO p A σ inp m (m.pc m.d) x S := by
  obtain ⟨b1, b3, b4, b5, b8⟩ := r_at hk hm ht
  obtain ⟨c1, c2, c3, c4, c5, c6, c7, c8⟩ := p_ctx hwf hk
  have hst := r_ost hwf hk h ht.1 b4 (by omega)
  have erA : rA x = x.2.1 := by unfold rA; rw [if_neg (by omega), if_neg (by omega)]
  rw [erA] at hst
  have tt := ofTk x.1 b5
  have j12 : ja_c P 12 = P + 5 := by rcases h.1 with e | e <;> rw [e] <;> rfl
  obtain ⟨K, hK, hk2, hk3⟩ : ∃ K, K = tkT x.1 - 1 ∧ (m.top K).1 = 2 ∧ K + 1 ≤ m.hs m.d := by
    rcases ho with q | q
    · obtain ⟨g1, g2⟩ := (kd_top hk ht).2.2.1 (by omega)
      exact ⟨0, by rw [(tt.2.2.2.2.2.1 (by omega)).1], g1, g2⟩
    · obtain ⟨g0, g1, g2⟩ := (kd_top hk ht).2.2.2.2.2.2.1 q
      exact ⟨1, by rw [(tt.2.2.2.2.2.2.2.2.2.1 q).1], g1, g2⟩
  have hKe : (x.1 = 35 → K = 0) ∧ (x.1 = 36 → K = 1) := ⟨fun q => by rw [hK, (tt.2.2.2.2.2.1 (by omega)).1], fun q => by rw [hK, (tt.2.2.2.2.2.2.2.2.2.1 q).1]⟩
  have w := (top_k ht (k := K) (by omega)).2
  -- down to the object
  have hpre : ∃ (T0 T : nk_S) (s0 : Int), ja_X13_objectStep 121 (x.1 : Int) x.2.1 (m.pc m.d : Int) S = ja_X13_objectStep_b137 121 (x.1 : Int) x.2.1 (m.pc m.d : Int) s0 T0 ∧ ja_X13_pop 121 T0 = some (rV (m.top K), T) ∧ rxF S T ∧ rMm p T (m.drp (K + 1)) ∧ (x.1 = 36 → s0 = rV (m.top 0)) := by
    unfold ja_X13_objectStep ja_X13_objectStep_b123
    rw [if_neg (by omega), if_neg (by omega), if_neg (by omega), if_neg (by omega), if_neg (by omega)]
    rcases ho with q | q
    · have eK := hKe.1 q
      obtain ⟨S1, a1, a2, a3⟩ := r_pop hM (by omega)
      rw [eK]
      exact ⟨S, S1, 0, by rw [if_pos (by omega), if_neg (by omega)], a1, a2, a3, fun z => by omega⟩
    · have eK := hKe.2 q
      obtain ⟨S1, S2, a1, a2, a3, a4⟩ := r_pop2 hM (by omega)
      rw [eK]
      exact ⟨S1, S2, rV (m.top 0), by rw [if_neg (by omega), if_pos (by omega), if_pos (by omega), a1, bd_some], a2, a3, a4, fun _ => rfl⟩
  obtain ⟨T0, T, s0, e1, e2, e3, e4, e5⟩ := hpre
  rw [e1] at hst
  unfold ja_X13_objectStep_b137 ja_X13_objectStep_b212 at hst
  rw [e2, bd_some] at hst
  by_cases c0 : (m.top K).2 = 0
  · rw [if_pos ((rV_n hk2).mpr c0), bd_rz, bd_rz] at hst
    rcases ho with q | q
    · have ef := ef_35 (p := p) (inp := inp) (m := m) (i := m.pc m.d) (x := x) q
      rw [hKe.1 q] at c0
      rw [if_pos c0] at ef
      exact rp_rz hwf hk hm h ht.1 b4 ef e3 (rMm_n e4) hst
    · have ef := ef_36 (p := p) (inp := inp) (m := m) (i := m.pc m.d) (x := x) q
      rw [hKe.2 q] at c0
      rw [if_pos c0] at ef
      exact rp_rz hwf hk hm h ht.1 b4 ef e3 (rMm_n e4) hst
  obtain ⟨o, f, y, a1, a2, a3, a4, a5, a6, a7, a8, a9, a10⟩ := fldm_at hwf hk hm ht ho (by rw [← hK]; exact c0)
  rw [← hK] at a4 a5
  have hbn := ba_mono hm.2.1 m.n (Nat.le_refl _) (o + 1) (by omega)
  have hbo := hm.2.1.2.2.2.1 o a3
  have h12 := hm.2.1.2.2.1
  have hcell : m.ba o + fPl p f < m.ba m.n := by unfold jM.ext at a10; omega
  have hf48 : f < 48 := by have := at_lt a7; have := c5.1; omega
  have hX := rXx_f e3 h
  have hyo : y.2.1 < p.1.length := by
    have := c5.2 f y a7
    have := hwf.1.2.1
    omega
  have hpl : T.1 (P + 5) f = (fPl p f : Int) := by rw [(rx_at hwf hk hX).2.2.2.2.2.2.1.2.1 f y a7 hyo, fPl_at a7]
  have h45 : T.1 245 o = (m.ba o : Int) := (e4.1.2.1.2.2.1 o a3).2.2.1
  have h47 : T.1 247 (m.ba o + fPl p f) = rV (m.me (m.ba o + fPl p f)) := e4.1.2.1.2.2.2 _ hcell
  have hob : ja_X13_objectOf (rV (m.top K)) T = some ((o : Int), T) := by
    have ev : m.top K = (2, ((o + 1 : Nat) : Int)) := Prod.ext hk2 a4
    rw [ev]; exact r_ob (by omega) T
  have e6 : ∀ _ : Unit, nk_w ((m.ba o : Int) + (fPl p f : Int)) = ((m.ba o + fPl p f : Nat) : Int) := fun _ => by
    rw [nk_w_id (by omega) (by omega)]; omega
  rw [if_neg (fun z => c0 ((rV_n hk2).mp z)), hob, bd_some, if_pos (in_i (N := 2000) (by omega)), a6, if_pos (in_i (N := 48) (by omega)), jc_rm.2.2.2.2.2.2.1, hX.2.1, j12, Int.toNat_natCast, Int.toNat_natCast, h45, hpl, e6 (), lt_eq, jc_rm.2.2.2.2.2.2.2.2.1] at hst
  rcases ho with q | q
  · have eK := hKe.1 q
    rw [eK] at c0 a5 e4
    have ef := ef_35 (p := p) (inp := inp) (m := m) (i := m.pc m.d) (x := x) q
    rw [if_neg c0, a5, a6, Int.toNat_natCast] at ef
    rw [if_neg (by omega), if_pos (in_i (N := 12000) (by omega)), Int.toNat_natCast, h47] at hst
    obtain ⟨S2, S3, d1, d2, d3, d4⟩ := r_lev e4 (by omega) (by omega) (m.me (m.ba o + fPl p f))
    refine rp_go ef ⟨S3, ?_, rxF_trans e3 d3, d4⟩
    rw [hst, d1, bd_some, d2, bd_some, bd_some]
  · have eK := hKe.2 q
    rw [eK] at c0 a5 e4
    have ef := ef_36 (p := p) (inp := inp) (m := m) (i := m.pc m.d) (x := x) q
    rw [if_neg c0, a5, a6, Int.toNat_natCast] at ef
    rw [if_pos (by omega), if_pos (in_i (N := 12000) (by omega)), Int.toNat_natCast, lt_eq, e5 q] at hst
    obtain ⟨d1, d2⟩ := r_wme e4 (j := m.ba o + fPl p f) (m.top 0)
    obtain ⟨S3, f1, f2, f3⟩ := r_next d2 (show m.pc m.d < 100000 by omega)
    refine rp_go ef ⟨S3, ?_, rxF_trans e3 (rxF_trans d1 f2), f3⟩
    rw [hst, f1, bd_some, bd_some]
end RFD
