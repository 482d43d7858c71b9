/-! The run: the reference writes elements. -/
section RST
variable {p : jP} {m m' m1 : jM} {P Q : Nat} {tx : List (List Int)} {x : jC} {t : Nat → Int} {inp : Nat → Int} {S S' S1 : nk_S} {A : jA} {σ : jG} {i : Nat} {v : jV}
/-- what is written is of the array's kind -/
theorem sto_kd (hwf : pWf tx p) (hk : pKX p Q) (hm : mOk p m) (ht : mTop p m x t) (ho : x.1 = 34) {o : Nat} (a6 : tAr (sTp p.2.2.2.2.1 (m.si o)) = true) (a7 : tAr (t (12 + m.hs m.d - 3)) = true) (a8 : tLe p.2.1 (tEl (sTp p.2.2.2.2.1 (m.si o))) (tEl (t (12 + m.hs m.d - 3))) = true) : (tEl (sTp p.2.2.2.2.1 (m.si o)) = 1 → (m.top 0).1 = 1) ∧ (tEl (sTp p.2.2.2.2.1 (m.si o)) ≠ 1 → (m.top 0).1 = 2) := by
  obtain ⟨⟨xb0, e, hp⟩, -, hV⟩ := m_at hk ht
  obtain ⟨⟨p1, -⟩, -⟩ := id hp
  have tt := (ofTk x.1 p1.1).2.2.2.2.2.2.2.2.1 ho
  obtain ⟨xb, h1, h2, h3⟩ := tH_g hk ht (by omega)
  have b2 := h3 2 (by rw [tt.1]; omega)
  rw [tt.1] at b2 h2
  have w2 : wn x.1 2 = 7 := by rw [ho]; rfl
  rw [w2] at b2
  have b2 : (if t (12 + m.hs m.d - 3) = 2 then decide (t (12 + m.hs m.d - 3 + 2) ≠ 0) else tLe p.2.1 (t (12 + m.hs m.d - 3 + 2)) (tEl (t (12 + m.hs m.d - 3)))) = true := b2
  rw [if_neg (fun q => by rw [q] at a7; exact absurd a7 (by decide))] at b2
  have ei : 12 + m.hs m.d - 3 + 2 = 12 + m.hs m.d - 1 - 0 := by omega
  rw [ei] at b2
  have hv0 := top_ty ht (k := 0) (by omega)
  refine ⟨fun q => ?_, fun q => ?_⟩
  · rw [q] at a8
    have : tEl (t (12 + m.hs m.d - 3)) = 1 := by
      rcases tEl_nz a7 with r | r
      · exact r
      · rcases (tLe_iff _ _).mp a8 with s | s | s <;> omega
    rw [this] at b2
    have ht1 : t (12 + m.hs m.d - 1 - 0) = 1 := by
      rcases (tLe_iff _ _).mp b2 with s | s | s <;> omega
    rw [ht1] at hv0
    exact (vTy_1 hv0).1
  · have h4' : 4 ≤ tEl (sTp p.2.2.2.2.1 (m.si o)) := by
      rcases tEl_nz a6 with r | r
      · exact absurd r q
      · exact r
    have h4 : 4 ≤ tEl (t (12 + m.hs m.d - 3)) := by
      rcases tEl_nz a7 with r | r
      · rw [r] at a8
        rcases (tLe_iff _ _).mp a8 with s | s | s <;> omega
      · exact r
    have h2t : 2 ≤ t (12 + m.hs m.d - 1 - 0) := by
      rcases (tLe_iff _ _).mp b2 with s | s | s <;> omega
    exact (vTy_k hv0 h2t).1
/-- the reference writes an element -/
theorem r_store (hwf : pWf tx p) (hk : pKX p Q) (h : rXx S P p A σ) (hm : mOk p m) (ht : mTop p m x t) (hM : rMm p S m) (ho : x.1 = 34) : rsO p A σ inp m (m.pc m.d) x S := by
  obtain ⟨b1, b3, b4, b5, b8⟩ := r_at hk hm ht
  obtain ⟨c1, c2, c3, c4, c5, c6, c7, c8⟩ := p_ctx hwf hk
  have hst := r_ost hwf hk h ht.1 b4 (by omega)
  obtain ⟨g0, g1, g2, g3⟩ := (kd_top hk ht).2.2.2.2.2.1 ho
  have w0 := (top_k ht (k := 0) (by omega)).2
  have w1 := (top_k ht (k := 2) (by omega)).2
  have tt := (ofTk x.1 b5).2.2.2.2.2.2.2.2.1 ho
  obtain ⟨S0, a01, a02, a03⟩ := r_pop hM (by omega)
  obtain ⟨S1, T, a1, a2, a3, a4⟩ := r_pop2 a03 (by rw [drp_hs]; omega)
  rw [drp_top (by omega)] at a1
  rw [drp_top (by omega)] at a2
  rw [drp_drp] at a4
  have a3 := rxF_trans a02 a3
  have ef := ef_34 (p := p) (inp := inp) (m := m) (i := m.pc m.d) (x := x) ho
  unfold ja_X13_objectStep ja_X13_objectStep_b116 ja_X13_elementStep ja_X13_elementStep_b14 ja_X13_elementStep_b71 ja_X13_elementStep_b154 ja_X13_elementStep_b162 at hst
  rw [if_neg (by omega), if_neg (by omega), if_neg (by omega), if_neg (by omega), if_pos (by omega), if_pos (by omega), a01, bd_some, a1, bd_some, a2, bd_some, rV_i g1] at hst
  have e33 : ¬ (x.1 : Int) = 33 := by omega
  by_cases c0 : (m.top 2).2 = 0
  · rw [if_pos c0] at ef
    rw [if_pos ((rV_n g2).mpr c0), bd_rz, bd_rz, bd_rz] at hst
    exact rp_rz hwf hk hm h ht.1 b4 ef a3 (rMm_n a4) hst
  obtain ⟨o, o1, o2, o3⟩ := r_objT w1 g2 c0
  rw [if_neg c0, o3] at ef
  obtain ⟨o', -, -, a31, -, a51, a6, a7, a8⟩ := arr_at hwf hk hm ht (Or.inr ho) (by rw [tt.1]; exact c0)
  rw [tt.1] at a51 a7 a8
  have eo : o' = o := by rw [← o3]; exact a51.symm
  rw [eo] at a6 a8
  have hkd := sto_kd hwf hk hm ht ho a6 a7 a8
  have hob : ja_X13_objectOf (rV (m.top 2)) T = some ((o : Int), T) := by rw [o2]; exact r_ob (by omega) T
  have h46 : T.1 246 o = (m.ext o : Int) := (a4.1.2.1.2.2.1 o o1).2.2.2
  have h45 : T.1 245 o = (m.ba o : Int) := (a4.1.2.1.2.2.1 o o1).2.2.1
  have h43 : T.1 243 o = rvU (sTp p.2.2.2.2.1 (m.si o)) := (a4.1.2.1.2.2.1 o o1).1
  rw [if_neg (fun z => c0 ((rV_n g2).mp z)), hob, bd_some] at hst
  by_cases cn : (m.top 1).2 < 0
  · rw [if_pos (Or.inl cn)] at ef
    rw [if_pos cn, bd_rz, bd_rz, bd_rz] at hst
    exact rp_rz hwf hk hm h ht.1 b4 ef a3 (rMm_n a4) hst
  rw [if_neg cn, if_pos (in_i (N := 2000) (by omega)), jc_rm.2.2.2.2.2.2.2.1, Int.toNat_natCast, h46] at hst
  by_cases ci : (m.ext o : Int) ≤ (m.top 1).2
  · rw [if_pos (Or.inr ci)] at ef
    rw [if_neg (by omega), bd_rz, bd_rz, bd_rz] at hst
    exact rp_rz hwf hk hm h ht.1 b4 ef a3 (rMm_n a4) hst
  rw [if_neg (by omega)] at ef
  have hbn := ba_mono hm.2.1 m.n (Nat.le_refl _) (o + 1) (by omega)
  have hbo := hm.2.1.2.2.2.1 o o1
  have h12 := hm.2.1.2.2.1
  obtain ⟨qq, hqq⟩ : ∃ qq : Nat, (m.top 1).2 = (qq : Int) := ⟨(m.top 1).2.toNat, by omega⟩
  have hqe : qq < m.ext o := by omega
  have hcell : m.ba o + qq < m.ba m.n := by unfold jM.ext at hqe; omega
  have e6 : ∀ _ : Unit, nk_w ((m.ba o : Int) + nk_w (qq : Int)) = ((m.ba o + qq : Nat) : Int) := fun _ => by
    rw [nk_w_id (z := (qq : Int)) (by omega) (by omega), nk_w_id (by omega) (by omega)]; omega
  have eT : mTp p m (m.top 2).2 = sTp p.2.2.2.2.1 (m.si o) := by unfold mTp; rw [o3]
  rw [hqq, Int.toNat_natCast, eT] at ef
  rw [hqq, if_pos (by omega), jc_rm.2.2.2.2.2.2.1, h45, e6 (), lt_eq, if_neg e33, r_isO w0 (by omega), bd_some] at hst
  -- it is written
  have wr : jE.go (((m.wme (m.ba o + qq) (m.top 0)).drp 3).nxt) = mEf p inp m (m.pc m.d) x → ja_X13_step 121 (m.pc m.d : Int) S = (nk_bd (nk_bd (if 0 ≤ ((m.ba o + qq : Nat) : Int) ∧ ((m.ba o + qq : Nat) : Int) < 12000 then nk_lt (nk_wi T (ja_c 121 49) ((m.ba o + qq : Nat) : Int).toNat (rV (m.top 0))) fun S3 => nk_bd (ja_X13_next 121 S3) fun r1 S2 => some (0, S2) else none) fun r1 S2 => some (0, S2)) fun r1 S2 => some (0, S2)) → rsO p A σ inp m (m.pc m.d) x S := fun e1 e2 => by
    rw [if_pos (in_i (N := 12000) (by omega)), jc_rm.2.2.2.2.2.2.2.2.1, Int.toNat_natCast, lt_eq] at e2
    obtain ⟨d1, d2⟩ := r_wme a4 (j := m.ba o + qq) (m.top 0)
    obtain ⟨S3, f1, f2, f3⟩ := r_next d2 (show m.pc m.d < 100000 by omega)
    refine rp_go e1.symm ⟨S3, ?_, rxF_trans a3 (rxF_trans d1 f2), f3⟩
    rw [e2, f1, bd_some, bd_some, bd_some]
  by_cases cz : (m.top 0).1 = 2 ∧ (m.top 0).2 ≠ 0
  · rw [decide_eq_true cz, if_neg (show ¬ bi true = 0 by decide)] at hst
    obtain ⟨o9, q1, q2, q3⟩ := r_objT w0 cz.1 cz.2
    have hne : tEl (sTp p.2.2.2.2.1 (m.si o)) ≠ 1 := fun z => by have := hkd.1 z; omega
    have hob9 : ja_X13_objectOf (rV (m.top 0)) T = some ((o9 : Int), T) := by rw [q2]; exact r_ob (by omega) T
    have h439 : T.1 243 o9 = rvU (sTp p.2.2.2.2.1 (m.si o9)) := (a4.1.2.1.2.2.1 o9 q1).1
    have hX := rXx_f a3 h
    have vo := (c4 _ (hm.2.1.2.2.2.2.1 o o1)).1
    have vo9 := (c4 _ (hm.2.1.2.2.2.2.1 o9 q1)).1
    have hel := m_elt c2 vo T
    rw [if_pos a6] at hel
    have hbe := m_isBe h.1 (rx_at hwf hk hX).1 c1 c2 vo9 (tV_el2 vo a6)
    have eT9 : mTp p m (m.top 0).2 = sTp p.2.2.2.2.1 (m.si o9) := by unfold mTp; rw [q3]
    rw [eT9] at ef
    rw [hob9, bd_some, if_pos (in_i (N := 2000) (by omega)), jc_rm.2.2.2.2.1, Int.toNat_natCast, h43, hel, bd_some, Int.toNat_natCast, h439, hX.2.1, hbe, bd_some] at hst
    cases hl : tLe p.2.1 (sTp p.2.2.2.2.1 (m.si o9)) (tEl (sTp p.2.2.2.2.1 (m.si o))) with
    | true =>
      rw [hl] at hst ef
      rw [if_neg (fun z => by cases z.2.2)] at ef
      rw [if_neg (show ¬ bi true = 0 by decide)] at hst
      exact wr ef.symm hst
    | false =>
      rw [hl] at hst ef
      rw [if_pos ⟨hne, cz.2, rfl⟩] at ef
      rw [if_pos (show bi false = 0 from rfl), bd_rz, bd_rz, bd_rz] at hst
      exact rp_rz hwf hk hm h ht.1 b4 ef a3 (rMm_n a4) hst
  · rw [decide_eq_false cz, if_pos (show bi false = 0 from rfl)] at hst
    rw [if_neg (fun z => cz ⟨hkd.2 z.1, z.2.1⟩)] at ef
    exact wr ef.symm hst
end RST
