/-! The run: the reference asks for types. -/
section RTY
variable {p : jP} {m m' m1 : jM} {P Q : Nat} {tx : List (List Int)} {x : jC} {t : Nat → Int} {inp : Nat → Int} {S S' S1 : nk_S} {A : jA} {σ : jG} {i : Nat} {v : jV}
/-- what was popped is pushed again -/
theorem psh_top (hh : 0 < m.hs m.d) : (m.drp 1).psh (m.top 0) = m := by
  have e1 : gU (gU m.hs m.d (m.hs m.d - 1)) m.d (gU m.hs m.d (m.hs m.d - 1) m.d + 1) = m.hs := by
    funext f
    unfold gU
    by_cases c : f = m.d
    · rw [if_pos c, if_pos rfl, c]; omega
    · rw [if_neg c, if_neg c]
  have e2 : gU m.vs m.d (gU (m.vs m.d) (12 + gU m.hs m.d (m.hs m.d - 1) m.d) (m.top 0)) = m.vs := by
    funext f k
    by_cases c : f = m.d
    · rw [c, gU_at, gU_at]
      by_cases c2 : k = 12 + (m.hs m.d - 1)
      · rw [c2, gU_at]; unfold jM.top; rw [show 11 + m.hs m.d - 0 = 12 + (m.hs m.d - 1) by omega]
      · rw [gU_ne c2]
    · rw [gU_ne c]
  show ((m.d, m.pc, gU (gU m.hs m.d (m.hs m.d - 1)) m.d (gU m.hs m.d (m.hs m.d - 1) m.d + 1), gU m.vs m.d (gU (m.vs m.d) (12 + gU m.hs m.d (m.hs m.d - 1) m.d) (m.top 0)), m.2.2.2.2) : jM) = m
  rw [e1, e2]
/-- the reference asks for a type -/
theorem r_type (hwf : pWf tx p) (hk : pKX p Q) (h : rXx S P p A σ) (hm : mOk p m) (ht : mTop p m x t) (hM : rMm p S m) (ho : x.1 = 37 ∨ x.1 = 38) (ht1 : tV p.2.1 x.2.1) (ht2 : 3 ≤ x.2.1) : rsO p A σ inp m (m.pc m.d) x S := by
  obtain ⟨b1, b3, b4, b5, b8⟩ := r_at hk hm ht
  obtain ⟨c1, c2, c3, c4, c5, c6, c7, c8⟩ := p_ctx hwf hk
  have hst := r_ost hwf hk h ht.1 b4 (by omega)
  obtain ⟨g1, g2⟩ := (kd_top hk ht).2.2.1 (by omega)
  have w0 := (top_k ht (k := 0) (by omega)).2
  obtain ⟨S1, a1, a2, a3⟩ := r_pop hM (by omega)
  have erA : rA x = rvU x.2.1 := by unfold rA; rw [if_neg (by omega), if_pos (by omega)]; exact rvU_T (Or.inr ht2)
  rw [erA] at hst
  obtain ⟨fits, hfits⟩ : ∃ fits : Bool, fits = decide ((m.top 0).2 ≠ 0 ∧ tLe p.2.1 (mTp p m (m.top 0).2) x.2.1 = true) := ⟨_, rfl⟩
  have hX1 := rXx_f a2 h
  have hos : ja_X13_objectStep 121 (x.1 : Int) (rvU x.2.1) (m.pc m.d : Int) S = ja_X13_objectStep_b258 121 (x.1 : Int) (m.pc m.d : Int) (rV (m.top 0)) (bi fits) S1 := by
    have h217 : ja_X13_objectStep_b217 121 (x.1 : Int) (rvU x.2.1) (m.pc m.d : Int) S = ja_X13_objectStep_b258 121 (x.1 : Int) (m.pc m.d : Int) (rV (m.top 0)) (bi fits) S1 := by
      unfold ja_X13_objectStep_b217 ja_X13_objectStep_b257
      rw [a1, bd_some]
      by_cases c0 : (m.top 0).2 = 0
      · rw [if_pos ((rV_n g1).mpr c0), hfits, decide_eq_false (fun z => z.1 c0)]
        rfl
      · obtain ⟨o, o1, o2, o3⟩ := r_objT w0 g1 c0
        have h43 : S1.1 243 o = rvU (sTp p.2.2.2.2.1 (m.si o)) := (a3.1.2.1.2.2.1 o o1).1
        have eT : mTp p m (m.top 0).2 = sTp p.2.2.2.2.1 (m.si o) := by unfold mTp; rw [o3]
        have hbe := m_isBe h.1 (rx_at hwf hk hX1).1 c1 c2 (c4 _ (hm.2.1.2.2.2.2.1 o o1)).1 ht1
        have hob : ja_X13_objectOf (rV (m.top 0)) S1 = some ((o : Int), S1) := by rw [o2]; exact r_ob (by omega) S1
        rw [if_neg (fun z => c0 ((rV_n g1).mp z)), hob, bd_some, if_pos (in_i (N := 2000) (by omega)), jc_rm.2.2.2.2.1, Int.toNat_natCast, h43, hX1.2.1, hbe, bd_some, hfits, eT]
        cases hl : tLe p.2.1 (sTp p.2.2.2.2.1 (m.si o)) x.2.1 with
        | true => rw [if_neg (show ¬ bi true = 0 by decide), decide_eq_true ⟨c0, rfl⟩]; rfl
        | false => rw [if_pos (show bi false = 0 from rfl), decide_eq_false (fun z => by cases z.2)]; rfl
    unfold ja_X13_objectStep
    rw [if_neg (by omega), if_neg (by omega), if_neg (by omega), if_neg (by omega), if_neg (by omega), if_neg (by omega), if_neg (by omega)]
    rcases ho with q | q
    · rw [if_pos (by omega)]; exact h217
    · rw [if_neg (by omega), if_pos (by omega)]; exact h217
  rw [hos] at hst
  unfold ja_X13_objectStep_b258 ja_X13_objectStep_b287 at hst
  rcases ho with q | q
  · have ef := ef_37 (p := p) (inp := inp) (m := m) (i := m.pc m.d) (x := x) q
    have hgo : jE.go m.nxt = mEf p inp m (m.pc m.d) x → ja_X13_step 121 (m.pc m.d : Int) S = (nk_bd (ja_X13_objectStep_b309 121 121 (rV (m.top 0)) S1) fun r1 S2 => some (0, S2)) → rsO p A σ inp m (m.pc m.d) x S := fun e1 e2 => by
      obtain ⟨S2, d1, d2, d3⟩ := r_push a3 (by rw [drp_hs]; omega) (m.top 0)
      rw [psh_top (by omega)] at d3
      obtain ⟨S3, f1, f2, f3⟩ := r_next d3 (by omega)
      refine rp_go e1.symm ⟨S3, ?_, rxF_trans a2 (rxF_trans d2 f2), f3⟩
      rw [e2]
      refine bd_0 ?_
      unfold ja_X13_objectStep_b309
      rw [d1, bd_some, f1, bd_some]
    have e37 : (x.1 : Int) = 37 := by omega
    rw [if_pos e37, if_pos e37] at hst
    by_cases c0 : (m.top 0).2 = 0
    · rw [if_pos (Or.inl c0)] at ef
      rw [if_pos ((rV_n g1).mpr c0)] at hst
      exact hgo ef.symm hst
    · rw [if_neg (fun z => c0 ((rV_n g1).mp z))] at hst
      cases hf : fits with
      | true =>
        rw [hf] at hfits hst
        have := of_decide_eq_true hfits.symm
        rw [if_pos (Or.inr this.2)] at ef
        rw [if_neg (show ¬ bi true = 0 by decide)] at hst
        exact hgo ef.symm hst
      | false =>
        rw [hf] at hfits hst
        have := of_decide_eq_false hfits.symm
        rw [if_neg (fun z => this ⟨c0, z.resolve_left c0⟩)] at ef
        rw [if_pos (show bi false = 0 from rfl), bd_rz, bd_rz] at hst
        exact rp_rz hwf hk hm h ht.1 b4 ef a2 (rMm_n a3) hst
  · have ef := ef_38 (p := p) (inp := inp) (m := m) (i := m.pc m.d) (x := x) q
    have e38 : ¬ (x.1 : Int) = 37 := by omega
    rw [if_neg e38, if_neg e38] at hst
    have key : ∀ n : Int, n = (if (m.top 0).2 ≠ 0 ∧ tLe p.2.1 (mTp p m (m.top 0).2) x.2.1 = true then 1 else 0) → ja_X13_step 121 (m.pc m.d : Int) S = (nk_bd (ja_X13_objectStep_b309 121 121 n S1) fun r1 S2 => some (0, S2)) → rsO p A σ inp m (m.pc m.d) x S := fun n e1 e2 => by
      rw [← e1] at ef
      obtain ⟨S2, S3, d1, d2, d3, d4⟩ := r_lev a3 (by omega) (by omega) (1, n)
      have d1 : ja_X13_push 121 n S1 = some (0, S2) := d1
      refine rp_go ef ⟨S3, ?_, rxF_trans a2 d3, d4⟩
      rw [e2]
      refine bd_0 ?_
      unfold ja_X13_objectStep_b309
      rw [d1, bd_some, d2, bd_some]
    cases hf : fits with
    | true =>
      rw [hf] at hfits hst
      rw [if_neg (show ¬ bi true = 0 by decide)] at hst
      exact key 1 (by rw [if_pos (of_decide_eq_true hfits.symm)]) hst
    | false =>
      rw [hf] at hfits hst
      rw [if_pos (show bi false = 0 from rfl)] at hst
      exact key 0 (by rw [if_neg (of_decide_eq_false hfits.symm)]) hst
end RTY
