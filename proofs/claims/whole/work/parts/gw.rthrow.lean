/-! The run: the reference's lengths and throws. -/
section RLN
variable {p : jP} {m m' m1 : jM} {P Q : Nat} {tx : List (List Int)} {x : jC} {t : Nat → Int} {inp : Nat → Int} {S S' S1 : nk_S} {A : jA} {σ : jG} {i : Nat} {v : jV}
/-- instructions about objects -/
theorem r_ost (hwf : pWf tx p) (hk : pKX p Q) (h : rXx S P p A σ) (hx : p.2.2.2.2.1.1[i]? = some x) (hi : i < 1024) (ho : 30 ≤ x.1 ∧ x.1 ≤ 43) : ja_X13_step 121 (i : Int) S = nk_bd (ja_X13_objectStep 121 (x.1 : Int) (rA x) (i : Int) S) fun r1 S2 => some (0, S2) := by
  rw [r_488 hwf hk h hx hi (by omega)]
  unfold ja_X13_step_b488 ja_X13_step_b509 ja_X13_step_b530
  rw [if_neg (by omega), if_pos (by omega), if_neg (by omega), if_pos (by omega)]
/-- the object that stands on top -/
theorem r_objT (hv : vWf m v) (h2 : v.1 = 2) (h0 : v.2 ≠ 0) : ∃ o : Nat, o < m.n ∧ v = (2, ((o + 1 : Nat) : Int)) ∧ v.2.toNat - 1 = o := by
  have := wf_2 hv h2
  exact ⟨v.2.toNat - 1, by omega, Prod.ext h2 (show v.2 = _ by omega), rfl⟩
/-- the length of an array -/
theorem r_len (hwf : pWf tx p) (hk : pKX p Q) (h : rXx S P p A σ) (hm : mOk p m) (ht : mTop p m x t) (hM : rMm p S m) (ho : x.1 = 32) : rsO p A σ inp m (m.pc m.d) x S := by
  obtain ⟨b1, b3, b4, b5, b8⟩ := r_at hk hm ht
  have hst := r_ost hwf hk h ht.1 b4 (by omega)
  obtain ⟨g1, g2⟩ := (kd_top hk ht).2.2.1 (by omega)
  have w0 := (top_k ht (k := 0) (by omega)).2
  obtain ⟨S1, a1, a2, a3⟩ := r_pop hM (by omega)
  have ef := ef_32 (p := p) (inp := inp) (m := m) (i := m.pc m.d) (x := x) ho
  have hos : ja_X13_objectStep 121 (x.1 : Int) (rA x) (m.pc m.d : Int) S = if rV (m.top 0) = 1099511627776 then nk_bd (ja_X13_raise 121 0 (m.pc m.d : Int) S1) fun r15 S16 => some (0, S16) else nk_bd (ja_X13_objectOf (rV (m.top 0)) S1) fun r5 S6 => if 0 ≤ r5 ∧ r5 < 2000 then nk_bd (ja_X13_push 121 (S6.1 (ja_c 121 48) r5.toNat) S6) fun r9 S10 => nk_bd (ja_X13_next 121 S10) fun r12 S13 => some (0, S13) else none := by
    unfold ja_X13_objectStep
    rw [if_neg (by omega), if_neg (by omega), if_pos (by omega), a1, bd_some]
  by_cases c0 : (m.top 0).2 = 0
  · rw [if_pos c0] at ef
    refine rp_rz hwf hk hm h ht.1 b4 ef a2 (rMm_n a3) ?_
    rw [hst, hos, if_pos ((rV_n g1).mpr c0), bd_rz, bd_rz]
    rfl
  · rw [if_neg c0] at ef
    obtain ⟨o, o1, o2, o3⟩ := r_objT w0 g1 c0
    rw [o3] at ef
    obtain ⟨S2, S3, d1, d2, d3, d4⟩ := r_lev a3 (by omega) (by omega) (1, (m.ext o : Int))
    have d1 : ja_X13_push 121 (m.ext o : Int) S1 = some (0, S2) := d1
    have h46 : S1.1 246 o = (m.ext o : Int) := (a3.1.2.1.2.2.1 o o1).2.2.2
    refine rp_go ef ⟨S3, ?_, rxF_trans a2 d3, d4⟩
    rw [hst]
    refine bd_0 ?_
    rw [hos, if_neg (fun z => c0 ((rV_n g1).mp z)), o2, r_ob (by omega), bd_some, if_pos (in_i (N := 2000) (by omega)), jc_rm.2.2.2.2.2.2.2.1, Int.toNat_natCast, h46, d1, bd_some, d2, bd_some]
/-- an object is thrown by the program -/
theorem r_thw (hwf : pWf tx p) (hk : pKX p Q) (h : rXx S P p A σ) (hm : mOk p m) (ht : mTop p m x t) (hM : rMm p S m) (ho : x.1 = 41) (h6 : (m.top 0).2 ≠ 0 → fnd p A σ (m.pc m.d) x 6 = true ∨ S.1 121 63 = 1) : rsO p A σ inp m (m.pc m.d) x S := by
  obtain ⟨b1, b3, b4, b5, b8⟩ := r_at hk hm ht
  have hst := r_ost hwf hk h ht.1 b4 (by omega)
  obtain ⟨g1, g2⟩ := (kd_top hk ht).2.2.1 (by omega)
  have w0 := (top_k ht (k := 0) (by omega)).2
  obtain ⟨S1, a1, a2, a3⟩ := r_pop hM (by omega)
  have ef := ef_41 (p := p) (inp := inp) (m := m) (i := m.pc m.d) (x := x) ho
  have hos : ja_X13_objectStep 121 (x.1 : Int) (rA x) (m.pc m.d : Int) S = if rV (m.top 0) = 1099511627776 then nk_bd (ja_X13_raise 121 0 (m.pc m.d : Int) S1) fun r26 S27 => some (0, S27) else if 0 ≤ (m.pc m.d : Int) ∧ (m.pc m.d : Int) < 1024 then if (nk_iand (S1.1 (ja_c (S1.2 121 0) 44) (m.pc m.d : Int).toNat) 64) = 0 then nk_lt (nk_wi S1 121 63 1) fun S24 => ja_X13_objectStep_b369 121 (m.pc m.d : Int) (rV (m.top 0)) S24 else ja_X13_objectStep_b369 121 (m.pc m.d : Int) (rV (m.top 0)) S1 else none := by
    unfold ja_X13_objectStep
    rw [if_neg (by omega), if_neg (by omega), if_neg (by omega), if_neg (by omega), if_neg (by omega), if_neg (by omega), if_neg (by omega), if_neg (by omega), if_neg (by omega), if_neg (by omega), if_neg (by omega), if_pos (by omega), a1, bd_some]
  by_cases c0 : (m.top 0).2 = 0
  · rw [if_pos c0] at ef
    refine rp_rz hwf hk hm h ht.1 b4 ef a2 (rMm_n a3) ?_
    rw [hst, hos, if_pos ((rV_n g1).mpr c0), bd_rz, bd_rz]
    rfl
  · rw [if_neg c0] at ef
    obtain ⟨o, o1, o2, o3⟩ := r_objT w0 g1 c0
    have er : (m.top 0).2.toNat = o + 1 := by rw [o2]; exact Int.toNat_natCast _
    rw [er] at ef
    obtain ⟨b, hb⟩ : ∃ b : Bool, (nk_iand (S1.1 (P + 37) (m.pc m.d)) 64 = 0 ↔ b = false) ∧ (b = true ∨ S.1 121 63 = 1) := by
      have hX1 := rXx_f a2 h
      have hc := fnd_r hX1.2.2 ht.1
      refine ⟨fnd p A σ (m.pc m.d) x 6, ⟨fun q => ?_, fun q => ?_⟩, h6 c0⟩
      · have := hc.2 6 (by decide)
        rw [← this]
        have e : ib (nk_iand (S1.1 (P + 37) (m.pc m.d)) 64) 6 = false := by rw [q]; exact ib_0 6 (by decide)
        rw [ib_and] at e
        have e64 : ib 64 6 = true := by decide +kernel
        rw [e64, Bool.and_true] at e
        exact e
      · refine ib_ext (iR_t _) (by unfold iR; omega) (fun j hj => ?_)
        rw [ib_and, hc.2 j hj, ib_0 j hj]
        have e64 : ∀ j, j < 32 → ib 64 j = decide (j = 6) := by decide +kernel
        rw [e64 j hj]
        by_cases c : j = 6
        · rw [c, q, Bool.false_and]
        · rw [decide_eq_false c, Bool.and_false]
    obtain ⟨T, hT⟩ : ∃ T, T = if b = true then S1 else nk_wi S1 121 63 1 := ⟨_, rfl⟩
    have hMT : rMn p T m := by
      rw [hT]
      split
      · exact rMm_n a3
      · exact rMn_w (by decide) (rMm_n a3)
    have tG : rxG S1 T := by
      rw [hT]
      split
      · exact ⟨rfl, fun _ _ => rfl, fun _ _ => rfl⟩
      · exact rxG_w (by decide)
    have tf : ∀ f, 57 < f → f ≠ 63 → T.1 121 f = S.1 121 f := fun f hf1 hf => by
      rw [hT]
      split
      · exact a2.2.2 f (by omega)
      · rw [wi_at, if_neg hf]; exact a2.2.2 f (by omega)
    have t63 : T.1 121 63 = S.1 121 63 := by
      rw [hT]
      cases b with
      | true => rw [if_pos rfl]; exact a2.2.2 63 (by omega)
      | false =>
        rw [if_neg (by decide), wi_at, if_pos rfl]
        rcases hb.2 with q | q
        · cases q
        · exact q.symm
    obtain ⟨V, v1, v2, v3, v4⟩ := r_toss hwf hk hm (r := o + 1) (by omega) (by omega) (rXx_g tG (rXx_f a2 h)) hMT (m.pc m.d)
    have h369 : ja_X13_objectStep_b369 121 (m.pc m.d : Int) (rV (m.top 0)) T = some (0, V) := by
      unfold ja_X13_objectStep_b369
      rw [o2, v1, bd_some]
    unfold rsO mSx mSp
    rw [ef]
    refine ⟨V, ?_, rxG_trans (rxG_f a2) (rxG_trans tG v3), ?_, spR_s (tf 59 (by decide) (by decide)) (tf 60 (by decide) (by decide)) (tf 61 (by decide) (by decide)) v4⟩
    · rw [hst]
      refine bd_0 ?_
      rw [hos, if_neg (fun z => c0 ((rV_n g1).mp z)), if_pos (in_i (N := 1024) (by omega)), a2.1, h.2.1, (jc_Pc h.1).2.2.2.2.2.1, Int.toNat_natCast]
      cases b with
      | true =>
        rw [if_pos rfl] at hT
        rw [if_neg (fun z => by have := hb.1.mp z; cases this), ← hT]
        exact h369
      | false =>
        rw [if_neg (by decide)] at hT
        rw [if_pos (hb.1.mpr rfl), lt_eq, ← hT]
        exact h369
    · show _ = if false = true then 1 else _
      rw [if_neg (by decide), v2, t63]
end RLN
