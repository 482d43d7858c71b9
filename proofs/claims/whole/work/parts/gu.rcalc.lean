/-! The run: the reference reckons, branches, reads and writes. -/
section RCA
variable {p : jP} {m m' m1 : jM} {P Q : Nat} {tx : List (List Int)} {x : jC} {t : Nat → Int} {inp : Nat → Int} {S S' S1 : nk_S} {A : jA} {σ : jG} {i : Nat} {v : jV}
theorem idiv_m1 {a : Int} (h : iR a) : nk_idiv a (-1) = nk_w (-a) := by
  unfold nk_idiv nk_w
  rw [Int32.toInt_div]
  unfold iR at h
  have e1 : (Int32.ofInt a).toInt = a := Int32.toInt_ofInt_of_le (by omega) (by omega)
  have e2 : (Int32.ofInt (-1)).toInt = -1 := by decide
  rw [e1, e2, Int.tdiv_neg, Int.tdiv_one]
theorem irem_m1 {a : Int} : nk_irem a (-1) = 0 := by
  unfold nk_irem
  have : Int32.ofInt a - Int32.ofInt a / Int32.ofInt (-1) * Int32.ofInt (-1) = 0 := by
    have e : Int32.ofInt (-1) = -1 := by decide
    rw [e]
    have : Int32.ofInt a / -1 = - Int32.ofInt a := by
      apply Int32.toInt_inj.mp
      have e2 : (-1 : Int32).toInt = -1 := by decide
      rw [Int32.toInt_div, e2, Int.tdiv_neg, Int.tdiv_one, Int32.toInt_neg]
    rw [this, Int32.mul_neg, Int32.mul_one, Int32.neg_neg, Int32.sub_self]
  rw [this]; rfl
theorem bd_0 {o : Option (Int × nk_S)} {T : nk_S} (h : o = some (0, T)) : (nk_bd o fun r1 S2 => some (0, S2)) = some (0, T) := by rw [h, bd_some]
/-- a raise returns nothing -/
theorem bd_rz (e i : Int) (T : nk_S) : (nk_bd (ja_X13_raise 121 e i T) fun r1 S2 => some (0, S2)) = ja_X13_raise 121 e i T := by
  have key : ∀ o : Option (Int × nk_S), (∀ r T', o = some (r, T') → r = 0) → (nk_bd o fun r1 S2 => some (0, S2)) = o := fun o q => by
    cases o with
    | none => rfl
    | some R => rw [show R = (R.1, R.2) from rfl, bd_some, q R.1 R.2 rfl]
  have b21 : ∀ T r T', ja_X13_raise_b21 121 e i T = some (r, T') → r = 0 := fun T r T' q => by
    unfold ja_X13_raise_b21 at q
    cases ho : ja_X13_object 121 (nk_w (10 + e)) (nk_w (48 + e)) 0 i T with
    | none => rw [ho] at q; cases q
    | some R =>
      rw [ho, show R = (R.1, R.2) from rfl, bd_some] at q
      split at q
      · cases q; rfl
      · rename_i hr
        cases ht : ja_X13_toss 121 R.1 i R.2 with
        | none => rw [ht] at q; cases q
        | some R' =>
          rw [ht, show R' = (R'.1, R'.2) from rfl, bd_some] at q
          cases q; rfl
  refine key _ (fun r T' q => ?_)
  unfold ja_X13_raise at q
  split at q
  · split at q
    · exact b21 _ _ _ q
    · exact b21 _ _ _ q
  · cases q
theorem rMm_n {k : Nat} (h : rMm p S (m.drp k)) : rMn p S m := by
  obtain ⟨⟨⟨h1, h2, h3, h4⟩, hH, hI⟩, -⟩ := h
  refine ⟨⟨h1, h2, h3, fun f hf => ?_⟩, hH, hI⟩
  have e : (m.drp k).hs f = m.hs f := gU_ne (by omega)
  have := h4 f hf
  rw [e] at this
  exact this
/-- the reference reckons -/
theorem r_calc (hwf : pWf tx p) (hk : pKX p Q) (h : rXx S P p A σ) (hm : mOk p m) (ht : mTop p m x t) (hM : rMm p S m) (ho : 8 ≤ x.1 ∧ x.1 ≤ 17) : rsO p A σ inp m (m.pc m.d) x S := by
  obtain ⟨b1, b3, b4, b5, b8⟩ := r_at hk hm ht
  obtain ⟨g1, g2, g3⟩ := (kd_top hk ht).1 (Or.inl ho)
  have w0 := (top_k ht (k := 0) (by omega)).2
  have w1 := (top_k ht (k := 1) (by omega)).2
  have hst := r_488 hwf hk h ht.1 b4 (by omega)
  obtain ⟨S1, S2, a1, a2, a3, a4⟩ := r_pop2 hM g3
  have ef := ef_17 (p := p) (inp := inp) (m := m) (i := m.pc m.d) (x := x) ho
  have hrk : ja_X13_reckon 121 (x.1 : Int) (m.pc m.d : Int) S = if (x.1 : Int) = 11 then ja_X13_reckon_b25 121 (x.1 : Int) (m.pc m.d : Int) (m.top 0).2 (m.top 1).2 S2 else if (x.1 : Int) = 12 then ja_X13_reckon_b25 121 (x.1 : Int) (m.pc m.d : Int) (m.top 0).2 (m.top 1).2 S2 else ja_X13_reckon_b36 121 (x.1 : Int) (m.top 0).2 (m.top 1).2 S2 := by
    unfold ja_X13_reckon
    rw [a1, bd_some, rV_w w0 g1, lt_eq, a2, bd_some, rV_w w1 g2, lt_eq]
  have hs2 : ja_X13_step 121 (m.pc m.d : Int) S = nk_bd (ja_X13_reckon 121 (x.1 : Int) (m.pc m.d : Int) S) fun r1 S2 => some (0, S2) := by
    rw [hst]
    unfold ja_X13_step_b488
    rw [if_neg (by omega), if_neg (by omega)]
  by_cases cz : (x.1 = 11 ∨ x.1 = 12) ∧ (m.top 0).2 = 0
  · rw [if_pos cz] at ef
    refine rp_rz hwf hk hm h ht.1 b4 ef a3 (rMm_n a4) ?_
    have hb : ja_X13_reckon_b25 121 (x.1 : Int) (m.pc m.d : Int) (m.top 0).2 (m.top 1).2 S2 = ja_X13_raise 121 ((3 : Nat) : Int) (m.pc m.d : Int) S2 := by
      unfold ja_X13_reckon_b25
      rw [if_pos cz.2, bd_rz]
      rfl
    rw [hs2, hrk]
    rcases cz.1 with q | q
    · rw [if_pos (by omega), hb, bd_rz]
    · rw [if_neg (by omega), if_pos (by omega), hb, bd_rz]
  · rw [if_neg cz] at ef
    obtain ⟨S3, S4, d1, d2, d3, d4⟩ := r_lev a4 (by omega) (by omega) (1, mCl x.1 (m.top 1).2 (m.top 0).2)
    refine rp_go ef ⟨S4, ?_, rxF_trans a3 d3, d4⟩
    have d1 : ja_X13_push 121 (mCl x.1 (m.top 1).2 (m.top 0).2) S2 = some (0, S3) := d1
    have b174 : ∀ n, n = mCl x.1 (m.top 1).2 (m.top 0).2 → ja_X13_reckon_b174 121 121 n S2 = some (0, S4) := fun n hn => by
      unfold ja_X13_reckon_b174
      rw [hn, d1, bd_some, d2, bd_some]
    have b36 : ja_X13_reckon_b36 121 (x.1 : Int) (m.top 0).2 (m.top 1).2 S2 = some (0, S4) := by
      have hv1 := wf_1 w1 g2
      unfold ja_X13_reckon_b36 ja_X13_reckon_b65
      by_cases e8 : x.1 = 8
      · rw [if_pos (by omega)]
        exact b174 _ (by unfold mCl; rw [if_pos e8])
      rw [if_neg (by omega)]
      by_cases e9 : x.1 = 9
      · rw [if_pos (by omega)]
        exact b174 _ (by unfold mCl; rw [if_neg e8, if_pos e9])
      rw [if_neg (by omega)]
      by_cases e10 : x.1 = 10
      · rw [if_pos (by omega)]
        exact b174 _ (by unfold mCl; rw [if_neg e8, if_neg e9, if_pos e10])
      rw [if_neg (by omega)]
      by_cases e11 : x.1 = 11
      · rw [if_pos (by omega), if_pos (fun q => cz ⟨Or.inl e11, q⟩)]
        refine b174 _ ?_
        unfold mCl
        rw [if_neg e8, if_neg e9, if_neg e10, if_pos e11]
        by_cases cm : (m.top 0).2 = -1
        · rw [if_pos cm, cm, idiv_m1 hv1]
        · rw [if_neg cm]
      rw [if_neg (by omega)]
      by_cases e12 : x.1 = 12
      · rw [if_pos (by omega), if_pos (fun q => cz ⟨Or.inr e12, q⟩)]
        refine b174 _ ?_
        unfold mCl
        rw [if_neg e8, if_neg e9, if_neg e10, if_neg e11, if_pos e12]
        by_cases cm : (m.top 0).2 = -1
        · rw [if_pos cm, cm, irem_m1]
        · rw [if_neg cm]
      rw [if_neg (by omega)]
      by_cases e13 : x.1 = 13
      · rw [if_pos (by omega)]
        exact b174 _ (by unfold mCl; rw [if_neg e8, if_neg e9, if_neg e10, if_neg e11, if_neg e12, if_pos e13])
      rw [if_neg (by omega)]
      by_cases e14 : x.1 = 14
      · rw [if_pos (by omega)]
        exact b174 _ (by unfold mCl; rw [if_neg e8, if_neg e9, if_neg e10, if_neg e11, if_neg e12, if_neg e13, if_pos e14])
      rw [if_neg (by omega)]
      by_cases e15 : x.1 = 15
      · rw [if_pos (by omega)]
        exact b174 _ (by unfold mCl; rw [if_neg e8, if_neg e9, if_neg e10, if_neg e11, if_neg e12, if_neg e13, if_neg e14, if_pos e15])
      rw [if_neg (by omega)]
      by_cases e16 : x.1 = 16
      · rw [if_pos (by omega)]
        exact b174 _ (by unfold mCl; rw [if_neg e8, if_neg e9, if_neg e10, if_neg e11, if_neg e12, if_neg e13, if_neg e14, if_neg e15, if_pos e16])
      rw [if_neg (by omega)]
      exact b174 _ (by unfold mCl; rw [if_neg e8, if_neg e9, if_neg e10, if_neg e11, if_neg e12, if_neg e13, if_neg e14, if_neg e15, if_neg e16])
    have b25 : (x.1 = 11 ∨ x.1 = 12) → ja_X13_reckon_b25 121 (x.1 : Int) (m.pc m.d : Int) (m.top 0).2 (m.top 1).2 S2 = some (0, S4) := fun q => by
      unfold ja_X13_reckon_b25
      rw [if_neg (fun z => cz ⟨q, z⟩)]
      exact b36
    rw [hs2]
    refine bd_0 ?_
    rw [hrk]
    by_cases e11 : x.1 = 11
    · rw [if_pos (by omega)]; exact b25 (Or.inl e11)
    · rw [if_neg (by omega)]
      by_cases e12 : x.1 = 12
      · rw [if_pos (by omega)]; exact b25 (Or.inr e12)
      · rw [if_neg (by omega)]; exact b36
/-- the reference branches -/
theorem r_bran (hwf : pWf tx p) (hk : pKX p Q) (h : rXx S P p A σ) (hm : mOk p m) (ht : mTop p m x t) (hM : rMm p S m) (ho : 20 ≤ x.1 ∧ x.1 ≤ 29) : rsO p A σ inp m (m.pc m.d) x S := by
  obtain ⟨b1, b3, b4, b5, b8⟩ := r_at hk hm ht
  have hst := r_488 hwf hk h ht.1 b4 (by omega)
  have erA : rA x = x.2.1 := by unfold rA; rw [if_neg (by omega), if_neg (by omega)]
  rw [erA] at hst
  have htk := (tk_tabs x.1 b5).2 ho
  obtain ⟨g, hg⟩ : ∃ g : Nat, x.2.1 = (g : Int) := by
    obtain ⟨⟨xb, e, hp⟩, -, -⟩ := m_at hk ht
    obtain ⟨-, -, -, pj, -⟩ := id hp
    obtain ⟨g, g1, -⟩ := pj (by omega)
    exact ⟨g, g1⟩
  have hs2 : ja_X13_step 121 (m.pc m.d : Int) S = nk_bd (ja_X13_branch 121 (x.1 : Int) x.2.1 S) fun r1 S2 => some (0, S2) := by
    rw [hst]
    unfold ja_X13_step_b488 ja_X13_step_b509
    rw [if_neg (by omega), if_pos (by omega), if_neg (by omega), if_neg (by omega)]
  have fin : ∀ (T : nk_S) (w : Bool), rxF S T → rMm p T (m.drp (tkT x.1)) → ∃ S', ja_X13_branch_b191 121 x.2.1 (bi w) T = some (0, S') ∧ rxF S S' ∧ rMm p S' ((m.drp (tkT x.1)).go (if w = true then x.2.1.toNat else m.pc m.d + 1)) := by
    intro T w hF hT
    unfold ja_X13_branch_b191
    cases w with
    | false =>
      rw [if_pos (show bi false = 0 from rfl), if_neg (by decide)]
      obtain ⟨S', f1, f2, f3⟩ := r_next hT (show m.pc m.d < 100000 by omega)
      exact ⟨S', by rw [f1, bd_some], rxF_trans hF f2, f3⟩
    | true =>
      have ed := r_dw hT.1.1
      obtain ⟨d1, d2⟩ := r_pc hT g
      have ed : ∀ _ : Unit, nk_w (T.1 121 52 - 1) = (m.d : Int) := ed
      rw [if_neg (show ¬ bi true = 0 by decide), if_pos rfl, ed (), if_pos (in_i (N := 64) (by omega)), jc_rm.2.2.2.1, Int.toNat_natCast, lt_eq, hg, Int.toNat_natCast]
      exact ⟨_, rfl, rxF_trans hF d1, d2⟩
  refine rp_go (m' := (m.drp (tkT x.1)).go (if mWy x.1 (m.top 1) (m.top 0) = true then x.2.1.toNat else m.pc m.d + 1)) (ef_29 ho) ?_
  by_cases c26 : x.1 = 26 ∨ x.1 = 27
  · obtain ⟨k1, k2⟩ := (kd_top hk ht).2.2.1 (by omega)
    have htk1 : tkT x.1 = 1 := by rw [htk.1, if_pos c26]
    obtain ⟨T, a1, a2, a3⟩ := r_pop hM (by omega)
    obtain ⟨S', f1, f2, f3⟩ := fin T (mWy x.1 (m.top 1) (m.top 0)) a2 (by rw [htk1]; exact a3)
    refine ⟨S', ?_, f2, f3⟩
    rw [hs2]
    refine bd_0 ?_
    have h17 : ja_X13_branch_b17 121 (x.1 : Int) x.2.1 (rV (m.top 0)) T = some (0, S') := by
      rw [← f1]
      unfold ja_X13_branch_b17 ja_X13_branch_b30 ja_X13_branch_b41 ja_X13_branch_b49
      have hw : mWy x.1 (m.top 1) (m.top 0) = if x.1 = 26 then decide ((m.top 0).2 = 0) else decide ((m.top 0).2 ≠ 0) := by
        unfold mWy
        rw [if_neg (by omega), if_neg (by omega), if_neg (by omega), if_neg (by omega), if_neg (by omega), if_neg (by omega)]
      rw [hw]
      by_cases cz : (m.top 0).2 = 0
      · rw [if_pos ((rV_n k1).mpr cz)]
        rcases c26 with q | q
        · rw [if_pos (by omega), if_pos rfl, if_pos q, decide_eq_true cz]; rfl
        · rw [if_neg (by omega), if_neg (by decide), if_neg (by omega), decide_eq_false (fun z => z cz)]; rfl
      · rw [if_neg (fun z => cz ((rV_n k1).mp z))]
        rcases c26 with q | q
        · rw [if_pos (by omega), if_neg (by decide), if_pos q, decide_eq_false cz]; rfl
        · rw [if_neg (by omega), if_pos rfl, if_neg (by omega), decide_eq_true cz]; rfl
    unfold ja_X13_branch
    rw [a1, bd_some]
    rcases c26 with q | q
    · rw [if_pos (by omega), h17]
    · rw [if_neg (by omega), if_pos (by omega), h17]
  · have htk2 : tkT x.1 = 2 := by rw [htk.1, if_neg c26]
    have kk : ∃ q : Nat, (q = 1 ∨ q = 2) ∧ (m.top 0).1 = q ∧ (m.top 1).1 = q ∧ 2 ≤ m.hs m.d ∧ (q = 2 → x.1 = 28 ∨ x.1 = 29) := by
      by_cases c28 : x.1 = 28 ∨ x.1 = 29
      · obtain ⟨k1, k2, k3⟩ := (kd_top hk ht).2.2.2.1 c28
        exact ⟨2, Or.inr rfl, k1, k2, k3, fun _ => c28⟩
      · obtain ⟨k1, k2, k3⟩ := (kd_top hk ht).1 (Or.inr (by omega))
        exact ⟨1, Or.inl rfl, k1, k2, k3, fun z => by cases z⟩
    obtain ⟨q, q0, q1, q2, q3, q4⟩ := kk
    obtain ⟨T0, T, a1, a2, a3, a4⟩ := r_pop2 hM q3
    obtain ⟨S', f1, f2, f3⟩ := fin T (mWy x.1 (m.top 1) (m.top 0)) a3 (by rw [htk2]; exact a4)
    refine ⟨S', ?_, f2, f3⟩
    rw [hs2]
    refine bd_0 ?_
    have hrel : (rV (m.top 1) = rV (m.top 0) ↔ (m.top 1).2 = (m.top 0).2) ∧ (rV (m.top 0) ≤ rV (m.top 1) ↔ (m.top 0).2 ≤ (m.top 1).2) ∧ (rV (m.top 0) < rV (m.top 1) ↔ (m.top 0).2 < (m.top 1).2) ∧ (rV (m.top 1) ≤ rV (m.top 0) ↔ (m.top 1).2 ≤ (m.top 0).2) ∧ (rV (m.top 1) < rV (m.top 0) ↔ (m.top 1).2 < (m.top 0).2) := by
      rcases q0 with z | z
      · rw [rV_i (q1.trans z), rV_i (q2.trans z)]; exact ⟨Iff.rfl, Iff.rfl, Iff.rfl, Iff.rfl, Iff.rfl⟩
      · rw [rV_r (q1.trans z), rV_r (q2.trans z)]; omega
    obtain ⟨r1, r2, r3, r4, r5⟩ := hrel
    unfold ja_X13_branch
    rw [a1, bd_some, if_neg (by omega), if_neg (by omega), a2, bd_some, ← f1]
    unfold ja_X13_branch_b72 ja_X13_branch_b99 ja_X13_branch_b189
    by_cases c20 : x.1 = 20 ∨ x.1 = 28
    · have hw : mWy x.1 (m.top 1) (m.top 0) = decide ((m.top 1).2 = (m.top 0).2) := by unfold mWy; rw [if_pos c20]
      rw [hw]
      by_cases cc : (m.top 1).2 = (m.top 0).2
      · rw [if_pos (r1.mpr cc), decide_eq_true cc]
        rcases c20 with z | z
        · rw [if_pos (by omega)]; rfl
        · rw [if_neg (by omega), if_pos (by omega)]; rfl
      · rw [if_neg (fun z => cc (r1.mp z)), decide_eq_false cc]
        rcases c20 with z | z
        · rw [if_pos (by omega)]; rfl
        · rw [if_neg (by omega), if_pos (by omega)]; rfl
    rw [if_neg (by omega), if_neg (by omega)]
    by_cases c21 : x.1 = 21 ∨ x.1 = 29
    · have hw : mWy x.1 (m.top 1) (m.top 0) = decide ((m.top 1).2 ≠ (m.top 0).2) := by unfold mWy; rw [if_neg c20, if_pos c21]
      rw [hw]
      by_cases cc : (m.top 1).2 = (m.top 0).2
      · rw [if_pos (r1.mpr cc), decide_eq_false (fun z => z cc)]
        rcases c21 with z | z
        · rw [if_pos (by omega)]; rfl
        · rw [if_neg (by omega), if_pos (by omega)]; rfl
      · rw [if_neg (fun z => cc (r1.mp z)), decide_eq_true cc]
        rcases c21 with z | z
        · rw [if_pos (by omega)]; rfl
        · rw [if_neg (by omega), if_pos (by omega)]; rfl
    rw [if_neg (by omega), if_neg (by omega)]
    by_cases c22 : x.1 = 22
    · have hw : mWy x.1 (m.top 1) (m.top 0) = decide ((m.top 1).2 < (m.top 0).2) := by unfold mWy; rw [if_neg c20, if_neg c21, if_pos c22]
      rw [hw, if_pos (by omega)]
      by_cases cc : (m.top 1).2 < (m.top 0).2
      · rw [if_neg (fun z => by have := r2.mp z; omega), decide_eq_true cc]; rfl
      · rw [if_pos (r2.mpr (by omega)), decide_eq_false cc]; rfl
    rw [if_neg (by omega)]
    by_cases c23 : x.1 = 23
    · have hw : mWy x.1 (m.top 1) (m.top 0) = decide ((m.top 1).2 ≤ (m.top 0).2) := by unfold mWy; rw [if_neg c20, if_neg c21, if_neg c22, if_pos c23]
      rw [hw, if_pos (by omega)]
      by_cases cc : (m.top 1).2 ≤ (m.top 0).2
      · rw [if_neg (fun z => by have := r3.mp z; omega), decide_eq_true cc]; rfl
      · rw [if_pos (r3.mpr (by omega)), decide_eq_false cc]; rfl
    rw [if_neg (by omega)]
    by_cases c24 : x.1 = 24
    · have hw : mWy x.1 (m.top 1) (m.top 0) = decide ((m.top 0).2 < (m.top 1).2) := by unfold mWy; rw [if_neg c20, if_neg c21, if_neg c22, if_neg c23, if_pos c24]
      rw [hw, if_pos (by omega)]
      by_cases cc : (m.top 0).2 < (m.top 1).2
      · rw [if_neg (fun z => by have := r4.mp z; omega), decide_eq_true cc]; rfl
      · rw [if_pos (r4.mpr (by omega)), decide_eq_false cc]; rfl
    rw [if_neg (by omega)]
    have hw : mWy x.1 (m.top 1) (m.top 0) = decide ((m.top 0).2 ≤ (m.top 1).2) := by unfold mWy; rw [if_neg c20, if_neg c21, if_neg c22, if_neg c23, if_neg c24, if_pos (by omega)]
    rw [hw]
    by_cases cc : (m.top 0).2 ≤ (m.top 1).2
    · rw [if_neg (fun z => by have := r5.mp z; omega), decide_eq_true cc]; rfl
    · rw [if_pos (r5.mpr (by omega)), decide_eq_false cc]; rfl
end RCA
