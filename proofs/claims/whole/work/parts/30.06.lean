/-! SafeCode$States bring (III)V -/
noncomputable def ja_X7_bring (l0 : Nat) (l1 : Int) (l2 : Int) (l3 : Int) (S : nk_S) : Option (Int × nk_S) :=
  nk_lt (nk_wi S l0 6 l2) fun S1 =>
  nk_lt (nk_wi S1 l0 7 l3) fun S3 =>
  nk_lt (nk_w (l1 * 20)) fun v5 =>
  if 0 ≤ v5 ∧ 0 ≤ (0 : Int) ∧ 0 ≤ (S3.1 l0 6) ∧ v5 + (S3.1 l0 6) ≤ 20480 ∧ (0 : Int) + (S3.1 l0 6) ≤ 20 then
  nk_lt (nk_cp S3 (ja_c l0 0) v5.toNat (ja_c l0 4) 0 (S3.1 l0 6).toNat) fun S10 =>
  if 0 ≤ v5 ∧ 0 ≤ (0 : Int) ∧ 0 ≤ (S10.1 l0 6) ∧ v5 + (S10.1 l0 6) ≤ 20480 ∧ (0 : Int) + (S10.1 l0 6) ≤ 20 then
  nk_lt (nk_cp S10 (ja_c l0 1) v5.toNat (ja_c l0 5) 0 (S10.1 l0 6).toNat) fun S15 =>
  if 0 ≤ (nk_w (v5 + 12)) ∧ 0 ≤ (12 : Int) ∧ 0 ≤ (S15.1 l0 7) ∧ (nk_w (v5 + 12)) + (S15.1 l0 7) ≤ 20480 ∧ (12 : Int) + (S15.1 l0 7) ≤ 20 then
  nk_lt (nk_cp S15 (ja_c l0 0) (nk_w (v5 + 12)).toNat (ja_c l0 4) 12 (S15.1 l0 7).toNat) fun S18 =>
  if 0 ≤ (nk_w (v5 + 12)) ∧ 0 ≤ (12 : Int) ∧ 0 ≤ (S18.1 l0 7) ∧ (nk_w (v5 + 12)) + (S18.1 l0 7) ≤ 20480 ∧ (12 : Int) + (S18.1 l0 7) ≤ 20 then
  nk_lt (nk_cp S18 (ja_c l0 1) (nk_w (v5 + 12)).toNat (ja_c l0 5) 12 (S18.1 l0 7).toNat) fun S21 =>
  some (0, S21)
  else none
  else none
  else none
  else none
theorem ja_X7_bring_ok (zs : List Int32) : ∀ (l0 : Nat) (l1 : Int) (l2 : Int) (l3 : Int) (S : nk_S) (R : Int × nk_S), nk_cl ja_Tt l0 = some 7 → ja_X7_bring l0 l1 l2 l3 S = some R → nk_K ja_Tt mi_Γ (mi_ev zs) 0 397 0 [(0, nk_r l0), (1, nk_i l1), (2, nk_i l2), (3, nk_i l3)] [] S R := by
  intro l0 l1 l2 l3 S R t_l0 hr
  unfold ja_X7_bring at hr
  refine nk_p (i := .aload_n 0) (len := 1) (pc' := 1) mJ_397 (by decide +kernel) (ns_aload_n 0 rfl rfl) rfl ?_
  refine nk_p (i := .iload_n 2) (len := 1) (pc' := 2) mJ_397 (by decide +kernel) (ns_iload_n 2 rfl rfl) rfl ?_
  obtain ⟨S1, h2, hr⟩ := nk_lte hr
  refine nk_putI (y := (0, 0)) (ty := .int) (x := 51) (len := 3) (ci := 7) (k := 6) (pc' := 5) ja_okT mJ_397 (by decide +kernel) (by decide +kernel) (by decide +kernel) t_l0 (Or.inl rfl) rfl h2 ?_
  refine nk_p (i := .aload_n 0) (len := 1) (pc' := 6) mJ_397 (by decide +kernel) (ns_aload_n 0 rfl rfl) rfl ?_
  refine nk_p (i := .iload_n 3) (len := 1) (pc' := 7) mJ_397 (by decide +kernel) (ns_iload_n 3 rfl rfl) rfl ?_
  obtain ⟨S3, h4, hr⟩ := nk_lte hr
  refine nk_putI (y := (0, 0)) (ty := .int) (x := 55) (len := 3) (ci := 7) (k := 7) (pc' := 10) ja_okT mJ_397 (by decide +kernel) (by decide +kernel) (by decide +kernel) t_l0 (Or.inl rfl) rfl h4 ?_
  refine nk_p (i := .iload_n 1) (len := 1) (pc' := 11) mJ_397 (by decide +kernel) (ns_iload_n 1 rfl rfl) rfl ?_
  refine nk_p (i := .bipush 20) (len := 2) (pc' := 13) mJ_397 (by decide +kernel) (ns_bipush (c := 20) (by decide +kernel)) rfl ?_
  refine nk_p (i := .imul) (len := 1) (pc' := 14) mJ_397 (by decide +kernel) ns_imul rfl ?_
  obtain ⟨v5, h6, hr⟩ := nk_lte hr
  refine nk_p (i := .istore 4) (len := 2) (pc' := 16) mJ_397 (by decide +kernel) (ns_istore (L' := [(4, nk_i v5), (0, nk_r l0), (1, nk_i l1), (2, nk_i l2), (3, nk_i l3)]) h6 rfl (by decide +kernel)) rfl ?_
  refine nk_p (i := .aload_n 0) (len := 1) (pc' := 17) mJ_397 (by decide +kernel) (ns_aload_n 1 rfl rfl) rfl ?_
  refine nk_getC (f := (4, 2, 20480)) (x := 9) (len := 3) (ci := 7) (k := 0) (pc' := 20) ja_okT mJ_397 (by decide +kernel) (by decide +kernel) (by decide +kernel) (by decide) t_l0 rfl ?_
  have t7 : nk_ar ja_Tt (ja_c l0 0) = some (2, 20480) := nk_ta ja_okT t_l0 (by decide +kernel)
  refine nk_p (i := .iload 4) (len := 2) (pc' := 22) mJ_397 (by decide +kernel) (ns_iload 0 rfl) rfl ?_
  refine nk_p (i := .aload_n 0) (len := 1) (pc' := 23) mJ_397 (by decide +kernel) (ns_aload_n 1 rfl rfl) rfl ?_
  refine nk_getC (f := (4, 2, 20)) (x := 25) (len := 3) (ci := 7) (k := 4) (pc' := 26) ja_okT mJ_397 (by decide +kernel) (by decide +kernel) (by decide +kernel) (by decide) t_l0 rfl ?_
  have t8 : nk_ar ja_Tt (ja_c l0 4) = some (2, 20) := nk_ta ja_okT t_l0 (by decide +kernel)
  refine nk_p (i := .iconst 0) (len := 1) (pc' := 27) mJ_397 (by decide +kernel) (ns_iconst (c := 0) (by decide +kernel)) rfl ?_
  refine nk_p (i := .aload_n 0) (len := 1) (pc' := 28) mJ_397 (by decide +kernel) (ns_aload_n 1 rfl rfl) rfl ?_
  refine nk_getI (y := (0, 0)) (x := 51) (len := 3) (ci := 7) (k := 6) (pc' := 31) ja_okT mJ_397 (by decide +kernel) (by decide +kernel) (by decide +kernel) t_l0 rfl ?_
  obtain ⟨h9, hr⟩ := nk_cke hr
  obtain ⟨S10, h11, hr⟩ := nk_lte hr
  refine nk_copy (x := 58) (len := 3) (t := 2) (N0 := 20480) (N1 := 20) (q1 := 9999) (q2 := 0) (q3 := 0) (pc' := 34) mJ_397 (by decide +kernel) (by decide +kernel) t7 t8 h9.1 h9.2.1 h9.2.2.1 h9.2.2.2.1 h9.2.2.2.2 rfl rfl (Nat.le_of_ble_eq_true rfl) rfl h11 ?_
  refine nk_p (i := .aload_n 0) (len := 1) (pc' := 35) mJ_397 (by decide +kernel) (ns_aload_n 1 rfl rfl) rfl ?_
  refine nk_getC (f := (4, 2, 20480)) (x := 15) (len := 3) (ci := 7) (k := 1) (pc' := 38) ja_okT mJ_397 (by decide +kernel) (by decide +kernel) (by decide +kernel) (by decide) t_l0 rfl ?_
  have t12 : nk_ar ja_Tt (ja_c l0 1) = some (2, 20480) := nk_ta ja_okT t_l0 (by decide +kernel)
  refine nk_p (i := .iload 4) (len := 2) (pc' := 40) mJ_397 (by decide +kernel) (ns_iload 0 rfl) rfl ?_
  refine nk_p (i := .aload_n 0) (len := 1) (pc' := 41) mJ_397 (by decide +kernel) (ns_aload_n 1 rfl rfl) rfl ?_
  refine nk_getC (f := (4, 2, 20)) (x := 28) (len := 3) (ci := 7) (k := 5) (pc' := 44) ja_okT mJ_397 (by decide +kernel) (by decide +kernel) (by decide +kernel) (by decide) t_l0 rfl ?_
  have t13 : nk_ar ja_Tt (ja_c l0 5) = some (2, 20) := nk_ta ja_okT t_l0 (by decide +kernel)
  refine nk_p (i := .iconst 0) (len := 1) (pc' := 45) mJ_397 (by decide +kernel) (ns_iconst (c := 0) (by decide +kernel)) rfl ?_
  refine nk_p (i := .aload_n 0) (len := 1) (pc' := 46) mJ_397 (by decide +kernel) (ns_aload_n 1 rfl rfl) rfl ?_
  refine nk_getI (y := (0, 0)) (x := 51) (len := 3) (ci := 7) (k := 6) (pc' := 49) ja_okT mJ_397 (by decide +kernel) (by decide +kernel) (by decide +kernel) t_l0 rfl ?_
  obtain ⟨h14, hr⟩ := nk_cke hr
  obtain ⟨S15, h16, hr⟩ := nk_lte hr
  refine nk_copy (x := 58) (len := 3) (t := 2) (N0 := 20480) (N1 := 20) (q1 := 9999) (q2 := 0) (q3 := 0) (pc' := 52) mJ_397 (by decide +kernel) (by decide +kernel) t12 t13 h14.1 h14.2.1 h14.2.2.1 h14.2.2.2.1 h14.2.2.2.2 rfl rfl (Nat.le_of_ble_eq_true rfl) rfl h16 ?_
  refine nk_p (i := .aload_n 0) (len := 1) (pc' := 53) mJ_397 (by decide +kernel) (ns_aload_n 1 rfl rfl) rfl ?_
  refine nk_getC (f := (4, 2, 20480)) (x := 9) (len := 3) (ci := 7) (k := 0) (pc' := 56) ja_okT mJ_397 (by decide +kernel) (by decide +kernel) (by decide +kernel) (by decide) t_l0 rfl ?_
  refine nk_p (i := .iload 4) (len := 2) (pc' := 58) mJ_397 (by decide +kernel) (ns_iload 0 rfl) rfl ?_
  refine nk_p (i := .bipush 12) (len := 2) (pc' := 60) mJ_397 (by decide +kernel) (ns_bipush (c := 12) (by decide +kernel)) rfl ?_
  refine nk_p (i := .iadd) (len := 1) (pc' := 61) mJ_397 (by decide +kernel) ns_iadd rfl ?_
  refine nk_p (i := .aload_n 0) (len := 1) (pc' := 62) mJ_397 (by decide +kernel) (ns_aload_n 1 rfl rfl) rfl ?_
  refine nk_getC (f := (4, 2, 20)) (x := 25) (len := 3) (ci := 7) (k := 4) (pc' := 65) ja_okT mJ_397 (by decide +kernel) (by decide +kernel) (by decide +kernel) (by decide) t_l0 rfl ?_
  refine nk_p (i := .bipush 12) (len := 2) (pc' := 67) mJ_397 (by decide +kernel) (ns_bipush (c := 12) (by decide +kernel)) rfl ?_
  refine nk_p (i := .aload_n 0) (len := 1) (pc' := 68) mJ_397 (by decide +kernel) (ns_aload_n 1 rfl rfl) rfl ?_
  refine nk_getI (y := (0, 0)) (x := 55) (len := 3) (ci := 7) (k := 7) (pc' := 71) ja_okT mJ_397 (by decide +kernel) (by decide +kernel) (by decide +kernel) t_l0 rfl ?_
  obtain ⟨h17, hr⟩ := nk_cke hr
  obtain ⟨S18, h19, hr⟩ := nk_lte hr
  refine nk_copy (x := 58) (len := 3) (t := 2) (N0 := 20480) (N1 := 20) (q1 := 9999) (q2 := 0) (q3 := 0) (pc' := 74) mJ_397 (by decide +kernel) (by decide +kernel) t7 t8 h17.1 h17.2.1 h17.2.2.1 h17.2.2.2.1 h17.2.2.2.2 rfl rfl (Nat.le_of_ble_eq_true rfl) rfl h19 ?_
  refine nk_p (i := .aload_n 0) (len := 1) (pc' := 75) mJ_397 (by decide +kernel) (ns_aload_n 1 rfl rfl) rfl ?_
  refine nk_getC (f := (4, 2, 20480)) (x := 15) (len := 3) (ci := 7) (k := 1) (pc' := 78) ja_okT mJ_397 (by decide +kernel) (by decide +kernel) (by decide +kernel) (by decide) t_l0 rfl ?_
  refine nk_p (i := .iload 4) (len := 2) (pc' := 80) mJ_397 (by decide +kernel) (ns_iload 0 rfl) rfl ?_
  refine nk_p (i := .bipush 12) (len := 2) (pc' := 82) mJ_397 (by decide +kernel) (ns_bipush (c := 12) (by decide +kernel)) rfl ?_
  refine nk_p (i := .iadd) (len := 1) (pc' := 83) mJ_397 (by decide +kernel) ns_iadd rfl ?_
  refine nk_p (i := .aload_n 0) (len := 1) (pc' := 84) mJ_397 (by decide +kernel) (ns_aload_n 1 rfl rfl) rfl ?_
  refine nk_getC (f := (4, 2, 20)) (x := 28) (len := 3) (ci := 7) (k := 5) (pc' := 87) ja_okT mJ_397 (by decide +kernel) (by decide +kernel) (by decide +kernel) (by decide) t_l0 rfl ?_
  refine nk_p (i := .bipush 12) (len := 2) (pc' := 89) mJ_397 (by decide +kernel) (ns_bipush (c := 12) (by decide +kernel)) rfl ?_
  refine nk_p (i := .aload_n 0) (len := 1) (pc' := 90) mJ_397 (by decide +kernel) (ns_aload_n 1 rfl rfl) rfl ?_
  refine nk_getI (y := (0, 0)) (x := 55) (len := 3) (ci := 7) (k := 7) (pc' := 93) ja_okT mJ_397 (by decide +kernel) (by decide +kernel) (by decide +kernel) t_l0 rfl ?_
  obtain ⟨h20, hr⟩ := nk_cke hr
  obtain ⟨S21, h22, hr⟩ := nk_lte hr
  refine nk_copy (x := 58) (len := 3) (t := 2) (N0 := 20480) (N1 := 20) (q1 := 9999) (q2 := 0) (q3 := 0) (pc' := 96) mJ_397 (by decide +kernel) (by decide +kernel) t12 t13 h20.1 h20.2.1 h20.2.2.1 h20.2.2.2.1 h20.2.2.2.2 rfl rfl (Nat.le_of_ble_eq_true rfl) rfl h22 ?_
  cases hr
  exact nk_vret (len := 1) mJ_397 (by decide +kernel) rfl
/-! SafeCode$Proof bring (I)V -/
noncomputable def ja_X4_bring (l0 : Nat) (l1 : Int) (S : nk_S) : Option (Int × nk_S) :=
  if 0 ≤ l1 ∧ l1 < 1024 then
  if 0 ≤ (S.1 (ja_c (S.2 l0 0) 8) l1.toNat) ∧ (S.1 (ja_c (S.2 l0 0) 8) l1.toNat) < 48 then
  nk_bd (ja_X7_bring (ja_c l0 2) l1 (S.1 (ja_c (ja_c (S.2 l0 0) 1) 8) (S.1 (ja_c (S.2 l0 0) 8) l1.toNat).toNat) (S.1 (ja_c (S.2 l0 0) 9) l1.toNat) S) fun r11 S12 =>
  some (0, S12)
  else none
  else none
theorem ja_X4_bring_ok (zs : List Int32) : ∀ (l0 : Nat) (l1 : Int) (S : nk_S) (R : Int × nk_S), nk_cl ja_Tt l0 = some 4 → ja_X4_bring l0 l1 S = some R → nk_K ja_Tt mi_Γ (mi_ev zs) 0 311 0 [(0, nk_r l0), (1, nk_i l1)] [] S R := by
  intro l0 l1 S R t_l0 hr
  unfold ja_X4_bring at hr
  refine nk_p (i := .aload_n 0) (len := 1) (pc' := 1) mJ_311 (by decide +kernel) (ns_aload_n 0 rfl rfl) rfl ?_
  refine nk_getC (f := (2, 7, 0)) (x := 12) (len := 3) (ci := 4) (k := 2) (pc' := 4) ja_okT mJ_311 (by decide +kernel) (by decide +kernel) (by decide +kernel) (by decide) t_l0 rfl ?_
  have t1 : nk_cl ja_Tt (ja_c l0 2) = some 7 := nk_tc (y := 0) ja_okT t_l0 (by decide +kernel)
  refine nk_p (i := .iload_n 1) (len := 1) (pc' := 5) mJ_311 (by decide +kernel) (ns_iload_n 1 rfl rfl) rfl ?_
  refine nk_p (i := .aload_n 0) (len := 1) (pc' := 6) mJ_311 (by decide +kernel) (ns_aload_n 0 rfl rfl) rfl ?_
  refine nk_getM (cj := 3) (z := 0) (x := 42) (len := 3) (ci := 4) (k := 0) (pc' := 9) ja_okT mJ_311 (by decide +kernel) (by decide +kernel) (by decide +kernel) t_l0 rfl (fun t2 => ?_)
  refine nk_getC (f := (2, 0, 0)) (x := 71) (len := 3) (ci := 3) (k := 1) (pc' := 12) ja_okT mJ_311 (by decide +kernel) (by decide +kernel) (by decide +kernel) (by decide) t2 rfl ?_
  have t3 : nk_cl ja_Tt (ja_c (S.2 l0 0) 1) = some 0 := nk_tc (y := 0) ja_okT t2 (by decide +kernel)
  refine nk_getC (f := (4, 1, 48)) (x := 84) (len := 3) (ci := 0) (k := 8) (pc' := 15) ja_okT mJ_311 (by decide +kernel) (by decide +kernel) (by decide +kernel) (by decide) t3 rfl ?_
  have t4 : nk_ar ja_Tt (ja_c (ja_c (S.2 l0 0) 1) 8) = some (1, 48) := nk_ta ja_okT t3 (by decide +kernel)
  refine nk_p (i := .aload_n 0) (len := 1) (pc' := 16) mJ_311 (by decide +kernel) (ns_aload_n 0 rfl rfl) rfl ?_
  refine nk_getM (cj := 3) (z := 0) (x := 42) (len := 3) (ci := 4) (k := 0) (pc' := 19) ja_okT mJ_311 (by decide +kernel) (by decide +kernel) (by decide +kernel) t_l0 rfl (fun t5 => ?_)
  refine nk_getC (f := (4, 1, 1024)) (x := 176) (len := 3) (ci := 3) (k := 8) (pc' := 22) ja_okT mJ_311 (by decide +kernel) (by decide +kernel) (by decide +kernel) (by decide) t5 rfl ?_
  have t6 : nk_ar ja_Tt (ja_c (S.2 l0 0) 8) = some (1, 1024) := nk_ta ja_okT t5 (by decide +kernel)
  refine nk_p (i := .iload_n 1) (len := 1) (pc' := 23) mJ_311 (by decide +kernel) (ns_iload_n 1 rfl rfl) rfl ?_
  obtain ⟨h7, hr⟩ := nk_cke hr
  refine nk_iald (len := 1) (N := 1024) (pc' := 24) mJ_311 (by decide +kernel) t6 h7.1 h7.2 rfl rfl ?_
  obtain ⟨h8, hr⟩ := nk_cke hr
  refine nk_iald (len := 1) (N := 48) (pc' := 25) mJ_311 (by decide +kernel) t4 h8.1 h8.2 rfl rfl ?_
  refine nk_p (i := .aload_n 0) (len := 1) (pc' := 26) mJ_311 (by decide +kernel) (ns_aload_n 0 rfl rfl) rfl ?_
  refine nk_getM (cj := 3) (z := 0) (x := 42) (len := 3) (ci := 4) (k := 0) (pc' := 29) ja_okT mJ_311 (by decide +kernel) (by decide +kernel) (by decide +kernel) t_l0 rfl (fun t9 => ?_)
  refine nk_getC (f := (4, 1, 1024)) (x := 167) (len := 3) (ci := 3) (k := 9) (pc' := 32) ja_okT mJ_311 (by decide +kernel) (by decide +kernel) (by decide +kernel) (by decide) t9 rfl ?_
  have t10 : nk_ar ja_Tt (ja_c (S.2 l0 0) 9) = some (1, 1024) := nk_ta ja_okT t9 (by decide +kernel)
  refine nk_p (i := .iload_n 1) (len := 1) (pc' := 33) mJ_311 (by decide +kernel) (ns_iload_n 1 rfl rfl) rfl ?_
  refine nk_iald (len := 1) (N := 1024) (pc' := 34) mJ_311 (by decide +kernel) t10 h7.1 h7.2 rfl rfl ?_
  obtain ⟨r11, S12, h13, hr⟩ := nk_bde hr
  refine nk_callV (ci := 7) (n := 3) (x := 179) (len := 3) (j' := 397) (q' := 0) (r := r11) (S' := S12) (L2 := [(0, nk_r (ja_c l0 2)), (1, nk_i l1), (2, nk_i (S.1 (ja_c (ja_c (S.2 l0 0) 1) 8) (S.1 (ja_c (S.2 l0 0) 8) l1.toNat).toNat)), (3, nk_i (S.1 (ja_c (S.2 l0 0) 9) l1.toNat))]) (rest := []) (st' := []) (pc' := 37) mJ_311 (by decide +kernel) (by decide +kernel) rfl rfl t1 (Nat.le_of_ble_eq_true rfl) mJ_397 (Nat.le_of_ble_eq_true rfl) rfl (ja_X7_bring_ok zs _ _ _ _ _ _ t1 h13) rfl ?_
  cases hr
  exact nk_vret (len := 1) mJ_311 (by decide +kernel) rfl
/-! SafeCode$States fromTop (I)I -/
noncomputable def ja_X7_fromTop (l0 : Nat) (l1 : Int) (S : nk_S) : Option (Int × nk_S) :=
  some ((nk_w ((nk_w ((nk_w (12 + (S.1 l0 7))) - 1)) - l1)), S)
theorem ja_X7_fromTop_ok (zs : List Int32) : ∀ (l0 : Nat) (l1 : Int) (S : nk_S) (R : Int × nk_S), nk_cl ja_Tt l0 = some 7 → ja_X7_fromTop l0 l1 S = some R → nk_K ja_Tt mi_Γ (mi_ev zs) 1 403 0 [(0, nk_r l0), (1, nk_i l1)] [] S R := by
  intro l0 l1 S R t_l0 hr
  unfold ja_X7_fromTop at hr
  refine nk_p (i := .bipush 12) (len := 2) (pc' := 2) mJ_403 (by decide +kernel) (ns_bipush (c := 12) (by decide +kernel)) rfl ?_
  refine nk_p (i := .aload_n 0) (len := 1) (pc' := 3) mJ_403 (by decide +kernel) (ns_aload_n 0 rfl rfl) rfl ?_
  refine nk_getI (y := (0, 0)) (x := 55) (len := 3) (ci := 7) (k := 7) (pc' := 6) ja_okT mJ_403 (by decide +kernel) (by decide +kernel) (by decide +kernel) t_l0 rfl ?_
  refine nk_p (i := .iadd) (len := 1) (pc' := 7) mJ_403 (by decide +kernel) ns_iadd rfl ?_
  refine nk_p (i := .iconst 1) (len := 1) (pc' := 8) mJ_403 (by decide +kernel) (ns_iconst (c := 1) (by decide +kernel)) rfl ?_
  refine nk_p (i := .isub) (len := 1) (pc' := 9) mJ_403 (by decide +kernel) ns_isub rfl ?_
  refine nk_p (i := .iload_n 1) (len := 1) (pc' := 10) mJ_403 (by decide +kernel) (ns_iload_n 1 rfl rfl) rfl ?_
  refine nk_p (i := .isub) (len := 1) (pc' := 11) mJ_403 (by decide +kernel) ns_isub rfl ?_
  cases hr
  exact nk_iret (ty := .int) (len := 1) mJ_403 (by decide +kernel) rfl (nk_nar_i _)
/-! SafeCode$Ranges pack (II)J -/
noncomputable def ja_X5_pack (l0 : Int) (l1 : Int) (S : nk_S) : Option (Int × nk_S) :=
  some ((nk_lor (nk_lshl l0 32) (nk_land l1 4294967295)), S)
theorem ja_X5_pack_ok (zs : List Int32) : ∀ (l0 : Int) (l1 : Int) (S : nk_S) (R : Int × nk_S), ja_X5_pack l0 l1 S = some R → nk_K ja_Tt mi_Γ (mi_ev zs) 2 365 0 [(0, nk_i l0), (1, nk_i l1)] [] S R := by
  intro l0 l1 S R hr
  unfold ja_X5_pack at hr
  refine nk_p (i := .iload_n 0) (len := 1) (pc' := 1) mJ_365 (by decide +kernel) (ns_iload_n 0 rfl rfl) rfl ?_
  refine nk_p (i := .i2l) (len := 1) (pc' := 2) mJ_365 (by decide +kernel) ns_i2l rfl ?_
  refine nk_p (i := .bipush 32) (len := 2) (pc' := 4) mJ_365 (by decide +kernel) (ns_bipush (c := 32) (by decide +kernel)) rfl ?_
  refine nk_p (i := .lshl) (len := 1) (pc' := 5) mJ_365 (by decide +kernel) ns_lshl rfl ?_
  refine nk_p (i := .iload_n 1) (len := 1) (pc' := 6) mJ_365 (by decide +kernel) (ns_iload_n 1 rfl rfl) rfl ?_
  refine nk_p (i := .i2l) (len := 1) (pc' := 7) mJ_365 (by decide +kernel) ns_i2l rfl ?_
  refine nk_ldc2 (x := 17) (len := 3) (X := 4294967295) (v := 4294967295) (pc' := 10) mJ_365 (by decide +kernel) (by decide +kernel) (by decide +kernel) rfl ?_
  refine nk_p (i := .land) (len := 1) (pc' := 11) mJ_365 (by decide +kernel) ns_land rfl ?_
  refine nk_p (i := .lor) (len := 1) (pc' := 12) mJ_365 (by decide +kernel) ns_lor rfl ?_
  cases hr
  exact nk_lret (len := 1) mJ_365 (by decide +kernel) rfl
/-! SafeCode$Ranges common (JJ)J -/
noncomputable def ja_X5_common (l0 : Int) (l2 : Int) (S : nk_S) : Option (Int × nk_S) :=
  nk_bd (ja_X5_lowest l0 S) fun r1 S2 =>
  nk_bd (ja_X5_lowest l2 S2) fun r4 S5 =>
  nk_bd (ja_J9_max_7cf53 r1 r4 S5) fun r7 S8 =>
  nk_bd (ja_X5_highest l0 S8) fun r10 S11 =>
  nk_bd (ja_X5_highest l2 S11) fun r13 S14 =>
  nk_bd (ja_J9_min_7cf53 r10 r13 S14) fun r16 S17 =>
  if r7 ≤ r16 then
    nk_bd (ja_X5_pack r7 r16 S17) fun r19 S20 =>
    some (r19, S20)
  else
    some (9223372034707292160, S17)
theorem ja_X5_common_ok (zs : List Int32) : ∀ (l0 : Int) (l2 : Int) (S : nk_S) (R : Int × nk_S), ja_X5_common l0 l2 S = some R → nk_K ja_Tt mi_Γ (mi_ev zs) 2 352 0 [(0, nk_l l0), (2, nk_l l2)] [] S R := by
  intro l0 l2 S R hr
  unfold ja_X5_common at hr
  refine nk_p (i := .lload_n 0) (len := 1) (pc' := 1) mJ_352 (by decide +kernel) (ns_lload_n 0 rfl rfl) rfl ?_
  obtain ⟨r1, S2, h3, hr⟩ := nk_bde hr
  refine nk_callS (ci := 0) (n := 1) (x := 19) (len := 3) (j' := 363) (q' := 1) (r := r1) (S' := S2) (L2 := [(0, nk_l l0)]) (rest := []) (st' := [nk_i r1]) (pc' := 4) mJ_352 (by decide +kernel) (by decide +kernel) (Nat.le_of_ble_eq_true rfl) rfl rfl (Nat.le_of_ble_eq_true rfl) mJ_363 (Nat.le_of_ble_eq_true rfl) ja_Tpos rfl (ja_X5_lowest_ok zs _ _ _ h3) rfl ?_
  refine nk_p (i := .lload_n 2) (len := 1) (pc' := 5) mJ_352 (by decide +kernel) (ns_lload_n 1 rfl rfl) rfl ?_
  obtain ⟨r4, S5, h6, hr⟩ := nk_bde hr
  refine nk_callS (ci := 0) (n := 1) (x := 19) (len := 3) (j' := 363) (q' := 1) (r := r4) (S' := S5) (L2 := [(0, nk_l l2)]) (rest := [nk_i r1]) (st' := [nk_i r4, nk_i r1]) (pc' := 8) mJ_352 (by decide +kernel) (by decide +kernel) (Nat.le_of_ble_eq_true rfl) rfl rfl (Nat.le_of_ble_eq_true rfl) mJ_363 (Nat.le_of_ble_eq_true rfl) ja_Tpos rfl (ja_X5_lowest_ok zs _ _ _ h6) rfl ?_
  obtain ⟨r7, S8, h9, hr⟩ := nk_bde hr
  refine nk_callS (ci := 0) (n := 2) (x := 23) (len := 3) (j' := 16) (q' := 1) (r := r7) (S' := S8) (L2 := [(0, nk_i r1), (1, nk_i r4)]) (rest := []) (st' := [nk_i r7]) (pc' := 11) mJ_352 (by decide +kernel) (by decide +kernel) (Nat.le_of_ble_eq_true rfl) rfl rfl (Nat.le_of_ble_eq_true rfl) mJ_16 (Nat.le_of_ble_eq_true rfl) ja_Tpos rfl (ja_J9_max_7cf53_ok zs _ _ _ _ h9) rfl ?_
  refine nk_p (i := .istore 4) (len := 2) (pc' := 13) mJ_352 (by decide +kernel) (ns_istore (L' := [(4, nk_i r7), (0, nk_l l0), (2, nk_l l2)]) rfl rfl (by decide +kernel)) rfl ?_
  refine nk_p (i := .lload_n 0) (len := 1) (pc' := 14) mJ_352 (by decide +kernel) (ns_lload_n 1 rfl rfl) rfl ?_
  obtain ⟨r10, S11, h12, hr⟩ := nk_bde hr
  refine nk_callS (ci := 0) (n := 1) (x := 29) (len := 3) (j' := 356) (q' := 1) (r := r10) (S' := S11) (L2 := [(0, nk_l l0)]) (rest := []) (st' := [nk_i r10]) (pc' := 17) mJ_352 (by decide +kernel) (by decide +kernel) (Nat.le_of_ble_eq_true rfl) rfl rfl (Nat.le_of_ble_eq_true rfl) mJ_356 (Nat.le_of_ble_eq_true rfl) ja_Tpos rfl (ja_X5_highest_ok zs _ _ _ h12) rfl ?_
  refine nk_p (i := .lload_n 2) (len := 1) (pc' := 18) mJ_352 (by decide +kernel) (ns_lload_n 2 rfl rfl) rfl ?_
  obtain ⟨r13, S14, h15, hr⟩ := nk_bde hr
  refine nk_callS (ci := 0) (n := 1) (x := 29) (len := 3) (j' := 356) (q' := 1) (r := r13) (S' := S14) (L2 := [(0, nk_l l2)]) (rest := [nk_i r10]) (st' := [nk_i r13, nk_i r10]) (pc' := 21) mJ_352 (by decide +kernel) (by decide +kernel) (Nat.le_of_ble_eq_true rfl) rfl rfl (Nat.le_of_ble_eq_true rfl) mJ_356 (Nat.le_of_ble_eq_true rfl) ja_Tpos rfl (ja_X5_highest_ok zs _ _ _ h15) rfl ?_
  obtain ⟨r16, S17, h18, hr⟩ := nk_bde hr
  refine nk_callS (ci := 0) (n := 2) (x := 32) (len := 3) (j' := 18) (q' := 1) (r := r16) (S' := S17) (L2 := [(0, nk_i r10), (1, nk_i r13)]) (rest := []) (st' := [nk_i r16]) (pc' := 24) mJ_352 (by decide +kernel) (by decide +kernel) (Nat.le_of_ble_eq_true rfl) rfl rfl (Nat.le_of_ble_eq_true rfl) mJ_18 (Nat.le_of_ble_eq_true rfl) ja_Tpos rfl (ja_J9_min_7cf53_ok zs _ _ _ _ h18) rfl ?_
  refine nk_p (i := .istore 5) (len := 2) (pc' := 26) mJ_352 (by decide +kernel) (ns_istore (L' := [(5, nk_i r16), (4, nk_i r7), (0, nk_l l0), (2, nk_l l2)]) rfl rfl (by decide +kernel)) rfl ?_
  refine nk_p (i := .iload 4) (len := 2) (pc' := 28) mJ_352 (by decide +kernel) (ns_iload 1 rfl) rfl ?_
  refine nk_p (i := .iload 5) (len := 2) (pc' := 30) mJ_352 (by decide +kernel) (ns_iload 0 rfl) rfl ?_
  refine nk_icmp (c := .le) (off := 9) (len := 3) (t := 39) (pc' := 33) mJ_352 (by decide +kernel) (by decide +kernel) rfl (fun hc => ?_) (fun hc => ?_)
  · have hr := nk_ifp (c := r7 ≤ r16) hc hr
    refine nk_p (i := .iload 4) (len := 2) (pc' := 41) mJ_352 (by decide +kernel) (ns_iload 1 rfl) rfl ?_
    refine nk_p (i := .iload 5) (len := 2) (pc' := 43) mJ_352 (by decide +kernel) (ns_iload 0 rfl) rfl ?_
    obtain ⟨r19, S20, h21, hr⟩ := nk_bde hr
    refine nk_callS (ci := 0) (n := 2) (x := 37) (len := 3) (j' := 365) (q' := 2) (r := r19) (S' := S20) (L2 := [(0, nk_i r7), (1, nk_i r16)]) (rest := []) (st' := [nk_l r19]) (pc' := 46) mJ_352 (by decide +kernel) (by decide +kernel) (Nat.le_of_ble_eq_true rfl) rfl rfl (Nat.le_of_ble_eq_true rfl) mJ_365 (Nat.le_of_ble_eq_true rfl) ja_Tpos rfl (ja_X5_pack_ok zs _ _ _ _ h21) rfl ?_
    cases hr
    exact nk_lret (len := 1) mJ_352 (by decide +kernel) rfl
  · have hr := nk_ifn (c := r7 ≤ r16) hc hr
    refine nk_ldc2 (x := 35) (len := 3) (X := 9223372034707292160) (v := 9223372034707292160) (pc' := 36) mJ_352 (by decide +kernel) (by decide +kernel) (by decide +kernel) rfl ?_
    refine nk_p (i := .goto 10) (len := 3) (pc' := 46) mJ_352 (by decide +kernel) (ns_goto (by decide +kernel)) rfl ?_
    cases hr
    exact nk_lret (len := 1) mJ_352 (by decide +kernel) rfl
/-! SafeCode$Proof makeEqual (II)Z -/
noncomputable def ja_X4_makeEqual (l0 : Nat) (l1 : Int) (l2 : Int) (S : nk_S) : Option (Int × nk_S) :=
  if 0 ≤ l1 ∧ l1 < 20 then
  if 0 ≤ l2 ∧ l2 < 20 then
  nk_bd (ja_X5_common (S.1 (ja_c (ja_c l0 2) 4) l1.toNat) (S.1 (ja_c (ja_c l0 2) 4) l2.toNat) S) fun r5 S6 =>
  nk_lt (nk_land (nk_lor (S6.1 (ja_c (ja_c l0 2) 5) l1.toNat) (S6.1 (ja_c (ja_c l0 2) 5) l2.toNat)) 68719476735) fun v9 =>
  nk_lt (nk_wi S6 (ja_c (ja_c l0 2) 4) l1.toNat r5) fun S11 =>
  nk_lt (nk_wi S11 (ja_c (ja_c l0 2) 4) l2.toNat r5) fun S13 =>
  nk_lt (nk_wi S13 (ja_c (ja_c l0 2) 5) l1.toNat (nk_lor (S13.1 (ja_c (ja_c l0 2) 5) l1.toNat) v9)) fun S15 =>
  nk_lt (nk_wi S15 (ja_c (ja_c l0 2) 5) l2.toNat (nk_lor (S15.1 (ja_c (ja_c l0 2) 5) l2.toNat) v9)) fun S17 =>
  nk_bd (ja_X5_isNothing r5 S17) fun r19 S20 =>
  if r19 = 0 then
    some (1, S20)
  else
    some (0, S20)
  else none
  else none
theorem ja_X4_makeEqual_ok (zs : List Int32) : ∀ (l0 : Nat) (l1 : Int) (l2 : Int) (S : nk_S) (R : Int × nk_S), nk_cl ja_Tt l0 = some 4 → ja_X4_makeEqual l0 l1 l2 S = some R → nk_K ja_Tt mi_Γ (mi_ev zs) 1 330 0 [(0, nk_r l0), (1, nk_i l1), (2, nk_i l2)] [] S R := by
  intro l0 l1 l2 S R t_l0 hr
  unfold ja_X4_makeEqual at hr
  refine nk_p (i := .aload_n 0) (len := 1) (pc' := 1) mJ_330 (by decide +kernel) (ns_aload_n 0 rfl rfl) rfl ?_
  refine nk_getC (f := (2, 7, 0)) (x := 12) (len := 3) (ci := 4) (k := 2) (pc' := 4) ja_okT mJ_330 (by decide +kernel) (by decide +kernel) (by decide +kernel) (by decide) t_l0 rfl ?_
  have t1 : nk_cl ja_Tt (ja_c l0 2) = some 7 := nk_tc (y := 0) ja_okT t_l0 (by decide +kernel)
  refine nk_getC (f := (4, 2, 20)) (x := 299) (len := 3) (ci := 7) (k := 4) (pc' := 7) ja_okT mJ_330 (by decide +kernel) (by decide +kernel) (by decide +kernel) (by decide) t1 rfl ?_
  have t2 : nk_ar ja_Tt (ja_c (ja_c l0 2) 4) = some (2, 20) := nk_ta ja_okT t1 (by decide +kernel)
  refine nk_p (i := .iload_n 1) (len := 1) (pc' := 8) mJ_330 (by decide +kernel) (ns_iload_n 1 rfl rfl) rfl ?_
  obtain ⟨h3, hr⟩ := nk_cke hr
  refine nk_lald (len := 1) (N := 20) (pc' := 9) mJ_330 (by decide +kernel) t2 h3.1 h3.2 rfl rfl ?_
  refine nk_p (i := .aload_n 0) (len := 1) (pc' := 10) mJ_330 (by decide +kernel) (ns_aload_n 0 rfl rfl) rfl ?_
  refine nk_getC (f := (2, 7, 0)) (x := 12) (len := 3) (ci := 4) (k := 2) (pc' := 13) ja_okT mJ_330 (by decide +kernel) (by decide +kernel) (by decide +kernel) (by decide) t_l0 rfl ?_
  refine nk_getC (f := (4, 2, 20)) (x := 299) (len := 3) (ci := 7) (k := 4) (pc' := 16) ja_okT mJ_330 (by decide +kernel) (by decide +kernel) (by decide +kernel) (by decide) t1 rfl ?_
  refine nk_p (i := .iload_n 2) (len := 1) (pc' := 17) mJ_330 (by decide +kernel) (ns_iload_n 2 rfl rfl) rfl ?_
  obtain ⟨h4, hr⟩ := nk_cke hr
  refine nk_lald (len := 1) (N := 20) (pc' := 18) mJ_330 (by decide +kernel) t2 h4.1 h4.2 rfl rfl ?_
  obtain ⟨r5, S6, h7, hr⟩ := nk_bde hr
  refine nk_callS (ci := 0) (n := 2) (x := 371) (len := 3) (j' := 352) (q' := 2) (r := r5) (S' := S6) (L2 := [(0, nk_l (S.1 (ja_c (ja_c l0 2) 4) l1.toNat)), (2, nk_l (S.1 (ja_c (ja_c l0 2) 4) l2.toNat))]) (rest := []) (st' := [nk_l r5]) (pc' := 21) mJ_330 (by decide +kernel) (by decide +kernel) (Nat.le_of_ble_eq_true rfl) rfl rfl (Nat.le_of_ble_eq_true rfl) mJ_352 (Nat.le_of_ble_eq_true rfl) ja_Tpos rfl (ja_X5_common_ok zs _ _ _ _ h7) rfl ?_
  refine nk_p (i := .lstore_n 3) (len := 1) (pc' := 22) mJ_330 (by decide +kernel) (ns_lstore_n (L' := [(3, nk_l r5), (0, nk_r l0), (1, nk_i l1), (2, nk_i l2)]) rfl rfl rfl (by decide +kernel)) rfl ?_
  refine nk_p (i := .aload_n 0) (len := 1) (pc' := 23) mJ_330 (by decide +kernel) (ns_aload_n 1 rfl rfl) rfl ?_
  refine nk_getC (f := (2, 7, 0)) (x := 12) (len := 3) (ci := 4) (k := 2) (pc' := 26) ja_okT mJ_330 (by decide +kernel) (by decide +kernel) (by decide +kernel) (by decide) t_l0 rfl ?_
  refine nk_getC (f := (4, 2, 20)) (x := 302) (len := 3) (ci := 7) (k := 5) (pc' := 29) ja_okT mJ_330 (by decide +kernel) (by decide +kernel) (by decide +kernel) (by decide) t1 rfl ?_
  have t8 : nk_ar ja_Tt (ja_c (ja_c l0 2) 5) = some (2, 20) := nk_ta ja_okT t1 (by decide +kernel)
  refine nk_p (i := .iload_n 1) (len := 1) (pc' := 30) mJ_330 (by decide +kernel) (ns_iload_n 2 rfl rfl) rfl ?_
  refine nk_lald (len := 1) (N := 20) (pc' := 31) mJ_330 (by decide +kernel) t8 h3.1 h3.2 rfl rfl ?_
  refine nk_p (i := .aload_n 0) (len := 1) (pc' := 32) mJ_330 (by decide +kernel) (ns_aload_n 1 rfl rfl) rfl ?_
  refine nk_getC (f := (2, 7, 0)) (x := 12) (len := 3) (ci := 4) (k := 2) (pc' := 35) ja_okT mJ_330 (by decide +kernel) (by decide +kernel) (by decide +kernel) (by decide) t_l0 rfl ?_
  refine nk_getC (f := (4, 2, 20)) (x := 302) (len := 3) (ci := 7) (k := 5) (pc' := 38) ja_okT mJ_330 (by decide +kernel) (by decide +kernel) (by decide +kernel) (by decide) t1 rfl ?_
  refine nk_p (i := .iload_n 2) (len := 1) (pc' := 39) mJ_330 (by decide +kernel) (ns_iload_n 3 rfl rfl) rfl ?_
  refine nk_lald (len := 1) (N := 20) (pc' := 40) mJ_330 (by decide +kernel) t8 h4.1 h4.2 rfl rfl ?_
  refine nk_p (i := .lor) (len := 1) (pc' := 41) mJ_330 (by decide +kernel) ns_lor rfl ?_
  refine nk_ldc2 (x := 365) (len := 3) (X := 68719476735) (v := 68719476735) (pc' := 44) mJ_330 (by decide +kernel) (by decide +kernel) (by decide +kernel) rfl ?_
  refine nk_p (i := .land) (len := 1) (pc' := 45) mJ_330 (by decide +kernel) ns_land rfl ?_
  obtain ⟨v9, h10, hr⟩ := nk_lte hr
  refine nk_p (i := .lstore 5) (len := 2) (pc' := 47) mJ_330 (by decide +kernel) (ns_lstore (L' := [(5, nk_l v9), (3, nk_l r5), (0, nk_r l0), (1, nk_i l1), (2, nk_i l2)]) h10 rfl (by decide +kernel)) rfl ?_
  refine nk_p (i := .aload_n 0) (len := 1) (pc' := 48) mJ_330 (by decide +kernel) (ns_aload_n 2 rfl rfl) rfl ?_
  refine nk_getC (f := (2, 7, 0)) (x := 12) (len := 3) (ci := 4) (k := 2) (pc' := 51) ja_okT mJ_330 (by decide +kernel) (by decide +kernel) (by decide +kernel) (by decide) t_l0 rfl ?_
  refine nk_getC (f := (4, 2, 20)) (x := 299) (len := 3) (ci := 7) (k := 4) (pc' := 54) ja_okT mJ_330 (by decide +kernel) (by decide +kernel) (by decide +kernel) (by decide) t1 rfl ?_
  refine nk_p (i := .iload_n 1) (len := 1) (pc' := 55) mJ_330 (by decide +kernel) (ns_iload_n 3 rfl rfl) rfl ?_
  refine nk_p (i := .lload_n 3) (len := 1) (pc' := 56) mJ_330 (by decide +kernel) (ns_lload_n 1 rfl rfl) rfl ?_
  obtain ⟨S11, h12, hr⟩ := nk_lte hr
  refine nk_last (len := 1) (N := 20) (pc' := 57) mJ_330 (by decide +kernel) t2 h3.1 h3.2 rfl rfl h12 ?_
  refine nk_p (i := .aload_n 0) (len := 1) (pc' := 58) mJ_330 (by decide +kernel) (ns_aload_n 2 rfl rfl) rfl ?_
  refine nk_getC (f := (2, 7, 0)) (x := 12) (len := 3) (ci := 4) (k := 2) (pc' := 61) ja_okT mJ_330 (by decide +kernel) (by decide +kernel) (by decide +kernel) (by decide) t_l0 rfl ?_
  refine nk_getC (f := (4, 2, 20)) (x := 299) (len := 3) (ci := 7) (k := 4) (pc' := 64) ja_okT mJ_330 (by decide +kernel) (by decide +kernel) (by decide +kernel) (by decide) t1 rfl ?_
  refine nk_p (i := .iload_n 2) (len := 1) (pc' := 65) mJ_330 (by decide +kernel) (ns_iload_n 4 rfl rfl) rfl ?_
  refine nk_p (i := .lload_n 3) (len := 1) (pc' := 66) mJ_330 (by decide +kernel) (ns_lload_n 1 rfl rfl) rfl ?_
  obtain ⟨S13, h14, hr⟩ := nk_lte hr
  refine nk_last (len := 1) (N := 20) (pc' := 67) mJ_330 (by decide +kernel) t2 h4.1 h4.2 rfl rfl h14 ?_
  refine nk_p (i := .aload_n 0) (len := 1) (pc' := 68) mJ_330 (by decide +kernel) (ns_aload_n 2 rfl rfl) rfl ?_
  refine nk_getC (f := (2, 7, 0)) (x := 12) (len := 3) (ci := 4) (k := 2) (pc' := 71) ja_okT mJ_330 (by decide +kernel) (by decide +kernel) (by decide +kernel) (by decide) t_l0 rfl ?_
  refine nk_getC (f := (4, 2, 20)) (x := 302) (len := 3) (ci := 7) (k := 5) (pc' := 74) ja_okT mJ_330 (by decide +kernel) (by decide +kernel) (by decide +kernel) (by decide) t1 rfl ?_
  refine nk_p (i := .iload_n 1) (len := 1) (pc' := 75) mJ_330 (by decide +kernel) (ns_iload_n 3 rfl rfl) rfl ?_
  refine nk_p (i := .dup2) (len := 1) (pc' := 76) mJ_330 (by decide +kernel) (ns_dup2 rfl rfl) rfl ?_
  refine nk_lald (len := 1) (N := 20) (pc' := 77) mJ_330 (by decide +kernel) t8 h3.1 h3.2 rfl rfl ?_
  refine nk_p (i := .lload 5) (len := 2) (pc' := 79) mJ_330 (by decide +kernel) (ns_lload 0 rfl) rfl ?_
  refine nk_p (i := .lor) (len := 1) (pc' := 80) mJ_330 (by decide +kernel) ns_lor rfl ?_
  obtain ⟨S15, h16, hr⟩ := nk_lte hr
  refine nk_last (len := 1) (N := 20) (pc' := 81) mJ_330 (by decide +kernel) t8 h3.1 h3.2 rfl rfl h16 ?_
  refine nk_p (i := .aload_n 0) (len := 1) (pc' := 82) mJ_330 (by decide +kernel) (ns_aload_n 2 rfl rfl) rfl ?_
  refine nk_getC (f := (2, 7, 0)) (x := 12) (len := 3) (ci := 4) (k := 2) (pc' := 85) ja_okT mJ_330 (by decide +kernel) (by decide +kernel) (by decide +kernel) (by decide) t_l0 rfl ?_
  refine nk_getC (f := (4, 2, 20)) (x := 302) (len := 3) (ci := 7) (k := 5) (pc' := 88) ja_okT mJ_330 (by decide +kernel) (by decide +kernel) (by decide +kernel) (by decide) t1 rfl ?_
  refine nk_p (i := .iload_n 2) (len := 1) (pc' := 89) mJ_330 (by decide +kernel) (ns_iload_n 4 rfl rfl) rfl ?_
  refine nk_p (i := .dup2) (len := 1) (pc' := 90) mJ_330 (by decide +kernel) (ns_dup2 rfl rfl) rfl ?_
  refine nk_lald (len := 1) (N := 20) (pc' := 91) mJ_330 (by decide +kernel) t8 h4.1 h4.2 rfl rfl ?_
  refine nk_p (i := .lload 5) (len := 2) (pc' := 93) mJ_330 (by decide +kernel) (ns_lload 0 rfl) rfl ?_
  refine nk_p (i := .lor) (len := 1) (pc' := 94) mJ_330 (by decide +kernel) ns_lor rfl ?_
  obtain ⟨S17, h18, hr⟩ := nk_lte hr
  refine nk_last (len := 1) (N := 20) (pc' := 95) mJ_330 (by decide +kernel) t8 h4.1 h4.2 rfl rfl h18 ?_
  refine nk_p (i := .lload_n 3) (len := 1) (pc' := 96) mJ_330 (by decide +kernel) (ns_lload_n 1 rfl rfl) rfl ?_
  obtain ⟨r19, S20, h21, hr⟩ := nk_bde hr
  refine nk_callS (ci := 0) (n := 1) (x := 342) (len := 3) (j' := 360) (q' := 1) (r := r19) (S' := S20) (L2 := [(0, nk_l r5)]) (rest := []) (st' := [nk_i r19]) (pc' := 99) mJ_330 (by decide +kernel) (by decide +kernel) (Nat.le_of_ble_eq_true rfl) rfl rfl (Nat.le_of_ble_eq_true rfl) mJ_360 (Nat.le_of_ble_eq_true rfl) ja_Tpos rfl (ja_X5_isNothing_ok zs _ _ _ h21) rfl ?_
  refine nk_icond (c := .ne) (off := 7) (len := 3) (t := 106) (pc' := 102) mJ_330 (by decide +kernel) (by decide +kernel) rfl (fun hc => ?_) (fun hc => ?_)
  · have hr := nk_ifn (c := r19 = 0) hc hr
    refine nk_p (i := .iconst 0) (len := 1) (pc' := 107) mJ_330 (by decide +kernel) (ns_iconst (c := 0) (by decide +kernel)) rfl ?_
    cases hr
    exact nk_iret (ty := .boolean) (len := 1) mJ_330 (by decide +kernel) rfl (nk_nar_z (by decide))
  · have hr := nk_ifp (c := r19 = 0) (Decidable.of_not_not hc) hr
    refine nk_p (i := .iconst 1) (len := 1) (pc' := 103) mJ_330 (by decide +kernel) (ns_iconst (c := 1) (by decide +kernel)) rfl ?_
    refine nk_p (i := .goto 4) (len := 3) (pc' := 107) mJ_330 (by decide +kernel) (ns_goto (by decide +kernel)) rfl ?_
    cases hr
    exact nk_iret (ty := .boolean) (len := 1) mJ_330 (by decide +kernel) rfl (nk_nar_z (by decide))
/-! SafeCode$Ranges isSingle (J)Z -/
noncomputable def ja_X5_isSingle (l0 : Int) (S : nk_S) : Option (Int × nk_S) :=
  if (nk_w (nk_lshr l0 32)) = (nk_w l0) then
    some (1, S)
  else
    some (0, S)
theorem ja_X5_isSingle_ok (zs : List Int32) : ∀ (l0 : Int) (S : nk_S) (R : Int × nk_S), ja_X5_isSingle l0 S = some R → nk_K ja_Tt mi_Γ (mi_ev zs) 1 361 0 [(0, nk_l l0)] [] S R := by
  intro l0 S R hr
  unfold ja_X5_isSingle at hr
  refine nk_p (i := .lload_n 0) (len := 1) (pc' := 1) mJ_361 (by decide +kernel) (ns_lload_n 0 rfl rfl) rfl ?_
  refine nk_p (i := .bipush 32) (len := 2) (pc' := 3) mJ_361 (by decide +kernel) (ns_bipush (c := 32) (by decide +kernel)) rfl ?_
  refine nk_p (i := .lshr) (len := 1) (pc' := 4) mJ_361 (by decide +kernel) ns_lshr rfl ?_
  refine nk_p (i := .l2i) (len := 1) (pc' := 5) mJ_361 (by decide +kernel) ns_l2i rfl ?_
  refine nk_p (i := .lload_n 0) (len := 1) (pc' := 6) mJ_361 (by decide +kernel) (ns_lload_n 0 rfl rfl) rfl ?_
  refine nk_p (i := .l2i) (len := 1) (pc' := 7) mJ_361 (by decide +kernel) ns_l2i rfl ?_
  refine nk_icmp (c := .ne) (off := 7) (len := 3) (t := 14) (pc' := 10) mJ_361 (by decide +kernel) (by decide +kernel) rfl (fun hc => ?_) (fun hc => ?_)
  · have hr := nk_ifn (c := (nk_w (nk_lshr l0 32)) = (nk_w l0)) hc hr
    refine nk_p (i := .iconst 0) (len := 1) (pc' := 15) mJ_361 (by decide +kernel) (ns_iconst (c := 0) (by decide +kernel)) rfl ?_
    cases hr
    exact nk_iret (ty := .boolean) (len := 1) mJ_361 (by decide +kernel) rfl (nk_nar_z (by decide))
  · have hr := nk_ifp (c := (nk_w (nk_lshr l0 32)) = (nk_w l0)) (Decidable.of_not_not hc) hr
    refine nk_p (i := .iconst 1) (len := 1) (pc' := 11) mJ_361 (by decide +kernel) (ns_iconst (c := 1) (by decide +kernel)) rfl ?_
    refine nk_p (i := .goto 4) (len := 3) (pc' := 15) mJ_361 (by decide +kernel) (ns_goto (by decide +kernel)) rfl ?_
    cases hr
    exact nk_iret (ty := .boolean) (len := 1) mJ_361 (by decide +kernel) rfl (nk_nar_z (by decide))
/-! SafeCode$Ranges around (JJ)J -/
noncomputable def ja_X5_around_b132 (l7 : Int) (s0 : Int) (S : nk_S) : Option (Int × nk_S) :=
  nk_bd (ja_X5_pack l7 s0 S) fun r1 S2 =>
  some (r1, S2)
theorem ja_X5_around_b132_ok (zs : List Int32) : ∀ (l7 : Int) (s0 : Int) (S : nk_S) (R : Int × nk_S), ja_X5_around_b132 l7 s0 S = some R → nk_K ja_Tt mi_Γ (mi_ev zs) 2 349 132 [(7, nk_i l7)] [nk_i s0] S R := by
  intro l7 s0 S R hr
  unfold ja_X5_around_b132 at hr
  refine nk_p (i := .istore 8) (len := 2) (pc' := 134) mJ_349 (by decide +kernel) (ns_istore (L' := [(8, nk_i s0), (7, nk_i l7)]) rfl rfl (by decide +kernel)) rfl ?_
  refine nk_p (i := .iload 7) (len := 2) (pc' := 136) mJ_349 (by decide +kernel) (ns_iload 1 rfl) rfl ?_
  refine nk_p (i := .iload 8) (len := 2) (pc' := 138) mJ_349 (by decide +kernel) (ns_iload 0 rfl) rfl ?_
  obtain ⟨r1, S2, h3, hr⟩ := nk_bde hr
  refine nk_callS (ci := 0) (n := 2) (x := 37) (len := 3) (j' := 365) (q' := 2) (r := r1) (S' := S2) (L2 := [(0, nk_i l7), (1, nk_i s0)]) (rest := []) (st' := [nk_l r1]) (pc' := 141) mJ_349 (by decide +kernel) (by decide +kernel) (Nat.le_of_ble_eq_true rfl) rfl rfl (Nat.le_of_ble_eq_true rfl) mJ_365 (Nat.le_of_ble_eq_true rfl) ja_Tpos rfl (ja_X5_pack_ok zs _ _ _ _ h3) rfl ?_
  cases hr
  exact nk_lret (len := 1) mJ_349 (by decide +kernel) rfl
noncomputable def ja_X5_around_b109 (l0 : Nat) (l6 : Int) (s0 : Int) (S : nk_S) : Option (Int × nk_S) :=
  if (S.1 l0 0) ≤ l6 then
    ja_X5_around_b132 s0 2147483647 S
  else
    if 0 ≤ l6 ∧ l6 < 3079 then
    ja_X5_around_b132 s0 (S.1 (ja_c l0 1) l6.toNat) S
    else none
theorem ja_X5_around_b109_ok (zs : List Int32) : ∀ (l0 : Nat) (l6 : Int) (s0 : Int) (S : nk_S) (R : Int × nk_S), nk_cl ja_Tt l0 = some 5 → ja_X5_around_b109 l0 l6 s0 S = some R → nk_K ja_Tt mi_Γ (mi_ev zs) 2 349 109 [(0, nk_r l0), (6, nk_i l6)] [nk_i s0] S R := by
  intro l0 l6 s0 S R t_l0 hr
  unfold ja_X5_around_b109 at hr
  refine nk_p (i := .istore 7) (len := 2) (pc' := 111) mJ_349 (by decide +kernel) (ns_istore (L' := [(7, nk_i s0), (0, nk_r l0), (6, nk_i l6)]) rfl rfl (by decide +kernel)) rfl ?_
  refine nk_p (i := .iload 6) (len := 2) (pc' := 113) mJ_349 (by decide +kernel) (ns_iload 2 rfl) rfl ?_
  refine nk_p (i := .aload_n 0) (len := 1) (pc' := 114) mJ_349 (by decide +kernel) (ns_aload_n 1 rfl rfl) rfl ?_
  refine nk_getI (y := (0, 0)) (x := 41) (len := 3) (ci := 5) (k := 0) (pc' := 117) ja_okT mJ_349 (by decide +kernel) (by decide +kernel) (by decide +kernel) t_l0 rfl ?_
  refine nk_icmp (c := .ge) (off := 13) (len := 3) (t := 130) (pc' := 120) mJ_349 (by decide +kernel) (by decide +kernel) rfl (fun hc => ?_) (fun hc => ?_)
  · have hr := nk_ifp (c := (S.1 l0 0) ≤ l6) hc hr
    refine nk_ldci (x := 55) (len := 2) (X := 2147483647) (v := 2147483647) (pc' := 132) mJ_349 (by decide +kernel) (by decide +kernel) (by decide +kernel) rfl ?_
    refine nk_sub [0] (L' := [(7, nk_i s0)]) rfl ?_
    exact ja_X5_around_b132_ok zs _ _ _ _ hr
  · have hr := nk_ifn (c := (S.1 l0 0) ≤ l6) hc hr
    refine nk_p (i := .aload_n 0) (len := 1) (pc' := 121) mJ_349 (by decide +kernel) (ns_aload_n 1 rfl rfl) rfl ?_
    refine nk_getC (f := (4, 1, 3079)) (x := 11) (len := 3) (ci := 5) (k := 1) (pc' := 124) ja_okT mJ_349 (by decide +kernel) (by decide +kernel) (by decide +kernel) (by decide) t_l0 rfl ?_
    have t1 : nk_ar ja_Tt (ja_c l0 1) = some (1, 3079) := nk_ta ja_okT t_l0 (by decide +kernel)
    refine nk_p (i := .iload 6) (len := 2) (pc' := 126) mJ_349 (by decide +kernel) (ns_iload 2 rfl) rfl ?_
    obtain ⟨h2, hr⟩ := nk_cke hr
    refine nk_iald (len := 1) (N := 3079) (pc' := 127) mJ_349 (by decide +kernel) t1 h2.1 h2.2 rfl rfl ?_
    refine nk_p (i := .goto 5) (len := 3) (pc' := 132) mJ_349 (by decide +kernel) (ns_goto (by decide +kernel)) rfl ?_
    refine nk_sub [0] (L' := [(7, nk_i s0)]) rfl ?_
    exact ja_X5_around_b132_ok zs _ _ _ _ hr
noncomputable def ja_X5_around_b90 (l0 : Nat) (l5 : Int) (l6 : Int) (S : nk_S) : Option (Int × nk_S) :=
  if l5 ≤ 0 then
    ja_X5_around_b109 l0 l6 (-2147483648) S
  else
    if 0 ≤ (nk_w (l5 - 1)) ∧ (nk_w (l5 - 1)) < 3079 then
    ja_X5_around_b109 l0 l6 (S.1 (ja_c l0 1) (nk_w (l5 - 1)).toNat) S
    else none
theorem ja_X5_around_b90_ok (zs : List Int32) : ∀ (l0 : Nat) (l5 : Int) (l6 : Int) (S : nk_S) (R : Int × nk_S), nk_cl ja_Tt l0 = some 5 → ja_X5_around_b90 l0 l5 l6 S = some R → nk_K ja_Tt mi_Γ (mi_ev zs) 2 349 90 [(0, nk_r l0), (5, nk_i l5), (6, nk_i l6)] [] S R := by
  intro l0 l5 l6 S R t_l0 hr
  unfold ja_X5_around_b90 at hr
  refine nk_p (i := .iload 5) (len := 2) (pc' := 92) mJ_349 (by decide +kernel) (ns_iload 1 rfl) rfl ?_
  refine nk_icond (c := .le) (off := 15) (len := 3) (t := 107) (pc' := 95) mJ_349 (by decide +kernel) (by decide +kernel) rfl (fun hc => ?_) (fun hc => ?_)
  · have hr := nk_ifp (c := l5 ≤ 0) hc hr
    refine nk_ldci (x := 45) (len := 2) (X := (-2147483648)) (v := (-2147483648)) (pc' := 109) mJ_349 (by decide +kernel) (by decide +kernel) (by decide +kernel) rfl ?_
    refine nk_sub [0, 2] (L' := [(0, nk_r l0), (6, nk_i l6)]) rfl ?_
    exact ja_X5_around_b109_ok zs _ _ _ _ _ t_l0 hr
  · have hr := nk_ifn (c := l5 ≤ 0) hc hr
    refine nk_p (i := .aload_n 0) (len := 1) (pc' := 96) mJ_349 (by decide +kernel) (ns_aload_n 0 rfl rfl) rfl ?_
    refine nk_getC (f := (4, 1, 3079)) (x := 11) (len := 3) (ci := 5) (k := 1) (pc' := 99) ja_okT mJ_349 (by decide +kernel) (by decide +kernel) (by decide +kernel) (by decide) t_l0 rfl ?_
    have t1 : nk_ar ja_Tt (ja_c l0 1) = some (1, 3079) := nk_ta ja_okT t_l0 (by decide +kernel)
    refine nk_p (i := .iload 5) (len := 2) (pc' := 101) mJ_349 (by decide +kernel) (ns_iload 1 rfl) rfl ?_
    refine nk_p (i := .iconst 1) (len := 1) (pc' := 102) mJ_349 (by decide +kernel) (ns_iconst (c := 1) (by decide +kernel)) rfl ?_
    refine nk_p (i := .isub) (len := 1) (pc' := 103) mJ_349 (by decide +kernel) ns_isub rfl ?_
    obtain ⟨h2, hr⟩ := nk_cke hr
    refine nk_iald (len := 1) (N := 3079) (pc' := 104) mJ_349 (by decide +kernel) t1 h2.1 h2.2 rfl rfl ?_
    refine nk_p (i := .goto 5) (len := 3) (pc' := 109) mJ_349 (by decide +kernel) (ns_goto (by decide +kernel)) rfl ?_
    refine nk_sub [0, 2] (L' := [(0, nk_r l0), (6, nk_i l6)]) rfl ?_
    exact ja_X5_around_b109_ok zs _ _ _ _ _ t_l0 hr
noncomputable def ja_X5_around_b61 (l0 : Nat) (l1 : Int) (l5 : Int) (s0 : Int) (S : nk_S) : Option (Int × nk_S) :=
  if (S.1 l0 0) ≤ l5 then
    ja_X5_around_b90 l0 l5 s0 S
  else
    if 0 ≤ l5 ∧ l5 < 3079 then
    if (S.1 (ja_c l0 1) l5.toNat) = l1 then
      ja_X5_around_b109 l0 s0 (nk_w l1) S
    else
      ja_X5_around_b90 l0 l5 s0 S
    else none
theorem ja_X5_around_b61_ok (zs : List Int32) : ∀ (l0 : Nat) (l1 : Int) (l5 : Int) (s0 : Int) (S : nk_S) (R : Int × nk_S), nk_cl ja_Tt l0 = some 5 → ja_X5_around_b61 l0 l1 l5 s0 S = some R → nk_K ja_Tt mi_Γ (mi_ev zs) 2 349 61 [(0, nk_r l0), (1, nk_l l1), (5, nk_i l5)] [nk_i s0] S R := by
  intro l0 l1 l5 s0 S R t_l0 hr
  unfold ja_X5_around_b61 at hr
  refine nk_p (i := .istore 6) (len := 2) (pc' := 63) mJ_349 (by decide +kernel) (ns_istore (L' := [(6, nk_i s0), (0, nk_r l0), (1, nk_l l1), (5, nk_i l5)]) rfl rfl (by decide +kernel)) rfl ?_
  refine nk_p (i := .iload 5) (len := 2) (pc' := 65) mJ_349 (by decide +kernel) (ns_iload 3 rfl) rfl ?_
  refine nk_p (i := .aload_n 0) (len := 1) (pc' := 66) mJ_349 (by decide +kernel) (ns_aload_n 1 rfl rfl) rfl ?_
  refine nk_getI (y := (0, 0)) (x := 41) (len := 3) (ci := 5) (k := 0) (pc' := 69) ja_okT mJ_349 (by decide +kernel) (by decide +kernel) (by decide +kernel) t_l0 rfl ?_
  refine nk_icmp (c := .ge) (off := 21) (len := 3) (t := 90) (pc' := 72) mJ_349 (by decide +kernel) (by decide +kernel) rfl (fun hc => ?_) (fun hc => ?_)
  · have hr := nk_ifp (c := (S.1 l0 0) ≤ l5) hc hr
    refine nk_sub [1, 3, 0] (L' := [(0, nk_r l0), (5, nk_i l5), (6, nk_i s0)]) rfl ?_
    exact ja_X5_around_b90_ok zs _ _ _ _ _ t_l0 hr
  · have hr := nk_ifn (c := (S.1 l0 0) ≤ l5) hc hr
    refine nk_p (i := .aload_n 0) (len := 1) (pc' := 73) mJ_349 (by decide +kernel) (ns_aload_n 1 rfl rfl) rfl ?_
    refine nk_getC (f := (4, 1, 3079)) (x := 11) (len := 3) (ci := 5) (k := 1) (pc' := 76) ja_okT mJ_349 (by decide +kernel) (by decide +kernel) (by decide +kernel) (by decide) t_l0 rfl ?_
    have t1 : nk_ar ja_Tt (ja_c l0 1) = some (1, 3079) := nk_ta ja_okT t_l0 (by decide +kernel)
    refine nk_p (i := .iload 5) (len := 2) (pc' := 78) mJ_349 (by decide +kernel) (ns_iload 3 rfl) rfl ?_
    obtain ⟨h2, hr⟩ := nk_cke hr
    refine nk_iald (len := 1) (N := 3079) (pc' := 79) mJ_349 (by decide +kernel) t1 h2.1 h2.2 rfl rfl ?_
    refine nk_p (i := .i2l) (len := 1) (pc' := 80) mJ_349 (by decide +kernel) ns_i2l rfl ?_
    refine nk_p (i := .lload_n 1) (len := 1) (pc' := 81) mJ_349 (by decide +kernel) (ns_lload_n 2 rfl rfl) rfl ?_
    refine nk_p (i := .lcmp) (len := 1) (pc' := 82) mJ_349 (by decide +kernel) ns_lcmp rfl ?_
    refine nk_lcond (c := .ne) (off := 8) (len := 3) (t := 90) (pc' := 85) mJ_349 (by decide +kernel) (by decide +kernel) rfl (fun hc => ?_) (fun hc => ?_)
    · have hr := nk_ifn (c := (S.1 (ja_c l0 1) l5.toNat) = l1) hc hr
      refine nk_sub [1, 3, 0] (L' := [(0, nk_r l0), (5, nk_i l5), (6, nk_i s0)]) rfl ?_
      exact ja_X5_around_b90_ok zs _ _ _ _ _ t_l0 hr
    · have hr := nk_ifp (c := (S.1 (ja_c l0 1) l5.toNat) = l1) (Decidable.of_not_not hc) hr
      refine nk_p (i := .lload_n 1) (len := 1) (pc' := 86) mJ_349 (by decide +kernel) (ns_lload_n 2 rfl rfl) rfl ?_
      refine nk_p (i := .l2i) (len := 1) (pc' := 87) mJ_349 (by decide +kernel) ns_l2i rfl ?_
      refine nk_p (i := .goto 22) (len := 3) (pc' := 109) mJ_349 (by decide +kernel) (ns_goto (by decide +kernel)) rfl ?_
      refine nk_sub [1, 0] (L' := [(0, nk_r l0), (6, nk_i s0)]) rfl ?_
      exact ja_X5_around_b109_ok zs _ _ _ _ _ t_l0 hr
noncomputable def ja_X5_around (l0 : Nat) (l1 : Int) (l3 : Int) (S : nk_S) : Option (Int × nk_S) :=
  if l1 < (-2147483648) then
    some ((-9223372034707292161), S)
  else
    if 2147483647 < l3 then
      some ((-9223372034707292161), S)
    else
      if 2147483647 < l1 then
        some ((-9223372034707292161), S)
      else
        if (-2147483648) ≤ l3 then
          nk_bd (ja_X5_placeOf l0 (nk_w l1) S) fun r1 S2 =>
          if l1 = l3 then
            ja_X5_around_b61 l0 l1 r1 r1 S2
          else
            nk_bd (ja_X5_placeOf l0 (nk_w l3) S2) fun r4 S5 =>
            ja_X5_around_b61 l0 l1 r1 r4 S5
        else
          some ((-9223372034707292161), S)
theorem ja_X5_around_ok (zs : List Int32) : ∀ (l0 : Nat) (l1 : Int) (l3 : Int) (S : nk_S) (R : Int × nk_S), nk_cl ja_Tt l0 = some 5 → ja_X5_around l0 l1 l3 S = some R → nk_K ja_Tt mi_Γ (mi_ev zs) 2 349 0 [(0, nk_r l0), (1, nk_l l1), (3, nk_l l3)] [] S R := by
  intro l0 l1 l3 S R t_l0 hr
  unfold ja_X5_around at hr
  refine nk_p (i := .lload_n 1) (len := 1) (pc' := 1) mJ_349 (by decide +kernel) (ns_lload_n 1 rfl rfl) rfl ?_
  refine nk_ldc2 (x := 66) (len := 3) (X := (-2147483648)) (v := (-2147483648)) (pc' := 4) mJ_349 (by decide +kernel) (by decide +kernel) (by decide +kernel) rfl ?_
  refine nk_p (i := .lcmp) (len := 1) (pc' := 5) mJ_349 (by decide +kernel) ns_lcmp rfl ?_
  refine nk_lcond (c := .lt) (off := 27) (len := 3) (t := 32) (pc' := 8) mJ_349 (by decide +kernel) (by decide +kernel) rfl (fun hc => ?_) (fun hc => ?_)
  · have hr := nk_ifp (c := l1 < (-2147483648)) hc hr
    refine nk_ldc2 (x := 70) (len := 3) (X := (-9223372034707292161)) (v := (-9223372034707292161)) (pc' := 35) mJ_349 (by decide +kernel) (by decide +kernel) (by decide +kernel) rfl ?_
    cases hr
    exact nk_lret (len := 1) mJ_349 (by decide +kernel) rfl
  · have hr := nk_ifn (c := l1 < (-2147483648)) hc hr
    refine nk_p (i := .lload_n 3) (len := 1) (pc' := 9) mJ_349 (by decide +kernel) (ns_lload_n 2 rfl rfl) rfl ?_
    refine nk_ldc2 (x := 68) (len := 3) (X := 2147483647) (v := 2147483647) (pc' := 12) mJ_349 (by decide +kernel) (by decide +kernel) (by decide +kernel) rfl ?_
    refine nk_p (i := .lcmp) (len := 1) (pc' := 13) mJ_349 (by decide +kernel) ns_lcmp rfl ?_
    refine nk_lcond (c := .gt) (off := 19) (len := 3) (t := 32) (pc' := 16) mJ_349 (by decide +kernel) (by decide +kernel) rfl (fun hc => ?_) (fun hc => ?_)
    · have hr := nk_ifp (c := 2147483647 < l3) hc hr
      refine nk_ldc2 (x := 70) (len := 3) (X := (-9223372034707292161)) (v := (-9223372034707292161)) (pc' := 35) mJ_349 (by decide +kernel) (by decide +kernel) (by decide +kernel) rfl ?_
      cases hr
      exact nk_lret (len := 1) mJ_349 (by decide +kernel) rfl
    · have hr := nk_ifn (c := 2147483647 < l3) hc hr
      refine nk_p (i := .lload_n 1) (len := 1) (pc' := 17) mJ_349 (by decide +kernel) (ns_lload_n 1 rfl rfl) rfl ?_
      refine nk_ldc2 (x := 68) (len := 3) (X := 2147483647) (v := 2147483647) (pc' := 20) mJ_349 (by decide +kernel) (by decide +kernel) (by decide +kernel) rfl ?_
      refine nk_p (i := .lcmp) (len := 1) (pc' := 21) mJ_349 (by decide +kernel) ns_lcmp rfl ?_
      refine nk_lcond (c := .gt) (off := 11) (len := 3) (t := 32) (pc' := 24) mJ_349 (by decide +kernel) (by decide +kernel) rfl (fun hc => ?_) (fun hc => ?_)
      · have hr := nk_ifp (c := 2147483647 < l1) hc hr
        refine nk_ldc2 (x := 70) (len := 3) (X := (-9223372034707292161)) (v := (-9223372034707292161)) (pc' := 35) mJ_349 (by decide +kernel) (by decide +kernel) (by decide +kernel) rfl ?_
        cases hr
        exact nk_lret (len := 1) mJ_349 (by decide +kernel) rfl
      · have hr := nk_ifn (c := 2147483647 < l1) hc hr
        refine nk_p (i := .lload_n 3) (len := 1) (pc' := 25) mJ_349 (by decide +kernel) (ns_lload_n 2 rfl rfl) rfl ?_
        refine nk_ldc2 (x := 66) (len := 3) (X := (-2147483648)) (v := (-2147483648)) (pc' := 28) mJ_349 (by decide +kernel) (by decide +kernel) (by decide +kernel) rfl ?_
        refine nk_p (i := .lcmp) (len := 1) (pc' := 29) mJ_349 (by decide +kernel) ns_lcmp rfl ?_
        refine nk_lcond (c := .ge) (off := 7) (len := 3) (t := 36) (pc' := 32) mJ_349 (by decide +kernel) (by decide +kernel) rfl (fun hc => ?_) (fun hc => ?_)
        · have hr := nk_ifp (c := (-2147483648) ≤ l3) hc hr
          refine nk_p (i := .aload_n 0) (len := 1) (pc' := 37) mJ_349 (by decide +kernel) (ns_aload_n 0 rfl rfl) rfl ?_
          refine nk_p (i := .lload_n 1) (len := 1) (pc' := 38) mJ_349 (by decide +kernel) (ns_lload_n 1 rfl rfl) rfl ?_
          refine nk_p (i := .l2i) (len := 1) (pc' := 39) mJ_349 (by decide +kernel) ns_l2i rfl ?_
          obtain ⟨r1, S2, h3, hr⟩ := nk_bde hr
          refine nk_callV (ci := 5) (n := 1) (x := 56) (len := 3) (j' := 366) (q' := 1) (r := r1) (S' := S2) (L2 := [(0, nk_r l0), (1, nk_i (nk_w l1))]) (rest := []) (st' := [nk_i r1]) (pc' := 42) mJ_349 (by decide +kernel) (by decide +kernel) rfl rfl t_l0 (Nat.le_of_ble_eq_true rfl) mJ_366 (Nat.le_of_ble_eq_true rfl) rfl (ja_X5_placeOf_ok zs _ _ _ _ t_l0 h3) rfl ?_
          refine nk_p (i := .istore 5) (len := 2) (pc' := 44) mJ_349 (by decide +kernel) (ns_istore (L' := [(5, nk_i r1), (0, nk_r l0), (1, nk_l l1), (3, nk_l l3)]) rfl rfl (by decide +kernel)) rfl ?_
          refine nk_p (i := .lload_n 1) (len := 1) (pc' := 45) mJ_349 (by decide +kernel) (ns_lload_n 2 rfl rfl) rfl ?_
          refine nk_p (i := .lload_n 3) (len := 1) (pc' := 46) mJ_349 (by decide +kernel) (ns_lload_n 3 rfl rfl) rfl ?_
          refine nk_p (i := .lcmp) (len := 1) (pc' := 47) mJ_349 (by decide +kernel) ns_lcmp rfl ?_
          refine nk_lcond (c := .ne) (off := 8) (len := 3) (t := 55) (pc' := 50) mJ_349 (by decide +kernel) (by decide +kernel) rfl (fun hc => ?_) (fun hc => ?_)
          · have hr := nk_ifn (c := l1 = l3) hc hr
            refine nk_p (i := .aload_n 0) (len := 1) (pc' := 56) mJ_349 (by decide +kernel) (ns_aload_n 1 rfl rfl) rfl ?_
            refine nk_p (i := .lload_n 3) (len := 1) (pc' := 57) mJ_349 (by decide +kernel) (ns_lload_n 3 rfl rfl) rfl ?_
            refine nk_p (i := .l2i) (len := 1) (pc' := 58) mJ_349 (by decide +kernel) ns_l2i rfl ?_
            obtain ⟨r4, S5, h6, hr⟩ := nk_bde hr
            refine nk_callV (ci := 5) (n := 1) (x := 56) (len := 3) (j' := 366) (q' := 1) (r := r4) (S' := S5) (L2 := [(0, nk_r l0), (1, nk_i (nk_w l3))]) (rest := []) (st' := [nk_i r4]) (pc' := 61) mJ_349 (by decide +kernel) (by decide +kernel) rfl rfl t_l0 (Nat.le_of_ble_eq_true rfl) mJ_366 (Nat.le_of_ble_eq_true rfl) rfl (ja_X5_placeOf_ok zs _ _ _ _ t_l0 h6) rfl ?_
            refine nk_sub [1, 2, 0] (L' := [(0, nk_r l0), (1, nk_l l1), (5, nk_i r1)]) rfl ?_
            exact ja_X5_around_b61_ok zs _ _ _ _ _ _ t_l0 hr
          · have hr := nk_ifp (c := l1 = l3) (Decidable.of_not_not hc) hr
            refine nk_p (i := .iload 5) (len := 2) (pc' := 52) mJ_349 (by decide +kernel) (ns_iload 0 rfl) rfl ?_
            refine nk_p (i := .goto 9) (len := 3) (pc' := 61) mJ_349 (by decide +kernel) (ns_goto (by decide +kernel)) rfl ?_
            refine nk_sub [1, 2, 0] (L' := [(0, nk_r l0), (1, nk_l l1), (5, nk_i r1)]) rfl ?_
            exact ja_X5_around_b61_ok zs _ _ _ _ _ _ t_l0 hr
        · have hr := nk_ifn (c := (-2147483648) ≤ l3) hc hr
          refine nk_ldc2 (x := 70) (len := 3) (X := (-9223372034707292161)) (v := (-9223372034707292161)) (pc' := 35) mJ_349 (by decide +kernel) (by decide +kernel) (by decide +kernel) rfl ?_
          cases hr
          exact nk_lret (len := 1) mJ_349 (by decide +kernel) rfl
/-! SafeCode$Ranges without (JJ)J -/
noncomputable def ja_X5_without_b66 (l0 : Nat) (l7 : Int) (s0 : Int) (S : nk_S) : Option (Int × nk_S) :=
  if l7 ≤ s0 then
    nk_bd (ja_X5_around l0 l7 s0 S) fun r1 S2 =>
    some (r1, S2)
  else
    some (9223372034707292160, S)
theorem ja_X5_without_b66_ok (zs : List Int32) : ∀ (l0 : Nat) (l7 : Int) (s0 : Int) (S : nk_S) (R : Int × nk_S), nk_cl ja_Tt l0 = some 5 → ja_X5_without_b66 l0 l7 s0 S = some R → nk_K ja_Tt mi_Γ (mi_ev zs) 2 372 66 [(0, nk_r l0), (7, nk_l l7)] [nk_l s0] S R := by
  intro l0 l7 s0 S R t_l0 hr
  unfold ja_X5_without_b66 at hr
  refine nk_p (i := .lstore 9) (len := 2) (pc' := 68) mJ_372 (by decide +kernel) (ns_lstore (L' := [(9, nk_l s0), (0, nk_r l0), (7, nk_l l7)]) rfl rfl (by decide +kernel)) rfl ?_
  refine nk_p (i := .lload 7) (len := 2) (pc' := 70) mJ_372 (by decide +kernel) (ns_lload 2 rfl) rfl ?_
  refine nk_p (i := .lload 9) (len := 2) (pc' := 72) mJ_372 (by decide +kernel) (ns_lload 0 rfl) rfl ?_
  refine nk_p (i := .lcmp) (len := 1) (pc' := 73) mJ_372 (by decide +kernel) ns_lcmp rfl ?_
  refine nk_lcond (c := .le) (off := 9) (len := 3) (t := 82) (pc' := 76) mJ_372 (by decide +kernel) (by decide +kernel) rfl (fun hc => ?_) (fun hc => ?_)
  · have hr := nk_ifp (c := l7 ≤ s0) hc hr
    refine nk_p (i := .aload_n 0) (len := 1) (pc' := 83) mJ_372 (by decide +kernel) (ns_aload_n 1 rfl rfl) rfl ?_
    refine nk_p (i := .lload 7) (len := 2) (pc' := 85) mJ_372 (by decide +kernel) (ns_lload 2 rfl) rfl ?_
    refine nk_p (i := .lload 9) (len := 2) (pc' := 87) mJ_372 (by decide +kernel) (ns_lload 0 rfl) rfl ?_
    obtain ⟨r1, S2, h3, hr⟩ := nk_bde hr
    refine nk_callV (ci := 5) (n := 2) (x := 77) (len := 3) (j' := 349) (q' := 2) (r := r1) (S' := S2) (L2 := [(0, nk_r l0), (1, nk_l l7), (3, nk_l s0)]) (rest := []) (st' := [nk_l r1]) (pc' := 90) mJ_372 (by decide +kernel) (by decide +kernel) rfl rfl t_l0 (Nat.le_of_ble_eq_true rfl) mJ_349 (Nat.le_of_ble_eq_true rfl) rfl (ja_X5_around_ok zs _ _ _ _ _ t_l0 h3) rfl ?_
    cases hr
    exact nk_lret (len := 1) mJ_372 (by decide +kernel) rfl
  · have hr := nk_ifn (c := l7 ≤ s0) hc hr
    refine nk_ldc2 (x := 35) (len := 3) (X := 9223372034707292160) (v := 9223372034707292160) (pc' := 79) mJ_372 (by decide +kernel) (by decide +kernel) (by decide +kernel) rfl ?_
    refine nk_p (i := .goto 11) (len := 3) (pc' := 90) mJ_372 (by decide +kernel) (ns_goto (by decide +kernel)) rfl ?_
    cases hr
    exact nk_lret (len := 1) mJ_372 (by decide +kernel) rfl
noncomputable def ja_X5_without_b47 (l0 : Nat) (l5 : Int) (l9 : Int) (s0 : Int) (S : nk_S) : Option (Int × nk_S) :=
  if l9 = l5 then
    ja_X5_without_b66 l0 s0 (nk_W (l9 - 1)) S
  else
    ja_X5_without_b66 l0 s0 l9 S
theorem ja_X5_without_b47_ok (zs : List Int32) : ∀ (l0 : Nat) (l5 : Int) (l9 : Int) (s0 : Int) (S : nk_S) (R : Int × nk_S), nk_cl ja_Tt l0 = some 5 → ja_X5_without_b47 l0 l5 l9 s0 S = some R → nk_K ja_Tt mi_Γ (mi_ev zs) 2 372 47 [(0, nk_r l0), (5, nk_l l5), (9, nk_l l9)] [nk_l s0] S R := by
  intro l0 l5 l9 s0 S R t_l0 hr
  unfold ja_X5_without_b47 at hr
  refine nk_p (i := .lstore 7) (len := 2) (pc' := 49) mJ_372 (by decide +kernel) (ns_lstore (L' := [(7, nk_l s0), (0, nk_r l0), (5, nk_l l5), (9, nk_l l9)]) rfl rfl (by decide +kernel)) rfl ?_
  refine nk_p (i := .lload 9) (len := 2) (pc' := 51) mJ_372 (by decide +kernel) (ns_lload 3 rfl) rfl ?_
  refine nk_p (i := .lload 5) (len := 2) (pc' := 53) mJ_372 (by decide +kernel) (ns_lload 2 rfl) rfl ?_
  refine nk_p (i := .lcmp) (len := 1) (pc' := 54) mJ_372 (by decide +kernel) ns_lcmp rfl ?_
  refine nk_lcond (c := .ne) (off := 10) (len := 3) (t := 64) (pc' := 57) mJ_372 (by decide +kernel) (by decide +kernel) rfl (fun hc => ?_) (fun hc => ?_)
  · have hr := nk_ifn (c := l9 = l5) hc hr
    refine nk_p (i := .lload 9) (len := 2) (pc' := 66) mJ_372 (by decide +kernel) (ns_lload 3 rfl) rfl ?_
    refine nk_sub [1, 0] (L' := [(0, nk_r l0), (7, nk_l s0)]) rfl ?_
    exact ja_X5_without_b66_ok zs _ _ _ _ _ t_l0 hr
  · have hr := nk_ifp (c := l9 = l5) (Decidable.of_not_not hc) hr
    refine nk_p (i := .lload 9) (len := 2) (pc' := 59) mJ_372 (by decide +kernel) (ns_lload 3 rfl) rfl ?_
    refine nk_p (i := .lconst 1) (len := 1) (pc' := 60) mJ_372 (by decide +kernel) (ns_lconst (c := 1) (by decide +kernel)) rfl ?_
    refine nk_p (i := .lsub) (len := 1) (pc' := 61) mJ_372 (by decide +kernel) ns_lsub rfl ?_
    refine nk_p (i := .goto 5) (len := 3) (pc' := 66) mJ_372 (by decide +kernel) (ns_goto (by decide +kernel)) rfl ?_
    refine nk_sub [1, 0] (L' := [(0, nk_r l0), (7, nk_l s0)]) rfl ?_
    exact ja_X5_without_b66_ok zs _ _ _ _ _ t_l0 hr
noncomputable def ja_X5_without (l0 : Nat) (l1 : Int) (l3 : Int) (S : nk_S) : Option (Int × nk_S) :=
  nk_bd (ja_X5_isSingle l3 S) fun r1 S2 =>
  if r1 = 0 then
    some (l1, S2)
  else
    nk_bd (ja_X5_lowest l3 S2) fun r4 S5 =>
    nk_bd (ja_X5_lowest l1 S5) fun r7 S8 =>
    nk_bd (ja_X5_highest l1 S8) fun r10 S11 =>
    if r7 = r4 then
      ja_X5_without_b47 l0 r4 r10 (nk_W (r7 + 1)) S11
    else
      ja_X5_without_b47 l0 r4 r10 r7 S11
theorem ja_X5_without_ok (zs : List Int32) : ∀ (l0 : Nat) (l1 : Int) (l3 : Int) (S : nk_S) (R : Int × nk_S), nk_cl ja_Tt l0 = some 5 → ja_X5_without l0 l1 l3 S = some R → nk_K ja_Tt mi_Γ (mi_ev zs) 2 372 0 [(0, nk_r l0), (1, nk_l l1), (3, nk_l l3)] [] S R := by
  intro l0 l1 l3 S R t_l0 hr
  unfold ja_X5_without at hr
  refine nk_p (i := .lload_n 3) (len := 1) (pc' := 1) mJ_372 (by decide +kernel) (ns_lload_n 2 rfl rfl) rfl ?_
  obtain ⟨r1, S2, h3, hr⟩ := nk_bde hr
  refine nk_callS (ci := 0) (n := 1) (x := 80) (len := 3) (j' := 361) (q' := 1) (r := r1) (S' := S2) (L2 := [(0, nk_l l3)]) (rest := []) (st' := [nk_i r1]) (pc' := 4) mJ_372 (by decide +kernel) (by decide +kernel) (Nat.le_of_ble_eq_true rfl) rfl rfl (Nat.le_of_ble_eq_true rfl) mJ_361 (Nat.le_of_ble_eq_true rfl) ja_Tpos rfl (ja_X5_isSingle_ok zs _ _ _ h3) rfl ?_
  refine nk_icond (c := .ne) (off := 5) (len := 3) (t := 9) (pc' := 7) mJ_372 (by decide +kernel) (by decide +kernel) rfl (fun hc => ?_) (fun hc => ?_)
  · have hr := nk_ifn (c := r1 = 0) hc hr
    refine nk_p (i := .lload_n 3) (len := 1) (pc' := 10) mJ_372 (by decide +kernel) (ns_lload_n 2 rfl rfl) rfl ?_
    obtain ⟨r4, S5, h6, hr⟩ := nk_bde hr
    refine nk_callS (ci := 0) (n := 1) (x := 19) (len := 3) (j' := 363) (q' := 1) (r := r4) (S' := S5) (L2 := [(0, nk_l l3)]) (rest := []) (st' := [nk_i r4]) (pc' := 13) mJ_372 (by decide +kernel) (by decide +kernel) (Nat.le_of_ble_eq_true rfl) rfl rfl (Nat.le_of_ble_eq_true rfl) mJ_363 (Nat.le_of_ble_eq_true rfl) ja_Tpos rfl (ja_X5_lowest_ok zs _ _ _ h6) rfl ?_
    refine nk_p (i := .i2l) (len := 1) (pc' := 14) mJ_372 (by decide +kernel) ns_i2l rfl ?_
    refine nk_p (i := .lstore 5) (len := 2) (pc' := 16) mJ_372 (by decide +kernel) (ns_lstore (L' := [(5, nk_l r4), (0, nk_r l0), (1, nk_l l1), (3, nk_l l3)]) rfl rfl (by decide +kernel)) rfl ?_
    refine nk_p (i := .lload_n 1) (len := 1) (pc' := 17) mJ_372 (by decide +kernel) (ns_lload_n 2 rfl rfl) rfl ?_
    obtain ⟨r7, S8, h9, hr⟩ := nk_bde hr
    refine nk_callS (ci := 0) (n := 1) (x := 19) (len := 3) (j' := 363) (q' := 1) (r := r7) (S' := S8) (L2 := [(0, nk_l l1)]) (rest := []) (st' := [nk_i r7]) (pc' := 20) mJ_372 (by decide +kernel) (by decide +kernel) (Nat.le_of_ble_eq_true rfl) rfl rfl (Nat.le_of_ble_eq_true rfl) mJ_363 (Nat.le_of_ble_eq_true rfl) ja_Tpos rfl (ja_X5_lowest_ok zs _ _ _ h9) rfl ?_
    refine nk_p (i := .i2l) (len := 1) (pc' := 21) mJ_372 (by decide +kernel) ns_i2l rfl ?_
    refine nk_p (i := .lstore 7) (len := 2) (pc' := 23) mJ_372 (by decide +kernel) (ns_lstore (L' := [(7, nk_l r7), (5, nk_l r4), (0, nk_r l0), (1, nk_l l1), (3, nk_l l3)]) rfl rfl (by decide +kernel)) rfl ?_
    refine nk_p (i := .lload_n 1) (len := 1) (pc' := 24) mJ_372 (by decide +kernel) (ns_lload_n 3 rfl rfl) rfl ?_
    obtain ⟨r10, S11, h12, hr⟩ := nk_bde hr
    refine nk_callS (ci := 0) (n := 1) (x := 29) (len := 3) (j' := 356) (q' := 1) (r := r10) (S' := S11) (L2 := [(0, nk_l l1)]) (rest := []) (st' := [nk_i r10]) (pc' := 27) mJ_372 (by decide +kernel) (by decide +kernel) (Nat.le_of_ble_eq_true rfl) rfl rfl (Nat.le_of_ble_eq_true rfl) mJ_356 (Nat.le_of_ble_eq_true rfl) ja_Tpos rfl (ja_X5_highest_ok zs _ _ _ h12) rfl ?_
    refine nk_p (i := .i2l) (len := 1) (pc' := 28) mJ_372 (by decide +kernel) ns_i2l rfl ?_
    refine nk_p (i := .lstore 9) (len := 2) (pc' := 30) mJ_372 (by decide +kernel) (ns_lstore (L' := [(9, nk_l r10), (7, nk_l r7), (5, nk_l r4), (0, nk_r l0), (1, nk_l l1), (3, nk_l l3)]) rfl rfl (by decide +kernel)) rfl ?_
    refine nk_p (i := .lload 7) (len := 2) (pc' := 32) mJ_372 (by decide +kernel) (ns_lload 1 rfl) rfl ?_
    refine nk_p (i := .lload 5) (len := 2) (pc' := 34) mJ_372 (by decide +kernel) (ns_lload 2 rfl) rfl ?_
    refine nk_p (i := .lcmp) (len := 1) (pc' := 35) mJ_372 (by decide +kernel) ns_lcmp rfl ?_
    refine nk_lcond (c := .ne) (off := 10) (len := 3) (t := 45) (pc' := 38) mJ_372 (by decide +kernel) (by decide +kernel) rfl (fun hc => ?_) (fun hc => ?_)
    · have hr := nk_ifn (c := r7 = r4) hc hr
      refine nk_p (i := .lload 7) (len := 2) (pc' := 47) mJ_372 (by decide +kernel) (ns_lload 1 rfl) rfl ?_
      refine nk_sub [3, 2, 0] (L' := [(0, nk_r l0), (5, nk_l r4), (9, nk_l r10)]) rfl ?_
      exact ja_X5_without_b47_ok zs _ _ _ _ _ _ t_l0 hr
    · have hr := nk_ifp (c := r7 = r4) (Decidable.of_not_not hc) hr
      refine nk_p (i := .lload 7) (len := 2) (pc' := 40) mJ_372 (by decide +kernel) (ns_lload 1 rfl) rfl ?_
      refine nk_p (i := .lconst 1) (len := 1) (pc' := 41) mJ_372 (by decide +kernel) (ns_lconst (c := 1) (by decide +kernel)) rfl ?_
      refine nk_p (i := .ladd) (len := 1) (pc' := 42) mJ_372 (by decide +kernel) ns_ladd rfl ?_
      refine nk_p (i := .goto 5) (len := 3) (pc' := 47) mJ_372 (by decide +kernel) (ns_goto (by decide +kernel)) rfl ?_
      refine nk_sub [3, 2, 0] (L' := [(0, nk_r l0), (5, nk_l r4), (9, nk_l r10)]) rfl ?_
      exact ja_X5_without_b47_ok zs _ _ _ _ _ _ t_l0 hr
  · have hr := nk_ifp (c := r1 = 0) (Decidable.of_not_not hc) hr
    refine nk_p (i := .lload_n 1) (len := 1) (pc' := 8) mJ_372 (by decide +kernel) (ns_lload_n 1 rfl rfl) rfl ?_
    cases hr
    exact nk_lret (len := 1) mJ_372 (by decide +kernel) rfl
/-! SafeCode$Proof makeDifferent (II)Z -/
noncomputable def ja_X4_makeDifferent (l0 : Nat) (l1 : Int) (l2 : Int) (S : nk_S) : Option (Int × nk_S) :=
  if 0 ≤ l1 ∧ l1 < 20 then
  if 0 ≤ l2 ∧ l2 < 20 then
  nk_bd (ja_X5_without (S.2 l0 1) (S.1 (ja_c (ja_c l0 2) 4) l1.toNat) (S.1 (ja_c (ja_c l0 2) 4) l2.toNat) S) fun r6 S7 =>
  nk_bd (ja_X5_without (S7.2 l0 1) (S7.1 (ja_c (ja_c l0 2) 4) l2.toNat) (S7.1 (ja_c (ja_c l0 2) 4) l1.toNat) S7) fun r10 S11 =>
  nk_lt (nk_wi S11 (ja_c (ja_c l0 2) 4) l1.toNat r6) fun S13 =>
  nk_lt (nk_wi S13 (ja_c (ja_c l0 2) 4) l2.toNat r10) fun S15 =>
  nk_bd (ja_X5_isNothing r6 S15) fun r17 S18 =>
  if r17 = 0 then
    nk_bd (ja_X5_isNothing r10 S18) fun r20 S21 =>
    if r20 = 0 then
      some (1, S21)
    else
      some (0, S21)
  else
    some (0, S18)
  else none
  else none
theorem ja_X4_makeDifferent_ok (zs : List Int32) : ∀ (l0 : Nat) (l1 : Int) (l2 : Int) (S : nk_S) (R : Int × nk_S), nk_cl ja_Tt l0 = some 4 → ja_X4_makeDifferent l0 l1 l2 S = some R → nk_K ja_Tt mi_Γ (mi_ev zs) 1 329 0 [(0, nk_r l0), (1, nk_i l1), (2, nk_i l2)] [] S R := by
  intro l0 l1 l2 S R t_l0 hr
  unfold ja_X4_makeDifferent at hr
  refine nk_p (i := .aload_n 0) (len := 1) (pc' := 1) mJ_329 (by decide +kernel) (ns_aload_n 0 rfl rfl) rfl ?_
  refine nk_getM (cj := 5) (z := 0) (x := 52) (len := 3) (ci := 4) (k := 1) (pc' := 4) ja_okT mJ_329 (by decide +kernel) (by decide +kernel) (by decide +kernel) t_l0 rfl (fun t1 => ?_)
  refine nk_p (i := .aload_n 0) (len := 1) (pc' := 5) mJ_329 (by decide +kernel) (ns_aload_n 0 rfl rfl) rfl ?_
  refine nk_getC (f := (2, 7, 0)) (x := 12) (len := 3) (ci := 4) (k := 2) (pc' := 8) ja_okT mJ_329 (by decide +kernel) (by decide +kernel) (by decide +kernel) (by decide) t_l0 rfl ?_
  have t2 : nk_cl ja_Tt (ja_c l0 2) = some 7 := nk_tc (y := 0) ja_okT t_l0 (by decide +kernel)
  refine nk_getC (f := (4, 2, 20)) (x := 299) (len := 3) (ci := 7) (k := 4) (pc' := 11) ja_okT mJ_329 (by decide +kernel) (by decide +kernel) (by decide +kernel) (by decide) t2 rfl ?_
  have t3 : nk_ar ja_Tt (ja_c (ja_c l0 2) 4) = some (2, 20) := nk_ta ja_okT t2 (by decide +kernel)
  refine nk_p (i := .iload_n 1) (len := 1) (pc' := 12) mJ_329 (by decide +kernel) (ns_iload_n 1 rfl rfl) rfl ?_
  obtain ⟨h4, hr⟩ := nk_cke hr
  refine nk_lald (len := 1) (N := 20) (pc' := 13) mJ_329 (by decide +kernel) t3 h4.1 h4.2 rfl rfl ?_
  refine nk_p (i := .aload_n 0) (len := 1) (pc' := 14) mJ_329 (by decide +kernel) (ns_aload_n 0 rfl rfl) rfl ?_
  refine nk_getC (f := (2, 7, 0)) (x := 12) (len := 3) (ci := 4) (k := 2) (pc' := 17) ja_okT mJ_329 (by decide +kernel) (by decide +kernel) (by decide +kernel) (by decide) t_l0 rfl ?_
  refine nk_getC (f := (4, 2, 20)) (x := 299) (len := 3) (ci := 7) (k := 4) (pc' := 20) ja_okT mJ_329 (by decide +kernel) (by decide +kernel) (by decide +kernel) (by decide) t2 rfl ?_
  refine nk_p (i := .iload_n 2) (len := 1) (pc' := 21) mJ_329 (by decide +kernel) (ns_iload_n 2 rfl rfl) rfl ?_
  obtain ⟨h5, hr⟩ := nk_cke hr
  refine nk_lald (len := 1) (N := 20) (pc' := 22) mJ_329 (by decide +kernel) t3 h5.1 h5.2 rfl rfl ?_
  obtain ⟨r6, S7, h8, hr⟩ := nk_bde hr
  refine nk_callV (ci := 5) (n := 2) (x := 375) (len := 3) (j' := 372) (q' := 2) (r := r6) (S' := S7) (L2 := [(0, nk_r (S.2 l0 1)), (1, nk_l (S.1 (ja_c (ja_c l0 2) 4) l1.toNat)), (3, nk_l (S.1 (ja_c (ja_c l0 2) 4) l2.toNat))]) (rest := []) (st' := [nk_l r6]) (pc' := 25) mJ_329 (by decide +kernel) (by decide +kernel) rfl rfl t1 (Nat.le_of_ble_eq_true rfl) mJ_372 (Nat.le_of_ble_eq_true rfl) rfl (ja_X5_without_ok zs _ _ _ _ _ t1 h8) rfl ?_
  refine nk_p (i := .lstore_n 3) (len := 1) (pc' := 26) mJ_329 (by decide +kernel) (ns_lstore_n (L' := [(3, nk_l r6), (0, nk_r l0), (1, nk_i l1), (2, nk_i l2)]) rfl rfl rfl (by decide +kernel)) rfl ?_
  refine nk_p (i := .aload_n 0) (len := 1) (pc' := 27) mJ_329 (by decide +kernel) (ns_aload_n 1 rfl rfl) rfl ?_
  refine nk_getM (cj := 5) (z := 0) (x := 52) (len := 3) (ci := 4) (k := 1) (pc' := 30) ja_okT mJ_329 (by decide +kernel) (by decide +kernel) (by decide +kernel) t_l0 rfl (fun t9 => ?_)
  refine nk_p (i := .aload_n 0) (len := 1) (pc' := 31) mJ_329 (by decide +kernel) (ns_aload_n 1 rfl rfl) rfl ?_
  refine nk_getC (f := (2, 7, 0)) (x := 12) (len := 3) (ci := 4) (k := 2) (pc' := 34) ja_okT mJ_329 (by decide +kernel) (by decide +kernel) (by decide +kernel) (by decide) t_l0 rfl ?_
  refine nk_getC (f := (4, 2, 20)) (x := 299) (len := 3) (ci := 7) (k := 4) (pc' := 37) ja_okT mJ_329 (by decide +kernel) (by decide +kernel) (by decide +kernel) (by decide) t2 rfl ?_
  refine nk_p (i := .iload_n 2) (len := 1) (pc' := 38) mJ_329 (by decide +kernel) (ns_iload_n 3 rfl rfl) rfl ?_
  refine nk_lald (len := 1) (N := 20) (pc' := 39) mJ_329 (by decide +kernel) t3 h5.1 h5.2 rfl rfl ?_
  refine nk_p (i := .aload_n 0) (len := 1) (pc' := 40) mJ_329 (by decide +kernel) (ns_aload_n 1 rfl rfl) rfl ?_
  refine nk_getC (f := (2, 7, 0)) (x := 12) (len := 3) (ci := 4) (k := 2) (pc' := 43) ja_okT mJ_329 (by decide +kernel) (by decide +kernel) (by decide +kernel) (by decide) t_l0 rfl ?_
  refine nk_getC (f := (4, 2, 20)) (x := 299) (len := 3) (ci := 7) (k := 4) (pc' := 46) ja_okT mJ_329 (by decide +kernel) (by decide +kernel) (by decide +kernel) (by decide) t2 rfl ?_
  refine nk_p (i := .iload_n 1) (len := 1) (pc' := 47) mJ_329 (by decide +kernel) (ns_iload_n 2 rfl rfl) rfl ?_
  refine nk_lald (len := 1) (N := 20) (pc' := 48) mJ_329 (by decide +kernel) t3 h4.1 h4.2 rfl rfl ?_
  obtain ⟨r10, S11, h12, hr⟩ := nk_bde hr
  refine nk_callV (ci := 5) (n := 2) (x := 375) (len := 3) (j' := 372) (q' := 2) (r := r10) (S' := S11) (L2 := [(0, nk_r (S7.2 l0 1)), (1, nk_l (S7.1 (ja_c (ja_c l0 2) 4) l2.toNat)), (3, nk_l (S7.1 (ja_c (ja_c l0 2) 4) l1.toNat))]) (rest := []) (st' := [nk_l r10]) (pc' := 51) mJ_329 (by decide +kernel) (by decide +kernel) rfl rfl t9 (Nat.le_of_ble_eq_true rfl) mJ_372 (Nat.le_of_ble_eq_true rfl) rfl (ja_X5_without_ok zs _ _ _ _ _ t9 h12) rfl ?_
  refine nk_p (i := .lstore 5) (len := 2) (pc' := 53) mJ_329 (by decide +kernel) (ns_lstore (L' := [(5, nk_l r10), (3, nk_l r6), (0, nk_r l0), (1, nk_i l1), (2, nk_i l2)]) rfl rfl (by decide +kernel)) rfl ?_
  refine nk_p (i := .aload_n 0) (len := 1) (pc' := 54) mJ_329 (by decide +kernel) (ns_aload_n 2 rfl rfl) rfl ?_
  refine nk_getC (f := (2, 7, 0)) (x := 12) (len := 3) (ci := 4) (k := 2) (pc' := 57) ja_okT mJ_329 (by decide +kernel) (by decide +kernel) (by decide +kernel) (by decide) t_l0 rfl ?_
  refine nk_getC (f := (4, 2, 20)) (x := 299) (len := 3) (ci := 7) (k := 4) (pc' := 60) ja_okT mJ_329 (by decide +kernel) (by decide +kernel) (by decide +kernel) (by decide) t2 rfl ?_
  refine nk_p (i := .iload_n 1) (len := 1) (pc' := 61) mJ_329 (by decide +kernel) (ns_iload_n 3 rfl rfl) rfl ?_
  refine nk_p (i := .lload_n 3) (len := 1) (pc' := 62) mJ_329 (by decide +kernel) (ns_lload_n 1 rfl rfl) rfl ?_
  obtain ⟨S13, h14, hr⟩ := nk_lte hr
  refine nk_last (len := 1) (N := 20) (pc' := 63) mJ_329 (by decide +kernel) t3 h4.1 h4.2 rfl rfl h14 ?_
  refine nk_p (i := .aload_n 0) (len := 1) (pc' := 64) mJ_329 (by decide +kernel) (ns_aload_n 2 rfl rfl) rfl ?_
  refine nk_getC (f := (2, 7, 0)) (x := 12) (len := 3) (ci := 4) (k := 2) (pc' := 67) ja_okT mJ_329 (by decide +kernel) (by decide +kernel) (by decide +kernel) (by decide) t_l0 rfl ?_
  refine nk_getC (f := (4, 2, 20)) (x := 299) (len := 3) (ci := 7) (k := 4) (pc' := 70) ja_okT mJ_329 (by decide +kernel) (by decide +kernel) (by decide +kernel) (by decide) t2 rfl ?_
  refine nk_p (i := .iload_n 2) (len := 1) (pc' := 71) mJ_329 (by decide +kernel) (ns_iload_n 4 rfl rfl) rfl ?_
  refine nk_p (i := .lload 5) (len := 2) (pc' := 73) mJ_329 (by decide +kernel) (ns_lload 0 rfl) rfl ?_
  obtain ⟨S15, h16, hr⟩ := nk_lte hr
  refine nk_last (len := 1) (N := 20) (pc' := 74) mJ_329 (by decide +kernel) t3 h5.1 h5.2 rfl rfl h16 ?_
  refine nk_p (i := .lload_n 3) (len := 1) (pc' := 75) mJ_329 (by decide +kernel) (ns_lload_n 1 rfl rfl) rfl ?_
  obtain ⟨r17, S18, h19, hr⟩ := nk_bde hr
  refine nk_callS (ci := 0) (n := 1) (x := 342) (len := 3) (j' := 360) (q' := 1) (r := r17) (S' := S18) (L2 := [(0, nk_l r6)]) (rest := []) (st' := [nk_i r17]) (pc' := 78) mJ_329 (by decide +kernel) (by decide +kernel) (Nat.le_of_ble_eq_true rfl) rfl rfl (Nat.le_of_ble_eq_true rfl) mJ_360 (Nat.le_of_ble_eq_true rfl) ja_Tpos rfl (ja_X5_isNothing_ok zs _ _ _ h19) rfl ?_
  refine nk_icond (c := .ne) (off := 15) (len := 3) (t := 93) (pc' := 81) mJ_329 (by decide +kernel) (by decide +kernel) rfl (fun hc => ?_) (fun hc => ?_)
  · have hr := nk_ifn (c := r17 = 0) hc hr
    refine nk_p (i := .iconst 0) (len := 1) (pc' := 94) mJ_329 (by decide +kernel) (ns_iconst (c := 0) (by decide +kernel)) rfl ?_
    cases hr
    exact nk_iret (ty := .boolean) (len := 1) mJ_329 (by decide +kernel) rfl (nk_nar_z (by decide))
  · have hr := nk_ifp (c := r17 = 0) (Decidable.of_not_not hc) hr
    refine nk_p (i := .lload 5) (len := 2) (pc' := 83) mJ_329 (by decide +kernel) (ns_lload 0 rfl) rfl ?_
    obtain ⟨r20, S21, h22, hr⟩ := nk_bde hr
    refine nk_callS (ci := 0) (n := 1) (x := 342) (len := 3) (j' := 360) (q' := 1) (r := r20) (S' := S21) (L2 := [(0, nk_l r10)]) (rest := []) (st' := [nk_i r20]) (pc' := 86) mJ_329 (by decide +kernel) (by decide +kernel) (Nat.le_of_ble_eq_true rfl) rfl rfl (Nat.le_of_ble_eq_true rfl) mJ_360 (Nat.le_of_ble_eq_true rfl) ja_Tpos rfl (ja_X5_isNothing_ok zs _ _ _ h22) rfl ?_
    refine nk_icond (c := .ne) (off := 7) (len := 3) (t := 93) (pc' := 89) mJ_329 (by decide +kernel) (by decide +kernel) rfl (fun hc => ?_) (fun hc => ?_)
    · have hr := nk_ifn (c := r20 = 0) hc hr
      refine nk_p (i := .iconst 0) (len := 1) (pc' := 94) mJ_329 (by decide +kernel) (ns_iconst (c := 0) (by decide +kernel)) rfl ?_
      cases hr
      exact nk_iret (ty := .boolean) (len := 1) mJ_329 (by decide +kernel) rfl (nk_nar_z (by decide))
    · have hr := nk_ifp (c := r20 = 0) (Decidable.of_not_not hc) hr
      refine nk_p (i := .iconst 1) (len := 1) (pc' := 90) mJ_329 (by decide +kernel) (ns_iconst (c := 1) (by decide +kernel)) rfl ?_
      refine nk_p (i := .goto 4) (len := 3) (pc' := 94) mJ_329 (by decide +kernel) (ns_goto (by decide +kernel)) rfl ?_
      cases hr
      exact nk_iret (ty := .boolean) (len := 1) mJ_329 (by decide +kernel) rfl (nk_nar_z (by decide))
/-! SafeCode$Ranges cut (JJJ)J -/
noncomputable def ja_X5_cut (l0 : Nat) (l1 : Int) (l3 : Int) (l5 : Int) (S : nk_S) : Option (Int × nk_S) :=
  nk_bd (ja_X5_lowest l1 S) fun r1 S2 =>
  nk_bd (ja_J9_max_f86c9 r1 l3 S2) fun r4 S5 =>
  nk_bd (ja_X5_highest l1 S5) fun r7 S8 =>
  nk_bd (ja_J9_min_f86c9 r7 l5 S8) fun r10 S11 =>
  if r4 ≤ r10 then
    nk_bd (ja_X5_around l0 r4 r10 S11) fun r13 S14 =>
    some (r13, S14)
  else
    some (9223372034707292160, S11)
theorem ja_X5_cut_ok (zs : List Int32) : ∀ (l0 : Nat) (l1 : Int) (l3 : Int) (l5 : Int) (S : nk_S) (R : Int × nk_S), nk_cl ja_Tt l0 = some 5 → ja_X5_cut l0 l1 l3 l5 S = some R → nk_K ja_Tt mi_Γ (mi_ev zs) 2 354 0 [(0, nk_r l0), (1, nk_l l1), (3, nk_l l3), (5, nk_l l5)] [] S R := by
  intro l0 l1 l3 l5 S R t_l0 hr
  unfold ja_X5_cut at hr
  refine nk_p (i := .lload_n 1) (len := 1) (pc' := 1) mJ_354 (by decide +kernel) (ns_lload_n 1 rfl rfl) rfl ?_
  obtain ⟨r1, S2, h3, hr⟩ := nk_bde hr
  refine nk_callS (ci := 0) (n := 1) (x := 19) (len := 3) (j' := 363) (q' := 1) (r := r1) (S' := S2) (L2 := [(0, nk_l l1)]) (rest := []) (st' := [nk_i r1]) (pc' := 4) mJ_354 (by decide +kernel) (by decide +kernel) (Nat.le_of_ble_eq_true rfl) rfl rfl (Nat.le_of_ble_eq_true rfl) mJ_363 (Nat.le_of_ble_eq_true rfl) ja_Tpos rfl (ja_X5_lowest_ok zs _ _ _ h3) rfl ?_
  refine nk_p (i := .i2l) (len := 1) (pc' := 5) mJ_354 (by decide +kernel) ns_i2l rfl ?_
  refine nk_p (i := .lload_n 3) (len := 1) (pc' := 6) mJ_354 (by decide +kernel) (ns_lload_n 2 rfl rfl) rfl ?_
  obtain ⟨r4, S5, h6, hr⟩ := nk_bde hr
  refine nk_callS (ci := 0) (n := 2) (x := 72) (len := 3) (j' := 17) (q' := 2) (r := r4) (S' := S5) (L2 := [(0, nk_l r1), (2, nk_l l3)]) (rest := []) (st' := [nk_l r4]) (pc' := 9) mJ_354 (by decide +kernel) (by decide +kernel) (Nat.le_of_ble_eq_true rfl) rfl rfl (Nat.le_of_ble_eq_true rfl) mJ_17 (Nat.le_of_ble_eq_true rfl) ja_Tpos rfl (ja_J9_max_f86c9_ok zs _ _ _ _ h6) rfl ?_
  refine nk_p (i := .lstore 7) (len := 2) (pc' := 11) mJ_354 (by decide +kernel) (ns_lstore (L' := [(7, nk_l r4), (0, nk_r l0), (1, nk_l l1), (3, nk_l l3), (5, nk_l l5)]) rfl rfl (by decide +kernel)) rfl ?_
  refine nk_p (i := .lload_n 1) (len := 1) (pc' := 12) mJ_354 (by decide +kernel) (ns_lload_n 2 rfl rfl) rfl ?_
  obtain ⟨r7, S8, h9, hr⟩ := nk_bde hr
  refine nk_callS (ci := 0) (n := 1) (x := 29) (len := 3) (j' := 356) (q' := 1) (r := r7) (S' := S8) (L2 := [(0, nk_l l1)]) (rest := []) (st' := [nk_i r7]) (pc' := 15) mJ_354 (by decide +kernel) (by decide +kernel) (Nat.le_of_ble_eq_true rfl) rfl rfl (Nat.le_of_ble_eq_true rfl) mJ_356 (Nat.le_of_ble_eq_true rfl) ja_Tpos rfl (ja_X5_highest_ok zs _ _ _ h9) rfl ?_
  refine nk_p (i := .i2l) (len := 1) (pc' := 16) mJ_354 (by decide +kernel) ns_i2l rfl ?_
  refine nk_p (i := .lload 5) (len := 2) (pc' := 18) mJ_354 (by decide +kernel) (ns_lload 4 rfl) rfl ?_
  obtain ⟨r10, S11, h12, hr⟩ := nk_bde hr
  refine nk_callS (ci := 0) (n := 2) (x := 75) (len := 3) (j' := 19) (q' := 2) (r := r10) (S' := S11) (L2 := [(0, nk_l r7), (2, nk_l l5)]) (rest := []) (st' := [nk_l r10]) (pc' := 21) mJ_354 (by decide +kernel) (by decide +kernel) (Nat.le_of_ble_eq_true rfl) rfl rfl (Nat.le_of_ble_eq_true rfl) mJ_19 (Nat.le_of_ble_eq_true rfl) ja_Tpos rfl (ja_J9_min_f86c9_ok zs _ _ _ _ h12) rfl ?_
  refine nk_p (i := .lstore 9) (len := 2) (pc' := 23) mJ_354 (by decide +kernel) (ns_lstore (L' := [(9, nk_l r10), (7, nk_l r4), (0, nk_r l0), (1, nk_l l1), (3, nk_l l3), (5, nk_l l5)]) rfl rfl (by decide +kernel)) rfl ?_
  refine nk_p (i := .lload 7) (len := 2) (pc' := 25) mJ_354 (by decide +kernel) (ns_lload 1 rfl) rfl ?_
  refine nk_p (i := .lload 9) (len := 2) (pc' := 27) mJ_354 (by decide +kernel) (ns_lload 0 rfl) rfl ?_
  refine nk_p (i := .lcmp) (len := 1) (pc' := 28) mJ_354 (by decide +kernel) ns_lcmp rfl ?_
  refine nk_lcond (c := .le) (off := 9) (len := 3) (t := 37) (pc' := 31) mJ_354 (by decide +kernel) (by decide +kernel) rfl (fun hc => ?_) (fun hc => ?_)
  · have hr := nk_ifp (c := r4 ≤ r10) hc hr
    refine nk_p (i := .aload_n 0) (len := 1) (pc' := 38) mJ_354 (by decide +kernel) (ns_aload_n 2 rfl rfl) rfl ?_
    refine nk_p (i := .lload 7) (len := 2) (pc' := 40) mJ_354 (by decide +kernel) (ns_lload 1 rfl) rfl ?_
    refine nk_p (i := .lload 9) (len := 2) (pc' := 42) mJ_354 (by decide +kernel) (ns_lload 0 rfl) rfl ?_
    obtain ⟨r13, S14, h15, hr⟩ := nk_bde hr
    refine nk_callV (ci := 5) (n := 2) (x := 77) (len := 3) (j' := 349) (q' := 2) (r := r13) (S' := S14) (L2 := [(0, nk_r l0), (1, nk_l r4), (3, nk_l r10)]) (rest := []) (st' := [nk_l r13]) (pc' := 45) mJ_354 (by decide +kernel) (by decide +kernel) rfl rfl t_l0 (Nat.le_of_ble_eq_true rfl) mJ_349 (Nat.le_of_ble_eq_true rfl) rfl (ja_X5_around_ok zs _ _ _ _ _ t_l0 h15) rfl ?_
    cases hr
    exact nk_lret (len := 1) mJ_354 (by decide +kernel) rfl
  · have hr := nk_ifn (c := r4 ≤ r10) hc hr
    refine nk_ldc2 (x := 35) (len := 3) (X := 9223372034707292160) (v := 9223372034707292160) (pc' := 34) mJ_354 (by decide +kernel) (by decide +kernel) (by decide +kernel) rfl ?_
    refine nk_p (i := .goto 11) (len := 3) (pc' := 45) mJ_354 (by decide +kernel) (ns_goto (by decide +kernel)) rfl ?_
    cases hr
    exact nk_lret (len := 1) mJ_354 (by decide +kernel) rfl
/-! SafeCode$Proof makeOrdered (IIZ)Z -/
noncomputable def ja_X4_makeOrdered_b182 (l6 : Int) (l8 : Int) (S : nk_S) : Option (Int × nk_S) :=
  nk_bd (ja_X5_isNothing l6 S) fun r1 S2 =>
  if r1 = 0 then
    nk_bd (ja_X5_isNothing l8 S2) fun r4 S5 =>
    if r4 = 0 then
      some (1, S5)
    else
      some (0, S5)
  else
    some (0, S2)
theorem ja_X4_makeOrdered_b182_ok (zs : List Int32) : ∀ (l6 : Int) (l8 : Int) (S : nk_S) (R : Int × nk_S), ja_X4_makeOrdered_b182 l6 l8 S = some R → nk_K ja_Tt mi_Γ (mi_ev zs) 1 331 182 [(6, nk_l l6), (8, nk_l l8)] [] S R := by
  intro l6 l8 S R hr
  unfold ja_X4_makeOrdered_b182 at hr
  refine nk_p (i := .lload 6) (len := 2) (pc' := 184) mJ_331 (by decide +kernel) (ns_lload 0 rfl) rfl ?_
  obtain ⟨r1, S2, h3, hr⟩ := nk_bde hr
  refine nk_callS (ci := 0) (n := 1) (x := 342) (len := 3) (j' := 360) (q' := 1) (r := r1) (S' := S2) (L2 := [(0, nk_l l6)]) (rest := []) (st' := [nk_i r1]) (pc' := 187) mJ_331 (by decide +kernel) (by decide +kernel) (Nat.le_of_ble_eq_true rfl) rfl rfl (Nat.le_of_ble_eq_true rfl) mJ_360 (Nat.le_of_ble_eq_true rfl) ja_Tpos rfl (ja_X5_isNothing_ok zs _ _ _ h3) rfl ?_
  refine nk_icond (c := .ne) (off := 15) (len := 3) (t := 202) (pc' := 190) mJ_331 (by decide +kernel) (by decide +kernel) rfl (fun hc => ?_) (fun hc => ?_)
  · have hr := nk_ifn (c := r1 = 0) hc hr
    refine nk_p (i := .iconst 0) (len := 1) (pc' := 203) mJ_331 (by decide +kernel) (ns_iconst (c := 0) (by decide +kernel)) rfl ?_
    cases hr
    exact nk_iret (ty := .boolean) (len := 1) mJ_331 (by decide +kernel) rfl (nk_nar_z (by decide))
  · have hr := nk_ifp (c := r1 = 0) (Decidable.of_not_not hc) hr
    refine nk_p (i := .lload 8) (len := 2) (pc' := 192) mJ_331 (by decide +kernel) (ns_lload 1 rfl) rfl ?_
    obtain ⟨r4, S5, h6, hr⟩ := nk_bde hr
    refine nk_callS (ci := 0) (n := 1) (x := 342) (len := 3) (j' := 360) (q' := 1) (r := r4) (S' := S5) (L2 := [(0, nk_l l8)]) (rest := []) (st' := [nk_i r4]) (pc' := 195) mJ_331 (by decide +kernel) (by decide +kernel) (Nat.le_of_ble_eq_true rfl) rfl rfl (Nat.le_of_ble_eq_true rfl) mJ_360 (Nat.le_of_ble_eq_true rfl) ja_Tpos rfl (ja_X5_isNothing_ok zs _ _ _ h6) rfl ?_
    refine nk_icond (c := .ne) (off := 7) (len := 3) (t := 202) (pc' := 198) mJ_331 (by decide +kernel) (by decide +kernel) rfl (fun hc => ?_) (fun hc => ?_)
    · have hr := nk_ifn (c := r4 = 0) hc hr
      refine nk_p (i := .iconst 0) (len := 1) (pc' := 203) mJ_331 (by decide +kernel) (ns_iconst (c := 0) (by decide +kernel)) rfl ?_
      cases hr
      exact nk_iret (ty := .boolean) (len := 1) mJ_331 (by decide +kernel) rfl (nk_nar_z (by decide))
    · have hr := nk_ifp (c := r4 = 0) (Decidable.of_not_not hc) hr
      refine nk_p (i := .iconst 1) (len := 1) (pc' := 199) mJ_331 (by decide +kernel) (ns_iconst (c := 1) (by decide +kernel)) rfl ?_
      refine nk_p (i := .goto 4) (len := 3) (pc' := 203) mJ_331 (by decide +kernel) (ns_goto (by decide +kernel)) rfl ?_
      cases hr
      exact nk_iret (ty := .boolean) (len := 1) mJ_331 (by decide +kernel) rfl (nk_nar_z (by decide))
noncomputable def ja_X4_makeOrdered_b179 (l6 : Int) (l8 : Int) (s0 : Nat) (s1 : Int) (s2 : Int) (s3 : Int) (s4 : Int) (S : nk_S) : Option (Int × nk_S) :=
  if 0 ≤ s1 ∧ s1 < 20 then
  nk_lt (nk_wi S s0 s1.toNat (nk_lor s2 (nk_lor s3 s4))) fun S2 =>
  ja_X4_makeOrdered_b182 l6 l8 S2
  else none
theorem ja_X4_makeOrdered_b179_ok (zs : List Int32) : ∀ (l6 : Int) (l8 : Int) (s0 : Nat) (s1 : Int) (s2 : Int) (s3 : Int) (s4 : Int) (S : nk_S) (R : Int × nk_S), nk_ar ja_Tt s0 = some (2, 20) → ja_X4_makeOrdered_b179 l6 l8 s0 s1 s2 s3 s4 S = some R → nk_K ja_Tt mi_Γ (mi_ev zs) 1 331 179 [(6, nk_l l6), (8, nk_l l8)] [nk_l s4, nk_l s3, nk_l s2, nk_i s1, nk_r s0] S R := by
  intro l6 l8 s0 s1 s2 s3 s4 S R t_s0 hr
  unfold ja_X4_makeOrdered_b179 at hr
  refine nk_p (i := .lor) (len := 1) (pc' := 180) mJ_331 (by decide +kernel) ns_lor rfl ?_
  refine nk_p (i := .lor) (len := 1) (pc' := 181) mJ_331 (by decide +kernel) ns_lor rfl ?_
  obtain ⟨h1, hr⟩ := nk_cke hr
  obtain ⟨S2, h3, hr⟩ := nk_lte hr
  refine nk_last (len := 1) (N := 20) (pc' := 182) mJ_331 (by decide +kernel) t_s0 h1.1 h1.2 rfl rfl h3 ?_
  exact ja_X4_makeOrdered_b182_ok zs _ _ _ _ hr
noncomputable def ja_X4_makeOrdered_b9 (l0 : Nat) (l1 : Int) (l2 : Int) (l3 : Int) (s0 : Int) (S : nk_S) : Option (Int × nk_S) :=
  if 0 ≤ l1 ∧ l1 < 20 then
  if 0 ≤ l2 ∧ l2 < 20 then
  nk_bd (ja_X5_highest (S.1 (ja_c (ja_c l0 2) 4) l2.toNat) S) fun r6 S7 =>
  nk_bd (ja_X5_cut (S.2 l0 1) (S.1 (ja_c (ja_c l0 2) 4) l1.toNat) (-2147483648) (nk_W (r6 - s0)) S7) fun r9 S10 =>
  nk_bd (ja_X5_lowest (S10.1 (ja_c (ja_c l0 2) 4) l1.toNat) S10) fun r13 S14 =>
  nk_bd (ja_X5_cut (S10.2 l0 1) (S10.1 (ja_c (ja_c l0 2) 4) l2.toNat) (nk_W (r13 + s0)) 2147483647 S14) fun r16 S17 =>
  nk_lt (nk_wi S17 (ja_c (ja_c l0 2) 4) l1.toNat r9) fun S19 =>
  nk_lt (nk_wi S19 (ja_c (ja_c l0 2) 4) l2.toNat r16) fun S21 =>
  nk_lt (S21.1 (ja_c (ja_c l0 2) 5) l2.toNat) fun v24 =>
  nk_lt (nk_wi S21 (ja_c (ja_c l0 2) 5) l1.toNat (nk_lor (S21.1 (ja_c (ja_c l0 2) 5) l1.toNat) (nk_land v24 16777215))) fun S26 =>
  if l3 = 0 then
    ja_X4_makeOrdered_b182 r9 r16 S26
  else
    nk_bd (ja_X7_copyOf v24 S26) fun r28 S29 =>
    if 0 ≤ r28 then
      ja_X4_makeOrdered_b179 r9 r16 (ja_c (ja_c l0 2) 5) l1 (S29.1 (ja_c (ja_c l0 2) 5) l1.toNat) (nk_lushr (nk_land v24 68702699520) 12) (nk_lshl 1 r28) S29
    else
      ja_X4_makeOrdered_b179 r9 r16 (ja_c (ja_c l0 2) 5) l1 (S29.1 (ja_c (ja_c l0 2) 5) l1.toNat) (nk_lushr (nk_land v24 68702699520) 12) 0 S29
  else none
  else none
theorem ja_X4_makeOrdered_b9_ok (zs : List Int32) : ∀ (l0 : Nat) (l1 : Int) (l2 : Int) (l3 : Int) (s0 : Int) (S : nk_S) (R : Int × nk_S), nk_cl ja_Tt l0 = some 4 → ja_X4_makeOrdered_b9 l0 l1 l2 l3 s0 S = some R → nk_K ja_Tt mi_Γ (mi_ev zs) 1 331 9 [(0, nk_r l0), (1, nk_i l1), (2, nk_i l2), (3, nk_i l3)] [nk_l s0] S R := by
  intro l0 l1 l2 l3 s0 S R t_l0 hr
  unfold ja_X4_makeOrdered_b9 at hr
  refine nk_p (i := .lstore 4) (len := 2) (pc' := 11) mJ_331 (by decide +kernel) (ns_lstore (L' := [(4, nk_l s0), (0, nk_r l0), (1, nk_i l1), (2, nk_i l2), (3, nk_i l3)]) rfl rfl (by decide +kernel)) rfl ?_
  refine nk_p (i := .aload_n 0) (len := 1) (pc' := 12) mJ_331 (by decide +kernel) (ns_aload_n 1 rfl rfl) rfl ?_
  refine nk_getM (cj := 5) (z := 0) (x := 52) (len := 3) (ci := 4) (k := 1) (pc' := 15) ja_okT mJ_331 (by decide +kernel) (by decide +kernel) (by decide +kernel) t_l0 rfl (fun t1 => ?_)
  refine nk_p (i := .aload_n 0) (len := 1) (pc' := 16) mJ_331 (by decide +kernel) (ns_aload_n 1 rfl rfl) rfl ?_
  refine nk_getC (f := (2, 7, 0)) (x := 12) (len := 3) (ci := 4) (k := 2) (pc' := 19) ja_okT mJ_331 (by decide +kernel) (by decide +kernel) (by decide +kernel) (by decide) t_l0 rfl ?_
  have t2 : nk_cl ja_Tt (ja_c l0 2) = some 7 := nk_tc (y := 0) ja_okT t_l0 (by decide +kernel)
  refine nk_getC (f := (4, 2, 20)) (x := 299) (len := 3) (ci := 7) (k := 4) (pc' := 22) ja_okT mJ_331 (by decide +kernel) (by decide +kernel) (by decide +kernel) (by decide) t2 rfl ?_
  have t3 : nk_ar ja_Tt (ja_c (ja_c l0 2) 4) = some (2, 20) := nk_ta ja_okT t2 (by decide +kernel)
  refine nk_p (i := .iload_n 1) (len := 1) (pc' := 23) mJ_331 (by decide +kernel) (ns_iload_n 2 rfl rfl) rfl ?_
  obtain ⟨h4, hr⟩ := nk_cke hr
  refine nk_lald (len := 1) (N := 20) (pc' := 24) mJ_331 (by decide +kernel) t3 h4.1 h4.2 rfl rfl ?_
  refine nk_ldc2 (x := 380) (len := 3) (X := (-2147483648)) (v := (-2147483648)) (pc' := 27) mJ_331 (by decide +kernel) (by decide +kernel) (by decide +kernel) rfl ?_
  refine nk_p (i := .aload_n 0) (len := 1) (pc' := 28) mJ_331 (by decide +kernel) (ns_aload_n 1 rfl rfl) rfl ?_
  refine nk_getC (f := (2, 7, 0)) (x := 12) (len := 3) (ci := 4) (k := 2) (pc' := 31) ja_okT mJ_331 (by decide +kernel) (by decide +kernel) (by decide +kernel) (by decide) t_l0 rfl ?_
  refine nk_getC (f := (4, 2, 20)) (x := 299) (len := 3) (ci := 7) (k := 4) (pc' := 34) ja_okT mJ_331 (by decide +kernel) (by decide +kernel) (by decide +kernel) (by decide) t2 rfl ?_
  refine nk_p (i := .iload_n 2) (len := 1) (pc' := 35) mJ_331 (by decide +kernel) (ns_iload_n 3 rfl rfl) rfl ?_
  obtain ⟨h5, hr⟩ := nk_cke hr
  refine nk_lald (len := 1) (N := 20) (pc' := 36) mJ_331 (by decide +kernel) t3 h5.1 h5.2 rfl rfl ?_
  obtain ⟨r6, S7, h8, hr⟩ := nk_bde hr
  refine nk_callS (ci := 0) (n := 1) (x := 332) (len := 3) (j' := 356) (q' := 1) (r := r6) (S' := S7) (L2 := [(0, nk_l (S.1 (ja_c (ja_c l0 2) 4) l2.toNat))]) (rest := [nk_l (-2147483648), nk_l (S.1 (ja_c (ja_c l0 2) 4) l1.toNat), nk_r (S.2 l0 1)]) (st' := [nk_i r6, nk_l (-2147483648), nk_l (S.1 (ja_c (ja_c l0 2) 4) l1.toNat), nk_r (S.2 l0 1)]) (pc' := 39) mJ_331 (by decide +kernel) (by decide +kernel) (Nat.le_of_ble_eq_true rfl) rfl rfl (Nat.le_of_ble_eq_true rfl) mJ_356 (Nat.le_of_ble_eq_true rfl) ja_Tpos rfl (ja_X5_highest_ok zs _ _ _ h8) rfl ?_
  refine nk_p (i := .i2l) (len := 1) (pc' := 40) mJ_331 (by decide +kernel) ns_i2l rfl ?_
  refine nk_p (i := .lload 4) (len := 2) (pc' := 42) mJ_331 (by decide +kernel) (ns_lload 0 rfl) rfl ?_
  refine nk_p (i := .lsub) (len := 1) (pc' := 43) mJ_331 (by decide +kernel) ns_lsub rfl ?_
  obtain ⟨r9, S10, h11, hr⟩ := nk_bde hr
  refine nk_callV (ci := 5) (n := 3) (x := 382) (len := 3) (j' := 354) (q' := 2) (r := r9) (S' := S10) (L2 := [(0, nk_r (S.2 l0 1)), (1, nk_l (S.1 (ja_c (ja_c l0 2) 4) l1.toNat)), (3, nk_l (-2147483648)), (5, nk_l (nk_W (r6 - s0)))]) (rest := []) (st' := [nk_l r9]) (pc' := 46) mJ_331 (by decide +kernel) (by decide +kernel) rfl rfl t1 (Nat.le_of_ble_eq_true rfl) mJ_354 (Nat.le_of_ble_eq_true rfl) rfl (ja_X5_cut_ok zs _ _ _ _ _ _ t1 h11) rfl ?_
  refine nk_p (i := .lstore 6) (len := 2) (pc' := 48) mJ_331 (by decide +kernel) (ns_lstore (L' := [(6, nk_l r9), (4, nk_l s0), (0, nk_r l0), (1, nk_i l1), (2, nk_i l2), (3, nk_i l3)]) rfl rfl (by decide +kernel)) rfl ?_
  refine nk_p (i := .aload_n 0) (len := 1) (pc' := 49) mJ_331 (by decide +kernel) (ns_aload_n 2 rfl rfl) rfl ?_
  refine nk_getM (cj := 5) (z := 0) (x := 52) (len := 3) (ci := 4) (k := 1) (pc' := 52) ja_okT mJ_331 (by decide +kernel) (by decide +kernel) (by decide +kernel) t_l0 rfl (fun t12 => ?_)
  refine nk_p (i := .aload_n 0) (len := 1) (pc' := 53) mJ_331 (by decide +kernel) (ns_aload_n 2 rfl rfl) rfl ?_
  refine nk_getC (f := (2, 7, 0)) (x := 12) (len := 3) (ci := 4) (k := 2) (pc' := 56) ja_okT mJ_331 (by decide +kernel) (by decide +kernel) (by decide +kernel) (by decide) t_l0 rfl ?_
  refine nk_getC (f := (4, 2, 20)) (x := 299) (len := 3) (ci := 7) (k := 4) (pc' := 59) ja_okT mJ_331 (by decide +kernel) (by decide +kernel) (by decide +kernel) (by decide) t2 rfl ?_
  refine nk_p (i := .iload_n 2) (len := 1) (pc' := 60) mJ_331 (by decide +kernel) (ns_iload_n 4 rfl rfl) rfl ?_
  refine nk_lald (len := 1) (N := 20) (pc' := 61) mJ_331 (by decide +kernel) t3 h5.1 h5.2 rfl rfl ?_
  refine nk_p (i := .aload_n 0) (len := 1) (pc' := 62) mJ_331 (by decide +kernel) (ns_aload_n 2 rfl rfl) rfl ?_
  refine nk_getC (f := (2, 7, 0)) (x := 12) (len := 3) (ci := 4) (k := 2) (pc' := 65) ja_okT mJ_331 (by decide +kernel) (by decide +kernel) (by decide +kernel) (by decide) t_l0 rfl ?_
  refine nk_getC (f := (4, 2, 20)) (x := 299) (len := 3) (ci := 7) (k := 4) (pc' := 68) ja_okT mJ_331 (by decide +kernel) (by decide +kernel) (by decide +kernel) (by decide) t2 rfl ?_
  refine nk_p (i := .iload_n 1) (len := 1) (pc' := 69) mJ_331 (by decide +kernel) (ns_iload_n 3 rfl rfl) rfl ?_
  refine nk_lald (len := 1) (N := 20) (pc' := 70) mJ_331 (by decide +kernel) t3 h4.1 h4.2 rfl rfl ?_
  obtain ⟨r13, S14, h15, hr⟩ := nk_bde hr
  refine nk_callS (ci := 0) (n := 1) (x := 328) (len := 3) (j' := 363) (q' := 1) (r := r13) (S' := S14) (L2 := [(0, nk_l (S10.1 (ja_c (ja_c l0 2) 4) l1.toNat))]) (rest := [nk_l (S10.1 (ja_c (ja_c l0 2) 4) l2.toNat), nk_r (S10.2 l0 1)]) (st' := [nk_i r13, nk_l (S10.1 (ja_c (ja_c l0 2) 4) l2.toNat), nk_r (S10.2 l0 1)]) (pc' := 73) mJ_331 (by decide +kernel) (by decide +kernel) (Nat.le_of_ble_eq_true rfl) rfl rfl (Nat.le_of_ble_eq_true rfl) mJ_363 (Nat.le_of_ble_eq_true rfl) ja_Tpos rfl (ja_X5_lowest_ok zs _ _ _ h15) rfl ?_
  refine nk_p (i := .i2l) (len := 1) (pc' := 74) mJ_331 (by decide +kernel) ns_i2l rfl ?_
  refine nk_p (i := .lload 4) (len := 2) (pc' := 76) mJ_331 (by decide +kernel) (ns_lload 1 rfl) rfl ?_
  refine nk_p (i := .ladd) (len := 1) (pc' := 77) mJ_331 (by decide +kernel) ns_ladd rfl ?_
  refine nk_ldc2 (x := 386) (len := 3) (X := 2147483647) (v := 2147483647) (pc' := 80) mJ_331 (by decide +kernel) (by decide +kernel) (by decide +kernel) rfl ?_
  obtain ⟨r16, S17, h18, hr⟩ := nk_bde hr
  refine nk_callV (ci := 5) (n := 3) (x := 382) (len := 3) (j' := 354) (q' := 2) (r := r16) (S' := S17) (L2 := [(0, nk_r (S10.2 l0 1)), (1, nk_l (S10.1 (ja_c (ja_c l0 2) 4) l2.toNat)), (3, nk_l (nk_W (r13 + s0))), (5, nk_l 2147483647)]) (rest := []) (st' := [nk_l r16]) (pc' := 83) mJ_331 (by decide +kernel) (by decide +kernel) rfl rfl t12 (Nat.le_of_ble_eq_true rfl) mJ_354 (Nat.le_of_ble_eq_true rfl) rfl (ja_X5_cut_ok zs _ _ _ _ _ _ t12 h18) rfl ?_
  refine nk_p (i := .lstore 8) (len := 2) (pc' := 85) mJ_331 (by decide +kernel) (ns_lstore (L' := [(8, nk_l r16), (6, nk_l r9), (4, nk_l s0), (0, nk_r l0), (1, nk_i l1), (2, nk_i l2), (3, nk_i l3)]) rfl rfl (by decide +kernel)) rfl ?_
  refine nk_p (i := .aload_n 0) (len := 1) (pc' := 86) mJ_331 (by decide +kernel) (ns_aload_n 3 rfl rfl) rfl ?_
  refine nk_getC (f := (2, 7, 0)) (x := 12) (len := 3) (ci := 4) (k := 2) (pc' := 89) ja_okT mJ_331 (by decide +kernel) (by decide +kernel) (by decide +kernel) (by decide) t_l0 rfl ?_
  refine nk_getC (f := (4, 2, 20)) (x := 299) (len := 3) (ci := 7) (k := 4) (pc' := 92) ja_okT mJ_331 (by decide +kernel) (by decide +kernel) (by decide +kernel) (by decide) t2 rfl ?_
  refine nk_p (i := .iload_n 1) (len := 1) (pc' := 93) mJ_331 (by decide +kernel) (ns_iload_n 4 rfl rfl) rfl ?_
  refine nk_p (i := .lload 6) (len := 2) (pc' := 95) mJ_331 (by decide +kernel) (ns_lload 1 rfl) rfl ?_
  obtain ⟨S19, h20, hr⟩ := nk_lte hr
  refine nk_last (len := 1) (N := 20) (pc' := 96) mJ_331 (by decide +kernel) t3 h4.1 h4.2 rfl rfl h20 ?_
  refine nk_p (i := .aload_n 0) (len := 1) (pc' := 97) mJ_331 (by decide +kernel) (ns_aload_n 3 rfl rfl) rfl ?_
  refine nk_getC (f := (2, 7, 0)) (x := 12) (len := 3) (ci := 4) (k := 2) (pc' := 100) ja_okT mJ_331 (by decide +kernel) (by decide +kernel) (by decide +kernel) (by decide) t_l0 rfl ?_
  refine nk_getC (f := (4, 2, 20)) (x := 299) (len := 3) (ci := 7) (k := 4) (pc' := 103) ja_okT mJ_331 (by decide +kernel) (by decide +kernel) (by decide +kernel) (by decide) t2 rfl ?_
  refine nk_p (i := .iload_n 2) (len := 1) (pc' := 104) mJ_331 (by decide +kernel) (ns_iload_n 5 rfl rfl) rfl ?_
  refine nk_p (i := .lload 8) (len := 2) (pc' := 106) mJ_331 (by decide +kernel) (ns_lload 0 rfl) rfl ?_
  obtain ⟨S21, h22, hr⟩ := nk_lte hr
  refine nk_last (len := 1) (N := 20) (pc' := 107) mJ_331 (by decide +kernel) t3 h5.1 h5.2 rfl rfl h22 ?_
  refine nk_p (i := .aload_n 0) (len := 1) (pc' := 108) mJ_331 (by decide +kernel) (ns_aload_n 3 rfl rfl) rfl ?_
  refine nk_getC (f := (2, 7, 0)) (x := 12) (len := 3) (ci := 4) (k := 2) (pc' := 111) ja_okT mJ_331 (by decide +kernel) (by decide +kernel) (by decide +kernel) (by decide) t_l0 rfl ?_
  refine nk_getC (f := (4, 2, 20)) (x := 302) (len := 3) (ci := 7) (k := 5) (pc' := 114) ja_okT mJ_331 (by decide +kernel) (by decide +kernel) (by decide +kernel) (by decide) t2 rfl ?_
  have t23 : nk_ar ja_Tt (ja_c (ja_c l0 2) 5) = some (2, 20) := nk_ta ja_okT t2 (by decide +kernel)
  refine nk_p (i := .iload_n 2) (len := 1) (pc' := 115) mJ_331 (by decide +kernel) (ns_iload_n 5 rfl rfl) rfl ?_
  refine nk_lald (len := 1) (N := 20) (pc' := 116) mJ_331 (by decide +kernel) t23 h5.1 h5.2 rfl rfl ?_
  obtain ⟨v24, h25, hr⟩ := nk_lte hr
  refine nk_p (i := .lstore 10) (len := 2) (pc' := 118) mJ_331 (by decide +kernel) (ns_lstore (L' := [(10, nk_l v24), (8, nk_l r16), (6, nk_l r9), (4, nk_l s0), (0, nk_r l0), (1, nk_i l1), (2, nk_i l2), (3, nk_i l3)]) h25 rfl (by decide +kernel)) rfl ?_
  refine nk_p (i := .aload_n 0) (len := 1) (pc' := 119) mJ_331 (by decide +kernel) (ns_aload_n 4 rfl rfl) rfl ?_
  refine nk_getC (f := (2, 7, 0)) (x := 12) (len := 3) (ci := 4) (k := 2) (pc' := 122) ja_okT mJ_331 (by decide +kernel) (by decide +kernel) (by decide +kernel) (by decide) t_l0 rfl ?_
  refine nk_getC (f := (4, 2, 20)) (x := 302) (len := 3) (ci := 7) (k := 5) (pc' := 125) ja_okT mJ_331 (by decide +kernel) (by decide +kernel) (by decide +kernel) (by decide) t2 rfl ?_
  refine nk_p (i := .iload_n 1) (len := 1) (pc' := 126) mJ_331 (by decide +kernel) (ns_iload_n 5 rfl rfl) rfl ?_
  refine nk_p (i := .dup2) (len := 1) (pc' := 127) mJ_331 (by decide +kernel) (ns_dup2 rfl rfl) rfl ?_
  refine nk_lald (len := 1) (N := 20) (pc' := 128) mJ_331 (by decide +kernel) t23 h4.1 h4.2 rfl rfl ?_
  refine nk_p (i := .lload 10) (len := 2) (pc' := 130) mJ_331 (by decide +kernel) (ns_lload 0 rfl) rfl ?_
  refine nk_ldc2 (x := 388) (len := 3) (X := 16777215) (v := 16777215) (pc' := 133) mJ_331 (by decide +kernel) (by decide +kernel) (by decide +kernel) rfl ?_
  refine nk_p (i := .land) (len := 1) (pc' := 134) mJ_331 (by decide +kernel) ns_land rfl ?_
  refine nk_p (i := .lor) (len := 1) (pc' := 135) mJ_331 (by decide +kernel) ns_lor rfl ?_
  obtain ⟨S26, h27, hr⟩ := nk_lte hr
  refine nk_last (len := 1) (N := 20) (pc' := 136) mJ_331 (by decide +kernel) t23 h4.1 h4.2 rfl rfl h27 ?_
  refine nk_p (i := .iload_n 3) (len := 1) (pc' := 137) mJ_331 (by decide +kernel) (ns_iload_n 7 rfl rfl) rfl ?_
  refine nk_icond (c := .eq) (off := 45) (len := 3) (t := 182) (pc' := 140) mJ_331 (by decide +kernel) (by decide +kernel) rfl (fun hc => ?_) (fun hc => ?_)
  · have hr := nk_ifp (c := l3 = 0) hc hr
    refine nk_sub [2, 1] (L' := [(6, nk_l r9), (8, nk_l r16)]) rfl ?_
    exact ja_X4_makeOrdered_b182_ok zs _ _ _ _ hr
  · have hr := nk_ifn (c := l3 = 0) hc hr
    refine nk_p (i := .lload 10) (len := 2) (pc' := 142) mJ_331 (by decide +kernel) (ns_lload 0 rfl) rfl ?_
    obtain ⟨r28, S29, h30, hr⟩ := nk_bde hr
    refine nk_callS (ci := 0) (n := 1) (x := 390) (len := 3) (j' := 400) (q' := 1) (r := r28) (S' := S29) (L2 := [(0, nk_l v24)]) (rest := []) (st' := [nk_i r28]) (pc' := 145) mJ_331 (by decide +kernel) (by decide +kernel) (Nat.le_of_ble_eq_true rfl) rfl rfl (Nat.le_of_ble_eq_true rfl) mJ_400 (Nat.le_of_ble_eq_true rfl) ja_Tpos rfl (ja_X7_copyOf_ok zs _ _ _ h30) rfl ?_
    refine nk_p (i := .istore 12) (len := 2) (pc' := 147) mJ_331 (by decide +kernel) (ns_istore (L' := [(12, nk_i r28), (10, nk_l v24), (8, nk_l r16), (6, nk_l r9), (4, nk_l s0), (0, nk_r l0), (1, nk_i l1), (2, nk_i l2), (3, nk_i l3)]) rfl rfl (by decide +kernel)) rfl ?_
    refine nk_p (i := .aload_n 0) (len := 1) (pc' := 148) mJ_331 (by decide +kernel) (ns_aload_n 5 rfl rfl) rfl ?_
    refine nk_getC (f := (2, 7, 0)) (x := 12) (len := 3) (ci := 4) (k := 2) (pc' := 151) ja_okT mJ_331 (by decide +kernel) (by decide +kernel) (by decide +kernel) (by decide) t_l0 rfl ?_
    refine nk_getC (f := (4, 2, 20)) (x := 302) (len := 3) (ci := 7) (k := 5) (pc' := 154) ja_okT mJ_331 (by decide +kernel) (by decide +kernel) (by decide +kernel) (by decide) t2 rfl ?_
    refine nk_p (i := .iload_n 1) (len := 1) (pc' := 155) mJ_331 (by decide +kernel) (ns_iload_n 6 rfl rfl) rfl ?_
    refine nk_p (i := .dup2) (len := 1) (pc' := 156) mJ_331 (by decide +kernel) (ns_dup2 rfl rfl) rfl ?_
    refine nk_lald (len := 1) (N := 20) (pc' := 157) mJ_331 (by decide +kernel) t23 h4.1 h4.2 rfl rfl ?_
    refine nk_p (i := .lload 10) (len := 2) (pc' := 159) mJ_331 (by decide +kernel) (ns_lload 1 rfl) rfl ?_
    refine nk_ldc2 (x := 393) (len := 3) (X := 68702699520) (v := 68702699520) (pc' := 162) mJ_331 (by decide +kernel) (by decide +kernel) (by decide +kernel) rfl ?_
    refine nk_p (i := .land) (len := 1) (pc' := 163) mJ_331 (by decide +kernel) ns_land rfl ?_
    refine nk_p (i := .bipush 12) (len := 2) (pc' := 165) mJ_331 (by decide +kernel) (ns_bipush (c := 12) (by decide +kernel)) rfl ?_
    refine nk_p (i := .lushr) (len := 1) (pc' := 166) mJ_331 (by decide +kernel) ns_lushr rfl ?_
    refine nk_p (i := .iload 12) (len := 2) (pc' := 168) mJ_331 (by decide +kernel) (ns_iload 0 rfl) rfl ?_
    refine nk_icond (c := .ge) (off := 7) (len := 3) (t := 175) (pc' := 171) mJ_331 (by decide +kernel) (by decide +kernel) rfl (fun hc => ?_) (fun hc => ?_)
    · have hr := nk_ifp (c := 0 ≤ r28) hc hr
      refine nk_p (i := .lconst 1) (len := 1) (pc' := 176) mJ_331 (by decide +kernel) (ns_lconst (c := 1) (by decide +kernel)) rfl ?_
      refine nk_p (i := .iload 12) (len := 2) (pc' := 178) mJ_331 (by decide +kernel) (ns_iload 0 rfl) rfl ?_
      refine nk_p (i := .lshl) (len := 1) (pc' := 179) mJ_331 (by decide +kernel) ns_lshl rfl ?_
      refine nk_sub [3, 2] (L' := [(6, nk_l r9), (8, nk_l r16)]) rfl ?_
      exact ja_X4_makeOrdered_b179_ok zs _ _ _ _ _ _ _ _ _ t23 hr
    · have hr := nk_ifn (c := 0 ≤ r28) hc hr
      refine nk_p (i := .lconst 0) (len := 1) (pc' := 172) mJ_331 (by decide +kernel) (ns_lconst (c := 0) (by decide +kernel)) rfl ?_
      refine nk_p (i := .goto 7) (len := 3) (pc' := 179) mJ_331 (by decide +kernel) (ns_goto (by decide +kernel)) rfl ?_
      refine nk_sub [3, 2] (L' := [(6, nk_l r9), (8, nk_l r16)]) rfl ?_
      exact ja_X4_makeOrdered_b179_ok zs _ _ _ _ _ _ _ _ _ t23 hr
noncomputable def ja_X4_makeOrdered (l0 : Nat) (l1 : Int) (l2 : Int) (l3 : Int) (S : nk_S) : Option (Int × nk_S) :=
  if l3 = 0 then
    ja_X4_makeOrdered_b9 l0 l1 l2 l3 0 S
  else
    ja_X4_makeOrdered_b9 l0 l1 l2 l3 1 S
theorem ja_X4_makeOrdered_ok (zs : List Int32) : ∀ (l0 : Nat) (l1 : Int) (l2 : Int) (l3 : Int) (S : nk_S) (R : Int × nk_S), nk_cl ja_Tt l0 = some 4 → ja_X4_makeOrdered l0 l1 l2 l3 S = some R → nk_K ja_Tt mi_Γ (mi_ev zs) 1 331 0 [(0, nk_r l0), (1, nk_i l1), (2, nk_i l2), (3, nk_i l3)] [] S R := by
  intro l0 l1 l2 l3 S R t_l0 hr
  unfold ja_X4_makeOrdered at hr
  refine nk_p (i := .iload_n 3) (len := 1) (pc' := 1) mJ_331 (by decide +kernel) (ns_iload_n 3 rfl rfl) rfl ?_
  refine nk_icond (c := .eq) (off := 7) (len := 3) (t := 8) (pc' := 4) mJ_331 (by decide +kernel) (by decide +kernel) rfl (fun hc => ?_) (fun hc => ?_)
  · have hr := nk_ifp (c := l3 = 0) hc hr
    refine nk_p (i := .lconst 0) (len := 1) (pc' := 9) mJ_331 (by decide +kernel) (ns_lconst (c := 0) (by decide +kernel)) rfl ?_
    exact ja_X4_makeOrdered_b9_ok zs _ _ _ _ _ _ _ t_l0 hr
  · have hr := nk_ifn (c := l3 = 0) hc hr
    refine nk_p (i := .lconst 1) (len := 1) (pc' := 5) mJ_331 (by decide +kernel) (ns_lconst (c := 1) (by decide +kernel)) rfl ?_
    refine nk_p (i := .goto 4) (len := 3) (pc' := 9) mJ_331 (by decide +kernel) (ns_goto (by decide +kernel)) rfl ?_
    exact ja_X4_makeOrdered_b9_ok zs _ _ _ _ _ _ _ t_l0 hr
/-! SafeCode$States narrow (IJJ)Z -/
noncomputable def ja_X7_narrow (l0 : Nat) (l1 : Int) (l2 : Int) (l4 : Int) (S : nk_S) : Option (Int × nk_S) :=
  if 0 ≤ l1 ∧ l1 < 20 then
  nk_bd (ja_X7_copyOf (S.1 (ja_c l0 5) l1.toNat) S) fun r3 S4 =>
  if 0 ≤ r3 then
    if 0 ≤ r3 ∧ r3 < 20 then
    nk_bd (ja_X5_common (S4.1 (ja_c l0 4) r3.toNat) l2 S4) fun r8 S9 =>
    nk_lt (nk_wi S9 (ja_c l0 4) r3.toNat r8) fun S11 =>
    nk_lt (nk_wi S11 (ja_c l0 5) r3.toNat (nk_lor (S11.1 (ja_c l0 5) r3.toNat) l4)) fun S13 =>
    nk_bd (ja_X5_isNothing (S13.1 (ja_c l0 4) r3.toNat) S13) fun r15 S16 =>
    if r15 = 0 then
      some (1, S16)
    else
      some (0, S16)
    else none
  else
    some (1, S4)
  else none
theorem ja_X7_narrow_ok (zs : List Int32) : ∀ (l0 : Nat) (l1 : Int) (l2 : Int) (l4 : Int) (S : nk_S) (R : Int × nk_S), nk_cl ja_Tt l0 = some 7 → ja_X7_narrow l0 l1 l2 l4 S = some R → nk_K ja_Tt mi_Γ (mi_ev zs) 1 407 0 [(0, nk_r l0), (1, nk_i l1), (2, nk_l l2), (4, nk_l l4)] [] S R := by
  intro l0 l1 l2 l4 S R t_l0 hr
  unfold ja_X7_narrow at hr
  refine nk_p (i := .aload_n 0) (len := 1) (pc' := 1) mJ_407 (by decide +kernel) (ns_aload_n 0 rfl rfl) rfl ?_
  refine nk_getC (f := (4, 2, 20)) (x := 28) (len := 3) (ci := 7) (k := 5) (pc' := 4) ja_okT mJ_407 (by decide +kernel) (by decide +kernel) (by decide +kernel) (by decide) t_l0 rfl ?_
  have t1 : nk_ar ja_Tt (ja_c l0 5) = some (2, 20) := nk_ta ja_okT t_l0 (by decide +kernel)
  refine nk_p (i := .iload_n 1) (len := 1) (pc' := 5) mJ_407 (by decide +kernel) (ns_iload_n 1 rfl rfl) rfl ?_
  obtain ⟨h2, hr⟩ := nk_cke hr
  refine nk_lald (len := 1) (N := 20) (pc' := 6) mJ_407 (by decide +kernel) t1 h2.1 h2.2 rfl rfl ?_
  obtain ⟨r3, S4, h5, hr⟩ := nk_bde hr
  refine nk_callS (ci := 0) (n := 1) (x := 66) (len := 3) (j' := 400) (q' := 1) (r := r3) (S' := S4) (L2 := [(0, nk_l (S.1 (ja_c l0 5) l1.toNat))]) (rest := []) (st' := [nk_i r3]) (pc' := 9) mJ_407 (by decide +kernel) (by decide +kernel) (Nat.le_of_ble_eq_true rfl) rfl rfl (Nat.le_of_ble_eq_true rfl) mJ_400 (Nat.le_of_ble_eq_true rfl) ja_Tpos rfl (ja_X7_copyOf_ok zs _ _ _ h5) rfl ?_
  refine nk_p (i := .istore 6) (len := 2) (pc' := 11) mJ_407 (by decide +kernel) (ns_istore (L' := [(6, nk_i r3), (0, nk_r l0), (1, nk_i l1), (2, nk_l l2), (4, nk_l l4)]) rfl rfl (by decide +kernel)) rfl ?_
  refine nk_p (i := .iload 6) (len := 2) (pc' := 13) mJ_407 (by decide +kernel) (ns_iload 0 rfl) rfl ?_
  refine nk_icond (c := .ge) (off := 5) (len := 3) (t := 18) (pc' := 16) mJ_407 (by decide +kernel) (by decide +kernel) rfl (fun hc => ?_) (fun hc => ?_)
  · have hr := nk_ifp (c := 0 ≤ r3) hc hr
    refine nk_p (i := .aload_n 0) (len := 1) (pc' := 19) mJ_407 (by decide +kernel) (ns_aload_n 1 rfl rfl) rfl ?_
    refine nk_getC (f := (4, 2, 20)) (x := 25) (len := 3) (ci := 7) (k := 4) (pc' := 22) ja_okT mJ_407 (by decide +kernel) (by decide +kernel) (by decide +kernel) (by decide) t_l0 rfl ?_
    have t6 : nk_ar ja_Tt (ja_c l0 4) = some (2, 20) := nk_ta ja_okT t_l0 (by decide +kernel)
    refine nk_p (i := .iload 6) (len := 2) (pc' := 24) mJ_407 (by decide +kernel) (ns_iload 0 rfl) rfl ?_
    refine nk_p (i := .aload_n 0) (len := 1) (pc' := 25) mJ_407 (by decide +kernel) (ns_aload_n 1 rfl rfl) rfl ?_
    refine nk_getC (f := (4, 2, 20)) (x := 25) (len := 3) (ci := 7) (k := 4) (pc' := 28) ja_okT mJ_407 (by decide +kernel) (by decide +kernel) (by decide +kernel) (by decide) t_l0 rfl ?_
    refine nk_p (i := .iload 6) (len := 2) (pc' := 30) mJ_407 (by decide +kernel) (ns_iload 0 rfl) rfl ?_
    obtain ⟨h7, hr⟩ := nk_cke hr
    refine nk_lald (len := 1) (N := 20) (pc' := 31) mJ_407 (by decide +kernel) t6 h7.1 h7.2 rfl rfl ?_
    refine nk_p (i := .lload_n 2) (len := 1) (pc' := 32) mJ_407 (by decide +kernel) (ns_lload_n 3 rfl rfl) rfl ?_
    obtain ⟨r8, S9, h10, hr⟩ := nk_bde hr
    refine nk_callS (ci := 0) (n := 2) (x := 75) (len := 3) (j' := 352) (q' := 2) (r := r8) (S' := S9) (L2 := [(0, nk_l (S4.1 (ja_c l0 4) r3.toNat)), (2, nk_l l2)]) (rest := [nk_i r3, nk_r (ja_c l0 4)]) (st' := [nk_l r8, nk_i r3, nk_r (ja_c l0 4)]) (pc' := 35) mJ_407 (by decide +kernel) (by decide +kernel) (Nat.le_of_ble_eq_true rfl) rfl rfl (Nat.le_of_ble_eq_true rfl) mJ_352 (Nat.le_of_ble_eq_true rfl) ja_Tpos rfl (ja_X5_common_ok zs _ _ _ _ h10) rfl ?_
    obtain ⟨S11, h12, hr⟩ := nk_lte hr
    refine nk_last (len := 1) (N := 20) (pc' := 36) mJ_407 (by decide +kernel) t6 h7.1 h7.2 rfl rfl h12 ?_
    refine nk_p (i := .aload_n 0) (len := 1) (pc' := 37) mJ_407 (by decide +kernel) (ns_aload_n 1 rfl rfl) rfl ?_
    refine nk_getC (f := (4, 2, 20)) (x := 28) (len := 3) (ci := 7) (k := 5) (pc' := 40) ja_okT mJ_407 (by decide +kernel) (by decide +kernel) (by decide +kernel) (by decide) t_l0 rfl ?_
    refine nk_p (i := .iload 6) (len := 2) (pc' := 42) mJ_407 (by decide +kernel) (ns_iload 0 rfl) rfl ?_
    refine nk_p (i := .dup2) (len := 1) (pc' := 43) mJ_407 (by decide +kernel) (ns_dup2 rfl rfl) rfl ?_
    refine nk_lald (len := 1) (N := 20) (pc' := 44) mJ_407 (by decide +kernel) t1 h7.1 h7.2 rfl rfl ?_
    refine nk_p (i := .lload 4) (len := 2) (pc' := 46) mJ_407 (by decide +kernel) (ns_lload 4 rfl) rfl ?_
    refine nk_p (i := .lor) (len := 1) (pc' := 47) mJ_407 (by decide +kernel) ns_lor rfl ?_
    obtain ⟨S13, h14, hr⟩ := nk_lte hr
    refine nk_last (len := 1) (N := 20) (pc' := 48) mJ_407 (by decide +kernel) t1 h7.1 h7.2 rfl rfl h14 ?_
    refine nk_p (i := .aload_n 0) (len := 1) (pc' := 49) mJ_407 (by decide +kernel) (ns_aload_n 1 rfl rfl) rfl ?_
    refine nk_getC (f := (4, 2, 20)) (x := 25) (len := 3) (ci := 7) (k := 4) (pc' := 52) ja_okT mJ_407 (by decide +kernel) (by decide +kernel) (by decide +kernel) (by decide) t_l0 rfl ?_
    refine nk_p (i := .iload 6) (len := 2) (pc' := 54) mJ_407 (by decide +kernel) (ns_iload 0 rfl) rfl ?_
    refine nk_lald (len := 1) (N := 20) (pc' := 55) mJ_407 (by decide +kernel) t6 h7.1 h7.2 rfl rfl ?_
    obtain ⟨r15, S16, h17, hr⟩ := nk_bde hr
    refine nk_callS (ci := 0) (n := 1) (x := 81) (len := 3) (j' := 360) (q' := 1) (r := r15) (S' := S16) (L2 := [(0, nk_l (S13.1 (ja_c l0 4) r3.toNat))]) (rest := []) (st' := [nk_i r15]) (pc' := 58) mJ_407 (by decide +kernel) (by decide +kernel) (Nat.le_of_ble_eq_true rfl) rfl rfl (Nat.le_of_ble_eq_true rfl) mJ_360 (Nat.le_of_ble_eq_true rfl) ja_Tpos rfl (ja_X5_isNothing_ok zs _ _ _ h17) rfl ?_
    refine nk_icond (c := .ne) (off := 7) (len := 3) (t := 65) (pc' := 61) mJ_407 (by decide +kernel) (by decide +kernel) rfl (fun hc => ?_) (fun hc => ?_)
    · have hr := nk_ifn (c := r15 = 0) hc hr
      refine nk_p (i := .iconst 0) (len := 1) (pc' := 66) mJ_407 (by decide +kernel) (ns_iconst (c := 0) (by decide +kernel)) rfl ?_
      cases hr
      exact nk_iret (ty := .boolean) (len := 1) mJ_407 (by decide +kernel) rfl (nk_nar_z (by decide))
    · have hr := nk_ifp (c := r15 = 0) (Decidable.of_not_not hc) hr
      refine nk_p (i := .iconst 1) (len := 1) (pc' := 62) mJ_407 (by decide +kernel) (ns_iconst (c := 1) (by decide +kernel)) rfl ?_
      refine nk_p (i := .goto 4) (len := 3) (pc' := 66) mJ_407 (by decide +kernel) (ns_goto (by decide +kernel)) rfl ?_
      cases hr
      exact nk_iret (ty := .boolean) (len := 1) mJ_407 (by decide +kernel) rfl (nk_nar_z (by decide))
  · have hr := nk_ifn (c := 0 ≤ r3) hc hr
    refine nk_p (i := .iconst 1) (len := 1) (pc' := 17) mJ_407 (by decide +kernel) (ns_iconst (c := 1) (by decide +kernel)) rfl ?_
    cases hr
    exact nk_iret (ty := .boolean) (len := 1) mJ_407 (by decide +kernel) rfl (nk_nar_z (by decide))
/-! SafeCode$Proof passOn (I)Z -/
noncomputable def ja_X4_passOn (l0 : Nat) (l1 : Int) (S : nk_S) : Option (Int × nk_S) :=
  if 0 ≤ l1 ∧ l1 < 20 then
  nk_bd (ja_X7_narrow (ja_c l0 2) l1 (S.1 (ja_c (ja_c l0 2) 4) l1.toNat) (nk_land (S.1 (ja_c (ja_c l0 2) 5) l1.toNat) 68719476735) S) fun r5 S6 =>
  if r5 = 0 ∨ r5 = 1 then
  some (r5, S6)
  else none
  else none
theorem ja_X4_passOn_ok (zs : List Int32) : ∀ (l0 : Nat) (l1 : Int) (S : nk_S) (R : Int × nk_S), nk_cl ja_Tt l0 = some 4 → ja_X4_passOn l0 l1 S = some R → nk_K ja_Tt mi_Γ (mi_ev zs) 1 335 0 [(0, nk_r l0), (1, nk_i l1)] [] S R := by
  intro l0 l1 S R t_l0 hr
  unfold ja_X4_passOn at hr
  refine nk_p (i := .aload_n 0) (len := 1) (pc' := 1) mJ_335 (by decide +kernel) (ns_aload_n 0 rfl rfl) rfl ?_
  refine nk_getC (f := (2, 7, 0)) (x := 12) (len := 3) (ci := 4) (k := 2) (pc' := 4) ja_okT mJ_335 (by decide +kernel) (by decide +kernel) (by decide +kernel) (by decide) t_l0 rfl ?_
  have t1 : nk_cl ja_Tt (ja_c l0 2) = some 7 := nk_tc (y := 0) ja_okT t_l0 (by decide +kernel)
  refine nk_p (i := .iload_n 1) (len := 1) (pc' := 5) mJ_335 (by decide +kernel) (ns_iload_n 1 rfl rfl) rfl ?_
  refine nk_p (i := .aload_n 0) (len := 1) (pc' := 6) mJ_335 (by decide +kernel) (ns_aload_n 0 rfl rfl) rfl ?_
  refine nk_getC (f := (2, 7, 0)) (x := 12) (len := 3) (ci := 4) (k := 2) (pc' := 9) ja_okT mJ_335 (by decide +kernel) (by decide +kernel) (by decide +kernel) (by decide) t_l0 rfl ?_
  refine nk_getC (f := (4, 2, 20)) (x := 299) (len := 3) (ci := 7) (k := 4) (pc' := 12) ja_okT mJ_335 (by decide +kernel) (by decide +kernel) (by decide +kernel) (by decide) t1 rfl ?_
  have t2 : nk_ar ja_Tt (ja_c (ja_c l0 2) 4) = some (2, 20) := nk_ta ja_okT t1 (by decide +kernel)
  refine nk_p (i := .iload_n 1) (len := 1) (pc' := 13) mJ_335 (by decide +kernel) (ns_iload_n 1 rfl rfl) rfl ?_
  obtain ⟨h3, hr⟩ := nk_cke hr
  refine nk_lald (len := 1) (N := 20) (pc' := 14) mJ_335 (by decide +kernel) t2 h3.1 h3.2 rfl rfl ?_
  refine nk_p (i := .aload_n 0) (len := 1) (pc' := 15) mJ_335 (by decide +kernel) (ns_aload_n 0 rfl rfl) rfl ?_
  refine nk_getC (f := (2, 7, 0)) (x := 12) (len := 3) (ci := 4) (k := 2) (pc' := 18) ja_okT mJ_335 (by decide +kernel) (by decide +kernel) (by decide +kernel) (by decide) t_l0 rfl ?_
  refine nk_getC (f := (4, 2, 20)) (x := 302) (len := 3) (ci := 7) (k := 5) (pc' := 21) ja_okT mJ_335 (by decide +kernel) (by decide +kernel) (by decide +kernel) (by decide) t1 rfl ?_
  have t4 : nk_ar ja_Tt (ja_c (ja_c l0 2) 5) = some (2, 20) := nk_ta ja_okT t1 (by decide +kernel)
  refine nk_p (i := .iload_n 1) (len := 1) (pc' := 22) mJ_335 (by decide +kernel) (ns_iload_n 1 rfl rfl) rfl ?_
  refine nk_lald (len := 1) (N := 20) (pc' := 23) mJ_335 (by decide +kernel) t4 h3.1 h3.2 rfl rfl ?_
  refine nk_ldc2 (x := 365) (len := 3) (X := 68719476735) (v := 68719476735) (pc' := 26) mJ_335 (by decide +kernel) (by decide +kernel) (by decide +kernel) rfl ?_
  refine nk_p (i := .land) (len := 1) (pc' := 27) mJ_335 (by decide +kernel) ns_land rfl ?_
  obtain ⟨r5, S6, h7, hr⟩ := nk_bde hr
  refine nk_callV (ci := 7) (n := 3) (x := 367) (len := 3) (j' := 407) (q' := 1) (r := r5) (S' := S6) (L2 := [(0, nk_r (ja_c l0 2)), (1, nk_i l1), (2, nk_l (S.1 (ja_c (ja_c l0 2) 4) l1.toNat)), (4, nk_l (nk_land (S.1 (ja_c (ja_c l0 2) 5) l1.toNat) 68719476735))]) (rest := []) (st' := [nk_i r5]) (pc' := 30) mJ_335 (by decide +kernel) (by decide +kernel) rfl rfl t1 (Nat.le_of_ble_eq_true rfl) mJ_407 (Nat.le_of_ble_eq_true rfl) rfl (ja_X7_narrow_ok zs _ _ _ _ _ _ t1 h7) rfl ?_
  obtain ⟨h8, hr⟩ := nk_cke hr
  cases hr
  exact nk_iret (ty := .boolean) (len := 1) mJ_335 (by decide +kernel) rfl (nk_nar_z h8)
/-! SafeCode$States drop (I)V -/
noncomputable def ja_X7_drop (l0 : Nat) (l1 : Int) (S : nk_S) : Option (Int × nk_S) :=
  nk_lt (nk_wi S l0 7 (nk_w ((S.1 l0 7) - l1))) fun S1 =>
  some (0, S1)
theorem ja_X7_drop_ok (zs : List Int32) : ∀ (l0 : Nat) (l1 : Int) (S : nk_S) (R : Int × nk_S), nk_cl ja_Tt l0 = some 7 → ja_X7_drop l0 l1 S = some R → nk_K ja_Tt mi_Γ (mi_ev zs) 0 401 0 [(0, nk_r l0), (1, nk_i l1)] [] S R := by
  intro l0 l1 S R t_l0 hr
  unfold ja_X7_drop at hr
  refine nk_p (i := .aload_n 0) (len := 1) (pc' := 1) mJ_401 (by decide +kernel) (ns_aload_n 0 rfl rfl) rfl ?_
  refine nk_p (i := .dup) (len := 1) (pc' := 2) mJ_401 (by decide +kernel) (ns_dup rfl) rfl ?_
  refine nk_getI (y := (0, 0)) (x := 55) (len := 3) (ci := 7) (k := 7) (pc' := 5) ja_okT mJ_401 (by decide +kernel) (by decide +kernel) (by decide +kernel) t_l0 rfl ?_
  refine nk_p (i := .iload_n 1) (len := 1) (pc' := 6) mJ_401 (by decide +kernel) (ns_iload_n 1 rfl rfl) rfl ?_
  refine nk_p (i := .isub) (len := 1) (pc' := 7) mJ_401 (by decide +kernel) ns_isub rfl ?_
  obtain ⟨S1, h2, hr⟩ := nk_lte hr
  refine nk_putI (y := (0, 0)) (ty := .int) (x := 55) (len := 3) (ci := 7) (k := 7) (pc' := 10) ja_okT mJ_401 (by decide +kernel) (by decide +kernel) (by decide +kernel) t_l0 (Or.inl rfl) rfl h2 ?_
  cases hr
  exact nk_vret (len := 1) mJ_401 (by decide +kernel) rfl
/-! SafeCode$States arrive (I)V -/
noncomputable def ja_X7_arrive_b112 (rec26 : Nat → Int → Int → Int → Int → Int → nk_S → Option (Int × nk_S)) (l0 : Nat) (l1 : Int) (l2 : Int) (l3 : Int) (l4 : Int) (l5 : Int) (S : nk_S) : Option (Int × nk_S) :=
  if 0 ≤ l5 ∧ l5 < 20 then
  nk_bd (ja_X7_joinSlot l0 (nk_w (l4 + l5)) (S.1 (ja_c l0 4) l5.toNat) (S.1 (ja_c l0 5) l5.toNat) l2 S) fun r4 S5 =>
  nk_lt (nk_ior l3 r4) fun v7 =>
  nk_lt (nk_w (l5 + 1)) fun v9 =>
  rec26 l0 l1 l2 v7 l4 v9 S5
  else none
theorem ja_X7_arrive_b112_ok (zs : List Int32) {rec26 : Nat → Int → Int → Int → Int → Int → nk_S → Option (Int × nk_S)} (hrec26 : ∀ (l0 : Nat) (l1 : Int) (l2 : Int) (l3 : Int) (l4 : Int) (l5 : Int) (S : nk_S) (R : Int × nk_S), nk_cl ja_Tt l0 = some 7 → rec26 l0 l1 l2 l3 l4 l5 S = some R → nk_K ja_Tt mi_Γ (mi_ev zs) 0 396 26 [(0, nk_r l0), (1, nk_i l1), (2, nk_i l2), (3, nk_i l3), (4, nk_i l4), (5, nk_i l5)] [] S R) : ∀ (l0 : Nat) (l1 : Int) (l2 : Int) (l3 : Int) (l4 : Int) (l5 : Int) (S : nk_S) (R : Int × nk_S), nk_cl ja_Tt l0 = some 7 → ja_X7_arrive_b112 rec26 l0 l1 l2 l3 l4 l5 S = some R → nk_K ja_Tt mi_Γ (mi_ev zs) 0 396 112 [(0, nk_r l0), (1, nk_i l1), (2, nk_i l2), (3, nk_i l3), (4, nk_i l4), (5, nk_i l5)] [] S R := by
  intro l0 l1 l2 l3 l4 l5 S R t_l0 hr
  unfold ja_X7_arrive_b112 at hr
  refine nk_p (i := .iload_n 3) (len := 1) (pc' := 113) mJ_396 (by decide +kernel) (ns_iload_n 3 rfl rfl) rfl ?_
  refine nk_p (i := .aload_n 0) (len := 1) (pc' := 114) mJ_396 (by decide +kernel) (ns_aload_n 0 rfl rfl) rfl ?_
  refine nk_p (i := .iload 4) (len := 2) (pc' := 116) mJ_396 (by decide +kernel) (ns_iload 4 rfl) rfl ?_
  refine nk_p (i := .iload 5) (len := 2) (pc' := 118) mJ_396 (by decide +kernel) (ns_iload 5 rfl) rfl ?_
  refine nk_p (i := .iadd) (len := 1) (pc' := 119) mJ_396 (by decide +kernel) ns_iadd rfl ?_
  refine nk_p (i := .aload_n 0) (len := 1) (pc' := 120) mJ_396 (by decide +kernel) (ns_aload_n 0 rfl rfl) rfl ?_
  refine nk_getC (f := (4, 2, 20)) (x := 25) (len := 3) (ci := 7) (k := 4) (pc' := 123) ja_okT mJ_396 (by decide +kernel) (by decide +kernel) (by decide +kernel) (by decide) t_l0 rfl ?_
  have t1 : nk_ar ja_Tt (ja_c l0 4) = some (2, 20) := nk_ta ja_okT t_l0 (by decide +kernel)
  refine nk_p (i := .iload 5) (len := 2) (pc' := 125) mJ_396 (by decide +kernel) (ns_iload 5 rfl) rfl ?_
  obtain ⟨h2, hr⟩ := nk_cke hr
  refine nk_lald (len := 1) (N := 20) (pc' := 126) mJ_396 (by decide +kernel) t1 h2.1 h2.2 rfl rfl ?_
  refine nk_p (i := .aload_n 0) (len := 1) (pc' := 127) mJ_396 (by decide +kernel) (ns_aload_n 0 rfl rfl) rfl ?_
  refine nk_getC (f := (4, 2, 20)) (x := 28) (len := 3) (ci := 7) (k := 5) (pc' := 130) ja_okT mJ_396 (by decide +kernel) (by decide +kernel) (by decide +kernel) (by decide) t_l0 rfl ?_
  have t3 : nk_ar ja_Tt (ja_c l0 5) = some (2, 20) := nk_ta ja_okT t_l0 (by decide +kernel)
  refine nk_p (i := .iload 5) (len := 2) (pc' := 132) mJ_396 (by decide +kernel) (ns_iload 5 rfl) rfl ?_
  refine nk_lald (len := 1) (N := 20) (pc' := 133) mJ_396 (by decide +kernel) t3 h2.1 h2.2 rfl rfl ?_
  refine nk_p (i := .iload_n 2) (len := 1) (pc' := 134) mJ_396 (by decide +kernel) (ns_iload_n 2 rfl rfl) rfl ?_
  obtain ⟨r4, S5, h6, hr⟩ := nk_bde hr
  refine nk_callV (ci := 7) (n := 4) (x := 85) (len := 3) (j' := 405) (q' := 1) (r := r4) (S' := S5) (L2 := [(0, nk_r l0), (1, nk_i (nk_w (l4 + l5))), (2, nk_l (S.1 (ja_c l0 4) l5.toNat)), (4, nk_l (S.1 (ja_c l0 5) l5.toNat)), (6, nk_i l2)]) (rest := [nk_i l3]) (st' := [nk_i r4, nk_i l3]) (pc' := 137) mJ_396 (by decide +kernel) (by decide +kernel) rfl rfl t_l0 (Nat.le_of_ble_eq_true rfl) mJ_405 (Nat.le_of_ble_eq_true rfl) rfl (ja_X7_joinSlot_ok zs _ _ _ _ _ _ _ t_l0 h6) rfl ?_
  refine nk_p (i := .ior) (len := 1) (pc' := 138) mJ_396 (by decide +kernel) ns_ior rfl ?_
  obtain ⟨v7, h8, hr⟩ := nk_lte hr
  refine nk_p (i := .istore_n 3) (len := 1) (pc' := 139) mJ_396 (by decide +kernel) (ns_istore_n (L' := [(3, nk_i v7), (0, nk_r l0), (1, nk_i l1), (2, nk_i l2), (4, nk_i l4), (5, nk_i l5)]) h8 rfl rfl (by decide +kernel)) rfl ?_
  obtain ⟨v9, h10, hr⟩ := nk_lte hr
  refine nk_p (i := .iinc 5 1) (len := 3) (pc' := 142) mJ_396 (by decide +kernel) (ns_iinc (c := 1) (L' := [(5, nk_i v9), (3, nk_i v7), (0, nk_r l0), (1, nk_i l1), (2, nk_i l2), (4, nk_i l4)]) 5 rfl (by decide +kernel) h10 rfl (by decide +kernel)) rfl ?_
  refine nk_p (i := .goto (-116)) (len := 3) (pc' := 26) mJ_396 (by decide +kernel) (ns_goto (by decide +kernel)) rfl ?_
  refine nk_sub [2, 3, 4, 1, 5, 0] (L' := [(0, nk_r l0), (1, nk_i l1), (2, nk_i l2), (3, nk_i v7), (4, nk_i l4), (5, nk_i v9)]) rfl ?_
  exact hrec26 _ _ _ _ _ _ _ _ t_l0 hr
noncomputable def ja_X7_arrive_b89 (rec26 : Nat → Int → Int → Int → Int → Int → nk_S → Option (Int × nk_S)) (l0 : Nat) (l1 : Int) (l2 : Int) (l3 : Int) (l4 : Int) (l5 : Int) (s0 : Int) (S : nk_S) : Option (Int × nk_S) :=
  if s0 = 0 then
    nk_lt (nk_w (l5 + 1)) fun v1 =>
    rec26 l0 l1 l2 l3 l4 v1 S
  else
    if l5 < (S.1 l0 6) then
      ja_X7_arrive_b112 rec26 l0 l1 l2 l3 l4 l5 S
    else
      if l5 < 12 then
        nk_lt (nk_w (l5 + 1)) fun v3 =>
        rec26 l0 l1 l2 l3 l4 v3 S
      else
        ja_X7_arrive_b112 rec26 l0 l1 l2 l3 l4 l5 S
theorem ja_X7_arrive_b89_ok (zs : List Int32) {rec26 : Nat → Int → Int → Int → Int → Int → nk_S → Option (Int × nk_S)} (hrec26 : ∀ (l0 : Nat) (l1 : Int) (l2 : Int) (l3 : Int) (l4 : Int) (l5 : Int) (S : nk_S) (R : Int × nk_S), nk_cl ja_Tt l0 = some 7 → rec26 l0 l1 l2 l3 l4 l5 S = some R → nk_K ja_Tt mi_Γ (mi_ev zs) 0 396 26 [(0, nk_r l0), (1, nk_i l1), (2, nk_i l2), (3, nk_i l3), (4, nk_i l4), (5, nk_i l5)] [] S R) : ∀ (l0 : Nat) (l1 : Int) (l2 : Int) (l3 : Int) (l4 : Int) (l5 : Int) (s0 : Int) (S : nk_S) (R : Int × nk_S), nk_cl ja_Tt l0 = some 7 → ja_X7_arrive_b89 rec26 l0 l1 l2 l3 l4 l5 s0 S = some R → nk_K ja_Tt mi_Γ (mi_ev zs) 0 396 89 [(0, nk_r l0), (1, nk_i l1), (2, nk_i l2), (3, nk_i l3), (4, nk_i l4), (5, nk_i l5)] [nk_i s0] S R := by
  intro l0 l1 l2 l3 l4 l5 s0 S R t_l0 hr
  unfold ja_X7_arrive_b89 at hr
  refine nk_p (i := .istore 6) (len := 2) (pc' := 91) mJ_396 (by decide +kernel) (ns_istore (L' := [(6, nk_i s0), (0, nk_r l0), (1, nk_i l1), (2, nk_i l2), (3, nk_i l3), (4, nk_i l4), (5, nk_i l5)]) rfl rfl (by decide +kernel)) rfl ?_
  refine nk_p (i := .iload 6) (len := 2) (pc' := 93) mJ_396 (by decide +kernel) (ns_iload 0 rfl) rfl ?_
  refine nk_icond (c := .eq) (off := 46) (len := 3) (t := 139) (pc' := 96) mJ_396 (by decide +kernel) (by decide +kernel) rfl (fun hc => ?_) (fun hc => ?_)
  · have hr := nk_ifp (c := s0 = 0) hc hr
    obtain ⟨v1, h2, hr⟩ := nk_lte hr
    refine nk_p (i := .iinc 5 1) (len := 3) (pc' := 142) mJ_396 (by decide +kernel) (ns_iinc (c := 1) (L' := [(5, nk_i v1), (6, nk_i s0), (0, nk_r l0), (1, nk_i l1), (2, nk_i l2), (3, nk_i l3), (4, nk_i l4)]) 6 rfl (by decide +kernel) h2 rfl (by decide +kernel)) rfl ?_
    refine nk_p (i := .goto (-116)) (len := 3) (pc' := 26) mJ_396 (by decide +kernel) (ns_goto (by decide +kernel)) rfl ?_
    refine nk_sub [2, 3, 4, 5, 6, 0] (L' := [(0, nk_r l0), (1, nk_i l1), (2, nk_i l2), (3, nk_i l3), (4, nk_i l4), (5, nk_i v1)]) rfl ?_
    exact hrec26 _ _ _ _ _ _ _ _ t_l0 hr
  · have hr := nk_ifn (c := s0 = 0) hc hr
    refine nk_p (i := .iload 5) (len := 2) (pc' := 98) mJ_396 (by decide +kernel) (ns_iload 6 rfl) rfl ?_
    refine nk_p (i := .aload_n 0) (len := 1) (pc' := 99) mJ_396 (by decide +kernel) (ns_aload_n 1 rfl rfl) rfl ?_
    refine nk_getI (y := (0, 0)) (x := 51) (len := 3) (ci := 7) (k := 6) (pc' := 102) ja_okT mJ_396 (by decide +kernel) (by decide +kernel) (by decide +kernel) t_l0 rfl ?_
    refine nk_icmp (c := .lt) (off := 10) (len := 3) (t := 112) (pc' := 105) mJ_396 (by decide +kernel) (by decide +kernel) rfl (fun hc => ?_) (fun hc => ?_)
    · have hr := nk_ifp (c := l5 < (S.1 l0 6)) hc hr
      refine nk_sub [1, 2, 3, 4, 5, 6] (L' := [(0, nk_r l0), (1, nk_i l1), (2, nk_i l2), (3, nk_i l3), (4, nk_i l4), (5, nk_i l5)]) rfl ?_
      exact ja_X7_arrive_b112_ok zs hrec26 _ _ _ _ _ _ _ _ t_l0 hr
    · have hr := nk_ifn (c := l5 < (S.1 l0 6)) hc hr
      refine nk_p (i := .iload 5) (len := 2) (pc' := 107) mJ_396 (by decide +kernel) (ns_iload 6 rfl) rfl ?_
      refine nk_p (i := .bipush 12) (len := 2) (pc' := 109) mJ_396 (by decide +kernel) (ns_bipush (c := 12) (by decide +kernel)) rfl ?_
      refine nk_icmp (c := .lt) (off := 30) (len := 3) (t := 139) (pc' := 112) mJ_396 (by decide +kernel) (by decide +kernel) rfl (fun hc => ?_) (fun hc => ?_)
      · have hr := nk_ifp (c := l5 < 12) hc hr
        obtain ⟨v3, h4, hr⟩ := nk_lte hr
        refine nk_p (i := .iinc 5 1) (len := 3) (pc' := 142) mJ_396 (by decide +kernel) (ns_iinc (c := 1) (L' := [(5, nk_i v3), (6, nk_i s0), (0, nk_r l0), (1, nk_i l1), (2, nk_i l2), (3, nk_i l3), (4, nk_i l4)]) 6 rfl (by decide +kernel) h4 rfl (by decide +kernel)) rfl ?_
        refine nk_p (i := .goto (-116)) (len := 3) (pc' := 26) mJ_396 (by decide +kernel) (ns_goto (by decide +kernel)) rfl ?_
        refine nk_sub [2, 3, 4, 5, 6, 0] (L' := [(0, nk_r l0), (1, nk_i l1), (2, nk_i l2), (3, nk_i l3), (4, nk_i l4), (5, nk_i v3)]) rfl ?_
        exact hrec26 _ _ _ _ _ _ _ _ t_l0 hr
      · have hr := nk_ifn (c := l5 < 12) hc hr
        refine nk_sub [1, 2, 3, 4, 5, 6] (L' := [(0, nk_r l0), (1, nk_i l1), (2, nk_i l2), (3, nk_i l3), (4, nk_i l4), (5, nk_i l5)]) rfl ?_
        exact ja_X7_arrive_b112_ok zs hrec26 _ _ _ _ _ _ _ _ t_l0 hr
noncomputable def ja_X7_arrive_b84 (rec26 : Nat → Int → Int → Int → Int → Int → nk_S → Option (Int × nk_S)) (l0 : Nat) (l1 : Int) (l2 : Int) (l3 : Int) (l4 : Int) (l5 : Int) (S : nk_S) : Option (Int × nk_S) :=
  ja_X7_arrive_b89 rec26 l0 l1 l2 l3 l4 l5 1 S
theorem ja_X7_arrive_b84_ok (zs : List Int32) {rec26 : Nat → Int → Int → Int → Int → Int → nk_S → Option (Int × nk_S)} (hrec26 : ∀ (l0 : Nat) (l1 : Int) (l2 : Int) (l3 : Int) (l4 : Int) (l5 : Int) (S : nk_S) (R : Int × nk_S), nk_cl ja_Tt l0 = some 7 → rec26 l0 l1 l2 l3 l4 l5 S = some R → nk_K ja_Tt mi_Γ (mi_ev zs) 0 396 26 [(0, nk_r l0), (1, nk_i l1), (2, nk_i l2), (3, nk_i l3), (4, nk_i l4), (5, nk_i l5)] [] S R) : ∀ (l0 : Nat) (l1 : Int) (l2 : Int) (l3 : Int) (l4 : Int) (l5 : Int) (S : nk_S) (R : Int × nk_S), nk_cl ja_Tt l0 = some 7 → ja_X7_arrive_b84 rec26 l0 l1 l2 l3 l4 l5 S = some R → nk_K ja_Tt mi_Γ (mi_ev zs) 0 396 84 [(0, nk_r l0), (1, nk_i l1), (2, nk_i l2), (3, nk_i l3), (4, nk_i l4), (5, nk_i l5)] [] S R := by
  intro l0 l1 l2 l3 l4 l5 S R t_l0 hr
  unfold ja_X7_arrive_b84 at hr
  refine nk_p (i := .iconst 1) (len := 1) (pc' := 85) mJ_396 (by decide +kernel) (ns_iconst (c := 1) (by decide +kernel)) rfl ?_
  refine nk_p (i := .goto 4) (len := 3) (pc' := 89) mJ_396 (by decide +kernel) (ns_goto (by decide +kernel)) rfl ?_
  exact ja_X7_arrive_b89_ok zs hrec26 _ _ _ _ _ _ _ _ _ t_l0 hr
noncomputable def ja_X7_arrive_b26 (rec26 : Nat → Int → Int → Int → Int → Int → nk_S → Option (Int × nk_S)) (l0 : Nat) (l1 : Int) (l2 : Int) (l3 : Int) (l4 : Int) (l5 : Int) (S : nk_S) : Option (Int × nk_S) :=
  if (nk_w (12 + (S.1 l0 7))) ≤ l5 then
    if l3 = 0 then
      some (0, S)
    else
      if 0 ≤ l1 ∧ l1 < 1024 then
      nk_lt (nk_wi S (ja_c l0 2) l1.toNat 1) fun S3 =>
      nk_bd (ja_X7_wake l0 l1 S3) fun r5 S6 =>
      some (0, S6)
      else none
  else
    if l2 = 0 then
      if 0 ≤ l5 ∧ l5 < 20 then
      if 0 ≤ (nk_w (l4 + l5)) ∧ (nk_w (l4 + l5)) < 20480 then
      if (S.1 (ja_c l0 4) l5.toNat) = (S.1 (ja_c l0 0) (nk_w (l4 + l5)).toNat) then
        if (S.1 (ja_c l0 5) l5.toNat) = (S.1 (ja_c l0 1) (nk_w (l4 + l5)).toNat) then
          ja_X7_arrive_b89 rec26 l0 l1 l2 l3 l4 l5 0 S
        else
          ja_X7_arrive_b84 rec26 l0 l1 l2 l3 l4 l5 S
      else
        ja_X7_arrive_b84 rec26 l0 l1 l2 l3 l4 l5 S
      else none
      else none
    else
      ja_X7_arrive_b84 rec26 l0 l1 l2 l3 l4 l5 S
theorem ja_X7_arrive_b26_ok (zs : List Int32) {rec26 : Nat → Int → Int → Int → Int → Int → nk_S → Option (Int × nk_S)} (hrec26 : ∀ (l0 : Nat) (l1 : Int) (l2 : Int) (l3 : Int) (l4 : Int) (l5 : Int) (S : nk_S) (R : Int × nk_S), nk_cl ja_Tt l0 = some 7 → rec26 l0 l1 l2 l3 l4 l5 S = some R → nk_K ja_Tt mi_Γ (mi_ev zs) 0 396 26 [(0, nk_r l0), (1, nk_i l1), (2, nk_i l2), (3, nk_i l3), (4, nk_i l4), (5, nk_i l5)] [] S R) : ∀ (l0 : Nat) (l1 : Int) (l2 : Int) (l3 : Int) (l4 : Int) (l5 : Int) (S : nk_S) (R : Int × nk_S), nk_cl ja_Tt l0 = some 7 → ja_X7_arrive_b26 rec26 l0 l1 l2 l3 l4 l5 S = some R → nk_K ja_Tt mi_Γ (mi_ev zs) 0 396 26 [(0, nk_r l0), (1, nk_i l1), (2, nk_i l2), (3, nk_i l3), (4, nk_i l4), (5, nk_i l5)] [] S R := by
  intro l0 l1 l2 l3 l4 l5 S R t_l0 hr
  unfold ja_X7_arrive_b26 at hr
  refine nk_p (i := .iload 5) (len := 2) (pc' := 28) mJ_396 (by decide +kernel) (ns_iload 5 rfl) rfl ?_
  refine nk_p (i := .bipush 12) (len := 2) (pc' := 30) mJ_396 (by decide +kernel) (ns_bipush (c := 12) (by decide +kernel)) rfl ?_
  refine nk_p (i := .aload_n 0) (len := 1) (pc' := 31) mJ_396 (by decide +kernel) (ns_aload_n 0 rfl rfl) rfl ?_
  refine nk_getI (y := (0, 0)) (x := 55) (len := 3) (ci := 7) (k := 7) (pc' := 34) ja_okT mJ_396 (by decide +kernel) (by decide +kernel) (by decide +kernel) t_l0 rfl ?_
  refine nk_p (i := .iadd) (len := 1) (pc' := 35) mJ_396 (by decide +kernel) ns_iadd rfl ?_
  refine nk_icmp (c := .ge) (off := 110) (len := 3) (t := 145) (pc' := 38) mJ_396 (by decide +kernel) (by decide +kernel) rfl (fun hc => ?_) (fun hc => ?_)
  · have hr := nk_ifp (c := (nk_w (12 + (S.1 l0 7))) ≤ l5) hc hr
    refine nk_p (i := .iload_n 3) (len := 1) (pc' := 146) mJ_396 (by decide +kernel) (ns_iload_n 3 rfl rfl) rfl ?_
    refine nk_icond (c := .eq) (off := 15) (len := 3) (t := 161) (pc' := 149) mJ_396 (by decide +kernel) (by decide +kernel) rfl (fun hc => ?_) (fun hc => ?_)
    · have hr := nk_ifp (c := l3 = 0) hc hr
      cases hr
      exact nk_vret (len := 1) mJ_396 (by decide +kernel) rfl
    · have hr := nk_ifn (c := l3 = 0) hc hr
      refine nk_p (i := .aload_n 0) (len := 1) (pc' := 150) mJ_396 (by decide +kernel) (ns_aload_n 0 rfl rfl) rfl ?_
      refine nk_getC (f := (4, 3, 1024)) (x := 18) (len := 3) (ci := 7) (k := 2) (pc' := 153) ja_okT mJ_396 (by decide +kernel) (by decide +kernel) (by decide +kernel) (by decide) t_l0 rfl ?_
      have t1 : nk_ar ja_Tt (ja_c l0 2) = some (3, 1024) := nk_ta ja_okT t_l0 (by decide +kernel)
      refine nk_p (i := .iload_n 1) (len := 1) (pc' := 154) mJ_396 (by decide +kernel) (ns_iload_n 1 rfl rfl) rfl ?_
      refine nk_p (i := .iconst 1) (len := 1) (pc' := 155) mJ_396 (by decide +kernel) (ns_iconst (c := 1) (by decide +kernel)) rfl ?_
      obtain ⟨h2, hr⟩ := nk_cke hr
      obtain ⟨S3, h4, hr⟩ := nk_lte hr
      refine nk_zast (len := 1) (N := 1024) (pc' := 156) mJ_396 (by decide +kernel) t1 h2.1 h2.2 (by decide) rfl rfl h4 ?_
      refine nk_p (i := .aload_n 0) (len := 1) (pc' := 157) mJ_396 (by decide +kernel) (ns_aload_n 0 rfl rfl) rfl ?_
      refine nk_p (i := .iload_n 1) (len := 1) (pc' := 158) mJ_396 (by decide +kernel) (ns_iload_n 1 rfl rfl) rfl ?_
      obtain ⟨r5, S6, h7, hr⟩ := nk_bde hr
      refine nk_callV (ci := 7) (n := 1) (x := 89) (len := 3) (j' := 412) (q' := 0) (r := r5) (S' := S6) (L2 := [(0, nk_r l0), (1, nk_i l1)]) (rest := []) (st' := []) (pc' := 161) mJ_396 (by decide +kernel) (by decide +kernel) rfl rfl t_l0 (Nat.le_of_ble_eq_true rfl) mJ_412 (Nat.le_of_ble_eq_true rfl) rfl (ja_X7_wake_ok zs _ _ _ _ t_l0 h7) rfl ?_
      cases hr
      exact nk_vret (len := 1) mJ_396 (by decide +kernel) rfl
  · have hr := nk_ifn (c := (nk_w (12 + (S.1 l0 7))) ≤ l5) hc hr
    refine nk_p (i := .iload_n 2) (len := 1) (pc' := 39) mJ_396 (by decide +kernel) (ns_iload_n 2 rfl rfl) rfl ?_
    refine nk_icond (c := .ne) (off := 45) (len := 3) (t := 84) (pc' := 42) mJ_396 (by decide +kernel) (by decide +kernel) rfl (fun hc => ?_) (fun hc => ?_)
    · have hr := nk_ifn (c := l2 = 0) hc hr
      exact ja_X7_arrive_b84_ok zs hrec26 _ _ _ _ _ _ _ _ t_l0 hr
    · have hr := nk_ifp (c := l2 = 0) (Decidable.of_not_not hc) hr
      refine nk_p (i := .aload_n 0) (len := 1) (pc' := 43) mJ_396 (by decide +kernel) (ns_aload_n 0 rfl rfl) rfl ?_
      refine nk_getC (f := (4, 2, 20)) (x := 25) (len := 3) (ci := 7) (k := 4) (pc' := 46) ja_okT mJ_396 (by decide +kernel) (by decide +kernel) (by decide +kernel) (by decide) t_l0 rfl ?_
      have t8 : nk_ar ja_Tt (ja_c l0 4) = some (2, 20) := nk_ta ja_okT t_l0 (by decide +kernel)
      refine nk_p (i := .iload 5) (len := 2) (pc' := 48) mJ_396 (by decide +kernel) (ns_iload 5 rfl) rfl ?_
      obtain ⟨h9, hr⟩ := nk_cke hr
      refine nk_lald (len := 1) (N := 20) (pc' := 49) mJ_396 (by decide +kernel) t8 h9.1 h9.2 rfl rfl ?_
      refine nk_p (i := .aload_n 0) (len := 1) (pc' := 50) mJ_396 (by decide +kernel) (ns_aload_n 0 rfl rfl) rfl ?_
      refine nk_getC (f := (4, 2, 20480)) (x := 9) (len := 3) (ci := 7) (k := 0) (pc' := 53) ja_okT mJ_396 (by decide +kernel) (by decide +kernel) (by decide +kernel) (by decide) t_l0 rfl ?_
      have t10 : nk_ar ja_Tt (ja_c l0 0) = some (2, 20480) := nk_ta ja_okT t_l0 (by decide +kernel)
      refine nk_p (i := .iload 4) (len := 2) (pc' := 55) mJ_396 (by decide +kernel) (ns_iload 4 rfl) rfl ?_
      refine nk_p (i := .iload 5) (len := 2) (pc' := 57) mJ_396 (by decide +kernel) (ns_iload 5 rfl) rfl ?_
      refine nk_p (i := .iadd) (len := 1) (pc' := 58) mJ_396 (by decide +kernel) ns_iadd rfl ?_
      obtain ⟨h11, hr⟩ := nk_cke hr
      refine nk_lald (len := 1) (N := 20480) (pc' := 59) mJ_396 (by decide +kernel) t10 h11.1 h11.2 rfl rfl ?_
      refine nk_p (i := .lcmp) (len := 1) (pc' := 60) mJ_396 (by decide +kernel) ns_lcmp rfl ?_
      refine nk_lcond (c := .ne) (off := 24) (len := 3) (t := 84) (pc' := 63) mJ_396 (by decide +kernel) (by decide +kernel) rfl (fun hc => ?_) (fun hc => ?_)
      · have hr := nk_ifn (c := (S.1 (ja_c l0 4) l5.toNat) = (S.1 (ja_c l0 0) (nk_w (l4 + l5)).toNat)) hc hr
        exact ja_X7_arrive_b84_ok zs hrec26 _ _ _ _ _ _ _ _ t_l0 hr
      · have hr := nk_ifp (c := (S.1 (ja_c l0 4) l5.toNat) = (S.1 (ja_c l0 0) (nk_w (l4 + l5)).toNat)) (Decidable.of_not_not hc) hr
        refine nk_p (i := .aload_n 0) (len := 1) (pc' := 64) mJ_396 (by decide +kernel) (ns_aload_n 0 rfl rfl) rfl ?_
        refine nk_getC (f := (4, 2, 20)) (x := 28) (len := 3) (ci := 7) (k := 5) (pc' := 67) ja_okT mJ_396 (by decide +kernel) (by decide +kernel) (by decide +kernel) (by decide) t_l0 rfl ?_
        have t12 : nk_ar ja_Tt (ja_c l0 5) = some (2, 20) := nk_ta ja_okT t_l0 (by decide +kernel)
        refine nk_p (i := .iload 5) (len := 2) (pc' := 69) mJ_396 (by decide +kernel) (ns_iload 5 rfl) rfl ?_
        refine nk_lald (len := 1) (N := 20) (pc' := 70) mJ_396 (by decide +kernel) t12 h9.1 h9.2 rfl rfl ?_
        refine nk_p (i := .aload_n 0) (len := 1) (pc' := 71) mJ_396 (by decide +kernel) (ns_aload_n 0 rfl rfl) rfl ?_
        refine nk_getC (f := (4, 2, 20480)) (x := 15) (len := 3) (ci := 7) (k := 1) (pc' := 74) ja_okT mJ_396 (by decide +kernel) (by decide +kernel) (by decide +kernel) (by decide) t_l0 rfl ?_
        have t13 : nk_ar ja_Tt (ja_c l0 1) = some (2, 20480) := nk_ta ja_okT t_l0 (by decide +kernel)
        refine nk_p (i := .iload 4) (len := 2) (pc' := 76) mJ_396 (by decide +kernel) (ns_iload 4 rfl) rfl ?_
        refine nk_p (i := .iload 5) (len := 2) (pc' := 78) mJ_396 (by decide +kernel) (ns_iload 5 rfl) rfl ?_
        refine nk_p (i := .iadd) (len := 1) (pc' := 79) mJ_396 (by decide +kernel) ns_iadd rfl ?_
        refine nk_lald (len := 1) (N := 20480) (pc' := 80) mJ_396 (by decide +kernel) t13 h11.1 h11.2 rfl rfl ?_
        refine nk_p (i := .lcmp) (len := 1) (pc' := 81) mJ_396 (by decide +kernel) ns_lcmp rfl ?_
        refine nk_lcond (c := .eq) (off := 7) (len := 3) (t := 88) (pc' := 84) mJ_396 (by decide +kernel) (by decide +kernel) rfl (fun hc => ?_) (fun hc => ?_)
        · have hr := nk_ifp (c := (S.1 (ja_c l0 5) l5.toNat) = (S.1 (ja_c l0 1) (nk_w (l4 + l5)).toNat)) hc hr
          refine nk_p (i := .iconst 0) (len := 1) (pc' := 89) mJ_396 (by decide +kernel) (ns_iconst (c := 0) (by decide +kernel)) rfl ?_
          exact ja_X7_arrive_b89_ok zs hrec26 _ _ _ _ _ _ _ _ _ t_l0 hr
        · have hr := nk_ifn (c := (S.1 (ja_c l0 5) l5.toNat) = (S.1 (ja_c l0 1) (nk_w (l4 + l5)).toNat)) hc hr
          exact ja_X7_arrive_b84_ok zs hrec26 _ _ _ _ _ _ _ _ t_l0 hr
noncomputable def ja_X7_arrive_L26 : Nat → Nat → Int → Int → Int → Int → Int → nk_S → Option (Int × nk_S)
  | 0, _, _, _, _, _, _, _ => none
  | n + 1, l0, l1, l2, l3, l4, l5, S => ja_X7_arrive_b26 (ja_X7_arrive_L26 n) l0 l1 l2 l3 l4 l5 S
theorem ja_X7_arrive_L26_ok (zs : List Int32) : ∀ n : Nat, ∀ (l0 : Nat) (l1 : Int) (l2 : Int) (l3 : Int) (l4 : Int) (l5 : Int) (S : nk_S) (R : Int × nk_S), nk_cl ja_Tt l0 = some 7 → ja_X7_arrive_L26 n l0 l1 l2 l3 l4 l5 S = some R → nk_K ja_Tt mi_Γ (mi_ev zs) 0 396 26 [(0, nk_r l0), (1, nk_i l1), (2, nk_i l2), (3, nk_i l3), (4, nk_i l4), (5, nk_i l5)] [] S R := by
  intro n
  induction n with
  | zero => intro _ _ _ _ _ _ _ _ _ hr; cases hr
  | succ n ih => intro l0 l1 l2 l3 l4 l5 S R t_l0 hr; exact ja_X7_arrive_b26_ok zs ih l0 l1 l2 l3 l4 l5 S R t_l0 hr
noncomputable def ja_X7_arrive_b14 (l0 : Nat) (l1 : Int) (s0 : Int) (S : nk_S) : Option (Int × nk_S) :=
  nk_lt (nk_w (l1 * 20)) fun v1 =>
  ja_X7_arrive_L26 nk_big l0 l1 s0 s0 v1 0 S
theorem ja_X7_arrive_b14_ok (zs : List Int32) : ∀ (l0 : Nat) (l1 : Int) (s0 : Int) (S : nk_S) (R : Int × nk_S), nk_cl ja_Tt l0 = some 7 → ja_X7_arrive_b14 l0 l1 s0 S = some R → nk_K ja_Tt mi_Γ (mi_ev zs) 0 396 14 [(0, nk_r l0), (1, nk_i l1)] [nk_i s0] S R := by
  intro l0 l1 s0 S R t_l0 hr
  unfold ja_X7_arrive_b14 at hr
  refine nk_p (i := .istore_n 2) (len := 1) (pc' := 15) mJ_396 (by decide +kernel) (ns_istore_n (L' := [(2, nk_i s0), (0, nk_r l0), (1, nk_i l1)]) rfl rfl rfl (by decide +kernel)) rfl ?_
  refine nk_p (i := .iload_n 2) (len := 1) (pc' := 16) mJ_396 (by decide +kernel) (ns_iload_n 0 rfl rfl) rfl ?_
  refine nk_p (i := .istore_n 3) (len := 1) (pc' := 17) mJ_396 (by decide +kernel) (ns_istore_n (L' := [(3, nk_i s0), (2, nk_i s0), (0, nk_r l0), (1, nk_i l1)]) rfl rfl rfl (by decide +kernel)) rfl ?_
  refine nk_p (i := .iload_n 1) (len := 1) (pc' := 18) mJ_396 (by decide +kernel) (ns_iload_n 3 rfl rfl) rfl ?_
  refine nk_p (i := .bipush 20) (len := 2) (pc' := 20) mJ_396 (by decide +kernel) (ns_bipush (c := 20) (by decide +kernel)) rfl ?_
  refine nk_p (i := .imul) (len := 1) (pc' := 21) mJ_396 (by decide +kernel) ns_imul rfl ?_
  obtain ⟨v1, h2, hr⟩ := nk_lte hr
  refine nk_p (i := .istore 4) (len := 2) (pc' := 23) mJ_396 (by decide +kernel) (ns_istore (L' := [(4, nk_i v1), (3, nk_i s0), (2, nk_i s0), (0, nk_r l0), (1, nk_i l1)]) h2 rfl (by decide +kernel)) rfl ?_
  refine nk_p (i := .iconst 0) (len := 1) (pc' := 24) mJ_396 (by decide +kernel) (ns_iconst (c := 0) (by decide +kernel)) rfl ?_
  refine nk_p (i := .istore 5) (len := 2) (pc' := 26) mJ_396 (by decide +kernel) (ns_istore (L' := [(5, nk_i 0), (4, nk_i v1), (3, nk_i s0), (2, nk_i s0), (0, nk_r l0), (1, nk_i l1)]) rfl rfl (by decide +kernel)) rfl ?_
  refine nk_sub [4, 5, 3, 2, 1, 0] (L' := [(0, nk_r l0), (1, nk_i l1), (2, nk_i s0), (3, nk_i s0), (4, nk_i v1), (5, nk_i 0)]) rfl ?_
  exact ja_X7_arrive_L26_ok zs nk_big _ _ _ _ _ _ _ _ t_l0 hr
noncomputable def ja_X7_arrive (l0 : Nat) (l1 : Int) (S : nk_S) : Option (Int × nk_S) :=
  if 0 ≤ l1 ∧ l1 < 1024 then
  if (S.1 (ja_c l0 2) l1.toNat) = 0 then
    ja_X7_arrive_b14 l0 l1 1 S
  else
    ja_X7_arrive_b14 l0 l1 0 S
  else none
theorem ja_X7_arrive_ok (zs : List Int32) : ∀ (l0 : Nat) (l1 : Int) (S : nk_S) (R : Int × nk_S), nk_cl ja_Tt l0 = some 7 → ja_X7_arrive l0 l1 S = some R → nk_K ja_Tt mi_Γ (mi_ev zs) 0 396 0 [(0, nk_r l0), (1, nk_i l1)] [] S R := by
  intro l0 l1 S R t_l0 hr
  unfold ja_X7_arrive at hr
  refine nk_p (i := .aload_n 0) (len := 1) (pc' := 1) mJ_396 (by decide +kernel) (ns_aload_n 0 rfl rfl) rfl ?_
  refine nk_getC (f := (4, 3, 1024)) (x := 18) (len := 3) (ci := 7) (k := 2) (pc' := 4) ja_okT mJ_396 (by decide +kernel) (by decide +kernel) (by decide +kernel) (by decide) t_l0 rfl ?_
  have t1 : nk_ar ja_Tt (ja_c l0 2) = some (3, 1024) := nk_ta ja_okT t_l0 (by decide +kernel)
  refine nk_p (i := .iload_n 1) (len := 1) (pc' := 5) mJ_396 (by decide +kernel) (ns_iload_n 1 rfl rfl) rfl ?_
  obtain ⟨h2, hr⟩ := nk_cke hr
  refine nk_bald (t := 3) (len := 1) (N := 1024) (pc' := 6) mJ_396 (by decide +kernel) t1 (by decide) h2.1 h2.2 rfl rfl ?_
  refine nk_icond (c := .ne) (off := 7) (len := 3) (t := 13) (pc' := 9) mJ_396 (by decide +kernel) (by decide +kernel) rfl (fun hc => ?_) (fun hc => ?_)
  · have hr := nk_ifn (c := (S.1 (ja_c l0 2) l1.toNat) = 0) hc hr
    refine nk_p (i := .iconst 0) (len := 1) (pc' := 14) mJ_396 (by decide +kernel) (ns_iconst (c := 0) (by decide +kernel)) rfl ?_
    exact ja_X7_arrive_b14_ok zs _ _ _ _ _ t_l0 hr
  · have hr := nk_ifp (c := (S.1 (ja_c l0 2) l1.toNat) = 0) (Decidable.of_not_not hc) hr
    refine nk_p (i := .iconst 1) (len := 1) (pc' := 10) mJ_396 (by decide +kernel) (ns_iconst (c := 1) (by decide +kernel)) rfl ?_
    refine nk_p (i := .goto 4) (len := 3) (pc' := 14) mJ_396 (by decide +kernel) (ns_goto (by decide +kernel)) rfl ?_
    exact ja_X7_arrive_b14_ok zs _ _ _ _ _ t_l0 hr
/-! SafeCode$Proof goOn (I)V -/
noncomputable def ja_X4_goOn (l0 : Nat) (l1 : Int) (S : nk_S) : Option (Int × nk_S) :=
  nk_lt (nk_wi S l0 11 1) fun S1 =>
  if l1 < 0 then
    some (0, S1)
  else
    if (S1.1 (S1.2 l0 0) 3) ≤ l1 then
      some (0, S1)
    else
      nk_bd (ja_X7_arrive (ja_c l0 2) l1 S1) fun r5 S6 =>
      some (0, S6)
theorem ja_X4_goOn_ok (zs : List Int32) : ∀ (l0 : Nat) (l1 : Int) (S : nk_S) (R : Int × nk_S), nk_cl ja_Tt l0 = some 4 → ja_X4_goOn l0 l1 S = some R → nk_K ja_Tt mi_Γ (mi_ev zs) 0 320 0 [(0, nk_r l0), (1, nk_i l1)] [] S R := by
  intro l0 l1 S R t_l0 hr
  unfold ja_X4_goOn at hr
  refine nk_p (i := .aload_n 0) (len := 1) (pc' := 1) mJ_320 (by decide +kernel) (ns_aload_n 0 rfl rfl) rfl ?_
  refine nk_p (i := .iconst 1) (len := 1) (pc' := 2) mJ_320 (by decide +kernel) (ns_iconst (c := 1) (by decide +kernel)) rfl ?_
  obtain ⟨S1, h2, hr⟩ := nk_lte hr
  refine nk_putI (y := (0, 0)) (ty := .boolean) (x := 191) (len := 3) (ci := 4) (k := 11) (pc' := 5) ja_okT mJ_320 (by decide +kernel) (by decide +kernel) (by decide +kernel) t_l0 (Or.inr ⟨rfl, by decide⟩) rfl h2 ?_
  refine nk_p (i := .iload_n 1) (len := 1) (pc' := 6) mJ_320 (by decide +kernel) (ns_iload_n 1 rfl rfl) rfl ?_
  refine nk_icond (c := .lt) (off := 22) (len := 3) (t := 28) (pc' := 9) mJ_320 (by decide +kernel) (by decide +kernel) rfl (fun hc => ?_) (fun hc => ?_)
  · have hr := nk_ifp (c := l1 < 0) hc hr
    cases hr
    exact nk_vret (len := 1) mJ_320 (by decide +kernel) rfl
  · have hr := nk_ifn (c := l1 < 0) hc hr
    refine nk_p (i := .iload_n 1) (len := 1) (pc' := 10) mJ_320 (by decide +kernel) (ns_iload_n 1 rfl rfl) rfl ?_
    refine nk_p (i := .aload_n 0) (len := 1) (pc' := 11) mJ_320 (by decide +kernel) (ns_aload_n 0 rfl rfl) rfl ?_
    refine nk_getM (cj := 3) (z := 0) (x := 42) (len := 3) (ci := 4) (k := 0) (pc' := 14) ja_okT mJ_320 (by decide +kernel) (by decide +kernel) (by decide +kernel) t_l0 rfl (fun t3 => ?_)
    refine nk_getI (y := (0, 0)) (x := 104) (len := 3) (ci := 3) (k := 3) (pc' := 17) ja_okT mJ_320 (by decide +kernel) (by decide +kernel) (by decide +kernel) t3 rfl ?_
    refine nk_icmp (c := .ge) (off := 11) (len := 3) (t := 28) (pc' := 20) mJ_320 (by decide +kernel) (by decide +kernel) rfl (fun hc => ?_) (fun hc => ?_)
    · have hr := nk_ifp (c := (S1.1 (S1.2 l0 0) 3) ≤ l1) hc hr
      cases hr
      exact nk_vret (len := 1) mJ_320 (by decide +kernel) rfl
    · have hr := nk_ifn (c := (S1.1 (S1.2 l0 0) 3) ≤ l1) hc hr
      refine nk_p (i := .aload_n 0) (len := 1) (pc' := 21) mJ_320 (by decide +kernel) (ns_aload_n 0 rfl rfl) rfl ?_
      refine nk_getC (f := (2, 7, 0)) (x := 12) (len := 3) (ci := 4) (k := 2) (pc' := 24) ja_okT mJ_320 (by decide +kernel) (by decide +kernel) (by decide +kernel) (by decide) t_l0 rfl ?_
      have t4 : nk_cl ja_Tt (ja_c l0 2) = some 7 := nk_tc (y := 0) ja_okT t_l0 (by decide +kernel)
      refine nk_p (i := .iload_n 1) (len := 1) (pc' := 25) mJ_320 (by decide +kernel) (ns_iload_n 1 rfl rfl) rfl ?_
      obtain ⟨r5, S6, h7, hr⟩ := nk_bde hr
      refine nk_callV (ci := 7) (n := 1) (x := 265) (len := 3) (j' := 396) (q' := 0) (r := r5) (S' := S6) (L2 := [(0, nk_r (ja_c l0 2)), (1, nk_i l1)]) (rest := []) (st' := []) (pc' := 28) mJ_320 (by decide +kernel) (by decide +kernel) rfl rfl t4 (Nat.le_of_ble_eq_true rfl) mJ_396 (Nat.le_of_ble_eq_true rfl) rfl (ja_X7_arrive_ok zs _ _ _ _ t4 h7) rfl ?_
      cases hr
      exact nk_vret (len := 1) mJ_320 (by decide +kernel) rfl
/-! SafeCode$Proof lookAtWay (III)V -/
noncomputable def ja_X4_lookAtWay_b123 (l0 : Nat) (l2 : Int) (l4 : Int) (l5 : Int) (l6 : Int) (S : nk_S) : Option (Int × nk_S) :=
  if l6 = 0 then
    some (0, S)
  else
    nk_bd (ja_X4_passOn l0 l5 S) fun r1 S2 =>
    if r1 = 0 then
      some (0, S2)
    else
      nk_bd (ja_X4_passOn l0 l4 S2) fun r4 S5 =>
      if r4 = 0 then
        some (0, S5)
      else
        nk_bd (ja_X7_drop (ja_c l0 2) 2 S5) fun r8 S9 =>
        nk_bd (ja_X4_goOn l0 l2 S9) fun r11 S12 =>
        some (0, S12)
theorem ja_X4_lookAtWay_b123_ok (zs : List Int32) : ∀ (l0 : Nat) (l2 : Int) (l4 : Int) (l5 : Int) (l6 : Int) (S : nk_S) (R : Int × nk_S), nk_cl ja_Tt l0 = some 4 → ja_X4_lookAtWay_b123 l0 l2 l4 l5 l6 S = some R → nk_K ja_Tt mi_Γ (mi_ev zs) 0 328 123 [(0, nk_r l0), (2, nk_i l2), (4, nk_i l4), (5, nk_i l5), (6, nk_i l6)] [] S R := by
  intro l0 l2 l4 l5 l6 S R t_l0 hr
  unfold ja_X4_lookAtWay_b123 at hr
  refine nk_p (i := .iload 6) (len := 2) (pc' := 125) mJ_328 (by decide +kernel) (ns_iload 4 rfl) rfl ?_
  refine nk_icond (c := .eq) (off := 34) (len := 3) (t := 159) (pc' := 128) mJ_328 (by decide +kernel) (by decide +kernel) rfl (fun hc => ?_) (fun hc => ?_)
  · have hr := nk_ifp (c := l6 = 0) hc hr
    cases hr
    exact nk_vret (len := 1) mJ_328 (by decide +kernel) rfl
  · have hr := nk_ifn (c := l6 = 0) hc hr
    refine nk_p (i := .aload_n 0) (len := 1) (pc' := 129) mJ_328 (by decide +kernel) (ns_aload_n 0 rfl rfl) rfl ?_
    refine nk_p (i := .iload 5) (len := 2) (pc' := 131) mJ_328 (by decide +kernel) (ns_iload 3 rfl) rfl ?_
    obtain ⟨r1, S2, h3, hr⟩ := nk_bde hr
    refine nk_callV (ci := 4) (n := 1) (x := 362) (len := 3) (j' := 335) (q' := 1) (r := r1) (S' := S2) (L2 := [(0, nk_r l0), (1, nk_i l5)]) (rest := []) (st' := [nk_i r1]) (pc' := 134) mJ_328 (by decide +kernel) (by decide +kernel) rfl rfl t_l0 (Nat.le_of_ble_eq_true rfl) mJ_335 (Nat.le_of_ble_eq_true rfl) rfl (ja_X4_passOn_ok zs _ _ _ _ t_l0 h3) rfl ?_
    refine nk_icond (c := .eq) (off := 25) (len := 3) (t := 159) (pc' := 137) mJ_328 (by decide +kernel) (by decide +kernel) rfl (fun hc => ?_) (fun hc => ?_)
    · have hr := nk_ifp (c := r1 = 0) hc hr
      cases hr
      exact nk_vret (len := 1) mJ_328 (by decide +kernel) rfl
    · have hr := nk_ifn (c := r1 = 0) hc hr
      refine nk_p (i := .aload_n 0) (len := 1) (pc' := 138) mJ_328 (by decide +kernel) (ns_aload_n 0 rfl rfl) rfl ?_
      refine nk_p (i := .iload 4) (len := 2) (pc' := 140) mJ_328 (by decide +kernel) (ns_iload 2 rfl) rfl ?_
      obtain ⟨r4, S5, h6, hr⟩ := nk_bde hr
      refine nk_callV (ci := 4) (n := 1) (x := 362) (len := 3) (j' := 335) (q' := 1) (r := r4) (S' := S5) (L2 := [(0, nk_r l0), (1, nk_i l4)]) (rest := []) (st' := [nk_i r4]) (pc' := 143) mJ_328 (by decide +kernel) (by decide +kernel) rfl rfl t_l0 (Nat.le_of_ble_eq_true rfl) mJ_335 (Nat.le_of_ble_eq_true rfl) rfl (ja_X4_passOn_ok zs _ _ _ _ t_l0 h6) rfl ?_
      refine nk_icond (c := .eq) (off := 16) (len := 3) (t := 159) (pc' := 146) mJ_328 (by decide +kernel) (by decide +kernel) rfl (fun hc => ?_) (fun hc => ?_)
      · have hr := nk_ifp (c := r4 = 0) hc hr
        cases hr
        exact nk_vret (len := 1) mJ_328 (by decide +kernel) rfl
      · have hr := nk_ifn (c := r4 = 0) hc hr
        refine nk_p (i := .aload_n 0) (len := 1) (pc' := 147) mJ_328 (by decide +kernel) (ns_aload_n 0 rfl rfl) rfl ?_
        refine nk_getC (f := (2, 7, 0)) (x := 12) (len := 3) (ci := 4) (k := 2) (pc' := 150) ja_okT mJ_328 (by decide +kernel) (by decide +kernel) (by decide +kernel) (by decide) t_l0 rfl ?_
        have t7 : nk_cl ja_Tt (ja_c l0 2) = some 7 := nk_tc (y := 0) ja_okT t_l0 (by decide +kernel)
        refine nk_p (i := .iconst 2) (len := 1) (pc' := 151) mJ_328 (by decide +kernel) (ns_iconst (c := 2) (by decide +kernel)) rfl ?_
        obtain ⟨r8, S9, h10, hr⟩ := nk_bde hr
        refine nk_callV (ci := 7) (n := 1) (x := 321) (len := 3) (j' := 401) (q' := 0) (r := r8) (S' := S9) (L2 := [(0, nk_r (ja_c l0 2)), (1, nk_i 2)]) (rest := []) (st' := []) (pc' := 154) mJ_328 (by decide +kernel) (by decide +kernel) rfl rfl t7 (Nat.le_of_ble_eq_true rfl) mJ_401 (Nat.le_of_ble_eq_true rfl) rfl (ja_X7_drop_ok zs _ _ _ _ t7 h10) rfl ?_
        refine nk_p (i := .aload_n 0) (len := 1) (pc' := 155) mJ_328 (by decide +kernel) (ns_aload_n 0 rfl rfl) rfl ?_
        refine nk_p (i := .iload_n 2) (len := 1) (pc' := 156) mJ_328 (by decide +kernel) (ns_iload_n 1 rfl rfl) rfl ?_
        obtain ⟨r11, S12, h13, hr⟩ := nk_bde hr
        refine nk_callV (ci := 4) (n := 1) (x := 221) (len := 3) (j' := 320) (q' := 0) (r := r11) (S' := S12) (L2 := [(0, nk_r l0), (1, nk_i l2)]) (rest := []) (st' := []) (pc' := 159) mJ_328 (by decide +kernel) (by decide +kernel) rfl rfl t_l0 (Nat.le_of_ble_eq_true rfl) mJ_320 (Nat.le_of_ble_eq_true rfl) rfl (ja_X4_goOn_ok zs _ _ _ _ t_l0 h13) rfl ?_
        cases hr
        exact nk_vret (len := 1) mJ_328 (by decide +kernel) rfl
noncomputable def ja_X4_lookAtWay_b94 (l0 : Nat) (l2 : Int) (l4 : Int) (l5 : Int) (s0 : Nat) (s1 : Int) (s2 : Int) (s3 : Int) (S : nk_S) : Option (Int × nk_S) :=
  nk_bd (ja_X4_makeOrdered s0 s1 s2 s3 S) fun r1 S2 =>
  ja_X4_lookAtWay_b123 l0 l2 l4 l5 r1 S2
theorem ja_X4_lookAtWay_b94_ok (zs : List Int32) : ∀ (l0 : Nat) (l2 : Int) (l4 : Int) (l5 : Int) (s0 : Nat) (s1 : Int) (s2 : Int) (s3 : Int) (S : nk_S) (R : Int × nk_S), nk_cl ja_Tt l0 = some 4 → nk_cl ja_Tt s0 = some 4 → ja_X4_lookAtWay_b94 l0 l2 l4 l5 s0 s1 s2 s3 S = some R → nk_K ja_Tt mi_Γ (mi_ev zs) 0 328 94 [(0, nk_r l0), (2, nk_i l2), (4, nk_i l4), (5, nk_i l5)] [nk_i s3, nk_i s2, nk_i s1, nk_r s0] S R := by
  intro l0 l2 l4 l5 s0 s1 s2 s3 S R t_l0 t_s0 hr
  unfold ja_X4_lookAtWay_b94 at hr
  obtain ⟨r1, S2, h3, hr⟩ := nk_bde hr
  refine nk_callV (ci := 4) (n := 3) (x := 358) (len := 3) (j' := 331) (q' := 1) (r := r1) (S' := S2) (L2 := [(0, nk_r s0), (1, nk_i s1), (2, nk_i s2), (3, nk_i s3)]) (rest := []) (st' := [nk_i r1]) (pc' := 97) mJ_328 (by decide +kernel) (by decide +kernel) rfl rfl t_s0 (Nat.le_of_ble_eq_true rfl) mJ_331 (Nat.le_of_ble_eq_true rfl) rfl (ja_X4_makeOrdered_ok zs _ _ _ _ _ _ t_s0 h3) rfl ?_
  refine nk_p (i := .istore 6) (len := 2) (pc' := 99) mJ_328 (by decide +kernel) (ns_istore (L' := [(6, nk_i r1), (0, nk_r l0), (2, nk_i l2), (4, nk_i l4), (5, nk_i l5)]) rfl rfl (by decide +kernel)) rfl ?_
  refine nk_p (i := .goto 24) (len := 3) (pc' := 123) mJ_328 (by decide +kernel) (ns_goto (by decide +kernel)) rfl ?_
  refine nk_sub [1, 2, 3, 4, 0] (L' := [(0, nk_r l0), (2, nk_i l2), (4, nk_i l4), (5, nk_i l5), (6, nk_i r1)]) rfl ?_
  exact ja_X4_lookAtWay_b123_ok zs _ _ _ _ _ _ _ t_l0 hr
noncomputable def ja_X4_lookAtWay_b78 (l0 : Nat) (l2 : Int) (l3 : Int) (l4 : Int) (l5 : Int) (S : nk_S) : Option (Int × nk_S) :=
  if l3 = 22 then
    ja_X4_lookAtWay_b94 l0 l2 l4 l5 l0 l5 l4 1 S
  else
    ja_X4_lookAtWay_b94 l0 l2 l4 l5 l0 l5 l4 0 S
theorem ja_X4_lookAtWay_b78_ok (zs : List Int32) : ∀ (l0 : Nat) (l2 : Int) (l3 : Int) (l4 : Int) (l5 : Int) (S : nk_S) (R : Int × nk_S), nk_cl ja_Tt l0 = some 4 → ja_X4_lookAtWay_b78 l0 l2 l3 l4 l5 S = some R → nk_K ja_Tt mi_Γ (mi_ev zs) 0 328 78 [(0, nk_r l0), (2, nk_i l2), (3, nk_i l3), (4, nk_i l4), (5, nk_i l5)] [] S R := by
  intro l0 l2 l3 l4 l5 S R t_l0 hr
  unfold ja_X4_lookAtWay_b78 at hr
  refine nk_p (i := .aload_n 0) (len := 1) (pc' := 79) mJ_328 (by decide +kernel) (ns_aload_n 0 rfl rfl) rfl ?_
  refine nk_p (i := .iload 5) (len := 2) (pc' := 81) mJ_328 (by decide +kernel) (ns_iload 4 rfl) rfl ?_
  refine nk_p (i := .iload 4) (len := 2) (pc' := 83) mJ_328 (by decide +kernel) (ns_iload 3 rfl) rfl ?_
  refine nk_p (i := .iload_n 3) (len := 1) (pc' := 84) mJ_328 (by decide +kernel) (ns_iload_n 2 rfl rfl) rfl ?_
  refine nk_p (i := .bipush 22) (len := 2) (pc' := 86) mJ_328 (by decide +kernel) (ns_bipush (c := 22) (by decide +kernel)) rfl ?_
  refine nk_icmp (c := .ne) (off := 7) (len := 3) (t := 93) (pc' := 89) mJ_328 (by decide +kernel) (by decide +kernel) rfl (fun hc => ?_) (fun hc => ?_)
  · have hr := nk_ifn (c := l3 = 22) hc hr
    refine nk_p (i := .iconst 0) (len := 1) (pc' := 94) mJ_328 (by decide +kernel) (ns_iconst (c := 0) (by decide +kernel)) rfl ?_
    refine nk_sub [0, 1, 3, 4] (L' := [(0, nk_r l0), (2, nk_i l2), (4, nk_i l4), (5, nk_i l5)]) rfl ?_
    exact ja_X4_lookAtWay_b94_ok zs _ _ _ _ _ _ _ _ _ _ t_l0 t_l0 hr
  · have hr := nk_ifp (c := l3 = 22) (Decidable.of_not_not hc) hr
    refine nk_p (i := .iconst 1) (len := 1) (pc' := 90) mJ_328 (by decide +kernel) (ns_iconst (c := 1) (by decide +kernel)) rfl ?_
    refine nk_p (i := .goto 4) (len := 3) (pc' := 94) mJ_328 (by decide +kernel) (ns_goto (by decide +kernel)) rfl ?_
    refine nk_sub [0, 1, 3, 4] (L' := [(0, nk_r l0), (2, nk_i l2), (4, nk_i l4), (5, nk_i l5)]) rfl ?_
    exact ja_X4_lookAtWay_b94_ok zs _ _ _ _ _ _ _ _ _ _ t_l0 t_l0 hr
noncomputable def ja_X4_lookAtWay_b118 (l0 : Nat) (l2 : Int) (l4 : Int) (l5 : Int) (s0 : Nat) (s1 : Int) (s2 : Int) (s3 : Int) (S : nk_S) : Option (Int × nk_S) :=
  nk_bd (ja_X4_makeOrdered s0 s1 s2 s3 S) fun r1 S2 =>
  ja_X4_lookAtWay_b123 l0 l2 l4 l5 r1 S2
theorem ja_X4_lookAtWay_b118_ok (zs : List Int32) : ∀ (l0 : Nat) (l2 : Int) (l4 : Int) (l5 : Int) (s0 : Nat) (s1 : Int) (s2 : Int) (s3 : Int) (S : nk_S) (R : Int × nk_S), nk_cl ja_Tt l0 = some 4 → nk_cl ja_Tt s0 = some 4 → ja_X4_lookAtWay_b118 l0 l2 l4 l5 s0 s1 s2 s3 S = some R → nk_K ja_Tt mi_Γ (mi_ev zs) 0 328 118 [(0, nk_r l0), (2, nk_i l2), (4, nk_i l4), (5, nk_i l5)] [nk_i s3, nk_i s2, nk_i s1, nk_r s0] S R := by
  intro l0 l2 l4 l5 s0 s1 s2 s3 S R t_l0 t_s0 hr
  unfold ja_X4_lookAtWay_b118 at hr
  obtain ⟨r1, S2, h3, hr⟩ := nk_bde hr
  refine nk_callV (ci := 4) (n := 3) (x := 358) (len := 3) (j' := 331) (q' := 1) (r := r1) (S' := S2) (L2 := [(0, nk_r s0), (1, nk_i s1), (2, nk_i s2), (3, nk_i s3)]) (rest := []) (st' := [nk_i r1]) (pc' := 121) mJ_328 (by decide +kernel) (by decide +kernel) rfl rfl t_s0 (Nat.le_of_ble_eq_true rfl) mJ_331 (Nat.le_of_ble_eq_true rfl) rfl (ja_X4_makeOrdered_ok zs _ _ _ _ _ _ t_s0 h3) rfl ?_
  refine nk_p (i := .istore 6) (len := 2) (pc' := 123) mJ_328 (by decide +kernel) (ns_istore (L' := [(6, nk_i r1), (0, nk_r l0), (2, nk_i l2), (4, nk_i l4), (5, nk_i l5)]) rfl rfl (by decide +kernel)) rfl ?_
  refine nk_sub [1, 2, 3, 4, 0] (L' := [(0, nk_r l0), (2, nk_i l2), (4, nk_i l4), (5, nk_i l5), (6, nk_i r1)]) rfl ?_
  exact ja_X4_lookAtWay_b123_ok zs _ _ _ _ _ _ _ t_l0 hr
noncomputable def ja_X4_lookAtWay (l0 : Nat) (l1 : Int) (l2 : Int) (l3 : Int) (S : nk_S) : Option (Int × nk_S) :=
  nk_bd (ja_X4_bring l0 l1 S) fun r1 S2 =>
  nk_bd (ja_X7_fromTop (ja_c l0 2) 0 S2) fun r5 S6 =>
  nk_lt (nk_w (r5 - 1)) fun v8 =>
  if l3 = 20 then
    nk_bd (ja_X4_makeEqual l0 v8 r5 S6) fun r10 S11 =>
    ja_X4_lookAtWay_b123 l0 l2 r5 v8 r10 S11
  else
  if l3 = 21 then
    nk_bd (ja_X4_makeDifferent l0 v8 r5 S6) fun r13 S14 =>
    ja_X4_lookAtWay_b123 l0 l2 r5 v8 r13 S14
  else
  if l3 = 22 then
    ja_X4_lookAtWay_b78 l0 l2 l3 r5 v8 S6
  else
  if l3 = 23 then
    ja_X4_lookAtWay_b78 l0 l2 l3 r5 v8 S6
  else
  if l3 = 24 then
    ja_X4_lookAtWay_b118 l0 l2 r5 v8 l0 r5 v8 1 S6
  else
    ja_X4_lookAtWay_b118 l0 l2 r5 v8 l0 r5 v8 0 S6
theorem ja_X4_lookAtWay_ok (zs : List Int32) : ∀ (l0 : Nat) (l1 : Int) (l2 : Int) (l3 : Int) (S : nk_S) (R : Int × nk_S), nk_cl ja_Tt l0 = some 4 → ja_X4_lookAtWay l0 l1 l2 l3 S = some R → nk_K ja_Tt mi_Γ (mi_ev zs) 0 328 0 [(0, nk_r l0), (1, nk_i l1), (2, nk_i l2), (3, nk_i l3)] [] S R := by
  intro l0 l1 l2 l3 S R t_l0 hr
  unfold ja_X4_lookAtWay at hr
  refine nk_p (i := .aload_n 0) (len := 1) (pc' := 1) mJ_328 (by decide +kernel) (ns_aload_n 0 rfl rfl) rfl ?_
  refine nk_p (i := .iload_n 1) (len := 1) (pc' := 2) mJ_328 (by decide +kernel) (ns_iload_n 1 rfl rfl) rfl ?_
  obtain ⟨r1, S2, h3, hr⟩ := nk_bde hr
  refine nk_callV (ci := 4) (n := 1) (x := 183) (len := 3) (j' := 311) (q' := 0) (r := r1) (S' := S2) (L2 := [(0, nk_r l0), (1, nk_i l1)]) (rest := []) (st' := []) (pc' := 5) mJ_328 (by decide +kernel) (by decide +kernel) rfl rfl t_l0 (Nat.le_of_ble_eq_true rfl) mJ_311 (Nat.le_of_ble_eq_true rfl) rfl (ja_X4_bring_ok zs _ _ _ _ t_l0 h3) rfl ?_
  refine nk_p (i := .aload_n 0) (len := 1) (pc' := 6) mJ_328 (by decide +kernel) (ns_aload_n 0 rfl rfl) rfl ?_
  refine nk_getC (f := (2, 7, 0)) (x := 12) (len := 3) (ci := 4) (k := 2) (pc' := 9) ja_okT mJ_328 (by decide +kernel) (by decide +kernel) (by decide +kernel) (by decide) t_l0 rfl ?_
  have t4 : nk_cl ja_Tt (ja_c l0 2) = some 7 := nk_tc (y := 0) ja_okT t_l0 (by decide +kernel)
  refine nk_p (i := .iconst 0) (len := 1) (pc' := 10) mJ_328 (by decide +kernel) (ns_iconst (c := 0) (by decide +kernel)) rfl ?_
  obtain ⟨r5, S6, h7, hr⟩ := nk_bde hr
  refine nk_callV (ci := 7) (n := 1) (x := 290) (len := 3) (j' := 403) (q' := 1) (r := r5) (S' := S6) (L2 := [(0, nk_r (ja_c l0 2)), (1, nk_i 0)]) (rest := []) (st' := [nk_i r5]) (pc' := 13) mJ_328 (by decide +kernel) (by decide +kernel) rfl rfl t4 (Nat.le_of_ble_eq_true rfl) mJ_403 (Nat.le_of_ble_eq_true rfl) rfl (ja_X7_fromTop_ok zs _ _ _ _ t4 h7) rfl ?_
  refine nk_p (i := .istore 4) (len := 2) (pc' := 15) mJ_328 (by decide +kernel) (ns_istore (L' := [(4, nk_i r5), (0, nk_r l0), (1, nk_i l1), (2, nk_i l2), (3, nk_i l3)]) rfl rfl (by decide +kernel)) rfl ?_
  refine nk_p (i := .iload 4) (len := 2) (pc' := 17) mJ_328 (by decide +kernel) (ns_iload 0 rfl) rfl ?_
  refine nk_p (i := .iconst 1) (len := 1) (pc' := 18) mJ_328 (by decide +kernel) (ns_iconst (c := 1) (by decide +kernel)) rfl ?_
  refine nk_p (i := .isub) (len := 1) (pc' := 19) mJ_328 (by decide +kernel) ns_isub rfl ?_
  obtain ⟨v8, h9, hr⟩ := nk_lte hr
  refine nk_p (i := .istore 5) (len := 2) (pc' := 21) mJ_328 (by decide +kernel) (ns_istore (L' := [(5, nk_i v8), (4, nk_i r5), (0, nk_r l0), (1, nk_i l1), (2, nk_i l2), (3, nk_i l3)]) h9 rfl (by decide +kernel)) rfl ?_
  refine nk_p (i := .iload_n 3) (len := 1) (pc' := 22) mJ_328 (by decide +kernel) (ns_iload_n 5 rfl rfl) rfl ?_
  by_cases hc0 : l3 = 20
  · have hr := nk_ifp hc0 hr
    refine nk_p (i := .tableswitch 80 20 23 #[30, 43, 56, 56]) (len := 30) (pc' := 52) mJ_328 (by decide +kernel) (ns_tsw (V := 20) hc0 (by decide +kernel)) rfl ?_
    refine nk_p (i := .aload_n 0) (len := 1) (pc' := 53) mJ_328 (by decide +kernel) (ns_aload_n 2 rfl rfl) rfl ?_
    refine nk_p (i := .iload 5) (len := 2) (pc' := 55) mJ_328 (by decide +kernel) (ns_iload 0 rfl) rfl ?_
    refine nk_p (i := .iload 4) (len := 2) (pc' := 57) mJ_328 (by decide +kernel) (ns_iload 1 rfl) rfl ?_
    obtain ⟨r10, S11, h12, hr⟩ := nk_bde hr
    refine nk_callV (ci := 4) (n := 2) (x := 352) (len := 3) (j' := 330) (q' := 1) (r := r10) (S' := S11) (L2 := [(0, nk_r l0), (1, nk_i v8), (2, nk_i r5)]) (rest := []) (st' := [nk_i r10]) (pc' := 60) mJ_328 (by decide +kernel) (by decide +kernel) rfl rfl t_l0 (Nat.le_of_ble_eq_true rfl) mJ_330 (Nat.le_of_ble_eq_true rfl) rfl (ja_X4_makeEqual_ok zs _ _ _ _ _ t_l0 h12) rfl ?_
    refine nk_p (i := .istore 6) (len := 2) (pc' := 62) mJ_328 (by decide +kernel) (ns_istore (L' := [(6, nk_i r10), (5, nk_i v8), (4, nk_i r5), (0, nk_r l0), (1, nk_i l1), (2, nk_i l2), (3, nk_i l3)]) rfl rfl (by decide +kernel)) rfl ?_
    refine nk_p (i := .goto 61) (len := 3) (pc' := 123) mJ_328 (by decide +kernel) (ns_goto (by decide +kernel)) rfl ?_
    refine nk_sub [3, 5, 2, 1, 0] (L' := [(0, nk_r l0), (2, nk_i l2), (4, nk_i r5), (5, nk_i v8), (6, nk_i r10)]) rfl ?_
    exact ja_X4_lookAtWay_b123_ok zs _ _ _ _ _ _ _ t_l0 hr
  have hr := nk_ifn hc0 hr
  by_cases hc1 : l3 = 21
  · have hr := nk_ifp hc1 hr
    refine nk_p (i := .tableswitch 80 20 23 #[30, 43, 56, 56]) (len := 30) (pc' := 65) mJ_328 (by decide +kernel) (ns_tsw (V := 21) hc1 (by decide +kernel)) rfl ?_
    refine nk_p (i := .aload_n 0) (len := 1) (pc' := 66) mJ_328 (by decide +kernel) (ns_aload_n 2 rfl rfl) rfl ?_
    refine nk_p (i := .iload 5) (len := 2) (pc' := 68) mJ_328 (by decide +kernel) (ns_iload 0 rfl) rfl ?_
    refine nk_p (i := .iload 4) (len := 2) (pc' := 70) mJ_328 (by decide +kernel) (ns_iload 1 rfl) rfl ?_
    obtain ⟨r13, S14, h15, hr⟩ := nk_bde hr
    refine nk_callV (ci := 4) (n := 2) (x := 355) (len := 3) (j' := 329) (q' := 1) (r := r13) (S' := S14) (L2 := [(0, nk_r l0), (1, nk_i v8), (2, nk_i r5)]) (rest := []) (st' := [nk_i r13]) (pc' := 73) mJ_328 (by decide +kernel) (by decide +kernel) rfl rfl t_l0 (Nat.le_of_ble_eq_true rfl) mJ_329 (Nat.le_of_ble_eq_true rfl) rfl (ja_X4_makeDifferent_ok zs _ _ _ _ _ t_l0 h15) rfl ?_
    refine nk_p (i := .istore 6) (len := 2) (pc' := 75) mJ_328 (by decide +kernel) (ns_istore (L' := [(6, nk_i r13), (5, nk_i v8), (4, nk_i r5), (0, nk_r l0), (1, nk_i l1), (2, nk_i l2), (3, nk_i l3)]) rfl rfl (by decide +kernel)) rfl ?_
    refine nk_p (i := .goto 48) (len := 3) (pc' := 123) mJ_328 (by decide +kernel) (ns_goto (by decide +kernel)) rfl ?_
    refine nk_sub [3, 5, 2, 1, 0] (L' := [(0, nk_r l0), (2, nk_i l2), (4, nk_i r5), (5, nk_i v8), (6, nk_i r13)]) rfl ?_
    exact ja_X4_lookAtWay_b123_ok zs _ _ _ _ _ _ _ t_l0 hr
  have hr := nk_ifn hc1 hr
  by_cases hc2 : l3 = 22
  · have hr := nk_ifp hc2 hr
    refine nk_p (i := .tableswitch 80 20 23 #[30, 43, 56, 56]) (len := 30) (pc' := 78) mJ_328 (by decide +kernel) (ns_tsw (V := 22) hc2 (by decide +kernel)) rfl ?_
    refine nk_sub [2, 4, 5, 1, 0] (L' := [(0, nk_r l0), (2, nk_i l2), (3, nk_i l3), (4, nk_i r5), (5, nk_i v8)]) rfl ?_
    exact ja_X4_lookAtWay_b78_ok zs _ _ _ _ _ _ _ t_l0 hr
  have hr := nk_ifn hc2 hr
  by_cases hc3 : l3 = 23
  · have hr := nk_ifp hc3 hr
    refine nk_p (i := .tableswitch 80 20 23 #[30, 43, 56, 56]) (len := 30) (pc' := 78) mJ_328 (by decide +kernel) (ns_tsw (V := 23) hc3 (by decide +kernel)) rfl ?_
    refine nk_sub [2, 4, 5, 1, 0] (L' := [(0, nk_r l0), (2, nk_i l2), (3, nk_i l3), (4, nk_i r5), (5, nk_i v8)]) rfl ?_
    exact ja_X4_lookAtWay_b78_ok zs _ _ _ _ _ _ _ t_l0 hr
  have hr := nk_ifn hc3 hr
  refine nk_p (i := .tableswitch 80 20 23 #[30, 43, 56, 56]) (len := 30) (pc' := 102) mJ_328 (by decide +kernel) (ns_tsd (by omega) (by decide +kernel)) rfl ?_
  refine nk_p (i := .aload_n 0) (len := 1) (pc' := 103) mJ_328 (by decide +kernel) (ns_aload_n 2 rfl rfl) rfl ?_
  refine nk_p (i := .iload 4) (len := 2) (pc' := 105) mJ_328 (by decide +kernel) (ns_iload 1 rfl) rfl ?_
  refine nk_p (i := .iload 5) (len := 2) (pc' := 107) mJ_328 (by decide +kernel) (ns_iload 0 rfl) rfl ?_
  refine nk_p (i := .iload_n 3) (len := 1) (pc' := 108) mJ_328 (by decide +kernel) (ns_iload_n 5 rfl rfl) rfl ?_
  refine nk_p (i := .bipush 24) (len := 2) (pc' := 110) mJ_328 (by decide +kernel) (ns_bipush (c := 24) (by decide +kernel)) rfl ?_
  refine nk_icmp (c := .ne) (off := 7) (len := 3) (t := 117) (pc' := 113) mJ_328 (by decide +kernel) (by decide +kernel) rfl (fun hc => ?_) (fun hc => ?_)
  · have hr := nk_ifn (c := l3 = 24) hc hr
    refine nk_p (i := .iconst 0) (len := 1) (pc' := 118) mJ_328 (by decide +kernel) (ns_iconst (c := 0) (by decide +kernel)) rfl ?_
    refine nk_sub [2, 4, 1, 0] (L' := [(0, nk_r l0), (2, nk_i l2), (4, nk_i r5), (5, nk_i v8)]) rfl ?_
    exact ja_X4_lookAtWay_b118_ok zs _ _ _ _ _ _ _ _ _ _ t_l0 t_l0 hr
  · have hr := nk_ifp (c := l3 = 24) (Decidable.of_not_not hc) hr
    refine nk_p (i := .iconst 1) (len := 1) (pc' := 114) mJ_328 (by decide +kernel) (ns_iconst (c := 1) (by decide +kernel)) rfl ?_
    refine nk_p (i := .goto 4) (len := 3) (pc' := 118) mJ_328 (by decide +kernel) (ns_goto (by decide +kernel)) rfl ?_
    refine nk_sub [2, 4, 1, 0] (L' := [(0, nk_r l0), (2, nk_i l2), (4, nk_i r5), (5, nk_i v8)]) rfl ?_
    exact ja_X4_lookAtWay_b118_ok zs _ _ _ _ _ _ _ _ _ _ t_l0 t_l0 hr
/-! SafeCode$Proof contrary (I)I -/
noncomputable def ja_X4_contrary (l0 : Int) (S : nk_S) : Option (Int × nk_S) :=
  if l0 = 20 then
    some (21, S)
  else
  if l0 = 21 then
    some (20, S)
  else
  if l0 = 22 then
    some (25, S)
  else
  if l0 = 23 then
    some (24, S)
  else
  if l0 = 24 then
    some (23, S)
  else
  if l0 = 25 then
    some (22, S)
  else
  some (23, S)
theorem ja_X4_contrary_ok (zs : List Int32) : ∀ (l0 : Int) (S : nk_S) (R : Int × nk_S), ja_X4_contrary l0 S = some R → nk_K ja_Tt mi_Γ (mi_ev zs) 1 315 0 [(0, nk_i l0)] [] S R := by
  intro l0 S R hr
  unfold ja_X4_contrary at hr
  refine nk_p (i := .iload_n 0) (len := 1) (pc' := 1) mJ_315 (by decide +kernel) (ns_iload_n 0 rfl rfl) rfl ?_
  by_cases hc0 : l0 = 20
  · have hr := nk_ifp hc0 hr
    refine nk_p (i := .tableswitch 54 20 25 #[39, 42, 45, 51, 54, 48]) (len := 39) (pc' := 40) mJ_315 (by decide +kernel) (ns_tsw (V := 20) hc0 (by decide +kernel)) rfl ?_
    refine nk_p (i := .bipush 21) (len := 2) (pc' := 42) mJ_315 (by decide +kernel) (ns_bipush (c := 21) (by decide +kernel)) rfl ?_
    cases hr
    exact nk_iret (ty := .int) (len := 1) mJ_315 (by decide +kernel) rfl (nk_nar_i _)
  have hr := nk_ifn hc0 hr
  by_cases hc1 : l0 = 21
  · have hr := nk_ifp hc1 hr
    refine nk_p (i := .tableswitch 54 20 25 #[39, 42, 45, 51, 54, 48]) (len := 39) (pc' := 43) mJ_315 (by decide +kernel) (ns_tsw (V := 21) hc1 (by decide +kernel)) rfl ?_
    refine nk_p (i := .bipush 20) (len := 2) (pc' := 45) mJ_315 (by decide +kernel) (ns_bipush (c := 20) (by decide +kernel)) rfl ?_
    cases hr
    exact nk_iret (ty := .int) (len := 1) mJ_315 (by decide +kernel) rfl (nk_nar_i _)
  have hr := nk_ifn hc1 hr
  by_cases hc2 : l0 = 22
  · have hr := nk_ifp hc2 hr
    refine nk_p (i := .tableswitch 54 20 25 #[39, 42, 45, 51, 54, 48]) (len := 39) (pc' := 46) mJ_315 (by decide +kernel) (ns_tsw (V := 22) hc2 (by decide +kernel)) rfl ?_
    refine nk_p (i := .bipush 25) (len := 2) (pc' := 48) mJ_315 (by decide +kernel) (ns_bipush (c := 25) (by decide +kernel)) rfl ?_
    cases hr
    exact nk_iret (ty := .int) (len := 1) mJ_315 (by decide +kernel) rfl (nk_nar_i _)
  have hr := nk_ifn hc2 hr
  by_cases hc3 : l0 = 23
  · have hr := nk_ifp hc3 hr
    refine nk_p (i := .tableswitch 54 20 25 #[39, 42, 45, 51, 54, 48]) (len := 39) (pc' := 52) mJ_315 (by decide +kernel) (ns_tsw (V := 23) hc3 (by decide +kernel)) rfl ?_
    refine nk_p (i := .bipush 24) (len := 2) (pc' := 54) mJ_315 (by decide +kernel) (ns_bipush (c := 24) (by decide +kernel)) rfl ?_
    cases hr
    exact nk_iret (ty := .int) (len := 1) mJ_315 (by decide +kernel) rfl (nk_nar_i _)
  have hr := nk_ifn hc3 hr
  by_cases hc4 : l0 = 24
  · have hr := nk_ifp hc4 hr
    refine nk_p (i := .tableswitch 54 20 25 #[39, 42, 45, 51, 54, 48]) (len := 39) (pc' := 55) mJ_315 (by decide +kernel) (ns_tsw (V := 24) hc4 (by decide +kernel)) rfl ?_
    refine nk_p (i := .bipush 23) (len := 2) (pc' := 57) mJ_315 (by decide +kernel) (ns_bipush (c := 23) (by decide +kernel)) rfl ?_
    cases hr
    exact nk_iret (ty := .int) (len := 1) mJ_315 (by decide +kernel) rfl (nk_nar_i _)
  have hr := nk_ifn hc4 hr
  by_cases hc5 : l0 = 25
  · have hr := nk_ifp hc5 hr
    refine nk_p (i := .tableswitch 54 20 25 #[39, 42, 45, 51, 54, 48]) (len := 39) (pc' := 49) mJ_315 (by decide +kernel) (ns_tsw (V := 25) hc5 (by decide +kernel)) rfl ?_
    refine nk_p (i := .bipush 22) (len := 2) (pc' := 51) mJ_315 (by decide +kernel) (ns_bipush (c := 22) (by decide +kernel)) rfl ?_
    cases hr
    exact nk_iret (ty := .int) (len := 1) mJ_315 (by decide +kernel) rfl (nk_nar_i _)
  have hr := nk_ifn hc5 hr
  refine nk_p (i := .tableswitch 54 20 25 #[39, 42, 45, 51, 54, 48]) (len := 39) (pc' := 55) mJ_315 (by decide +kernel) (ns_tsd (by omega) (by decide +kernel)) rfl ?_
  refine nk_p (i := .bipush 23) (len := 2) (pc' := 57) mJ_315 (by decide +kernel) (ns_bipush (c := 23) (by decide +kernel)) rfl ?_
  cases hr
  exact nk_iret (ty := .int) (len := 1) mJ_315 (by decide +kernel) rfl (nk_nar_i _)
/-! SafeCode$States keepSites (IJ)Z -/
noncomputable def ja_X7_keepSites (l0 : Nat) (l1 : Int) (l2 : Int) (S : nk_S) : Option (Int × nk_S) :=
  if 0 ≤ l1 ∧ l1 < 20 then
  nk_bd (ja_X7_copyOf (S.1 (ja_c l0 5) l1.toNat) S) fun r3 S4 =>
  if 0 ≤ r3 then
    if 0 ≤ r3 ∧ r3 < 20 then
    nk_lt (nk_wi S4 (ja_c l0 4) r3.toNat (nk_land (S4.1 (ja_c l0 4) r3.toNat) l2)) fun S8 =>
    if (S8.1 (ja_c l0 4) r3.toNat) = 0 then
      some (0, S8)
    else
      some (1, S8)
    else none
  else
    some (1, S4)
  else none
theorem ja_X7_keepSites_ok (zs : List Int32) : ∀ (l0 : Nat) (l1 : Int) (l2 : Int) (S : nk_S) (R : Int × nk_S), nk_cl ja_Tt l0 = some 7 → ja_X7_keepSites l0 l1 l2 S = some R → nk_K ja_Tt mi_Γ (mi_ev zs) 1 406 0 [(0, nk_r l0), (1, nk_i l1), (2, nk_l l2)] [] S R := by
  intro l0 l1 l2 S R t_l0 hr
  unfold ja_X7_keepSites at hr
  refine nk_p (i := .aload_n 0) (len := 1) (pc' := 1) mJ_406 (by decide +kernel) (ns_aload_n 0 rfl rfl) rfl ?_
  refine nk_getC (f := (4, 2, 20)) (x := 28) (len := 3) (ci := 7) (k := 5) (pc' := 4) ja_okT mJ_406 (by decide +kernel) (by decide +kernel) (by decide +kernel) (by decide) t_l0 rfl ?_
  have t1 : nk_ar ja_Tt (ja_c l0 5) = some (2, 20) := nk_ta ja_okT t_l0 (by decide +kernel)
  refine nk_p (i := .iload_n 1) (len := 1) (pc' := 5) mJ_406 (by decide +kernel) (ns_iload_n 1 rfl rfl) rfl ?_
  obtain ⟨h2, hr⟩ := nk_cke hr
  refine nk_lald (len := 1) (N := 20) (pc' := 6) mJ_406 (by decide +kernel) t1 h2.1 h2.2 rfl rfl ?_
  obtain ⟨r3, S4, h5, hr⟩ := nk_bde hr
  refine nk_callS (ci := 0) (n := 1) (x := 66) (len := 3) (j' := 400) (q' := 1) (r := r3) (S' := S4) (L2 := [(0, nk_l (S.1 (ja_c l0 5) l1.toNat))]) (rest := []) (st' := [nk_i r3]) (pc' := 9) mJ_406 (by decide +kernel) (by decide +kernel) (Nat.le_of_ble_eq_true rfl) rfl rfl (Nat.le_of_ble_eq_true rfl) mJ_400 (Nat.le_of_ble_eq_true rfl) ja_Tpos rfl (ja_X7_copyOf_ok zs _ _ _ h5) rfl ?_
  refine nk_p (i := .istore 4) (len := 2) (pc' := 11) mJ_406 (by decide +kernel) (ns_istore (L' := [(4, nk_i r3), (0, nk_r l0), (1, nk_i l1), (2, nk_l l2)]) rfl rfl (by decide +kernel)) rfl ?_
  refine nk_p (i := .iload 4) (len := 2) (pc' := 13) mJ_406 (by decide +kernel) (ns_iload 0 rfl) rfl ?_
  refine nk_icond (c := .ge) (off := 5) (len := 3) (t := 18) (pc' := 16) mJ_406 (by decide +kernel) (by decide +kernel) rfl (fun hc => ?_) (fun hc => ?_)
  · have hr := nk_ifp (c := 0 ≤ r3) hc hr
    refine nk_p (i := .aload_n 0) (len := 1) (pc' := 19) mJ_406 (by decide +kernel) (ns_aload_n 1 rfl rfl) rfl ?_
    refine nk_getC (f := (4, 2, 20)) (x := 25) (len := 3) (ci := 7) (k := 4) (pc' := 22) ja_okT mJ_406 (by decide +kernel) (by decide +kernel) (by decide +kernel) (by decide) t_l0 rfl ?_
    have t6 : nk_ar ja_Tt (ja_c l0 4) = some (2, 20) := nk_ta ja_okT t_l0 (by decide +kernel)
    refine nk_p (i := .iload 4) (len := 2) (pc' := 24) mJ_406 (by decide +kernel) (ns_iload 0 rfl) rfl ?_
    refine nk_p (i := .dup2) (len := 1) (pc' := 25) mJ_406 (by decide +kernel) (ns_dup2 rfl rfl) rfl ?_
    obtain ⟨h7, hr⟩ := nk_cke hr
    refine nk_lald (len := 1) (N := 20) (pc' := 26) mJ_406 (by decide +kernel) t6 h7.1 h7.2 rfl rfl ?_
    refine nk_p (i := .lload_n 2) (len := 1) (pc' := 27) mJ_406 (by decide +kernel) (ns_lload_n 3 rfl rfl) rfl ?_
    refine nk_p (i := .land) (len := 1) (pc' := 28) mJ_406 (by decide +kernel) ns_land rfl ?_
    obtain ⟨S8, h9, hr⟩ := nk_lte hr
    refine nk_last (len := 1) (N := 20) (pc' := 29) mJ_406 (by decide +kernel) t6 h7.1 h7.2 rfl rfl h9 ?_
    refine nk_p (i := .aload_n 0) (len := 1) (pc' := 30) mJ_406 (by decide +kernel) (ns_aload_n 1 rfl rfl) rfl ?_
    refine nk_getC (f := (4, 2, 20)) (x := 25) (len := 3) (ci := 7) (k := 4) (pc' := 33) ja_okT mJ_406 (by decide +kernel) (by decide +kernel) (by decide +kernel) (by decide) t_l0 rfl ?_
    refine nk_p (i := .iload 4) (len := 2) (pc' := 35) mJ_406 (by decide +kernel) (ns_iload 0 rfl) rfl ?_
    refine nk_lald (len := 1) (N := 20) (pc' := 36) mJ_406 (by decide +kernel) t6 h7.1 h7.2 rfl rfl ?_
    refine nk_p (i := .lconst 0) (len := 1) (pc' := 37) mJ_406 (by decide +kernel) (ns_lconst (c := 0) (by decide +kernel)) rfl ?_
    refine nk_p (i := .lcmp) (len := 1) (pc' := 38) mJ_406 (by decide +kernel) ns_lcmp rfl ?_
    refine nk_lcond (c := .eq) (off := 7) (len := 3) (t := 45) (pc' := 41) mJ_406 (by decide +kernel) (by decide +kernel) rfl (fun hc => ?_) (fun hc => ?_)
    · have hr := nk_ifp (c := (S8.1 (ja_c l0 4) r3.toNat) = 0) hc hr
      refine nk_p (i := .iconst 0) (len := 1) (pc' := 46) mJ_406 (by decide +kernel) (ns_iconst (c := 0) (by decide +kernel)) rfl ?_
      cases hr
      exact nk_iret (ty := .boolean) (len := 1) mJ_406 (by decide +kernel) rfl (nk_nar_z (by decide))
    · have hr := nk_ifn (c := (S8.1 (ja_c l0 4) r3.toNat) = 0) hc hr
      refine nk_p (i := .iconst 1) (len := 1) (pc' := 42) mJ_406 (by decide +kernel) (ns_iconst (c := 1) (by decide +kernel)) rfl ?_
      refine nk_p (i := .goto 4) (len := 3) (pc' := 46) mJ_406 (by decide +kernel) (ns_goto (by decide +kernel)) rfl ?_
      cases hr
      exact nk_iret (ty := .boolean) (len := 1) mJ_406 (by decide +kernel) rfl (nk_nar_z (by decide))
  · have hr := nk_ifn (c := 0 ≤ r3) hc hr
    refine nk_p (i := .iconst 1) (len := 1) (pc' := 17) mJ_406 (by decide +kernel) (ns_iconst (c := 1) (by decide +kernel)) rfl ?_
    cases hr
    exact nk_iret (ty := .boolean) (len := 1) mJ_406 (by decide +kernel) rfl (nk_nar_z (by decide))
/-! SafeCode$Proof lookAtNullWay (IIZ)V -/
noncomputable def ja_X4_lookAtNullWay_b28 (l0 : Nat) (l2 : Int) (l4 : Int) (s0 : Int) (S : nk_S) : Option (Int × nk_S) :=
  if 0 ≤ l4 ∧ l4 < 20 then
  if (nk_land (S.1 (ja_c (ja_c l0 2) 4) l4.toNat) s0) = 0 then
    some (0, S)
  else
    nk_bd (ja_X7_keepSites (ja_c l0 2) l4 s0 S) fun r4 S5 =>
    if r4 = 0 then
      some (0, S5)
    else
      nk_bd (ja_X7_drop (ja_c l0 2) 1 S5) fun r7 S8 =>
      nk_bd (ja_X4_goOn l0 l2 S8) fun r10 S11 =>
      some (0, S11)
  else none
theorem ja_X4_lookAtNullWay_b28_ok (zs : List Int32) : ∀ (l0 : Nat) (l2 : Int) (l4 : Int) (s0 : Int) (S : nk_S) (R : Int × nk_S), nk_cl ja_Tt l0 = some 4 → ja_X4_lookAtNullWay_b28 l0 l2 l4 s0 S = some R → nk_K ja_Tt mi_Γ (mi_ev zs) 0 326 28 [(0, nk_r l0), (2, nk_i l2), (4, nk_i l4)] [nk_l s0] S R := by
  intro l0 l2 l4 s0 S R t_l0 hr
  unfold ja_X4_lookAtNullWay_b28 at hr
  refine nk_p (i := .lstore 5) (len := 2) (pc' := 30) mJ_326 (by decide +kernel) (ns_lstore (L' := [(5, nk_l s0), (0, nk_r l0), (2, nk_i l2), (4, nk_i l4)]) rfl rfl (by decide +kernel)) rfl ?_
  refine nk_p (i := .aload_n 0) (len := 1) (pc' := 31) mJ_326 (by decide +kernel) (ns_aload_n 1 rfl rfl) rfl ?_
  refine nk_getC (f := (2, 7, 0)) (x := 12) (len := 3) (ci := 4) (k := 2) (pc' := 34) ja_okT mJ_326 (by decide +kernel) (by decide +kernel) (by decide +kernel) (by decide) t_l0 rfl ?_
  have t1 : nk_cl ja_Tt (ja_c l0 2) = some 7 := nk_tc (y := 0) ja_okT t_l0 (by decide +kernel)
  refine nk_getC (f := (4, 2, 20)) (x := 299) (len := 3) (ci := 7) (k := 4) (pc' := 37) ja_okT mJ_326 (by decide +kernel) (by decide +kernel) (by decide +kernel) (by decide) t1 rfl ?_
  have t2 : nk_ar ja_Tt (ja_c (ja_c l0 2) 4) = some (2, 20) := nk_ta ja_okT t1 (by decide +kernel)
  refine nk_p (i := .iload 4) (len := 2) (pc' := 39) mJ_326 (by decide +kernel) (ns_iload 3 rfl) rfl ?_
  obtain ⟨h3, hr⟩ := nk_cke hr
  refine nk_lald (len := 1) (N := 20) (pc' := 40) mJ_326 (by decide +kernel) t2 h3.1 h3.2 rfl rfl ?_
  refine nk_p (i := .lload 5) (len := 2) (pc' := 42) mJ_326 (by decide +kernel) (ns_lload 0 rfl) rfl ?_
  refine nk_p (i := .land) (len := 1) (pc' := 43) mJ_326 (by decide +kernel) ns_land rfl ?_
  refine nk_p (i := .lconst 0) (len := 1) (pc' := 44) mJ_326 (by decide +kernel) (ns_lconst (c := 0) (by decide +kernel)) rfl ?_
  refine nk_p (i := .lcmp) (len := 1) (pc' := 45) mJ_326 (by decide +kernel) ns_lcmp rfl ?_
  refine nk_lcond (c := .eq) (off := 30) (len := 3) (t := 75) (pc' := 48) mJ_326 (by decide +kernel) (by decide +kernel) rfl (fun hc => ?_) (fun hc => ?_)
  · have hr := nk_ifp (c := (nk_land (S.1 (ja_c (ja_c l0 2) 4) l4.toNat) s0) = 0) hc hr
    cases hr
    exact nk_vret (len := 1) mJ_326 (by decide +kernel) rfl
  · have hr := nk_ifn (c := (nk_land (S.1 (ja_c (ja_c l0 2) 4) l4.toNat) s0) = 0) hc hr
    refine nk_p (i := .aload_n 0) (len := 1) (pc' := 49) mJ_326 (by decide +kernel) (ns_aload_n 1 rfl rfl) rfl ?_
    refine nk_getC (f := (2, 7, 0)) (x := 12) (len := 3) (ci := 4) (k := 2) (pc' := 52) ja_okT mJ_326 (by decide +kernel) (by decide +kernel) (by decide +kernel) (by decide) t_l0 rfl ?_
    refine nk_p (i := .iload 4) (len := 2) (pc' := 54) mJ_326 (by decide +kernel) (ns_iload 3 rfl) rfl ?_
    refine nk_p (i := .lload 5) (len := 2) (pc' := 56) mJ_326 (by decide +kernel) (ns_lload 0 rfl) rfl ?_
    obtain ⟨r4, S5, h6, hr⟩ := nk_bde hr
    refine nk_callV (ci := 7) (n := 2) (x := 348) (len := 3) (j' := 406) (q' := 1) (r := r4) (S' := S5) (L2 := [(0, nk_r (ja_c l0 2)), (1, nk_i l4), (2, nk_l s0)]) (rest := []) (st' := [nk_i r4]) (pc' := 59) mJ_326 (by decide +kernel) (by decide +kernel) rfl rfl t1 (Nat.le_of_ble_eq_true rfl) mJ_406 (Nat.le_of_ble_eq_true rfl) rfl (ja_X7_keepSites_ok zs _ _ _ _ _ t1 h6) rfl ?_
    refine nk_icond (c := .eq) (off := 16) (len := 3) (t := 75) (pc' := 62) mJ_326 (by decide +kernel) (by decide +kernel) rfl (fun hc => ?_) (fun hc => ?_)
    · have hr := nk_ifp (c := r4 = 0) hc hr
      cases hr
      exact nk_vret (len := 1) mJ_326 (by decide +kernel) rfl
    · have hr := nk_ifn (c := r4 = 0) hc hr
      refine nk_p (i := .aload_n 0) (len := 1) (pc' := 63) mJ_326 (by decide +kernel) (ns_aload_n 1 rfl rfl) rfl ?_
      refine nk_getC (f := (2, 7, 0)) (x := 12) (len := 3) (ci := 4) (k := 2) (pc' := 66) ja_okT mJ_326 (by decide +kernel) (by decide +kernel) (by decide +kernel) (by decide) t_l0 rfl ?_
      refine nk_p (i := .iconst 1) (len := 1) (pc' := 67) mJ_326 (by decide +kernel) (ns_iconst (c := 1) (by decide +kernel)) rfl ?_
      obtain ⟨r7, S8, h9, hr⟩ := nk_bde hr
      refine nk_callV (ci := 7) (n := 1) (x := 321) (len := 3) (j' := 401) (q' := 0) (r := r7) (S' := S8) (L2 := [(0, nk_r (ja_c l0 2)), (1, nk_i 1)]) (rest := []) (st' := []) (pc' := 70) mJ_326 (by decide +kernel) (by decide +kernel) rfl rfl t1 (Nat.le_of_ble_eq_true rfl) mJ_401 (Nat.le_of_ble_eq_true rfl) rfl (ja_X7_drop_ok zs _ _ _ _ t1 h9) rfl ?_
      refine nk_p (i := .aload_n 0) (len := 1) (pc' := 71) mJ_326 (by decide +kernel) (ns_aload_n 1 rfl rfl) rfl ?_
      refine nk_p (i := .iload_n 2) (len := 1) (pc' := 72) mJ_326 (by decide +kernel) (ns_iload_n 2 rfl rfl) rfl ?_
      obtain ⟨r10, S11, h12, hr⟩ := nk_bde hr
      refine nk_callV (ci := 4) (n := 1) (x := 221) (len := 3) (j' := 320) (q' := 0) (r := r10) (S' := S11) (L2 := [(0, nk_r l0), (1, nk_i l2)]) (rest := []) (st' := []) (pc' := 75) mJ_326 (by decide +kernel) (by decide +kernel) rfl rfl t_l0 (Nat.le_of_ble_eq_true rfl) mJ_320 (Nat.le_of_ble_eq_true rfl) rfl (ja_X4_goOn_ok zs _ _ _ _ t_l0 h12) rfl ?_
      cases hr
      exact nk_vret (len := 1) mJ_326 (by decide +kernel) rfl
noncomputable def ja_X4_lookAtNullWay (l0 : Nat) (l1 : Int) (l2 : Int) (l3 : Int) (S : nk_S) : Option (Int × nk_S) :=
  nk_bd (ja_X4_bring l0 l1 S) fun r1 S2 =>
  nk_bd (ja_X7_fromTop (ja_c l0 2) 0 S2) fun r5 S6 =>
  if l3 = 0 then
    ja_X4_lookAtNullWay_b28 l0 l2 r5 18014398509481983 S6
  else
    ja_X4_lookAtNullWay_b28 l0 l2 r5 4611686018427387904 S6
theorem ja_X4_lookAtNullWay_ok (zs : List Int32) : ∀ (l0 : Nat) (l1 : Int) (l2 : Int) (l3 : Int) (S : nk_S) (R : Int × nk_S), nk_cl ja_Tt l0 = some 4 → ja_X4_lookAtNullWay l0 l1 l2 l3 S = some R → nk_K ja_Tt mi_Γ (mi_ev zs) 0 326 0 [(0, nk_r l0), (1, nk_i l1), (2, nk_i l2), (3, nk_i l3)] [] S R := by
  intro l0 l1 l2 l3 S R t_l0 hr
  unfold ja_X4_lookAtNullWay at hr
  refine nk_p (i := .aload_n 0) (len := 1) (pc' := 1) mJ_326 (by decide +kernel) (ns_aload_n 0 rfl rfl) rfl ?_
  refine nk_p (i := .iload_n 1) (len := 1) (pc' := 2) mJ_326 (by decide +kernel) (ns_iload_n 1 rfl rfl) rfl ?_
  obtain ⟨r1, S2, h3, hr⟩ := nk_bde hr
  refine nk_callV (ci := 4) (n := 1) (x := 183) (len := 3) (j' := 311) (q' := 0) (r := r1) (S' := S2) (L2 := [(0, nk_r l0), (1, nk_i l1)]) (rest := []) (st' := []) (pc' := 5) mJ_326 (by decide +kernel) (by decide +kernel) rfl rfl t_l0 (Nat.le_of_ble_eq_true rfl) mJ_311 (Nat.le_of_ble_eq_true rfl) rfl (ja_X4_bring_ok zs _ _ _ _ t_l0 h3) rfl ?_
  refine nk_p (i := .aload_n 0) (len := 1) (pc' := 6) mJ_326 (by decide +kernel) (ns_aload_n 0 rfl rfl) rfl ?_
  refine nk_getC (f := (2, 7, 0)) (x := 12) (len := 3) (ci := 4) (k := 2) (pc' := 9) ja_okT mJ_326 (by decide +kernel) (by decide +kernel) (by decide +kernel) (by decide) t_l0 rfl ?_
  have t4 : nk_cl ja_Tt (ja_c l0 2) = some 7 := nk_tc (y := 0) ja_okT t_l0 (by decide +kernel)
  refine nk_p (i := .iconst 0) (len := 1) (pc' := 10) mJ_326 (by decide +kernel) (ns_iconst (c := 0) (by decide +kernel)) rfl ?_
  obtain ⟨r5, S6, h7, hr⟩ := nk_bde hr
  refine nk_callV (ci := 7) (n := 1) (x := 290) (len := 3) (j' := 403) (q' := 1) (r := r5) (S' := S6) (L2 := [(0, nk_r (ja_c l0 2)), (1, nk_i 0)]) (rest := []) (st' := [nk_i r5]) (pc' := 13) mJ_326 (by decide +kernel) (by decide +kernel) rfl rfl t4 (Nat.le_of_ble_eq_true rfl) mJ_403 (Nat.le_of_ble_eq_true rfl) rfl (ja_X7_fromTop_ok zs _ _ _ _ t4 h7) rfl ?_
  refine nk_p (i := .istore 4) (len := 2) (pc' := 15) mJ_326 (by decide +kernel) (ns_istore (L' := [(4, nk_i r5), (0, nk_r l0), (1, nk_i l1), (2, nk_i l2), (3, nk_i l3)]) rfl rfl (by decide +kernel)) rfl ?_
  refine nk_p (i := .iload_n 3) (len := 1) (pc' := 16) mJ_326 (by decide +kernel) (ns_iload_n 4 rfl rfl) rfl ?_
  refine nk_icond (c := .eq) (off := 9) (len := 3) (t := 25) (pc' := 19) mJ_326 (by decide +kernel) (by decide +kernel) rfl (fun hc => ?_) (fun hc => ?_)
  · have hr := nk_ifp (c := l3 = 0) hc hr
    refine nk_ldc2 (x := 346) (len := 3) (X := 18014398509481983) (v := 18014398509481983) (pc' := 28) mJ_326 (by decide +kernel) (by decide +kernel) (by decide +kernel) rfl ?_
    refine nk_sub [1, 3, 0] (L' := [(0, nk_r l0), (2, nk_i l2), (4, nk_i r5)]) rfl ?_
    exact ja_X4_lookAtNullWay_b28_ok zs _ _ _ _ _ _ t_l0 hr
  · have hr := nk_ifn (c := l3 = 0) hc hr
    refine nk_ldc2 (x := 297) (len := 3) (X := 4611686018427387904) (v := 4611686018427387904) (pc' := 22) mJ_326 (by decide +kernel) (by decide +kernel) (by decide +kernel) rfl ?_
    refine nk_p (i := .goto 6) (len := 3) (pc' := 28) mJ_326 (by decide +kernel) (ns_goto (by decide +kernel)) rfl ?_
    refine nk_sub [1, 3, 0] (L' := [(0, nk_r l0), (2, nk_i l2), (4, nk_i r5)]) rfl ?_
    exact ja_X4_lookAtNullWay_b28_ok zs _ _ _ _ _ _ t_l0 hr
/-! SafeCode$Proof lookAtSameWay (IIZ)V -/
noncomputable def ja_X4_lookAtSameWay_b83 (l0 : Nat) (l2 : Int) (S : nk_S) : Option (Int × nk_S) :=
  nk_bd (ja_X7_drop (ja_c l0 2) 2 S) fun r2 S3 =>
  nk_bd (ja_X4_goOn l0 l2 S3) fun r5 S6 =>
  some (0, S6)
theorem ja_X4_lookAtSameWay_b83_ok (zs : List Int32) : ∀ (l0 : Nat) (l2 : Int) (S : nk_S) (R : Int × nk_S), nk_cl ja_Tt l0 = some 4 → ja_X4_lookAtSameWay_b83 l0 l2 S = some R → nk_K ja_Tt mi_Γ (mi_ev zs) 0 327 83 [(0, nk_r l0), (2, nk_i l2)] [] S R := by
  intro l0 l2 S R t_l0 hr
  unfold ja_X4_lookAtSameWay_b83 at hr
  refine nk_p (i := .aload_n 0) (len := 1) (pc' := 84) mJ_327 (by decide +kernel) (ns_aload_n 0 rfl rfl) rfl ?_
  refine nk_getC (f := (2, 7, 0)) (x := 12) (len := 3) (ci := 4) (k := 2) (pc' := 87) ja_okT mJ_327 (by decide +kernel) (by decide +kernel) (by decide +kernel) (by decide) t_l0 rfl ?_
  have t1 : nk_cl ja_Tt (ja_c l0 2) = some 7 := nk_tc (y := 0) ja_okT t_l0 (by decide +kernel)
  refine nk_p (i := .iconst 2) (len := 1) (pc' := 88) mJ_327 (by decide +kernel) (ns_iconst (c := 2) (by decide +kernel)) rfl ?_
  obtain ⟨r2, S3, h4, hr⟩ := nk_bde hr
  refine nk_callV (ci := 7) (n := 1) (x := 321) (len := 3) (j' := 401) (q' := 0) (r := r2) (S' := S3) (L2 := [(0, nk_r (ja_c l0 2)), (1, nk_i 2)]) (rest := []) (st' := []) (pc' := 91) mJ_327 (by decide +kernel) (by decide +kernel) rfl rfl t1 (Nat.le_of_ble_eq_true rfl) mJ_401 (Nat.le_of_ble_eq_true rfl) rfl (ja_X7_drop_ok zs _ _ _ _ t1 h4) rfl ?_
  refine nk_p (i := .aload_n 0) (len := 1) (pc' := 92) mJ_327 (by decide +kernel) (ns_aload_n 0 rfl rfl) rfl ?_
  refine nk_p (i := .iload_n 2) (len := 1) (pc' := 93) mJ_327 (by decide +kernel) (ns_iload_n 1 rfl rfl) rfl ?_
  obtain ⟨r5, S6, h7, hr⟩ := nk_bde hr
  refine nk_callV (ci := 4) (n := 1) (x := 221) (len := 3) (j' := 320) (q' := 0) (r := r5) (S' := S6) (L2 := [(0, nk_r l0), (1, nk_i l2)]) (rest := []) (st' := []) (pc' := 96) mJ_327 (by decide +kernel) (by decide +kernel) rfl rfl t_l0 (Nat.le_of_ble_eq_true rfl) mJ_320 (Nat.le_of_ble_eq_true rfl) rfl (ja_X4_goOn_ok zs _ _ _ _ t_l0 h7) rfl ?_
  cases hr
  exact nk_vret (len := 1) mJ_327 (by decide +kernel) rfl
noncomputable def ja_X4_lookAtSameWay (l0 : Nat) (l1 : Int) (l2 : Int) (l3 : Int) (S : nk_S) : Option (Int × nk_S) :=
  nk_bd (ja_X4_bring l0 l1 S) fun r1 S2 =>
  nk_bd (ja_X7_fromTop (ja_c l0 2) 0 S2) fun r5 S6 =>
  nk_lt (nk_w (r5 - 1)) fun v8 =>
  if 0 ≤ v8 ∧ v8 < 20 then
  if 0 ≤ r5 ∧ r5 < 20 then
  nk_lt (nk_land (S6.1 (ja_c (ja_c l0 2) 4) v8.toNat) (S6.1 (ja_c (ja_c l0 2) 4) r5.toNat)) fun v13 =>
  if l3 = 0 then
    ja_X4_lookAtSameWay_b83 l0 l2 S6
  else
    if v13 = 0 then
      some (0, S6)
    else
      nk_bd (ja_X7_keepSites (ja_c l0 2) v8 v13 S6) fun r15 S16 =>
      if r15 = 0 then
        some (0, S16)
      else
        nk_bd (ja_X7_keepSites (ja_c l0 2) r5 v13 S16) fun r18 S19 =>
        if r18 = 0 then
          some (0, S19)
        else
          ja_X4_lookAtSameWay_b83 l0 l2 S19
  else none
  else none
theorem ja_X4_lookAtSameWay_ok (zs : List Int32) : ∀ (l0 : Nat) (l1 : Int) (l2 : Int) (l3 : Int) (S : nk_S) (R : Int × nk_S), nk_cl ja_Tt l0 = some 4 → ja_X4_lookAtSameWay l0 l1 l2 l3 S = some R → nk_K ja_Tt mi_Γ (mi_ev zs) 0 327 0 [(0, nk_r l0), (1, nk_i l1), (2, nk_i l2), (3, nk_i l3)] [] S R := by
  intro l0 l1 l2 l3 S R t_l0 hr
  unfold ja_X4_lookAtSameWay at hr
  refine nk_p (i := .aload_n 0) (len := 1) (pc' := 1) mJ_327 (by decide +kernel) (ns_aload_n 0 rfl rfl) rfl ?_
  refine nk_p (i := .iload_n 1) (len := 1) (pc' := 2) mJ_327 (by decide +kernel) (ns_iload_n 1 rfl rfl) rfl ?_
  obtain ⟨r1, S2, h3, hr⟩ := nk_bde hr
  refine nk_callV (ci := 4) (n := 1) (x := 183) (len := 3) (j' := 311) (q' := 0) (r := r1) (S' := S2) (L2 := [(0, nk_r l0), (1, nk_i l1)]) (rest := []) (st' := []) (pc' := 5) mJ_327 (by decide +kernel) (by decide +kernel) rfl rfl t_l0 (Nat.le_of_ble_eq_true rfl) mJ_311 (Nat.le_of_ble_eq_true rfl) rfl (ja_X4_bring_ok zs _ _ _ _ t_l0 h3) rfl ?_
  refine nk_p (i := .aload_n 0) (len := 1) (pc' := 6) mJ_327 (by decide +kernel) (ns_aload_n 0 rfl rfl) rfl ?_
  refine nk_getC (f := (2, 7, 0)) (x := 12) (len := 3) (ci := 4) (k := 2) (pc' := 9) ja_okT mJ_327 (by decide +kernel) (by decide +kernel) (by decide +kernel) (by decide) t_l0 rfl ?_
  have t4 : nk_cl ja_Tt (ja_c l0 2) = some 7 := nk_tc (y := 0) ja_okT t_l0 (by decide +kernel)
  refine nk_p (i := .iconst 0) (len := 1) (pc' := 10) mJ_327 (by decide +kernel) (ns_iconst (c := 0) (by decide +kernel)) rfl ?_
  obtain ⟨r5, S6, h7, hr⟩ := nk_bde hr
  refine nk_callV (ci := 7) (n := 1) (x := 290) (len := 3) (j' := 403) (q' := 1) (r := r5) (S' := S6) (L2 := [(0, nk_r (ja_c l0 2)), (1, nk_i 0)]) (rest := []) (st' := [nk_i r5]) (pc' := 13) mJ_327 (by decide +kernel) (by decide +kernel) rfl rfl t4 (Nat.le_of_ble_eq_true rfl) mJ_403 (Nat.le_of_ble_eq_true rfl) rfl (ja_X7_fromTop_ok zs _ _ _ _ t4 h7) rfl ?_
  refine nk_p (i := .istore 4) (len := 2) (pc' := 15) mJ_327 (by decide +kernel) (ns_istore (L' := [(4, nk_i r5), (0, nk_r l0), (1, nk_i l1), (2, nk_i l2), (3, nk_i l3)]) rfl rfl (by decide +kernel)) rfl ?_
  refine nk_p (i := .iload 4) (len := 2) (pc' := 17) mJ_327 (by decide +kernel) (ns_iload 0 rfl) rfl ?_
  refine nk_p (i := .iconst 1) (len := 1) (pc' := 18) mJ_327 (by decide +kernel) (ns_iconst (c := 1) (by decide +kernel)) rfl ?_
  refine nk_p (i := .isub) (len := 1) (pc' := 19) mJ_327 (by decide +kernel) ns_isub rfl ?_
  obtain ⟨v8, h9, hr⟩ := nk_lte hr
  refine nk_p (i := .istore 5) (len := 2) (pc' := 21) mJ_327 (by decide +kernel) (ns_istore (L' := [(5, nk_i v8), (4, nk_i r5), (0, nk_r l0), (1, nk_i l1), (2, nk_i l2), (3, nk_i l3)]) h9 rfl (by decide +kernel)) rfl ?_
  refine nk_p (i := .aload_n 0) (len := 1) (pc' := 22) mJ_327 (by decide +kernel) (ns_aload_n 2 rfl rfl) rfl ?_
  refine nk_getC (f := (2, 7, 0)) (x := 12) (len := 3) (ci := 4) (k := 2) (pc' := 25) ja_okT mJ_327 (by decide +kernel) (by decide +kernel) (by decide +kernel) (by decide) t_l0 rfl ?_
  refine nk_getC (f := (4, 2, 20)) (x := 299) (len := 3) (ci := 7) (k := 4) (pc' := 28) ja_okT mJ_327 (by decide +kernel) (by decide +kernel) (by decide +kernel) (by decide) t4 rfl ?_
  have t10 : nk_ar ja_Tt (ja_c (ja_c l0 2) 4) = some (2, 20) := nk_ta ja_okT t4 (by decide +kernel)
  refine nk_p (i := .iload 5) (len := 2) (pc' := 30) mJ_327 (by decide +kernel) (ns_iload 0 rfl) rfl ?_
  obtain ⟨h11, hr⟩ := nk_cke hr
  refine nk_lald (len := 1) (N := 20) (pc' := 31) mJ_327 (by decide +kernel) t10 h11.1 h11.2 rfl rfl ?_
  refine nk_p (i := .aload_n 0) (len := 1) (pc' := 32) mJ_327 (by decide +kernel) (ns_aload_n 2 rfl rfl) rfl ?_
  refine nk_getC (f := (2, 7, 0)) (x := 12) (len := 3) (ci := 4) (k := 2) (pc' := 35) ja_okT mJ_327 (by decide +kernel) (by decide +kernel) (by decide +kernel) (by decide) t_l0 rfl ?_
  refine nk_getC (f := (4, 2, 20)) (x := 299) (len := 3) (ci := 7) (k := 4) (pc' := 38) ja_okT mJ_327 (by decide +kernel) (by decide +kernel) (by decide +kernel) (by decide) t4 rfl ?_
  refine nk_p (i := .iload 4) (len := 2) (pc' := 40) mJ_327 (by decide +kernel) (ns_iload 1 rfl) rfl ?_
  obtain ⟨h12, hr⟩ := nk_cke hr
  refine nk_lald (len := 1) (N := 20) (pc' := 41) mJ_327 (by decide +kernel) t10 h12.1 h12.2 rfl rfl ?_
  refine nk_p (i := .land) (len := 1) (pc' := 42) mJ_327 (by decide +kernel) ns_land rfl ?_
  obtain ⟨v13, h14, hr⟩ := nk_lte hr
  refine nk_p (i := .lstore 6) (len := 2) (pc' := 44) mJ_327 (by decide +kernel) (ns_lstore (L' := [(6, nk_l v13), (5, nk_i v8), (4, nk_i r5), (0, nk_r l0), (1, nk_i l1), (2, nk_i l2), (3, nk_i l3)]) h14 rfl (by decide +kernel)) rfl ?_
  refine nk_p (i := .iload_n 3) (len := 1) (pc' := 45) mJ_327 (by decide +kernel) (ns_iload_n 6 rfl rfl) rfl ?_
  refine nk_icond (c := .eq) (off := 38) (len := 3) (t := 83) (pc' := 48) mJ_327 (by decide +kernel) (by decide +kernel) rfl (fun hc => ?_) (fun hc => ?_)
  · have hr := nk_ifp (c := l3 = 0) hc hr
    refine nk_sub [3, 5] (L' := [(0, nk_r l0), (2, nk_i l2)]) rfl ?_
    exact ja_X4_lookAtSameWay_b83_ok zs _ _ _ _ t_l0 hr
  · have hr := nk_ifn (c := l3 = 0) hc hr
    refine nk_p (i := .lload 6) (len := 2) (pc' := 50) mJ_327 (by decide +kernel) (ns_lload 0 rfl) rfl ?_
    refine nk_p (i := .lconst 0) (len := 1) (pc' := 51) mJ_327 (by decide +kernel) (ns_lconst (c := 0) (by decide +kernel)) rfl ?_
    refine nk_p (i := .lcmp) (len := 1) (pc' := 52) mJ_327 (by decide +kernel) ns_lcmp rfl ?_
    refine nk_lcond (c := .eq) (off := 44) (len := 3) (t := 96) (pc' := 55) mJ_327 (by decide +kernel) (by decide +kernel) rfl (fun hc => ?_) (fun hc => ?_)
    · have hr := nk_ifp (c := v13 = 0) hc hr
      cases hr
      exact nk_vret (len := 1) mJ_327 (by decide +kernel) rfl
    · have hr := nk_ifn (c := v13 = 0) hc hr
      refine nk_p (i := .aload_n 0) (len := 1) (pc' := 56) mJ_327 (by decide +kernel) (ns_aload_n 3 rfl rfl) rfl ?_
      refine nk_getC (f := (2, 7, 0)) (x := 12) (len := 3) (ci := 4) (k := 2) (pc' := 59) ja_okT mJ_327 (by decide +kernel) (by decide +kernel) (by decide +kernel) (by decide) t_l0 rfl ?_
      refine nk_p (i := .iload 5) (len := 2) (pc' := 61) mJ_327 (by decide +kernel) (ns_iload 1 rfl) rfl ?_
      refine nk_p (i := .lload 6) (len := 2) (pc' := 63) mJ_327 (by decide +kernel) (ns_lload 0 rfl) rfl ?_
      obtain ⟨r15, S16, h17, hr⟩ := nk_bde hr
      refine nk_callV (ci := 7) (n := 2) (x := 348) (len := 3) (j' := 406) (q' := 1) (r := r15) (S' := S16) (L2 := [(0, nk_r (ja_c l0 2)), (1, nk_i v8), (2, nk_l v13)]) (rest := []) (st' := [nk_i r15]) (pc' := 66) mJ_327 (by decide +kernel) (by decide +kernel) rfl rfl t4 (Nat.le_of_ble_eq_true rfl) mJ_406 (Nat.le_of_ble_eq_true rfl) rfl (ja_X7_keepSites_ok zs _ _ _ _ _ t4 h17) rfl ?_
      refine nk_icond (c := .eq) (off := 30) (len := 3) (t := 96) (pc' := 69) mJ_327 (by decide +kernel) (by decide +kernel) rfl (fun hc => ?_) (fun hc => ?_)
      · have hr := nk_ifp (c := r15 = 0) hc hr
        cases hr
        exact nk_vret (len := 1) mJ_327 (by decide +kernel) rfl
      · have hr := nk_ifn (c := r15 = 0) hc hr
        refine nk_p (i := .aload_n 0) (len := 1) (pc' := 70) mJ_327 (by decide +kernel) (ns_aload_n 3 rfl rfl) rfl ?_
        refine nk_getC (f := (2, 7, 0)) (x := 12) (len := 3) (ci := 4) (k := 2) (pc' := 73) ja_okT mJ_327 (by decide +kernel) (by decide +kernel) (by decide +kernel) (by decide) t_l0 rfl ?_
        refine nk_p (i := .iload 4) (len := 2) (pc' := 75) mJ_327 (by decide +kernel) (ns_iload 2 rfl) rfl ?_
        refine nk_p (i := .lload 6) (len := 2) (pc' := 77) mJ_327 (by decide +kernel) (ns_lload 0 rfl) rfl ?_
        obtain ⟨r18, S19, h20, hr⟩ := nk_bde hr
        refine nk_callV (ci := 7) (n := 2) (x := 348) (len := 3) (j' := 406) (q' := 1) (r := r18) (S' := S19) (L2 := [(0, nk_r (ja_c l0 2)), (1, nk_i r5), (2, nk_l v13)]) (rest := []) (st' := [nk_i r18]) (pc' := 80) mJ_327 (by decide +kernel) (by decide +kernel) rfl rfl t4 (Nat.le_of_ble_eq_true rfl) mJ_406 (Nat.le_of_ble_eq_true rfl) rfl (ja_X7_keepSites_ok zs _ _ _ _ _ t4 h20) rfl ?_
        refine nk_icond (c := .eq) (off := 16) (len := 3) (t := 96) (pc' := 83) mJ_327 (by decide +kernel) (by decide +kernel) rfl (fun hc => ?_) (fun hc => ?_)
        · have hr := nk_ifp (c := r18 = 0) hc hr
          cases hr
          exact nk_vret (len := 1) mJ_327 (by decide +kernel) rfl
        · have hr := nk_ifn (c := r18 = 0) hc hr
          refine nk_sub [3, 5] (L' := [(0, nk_r l0), (2, nk_i l2)]) rfl ?_
          exact ja_X4_lookAtSameWay_b83_ok zs _ _ _ _ t_l0 hr
/-! SafeCode$Store join (JJZ)J -/
noncomputable def ja_X8_join (l0 : Int) (l2 : Int) (l4 : Int) (S : nk_S) : Option (Int × nk_S) :=
  if l4 = 0 then
    some ((nk_lor l0 l2), S)
  else
    nk_bd (ja_X5_join l0 l2 S) fun r1 S2 =>
    some (r1, S2)
theorem ja_X8_join_ok (zs : List Int32) : ∀ (l0 : Int) (l2 : Int) (l4 : Int) (S : nk_S) (R : Int × nk_S), ja_X8_join l0 l2 l4 S = some R → nk_K ja_Tt mi_Γ (mi_ev zs) 2 420 0 [(0, nk_l l0), (2, nk_l l2), (4, nk_i l4)] [] S R := by
  intro l0 l2 l4 S R hr
  unfold ja_X8_join at hr
  refine nk_p (i := .iload 4) (len := 2) (pc' := 2) mJ_420 (by decide +kernel) (ns_iload 2 rfl) rfl ?_
  refine nk_icond (c := .eq) (off := 11) (len := 3) (t := 13) (pc' := 5) mJ_420 (by decide +kernel) (by decide +kernel) rfl (fun hc => ?_) (fun hc => ?_)
  · have hr := nk_ifp (c := l4 = 0) hc hr
    refine nk_p (i := .lload_n 0) (len := 1) (pc' := 14) mJ_420 (by decide +kernel) (ns_lload_n 0 rfl rfl) rfl ?_
    refine nk_p (i := .lload_n 2) (len := 1) (pc' := 15) mJ_420 (by decide +kernel) (ns_lload_n 1 rfl rfl) rfl ?_
    refine nk_p (i := .lor) (len := 1) (pc' := 16) mJ_420 (by decide +kernel) ns_lor rfl ?_
    cases hr
    exact nk_lret (len := 1) mJ_420 (by decide +kernel) rfl
  · have hr := nk_ifn (c := l4 = 0) hc hr
    refine nk_p (i := .lload_n 0) (len := 1) (pc' := 6) mJ_420 (by decide +kernel) (ns_lload_n 0 rfl rfl) rfl ?_
    refine nk_p (i := .lload_n 2) (len := 1) (pc' := 7) mJ_420 (by decide +kernel) (ns_lload_n 1 rfl rfl) rfl ?_
    obtain ⟨r1, S2, h3, hr⟩ := nk_bde hr
    refine nk_callS (ci := 0) (n := 2) (x := 35) (len := 3) (j' := 362) (q' := 2) (r := r1) (S' := S2) (L2 := [(0, nk_l l0), (2, nk_l l2)]) (rest := []) (st' := [nk_l r1]) (pc' := 10) mJ_420 (by decide +kernel) (by decide +kernel) (Nat.le_of_ble_eq_true rfl) rfl rfl (Nat.le_of_ble_eq_true rfl) mJ_362 (Nat.le_of_ble_eq_true rfl) ja_Tpos rfl (ja_X5_join_ok zs _ _ _ _ h3) rfl ?_
    refine nk_p (i := .goto 6) (len := 3) (pc' := 16) mJ_420 (by decide +kernel) (ns_goto (by decide +kernel)) rfl ?_
    cases hr
    exact nk_lret (len := 1) mJ_420 (by decide +kernel) rfl
/-! SafeCode$Proof enterBody (IIJZ)V -/
noncomputable def ja_X4_enterBody_b88 (l0 : Nat) (l1 : Int) (l5 : Int) (S : nk_S) : Option (Int × nk_S) :=
  if 0 ≤ l1 ∧ l1 < 48 then
  if (S.1 (ja_c (ja_c l0 3) 4) l1.toNat) = 0 then
    some (0, S)
  else
    nk_lt (nk_wi S l0 13 1) fun S4 =>
    nk_bd (ja_X8_join (S4.1 l0 12) (S4.1 (ja_c (ja_c l0 3) 3) l1.toNat) l5 S4) fun r7 S8 =>
    nk_lt (nk_wi S8 l0 12 r7) fun S10 =>
    some (0, S10)
  else none
theorem ja_X4_enterBody_b88_ok (zs : List Int32) : ∀ (l0 : Nat) (l1 : Int) (l5 : Int) (S : nk_S) (R : Int × nk_S), nk_cl ja_Tt l0 = some 4 → ja_X4_enterBody_b88 l0 l1 l5 S = some R → nk_K ja_Tt mi_Γ (mi_ev zs) 0 318 88 [(0, nk_r l0), (1, nk_i l1), (5, nk_i l5)] [] S R := by
  intro l0 l1 l5 S R t_l0 hr
  unfold ja_X4_enterBody_b88 at hr
  refine nk_p (i := .aload_n 0) (len := 1) (pc' := 89) mJ_318 (by decide +kernel) (ns_aload_n 0 rfl rfl) rfl ?_
  refine nk_getC (f := (2, 8, 0)) (x := 21) (len := 3) (ci := 4) (k := 3) (pc' := 92) ja_okT mJ_318 (by decide +kernel) (by decide +kernel) (by decide +kernel) (by decide) t_l0 rfl ?_
  have t1 : nk_cl ja_Tt (ja_c l0 3) = some 8 := nk_tc (y := 0) ja_okT t_l0 (by decide +kernel)
  refine nk_getC (f := (4, 3, 48)) (x := 494) (len := 3) (ci := 8) (k := 4) (pc' := 95) ja_okT mJ_318 (by decide +kernel) (by decide +kernel) (by decide +kernel) (by decide) t1 rfl ?_
  have t2 : nk_ar ja_Tt (ja_c (ja_c l0 3) 4) = some (3, 48) := nk_ta ja_okT t1 (by decide +kernel)
  refine nk_p (i := .iload_n 1) (len := 1) (pc' := 96) mJ_318 (by decide +kernel) (ns_iload_n 1 rfl rfl) rfl ?_
  obtain ⟨h3, hr⟩ := nk_cke hr
  refine nk_bald (t := 3) (len := 1) (N := 48) (pc' := 97) mJ_318 (by decide +kernel) t2 (by decide) h3.1 h3.2 rfl rfl ?_
  refine nk_icond (c := .eq) (off := 30) (len := 3) (t := 127) (pc' := 100) mJ_318 (by decide +kernel) (by decide +kernel) rfl (fun hc => ?_) (fun hc => ?_)
  · have hr := nk_ifp (c := (S.1 (ja_c (ja_c l0 3) 4) l1.toNat) = 0) hc hr
    cases hr
    exact nk_vret (len := 1) mJ_318 (by decide +kernel) rfl
  · have hr := nk_ifn (c := (S.1 (ja_c (ja_c l0 3) 4) l1.toNat) = 0) hc hr
    refine nk_p (i := .aload_n 0) (len := 1) (pc' := 101) mJ_318 (by decide +kernel) (ns_aload_n 0 rfl rfl) rfl ?_
    refine nk_p (i := .iconst 1) (len := 1) (pc' := 102) mJ_318 (by decide +kernel) (ns_iconst (c := 1) (by decide +kernel)) rfl ?_
    obtain ⟨S4, h5, hr⟩ := nk_lte hr
    refine nk_putI (y := (0, 0)) (ty := .boolean) (x := 482) (len := 3) (ci := 4) (k := 13) (pc' := 105) ja_okT mJ_318 (by decide +kernel) (by decide +kernel) (by decide +kernel) t_l0 (Or.inr ⟨rfl, by decide⟩) rfl h5 ?_
    refine nk_p (i := .aload_n 0) (len := 1) (pc' := 106) mJ_318 (by decide +kernel) (ns_aload_n 0 rfl rfl) rfl ?_
    refine nk_p (i := .aload_n 0) (len := 1) (pc' := 107) mJ_318 (by decide +kernel) (ns_aload_n 0 rfl rfl) rfl ?_
    refine nk_getL (y := (0, 0)) (x := 480) (len := 3) (ci := 4) (k := 12) (pc' := 110) ja_okT mJ_318 (by decide +kernel) (by decide +kernel) (by decide +kernel) t_l0 rfl ?_
    refine nk_p (i := .aload_n 0) (len := 1) (pc' := 111) mJ_318 (by decide +kernel) (ns_aload_n 0 rfl rfl) rfl ?_
    refine nk_getC (f := (2, 8, 0)) (x := 21) (len := 3) (ci := 4) (k := 3) (pc' := 114) ja_okT mJ_318 (by decide +kernel) (by decide +kernel) (by decide +kernel) (by decide) t_l0 rfl ?_
    refine nk_getC (f := (4, 2, 48)) (x := 497) (len := 3) (ci := 8) (k := 3) (pc' := 117) ja_okT mJ_318 (by decide +kernel) (by decide +kernel) (by decide +kernel) (by decide) t1 rfl ?_
    have t6 : nk_ar ja_Tt (ja_c (ja_c l0 3) 3) = some (2, 48) := nk_ta ja_okT t1 (by decide +kernel)
    refine nk_p (i := .iload_n 1) (len := 1) (pc' := 118) mJ_318 (by decide +kernel) (ns_iload_n 1 rfl rfl) rfl ?_
    refine nk_lald (len := 1) (N := 48) (pc' := 119) mJ_318 (by decide +kernel) t6 h3.1 h3.2 rfl rfl ?_
    refine nk_p (i := .iload 5) (len := 2) (pc' := 121) mJ_318 (by decide +kernel) (ns_iload 2 rfl) rfl ?_
    obtain ⟨r7, S8, h9, hr⟩ := nk_bde hr
    refine nk_callS (ci := 0) (n := 3) (x := 461) (len := 3) (j' := 420) (q' := 2) (r := r7) (S' := S8) (L2 := [(0, nk_l (S4.1 l0 12)), (2, nk_l (S4.1 (ja_c (ja_c l0 3) 3) l1.toNat)), (4, nk_i l5)]) (rest := [nk_r l0]) (st' := [nk_l r7, nk_r l0]) (pc' := 124) mJ_318 (by decide +kernel) (by decide +kernel) (Nat.le_of_ble_eq_true rfl) rfl rfl (Nat.le_of_ble_eq_true rfl) mJ_420 (Nat.le_of_ble_eq_true rfl) ja_Tpos rfl (ja_X8_join_ok zs _ _ _ _ _ h9) rfl ?_
    obtain ⟨S10, h11, hr⟩ := nk_lte hr
    refine nk_putL (y := (0, 0)) (x := 480) (len := 3) (ci := 4) (k := 12) (pc' := 127) ja_okT mJ_318 (by decide +kernel) (by decide +kernel) (by decide +kernel) t_l0 rfl h11 ?_
    cases hr
    exact nk_vret (len := 1) mJ_318 (by decide +kernel) rfl
noncomputable def ja_X4_enterBody (l0 : Nat) (l1 : Int) (l2 : Int) (l3 : Int) (l5 : Int) (S : nk_S) : Option (Int × nk_S) :=
  if 0 ≤ l1 then
    if 0 ≤ l1 ∧ l1 < 48 then
    nk_bd (ja_X7_enter (ja_c l0 2) (S.1 (ja_c (ja_c (S.2 l0 0) 1) 10) l1.toNat) (S.1 (ja_c (ja_c (S.2 l0 0) 1) 8) l1.toNat) l2 (S.1 (ja_c (ja_c (S.2 l0 0) 1) 5) l1.toNat) l3 S) fun r8 S9 =>
    if (S9.1 (ja_c (ja_c l0 3) 5) l1.toNat) = 0 then
      ja_X4_enterBody_b88 l0 l1 l5 S9
    else
      nk_lt (nk_wi S9 l0 9 (nk_ior (S9.1 l0 9) 128)) fun S13 =>
      nk_lt (nk_wi S13 l0 10 (nk_lor (S13.1 l0 10) (S13.1 (ja_c (ja_c l0 3) 5) l1.toNat))) fun S15 =>
      ja_X4_enterBody_b88 l0 l1 l5 S15
    else none
  else
    some (0, S)
theorem ja_X4_enterBody_ok (zs : List Int32) : ∀ (l0 : Nat) (l1 : Int) (l2 : Int) (l3 : Int) (l5 : Int) (S : nk_S) (R : Int × nk_S), nk_cl ja_Tt l0 = some 4 → ja_X4_enterBody l0 l1 l2 l3 l5 S = some R → nk_K ja_Tt mi_Γ (mi_ev zs) 0 318 0 [(0, nk_r l0), (1, nk_i l1), (2, nk_i l2), (3, nk_l l3), (5, nk_i l5)] [] S R := by
  intro l0 l1 l2 l3 l5 S R t_l0 hr
  unfold ja_X4_enterBody at hr
  refine nk_p (i := .aload_n 0) (len := 1) (pc' := 1) mJ_318 (by decide +kernel) (ns_aload_n 0 rfl rfl) rfl ?_
  refine nk_getM (cj := 3) (z := 0) (x := 42) (len := 3) (ci := 4) (k := 0) (pc' := 4) ja_okT mJ_318 (by decide +kernel) (by decide +kernel) (by decide +kernel) t_l0 rfl (fun t1 => ?_)
  refine nk_getC (f := (2, 0, 0)) (x := 71) (len := 3) (ci := 3) (k := 1) (pc' := 7) ja_okT mJ_318 (by decide +kernel) (by decide +kernel) (by decide +kernel) (by decide) t1 rfl ?_
  have t2 : nk_cl ja_Tt (ja_c (S.2 l0 0) 1) = some 0 := nk_tc (y := 0) ja_okT t1 (by decide +kernel)
  refine nk_p (i := .astore 6) (len := 2) (pc' := 9) mJ_318 (by decide +kernel) (ns_astore (L' := [(6, nk_r (ja_c (S.2 l0 0) 1)), (0, nk_r l0), (1, nk_i l1), (2, nk_i l2), (3, nk_l l3), (5, nk_i l5)]) rfl (by decide +kernel)) rfl ?_
  refine nk_p (i := .iload_n 1) (len := 1) (pc' := 10) mJ_318 (by decide +kernel) (ns_iload_n 2 rfl rfl) rfl ?_
  refine nk_icond (c := .ge) (off := 4) (len := 3) (t := 14) (pc' := 13) mJ_318 (by decide +kernel) (by decide +kernel) rfl (fun hc => ?_) (fun hc => ?_)
  · have hr := nk_ifp (c := 0 ≤ l1) hc hr
    refine nk_p (i := .aload_n 0) (len := 1) (pc' := 15) mJ_318 (by decide +kernel) (ns_aload_n 1 rfl rfl) rfl ?_
    refine nk_getC (f := (2, 7, 0)) (x := 12) (len := 3) (ci := 4) (k := 2) (pc' := 18) ja_okT mJ_318 (by decide +kernel) (by decide +kernel) (by decide +kernel) (by decide) t_l0 rfl ?_
    have t3 : nk_cl ja_Tt (ja_c l0 2) = some 7 := nk_tc (y := 0) ja_okT t_l0 (by decide +kernel)
    refine nk_p (i := .aload 6) (len := 2) (pc' := 20) mJ_318 (by decide +kernel) (ns_aload 0 rfl) rfl ?_
    refine nk_getC (f := (4, 1, 48)) (x := 81) (len := 3) (ci := 0) (k := 10) (pc' := 23) ja_okT mJ_318 (by decide +kernel) (by decide +kernel) (by decide +kernel) (by decide) t2 rfl ?_
    have t4 : nk_ar ja_Tt (ja_c (ja_c (S.2 l0 0) 1) 10) = some (1, 48) := nk_ta ja_okT t2 (by decide +kernel)
    refine nk_p (i := .iload_n 1) (len := 1) (pc' := 24) mJ_318 (by decide +kernel) (ns_iload_n 2 rfl rfl) rfl ?_
    obtain ⟨h5, hr⟩ := nk_cke hr
    refine nk_iald (len := 1) (N := 48) (pc' := 25) mJ_318 (by decide +kernel) t4 h5.1 h5.2 rfl rfl ?_
    refine nk_p (i := .aload 6) (len := 2) (pc' := 27) mJ_318 (by decide +kernel) (ns_aload 0 rfl) rfl ?_
    refine nk_getC (f := (4, 1, 48)) (x := 84) (len := 3) (ci := 0) (k := 8) (pc' := 30) ja_okT mJ_318 (by decide +kernel) (by decide +kernel) (by decide +kernel) (by decide) t2 rfl ?_
    have t6 : nk_ar ja_Tt (ja_c (ja_c (S.2 l0 0) 1) 8) = some (1, 48) := nk_ta ja_okT t2 (by decide +kernel)
    refine nk_p (i := .iload_n 1) (len := 1) (pc' := 31) mJ_318 (by decide +kernel) (ns_iload_n 2 rfl rfl) rfl ?_
    refine nk_iald (len := 1) (N := 48) (pc' := 32) mJ_318 (by decide +kernel) t6 h5.1 h5.2 rfl rfl ?_
    refine nk_p (i := .iload_n 2) (len := 1) (pc' := 33) mJ_318 (by decide +kernel) (ns_iload_n 3 rfl rfl) rfl ?_
    refine nk_p (i := .aload 6) (len := 2) (pc' := 35) mJ_318 (by decide +kernel) (ns_aload 0 rfl) rfl ?_
    refine nk_getC (f := (4, 1, 48)) (x := 477) (len := 3) (ci := 0) (k := 5) (pc' := 38) ja_okT mJ_318 (by decide +kernel) (by decide +kernel) (by decide +kernel) (by decide) t2 rfl ?_
    have t7 : nk_ar ja_Tt (ja_c (ja_c (S.2 l0 0) 1) 5) = some (1, 48) := nk_ta ja_okT t2 (by decide +kernel)
    refine nk_p (i := .iload_n 1) (len := 1) (pc' := 39) mJ_318 (by decide +kernel) (ns_iload_n 2 rfl rfl) rfl ?_
    refine nk_iald (len := 1) (N := 48) (pc' := 40) mJ_318 (by decide +kernel) t7 h5.1 h5.2 rfl rfl ?_
    refine nk_p (i := .lload_n 3) (len := 1) (pc' := 41) mJ_318 (by decide +kernel) (ns_lload_n 4 rfl rfl) rfl ?_
    obtain ⟨r8, S9, h10, hr⟩ := nk_bde hr
    refine nk_callV (ci := 7) (n := 5) (x := 87) (len := 3) (j' := 402) (q' := 0) (r := r8) (S' := S9) (L2 := [(0, nk_r (ja_c l0 2)), (1, nk_i (S.1 (ja_c (ja_c (S.2 l0 0) 1) 10) l1.toNat)), (2, nk_i (S.1 (ja_c (ja_c (S.2 l0 0) 1) 8) l1.toNat)), (3, nk_i l2), (4, nk_i (S.1 (ja_c (ja_c (S.2 l0 0) 1) 5) l1.toNat)), (5, nk_l l3)]) (rest := []) (st' := []) (pc' := 44) mJ_318 (by decide +kernel) (by decide +kernel) rfl rfl t3 (Nat.le_of_ble_eq_true rfl) mJ_402 (Nat.le_of_ble_eq_true rfl) rfl (ja_X7_enter_ok zs _ _ _ _ _ _ _ _ t3 h10) rfl ?_
    refine nk_p (i := .aload_n 0) (len := 1) (pc' := 45) mJ_318 (by decide +kernel) (ns_aload_n 1 rfl rfl) rfl ?_
    refine nk_getC (f := (2, 8, 0)) (x := 21) (len := 3) (ci := 4) (k := 3) (pc' := 48) ja_okT mJ_318 (by decide +kernel) (by decide +kernel) (by decide +kernel) (by decide) t_l0 rfl ?_
    have t11 : nk_cl ja_Tt (ja_c l0 3) = some 8 := nk_tc (y := 0) ja_okT t_l0 (by decide +kernel)
    refine nk_getC (f := (4, 2, 48)) (x := 491) (len := 3) (ci := 8) (k := 5) (pc' := 51) ja_okT mJ_318 (by decide +kernel) (by decide +kernel) (by decide +kernel) (by decide) t11 rfl ?_
    have t12 : nk_ar ja_Tt (ja_c (ja_c l0 3) 5) = some (2, 48) := nk_ta ja_okT t11 (by decide +kernel)
    refine nk_p (i := .iload_n 1) (len := 1) (pc' := 52) mJ_318 (by decide +kernel) (ns_iload_n 2 rfl rfl) rfl ?_
    refine nk_lald (len := 1) (N := 48) (pc' := 53) mJ_318 (by decide +kernel) t12 h5.1 h5.2 rfl rfl ?_
    refine nk_p (i := .lconst 0) (len := 1) (pc' := 54) mJ_318 (by decide +kernel) (ns_lconst (c := 0) (by decide +kernel)) rfl ?_
    refine nk_p (i := .lcmp) (len := 1) (pc' := 55) mJ_318 (by decide +kernel) ns_lcmp rfl ?_
    refine nk_lcond (c := .eq) (off := 33) (len := 3) (t := 88) (pc' := 58) mJ_318 (by decide +kernel) (by decide +kernel) rfl (fun hc => ?_) (fun hc => ?_)
    · have hr := nk_ifp (c := (S9.1 (ja_c (ja_c l0 3) 5) l1.toNat) = 0) hc hr
      refine nk_sub [1, 2, 5] (L' := [(0, nk_r l0), (1, nk_i l1), (5, nk_i l5)]) rfl ?_
      exact ja_X4_enterBody_b88_ok zs _ _ _ _ _ t_l0 hr
    · have hr := nk_ifn (c := (S9.1 (ja_c (ja_c l0 3) 5) l1.toNat) = 0) hc hr
      refine nk_p (i := .aload_n 0) (len := 1) (pc' := 59) mJ_318 (by decide +kernel) (ns_aload_n 1 rfl rfl) rfl ?_
      refine nk_p (i := .dup) (len := 1) (pc' := 60) mJ_318 (by decide +kernel) (ns_dup rfl) rfl ?_
      refine nk_getI (y := (0, 0)) (x := 185) (len := 3) (ci := 4) (k := 9) (pc' := 63) ja_okT mJ_318 (by decide +kernel) (by decide +kernel) (by decide +kernel) t_l0 rfl ?_
      refine nk_p (i := .sipush 128) (len := 3) (pc' := 66) mJ_318 (by decide +kernel) (ns_sipush (c := 128) (by decide +kernel)) rfl ?_
      refine nk_p (i := .ior) (len := 1) (pc' := 67) mJ_318 (by decide +kernel) ns_ior rfl ?_
      obtain ⟨S13, h14, hr⟩ := nk_lte hr
      refine nk_putI (y := (0, 0)) (ty := .int) (x := 185) (len := 3) (ci := 4) (k := 9) (pc' := 70) ja_okT mJ_318 (by decide +kernel) (by decide +kernel) (by decide +kernel) t_l0 (Or.inl rfl) rfl h14 ?_
      refine nk_p (i := .aload_n 0) (len := 1) (pc' := 71) mJ_318 (by decide +kernel) (ns_aload_n 1 rfl rfl) rfl ?_
      refine nk_p (i := .dup) (len := 1) (pc' := 72) mJ_318 (by decide +kernel) (ns_dup rfl) rfl ?_
      refine nk_getL (y := (0, 0)) (x := 188) (len := 3) (ci := 4) (k := 10) (pc' := 75) ja_okT mJ_318 (by decide +kernel) (by decide +kernel) (by decide +kernel) t_l0 rfl ?_
      refine nk_p (i := .aload_n 0) (len := 1) (pc' := 76) mJ_318 (by decide +kernel) (ns_aload_n 1 rfl rfl) rfl ?_
      refine nk_getC (f := (2, 8, 0)) (x := 21) (len := 3) (ci := 4) (k := 3) (pc' := 79) ja_okT mJ_318 (by decide +kernel) (by decide +kernel) (by decide +kernel) (by decide) t_l0 rfl ?_
      refine nk_getC (f := (4, 2, 48)) (x := 491) (len := 3) (ci := 8) (k := 5) (pc' := 82) ja_okT mJ_318 (by decide +kernel) (by decide +kernel) (by decide +kernel) (by decide) t11 rfl ?_
      refine nk_p (i := .iload_n 1) (len := 1) (pc' := 83) mJ_318 (by decide +kernel) (ns_iload_n 2 rfl rfl) rfl ?_
      refine nk_lald (len := 1) (N := 48) (pc' := 84) mJ_318 (by decide +kernel) t12 h5.1 h5.2 rfl rfl ?_
      refine nk_p (i := .lor) (len := 1) (pc' := 85) mJ_318 (by decide +kernel) ns_lor rfl ?_
      obtain ⟨S15, h16, hr⟩ := nk_lte hr
      refine nk_putL (y := (0, 0)) (x := 188) (len := 3) (ci := 4) (k := 10) (pc' := 88) ja_okT mJ_318 (by decide +kernel) (by decide +kernel) (by decide +kernel) t_l0 rfl h16 ?_
      refine nk_sub [1, 2, 5] (L' := [(0, nk_r l0), (1, nk_i l1), (5, nk_i l5)]) rfl ?_
      exact ja_X4_enterBody_b88_ok zs _ _ _ _ _ t_l0 hr
  · have hr := nk_ifn (c := 0 ≤ l1) hc hr
    cases hr
    exact nk_vret (len := 1) mJ_318 (by decide +kernel) rfl
