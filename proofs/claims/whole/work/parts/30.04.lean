/-! SafeCode$Program takes (I)I -/
noncomputable def ja_X3_takes_b19 (l0 : Nat) (l1 : Int) (S : nk_S) : Option (Int × nk_S) :=
  if 0 ≤ l1 ∧ l1 < 1024 then
  if 0 ≤ (S.1 (ja_c l0 5) l1.toNat) ∧ (S.1 (ja_c l0 5) l1.toNat) < 48 then
  some ((S.1 (ja_c (ja_c l0 1) 5) (S.1 (ja_c l0 5) l1.toNat).toNat), S)
  else none
  else none
theorem ja_X3_takes_b19_ok (zs : List Int32) : ∀ (l0 : Nat) (l1 : Int) (S : nk_S) (R : Int × nk_S), nk_cl ja_Tt l0 = some 3 → ja_X3_takes_b19 l0 l1 S = some R → nk_K ja_Tt mi_Γ (mi_ev zs) 1 308 19 [(0, nk_r l0), (1, nk_i l1)] [] S R := by
  intro l0 l1 S R t_l0 hr
  unfold ja_X3_takes_b19 at hr
  refine nk_p (i := .aload_n 0) (len := 1) (pc' := 20) mJ_308 (by decide +kernel) (ns_aload_n 0 rfl rfl) rfl ?_
  refine nk_getC (f := (2, 0, 0)) (x := 21) (len := 3) (ci := 3) (k := 1) (pc' := 23) ja_okT mJ_308 (by decide +kernel) (by decide +kernel) (by decide +kernel) (by decide) t_l0 rfl ?_
  have t1 : nk_cl ja_Tt (ja_c l0 1) = some 0 := nk_tc (y := 0) ja_okT t_l0 (by decide +kernel)
  refine nk_getC (f := (4, 1, 48)) (x := 89) (len := 3) (ci := 0) (k := 5) (pc' := 26) ja_okT mJ_308 (by decide +kernel) (by decide +kernel) (by decide +kernel) (by decide) t1 rfl ?_
  have t2 : nk_ar ja_Tt (ja_c (ja_c l0 1) 5) = some (1, 48) := nk_ta ja_okT t1 (by decide +kernel)
  refine nk_p (i := .aload_n 0) (len := 1) (pc' := 27) mJ_308 (by decide +kernel) (ns_aload_n 0 rfl rfl) rfl ?_
  refine nk_getC (f := (4, 1, 1024)) (x := 36) (len := 3) (ci := 3) (k := 5) (pc' := 30) ja_okT mJ_308 (by decide +kernel) (by decide +kernel) (by decide +kernel) (by decide) t_l0 rfl ?_
  have t3 : nk_ar ja_Tt (ja_c l0 5) = some (1, 1024) := nk_ta ja_okT t_l0 (by decide +kernel)
  refine nk_p (i := .iload_n 1) (len := 1) (pc' := 31) mJ_308 (by decide +kernel) (ns_iload_n 1 rfl rfl) rfl ?_
  obtain ⟨h4, hr⟩ := nk_cke hr
  refine nk_iald (len := 1) (N := 1024) (pc' := 32) mJ_308 (by decide +kernel) t3 h4.1 h4.2 rfl rfl ?_
  obtain ⟨h5, hr⟩ := nk_cke hr
  refine nk_iald (len := 1) (N := 48) (pc' := 33) mJ_308 (by decide +kernel) t2 h5.1 h5.2 rfl rfl ?_
  refine nk_p (i := .goto 8) (len := 3) (pc' := 41) mJ_308 (by decide +kernel) (ns_goto (by decide +kernel)) rfl ?_
  cases hr
  exact nk_iret (ty := .int) (len := 1) mJ_308 (by decide +kernel) rfl (nk_nar_i _)
noncomputable def ja_X3_takes (l0 : Nat) (l1 : Int) (S : nk_S) : Option (Int × nk_S) :=
  if 0 ≤ l1 ∧ l1 < 1024 then
  nk_lt (S.1 (ja_c l0 4) l1.toNat) fun v3 =>
  if v3 = 39 then
    ja_X3_takes_b19 l0 l1 S
  else
    if v3 = 40 then
      ja_X3_takes_b19 l0 l1 S
    else
      if 0 ≤ v3 ∧ v3 < 46 then
      some (((ja_ob 46).getD v3.toNat 0).toInt, S)
      else none
  else none
theorem ja_X3_takes_ok (zs : List Int32) : ∀ (l0 : Nat) (l1 : Int) (S : nk_S) (R : Int × nk_S), nk_cl ja_Tt l0 = some 3 → ja_X3_takes l0 l1 S = some R → nk_K ja_Tt mi_Γ (mi_ev zs) 1 308 0 [(0, nk_r l0), (1, nk_i l1)] [] S R := by
  intro l0 l1 S R t_l0 hr
  unfold ja_X3_takes at hr
  refine nk_p (i := .aload_n 0) (len := 1) (pc' := 1) mJ_308 (by decide +kernel) (ns_aload_n 0 rfl rfl) rfl ?_
  refine nk_getC (f := (4, 1, 1024)) (x := 32) (len := 3) (ci := 3) (k := 4) (pc' := 4) ja_okT mJ_308 (by decide +kernel) (by decide +kernel) (by decide +kernel) (by decide) t_l0 rfl ?_
  have t1 : nk_ar ja_Tt (ja_c l0 4) = some (1, 1024) := nk_ta ja_okT t_l0 (by decide +kernel)
  refine nk_p (i := .iload_n 1) (len := 1) (pc' := 5) mJ_308 (by decide +kernel) (ns_iload_n 1 rfl rfl) rfl ?_
  obtain ⟨h2, hr⟩ := nk_cke hr
  refine nk_iald (len := 1) (N := 1024) (pc' := 6) mJ_308 (by decide +kernel) t1 h2.1 h2.2 rfl rfl ?_
  obtain ⟨v3, h4, hr⟩ := nk_lte hr
  refine nk_p (i := .istore_n 2) (len := 1) (pc' := 7) mJ_308 (by decide +kernel) (ns_istore_n (L' := [(2, nk_i v3), (0, nk_r l0), (1, nk_i l1)]) h4 rfl rfl (by decide +kernel)) rfl ?_
  refine nk_p (i := .iload_n 2) (len := 1) (pc' := 8) mJ_308 (by decide +kernel) (ns_iload_n 0 rfl rfl) rfl ?_
  refine nk_p (i := .bipush 39) (len := 2) (pc' := 10) mJ_308 (by decide +kernel) (ns_bipush (c := 39) (by decide +kernel)) rfl ?_
  refine nk_icmp (c := .eq) (off := 9) (len := 3) (t := 19) (pc' := 13) mJ_308 (by decide +kernel) (by decide +kernel) rfl (fun hc => ?_) (fun hc => ?_)
  · have hr := nk_ifp (c := v3 = 39) hc hr
    refine nk_sub [1, 2] (L' := [(0, nk_r l0), (1, nk_i l1)]) rfl ?_
    exact ja_X3_takes_b19_ok zs _ _ _ _ t_l0 hr
  · have hr := nk_ifn (c := v3 = 39) hc hr
    refine nk_p (i := .iload_n 2) (len := 1) (pc' := 14) mJ_308 (by decide +kernel) (ns_iload_n 0 rfl rfl) rfl ?_
    refine nk_p (i := .bipush 40) (len := 2) (pc' := 16) mJ_308 (by decide +kernel) (ns_bipush (c := 40) (by decide +kernel)) rfl ?_
    refine nk_icmp (c := .ne) (off := 20) (len := 3) (t := 36) (pc' := 19) mJ_308 (by decide +kernel) (by decide +kernel) rfl (fun hc => ?_) (fun hc => ?_)
    · have hr := nk_ifn (c := v3 = 40) hc hr
      refine nk_gsto (x := 92) (len := 3) (pc' := 39) (s1 := "SafeCode") (s2 := "TAKES") (s3 := "[I") (k := 46) mJ_308 (by decide +kernel) (by decide +kernel) rfl ?_
      refine nk_p (i := .iload_n 2) (len := 1) (pc' := 40) mJ_308 (by decide +kernel) (ns_iload_n 0 rfl rfl) rfl ?_
      obtain ⟨h5, hr⟩ := nk_cke hr
      refine nk_oiald (len := 1) (xs := ja_ob 46) (N := 46) (pc' := 41) mJ_308 (by decide +kernel) rfl h5.1 h5.2 rfl rfl ?_
      cases hr
      exact nk_iret (ty := .int) (len := 1) mJ_308 (by decide +kernel) rfl (nk_nar_i _)
    · have hr := nk_ifp (c := v3 = 40) (Decidable.of_not_not hc) hr
      refine nk_sub [1, 2] (L' := [(0, nk_r l0), (1, nk_i l1)]) rfl ?_
      exact ja_X3_takes_b19_ok zs _ _ _ _ t_l0 hr
/-! SafeCode$Types fineHeights (I)I -/
noncomputable def ja_X9_fineHeights (l0 : Nat) (l1 : Int) (S : nk_S) : Option (Int × nk_S) :=
  nk_bd (ja_X3_leaves (S.2 l0 0) l1 S) fun r2 S3 =>
  nk_bd (ja_X3_takes (S3.2 l0 0) l1 S3) fun r6 S7 =>
  nk_lt (nk_w (r2 - r6)) fun v9 =>
  if 0 ≤ l1 ∧ l1 < 1024 then
  nk_bd (ja_X3_takes (S7.2 l0 0) l1 S7) fun r14 S15 =>
  nk_lt (nk_iand (S7.1 (ja_c l0 2) l1.toNat) (nk_ishl 511 r14)) fun v17 =>
  if v9 ≤ 0 then
    some (v17, S15)
  else
    some ((nk_iand v17 (nk_iushr 511 v9)), S15)
  else none
theorem ja_X9_fineHeights_ok (zs : List Int32) : ∀ (l0 : Nat) (l1 : Int) (S : nk_S) (R : Int × nk_S), nk_cl ja_Tt l0 = some 9 → ja_X9_fineHeights l0 l1 S = some R → nk_K ja_Tt mi_Γ (mi_ev zs) 1 424 0 [(0, nk_r l0), (1, nk_i l1)] [] S R := by
  intro l0 l1 S R t_l0 hr
  unfold ja_X9_fineHeights at hr
  refine nk_p (i := .aload_n 0) (len := 1) (pc' := 1) mJ_424 (by decide +kernel) (ns_aload_n 0 rfl rfl) rfl ?_
  refine nk_getM (cj := 3) (z := 0) (x := 28) (len := 3) (ci := 9) (k := 0) (pc' := 4) ja_okT mJ_424 (by decide +kernel) (by decide +kernel) (by decide +kernel) t_l0 rfl (fun t1 => ?_)
  refine nk_p (i := .iload_n 1) (len := 1) (pc' := 5) mJ_424 (by decide +kernel) (ns_iload_n 1 rfl rfl) rfl ?_
  obtain ⟨r2, S3, h4, hr⟩ := nk_bde hr
  refine nk_callV (ci := 3) (n := 1) (x := 86) (len := 3) (j' := 306) (q' := 1) (r := r2) (S' := S3) (L2 := [(0, nk_r (S.2 l0 0)), (1, nk_i l1)]) (rest := []) (st' := [nk_i r2]) (pc' := 8) mJ_424 (by decide +kernel) (by decide +kernel) rfl rfl t1 (Nat.le_of_ble_eq_true rfl) mJ_306 (Nat.le_of_ble_eq_true rfl) rfl (ja_X3_leaves_ok zs _ _ _ _ t1 h4) rfl ?_
  refine nk_p (i := .aload_n 0) (len := 1) (pc' := 9) mJ_424 (by decide +kernel) (ns_aload_n 0 rfl rfl) rfl ?_
  refine nk_getM (cj := 3) (z := 0) (x := 28) (len := 3) (ci := 9) (k := 0) (pc' := 12) ja_okT mJ_424 (by decide +kernel) (by decide +kernel) (by decide +kernel) t_l0 rfl (fun t5 => ?_)
  refine nk_p (i := .iload_n 1) (len := 1) (pc' := 13) mJ_424 (by decide +kernel) (ns_iload_n 1 rfl rfl) rfl ?_
  obtain ⟨r6, S7, h8, hr⟩ := nk_bde hr
  refine nk_callV (ci := 3) (n := 1) (x := 89) (len := 3) (j' := 308) (q' := 1) (r := r6) (S' := S7) (L2 := [(0, nk_r (S3.2 l0 0)), (1, nk_i l1)]) (rest := [nk_i r2]) (st' := [nk_i r6, nk_i r2]) (pc' := 16) mJ_424 (by decide +kernel) (by decide +kernel) rfl rfl t5 (Nat.le_of_ble_eq_true rfl) mJ_308 (Nat.le_of_ble_eq_true rfl) rfl (ja_X3_takes_ok zs _ _ _ _ t5 h8) rfl ?_
  refine nk_p (i := .isub) (len := 1) (pc' := 17) mJ_424 (by decide +kernel) ns_isub rfl ?_
  obtain ⟨v9, h10, hr⟩ := nk_lte hr
  refine nk_p (i := .istore_n 2) (len := 1) (pc' := 18) mJ_424 (by decide +kernel) (ns_istore_n (L' := [(2, nk_i v9), (0, nk_r l0), (1, nk_i l1)]) h10 rfl rfl (by decide +kernel)) rfl ?_
  refine nk_p (i := .aload_n 0) (len := 1) (pc' := 19) mJ_424 (by decide +kernel) (ns_aload_n 1 rfl rfl) rfl ?_
  refine nk_getC (f := (4, 1, 1024)) (x := 9) (len := 3) (ci := 9) (k := 2) (pc' := 22) ja_okT mJ_424 (by decide +kernel) (by decide +kernel) (by decide +kernel) (by decide) t_l0 rfl ?_
  have t11 : nk_ar ja_Tt (ja_c l0 2) = some (1, 1024) := nk_ta ja_okT t_l0 (by decide +kernel)
  refine nk_p (i := .iload_n 1) (len := 1) (pc' := 23) mJ_424 (by decide +kernel) (ns_iload_n 2 rfl rfl) rfl ?_
  obtain ⟨h12, hr⟩ := nk_cke hr
  refine nk_iald (len := 1) (N := 1024) (pc' := 24) mJ_424 (by decide +kernel) t11 h12.1 h12.2 rfl rfl ?_
  refine nk_p (i := .sipush 511) (len := 3) (pc' := 27) mJ_424 (by decide +kernel) (ns_sipush (c := 511) (by decide +kernel)) rfl ?_
  refine nk_p (i := .aload_n 0) (len := 1) (pc' := 28) mJ_424 (by decide +kernel) (ns_aload_n 1 rfl rfl) rfl ?_
  refine nk_getM (cj := 3) (z := 0) (x := 28) (len := 3) (ci := 9) (k := 0) (pc' := 31) ja_okT mJ_424 (by decide +kernel) (by decide +kernel) (by decide +kernel) t_l0 rfl (fun t13 => ?_)
  refine nk_p (i := .iload_n 1) (len := 1) (pc' := 32) mJ_424 (by decide +kernel) (ns_iload_n 2 rfl rfl) rfl ?_
  obtain ⟨r14, S15, h16, hr⟩ := nk_bde hr
  refine nk_callV (ci := 3) (n := 1) (x := 89) (len := 3) (j' := 308) (q' := 1) (r := r14) (S' := S15) (L2 := [(0, nk_r (S7.2 l0 0)), (1, nk_i l1)]) (rest := [nk_i 511, nk_i (S7.1 (ja_c l0 2) l1.toNat)]) (st' := [nk_i r14, nk_i 511, nk_i (S7.1 (ja_c l0 2) l1.toNat)]) (pc' := 35) mJ_424 (by decide +kernel) (by decide +kernel) rfl rfl t13 (Nat.le_of_ble_eq_true rfl) mJ_308 (Nat.le_of_ble_eq_true rfl) rfl (ja_X3_takes_ok zs _ _ _ _ t13 h16) rfl ?_
  refine nk_p (i := .ishl) (len := 1) (pc' := 36) mJ_424 (by decide +kernel) ns_ishl rfl ?_
  refine nk_p (i := .iand) (len := 1) (pc' := 37) mJ_424 (by decide +kernel) ns_iand rfl ?_
  obtain ⟨v17, h18, hr⟩ := nk_lte hr
  refine nk_p (i := .istore_n 3) (len := 1) (pc' := 38) mJ_424 (by decide +kernel) (ns_istore_n (L' := [(3, nk_i v17), (2, nk_i v9), (0, nk_r l0), (1, nk_i l1)]) h18 rfl rfl (by decide +kernel)) rfl ?_
  refine nk_p (i := .iload_n 2) (len := 1) (pc' := 39) mJ_424 (by decide +kernel) (ns_iload_n 1 rfl rfl) rfl ?_
  refine nk_icond (c := .le) (off := 13) (len := 3) (t := 52) (pc' := 42) mJ_424 (by decide +kernel) (by decide +kernel) rfl (fun hc => ?_) (fun hc => ?_)
  · have hr := nk_ifp (c := v9 ≤ 0) hc hr
    refine nk_p (i := .iload_n 3) (len := 1) (pc' := 53) mJ_424 (by decide +kernel) (ns_iload_n 0 rfl rfl) rfl ?_
    cases hr
    exact nk_iret (ty := .int) (len := 1) mJ_424 (by decide +kernel) rfl (nk_nar_i _)
  · have hr := nk_ifn (c := v9 ≤ 0) hc hr
    refine nk_p (i := .iload_n 3) (len := 1) (pc' := 43) mJ_424 (by decide +kernel) (ns_iload_n 0 rfl rfl) rfl ?_
    refine nk_p (i := .sipush 511) (len := 3) (pc' := 46) mJ_424 (by decide +kernel) (ns_sipush (c := 511) (by decide +kernel)) rfl ?_
    refine nk_p (i := .iload_n 2) (len := 1) (pc' := 47) mJ_424 (by decide +kernel) (ns_iload_n 1 rfl rfl) rfl ?_
    refine nk_p (i := .iushr) (len := 1) (pc' := 48) mJ_424 (by decide +kernel) ns_iushr rfl ?_
    refine nk_p (i := .iand) (len := 1) (pc' := 49) mJ_424 (by decide +kernel) ns_iand rfl ?_
    refine nk_p (i := .goto 4) (len := 3) (pc' := 53) mJ_424 (by decide +kernel) (ns_goto (by decide +kernel)) rfl ?_
    cases hr
    exact nk_iret (ty := .int) (len := 1) mJ_424 (by decide +kernel) rfl (nk_nar_i _)
/-! SafeCode$Program fallsThrough (I)Z -/
noncomputable def ja_X3_fallsThrough (l0 : Nat) (l1 : Int) (S : nk_S) : Option (Int × nk_S) :=
  if 0 ≤ l1 ∧ l1 < 1024 then
  if (S.1 (ja_c l0 4) l1.toNat) = 19 then
    some (0, S)
  else
    nk_bd (ja_X3_endsBody (S.1 (ja_c l0 4) l1.toNat) S) fun r3 S4 =>
    if r3 = 0 then
      some (1, S4)
    else
      some (0, S4)
  else none
theorem ja_X3_fallsThrough_ok (zs : List Int32) : ∀ (l0 : Nat) (l1 : Int) (S : nk_S) (R : Int × nk_S), nk_cl ja_Tt l0 = some 3 → ja_X3_fallsThrough l0 l1 S = some R → nk_K ja_Tt mi_Γ (mi_ev zs) 1 304 0 [(0, nk_r l0), (1, nk_i l1)] [] S R := by
  intro l0 l1 S R t_l0 hr
  unfold ja_X3_fallsThrough at hr
  refine nk_p (i := .aload_n 0) (len := 1) (pc' := 1) mJ_304 (by decide +kernel) (ns_aload_n 0 rfl rfl) rfl ?_
  refine nk_getC (f := (4, 1, 1024)) (x := 32) (len := 3) (ci := 3) (k := 4) (pc' := 4) ja_okT mJ_304 (by decide +kernel) (by decide +kernel) (by decide +kernel) (by decide) t_l0 rfl ?_
  have t1 : nk_ar ja_Tt (ja_c l0 4) = some (1, 1024) := nk_ta ja_okT t_l0 (by decide +kernel)
  refine nk_p (i := .iload_n 1) (len := 1) (pc' := 5) mJ_304 (by decide +kernel) (ns_iload_n 1 rfl rfl) rfl ?_
  obtain ⟨h2, hr⟩ := nk_cke hr
  refine nk_iald (len := 1) (N := 1024) (pc' := 6) mJ_304 (by decide +kernel) t1 h2.1 h2.2 rfl rfl ?_
  refine nk_p (i := .bipush 19) (len := 2) (pc' := 8) mJ_304 (by decide +kernel) (ns_bipush (c := 19) (by decide +kernel)) rfl ?_
  refine nk_icmp (c := .eq) (off := 19) (len := 3) (t := 27) (pc' := 11) mJ_304 (by decide +kernel) (by decide +kernel) rfl (fun hc => ?_) (fun hc => ?_)
  · have hr := nk_ifp (c := (S.1 (ja_c l0 4) l1.toNat) = 19) hc hr
    refine nk_p (i := .iconst 0) (len := 1) (pc' := 28) mJ_304 (by decide +kernel) (ns_iconst (c := 0) (by decide +kernel)) rfl ?_
    cases hr
    exact nk_iret (ty := .boolean) (len := 1) mJ_304 (by decide +kernel) rfl (nk_nar_z (by decide))
  · have hr := nk_ifn (c := (S.1 (ja_c l0 4) l1.toNat) = 19) hc hr
    refine nk_p (i := .aload_n 0) (len := 1) (pc' := 12) mJ_304 (by decide +kernel) (ns_aload_n 0 rfl rfl) rfl ?_
    refine nk_getC (f := (4, 1, 1024)) (x := 32) (len := 3) (ci := 3) (k := 4) (pc' := 15) ja_okT mJ_304 (by decide +kernel) (by decide +kernel) (by decide +kernel) (by decide) t_l0 rfl ?_
    refine nk_p (i := .iload_n 1) (len := 1) (pc' := 16) mJ_304 (by decide +kernel) (ns_iload_n 1 rfl rfl) rfl ?_
    refine nk_iald (len := 1) (N := 1024) (pc' := 17) mJ_304 (by decide +kernel) t1 h2.1 h2.2 rfl rfl ?_
    obtain ⟨r3, S4, h5, hr⟩ := nk_bde hr
    refine nk_callS (ci := 0) (n := 1) (x := 85) (len := 3) (j' := 303) (q' := 1) (r := r3) (S' := S4) (L2 := [(0, nk_i (S.1 (ja_c l0 4) l1.toNat))]) (rest := []) (st' := [nk_i r3]) (pc' := 20) mJ_304 (by decide +kernel) (by decide +kernel) (Nat.le_of_ble_eq_true rfl) rfl rfl (Nat.le_of_ble_eq_true rfl) mJ_303 (Nat.le_of_ble_eq_true rfl) ja_Tpos rfl (ja_X3_endsBody_ok zs _ _ _ h5) rfl ?_
    refine nk_icond (c := .ne) (off := 7) (len := 3) (t := 27) (pc' := 23) mJ_304 (by decide +kernel) (by decide +kernel) rfl (fun hc => ?_) (fun hc => ?_)
    · have hr := nk_ifn (c := r3 = 0) hc hr
      refine nk_p (i := .iconst 0) (len := 1) (pc' := 28) mJ_304 (by decide +kernel) (ns_iconst (c := 0) (by decide +kernel)) rfl ?_
      cases hr
      exact nk_iret (ty := .boolean) (len := 1) mJ_304 (by decide +kernel) rfl (nk_nar_z (by decide))
    · have hr := nk_ifp (c := r3 = 0) (Decidable.of_not_not hc) hr
      refine nk_p (i := .iconst 1) (len := 1) (pc' := 24) mJ_304 (by decide +kernel) (ns_iconst (c := 1) (by decide +kernel)) rfl ?_
      refine nk_p (i := .goto 4) (len := 3) (pc' := 28) mJ_304 (by decide +kernel) (ns_goto (by decide +kernel)) rfl ?_
      cases hr
      exact nk_iret (ty := .boolean) (len := 1) mJ_304 (by decide +kernel) rfl (nk_nar_z (by decide))
/-! SafeCode$Types addHeights (II)V -/
noncomputable def ja_X9_addHeights (l0 : Nat) (l1 : Int) (l2 : Int) (S : nk_S) : Option (Int × nk_S) :=
  if l1 < 0 then
    some (0, S)
  else
    if (S.1 (S.2 l0 0) 3) ≤ l1 then
      some (0, S)
    else
      if 0 ≤ l1 ∧ l1 < 1024 then
      if (nk_ior (S.1 (ja_c l0 2) l1.toNat) l2) = (S.1 (ja_c l0 2) l1.toNat) then
        some (0, S)
      else
        nk_lt (nk_wi S (ja_c l0 2) l1.toNat (nk_ior (S.1 (ja_c l0 2) l1.toNat) l2)) fun S4 =>
        nk_lt (nk_wi S4 l0 7 1) fun S6 =>
        some (0, S6)
      else none
theorem ja_X9_addHeights_ok (zs : List Int32) : ∀ (l0 : Nat) (l1 : Int) (l2 : Int) (S : nk_S) (R : Int × nk_S), nk_cl ja_Tt l0 = some 9 → ja_X9_addHeights l0 l1 l2 S = some R → nk_K ja_Tt mi_Γ (mi_ev zs) 0 422 0 [(0, nk_r l0), (1, nk_i l1), (2, nk_i l2)] [] S R := by
  intro l0 l1 l2 S R t_l0 hr
  unfold ja_X9_addHeights at hr
  refine nk_p (i := .iload_n 1) (len := 1) (pc' := 1) mJ_422 (by decide +kernel) (ns_iload_n 1 rfl rfl) rfl ?_
  refine nk_icond (c := .lt) (off := 46) (len := 3) (t := 47) (pc' := 4) mJ_422 (by decide +kernel) (by decide +kernel) rfl (fun hc => ?_) (fun hc => ?_)
  · have hr := nk_ifp (c := l1 < 0) hc hr
    cases hr
    exact nk_vret (len := 1) mJ_422 (by decide +kernel) rfl
  · have hr := nk_ifn (c := l1 < 0) hc hr
    refine nk_p (i := .iload_n 1) (len := 1) (pc' := 5) mJ_422 (by decide +kernel) (ns_iload_n 1 rfl rfl) rfl ?_
    refine nk_p (i := .aload_n 0) (len := 1) (pc' := 6) mJ_422 (by decide +kernel) (ns_aload_n 0 rfl rfl) rfl ?_
    refine nk_getM (cj := 3) (z := 0) (x := 28) (len := 3) (ci := 9) (k := 0) (pc' := 9) ja_okT mJ_422 (by decide +kernel) (by decide +kernel) (by decide +kernel) t_l0 rfl (fun t1 => ?_)
    refine nk_getI (y := (0, 0)) (x := 119) (len := 3) (ci := 3) (k := 3) (pc' := 12) ja_okT mJ_422 (by decide +kernel) (by decide +kernel) (by decide +kernel) t1 rfl ?_
    refine nk_icmp (c := .ge) (off := 35) (len := 3) (t := 47) (pc' := 15) mJ_422 (by decide +kernel) (by decide +kernel) rfl (fun hc => ?_) (fun hc => ?_)
    · have hr := nk_ifp (c := (S.1 (S.2 l0 0) 3) ≤ l1) hc hr
      cases hr
      exact nk_vret (len := 1) mJ_422 (by decide +kernel) rfl
    · have hr := nk_ifn (c := (S.1 (S.2 l0 0) 3) ≤ l1) hc hr
      refine nk_p (i := .aload_n 0) (len := 1) (pc' := 16) mJ_422 (by decide +kernel) (ns_aload_n 0 rfl rfl) rfl ?_
      refine nk_getC (f := (4, 1, 1024)) (x := 9) (len := 3) (ci := 9) (k := 2) (pc' := 19) ja_okT mJ_422 (by decide +kernel) (by decide +kernel) (by decide +kernel) (by decide) t_l0 rfl ?_
      have t2 : nk_ar ja_Tt (ja_c l0 2) = some (1, 1024) := nk_ta ja_okT t_l0 (by decide +kernel)
      refine nk_p (i := .iload_n 1) (len := 1) (pc' := 20) mJ_422 (by decide +kernel) (ns_iload_n 1 rfl rfl) rfl ?_
      obtain ⟨h3, hr⟩ := nk_cke hr
      refine nk_iald (len := 1) (N := 1024) (pc' := 21) mJ_422 (by decide +kernel) t2 h3.1 h3.2 rfl rfl ?_
      refine nk_p (i := .iload_n 2) (len := 1) (pc' := 22) mJ_422 (by decide +kernel) (ns_iload_n 2 rfl rfl) rfl ?_
      refine nk_p (i := .ior) (len := 1) (pc' := 23) mJ_422 (by decide +kernel) ns_ior rfl ?_
      refine nk_p (i := .aload_n 0) (len := 1) (pc' := 24) mJ_422 (by decide +kernel) (ns_aload_n 0 rfl rfl) rfl ?_
      refine nk_getC (f := (4, 1, 1024)) (x := 9) (len := 3) (ci := 9) (k := 2) (pc' := 27) ja_okT mJ_422 (by decide +kernel) (by decide +kernel) (by decide +kernel) (by decide) t_l0 rfl ?_
      refine nk_p (i := .iload_n 1) (len := 1) (pc' := 28) mJ_422 (by decide +kernel) (ns_iload_n 1 rfl rfl) rfl ?_
      refine nk_iald (len := 1) (N := 1024) (pc' := 29) mJ_422 (by decide +kernel) t2 h3.1 h3.2 rfl rfl ?_
      refine nk_icmp (c := .eq) (off := 18) (len := 3) (t := 47) (pc' := 32) mJ_422 (by decide +kernel) (by decide +kernel) rfl (fun hc => ?_) (fun hc => ?_)
      · have hr := nk_ifp (c := (nk_ior (S.1 (ja_c l0 2) l1.toNat) l2) = (S.1 (ja_c l0 2) l1.toNat)) hc hr
        cases hr
        exact nk_vret (len := 1) mJ_422 (by decide +kernel) rfl
      · have hr := nk_ifn (c := (nk_ior (S.1 (ja_c l0 2) l1.toNat) l2) = (S.1 (ja_c l0 2) l1.toNat)) hc hr
        refine nk_p (i := .aload_n 0) (len := 1) (pc' := 33) mJ_422 (by decide +kernel) (ns_aload_n 0 rfl rfl) rfl ?_
        refine nk_getC (f := (4, 1, 1024)) (x := 9) (len := 3) (ci := 9) (k := 2) (pc' := 36) ja_okT mJ_422 (by decide +kernel) (by decide +kernel) (by decide +kernel) (by decide) t_l0 rfl ?_
        refine nk_p (i := .iload_n 1) (len := 1) (pc' := 37) mJ_422 (by decide +kernel) (ns_iload_n 1 rfl rfl) rfl ?_
        refine nk_p (i := .dup2) (len := 1) (pc' := 38) mJ_422 (by decide +kernel) (ns_dup2 rfl rfl) rfl ?_
        refine nk_iald (len := 1) (N := 1024) (pc' := 39) mJ_422 (by decide +kernel) t2 h3.1 h3.2 rfl rfl ?_
        refine nk_p (i := .iload_n 2) (len := 1) (pc' := 40) mJ_422 (by decide +kernel) (ns_iload_n 2 rfl rfl) rfl ?_
        refine nk_p (i := .ior) (len := 1) (pc' := 41) mJ_422 (by decide +kernel) ns_ior rfl ?_
        obtain ⟨S4, h5, hr⟩ := nk_lte hr
        refine nk_iast (len := 1) (N := 1024) (pc' := 42) mJ_422 (by decide +kernel) t2 h3.1 h3.2 rfl rfl h5 ?_
        refine nk_p (i := .aload_n 0) (len := 1) (pc' := 43) mJ_422 (by decide +kernel) (ns_aload_n 0 rfl rfl) rfl ?_
        refine nk_p (i := .iconst 1) (len := 1) (pc' := 44) mJ_422 (by decide +kernel) (ns_iconst (c := 1) (by decide +kernel)) rfl ?_
        obtain ⟨S6, h7, hr⟩ := nk_lte hr
        refine nk_putI (y := (0, 0)) (ty := .boolean) (x := 62) (len := 3) (ci := 9) (k := 7) (pc' := 47) ja_okT mJ_422 (by decide +kernel) (by decide +kernel) (by decide +kernel) t_l0 (Or.inr ⟨rfl, by decide⟩) rfl h7 ?_
        cases hr
        exact nk_vret (len := 1) mJ_422 (by decide +kernel) rfl
/-! SafeCode$Program target (I)I -/
noncomputable def ja_X3_target (l0 : Nat) (l1 : Int) (S : nk_S) : Option (Int × nk_S) :=
  if 0 ≤ l1 ∧ l1 < 1024 then
  if 0 ≤ (S.1 (ja_c l0 4) l1.toNat) ∧ (S.1 (ja_c l0 4) l1.toNat) < 46 then
  if (((ja_ob 45).getD (S.1 (ja_c l0 4) l1.toNat).toNat 0).toInt) = 4 then
    some ((S.1 (ja_c l0 5) l1.toNat), S)
  else
    some ((-1), S)
  else none
  else none
theorem ja_X3_target_ok (zs : List Int32) : ∀ (l0 : Nat) (l1 : Int) (S : nk_S) (R : Int × nk_S), nk_cl ja_Tt l0 = some 3 → ja_X3_target l0 l1 S = some R → nk_K ja_Tt mi_Γ (mi_ev zs) 1 309 0 [(0, nk_r l0), (1, nk_i l1)] [] S R := by
  intro l0 l1 S R t_l0 hr
  unfold ja_X3_target at hr
  refine nk_gsto (x := 101) (len := 3) (pc' := 3) (s1 := "SafeCode") (s2 := "OPERANDS") (s3 := "[I") (k := 45) mJ_309 (by decide +kernel) (by decide +kernel) rfl ?_
  refine nk_p (i := .aload_n 0) (len := 1) (pc' := 4) mJ_309 (by decide +kernel) (ns_aload_n 0 rfl rfl) rfl ?_
  refine nk_getC (f := (4, 1, 1024)) (x := 32) (len := 3) (ci := 3) (k := 4) (pc' := 7) ja_okT mJ_309 (by decide +kernel) (by decide +kernel) (by decide +kernel) (by decide) t_l0 rfl ?_
  have t1 : nk_ar ja_Tt (ja_c l0 4) = some (1, 1024) := nk_ta ja_okT t_l0 (by decide +kernel)
  refine nk_p (i := .iload_n 1) (len := 1) (pc' := 8) mJ_309 (by decide +kernel) (ns_iload_n 1 rfl rfl) rfl ?_
  obtain ⟨h2, hr⟩ := nk_cke hr
  refine nk_iald (len := 1) (N := 1024) (pc' := 9) mJ_309 (by decide +kernel) t1 h2.1 h2.2 rfl rfl ?_
  obtain ⟨h3, hr⟩ := nk_cke hr
  refine nk_oiald (len := 1) (xs := ja_ob 45) (N := 46) (pc' := 10) mJ_309 (by decide +kernel) rfl h3.1 h3.2 rfl rfl ?_
  refine nk_p (i := .iconst 4) (len := 1) (pc' := 11) mJ_309 (by decide +kernel) (ns_iconst (c := 4) (by decide +kernel)) rfl ?_
  refine nk_icmp (c := .ne) (off := 12) (len := 3) (t := 23) (pc' := 14) mJ_309 (by decide +kernel) (by decide +kernel) rfl (fun hc => ?_) (fun hc => ?_)
  · have hr := nk_ifn (c := (((ja_ob 45).getD (S.1 (ja_c l0 4) l1.toNat).toNat 0).toInt) = 4) hc hr
    refine nk_p (i := .iconst (-1)) (len := 1) (pc' := 24) mJ_309 (by decide +kernel) (ns_iconst (c := (-1)) (by decide +kernel)) rfl ?_
    cases hr
    exact nk_iret (ty := .int) (len := 1) mJ_309 (by decide +kernel) rfl (nk_nar_i _)
  · have hr := nk_ifp (c := (((ja_ob 45).getD (S.1 (ja_c l0 4) l1.toNat).toNat 0).toInt) = 4) (Decidable.of_not_not hc) hr
    refine nk_p (i := .aload_n 0) (len := 1) (pc' := 15) mJ_309 (by decide +kernel) (ns_aload_n 0 rfl rfl) rfl ?_
    refine nk_getC (f := (4, 1, 1024)) (x := 36) (len := 3) (ci := 3) (k := 5) (pc' := 18) ja_okT mJ_309 (by decide +kernel) (by decide +kernel) (by decide +kernel) (by decide) t_l0 rfl ?_
    have t4 : nk_ar ja_Tt (ja_c l0 5) = some (1, 1024) := nk_ta ja_okT t_l0 (by decide +kernel)
    refine nk_p (i := .iload_n 1) (len := 1) (pc' := 19) mJ_309 (by decide +kernel) (ns_iload_n 1 rfl rfl) rfl ?_
    refine nk_iald (len := 1) (N := 1024) (pc' := 20) mJ_309 (by decide +kernel) t4 h2.1 h2.2 rfl rfl ?_
    refine nk_p (i := .goto 4) (len := 3) (pc' := 24) mJ_309 (by decide +kernel) (ns_goto (by decide +kernel)) rfl ?_
    cases hr
    exact nk_iret (ty := .int) (len := 1) mJ_309 (by decide +kernel) rfl (nk_nar_i _)
/-! SafeCode$Program covers (II)Z -/
noncomputable def ja_X3_covers (l0 : Nat) (l1 : Int) (l2 : Int) (S : nk_S) : Option (Int × nk_S) :=
  if 0 ≤ l1 ∧ l1 < 64 then
  if l2 < (S.1 (ja_c l0 13) l1.toNat) then
    some (0, S)
  else
    if (S.1 (ja_c l0 14) l1.toNat) ≤ l2 then
      some (0, S)
    else
      some (1, S)
  else none
theorem ja_X3_covers_ok (zs : List Int32) : ∀ (l0 : Nat) (l1 : Int) (l2 : Int) (S : nk_S) (R : Int × nk_S), nk_cl ja_Tt l0 = some 3 → ja_X3_covers l0 l1 l2 S = some R → nk_K ja_Tt mi_Γ (mi_ev zs) 1 302 0 [(0, nk_r l0), (1, nk_i l1), (2, nk_i l2)] [] S R := by
  intro l0 l1 l2 S R t_l0 hr
  unfold ja_X3_covers at hr
  refine nk_p (i := .aload_n 0) (len := 1) (pc' := 1) mJ_302 (by decide +kernel) (ns_aload_n 0 rfl rfl) rfl ?_
  refine nk_getC (f := (4, 1, 64)) (x := 54) (len := 3) (ci := 3) (k := 13) (pc' := 4) ja_okT mJ_302 (by decide +kernel) (by decide +kernel) (by decide +kernel) (by decide) t_l0 rfl ?_
  have t1 : nk_ar ja_Tt (ja_c l0 13) = some (1, 64) := nk_ta ja_okT t_l0 (by decide +kernel)
  refine nk_p (i := .iload_n 1) (len := 1) (pc' := 5) mJ_302 (by decide +kernel) (ns_iload_n 1 rfl rfl) rfl ?_
  obtain ⟨h2, hr⟩ := nk_cke hr
  refine nk_iald (len := 1) (N := 64) (pc' := 6) mJ_302 (by decide +kernel) t1 h2.1 h2.2 rfl rfl ?_
  refine nk_p (i := .iload_n 2) (len := 1) (pc' := 7) mJ_302 (by decide +kernel) (ns_iload_n 2 rfl rfl) rfl ?_
  refine nk_icmp (c := .gt) (off := 17) (len := 3) (t := 24) (pc' := 10) mJ_302 (by decide +kernel) (by decide +kernel) rfl (fun hc => ?_) (fun hc => ?_)
  · have hr := nk_ifp (c := l2 < (S.1 (ja_c l0 13) l1.toNat)) hc hr
    refine nk_p (i := .iconst 0) (len := 1) (pc' := 25) mJ_302 (by decide +kernel) (ns_iconst (c := 0) (by decide +kernel)) rfl ?_
    cases hr
    exact nk_iret (ty := .boolean) (len := 1) mJ_302 (by decide +kernel) rfl (nk_nar_z (by decide))
  · have hr := nk_ifn (c := l2 < (S.1 (ja_c l0 13) l1.toNat)) hc hr
    refine nk_p (i := .iload_n 2) (len := 1) (pc' := 11) mJ_302 (by decide +kernel) (ns_iload_n 2 rfl rfl) rfl ?_
    refine nk_p (i := .aload_n 0) (len := 1) (pc' := 12) mJ_302 (by decide +kernel) (ns_aload_n 0 rfl rfl) rfl ?_
    refine nk_getC (f := (4, 1, 64)) (x := 57) (len := 3) (ci := 3) (k := 14) (pc' := 15) ja_okT mJ_302 (by decide +kernel) (by decide +kernel) (by decide +kernel) (by decide) t_l0 rfl ?_
    have t3 : nk_ar ja_Tt (ja_c l0 14) = some (1, 64) := nk_ta ja_okT t_l0 (by decide +kernel)
    refine nk_p (i := .iload_n 1) (len := 1) (pc' := 16) mJ_302 (by decide +kernel) (ns_iload_n 1 rfl rfl) rfl ?_
    refine nk_iald (len := 1) (N := 64) (pc' := 17) mJ_302 (by decide +kernel) t3 h2.1 h2.2 rfl rfl ?_
    refine nk_icmp (c := .ge) (off := 7) (len := 3) (t := 24) (pc' := 20) mJ_302 (by decide +kernel) (by decide +kernel) rfl (fun hc => ?_) (fun hc => ?_)
    · have hr := nk_ifp (c := (S.1 (ja_c l0 14) l1.toNat) ≤ l2) hc hr
      refine nk_p (i := .iconst 0) (len := 1) (pc' := 25) mJ_302 (by decide +kernel) (ns_iconst (c := 0) (by decide +kernel)) rfl ?_
      cases hr
      exact nk_iret (ty := .boolean) (len := 1) mJ_302 (by decide +kernel) rfl (nk_nar_z (by decide))
    · have hr := nk_ifn (c := (S.1 (ja_c l0 14) l1.toNat) ≤ l2) hc hr
      refine nk_p (i := .iconst 1) (len := 1) (pc' := 21) mJ_302 (by decide +kernel) (ns_iconst (c := 1) (by decide +kernel)) rfl ?_
      refine nk_p (i := .goto 4) (len := 3) (pc' := 25) mJ_302 (by decide +kernel) (ns_goto (by decide +kernel)) rfl ?_
      cases hr
      exact nk_iret (ty := .boolean) (len := 1) mJ_302 (by decide +kernel) rfl (nk_nar_z (by decide))
/-! SafeCode$Types spreadHeights (I)V -/
noncomputable def ja_X9_spreadHeights_b105 (rec105 : Nat → Int → Int → Int → nk_S → Option (Int × nk_S)) (l0 : Nat) (l1 : Int) (l5 : Int) (l6 : Int) (S : nk_S) : Option (Int × nk_S) :=
  if 0 ≤ l5 ∧ l5 < 48 then
  if (S.1 (ja_c (ja_c (S.2 l0 0) 1) 13) l5.toNat) ≤ l6 then
    some (0, S)
  else
    nk_bd (ja_X3_covers (S.2 l0 0) l6 l1 S) fun r6 S7 =>
    if r6 = 0 then
      nk_lt (nk_w (l6 + 1)) fun v9 =>
      rec105 l0 l1 l5 v9 S7
    else
      if 0 ≤ l6 ∧ l6 < 64 then
      nk_bd (ja_X9_addHeights l0 (S7.1 (ja_c (S7.2 l0 0) 15) l6.toNat) 2 S7) fun r14 S15 =>
      nk_lt (nk_w (l6 + 1)) fun v17 =>
      rec105 l0 l1 l5 v17 S15
      else none
  else none
theorem ja_X9_spreadHeights_b105_ok (zs : List Int32) {rec105 : Nat → Int → Int → Int → nk_S → Option (Int × nk_S)} (hrec105 : ∀ (l0 : Nat) (l1 : Int) (l5 : Int) (l6 : Int) (S : nk_S) (R : Int × nk_S), nk_cl ja_Tt l0 = some 9 → rec105 l0 l1 l5 l6 S = some R → nk_K ja_Tt mi_Γ (mi_ev zs) 0 430 105 [(0, nk_r l0), (1, nk_i l1), (5, nk_i l5), (6, nk_i l6)] [] S R) : ∀ (l0 : Nat) (l1 : Int) (l5 : Int) (l6 : Int) (S : nk_S) (R : Int × nk_S), nk_cl ja_Tt l0 = some 9 → ja_X9_spreadHeights_b105 rec105 l0 l1 l5 l6 S = some R → nk_K ja_Tt mi_Γ (mi_ev zs) 0 430 105 [(0, nk_r l0), (1, nk_i l1), (5, nk_i l5), (6, nk_i l6)] [] S R := by
  intro l0 l1 l5 l6 S R t_l0 hr
  unfold ja_X9_spreadHeights_b105 at hr
  refine nk_p (i := .iload 6) (len := 2) (pc' := 107) mJ_430 (by decide +kernel) (ns_iload 3 rfl) rfl ?_
  refine nk_p (i := .aload_n 0) (len := 1) (pc' := 108) mJ_430 (by decide +kernel) (ns_aload_n 0 rfl rfl) rfl ?_
  refine nk_getM (cj := 3) (z := 0) (x := 28) (len := 3) (ci := 9) (k := 0) (pc' := 111) ja_okT mJ_430 (by decide +kernel) (by decide +kernel) (by decide +kernel) t_l0 rfl (fun t1 => ?_)
  refine nk_getC (f := (2, 0, 0)) (x := 39) (len := 3) (ci := 3) (k := 1) (pc' := 114) ja_okT mJ_430 (by decide +kernel) (by decide +kernel) (by decide +kernel) (by decide) t1 rfl ?_
  have t2 : nk_cl ja_Tt (ja_c (S.2 l0 0) 1) = some 0 := nk_tc (y := 0) ja_okT t1 (by decide +kernel)
  refine nk_getC (f := (4, 1, 48)) (x := 109) (len := 3) (ci := 0) (k := 13) (pc' := 117) ja_okT mJ_430 (by decide +kernel) (by decide +kernel) (by decide +kernel) (by decide) t2 rfl ?_
  have t3 : nk_ar ja_Tt (ja_c (ja_c (S.2 l0 0) 1) 13) = some (1, 48) := nk_ta ja_okT t2 (by decide +kernel)
  refine nk_p (i := .iload 5) (len := 2) (pc' := 119) mJ_430 (by decide +kernel) (ns_iload 2 rfl) rfl ?_
  obtain ⟨h4, hr⟩ := nk_cke hr
  refine nk_iald (len := 1) (N := 48) (pc' := 120) mJ_430 (by decide +kernel) t3 h4.1 h4.2 rfl rfl ?_
  refine nk_icmp (c := .ge) (off := 37) (len := 3) (t := 157) (pc' := 123) mJ_430 (by decide +kernel) (by decide +kernel) rfl (fun hc => ?_) (fun hc => ?_)
  · have hr := nk_ifp (c := (S.1 (ja_c (ja_c (S.2 l0 0) 1) 13) l5.toNat) ≤ l6) hc hr
    cases hr
    exact nk_vret (len := 1) mJ_430 (by decide +kernel) rfl
  · have hr := nk_ifn (c := (S.1 (ja_c (ja_c (S.2 l0 0) 1) 13) l5.toNat) ≤ l6) hc hr
    refine nk_p (i := .aload_n 0) (len := 1) (pc' := 124) mJ_430 (by decide +kernel) (ns_aload_n 0 rfl rfl) rfl ?_
    refine nk_getM (cj := 3) (z := 0) (x := 28) (len := 3) (ci := 9) (k := 0) (pc' := 127) ja_okT mJ_430 (by decide +kernel) (by decide +kernel) (by decide +kernel) t_l0 rfl (fun t5 => ?_)
    refine nk_p (i := .iload 6) (len := 2) (pc' := 129) mJ_430 (by decide +kernel) (ns_iload 3 rfl) rfl ?_
    refine nk_p (i := .iload_n 1) (len := 1) (pc' := 130) mJ_430 (by decide +kernel) (ns_iload_n 1 rfl rfl) rfl ?_
    obtain ⟨r6, S7, h8, hr⟩ := nk_bde hr
    refine nk_callV (ci := 3) (n := 2) (x := 112) (len := 3) (j' := 302) (q' := 1) (r := r6) (S' := S7) (L2 := [(0, nk_r (S.2 l0 0)), (1, nk_i l6), (2, nk_i l1)]) (rest := []) (st' := [nk_i r6]) (pc' := 133) mJ_430 (by decide +kernel) (by decide +kernel) rfl rfl t5 (Nat.le_of_ble_eq_true rfl) mJ_302 (Nat.le_of_ble_eq_true rfl) rfl (ja_X3_covers_ok zs _ _ _ _ _ t5 h8) rfl ?_
    refine nk_icond (c := .eq) (off := 18) (len := 3) (t := 151) (pc' := 136) mJ_430 (by decide +kernel) (by decide +kernel) rfl (fun hc => ?_) (fun hc => ?_)
    · have hr := nk_ifp (c := r6 = 0) hc hr
      obtain ⟨v9, h10, hr⟩ := nk_lte hr
      refine nk_p (i := .iinc 6 1) (len := 3) (pc' := 154) mJ_430 (by decide +kernel) (ns_iinc (c := 1) (L' := [(6, nk_i v9), (0, nk_r l0), (1, nk_i l1), (5, nk_i l5)]) 3 rfl (by decide +kernel) h10 rfl (by decide +kernel)) rfl ?_
      refine nk_p (i := .goto (-49)) (len := 3) (pc' := 105) mJ_430 (by decide +kernel) (ns_goto (by decide +kernel)) rfl ?_
      refine nk_sub [1, 2, 3, 0] (L' := [(0, nk_r l0), (1, nk_i l1), (5, nk_i l5), (6, nk_i v9)]) rfl ?_
      exact hrec105 _ _ _ _ _ _ t_l0 hr
    · have hr := nk_ifn (c := r6 = 0) hc hr
      refine nk_p (i := .aload_n 0) (len := 1) (pc' := 137) mJ_430 (by decide +kernel) (ns_aload_n 0 rfl rfl) rfl ?_
      refine nk_p (i := .aload_n 0) (len := 1) (pc' := 138) mJ_430 (by decide +kernel) (ns_aload_n 0 rfl rfl) rfl ?_
      refine nk_getM (cj := 3) (z := 0) (x := 28) (len := 3) (ci := 9) (k := 0) (pc' := 141) ja_okT mJ_430 (by decide +kernel) (by decide +kernel) (by decide +kernel) t_l0 rfl (fun t11 => ?_)
      refine nk_getC (f := (4, 1, 64)) (x := 116) (len := 3) (ci := 3) (k := 15) (pc' := 144) ja_okT mJ_430 (by decide +kernel) (by decide +kernel) (by decide +kernel) (by decide) t11 rfl ?_
      have t12 : nk_ar ja_Tt (ja_c (S7.2 l0 0) 15) = some (1, 64) := nk_ta ja_okT t11 (by decide +kernel)
      refine nk_p (i := .iload 6) (len := 2) (pc' := 146) mJ_430 (by decide +kernel) (ns_iload 3 rfl) rfl ?_
      obtain ⟨h13, hr⟩ := nk_cke hr
      refine nk_iald (len := 1) (N := 64) (pc' := 147) mJ_430 (by decide +kernel) t12 h13.1 h13.2 rfl rfl ?_
      refine nk_p (i := .iconst 2) (len := 1) (pc' := 148) mJ_430 (by decide +kernel) (ns_iconst (c := 2) (by decide +kernel)) rfl ?_
      obtain ⟨r14, S15, h16, hr⟩ := nk_bde hr
      refine nk_callV (ci := 9) (n := 2) (x := 96) (len := 3) (j' := 422) (q' := 0) (r := r14) (S' := S15) (L2 := [(0, nk_r l0), (1, nk_i (S7.1 (ja_c (S7.2 l0 0) 15) l6.toNat)), (2, nk_i 2)]) (rest := []) (st' := []) (pc' := 151) mJ_430 (by decide +kernel) (by decide +kernel) rfl rfl t_l0 (Nat.le_of_ble_eq_true rfl) mJ_422 (Nat.le_of_ble_eq_true rfl) rfl (ja_X9_addHeights_ok zs _ _ _ _ _ t_l0 h16) rfl ?_
      obtain ⟨v17, h18, hr⟩ := nk_lte hr
      refine nk_p (i := .iinc 6 1) (len := 3) (pc' := 154) mJ_430 (by decide +kernel) (ns_iinc (c := 1) (L' := [(6, nk_i v17), (0, nk_r l0), (1, nk_i l1), (5, nk_i l5)]) 3 rfl (by decide +kernel) h18 rfl (by decide +kernel)) rfl ?_
      refine nk_p (i := .goto (-49)) (len := 3) (pc' := 105) mJ_430 (by decide +kernel) (ns_goto (by decide +kernel)) rfl ?_
      refine nk_sub [1, 2, 3, 0] (L' := [(0, nk_r l0), (1, nk_i l1), (5, nk_i l5), (6, nk_i v17)]) rfl ?_
      exact hrec105 _ _ _ _ _ _ t_l0 hr
noncomputable def ja_X9_spreadHeights_L105 : Nat → Nat → Int → Int → Int → nk_S → Option (Int × nk_S)
  | 0, _, _, _, _, _ => none
  | n + 1, l0, l1, l5, l6, S => ja_X9_spreadHeights_b105 (ja_X9_spreadHeights_L105 n) l0 l1 l5 l6 S
theorem ja_X9_spreadHeights_L105_ok (zs : List Int32) : ∀ n : Nat, ∀ (l0 : Nat) (l1 : Int) (l5 : Int) (l6 : Int) (S : nk_S) (R : Int × nk_S), nk_cl ja_Tt l0 = some 9 → ja_X9_spreadHeights_L105 n l0 l1 l5 l6 S = some R → nk_K ja_Tt mi_Γ (mi_ev zs) 0 430 105 [(0, nk_r l0), (1, nk_i l1), (5, nk_i l5), (6, nk_i l6)] [] S R := by
  intro n
  induction n with
  | zero => intro _ _ _ _ _ _ _ hr; cases hr
  | succ n ih => intro l0 l1 l5 l6 S R t_l0 hr; exact ja_X9_spreadHeights_b105_ok zs ih l0 l1 l5 l6 S R t_l0 hr
noncomputable def ja_X9_spreadHeights_b65 (l0 : Nat) (l1 : Int) (l4 : Int) (S : nk_S) : Option (Int × nk_S) :=
  nk_bd (ja_X3_target (S.2 l0 0) l1 S) fun r2 S3 =>
  nk_bd (ja_X9_addHeights l0 r2 l4 S3) fun r5 S6 =>
  if 0 ≤ l1 ∧ l1 < 1024 then
  nk_lt (S6.1 (ja_c (S6.2 l0 0) 8) l1.toNat) fun v11 =>
  if 0 ≤ v11 ∧ v11 < 48 then
  nk_lt (S6.1 (ja_c (ja_c (S6.2 l0 0) 1) 12) v11.toNat) fun v17 =>
  ja_X9_spreadHeights_L105 nk_big l0 l1 v11 v17 S6
  else none
  else none
theorem ja_X9_spreadHeights_b65_ok (zs : List Int32) : ∀ (l0 : Nat) (l1 : Int) (l4 : Int) (S : nk_S) (R : Int × nk_S), nk_cl ja_Tt l0 = some 9 → ja_X9_spreadHeights_b65 l0 l1 l4 S = some R → nk_K ja_Tt mi_Γ (mi_ev zs) 0 430 65 [(0, nk_r l0), (1, nk_i l1), (4, nk_i l4)] [] S R := by
  intro l0 l1 l4 S R t_l0 hr
  unfold ja_X9_spreadHeights_b65 at hr
  refine nk_p (i := .aload_n 0) (len := 1) (pc' := 66) mJ_430 (by decide +kernel) (ns_aload_n 0 rfl rfl) rfl ?_
  refine nk_p (i := .aload_n 0) (len := 1) (pc' := 67) mJ_430 (by decide +kernel) (ns_aload_n 0 rfl rfl) rfl ?_
  refine nk_getM (cj := 3) (z := 0) (x := 28) (len := 3) (ci := 9) (k := 0) (pc' := 70) ja_okT mJ_430 (by decide +kernel) (by decide +kernel) (by decide +kernel) t_l0 rfl (fun t1 => ?_)
  refine nk_p (i := .iload_n 1) (len := 1) (pc' := 71) mJ_430 (by decide +kernel) (ns_iload_n 1 rfl rfl) rfl ?_
  obtain ⟨r2, S3, h4, hr⟩ := nk_bde hr
  refine nk_callV (ci := 3) (n := 1) (x := 100) (len := 3) (j' := 309) (q' := 1) (r := r2) (S' := S3) (L2 := [(0, nk_r (S.2 l0 0)), (1, nk_i l1)]) (rest := [nk_r l0]) (st' := [nk_i r2, nk_r l0]) (pc' := 74) mJ_430 (by decide +kernel) (by decide +kernel) rfl rfl t1 (Nat.le_of_ble_eq_true rfl) mJ_309 (Nat.le_of_ble_eq_true rfl) rfl (ja_X3_target_ok zs _ _ _ _ t1 h4) rfl ?_
  refine nk_p (i := .iload 4) (len := 2) (pc' := 76) mJ_430 (by decide +kernel) (ns_iload 2 rfl) rfl ?_
  obtain ⟨r5, S6, h7, hr⟩ := nk_bde hr
  refine nk_callV (ci := 9) (n := 2) (x := 96) (len := 3) (j' := 422) (q' := 0) (r := r5) (S' := S6) (L2 := [(0, nk_r l0), (1, nk_i r2), (2, nk_i l4)]) (rest := []) (st' := []) (pc' := 79) mJ_430 (by decide +kernel) (by decide +kernel) rfl rfl t_l0 (Nat.le_of_ble_eq_true rfl) mJ_422 (Nat.le_of_ble_eq_true rfl) rfl (ja_X9_addHeights_ok zs _ _ _ _ _ t_l0 h7) rfl ?_
  refine nk_p (i := .aload_n 0) (len := 1) (pc' := 80) mJ_430 (by decide +kernel) (ns_aload_n 0 rfl rfl) rfl ?_
  refine nk_getM (cj := 3) (z := 0) (x := 28) (len := 3) (ci := 9) (k := 0) (pc' := 83) ja_okT mJ_430 (by decide +kernel) (by decide +kernel) (by decide +kernel) t_l0 rfl (fun t8 => ?_)
  refine nk_getC (f := (4, 1, 1024)) (x := 103) (len := 3) (ci := 3) (k := 8) (pc' := 86) ja_okT mJ_430 (by decide +kernel) (by decide +kernel) (by decide +kernel) (by decide) t8 rfl ?_
  have t9 : nk_ar ja_Tt (ja_c (S6.2 l0 0) 8) = some (1, 1024) := nk_ta ja_okT t8 (by decide +kernel)
  refine nk_p (i := .iload_n 1) (len := 1) (pc' := 87) mJ_430 (by decide +kernel) (ns_iload_n 1 rfl rfl) rfl ?_
  obtain ⟨h10, hr⟩ := nk_cke hr
  refine nk_iald (len := 1) (N := 1024) (pc' := 88) mJ_430 (by decide +kernel) t9 h10.1 h10.2 rfl rfl ?_
  obtain ⟨v11, h12, hr⟩ := nk_lte hr
  refine nk_p (i := .istore 5) (len := 2) (pc' := 90) mJ_430 (by decide +kernel) (ns_istore (L' := [(5, nk_i v11), (0, nk_r l0), (1, nk_i l1), (4, nk_i l4)]) h12 rfl (by decide +kernel)) rfl ?_
  refine nk_p (i := .aload_n 0) (len := 1) (pc' := 91) mJ_430 (by decide +kernel) (ns_aload_n 1 rfl rfl) rfl ?_
  refine nk_getM (cj := 3) (z := 0) (x := 28) (len := 3) (ci := 9) (k := 0) (pc' := 94) ja_okT mJ_430 (by decide +kernel) (by decide +kernel) (by decide +kernel) t_l0 rfl (fun t13 => ?_)
  refine nk_getC (f := (2, 0, 0)) (x := 39) (len := 3) (ci := 3) (k := 1) (pc' := 97) ja_okT mJ_430 (by decide +kernel) (by decide +kernel) (by decide +kernel) (by decide) t13 rfl ?_
  have t14 : nk_cl ja_Tt (ja_c (S6.2 l0 0) 1) = some 0 := nk_tc (y := 0) ja_okT t13 (by decide +kernel)
  refine nk_getC (f := (4, 1, 48)) (x := 106) (len := 3) (ci := 0) (k := 12) (pc' := 100) ja_okT mJ_430 (by decide +kernel) (by decide +kernel) (by decide +kernel) (by decide) t14 rfl ?_
  have t15 : nk_ar ja_Tt (ja_c (ja_c (S6.2 l0 0) 1) 12) = some (1, 48) := nk_ta ja_okT t14 (by decide +kernel)
  refine nk_p (i := .iload 5) (len := 2) (pc' := 102) mJ_430 (by decide +kernel) (ns_iload 0 rfl) rfl ?_
  obtain ⟨h16, hr⟩ := nk_cke hr
  refine nk_iald (len := 1) (N := 48) (pc' := 103) mJ_430 (by decide +kernel) t15 h16.1 h16.2 rfl rfl ?_
  obtain ⟨v17, h18, hr⟩ := nk_lte hr
  refine nk_p (i := .istore 6) (len := 2) (pc' := 105) mJ_430 (by decide +kernel) (ns_istore (L' := [(6, nk_i v17), (5, nk_i v11), (0, nk_r l0), (1, nk_i l1), (4, nk_i l4)]) h18 rfl (by decide +kernel)) rfl ?_
  refine nk_sub [2, 3, 1, 0] (L' := [(0, nk_r l0), (1, nk_i l1), (5, nk_i v11), (6, nk_i v17)]) rfl ?_
  exact ja_X9_spreadHeights_L105_ok zs nk_big _ _ _ _ _ _ t_l0 hr
noncomputable def ja_X9_spreadHeights_b43 (l0 : Nat) (l1 : Int) (s0 : Int) (S : nk_S) : Option (Int × nk_S) :=
  nk_bd (ja_X3_fallsThrough (S.2 l0 0) l1 S) fun r2 S3 =>
  if r2 = 0 then
    ja_X9_spreadHeights_b65 l0 l1 s0 S3
  else
    nk_bd (ja_X9_addHeights l0 (nk_w (l1 + 1)) s0 S3) fun r5 S6 =>
    ja_X9_spreadHeights_b65 l0 l1 s0 S6
theorem ja_X9_spreadHeights_b43_ok (zs : List Int32) : ∀ (l0 : Nat) (l1 : Int) (s0 : Int) (S : nk_S) (R : Int × nk_S), nk_cl ja_Tt l0 = some 9 → ja_X9_spreadHeights_b43 l0 l1 s0 S = some R → nk_K ja_Tt mi_Γ (mi_ev zs) 0 430 43 [(0, nk_r l0), (1, nk_i l1)] [nk_i s0] S R := by
  intro l0 l1 s0 S R t_l0 hr
  unfold ja_X9_spreadHeights_b43 at hr
  refine nk_p (i := .istore 4) (len := 2) (pc' := 45) mJ_430 (by decide +kernel) (ns_istore (L' := [(4, nk_i s0), (0, nk_r l0), (1, nk_i l1)]) rfl rfl (by decide +kernel)) rfl ?_
  refine nk_p (i := .aload_n 0) (len := 1) (pc' := 46) mJ_430 (by decide +kernel) (ns_aload_n 1 rfl rfl) rfl ?_
  refine nk_getM (cj := 3) (z := 0) (x := 28) (len := 3) (ci := 9) (k := 0) (pc' := 49) ja_okT mJ_430 (by decide +kernel) (by decide +kernel) (by decide +kernel) t_l0 rfl (fun t1 => ?_)
  refine nk_p (i := .iload_n 1) (len := 1) (pc' := 50) mJ_430 (by decide +kernel) (ns_iload_n 2 rfl rfl) rfl ?_
  obtain ⟨r2, S3, h4, hr⟩ := nk_bde hr
  refine nk_callV (ci := 3) (n := 1) (x := 92) (len := 3) (j' := 304) (q' := 1) (r := r2) (S' := S3) (L2 := [(0, nk_r (S.2 l0 0)), (1, nk_i l1)]) (rest := []) (st' := [nk_i r2]) (pc' := 53) mJ_430 (by decide +kernel) (by decide +kernel) rfl rfl t1 (Nat.le_of_ble_eq_true rfl) mJ_304 (Nat.le_of_ble_eq_true rfl) rfl (ja_X3_fallsThrough_ok zs _ _ _ _ t1 h4) rfl ?_
  refine nk_icond (c := .eq) (off := 12) (len := 3) (t := 65) (pc' := 56) mJ_430 (by decide +kernel) (by decide +kernel) rfl (fun hc => ?_) (fun hc => ?_)
  · have hr := nk_ifp (c := r2 = 0) hc hr
    refine nk_sub [1, 2, 0] (L' := [(0, nk_r l0), (1, nk_i l1), (4, nk_i s0)]) rfl ?_
    exact ja_X9_spreadHeights_b65_ok zs _ _ _ _ _ t_l0 hr
  · have hr := nk_ifn (c := r2 = 0) hc hr
    refine nk_p (i := .aload_n 0) (len := 1) (pc' := 57) mJ_430 (by decide +kernel) (ns_aload_n 1 rfl rfl) rfl ?_
    refine nk_p (i := .iload_n 1) (len := 1) (pc' := 58) mJ_430 (by decide +kernel) (ns_iload_n 2 rfl rfl) rfl ?_
    refine nk_p (i := .iconst 1) (len := 1) (pc' := 59) mJ_430 (by decide +kernel) (ns_iconst (c := 1) (by decide +kernel)) rfl ?_
    refine nk_p (i := .iadd) (len := 1) (pc' := 60) mJ_430 (by decide +kernel) ns_iadd rfl ?_
    refine nk_p (i := .iload 4) (len := 2) (pc' := 62) mJ_430 (by decide +kernel) (ns_iload 0 rfl) rfl ?_
    obtain ⟨r5, S6, h7, hr⟩ := nk_bde hr
    refine nk_callV (ci := 9) (n := 2) (x := 96) (len := 3) (j' := 422) (q' := 0) (r := r5) (S' := S6) (L2 := [(0, nk_r l0), (1, nk_i (nk_w (l1 + 1))), (2, nk_i s0)]) (rest := []) (st' := []) (pc' := 65) mJ_430 (by decide +kernel) (by decide +kernel) rfl rfl t_l0 (Nat.le_of_ble_eq_true rfl) mJ_422 (Nat.le_of_ble_eq_true rfl) rfl (ja_X9_addHeights_ok zs _ _ _ _ _ t_l0 h7) rfl ?_
    refine nk_sub [1, 2, 0] (L' := [(0, nk_r l0), (1, nk_i l1), (4, nk_i s0)]) rfl ?_
    exact ja_X9_spreadHeights_b65_ok zs _ _ _ _ _ t_l0 hr
noncomputable def ja_X9_spreadHeights (l0 : Nat) (l1 : Int) (S : nk_S) : Option (Int × nk_S) :=
  nk_bd (ja_X9_fineHeights l0 l1 S) fun r1 S2 =>
  if r1 = 0 then
    some (0, S2)
  else
    nk_bd (ja_X3_leaves (S2.2 l0 0) l1 S2) fun r5 S6 =>
    nk_bd (ja_X3_takes (S6.2 l0 0) l1 S6) fun r9 S10 =>
    nk_lt (nk_w (r5 - r9)) fun v12 =>
    if v12 < 0 then
      ja_X9_spreadHeights_b43 l0 l1 (nk_iushr r1 (nk_w (-v12))) S10
    else
      ja_X9_spreadHeights_b43 l0 l1 (nk_ishl r1 v12) S10
theorem ja_X9_spreadHeights_ok (zs : List Int32) : ∀ (l0 : Nat) (l1 : Int) (S : nk_S) (R : Int × nk_S), nk_cl ja_Tt l0 = some 9 → ja_X9_spreadHeights l0 l1 S = some R → nk_K ja_Tt mi_Γ (mi_ev zs) 0 430 0 [(0, nk_r l0), (1, nk_i l1)] [] S R := by
  intro l0 l1 S R t_l0 hr
  unfold ja_X9_spreadHeights at hr
  refine nk_p (i := .aload_n 0) (len := 1) (pc' := 1) mJ_430 (by decide +kernel) (ns_aload_n 0 rfl rfl) rfl ?_
  refine nk_p (i := .iload_n 1) (len := 1) (pc' := 2) mJ_430 (by decide +kernel) (ns_iload_n 1 rfl rfl) rfl ?_
  obtain ⟨r1, S2, h3, hr⟩ := nk_bde hr
  refine nk_callV (ci := 9) (n := 1) (x := 77) (len := 3) (j' := 424) (q' := 1) (r := r1) (S' := S2) (L2 := [(0, nk_r l0), (1, nk_i l1)]) (rest := []) (st' := [nk_i r1]) (pc' := 5) mJ_430 (by decide +kernel) (by decide +kernel) rfl rfl t_l0 (Nat.le_of_ble_eq_true rfl) mJ_424 (Nat.le_of_ble_eq_true rfl) rfl (ja_X9_fineHeights_ok zs _ _ _ _ t_l0 h3) rfl ?_
  refine nk_p (i := .istore_n 2) (len := 1) (pc' := 6) mJ_430 (by decide +kernel) (ns_istore_n (L' := [(2, nk_i r1), (0, nk_r l0), (1, nk_i l1)]) rfl rfl rfl (by decide +kernel)) rfl ?_
  refine nk_p (i := .iload_n 2) (len := 1) (pc' := 7) mJ_430 (by decide +kernel) (ns_iload_n 0 rfl rfl) rfl ?_
  refine nk_icond (c := .ne) (off := 4) (len := 3) (t := 11) (pc' := 10) mJ_430 (by decide +kernel) (by decide +kernel) rfl (fun hc => ?_) (fun hc => ?_)
  · have hr := nk_ifn (c := r1 = 0) hc hr
    refine nk_p (i := .aload_n 0) (len := 1) (pc' := 12) mJ_430 (by decide +kernel) (ns_aload_n 1 rfl rfl) rfl ?_
    refine nk_getM (cj := 3) (z := 0) (x := 28) (len := 3) (ci := 9) (k := 0) (pc' := 15) ja_okT mJ_430 (by decide +kernel) (by decide +kernel) (by decide +kernel) t_l0 rfl (fun t4 => ?_)
    refine nk_p (i := .iload_n 1) (len := 1) (pc' := 16) mJ_430 (by decide +kernel) (ns_iload_n 2 rfl rfl) rfl ?_
    obtain ⟨r5, S6, h7, hr⟩ := nk_bde hr
    refine nk_callV (ci := 3) (n := 1) (x := 86) (len := 3) (j' := 306) (q' := 1) (r := r5) (S' := S6) (L2 := [(0, nk_r (S2.2 l0 0)), (1, nk_i l1)]) (rest := []) (st' := [nk_i r5]) (pc' := 19) mJ_430 (by decide +kernel) (by decide +kernel) rfl rfl t4 (Nat.le_of_ble_eq_true rfl) mJ_306 (Nat.le_of_ble_eq_true rfl) rfl (ja_X3_leaves_ok zs _ _ _ _ t4 h7) rfl ?_
    refine nk_p (i := .aload_n 0) (len := 1) (pc' := 20) mJ_430 (by decide +kernel) (ns_aload_n 1 rfl rfl) rfl ?_
    refine nk_getM (cj := 3) (z := 0) (x := 28) (len := 3) (ci := 9) (k := 0) (pc' := 23) ja_okT mJ_430 (by decide +kernel) (by decide +kernel) (by decide +kernel) t_l0 rfl (fun t8 => ?_)
    refine nk_p (i := .iload_n 1) (len := 1) (pc' := 24) mJ_430 (by decide +kernel) (ns_iload_n 2 rfl rfl) rfl ?_
    obtain ⟨r9, S10, h11, hr⟩ := nk_bde hr
    refine nk_callV (ci := 3) (n := 1) (x := 89) (len := 3) (j' := 308) (q' := 1) (r := r9) (S' := S10) (L2 := [(0, nk_r (S6.2 l0 0)), (1, nk_i l1)]) (rest := [nk_i r5]) (st' := [nk_i r9, nk_i r5]) (pc' := 27) mJ_430 (by decide +kernel) (by decide +kernel) rfl rfl t8 (Nat.le_of_ble_eq_true rfl) mJ_308 (Nat.le_of_ble_eq_true rfl) rfl (ja_X3_takes_ok zs _ _ _ _ t8 h11) rfl ?_
    refine nk_p (i := .isub) (len := 1) (pc' := 28) mJ_430 (by decide +kernel) ns_isub rfl ?_
    obtain ⟨v12, h13, hr⟩ := nk_lte hr
    refine nk_p (i := .istore_n 3) (len := 1) (pc' := 29) mJ_430 (by decide +kernel) (ns_istore_n (L' := [(3, nk_i v12), (2, nk_i r1), (0, nk_r l0), (1, nk_i l1)]) h13 rfl rfl (by decide +kernel)) rfl ?_
    refine nk_p (i := .iload_n 3) (len := 1) (pc' := 30) mJ_430 (by decide +kernel) (ns_iload_n 0 rfl rfl) rfl ?_
    refine nk_icond (c := .lt) (off := 9) (len := 3) (t := 39) (pc' := 33) mJ_430 (by decide +kernel) (by decide +kernel) rfl (fun hc => ?_) (fun hc => ?_)
    · have hr := nk_ifp (c := v12 < 0) hc hr
      refine nk_p (i := .iload_n 2) (len := 1) (pc' := 40) mJ_430 (by decide +kernel) (ns_iload_n 1 rfl rfl) rfl ?_
      refine nk_p (i := .iload_n 3) (len := 1) (pc' := 41) mJ_430 (by decide +kernel) (ns_iload_n 0 rfl rfl) rfl ?_
      refine nk_p (i := .ineg) (len := 1) (pc' := 42) mJ_430 (by decide +kernel) ns_ineg rfl ?_
      refine nk_p (i := .iushr) (len := 1) (pc' := 43) mJ_430 (by decide +kernel) ns_iushr rfl ?_
      refine nk_sub [2, 3] (L' := [(0, nk_r l0), (1, nk_i l1)]) rfl ?_
      exact ja_X9_spreadHeights_b43_ok zs _ _ _ _ _ t_l0 hr
    · have hr := nk_ifn (c := v12 < 0) hc hr
      refine nk_p (i := .iload_n 2) (len := 1) (pc' := 34) mJ_430 (by decide +kernel) (ns_iload_n 1 rfl rfl) rfl ?_
      refine nk_p (i := .iload_n 3) (len := 1) (pc' := 35) mJ_430 (by decide +kernel) (ns_iload_n 0 rfl rfl) rfl ?_
      refine nk_p (i := .ishl) (len := 1) (pc' := 36) mJ_430 (by decide +kernel) ns_ishl rfl ?_
      refine nk_p (i := .goto 7) (len := 3) (pc' := 43) mJ_430 (by decide +kernel) (ns_goto (by decide +kernel)) rfl ?_
      refine nk_sub [2, 3] (L' := [(0, nk_r l0), (1, nk_i l1)]) rfl ?_
      exact ja_X9_spreadHeights_b43_ok zs _ _ _ _ _ t_l0 hr
  · have hr := nk_ifp (c := r1 = 0) (Decidable.of_not_not hc) hr
    cases hr
    exact nk_vret (len := 1) mJ_430 (by decide +kernel) rfl
/-! SafeCode$Types wrongHeight (I)I -/
noncomputable def ja_X9_wrongHeight_b118 (rec118 : Nat → Int → Int → nk_S → Option (Int × nk_S)) (l0 : Nat) (l3 : Int) (l4 : Int) (S : nk_S) : Option (Int × nk_S) :=
  if l3 ≤ l4 then
    some ((-1), S)
  else
    if 0 ≤ l4 ∧ l4 < 1024 then
    nk_lt (S.1 (ja_c l0 2) l4.toNat) fun v3 =>
    nk_bd (ja_J6_bitCount_0f7a4 v3 S) fun r5 S6 =>
    if 1 < r5 then
      some (l4, S6)
    else
      nk_bd (ja_X9_fineHeights l0 l4 S6) fun r8 S9 =>
      if v3 = r8 then
        if v3 = 0 then
          nk_lt (nk_wi S9 (ja_c (S9.2 l0 0) 9) l4.toNat 0) fun S20 =>
          nk_lt (nk_w (l4 + 1)) fun v22 =>
          rec118 l0 l3 v22 S20
        else
          nk_bd (ja_J6_numberOfTrailingZeros_0f7a4 v3 S9) fun r13 S14 =>
          nk_lt (nk_wi S14 (ja_c (S9.2 l0 0) 9) l4.toNat r13) fun S16 =>
          nk_lt (nk_w (l4 + 1)) fun v18 =>
          rec118 l0 l3 v18 S16
      else
        some (l4, S9)
    else none
theorem ja_X9_wrongHeight_b118_ok (zs : List Int32) {rec118 : Nat → Int → Int → nk_S → Option (Int × nk_S)} (hrec118 : ∀ (l0 : Nat) (l3 : Int) (l4 : Int) (S : nk_S) (R : Int × nk_S), nk_cl ja_Tt l0 = some 9 → rec118 l0 l3 l4 S = some R → nk_K ja_Tt mi_Γ (mi_ev zs) 1 434 118 [(0, nk_r l0), (3, nk_i l3), (4, nk_i l4)] [] S R) : ∀ (l0 : Nat) (l3 : Int) (l4 : Int) (S : nk_S) (R : Int × nk_S), nk_cl ja_Tt l0 = some 9 → ja_X9_wrongHeight_b118 rec118 l0 l3 l4 S = some R → nk_K ja_Tt mi_Γ (mi_ev zs) 1 434 118 [(0, nk_r l0), (3, nk_i l3), (4, nk_i l4)] [] S R := by
  intro l0 l3 l4 S R t_l0 hr
  unfold ja_X9_wrongHeight_b118 at hr
  refine nk_p (i := .iload 4) (len := 2) (pc' := 120) mJ_434 (by decide +kernel) (ns_iload 2 rfl) rfl ?_
  refine nk_p (i := .iload_n 3) (len := 1) (pc' := 121) mJ_434 (by decide +kernel) (ns_iload_n 1 rfl rfl) rfl ?_
  refine nk_icmp (c := .ge) (off := 65) (len := 3) (t := 186) (pc' := 124) mJ_434 (by decide +kernel) (by decide +kernel) rfl (fun hc => ?_) (fun hc => ?_)
  · have hr := nk_ifp (c := l3 ≤ l4) hc hr
    refine nk_p (i := .iconst (-1)) (len := 1) (pc' := 187) mJ_434 (by decide +kernel) (ns_iconst (c := (-1)) (by decide +kernel)) rfl ?_
    cases hr
    exact nk_iret (ty := .int) (len := 1) mJ_434 (by decide +kernel) rfl (nk_nar_i _)
  · have hr := nk_ifn (c := l3 ≤ l4) hc hr
    refine nk_p (i := .aload_n 0) (len := 1) (pc' := 125) mJ_434 (by decide +kernel) (ns_aload_n 0 rfl rfl) rfl ?_
    refine nk_getC (f := (4, 1, 1024)) (x := 9) (len := 3) (ci := 9) (k := 2) (pc' := 128) ja_okT mJ_434 (by decide +kernel) (by decide +kernel) (by decide +kernel) (by decide) t_l0 rfl ?_
    have t1 : nk_ar ja_Tt (ja_c l0 2) = some (1, 1024) := nk_ta ja_okT t_l0 (by decide +kernel)
    refine nk_p (i := .iload 4) (len := 2) (pc' := 130) mJ_434 (by decide +kernel) (ns_iload 2 rfl) rfl ?_
    obtain ⟨h2, hr⟩ := nk_cke hr
    refine nk_iald (len := 1) (N := 1024) (pc' := 131) mJ_434 (by decide +kernel) t1 h2.1 h2.2 rfl rfl ?_
    obtain ⟨v3, h4, hr⟩ := nk_lte hr
    refine nk_p (i := .istore 5) (len := 2) (pc' := 133) mJ_434 (by decide +kernel) (ns_istore (L' := [(5, nk_i v3), (0, nk_r l0), (3, nk_i l3), (4, nk_i l4)]) h4 rfl (by decide +kernel)) rfl ?_
    refine nk_p (i := .iload 5) (len := 2) (pc' := 135) mJ_434 (by decide +kernel) (ns_iload 0 rfl) rfl ?_
    obtain ⟨r5, S6, h7, hr⟩ := nk_bde hr
    refine nk_callS (ci := 0) (n := 1) (x := 72) (len := 3) (j' := 10) (q' := 1) (r := r5) (S' := S6) (L2 := [(0, nk_i v3)]) (rest := []) (st' := [nk_i r5]) (pc' := 138) mJ_434 (by decide +kernel) (by decide +kernel) (Nat.le_of_ble_eq_true rfl) rfl rfl (Nat.le_of_ble_eq_true rfl) mJ_10 (Nat.le_of_ble_eq_true rfl) ja_Tpos rfl (ja_J6_bitCount_0f7a4_ok zs _ _ _ h7) rfl ?_
    refine nk_p (i := .iconst 1) (len := 1) (pc' := 139) mJ_434 (by decide +kernel) (ns_iconst (c := 1) (by decide +kernel)) rfl ?_
    refine nk_icmp (c := .gt) (off := 14) (len := 3) (t := 153) (pc' := 142) mJ_434 (by decide +kernel) (by decide +kernel) rfl (fun hc => ?_) (fun hc => ?_)
    · have hr := nk_ifp (c := 1 < r5) hc hr
      refine nk_p (i := .iload 4) (len := 2) (pc' := 155) mJ_434 (by decide +kernel) (ns_iload 3 rfl) rfl ?_
      cases hr
      exact nk_iret (ty := .int) (len := 1) mJ_434 (by decide +kernel) rfl (nk_nar_i _)
    · have hr := nk_ifn (c := 1 < r5) hc hr
      refine nk_p (i := .iload 5) (len := 2) (pc' := 144) mJ_434 (by decide +kernel) (ns_iload 0 rfl) rfl ?_
      refine nk_p (i := .aload_n 0) (len := 1) (pc' := 145) mJ_434 (by decide +kernel) (ns_aload_n 1 rfl rfl) rfl ?_
      refine nk_p (i := .iload 4) (len := 2) (pc' := 147) mJ_434 (by decide +kernel) (ns_iload 3 rfl) rfl ?_
      obtain ⟨r8, S9, h10, hr⟩ := nk_bde hr
      refine nk_callV (ci := 9) (n := 1) (x := 77) (len := 3) (j' := 424) (q' := 1) (r := r8) (S' := S9) (L2 := [(0, nk_r l0), (1, nk_i l4)]) (rest := [nk_i v3]) (st' := [nk_i r8, nk_i v3]) (pc' := 150) mJ_434 (by decide +kernel) (by decide +kernel) rfl rfl t_l0 (Nat.le_of_ble_eq_true rfl) mJ_424 (Nat.le_of_ble_eq_true rfl) rfl (ja_X9_fineHeights_ok zs _ _ _ _ t_l0 h10) rfl ?_
      refine nk_icmp (c := .eq) (off := 6) (len := 3) (t := 156) (pc' := 153) mJ_434 (by decide +kernel) (by decide +kernel) rfl (fun hc => ?_) (fun hc => ?_)
      · have hr := nk_ifp (c := v3 = r8) hc hr
        refine nk_p (i := .aload_n 0) (len := 1) (pc' := 157) mJ_434 (by decide +kernel) (ns_aload_n 1 rfl rfl) rfl ?_
        refine nk_getM (cj := 3) (z := 0) (x := 28) (len := 3) (ci := 9) (k := 0) (pc' := 160) ja_okT mJ_434 (by decide +kernel) (by decide +kernel) (by decide +kernel) t_l0 rfl (fun t11 => ?_)
        refine nk_getC (f := (4, 1, 1024)) (x := 80) (len := 3) (ci := 3) (k := 9) (pc' := 163) ja_okT mJ_434 (by decide +kernel) (by decide +kernel) (by decide +kernel) (by decide) t11 rfl ?_
        have t12 : nk_ar ja_Tt (ja_c (S9.2 l0 0) 9) = some (1, 1024) := nk_ta ja_okT t11 (by decide +kernel)
        refine nk_p (i := .iload 4) (len := 2) (pc' := 165) mJ_434 (by decide +kernel) (ns_iload 3 rfl) rfl ?_
        refine nk_p (i := .iload 5) (len := 2) (pc' := 167) mJ_434 (by decide +kernel) (ns_iload 0 rfl) rfl ?_
        refine nk_icond (c := .ne) (off := 7) (len := 3) (t := 174) (pc' := 170) mJ_434 (by decide +kernel) (by decide +kernel) rfl (fun hc => ?_) (fun hc => ?_)
        · have hr := nk_ifn (c := v3 = 0) hc hr
          refine nk_p (i := .iload 5) (len := 2) (pc' := 176) mJ_434 (by decide +kernel) (ns_iload 0 rfl) rfl ?_
          obtain ⟨r13, S14, h15, hr⟩ := nk_bde hr
          refine nk_callS (ci := 0) (n := 1) (x := 83) (len := 3) (j' := 12) (q' := 1) (r := r13) (S' := S14) (L2 := [(0, nk_i v3)]) (rest := [nk_i l4, nk_r (ja_c (S9.2 l0 0) 9)]) (st' := [nk_i r13, nk_i l4, nk_r (ja_c (S9.2 l0 0) 9)]) (pc' := 179) mJ_434 (by decide +kernel) (by decide +kernel) (Nat.le_of_ble_eq_true rfl) rfl rfl (Nat.le_of_ble_eq_true rfl) mJ_12 (Nat.le_of_ble_eq_true rfl) ja_Tpos rfl (ja_J6_numberOfTrailingZeros_0f7a4_ok zs _ _ _ h15) rfl ?_
          obtain ⟨S16, h17, hr⟩ := nk_lte hr
          refine nk_iast (len := 1) (N := 1024) (pc' := 180) mJ_434 (by decide +kernel) t12 h2.1 h2.2 rfl rfl h17 ?_
          obtain ⟨v18, h19, hr⟩ := nk_lte hr
          refine nk_p (i := .iinc 4 1) (len := 3) (pc' := 183) mJ_434 (by decide +kernel) (ns_iinc (c := 1) (L' := [(4, nk_i v18), (5, nk_i v3), (0, nk_r l0), (3, nk_i l3)]) 3 rfl (by decide +kernel) h19 rfl (by decide +kernel)) rfl ?_
          refine nk_p (i := .goto (-65)) (len := 3) (pc' := 118) mJ_434 (by decide +kernel) (ns_goto (by decide +kernel)) rfl ?_
          refine nk_sub [2, 3, 0] (L' := [(0, nk_r l0), (3, nk_i l3), (4, nk_i v18)]) rfl ?_
          exact hrec118 _ _ _ _ _ t_l0 hr
        · have hr := nk_ifp (c := v3 = 0) (Decidable.of_not_not hc) hr
          refine nk_p (i := .iconst 0) (len := 1) (pc' := 171) mJ_434 (by decide +kernel) (ns_iconst (c := 0) (by decide +kernel)) rfl ?_
          refine nk_p (i := .goto 8) (len := 3) (pc' := 179) mJ_434 (by decide +kernel) (ns_goto (by decide +kernel)) rfl ?_
          obtain ⟨S20, h21, hr⟩ := nk_lte hr
          refine nk_iast (len := 1) (N := 1024) (pc' := 180) mJ_434 (by decide +kernel) t12 h2.1 h2.2 rfl rfl h21 ?_
          obtain ⟨v22, h23, hr⟩ := nk_lte hr
          refine nk_p (i := .iinc 4 1) (len := 3) (pc' := 183) mJ_434 (by decide +kernel) (ns_iinc (c := 1) (L' := [(4, nk_i v22), (5, nk_i v3), (0, nk_r l0), (3, nk_i l3)]) 3 rfl (by decide +kernel) h23 rfl (by decide +kernel)) rfl ?_
          refine nk_p (i := .goto (-65)) (len := 3) (pc' := 118) mJ_434 (by decide +kernel) (ns_goto (by decide +kernel)) rfl ?_
          refine nk_sub [2, 3, 0] (L' := [(0, nk_r l0), (3, nk_i l3), (4, nk_i v22)]) rfl ?_
          exact hrec118 _ _ _ _ _ t_l0 hr
      · have hr := nk_ifn (c := v3 = r8) hc hr
        refine nk_p (i := .iload 4) (len := 2) (pc' := 155) mJ_434 (by decide +kernel) (ns_iload 3 rfl) rfl ?_
        cases hr
        exact nk_iret (ty := .int) (len := 1) mJ_434 (by decide +kernel) rfl (nk_nar_i _)
noncomputable def ja_X9_wrongHeight_L118 : Nat → Nat → Int → Int → nk_S → Option (Int × nk_S)
  | 0, _, _, _, _ => none
  | n + 1, l0, l3, l4, S => ja_X9_wrongHeight_b118 (ja_X9_wrongHeight_L118 n) l0 l3 l4 S
theorem ja_X9_wrongHeight_L118_ok (zs : List Int32) : ∀ n : Nat, ∀ (l0 : Nat) (l3 : Int) (l4 : Int) (S : nk_S) (R : Int × nk_S), nk_cl ja_Tt l0 = some 9 → ja_X9_wrongHeight_L118 n l0 l3 l4 S = some R → nk_K ja_Tt mi_Γ (mi_ev zs) 1 434 118 [(0, nk_r l0), (3, nk_i l3), (4, nk_i l4)] [] S R := by
  intro n
  induction n with
  | zero => intro _ _ _ _ _ _ hr; cases hr
  | succ n ih => intro l0 l3 l4 S R t_l0 hr; exact ja_X9_wrongHeight_b118_ok zs ih l0 l3 l4 S R t_l0 hr
noncomputable def ja_X9_wrongHeight_b88 (rec64 : Nat → Int → Int → Int → nk_S → Option (Int × nk_S)) (rec88 : Nat → Int → Int → Int → Int → nk_S → Option (Int × nk_S)) (l0 : Nat) (l2 : Int) (l3 : Int) (l4 : Int) (l6 : Int) (S : nk_S) : Option (Int × nk_S) :=
  if l3 ≤ l6 then
    nk_lt (nk_W (l4 + 1)) fun v1 =>
    rec64 l0 l2 l3 v1 S
  else
    nk_bd (ja_X9_spreadHeights l0 l6 S) fun r3 S4 =>
    nk_lt (nk_w (l6 + 1)) fun v6 =>
    rec88 l0 l2 l3 l4 v6 S4
theorem ja_X9_wrongHeight_b88_ok (zs : List Int32) {rec64 : Nat → Int → Int → Int → nk_S → Option (Int × nk_S)} (hrec64 : ∀ (l0 : Nat) (l2 : Int) (l3 : Int) (l4 : Int) (S : nk_S) (R : Int × nk_S), nk_cl ja_Tt l0 = some 9 → rec64 l0 l2 l3 l4 S = some R → nk_K ja_Tt mi_Γ (mi_ev zs) 1 434 64 [(0, nk_r l0), (2, nk_i l2), (3, nk_i l3), (4, nk_l l4)] [] S R) {rec88 : Nat → Int → Int → Int → Int → nk_S → Option (Int × nk_S)} (hrec88 : ∀ (l0 : Nat) (l2 : Int) (l3 : Int) (l4 : Int) (l6 : Int) (S : nk_S) (R : Int × nk_S), nk_cl ja_Tt l0 = some 9 → rec88 l0 l2 l3 l4 l6 S = some R → nk_K ja_Tt mi_Γ (mi_ev zs) 1 434 88 [(0, nk_r l0), (2, nk_i l2), (3, nk_i l3), (4, nk_l l4), (6, nk_i l6)] [] S R) : ∀ (l0 : Nat) (l2 : Int) (l3 : Int) (l4 : Int) (l6 : Int) (S : nk_S) (R : Int × nk_S), nk_cl ja_Tt l0 = some 9 → ja_X9_wrongHeight_b88 rec64 rec88 l0 l2 l3 l4 l6 S = some R → nk_K ja_Tt mi_Γ (mi_ev zs) 1 434 88 [(0, nk_r l0), (2, nk_i l2), (3, nk_i l3), (4, nk_l l4), (6, nk_i l6)] [] S R := by
  intro l0 l2 l3 l4 l6 S R t_l0 hr
  unfold ja_X9_wrongHeight_b88 at hr
  refine nk_p (i := .iload 6) (len := 2) (pc' := 90) mJ_434 (by decide +kernel) (ns_iload 4 rfl) rfl ?_
  refine nk_p (i := .iload_n 3) (len := 1) (pc' := 91) mJ_434 (by decide +kernel) (ns_iload_n 2 rfl rfl) rfl ?_
  refine nk_icmp (c := .ge) (off := 15) (len := 3) (t := 106) (pc' := 94) mJ_434 (by decide +kernel) (by decide +kernel) rfl (fun hc => ?_) (fun hc => ?_)
  · have hr := nk_ifp (c := l3 ≤ l6) hc hr
    refine nk_p (i := .lload 4) (len := 2) (pc' := 108) mJ_434 (by decide +kernel) (ns_lload 3 rfl) rfl ?_
    refine nk_p (i := .lconst 1) (len := 1) (pc' := 109) mJ_434 (by decide +kernel) (ns_lconst (c := 1) (by decide +kernel)) rfl ?_
    refine nk_p (i := .ladd) (len := 1) (pc' := 110) mJ_434 (by decide +kernel) ns_ladd rfl ?_
    obtain ⟨v1, h2, hr⟩ := nk_lte hr
    refine nk_p (i := .lstore 4) (len := 2) (pc' := 112) mJ_434 (by decide +kernel) (ns_lstore (L' := [(4, nk_l v1), (0, nk_r l0), (2, nk_i l2), (3, nk_i l3), (6, nk_i l6)]) h2 rfl (by decide +kernel)) rfl ?_
    refine nk_p (i := .goto (-48)) (len := 3) (pc' := 64) mJ_434 (by decide +kernel) (ns_goto (by decide +kernel)) rfl ?_
    refine nk_sub [1, 2, 3, 0] (L' := [(0, nk_r l0), (2, nk_i l2), (3, nk_i l3), (4, nk_l v1)]) rfl ?_
    exact hrec64 _ _ _ _ _ _ t_l0 hr
  · have hr := nk_ifn (c := l3 ≤ l6) hc hr
    refine nk_p (i := .aload_n 0) (len := 1) (pc' := 95) mJ_434 (by decide +kernel) (ns_aload_n 0 rfl rfl) rfl ?_
    refine nk_p (i := .iload 6) (len := 2) (pc' := 97) mJ_434 (by decide +kernel) (ns_iload 4 rfl) rfl ?_
    obtain ⟨r3, S4, h5, hr⟩ := nk_bde hr
    refine nk_callV (ci := 9) (n := 1) (x := 68) (len := 3) (j' := 430) (q' := 0) (r := r3) (S' := S4) (L2 := [(0, nk_r l0), (1, nk_i l6)]) (rest := []) (st' := []) (pc' := 100) mJ_434 (by decide +kernel) (by decide +kernel) rfl rfl t_l0 (Nat.le_of_ble_eq_true rfl) mJ_430 (Nat.le_of_ble_eq_true rfl) rfl (ja_X9_spreadHeights_ok zs _ _ _ _ t_l0 h5) rfl ?_
    obtain ⟨v6, h7, hr⟩ := nk_lte hr
    refine nk_p (i := .iinc 6 1) (len := 3) (pc' := 103) mJ_434 (by decide +kernel) (ns_iinc (c := 1) (L' := [(6, nk_i v6), (0, nk_r l0), (2, nk_i l2), (3, nk_i l3), (4, nk_l l4)]) 4 rfl (by decide +kernel) h7 rfl (by decide +kernel)) rfl ?_
    refine nk_p (i := .goto (-15)) (len := 3) (pc' := 88) mJ_434 (by decide +kernel) (ns_goto (by decide +kernel)) rfl ?_
    refine nk_sub [1, 2, 3, 4, 0] (L' := [(0, nk_r l0), (2, nk_i l2), (3, nk_i l3), (4, nk_l l4), (6, nk_i v6)]) rfl ?_
    exact hrec88 _ _ _ _ _ _ _ t_l0 hr
noncomputable def ja_X9_wrongHeight_L88 (rec64 : Nat → Int → Int → Int → nk_S → Option (Int × nk_S)) : Nat → Nat → Int → Int → Int → Int → nk_S → Option (Int × nk_S)
  | 0, _, _, _, _, _, _ => none
  | n + 1, l0, l2, l3, l4, l6, S => ja_X9_wrongHeight_b88 rec64 (ja_X9_wrongHeight_L88 rec64 n) l0 l2 l3 l4 l6 S
theorem ja_X9_wrongHeight_L88_ok (zs : List Int32) {rec64 : Nat → Int → Int → Int → nk_S → Option (Int × nk_S)} (hrec64 : ∀ (l0 : Nat) (l2 : Int) (l3 : Int) (l4 : Int) (S : nk_S) (R : Int × nk_S), nk_cl ja_Tt l0 = some 9 → rec64 l0 l2 l3 l4 S = some R → nk_K ja_Tt mi_Γ (mi_ev zs) 1 434 64 [(0, nk_r l0), (2, nk_i l2), (3, nk_i l3), (4, nk_l l4)] [] S R) : ∀ n : Nat, ∀ (l0 : Nat) (l2 : Int) (l3 : Int) (l4 : Int) (l6 : Int) (S : nk_S) (R : Int × nk_S), nk_cl ja_Tt l0 = some 9 → ja_X9_wrongHeight_L88 rec64 n l0 l2 l3 l4 l6 S = some R → nk_K ja_Tt mi_Γ (mi_ev zs) 1 434 88 [(0, nk_r l0), (2, nk_i l2), (3, nk_i l3), (4, nk_l l4), (6, nk_i l6)] [] S R := by
  intro n
  induction n with
  | zero => intro _ _ _ _ _ _ _ _ hr; cases hr
  | succ n ih => intro l0 l2 l3 l4 l6 S R t_l0 hr; exact ja_X9_wrongHeight_b88_ok zs hrec64 ih l0 l2 l3 l4 l6 S R t_l0 hr
noncomputable def ja_X9_wrongHeight_b64 (rec64 : Nat → Int → Int → Int → nk_S → Option (Int × nk_S)) (l0 : Nat) (l2 : Int) (l3 : Int) (l4 : Int) (S : nk_S) : Option (Int × nk_S) :=
  if 1099511627776 ≤ l4 then
    ja_X9_wrongHeight_L118 nk_big l0 l3 l2 S
  else
    if (S.1 l0 7) = 0 then
      ja_X9_wrongHeight_L118 nk_big l0 l3 l2 S
    else
      nk_lt (nk_wi S l0 7 0) fun S1 =>
      ja_X9_wrongHeight_L88 rec64 nk_big l0 l2 l3 l4 l2 S1
theorem ja_X9_wrongHeight_b64_ok (zs : List Int32) {rec64 : Nat → Int → Int → Int → nk_S → Option (Int × nk_S)} (hrec64 : ∀ (l0 : Nat) (l2 : Int) (l3 : Int) (l4 : Int) (S : nk_S) (R : Int × nk_S), nk_cl ja_Tt l0 = some 9 → rec64 l0 l2 l3 l4 S = some R → nk_K ja_Tt mi_Γ (mi_ev zs) 1 434 64 [(0, nk_r l0), (2, nk_i l2), (3, nk_i l3), (4, nk_l l4)] [] S R) : ∀ (l0 : Nat) (l2 : Int) (l3 : Int) (l4 : Int) (S : nk_S) (R : Int × nk_S), nk_cl ja_Tt l0 = some 9 → ja_X9_wrongHeight_b64 rec64 l0 l2 l3 l4 S = some R → nk_K ja_Tt mi_Γ (mi_ev zs) 1 434 64 [(0, nk_r l0), (2, nk_i l2), (3, nk_i l3), (4, nk_l l4)] [] S R := by
  intro l0 l2 l3 l4 S R t_l0 hr
  unfold ja_X9_wrongHeight_b64 at hr
  refine nk_p (i := .lload 4) (len := 2) (pc' := 66) mJ_434 (by decide +kernel) (ns_lload 3 rfl) rfl ?_
  refine nk_ldc2 (x := 66) (len := 3) (X := 1099511627776) (v := 1099511627776) (pc' := 69) mJ_434 (by decide +kernel) (by decide +kernel) (by decide +kernel) rfl ?_
  refine nk_p (i := .lcmp) (len := 1) (pc' := 70) mJ_434 (by decide +kernel) ns_lcmp rfl ?_
  refine nk_lcond (c := .ge) (off := 45) (len := 3) (t := 115) (pc' := 73) mJ_434 (by decide +kernel) (by decide +kernel) rfl (fun hc => ?_) (fun hc => ?_)
  · have hr := nk_ifp (c := 1099511627776 ≤ l4) hc hr
    refine nk_p (i := .iload_n 2) (len := 1) (pc' := 116) mJ_434 (by decide +kernel) (ns_iload_n 1 rfl rfl) rfl ?_
    refine nk_p (i := .istore 4) (len := 2) (pc' := 118) mJ_434 (by decide +kernel) (ns_istore (L' := [(4, nk_i l2), (0, nk_r l0), (2, nk_i l2), (3, nk_i l3)]) rfl rfl (by decide +kernel)) rfl ?_
    refine nk_sub [1, 3, 0] (L' := [(0, nk_r l0), (3, nk_i l3), (4, nk_i l2)]) rfl ?_
    exact ja_X9_wrongHeight_L118_ok zs nk_big _ _ _ _ _ t_l0 hr
  · have hr := nk_ifn (c := 1099511627776 ≤ l4) hc hr
    refine nk_p (i := .aload_n 0) (len := 1) (pc' := 74) mJ_434 (by decide +kernel) (ns_aload_n 0 rfl rfl) rfl ?_
    refine nk_getI (y := (0, 0)) (x := 62) (len := 3) (ci := 9) (k := 7) (pc' := 77) ja_okT mJ_434 (by decide +kernel) (by decide +kernel) (by decide +kernel) t_l0 rfl ?_
    refine nk_icond (c := .eq) (off := 38) (len := 3) (t := 115) (pc' := 80) mJ_434 (by decide +kernel) (by decide +kernel) rfl (fun hc => ?_) (fun hc => ?_)
    · have hr := nk_ifp (c := (S.1 l0 7) = 0) hc hr
      refine nk_p (i := .iload_n 2) (len := 1) (pc' := 116) mJ_434 (by decide +kernel) (ns_iload_n 1 rfl rfl) rfl ?_
      refine nk_p (i := .istore 4) (len := 2) (pc' := 118) mJ_434 (by decide +kernel) (ns_istore (L' := [(4, nk_i l2), (0, nk_r l0), (2, nk_i l2), (3, nk_i l3)]) rfl rfl (by decide +kernel)) rfl ?_
      refine nk_sub [1, 3, 0] (L' := [(0, nk_r l0), (3, nk_i l3), (4, nk_i l2)]) rfl ?_
      exact ja_X9_wrongHeight_L118_ok zs nk_big _ _ _ _ _ t_l0 hr
    · have hr := nk_ifn (c := (S.1 l0 7) = 0) hc hr
      refine nk_p (i := .aload_n 0) (len := 1) (pc' := 81) mJ_434 (by decide +kernel) (ns_aload_n 0 rfl rfl) rfl ?_
      refine nk_p (i := .iconst 0) (len := 1) (pc' := 82) mJ_434 (by decide +kernel) (ns_iconst (c := 0) (by decide +kernel)) rfl ?_
      obtain ⟨S1, h2, hr⟩ := nk_lte hr
      refine nk_putI (y := (0, 0)) (ty := .boolean) (x := 62) (len := 3) (ci := 9) (k := 7) (pc' := 85) ja_okT mJ_434 (by decide +kernel) (by decide +kernel) (by decide +kernel) t_l0 (Or.inr ⟨rfl, by decide⟩) rfl h2 ?_
      refine nk_p (i := .iload_n 2) (len := 1) (pc' := 86) mJ_434 (by decide +kernel) (ns_iload_n 1 rfl rfl) rfl ?_
      refine nk_p (i := .istore 6) (len := 2) (pc' := 88) mJ_434 (by decide +kernel) (ns_istore (L' := [(6, nk_i l2), (0, nk_r l0), (2, nk_i l2), (3, nk_i l3), (4, nk_l l4)]) rfl rfl (by decide +kernel)) rfl ?_
      refine nk_sub [1, 2, 3, 4, 0] (L' := [(0, nk_r l0), (2, nk_i l2), (3, nk_i l3), (4, nk_l l4), (6, nk_i l2)]) rfl ?_
      exact ja_X9_wrongHeight_L88_ok zs hrec64 nk_big _ _ _ _ _ _ _ t_l0 hr
noncomputable def ja_X9_wrongHeight_L64 : Nat → Nat → Int → Int → Int → nk_S → Option (Int × nk_S)
  | 0, _, _, _, _, _ => none
  | n + 1, l0, l2, l3, l4, S => ja_X9_wrongHeight_b64 (ja_X9_wrongHeight_L64 n) l0 l2 l3 l4 S
theorem ja_X9_wrongHeight_L64_ok (zs : List Int32) : ∀ n : Nat, ∀ (l0 : Nat) (l2 : Int) (l3 : Int) (l4 : Int) (S : nk_S) (R : Int × nk_S), nk_cl ja_Tt l0 = some 9 → ja_X9_wrongHeight_L64 n l0 l2 l3 l4 S = some R → nk_K ja_Tt mi_Γ (mi_ev zs) 1 434 64 [(0, nk_r l0), (2, nk_i l2), (3, nk_i l3), (4, nk_l l4)] [] S R := by
  intro n
  induction n with
  | zero => intro _ _ _ _ _ _ _ hr; cases hr
  | succ n ih => intro l0 l2 l3 l4 S R t_l0 hr; exact ja_X9_wrongHeight_b64_ok zs ih l0 l2 l3 l4 S R t_l0 hr
noncomputable def ja_X9_wrongHeight_b29 (rec29 : Nat → Int → Int → Int → nk_S → Option (Int × nk_S)) (l0 : Nat) (l2 : Int) (l3 : Int) (l4 : Int) (S : nk_S) : Option (Int × nk_S) :=
  if l3 ≤ l4 then
    if 0 ≤ l2 ∧ l2 < 1024 then
    nk_lt (nk_wi S (ja_c l0 2) l2.toNat 1) fun S3 =>
    nk_lt (nk_wi S3 l0 7 1) fun S5 =>
    ja_X9_wrongHeight_L64 nk_big l0 l2 l3 0 S5
    else none
  else
    if 0 ≤ l4 ∧ l4 < 1024 then
    nk_lt (nk_wi S (ja_c l0 2) l4.toNat 0) fun S9 =>
    nk_lt (nk_w (l4 + 1)) fun v11 =>
    rec29 l0 l2 l3 v11 S9
    else none
theorem ja_X9_wrongHeight_b29_ok (zs : List Int32) {rec29 : Nat → Int → Int → Int → nk_S → Option (Int × nk_S)} (hrec29 : ∀ (l0 : Nat) (l2 : Int) (l3 : Int) (l4 : Int) (S : nk_S) (R : Int × nk_S), nk_cl ja_Tt l0 = some 9 → rec29 l0 l2 l3 l4 S = some R → nk_K ja_Tt mi_Γ (mi_ev zs) 1 434 29 [(0, nk_r l0), (2, nk_i l2), (3, nk_i l3), (4, nk_i l4)] [] S R) : ∀ (l0 : Nat) (l2 : Int) (l3 : Int) (l4 : Int) (S : nk_S) (R : Int × nk_S), nk_cl ja_Tt l0 = some 9 → ja_X9_wrongHeight_b29 rec29 l0 l2 l3 l4 S = some R → nk_K ja_Tt mi_Γ (mi_ev zs) 1 434 29 [(0, nk_r l0), (2, nk_i l2), (3, nk_i l3), (4, nk_i l4)] [] S R := by
  intro l0 l2 l3 l4 S R t_l0 hr
  unfold ja_X9_wrongHeight_b29 at hr
  refine nk_p (i := .iload 4) (len := 2) (pc' := 31) mJ_434 (by decide +kernel) (ns_iload 3 rfl) rfl ?_
  refine nk_p (i := .iload_n 3) (len := 1) (pc' := 32) mJ_434 (by decide +kernel) (ns_iload_n 2 rfl rfl) rfl ?_
  refine nk_icmp (c := .ge) (off := 17) (len := 3) (t := 49) (pc' := 35) mJ_434 (by decide +kernel) (by decide +kernel) rfl (fun hc => ?_) (fun hc => ?_)
  · have hr := nk_ifp (c := l3 ≤ l4) hc hr
    refine nk_p (i := .aload_n 0) (len := 1) (pc' := 50) mJ_434 (by decide +kernel) (ns_aload_n 0 rfl rfl) rfl ?_
    refine nk_getC (f := (4, 1, 1024)) (x := 9) (len := 3) (ci := 9) (k := 2) (pc' := 53) ja_okT mJ_434 (by decide +kernel) (by decide +kernel) (by decide +kernel) (by decide) t_l0 rfl ?_
    have t1 : nk_ar ja_Tt (ja_c l0 2) = some (1, 1024) := nk_ta ja_okT t_l0 (by decide +kernel)
    refine nk_p (i := .iload_n 2) (len := 1) (pc' := 54) mJ_434 (by decide +kernel) (ns_iload_n 1 rfl rfl) rfl ?_
    refine nk_p (i := .iconst 1) (len := 1) (pc' := 55) mJ_434 (by decide +kernel) (ns_iconst (c := 1) (by decide +kernel)) rfl ?_
    obtain ⟨h2, hr⟩ := nk_cke hr
    obtain ⟨S3, h4, hr⟩ := nk_lte hr
    refine nk_iast (len := 1) (N := 1024) (pc' := 56) mJ_434 (by decide +kernel) t1 h2.1 h2.2 rfl rfl h4 ?_
    refine nk_p (i := .aload_n 0) (len := 1) (pc' := 57) mJ_434 (by decide +kernel) (ns_aload_n 0 rfl rfl) rfl ?_
    refine nk_p (i := .iconst 1) (len := 1) (pc' := 58) mJ_434 (by decide +kernel) (ns_iconst (c := 1) (by decide +kernel)) rfl ?_
    obtain ⟨S5, h6, hr⟩ := nk_lte hr
    refine nk_putI (y := (0, 0)) (ty := .boolean) (x := 62) (len := 3) (ci := 9) (k := 7) (pc' := 61) ja_okT mJ_434 (by decide +kernel) (by decide +kernel) (by decide +kernel) t_l0 (Or.inr ⟨rfl, by decide⟩) rfl h6 ?_
    refine nk_p (i := .lconst 0) (len := 1) (pc' := 62) mJ_434 (by decide +kernel) (ns_lconst (c := 0) (by decide +kernel)) rfl ?_
    refine nk_p (i := .lstore 4) (len := 2) (pc' := 64) mJ_434 (by decide +kernel) (ns_lstore (L' := [(4, nk_l 0), (0, nk_r l0), (2, nk_i l2), (3, nk_i l3)]) rfl rfl (by decide +kernel)) rfl ?_
    refine nk_sub [1, 2, 3, 0] (L' := [(0, nk_r l0), (2, nk_i l2), (3, nk_i l3), (4, nk_l 0)]) rfl ?_
    exact ja_X9_wrongHeight_L64_ok zs nk_big _ _ _ _ _ _ t_l0 hr
  · have hr := nk_ifn (c := l3 ≤ l4) hc hr
    refine nk_p (i := .aload_n 0) (len := 1) (pc' := 36) mJ_434 (by decide +kernel) (ns_aload_n 0 rfl rfl) rfl ?_
    refine nk_getC (f := (4, 1, 1024)) (x := 9) (len := 3) (ci := 9) (k := 2) (pc' := 39) ja_okT mJ_434 (by decide +kernel) (by decide +kernel) (by decide +kernel) (by decide) t_l0 rfl ?_
    have t7 : nk_ar ja_Tt (ja_c l0 2) = some (1, 1024) := nk_ta ja_okT t_l0 (by decide +kernel)
    refine nk_p (i := .iload 4) (len := 2) (pc' := 41) mJ_434 (by decide +kernel) (ns_iload 3 rfl) rfl ?_
    refine nk_p (i := .iconst 0) (len := 1) (pc' := 42) mJ_434 (by decide +kernel) (ns_iconst (c := 0) (by decide +kernel)) rfl ?_
    obtain ⟨h8, hr⟩ := nk_cke hr
    obtain ⟨S9, h10, hr⟩ := nk_lte hr
    refine nk_iast (len := 1) (N := 1024) (pc' := 43) mJ_434 (by decide +kernel) t7 h8.1 h8.2 rfl rfl h10 ?_
    obtain ⟨v11, h12, hr⟩ := nk_lte hr
    refine nk_p (i := .iinc 4 1) (len := 3) (pc' := 46) mJ_434 (by decide +kernel) (ns_iinc (c := 1) (L' := [(4, nk_i v11), (0, nk_r l0), (2, nk_i l2), (3, nk_i l3)]) 3 rfl (by decide +kernel) h12 rfl (by decide +kernel)) rfl ?_
    refine nk_p (i := .goto (-17)) (len := 3) (pc' := 29) mJ_434 (by decide +kernel) (ns_goto (by decide +kernel)) rfl ?_
    refine nk_sub [1, 2, 3, 0] (L' := [(0, nk_r l0), (2, nk_i l2), (3, nk_i l3), (4, nk_i v11)]) rfl ?_
    exact hrec29 _ _ _ _ _ _ t_l0 hr
noncomputable def ja_X9_wrongHeight_L29 : Nat → Nat → Int → Int → Int → nk_S → Option (Int × nk_S)
  | 0, _, _, _, _, _ => none
  | n + 1, l0, l2, l3, l4, S => ja_X9_wrongHeight_b29 (ja_X9_wrongHeight_L29 n) l0 l2 l3 l4 S
theorem ja_X9_wrongHeight_L29_ok (zs : List Int32) : ∀ n : Nat, ∀ (l0 : Nat) (l2 : Int) (l3 : Int) (l4 : Int) (S : nk_S) (R : Int × nk_S), nk_cl ja_Tt l0 = some 9 → ja_X9_wrongHeight_L29 n l0 l2 l3 l4 S = some R → nk_K ja_Tt mi_Γ (mi_ev zs) 1 434 29 [(0, nk_r l0), (2, nk_i l2), (3, nk_i l3), (4, nk_i l4)] [] S R := by
  intro n
  induction n with
  | zero => intro _ _ _ _ _ _ _ hr; cases hr
  | succ n ih => intro l0 l2 l3 l4 S R t_l0 hr; exact ja_X9_wrongHeight_b29_ok zs ih l0 l2 l3 l4 S R t_l0 hr
noncomputable def ja_X9_wrongHeight (l0 : Nat) (l1 : Int) (S : nk_S) : Option (Int × nk_S) :=
  if 0 ≤ l1 ∧ l1 < 48 then
  nk_lt (S.1 (ja_c (ja_c (S.2 l0 0) 1) 10) l1.toNat) fun v5 =>
  nk_lt (S.1 (ja_c (ja_c (S.2 l0 0) 1) 11) l1.toNat) fun v9 =>
  ja_X9_wrongHeight_L29 nk_big l0 v5 v9 v5 S
  else none
theorem ja_X9_wrongHeight_ok (zs : List Int32) : ∀ (l0 : Nat) (l1 : Int) (S : nk_S) (R : Int × nk_S), nk_cl ja_Tt l0 = some 9 → ja_X9_wrongHeight l0 l1 S = some R → nk_K ja_Tt mi_Γ (mi_ev zs) 1 434 0 [(0, nk_r l0), (1, nk_i l1)] [] S R := by
  intro l0 l1 S R t_l0 hr
  unfold ja_X9_wrongHeight at hr
  refine nk_p (i := .aload_n 0) (len := 1) (pc' := 1) mJ_434 (by decide +kernel) (ns_aload_n 0 rfl rfl) rfl ?_
  refine nk_getM (cj := 3) (z := 0) (x := 28) (len := 3) (ci := 9) (k := 0) (pc' := 4) ja_okT mJ_434 (by decide +kernel) (by decide +kernel) (by decide +kernel) t_l0 rfl (fun t1 => ?_)
  refine nk_getC (f := (2, 0, 0)) (x := 39) (len := 3) (ci := 3) (k := 1) (pc' := 7) ja_okT mJ_434 (by decide +kernel) (by decide +kernel) (by decide +kernel) (by decide) t1 rfl ?_
  have t2 : nk_cl ja_Tt (ja_c (S.2 l0 0) 1) = some 0 := nk_tc (y := 0) ja_okT t1 (by decide +kernel)
  refine nk_getC (f := (4, 1, 48)) (x := 56) (len := 3) (ci := 0) (k := 10) (pc' := 10) ja_okT mJ_434 (by decide +kernel) (by decide +kernel) (by decide +kernel) (by decide) t2 rfl ?_
  have t3 : nk_ar ja_Tt (ja_c (ja_c (S.2 l0 0) 1) 10) = some (1, 48) := nk_ta ja_okT t2 (by decide +kernel)
  refine nk_p (i := .iload_n 1) (len := 1) (pc' := 11) mJ_434 (by decide +kernel) (ns_iload_n 1 rfl rfl) rfl ?_
  obtain ⟨h4, hr⟩ := nk_cke hr
  refine nk_iald (len := 1) (N := 48) (pc' := 12) mJ_434 (by decide +kernel) t3 h4.1 h4.2 rfl rfl ?_
  obtain ⟨v5, h6, hr⟩ := nk_lte hr
  refine nk_p (i := .istore_n 2) (len := 1) (pc' := 13) mJ_434 (by decide +kernel) (ns_istore_n (L' := [(2, nk_i v5), (0, nk_r l0), (1, nk_i l1)]) h6 rfl rfl (by decide +kernel)) rfl ?_
  refine nk_p (i := .aload_n 0) (len := 1) (pc' := 14) mJ_434 (by decide +kernel) (ns_aload_n 1 rfl rfl) rfl ?_
  refine nk_getM (cj := 3) (z := 0) (x := 28) (len := 3) (ci := 9) (k := 0) (pc' := 17) ja_okT mJ_434 (by decide +kernel) (by decide +kernel) (by decide +kernel) t_l0 rfl (fun t7 => ?_)
  refine nk_getC (f := (2, 0, 0)) (x := 39) (len := 3) (ci := 3) (k := 1) (pc' := 20) ja_okT mJ_434 (by decide +kernel) (by decide +kernel) (by decide +kernel) (by decide) t7 rfl ?_
  refine nk_getC (f := (4, 1, 48)) (x := 59) (len := 3) (ci := 0) (k := 11) (pc' := 23) ja_okT mJ_434 (by decide +kernel) (by decide +kernel) (by decide +kernel) (by decide) t2 rfl ?_
  have t8 : nk_ar ja_Tt (ja_c (ja_c (S.2 l0 0) 1) 11) = some (1, 48) := nk_ta ja_okT t2 (by decide +kernel)
  refine nk_p (i := .iload_n 1) (len := 1) (pc' := 24) mJ_434 (by decide +kernel) (ns_iload_n 2 rfl rfl) rfl ?_
  refine nk_iald (len := 1) (N := 48) (pc' := 25) mJ_434 (by decide +kernel) t8 h4.1 h4.2 rfl rfl ?_
  obtain ⟨v9, h10, hr⟩ := nk_lte hr
  refine nk_p (i := .istore_n 3) (len := 1) (pc' := 26) mJ_434 (by decide +kernel) (ns_istore_n (L' := [(3, nk_i v9), (2, nk_i v5), (0, nk_r l0), (1, nk_i l1)]) h10 rfl rfl (by decide +kernel)) rfl ?_
  refine nk_p (i := .iload_n 2) (len := 1) (pc' := 27) mJ_434 (by decide +kernel) (ns_iload_n 1 rfl rfl) rfl ?_
  refine nk_p (i := .istore 4) (len := 2) (pc' := 29) mJ_434 (by decide +kernel) (ns_istore (L' := [(4, nk_i v5), (3, nk_i v9), (2, nk_i v5), (0, nk_r l0), (1, nk_i l1)]) rfl rfl (by decide +kernel)) rfl ?_
  refine nk_sub [3, 2, 1, 0] (L' := [(0, nk_r l0), (2, nk_i v5), (3, nk_i v9), (4, nk_i v5)]) rfl ?_
  exact ja_X9_wrongHeight_L29_ok zs nk_big _ _ _ _ _ _ t_l0 hr
/-! SafeCode$Classes classOf (I)I -/
noncomputable def ja_X1_classOf (l0 : Int) (S : nk_S) : Option (Int × nk_S) :=
  some ((nk_ishr (nk_w (l0 - 4)) 1), S)
theorem ja_X1_classOf_ok (zs : List Int32) : ∀ (l0 : Int) (S : nk_S) (R : Int × nk_S), ja_X1_classOf l0 S = some R → nk_K ja_Tt mi_Γ (mi_ev zs) 1 249 0 [(0, nk_i l0)] [] S R := by
  intro l0 S R hr
  unfold ja_X1_classOf at hr
  refine nk_p (i := .iload_n 0) (len := 1) (pc' := 1) mJ_249 (by decide +kernel) (ns_iload_n 0 rfl rfl) rfl ?_
  refine nk_p (i := .iconst 4) (len := 1) (pc' := 2) mJ_249 (by decide +kernel) (ns_iconst (c := 4) (by decide +kernel)) rfl ?_
  refine nk_p (i := .isub) (len := 1) (pc' := 3) mJ_249 (by decide +kernel) ns_isub rfl ?_
  refine nk_p (i := .iconst 1) (len := 1) (pc' := 4) mJ_249 (by decide +kernel) (ns_iconst (c := 1) (by decide +kernel)) rfl ?_
  refine nk_p (i := .ishr) (len := 1) (pc' := 5) mJ_249 (by decide +kernel) ns_ishr rfl ?_
  cases hr
  exact nk_iret (ty := .int) (len := 1) mJ_249 (by decide +kernel) rfl (nk_nar_i _)
/-! SafeCode$Classes join (II)I -/
noncomputable def ja_X1_join (l0 : Nat) (l1 : Int) (l2 : Int) (S : nk_S) : Option (Int × nk_S) :=
  if l1 = l2 then
    some (l1, S)
  else
    if l1 < 2 then
      some (0, S)
    else
      if 2 ≤ l2 then
        if l1 = 2 then
          some (l2, S)
        else
          if l2 = 2 then
            some (l1, S)
          else
            if l1 = 3 then
              some (4, S)
            else
              if l2 = 3 then
                some (4, S)
              else
                if (nk_iand l1 1) = (nk_iand l2 1) then
                  nk_bd (ja_X1_classOf l1 S) fun r2 S3 =>
                  if 0 ≤ r2 ∧ r2 < 32 then
                  nk_bd (ja_X1_classOf l2 S3) fun r6 S7 =>
                  if 0 ≤ r6 ∧ r6 < 32 then
                  nk_lt (nk_iand (S3.1 (ja_c l0 2) r2.toNat) (S7.1 (ja_c l0 2) r6.toNat)) fun v10 =>
                  nk_bd (ja_J6_numberOfLeadingZeros_0f7a4 v10 S7) fun r12 S13 =>
                  some ((nk_w ((nk_w (4 + (nk_w (2 * (nk_w (31 - r12)))))) + (nk_iand l1 1))), S13)
                  else none
                  else none
                else
                  some (4, S)
      else
        some (0, S)
theorem ja_X1_join_ok (zs : List Int32) : ∀ (l0 : Nat) (l1 : Int) (l2 : Int) (S : nk_S) (R : Int × nk_S), nk_cl ja_Tt l0 = some 1 → ja_X1_join l0 l1 l2 S = some R → nk_K ja_Tt mi_Γ (mi_ev zs) 1 258 0 [(0, nk_r l0), (1, nk_i l1), (2, nk_i l2)] [] S R := by
  intro l0 l1 l2 S R t_l0 hr
  unfold ja_X1_join at hr
  refine nk_p (i := .iload_n 1) (len := 1) (pc' := 1) mJ_258 (by decide +kernel) (ns_iload_n 1 rfl rfl) rfl ?_
  refine nk_p (i := .iload_n 2) (len := 1) (pc' := 2) mJ_258 (by decide +kernel) (ns_iload_n 2 rfl rfl) rfl ?_
  refine nk_icmp (c := .ne) (off := 5) (len := 3) (t := 7) (pc' := 5) mJ_258 (by decide +kernel) (by decide +kernel) rfl (fun hc => ?_) (fun hc => ?_)
  · have hr := nk_ifn (c := l1 = l2) hc hr
    refine nk_p (i := .iload_n 1) (len := 1) (pc' := 8) mJ_258 (by decide +kernel) (ns_iload_n 1 rfl rfl) rfl ?_
    refine nk_p (i := .iconst 2) (len := 1) (pc' := 9) mJ_258 (by decide +kernel) (ns_iconst (c := 2) (by decide +kernel)) rfl ?_
    refine nk_icmp (c := .lt) (off := 8) (len := 3) (t := 17) (pc' := 12) mJ_258 (by decide +kernel) (by decide +kernel) rfl (fun hc => ?_) (fun hc => ?_)
    · have hr := nk_ifp (c := l1 < 2) hc hr
      refine nk_p (i := .iconst 0) (len := 1) (pc' := 18) mJ_258 (by decide +kernel) (ns_iconst (c := 0) (by decide +kernel)) rfl ?_
      cases hr
      exact nk_iret (ty := .int) (len := 1) mJ_258 (by decide +kernel) rfl (nk_nar_i _)
    · have hr := nk_ifn (c := l1 < 2) hc hr
      refine nk_p (i := .iload_n 2) (len := 1) (pc' := 13) mJ_258 (by decide +kernel) (ns_iload_n 2 rfl rfl) rfl ?_
      refine nk_p (i := .iconst 2) (len := 1) (pc' := 14) mJ_258 (by decide +kernel) (ns_iconst (c := 2) (by decide +kernel)) rfl ?_
      refine nk_icmp (c := .ge) (off := 5) (len := 3) (t := 19) (pc' := 17) mJ_258 (by decide +kernel) (by decide +kernel) rfl (fun hc => ?_) (fun hc => ?_)
      · have hr := nk_ifp (c := 2 ≤ l2) hc hr
        refine nk_p (i := .iload_n 1) (len := 1) (pc' := 20) mJ_258 (by decide +kernel) (ns_iload_n 1 rfl rfl) rfl ?_
        refine nk_p (i := .iconst 2) (len := 1) (pc' := 21) mJ_258 (by decide +kernel) (ns_iconst (c := 2) (by decide +kernel)) rfl ?_
        refine nk_icmp (c := .ne) (off := 5) (len := 3) (t := 26) (pc' := 24) mJ_258 (by decide +kernel) (by decide +kernel) rfl (fun hc => ?_) (fun hc => ?_)
        · have hr := nk_ifn (c := l1 = 2) hc hr
          refine nk_p (i := .iload_n 2) (len := 1) (pc' := 27) mJ_258 (by decide +kernel) (ns_iload_n 2 rfl rfl) rfl ?_
          refine nk_p (i := .iconst 2) (len := 1) (pc' := 28) mJ_258 (by decide +kernel) (ns_iconst (c := 2) (by decide +kernel)) rfl ?_
          refine nk_icmp (c := .ne) (off := 5) (len := 3) (t := 33) (pc' := 31) mJ_258 (by decide +kernel) (by decide +kernel) rfl (fun hc => ?_) (fun hc => ?_)
          · have hr := nk_ifn (c := l2 = 2) hc hr
            refine nk_p (i := .iload_n 1) (len := 1) (pc' := 34) mJ_258 (by decide +kernel) (ns_iload_n 1 rfl rfl) rfl ?_
            refine nk_p (i := .iconst 3) (len := 1) (pc' := 35) mJ_258 (by decide +kernel) (ns_iconst (c := 3) (by decide +kernel)) rfl ?_
            refine nk_icmp (c := .eq) (off := 17) (len := 3) (t := 52) (pc' := 38) mJ_258 (by decide +kernel) (by decide +kernel) rfl (fun hc => ?_) (fun hc => ?_)
            · have hr := nk_ifp (c := l1 = 3) hc hr
              refine nk_p (i := .iconst 4) (len := 1) (pc' := 53) mJ_258 (by decide +kernel) (ns_iconst (c := 4) (by decide +kernel)) rfl ?_
              cases hr
              exact nk_iret (ty := .int) (len := 1) mJ_258 (by decide +kernel) rfl (nk_nar_i _)
            · have hr := nk_ifn (c := l1 = 3) hc hr
              refine nk_p (i := .iload_n 2) (len := 1) (pc' := 39) mJ_258 (by decide +kernel) (ns_iload_n 2 rfl rfl) rfl ?_
              refine nk_p (i := .iconst 3) (len := 1) (pc' := 40) mJ_258 (by decide +kernel) (ns_iconst (c := 3) (by decide +kernel)) rfl ?_
              refine nk_icmp (c := .eq) (off := 12) (len := 3) (t := 52) (pc' := 43) mJ_258 (by decide +kernel) (by decide +kernel) rfl (fun hc => ?_) (fun hc => ?_)
              · have hr := nk_ifp (c := l2 = 3) hc hr
                refine nk_p (i := .iconst 4) (len := 1) (pc' := 53) mJ_258 (by decide +kernel) (ns_iconst (c := 4) (by decide +kernel)) rfl ?_
                cases hr
                exact nk_iret (ty := .int) (len := 1) mJ_258 (by decide +kernel) rfl (nk_nar_i _)
              · have hr := nk_ifn (c := l2 = 3) hc hr
                refine nk_p (i := .iload_n 1) (len := 1) (pc' := 44) mJ_258 (by decide +kernel) (ns_iload_n 1 rfl rfl) rfl ?_
                refine nk_p (i := .iconst 1) (len := 1) (pc' := 45) mJ_258 (by decide +kernel) (ns_iconst (c := 1) (by decide +kernel)) rfl ?_
                refine nk_p (i := .iand) (len := 1) (pc' := 46) mJ_258 (by decide +kernel) ns_iand rfl ?_
                refine nk_p (i := .iload_n 2) (len := 1) (pc' := 47) mJ_258 (by decide +kernel) (ns_iload_n 2 rfl rfl) rfl ?_
                refine nk_p (i := .iconst 1) (len := 1) (pc' := 48) mJ_258 (by decide +kernel) (ns_iconst (c := 1) (by decide +kernel)) rfl ?_
                refine nk_p (i := .iand) (len := 1) (pc' := 49) mJ_258 (by decide +kernel) ns_iand rfl ?_
                refine nk_icmp (c := .eq) (off := 5) (len := 3) (t := 54) (pc' := 52) mJ_258 (by decide +kernel) (by decide +kernel) rfl (fun hc => ?_) (fun hc => ?_)
                · have hr := nk_ifp (c := (nk_iand l1 1) = (nk_iand l2 1)) hc hr
                  refine nk_p (i := .aload_n 0) (len := 1) (pc' := 55) mJ_258 (by decide +kernel) (ns_aload_n 0 rfl rfl) rfl ?_
                  refine nk_getC (f := (4, 1, 32)) (x := 15) (len := 3) (ci := 1) (k := 2) (pc' := 58) ja_okT mJ_258 (by decide +kernel) (by decide +kernel) (by decide +kernel) (by decide) t_l0 rfl ?_
                  have t1 : nk_ar ja_Tt (ja_c l0 2) = some (1, 32) := nk_ta ja_okT t_l0 (by decide +kernel)
                  refine nk_p (i := .iload_n 1) (len := 1) (pc' := 59) mJ_258 (by decide +kernel) (ns_iload_n 1 rfl rfl) rfl ?_
                  obtain ⟨r2, S3, h4, hr⟩ := nk_bde hr
                  refine nk_callS (ci := 0) (n := 1) (x := 54) (len := 3) (j' := 249) (q' := 1) (r := r2) (S' := S3) (L2 := [(0, nk_i l1)]) (rest := [nk_r (ja_c l0 2)]) (st' := [nk_i r2, nk_r (ja_c l0 2)]) (pc' := 62) mJ_258 (by decide +kernel) (by decide +kernel) (Nat.le_of_ble_eq_true rfl) rfl rfl (Nat.le_of_ble_eq_true rfl) mJ_249 (Nat.le_of_ble_eq_true rfl) ja_Tpos rfl (ja_X1_classOf_ok zs _ _ _ h4) rfl ?_
                  obtain ⟨h5, hr⟩ := nk_cke hr
                  refine nk_iald (len := 1) (N := 32) (pc' := 63) mJ_258 (by decide +kernel) t1 h5.1 h5.2 rfl rfl ?_
                  refine nk_p (i := .aload_n 0) (len := 1) (pc' := 64) mJ_258 (by decide +kernel) (ns_aload_n 0 rfl rfl) rfl ?_
                  refine nk_getC (f := (4, 1, 32)) (x := 15) (len := 3) (ci := 1) (k := 2) (pc' := 67) ja_okT mJ_258 (by decide +kernel) (by decide +kernel) (by decide +kernel) (by decide) t_l0 rfl ?_
                  refine nk_p (i := .iload_n 2) (len := 1) (pc' := 68) mJ_258 (by decide +kernel) (ns_iload_n 2 rfl rfl) rfl ?_
                  obtain ⟨r6, S7, h8, hr⟩ := nk_bde hr
                  refine nk_callS (ci := 0) (n := 1) (x := 54) (len := 3) (j' := 249) (q' := 1) (r := r6) (S' := S7) (L2 := [(0, nk_i l2)]) (rest := [nk_r (ja_c l0 2), nk_i (S3.1 (ja_c l0 2) r2.toNat)]) (st' := [nk_i r6, nk_r (ja_c l0 2), nk_i (S3.1 (ja_c l0 2) r2.toNat)]) (pc' := 71) mJ_258 (by decide +kernel) (by decide +kernel) (Nat.le_of_ble_eq_true rfl) rfl rfl (Nat.le_of_ble_eq_true rfl) mJ_249 (Nat.le_of_ble_eq_true rfl) ja_Tpos rfl (ja_X1_classOf_ok zs _ _ _ h8) rfl ?_
                  obtain ⟨h9, hr⟩ := nk_cke hr
                  refine nk_iald (len := 1) (N := 32) (pc' := 72) mJ_258 (by decide +kernel) t1 h9.1 h9.2 rfl rfl ?_
                  refine nk_p (i := .iand) (len := 1) (pc' := 73) mJ_258 (by decide +kernel) ns_iand rfl ?_
                  obtain ⟨v10, h11, hr⟩ := nk_lte hr
                  refine nk_p (i := .istore_n 3) (len := 1) (pc' := 74) mJ_258 (by decide +kernel) (ns_istore_n (L' := [(3, nk_i v10), (0, nk_r l0), (1, nk_i l1), (2, nk_i l2)]) h11 rfl rfl (by decide +kernel)) rfl ?_
                  refine nk_p (i := .iconst 4) (len := 1) (pc' := 75) mJ_258 (by decide +kernel) (ns_iconst (c := 4) (by decide +kernel)) rfl ?_
                  refine nk_p (i := .iconst 2) (len := 1) (pc' := 76) mJ_258 (by decide +kernel) (ns_iconst (c := 2) (by decide +kernel)) rfl ?_
                  refine nk_p (i := .bipush 31) (len := 2) (pc' := 78) mJ_258 (by decide +kernel) (ns_bipush (c := 31) (by decide +kernel)) rfl ?_
                  refine nk_p (i := .iload_n 3) (len := 1) (pc' := 79) mJ_258 (by decide +kernel) (ns_iload_n 0 rfl rfl) rfl ?_
                  obtain ⟨r12, S13, h14, hr⟩ := nk_bde hr
                  refine nk_callS (ci := 0) (n := 1) (x := 57) (len := 3) (j' := 11) (q' := 1) (r := r12) (S' := S13) (L2 := [(0, nk_i v10)]) (rest := [nk_i 31, nk_i 2, nk_i 4]) (st' := [nk_i r12, nk_i 31, nk_i 2, nk_i 4]) (pc' := 82) mJ_258 (by decide +kernel) (by decide +kernel) (Nat.le_of_ble_eq_true rfl) rfl rfl (Nat.le_of_ble_eq_true rfl) mJ_11 (Nat.le_of_ble_eq_true rfl) ja_Tpos rfl (ja_J6_numberOfLeadingZeros_0f7a4_ok zs _ _ _ h14) rfl ?_
                  refine nk_p (i := .isub) (len := 1) (pc' := 83) mJ_258 (by decide +kernel) ns_isub rfl ?_
                  refine nk_p (i := .imul) (len := 1) (pc' := 84) mJ_258 (by decide +kernel) ns_imul rfl ?_
                  refine nk_p (i := .iadd) (len := 1) (pc' := 85) mJ_258 (by decide +kernel) ns_iadd rfl ?_
                  refine nk_p (i := .iload_n 1) (len := 1) (pc' := 86) mJ_258 (by decide +kernel) (ns_iload_n 2 rfl rfl) rfl ?_
                  refine nk_p (i := .iconst 1) (len := 1) (pc' := 87) mJ_258 (by decide +kernel) (ns_iconst (c := 1) (by decide +kernel)) rfl ?_
                  refine nk_p (i := .iand) (len := 1) (pc' := 88) mJ_258 (by decide +kernel) ns_iand rfl ?_
                  refine nk_p (i := .iadd) (len := 1) (pc' := 89) mJ_258 (by decide +kernel) ns_iadd rfl ?_
                  cases hr
                  exact nk_iret (ty := .int) (len := 1) mJ_258 (by decide +kernel) rfl (nk_nar_i _)
                · have hr := nk_ifn (c := (nk_iand l1 1) = (nk_iand l2 1)) hc hr
                  refine nk_p (i := .iconst 4) (len := 1) (pc' := 53) mJ_258 (by decide +kernel) (ns_iconst (c := 4) (by decide +kernel)) rfl ?_
                  cases hr
                  exact nk_iret (ty := .int) (len := 1) mJ_258 (by decide +kernel) rfl (nk_nar_i _)
          · have hr := nk_ifp (c := l2 = 2) (Decidable.of_not_not hc) hr
            refine nk_p (i := .iload_n 1) (len := 1) (pc' := 32) mJ_258 (by decide +kernel) (ns_iload_n 1 rfl rfl) rfl ?_
            cases hr
            exact nk_iret (ty := .int) (len := 1) mJ_258 (by decide +kernel) rfl (nk_nar_i _)
        · have hr := nk_ifp (c := l1 = 2) (Decidable.of_not_not hc) hr
          refine nk_p (i := .iload_n 2) (len := 1) (pc' := 25) mJ_258 (by decide +kernel) (ns_iload_n 2 rfl rfl) rfl ?_
          cases hr
          exact nk_iret (ty := .int) (len := 1) mJ_258 (by decide +kernel) rfl (nk_nar_i _)
      · have hr := nk_ifn (c := 2 ≤ l2) hc hr
        refine nk_p (i := .iconst 0) (len := 1) (pc' := 18) mJ_258 (by decide +kernel) (ns_iconst (c := 0) (by decide +kernel)) rfl ?_
        cases hr
        exact nk_iret (ty := .int) (len := 1) mJ_258 (by decide +kernel) rfl (nk_nar_i _)
  · have hr := nk_ifp (c := l1 = l2) (Decidable.of_not_not hc) hr
    refine nk_p (i := .iload_n 1) (len := 1) (pc' := 6) mJ_258 (by decide +kernel) (ns_iload_n 1 rfl rfl) rfl ?_
    cases hr
    exact nk_iret (ty := .int) (len := 1) mJ_258 (by decide +kernel) rfl (nk_nar_i _)
/-! SafeCode$Types arrive (III)V -/
noncomputable def ja_X9_arrive_b133 (rec35 : Nat → Int → Int → Int → Int → Int → nk_S → Option (Int × nk_S)) (l0 : Nat) (l1 : Int) (l2 : Int) (l3 : Int) (l5 : Int) (l6 : Int) (l7 : Int) (s0 : Int) (S : nk_S) : Option (Int × nk_S) :=
  if 0 ≤ l6 ∧ l6 < 20480 then
  nk_lt (nk_wi S (ja_c l0 3) l6.toNat l7) fun S3 =>
  nk_lt (nk_w (l5 + 1)) fun v5 =>
  rec35 l0 l1 l2 l3 s0 v5 S3
  else none
theorem ja_X9_arrive_b133_ok (zs : List Int32) {rec35 : Nat → Int → Int → Int → Int → Int → nk_S → Option (Int × nk_S)} (hrec35 : ∀ (l0 : Nat) (l1 : Int) (l2 : Int) (l3 : Int) (l4 : Int) (l5 : Int) (S : nk_S) (R : Int × nk_S), nk_cl ja_Tt l0 = some 9 → rec35 l0 l1 l2 l3 l4 l5 S = some R → nk_K ja_Tt mi_Γ (mi_ev zs) 0 423 35 [(0, nk_r l0), (1, nk_i l1), (2, nk_i l2), (3, nk_i l3), (4, nk_i l4), (5, nk_i l5)] [] S R) : ∀ (l0 : Nat) (l1 : Int) (l2 : Int) (l3 : Int) (l5 : Int) (l6 : Int) (l7 : Int) (s0 : Int) (S : nk_S) (R : Int × nk_S), nk_cl ja_Tt l0 = some 9 → ja_X9_arrive_b133 rec35 l0 l1 l2 l3 l5 l6 l7 s0 S = some R → nk_K ja_Tt mi_Γ (mi_ev zs) 0 423 133 [(0, nk_r l0), (1, nk_i l1), (2, nk_i l2), (3, nk_i l3), (5, nk_i l5), (6, nk_i l6), (7, nk_i l7)] [nk_i s0] S R := by
  intro l0 l1 l2 l3 l5 l6 l7 s0 S R t_l0 hr
  unfold ja_X9_arrive_b133 at hr
  refine nk_p (i := .istore 4) (len := 2) (pc' := 135) mJ_423 (by decide +kernel) (ns_istore (L' := [(4, nk_i s0), (0, nk_r l0), (1, nk_i l1), (2, nk_i l2), (3, nk_i l3), (5, nk_i l5), (6, nk_i l6), (7, nk_i l7)]) rfl rfl (by decide +kernel)) rfl ?_
  refine nk_p (i := .aload_n 0) (len := 1) (pc' := 136) mJ_423 (by decide +kernel) (ns_aload_n 1 rfl rfl) rfl ?_
  refine nk_getC (f := (4, 1, 20480)) (x := 15) (len := 3) (ci := 9) (k := 3) (pc' := 139) ja_okT mJ_423 (by decide +kernel) (by decide +kernel) (by decide +kernel) (by decide) t_l0 rfl ?_
  have t1 : nk_ar ja_Tt (ja_c l0 3) = some (1, 20480) := nk_ta ja_okT t_l0 (by decide +kernel)
  refine nk_p (i := .iload 6) (len := 2) (pc' := 141) mJ_423 (by decide +kernel) (ns_iload 6 rfl) rfl ?_
  refine nk_p (i := .iload 7) (len := 2) (pc' := 143) mJ_423 (by decide +kernel) (ns_iload 7 rfl) rfl ?_
  obtain ⟨h2, hr⟩ := nk_cke hr
  obtain ⟨S3, h4, hr⟩ := nk_lte hr
  refine nk_iast (len := 1) (N := 20480) (pc' := 144) mJ_423 (by decide +kernel) t1 h2.1 h2.2 rfl rfl h4 ?_
  obtain ⟨v5, h6, hr⟩ := nk_lte hr
  refine nk_p (i := .iinc 5 1) (len := 3) (pc' := 147) mJ_423 (by decide +kernel) (ns_iinc (c := 1) (L' := [(5, nk_i v5), (4, nk_i s0), (0, nk_r l0), (1, nk_i l1), (2, nk_i l2), (3, nk_i l3), (6, nk_i l6), (7, nk_i l7)]) 5 rfl (by decide +kernel) h6 rfl (by decide +kernel)) rfl ?_
  refine nk_p (i := .goto (-112)) (len := 3) (pc' := 35) mJ_423 (by decide +kernel) (ns_goto (by decide +kernel)) rfl ?_
  refine nk_sub [2, 3, 4, 5, 1, 0] (L' := [(0, nk_r l0), (1, nk_i l1), (2, nk_i l2), (3, nk_i l3), (4, nk_i s0), (5, nk_i v5)]) rfl ?_
  exact hrec35 _ _ _ _ _ _ _ _ t_l0 hr
noncomputable def ja_X9_arrive_b128 (rec35 : Nat → Int → Int → Int → Int → Int → nk_S → Option (Int × nk_S)) (l0 : Nat) (l1 : Int) (l2 : Int) (l3 : Int) (l5 : Int) (l6 : Int) (l7 : Int) (S : nk_S) : Option (Int × nk_S) :=
  ja_X9_arrive_b133 rec35 l0 l1 l2 l3 l5 l6 l7 1 S
theorem ja_X9_arrive_b128_ok (zs : List Int32) {rec35 : Nat → Int → Int → Int → Int → Int → nk_S → Option (Int × nk_S)} (hrec35 : ∀ (l0 : Nat) (l1 : Int) (l2 : Int) (l3 : Int) (l4 : Int) (l5 : Int) (S : nk_S) (R : Int × nk_S), nk_cl ja_Tt l0 = some 9 → rec35 l0 l1 l2 l3 l4 l5 S = some R → nk_K ja_Tt mi_Γ (mi_ev zs) 0 423 35 [(0, nk_r l0), (1, nk_i l1), (2, nk_i l2), (3, nk_i l3), (4, nk_i l4), (5, nk_i l5)] [] S R) : ∀ (l0 : Nat) (l1 : Int) (l2 : Int) (l3 : Int) (l5 : Int) (l6 : Int) (l7 : Int) (S : nk_S) (R : Int × nk_S), nk_cl ja_Tt l0 = some 9 → ja_X9_arrive_b128 rec35 l0 l1 l2 l3 l5 l6 l7 S = some R → nk_K ja_Tt mi_Γ (mi_ev zs) 0 423 128 [(0, nk_r l0), (1, nk_i l1), (2, nk_i l2), (3, nk_i l3), (5, nk_i l5), (6, nk_i l6), (7, nk_i l7)] [] S R := by
  intro l0 l1 l2 l3 l5 l6 l7 S R t_l0 hr
  unfold ja_X9_arrive_b128 at hr
  refine nk_p (i := .iconst 1) (len := 1) (pc' := 129) mJ_423 (by decide +kernel) (ns_iconst (c := 1) (by decide +kernel)) rfl ?_
  refine nk_p (i := .goto 4) (len := 3) (pc' := 133) mJ_423 (by decide +kernel) (ns_goto (by decide +kernel)) rfl ?_
  exact ja_X9_arrive_b133_ok zs hrec35 _ _ _ _ _ _ _ _ _ _ t_l0 hr
noncomputable def ja_X9_arrive_b109 (rec35 : Nat → Int → Int → Int → Int → Int → nk_S → Option (Int × nk_S)) (l0 : Nat) (l1 : Int) (l2 : Int) (l3 : Int) (l4 : Int) (l5 : Int) (l6 : Int) (s0 : Int) (S : nk_S) : Option (Int × nk_S) :=
  if l4 = 0 then
    if 0 ≤ l6 ∧ l6 < 20480 then
    if s0 = (S.1 (ja_c l0 3) l6.toNat) then
      ja_X9_arrive_b133 rec35 l0 l1 l2 l3 l5 l6 s0 0 S
    else
      ja_X9_arrive_b128 rec35 l0 l1 l2 l3 l5 l6 s0 S
    else none
  else
    ja_X9_arrive_b128 rec35 l0 l1 l2 l3 l5 l6 s0 S
theorem ja_X9_arrive_b109_ok (zs : List Int32) {rec35 : Nat → Int → Int → Int → Int → Int → nk_S → Option (Int × nk_S)} (hrec35 : ∀ (l0 : Nat) (l1 : Int) (l2 : Int) (l3 : Int) (l4 : Int) (l5 : Int) (S : nk_S) (R : Int × nk_S), nk_cl ja_Tt l0 = some 9 → rec35 l0 l1 l2 l3 l4 l5 S = some R → nk_K ja_Tt mi_Γ (mi_ev zs) 0 423 35 [(0, nk_r l0), (1, nk_i l1), (2, nk_i l2), (3, nk_i l3), (4, nk_i l4), (5, nk_i l5)] [] S R) : ∀ (l0 : Nat) (l1 : Int) (l2 : Int) (l3 : Int) (l4 : Int) (l5 : Int) (l6 : Int) (s0 : Int) (S : nk_S) (R : Int × nk_S), nk_cl ja_Tt l0 = some 9 → ja_X9_arrive_b109 rec35 l0 l1 l2 l3 l4 l5 l6 s0 S = some R → nk_K ja_Tt mi_Γ (mi_ev zs) 0 423 109 [(0, nk_r l0), (1, nk_i l1), (2, nk_i l2), (3, nk_i l3), (4, nk_i l4), (5, nk_i l5), (6, nk_i l6)] [nk_i s0] S R := by
  intro l0 l1 l2 l3 l4 l5 l6 s0 S R t_l0 hr
  unfold ja_X9_arrive_b109 at hr
  refine nk_p (i := .istore 7) (len := 2) (pc' := 111) mJ_423 (by decide +kernel) (ns_istore (L' := [(7, nk_i s0), (0, nk_r l0), (1, nk_i l1), (2, nk_i l2), (3, nk_i l3), (4, nk_i l4), (5, nk_i l5), (6, nk_i l6)]) rfl rfl (by decide +kernel)) rfl ?_
  refine nk_p (i := .iload 4) (len := 2) (pc' := 113) mJ_423 (by decide +kernel) (ns_iload 5 rfl) rfl ?_
  refine nk_icond (c := .ne) (off := 15) (len := 3) (t := 128) (pc' := 116) mJ_423 (by decide +kernel) (by decide +kernel) rfl (fun hc => ?_) (fun hc => ?_)
  · have hr := nk_ifn (c := l4 = 0) hc hr
    refine nk_sub [1, 2, 3, 4, 6, 7, 0] (L' := [(0, nk_r l0), (1, nk_i l1), (2, nk_i l2), (3, nk_i l3), (5, nk_i l5), (6, nk_i l6), (7, nk_i s0)]) rfl ?_
    exact ja_X9_arrive_b128_ok zs hrec35 _ _ _ _ _ _ _ _ _ t_l0 hr
  · have hr := nk_ifp (c := l4 = 0) (Decidable.of_not_not hc) hr
    refine nk_p (i := .iload 7) (len := 2) (pc' := 118) mJ_423 (by decide +kernel) (ns_iload 0 rfl) rfl ?_
    refine nk_p (i := .aload_n 0) (len := 1) (pc' := 119) mJ_423 (by decide +kernel) (ns_aload_n 1 rfl rfl) rfl ?_
    refine nk_getC (f := (4, 1, 20480)) (x := 15) (len := 3) (ci := 9) (k := 3) (pc' := 122) ja_okT mJ_423 (by decide +kernel) (by decide +kernel) (by decide +kernel) (by decide) t_l0 rfl ?_
    have t1 : nk_ar ja_Tt (ja_c l0 3) = some (1, 20480) := nk_ta ja_okT t_l0 (by decide +kernel)
    refine nk_p (i := .iload 6) (len := 2) (pc' := 124) mJ_423 (by decide +kernel) (ns_iload 7 rfl) rfl ?_
    obtain ⟨h2, hr⟩ := nk_cke hr
    refine nk_iald (len := 1) (N := 20480) (pc' := 125) mJ_423 (by decide +kernel) t1 h2.1 h2.2 rfl rfl ?_
    refine nk_icmp (c := .eq) (off := 7) (len := 3) (t := 132) (pc' := 128) mJ_423 (by decide +kernel) (by decide +kernel) rfl (fun hc => ?_) (fun hc => ?_)
    · have hr := nk_ifp (c := s0 = (S.1 (ja_c l0 3) l6.toNat)) hc hr
      refine nk_p (i := .iconst 0) (len := 1) (pc' := 133) mJ_423 (by decide +kernel) (ns_iconst (c := 0) (by decide +kernel)) rfl ?_
      refine nk_sub [1, 2, 3, 4, 6, 7, 0] (L' := [(0, nk_r l0), (1, nk_i l1), (2, nk_i l2), (3, nk_i l3), (5, nk_i l5), (6, nk_i l6), (7, nk_i s0)]) rfl ?_
      exact ja_X9_arrive_b133_ok zs hrec35 _ _ _ _ _ _ _ _ _ _ t_l0 hr
    · have hr := nk_ifn (c := s0 = (S.1 (ja_c l0 3) l6.toNat)) hc hr
      refine nk_sub [1, 2, 3, 4, 6, 7, 0] (L' := [(0, nk_r l0), (1, nk_i l1), (2, nk_i l2), (3, nk_i l3), (5, nk_i l5), (6, nk_i l6), (7, nk_i s0)]) rfl ?_
      exact ja_X9_arrive_b128_ok zs hrec35 _ _ _ _ _ _ _ _ _ t_l0 hr
noncomputable def ja_X9_arrive_b60 (rec35 : Nat → Int → Int → Int → Int → Int → nk_S → Option (Int × nk_S)) (l0 : Nat) (l1 : Int) (l2 : Int) (l3 : Int) (l4 : Int) (l5 : Int) (S : nk_S) : Option (Int × nk_S) :=
  nk_lt (nk_w ((nk_w (l1 * 20)) + l5)) fun v1 =>
  if 0 ≤ l1 ∧ l1 < 1024 then
  if (S.1 (ja_c l0 4) l1.toNat) = 0 then
    if 0 ≤ l5 ∧ l5 < 20 then
    ja_X9_arrive_b109 rec35 l0 l1 l2 l3 l4 l5 v1 (S.1 (ja_c l0 6) l5.toNat) S
    else none
  else
    if 0 ≤ v1 ∧ v1 < 20480 then
    if 0 ≤ l5 ∧ l5 < 20 then
    nk_bd (ja_X1_join (S.2 l0 1) (S.1 (ja_c l0 3) v1.toNat) (S.1 (ja_c l0 6) l5.toNat) S) fun r12 S13 =>
    ja_X9_arrive_b109 rec35 l0 l1 l2 l3 l4 l5 v1 r12 S13
    else none
    else none
  else none
theorem ja_X9_arrive_b60_ok (zs : List Int32) {rec35 : Nat → Int → Int → Int → Int → Int → nk_S → Option (Int × nk_S)} (hrec35 : ∀ (l0 : Nat) (l1 : Int) (l2 : Int) (l3 : Int) (l4 : Int) (l5 : Int) (S : nk_S) (R : Int × nk_S), nk_cl ja_Tt l0 = some 9 → rec35 l0 l1 l2 l3 l4 l5 S = some R → nk_K ja_Tt mi_Γ (mi_ev zs) 0 423 35 [(0, nk_r l0), (1, nk_i l1), (2, nk_i l2), (3, nk_i l3), (4, nk_i l4), (5, nk_i l5)] [] S R) : ∀ (l0 : Nat) (l1 : Int) (l2 : Int) (l3 : Int) (l4 : Int) (l5 : Int) (S : nk_S) (R : Int × nk_S), nk_cl ja_Tt l0 = some 9 → ja_X9_arrive_b60 rec35 l0 l1 l2 l3 l4 l5 S = some R → nk_K ja_Tt mi_Γ (mi_ev zs) 0 423 60 [(0, nk_r l0), (1, nk_i l1), (2, nk_i l2), (3, nk_i l3), (4, nk_i l4), (5, nk_i l5)] [] S R := by
  intro l0 l1 l2 l3 l4 l5 S R t_l0 hr
  unfold ja_X9_arrive_b60 at hr
  refine nk_p (i := .iload_n 1) (len := 1) (pc' := 61) mJ_423 (by decide +kernel) (ns_iload_n 1 rfl rfl) rfl ?_
  refine nk_p (i := .bipush 20) (len := 2) (pc' := 63) mJ_423 (by decide +kernel) (ns_bipush (c := 20) (by decide +kernel)) rfl ?_
  refine nk_p (i := .imul) (len := 1) (pc' := 64) mJ_423 (by decide +kernel) ns_imul rfl ?_
  refine nk_p (i := .iload 5) (len := 2) (pc' := 66) mJ_423 (by decide +kernel) (ns_iload 5 rfl) rfl ?_
  refine nk_p (i := .iadd) (len := 1) (pc' := 67) mJ_423 (by decide +kernel) ns_iadd rfl ?_
  obtain ⟨v1, h2, hr⟩ := nk_lte hr
  refine nk_p (i := .istore 6) (len := 2) (pc' := 69) mJ_423 (by decide +kernel) (ns_istore (L' := [(6, nk_i v1), (0, nk_r l0), (1, nk_i l1), (2, nk_i l2), (3, nk_i l3), (4, nk_i l4), (5, nk_i l5)]) h2 rfl (by decide +kernel)) rfl ?_
  refine nk_p (i := .aload_n 0) (len := 1) (pc' := 70) mJ_423 (by decide +kernel) (ns_aload_n 1 rfl rfl) rfl ?_
  refine nk_getC (f := (4, 3, 1024)) (x := 18) (len := 3) (ci := 9) (k := 4) (pc' := 73) ja_okT mJ_423 (by decide +kernel) (by decide +kernel) (by decide +kernel) (by decide) t_l0 rfl ?_
  have t3 : nk_ar ja_Tt (ja_c l0 4) = some (3, 1024) := nk_ta ja_okT t_l0 (by decide +kernel)
  refine nk_p (i := .iload_n 1) (len := 1) (pc' := 74) mJ_423 (by decide +kernel) (ns_iload_n 2 rfl rfl) rfl ?_
  obtain ⟨h4, hr⟩ := nk_cke hr
  refine nk_bald (t := 3) (len := 1) (N := 1024) (pc' := 75) mJ_423 (by decide +kernel) t3 (by decide) h4.1 h4.2 rfl rfl ?_
  refine nk_icond (c := .eq) (off := 27) (len := 3) (t := 102) (pc' := 78) mJ_423 (by decide +kernel) (by decide +kernel) rfl (fun hc => ?_) (fun hc => ?_)
  · have hr := nk_ifp (c := (S.1 (ja_c l0 4) l1.toNat) = 0) hc hr
    refine nk_p (i := .aload_n 0) (len := 1) (pc' := 103) mJ_423 (by decide +kernel) (ns_aload_n 1 rfl rfl) rfl ?_
    refine nk_getC (f := (4, 1, 20)) (x := 25) (len := 3) (ci := 9) (k := 6) (pc' := 106) ja_okT mJ_423 (by decide +kernel) (by decide +kernel) (by decide +kernel) (by decide) t_l0 rfl ?_
    have t5 : nk_ar ja_Tt (ja_c l0 6) = some (1, 20) := nk_ta ja_okT t_l0 (by decide +kernel)
    refine nk_p (i := .iload 5) (len := 2) (pc' := 108) mJ_423 (by decide +kernel) (ns_iload 6 rfl) rfl ?_
    obtain ⟨h6, hr⟩ := nk_cke hr
    refine nk_iald (len := 1) (N := 20) (pc' := 109) mJ_423 (by decide +kernel) t5 h6.1 h6.2 rfl rfl ?_
    refine nk_sub [1, 2, 3, 4, 5, 6, 0] (L' := [(0, nk_r l0), (1, nk_i l1), (2, nk_i l2), (3, nk_i l3), (4, nk_i l4), (5, nk_i l5), (6, nk_i v1)]) rfl ?_
    exact ja_X9_arrive_b109_ok zs hrec35 _ _ _ _ _ _ _ _ _ _ t_l0 hr
  · have hr := nk_ifn (c := (S.1 (ja_c l0 4) l1.toNat) = 0) hc hr
    refine nk_p (i := .aload_n 0) (len := 1) (pc' := 79) mJ_423 (by decide +kernel) (ns_aload_n 1 rfl rfl) rfl ?_
    refine nk_getM (cj := 1) (z := 0) (x := 38) (len := 3) (ci := 9) (k := 1) (pc' := 82) ja_okT mJ_423 (by decide +kernel) (by decide +kernel) (by decide +kernel) t_l0 rfl (fun t7 => ?_)
    refine nk_p (i := .aload_n 0) (len := 1) (pc' := 83) mJ_423 (by decide +kernel) (ns_aload_n 1 rfl rfl) rfl ?_
    refine nk_getC (f := (4, 1, 20480)) (x := 15) (len := 3) (ci := 9) (k := 3) (pc' := 86) ja_okT mJ_423 (by decide +kernel) (by decide +kernel) (by decide +kernel) (by decide) t_l0 rfl ?_
    have t8 : nk_ar ja_Tt (ja_c l0 3) = some (1, 20480) := nk_ta ja_okT t_l0 (by decide +kernel)
    refine nk_p (i := .iload 6) (len := 2) (pc' := 88) mJ_423 (by decide +kernel) (ns_iload 0 rfl) rfl ?_
    obtain ⟨h9, hr⟩ := nk_cke hr
    refine nk_iald (len := 1) (N := 20480) (pc' := 89) mJ_423 (by decide +kernel) t8 h9.1 h9.2 rfl rfl ?_
    refine nk_p (i := .aload_n 0) (len := 1) (pc' := 90) mJ_423 (by decide +kernel) (ns_aload_n 1 rfl rfl) rfl ?_
    refine nk_getC (f := (4, 1, 20)) (x := 25) (len := 3) (ci := 9) (k := 6) (pc' := 93) ja_okT mJ_423 (by decide +kernel) (by decide +kernel) (by decide +kernel) (by decide) t_l0 rfl ?_
    have t10 : nk_ar ja_Tt (ja_c l0 6) = some (1, 20) := nk_ta ja_okT t_l0 (by decide +kernel)
    refine nk_p (i := .iload 5) (len := 2) (pc' := 95) mJ_423 (by decide +kernel) (ns_iload 6 rfl) rfl ?_
    obtain ⟨h11, hr⟩ := nk_cke hr
    refine nk_iald (len := 1) (N := 20) (pc' := 96) mJ_423 (by decide +kernel) t10 h11.1 h11.2 rfl rfl ?_
    obtain ⟨r12, S13, h14, hr⟩ := nk_bde hr
    refine nk_callV (ci := 1) (n := 2) (x := 146) (len := 3) (j' := 258) (q' := 1) (r := r12) (S' := S13) (L2 := [(0, nk_r (S.2 l0 1)), (1, nk_i (S.1 (ja_c l0 3) v1.toNat)), (2, nk_i (S.1 (ja_c l0 6) l5.toNat))]) (rest := []) (st' := [nk_i r12]) (pc' := 99) mJ_423 (by decide +kernel) (by decide +kernel) rfl rfl t7 (Nat.le_of_ble_eq_true rfl) mJ_258 (Nat.le_of_ble_eq_true rfl) rfl (ja_X1_join_ok zs _ _ _ _ _ t7 h14) rfl ?_
    refine nk_p (i := .goto 10) (len := 3) (pc' := 109) mJ_423 (by decide +kernel) (ns_goto (by decide +kernel)) rfl ?_
    refine nk_sub [1, 2, 3, 4, 5, 6, 0] (L' := [(0, nk_r l0), (1, nk_i l1), (2, nk_i l2), (3, nk_i l3), (4, nk_i l4), (5, nk_i l5), (6, nk_i v1)]) rfl ?_
    exact ja_X9_arrive_b109_ok zs hrec35 _ _ _ _ _ _ _ _ _ _ t_l0 hr
noncomputable def ja_X9_arrive_b35 (rec35 : Nat → Int → Int → Int → Int → Int → nk_S → Option (Int × nk_S)) (l0 : Nat) (l1 : Int) (l2 : Int) (l3 : Int) (l4 : Int) (l5 : Int) (S : nk_S) : Option (Int × nk_S) :=
  if (nk_w (12 + l3)) ≤ l5 then
    if l4 = 0 then
      some (0, S)
    else
      if 0 ≤ l1 ∧ l1 < 1024 then
      nk_lt (nk_wi S (ja_c l0 4) l1.toNat 1) fun S3 =>
      nk_lt (nk_wi S3 (ja_c l0 5) l1.toNat 1) fun S6 =>
      nk_lt (nk_wi S6 l0 7 1) fun S8 =>
      some (0, S8)
      else none
  else
    if l5 < l2 then
      ja_X9_arrive_b60 rec35 l0 l1 l2 l3 l4 l5 S
    else
      if 12 ≤ l5 then
        ja_X9_arrive_b60 rec35 l0 l1 l2 l3 l4 l5 S
      else
        nk_lt (nk_w (l5 + 1)) fun v10 =>
        rec35 l0 l1 l2 l3 l4 v10 S
theorem ja_X9_arrive_b35_ok (zs : List Int32) {rec35 : Nat → Int → Int → Int → Int → Int → nk_S → Option (Int × nk_S)} (hrec35 : ∀ (l0 : Nat) (l1 : Int) (l2 : Int) (l3 : Int) (l4 : Int) (l5 : Int) (S : nk_S) (R : Int × nk_S), nk_cl ja_Tt l0 = some 9 → rec35 l0 l1 l2 l3 l4 l5 S = some R → nk_K ja_Tt mi_Γ (mi_ev zs) 0 423 35 [(0, nk_r l0), (1, nk_i l1), (2, nk_i l2), (3, nk_i l3), (4, nk_i l4), (5, nk_i l5)] [] S R) : ∀ (l0 : Nat) (l1 : Int) (l2 : Int) (l3 : Int) (l4 : Int) (l5 : Int) (S : nk_S) (R : Int × nk_S), nk_cl ja_Tt l0 = some 9 → ja_X9_arrive_b35 rec35 l0 l1 l2 l3 l4 l5 S = some R → nk_K ja_Tt mi_Γ (mi_ev zs) 0 423 35 [(0, nk_r l0), (1, nk_i l1), (2, nk_i l2), (3, nk_i l3), (4, nk_i l4), (5, nk_i l5)] [] S R := by
  intro l0 l1 l2 l3 l4 l5 S R t_l0 hr
  unfold ja_X9_arrive_b35 at hr
  refine nk_p (i := .iload 5) (len := 2) (pc' := 37) mJ_423 (by decide +kernel) (ns_iload 5 rfl) rfl ?_
  refine nk_p (i := .bipush 12) (len := 2) (pc' := 39) mJ_423 (by decide +kernel) (ns_bipush (c := 12) (by decide +kernel)) rfl ?_
  refine nk_p (i := .iload_n 3) (len := 1) (pc' := 40) mJ_423 (by decide +kernel) (ns_iload_n 3 rfl rfl) rfl ?_
  refine nk_p (i := .iadd) (len := 1) (pc' := 41) mJ_423 (by decide +kernel) ns_iadd rfl ?_
  refine nk_icmp (c := .ge) (off := 109) (len := 3) (t := 150) (pc' := 44) mJ_423 (by decide +kernel) (by decide +kernel) rfl (fun hc => ?_) (fun hc => ?_)
  · have hr := nk_ifp (c := (nk_w (12 + l3)) ≤ l5) hc hr
    refine nk_p (i := .iload 4) (len := 2) (pc' := 152) mJ_423 (by decide +kernel) (ns_iload 4 rfl) rfl ?_
    refine nk_icond (c := .eq) (off := 22) (len := 3) (t := 174) (pc' := 155) mJ_423 (by decide +kernel) (by decide +kernel) rfl (fun hc => ?_) (fun hc => ?_)
    · have hr := nk_ifp (c := l4 = 0) hc hr
      cases hr
      exact nk_vret (len := 1) mJ_423 (by decide +kernel) rfl
    · have hr := nk_ifn (c := l4 = 0) hc hr
      refine nk_p (i := .aload_n 0) (len := 1) (pc' := 156) mJ_423 (by decide +kernel) (ns_aload_n 0 rfl rfl) rfl ?_
      refine nk_getC (f := (4, 3, 1024)) (x := 18) (len := 3) (ci := 9) (k := 4) (pc' := 159) ja_okT mJ_423 (by decide +kernel) (by decide +kernel) (by decide +kernel) (by decide) t_l0 rfl ?_
      have t1 : nk_ar ja_Tt (ja_c l0 4) = some (3, 1024) := nk_ta ja_okT t_l0 (by decide +kernel)
      refine nk_p (i := .iload_n 1) (len := 1) (pc' := 160) mJ_423 (by decide +kernel) (ns_iload_n 1 rfl rfl) rfl ?_
      refine nk_p (i := .iconst 1) (len := 1) (pc' := 161) mJ_423 (by decide +kernel) (ns_iconst (c := 1) (by decide +kernel)) rfl ?_
      obtain ⟨h2, hr⟩ := nk_cke hr
      obtain ⟨S3, h4, hr⟩ := nk_lte hr
      refine nk_zast (len := 1) (N := 1024) (pc' := 162) mJ_423 (by decide +kernel) t1 h2.1 h2.2 (by decide) rfl rfl h4 ?_
      refine nk_p (i := .aload_n 0) (len := 1) (pc' := 163) mJ_423 (by decide +kernel) (ns_aload_n 0 rfl rfl) rfl ?_
      refine nk_getC (f := (4, 3, 1024)) (x := 22) (len := 3) (ci := 9) (k := 5) (pc' := 166) ja_okT mJ_423 (by decide +kernel) (by decide +kernel) (by decide +kernel) (by decide) t_l0 rfl ?_
      have t5 : nk_ar ja_Tt (ja_c l0 5) = some (3, 1024) := nk_ta ja_okT t_l0 (by decide +kernel)
      refine nk_p (i := .iload_n 1) (len := 1) (pc' := 167) mJ_423 (by decide +kernel) (ns_iload_n 1 rfl rfl) rfl ?_
      refine nk_p (i := .iconst 1) (len := 1) (pc' := 168) mJ_423 (by decide +kernel) (ns_iconst (c := 1) (by decide +kernel)) rfl ?_
      obtain ⟨S6, h7, hr⟩ := nk_lte hr
      refine nk_zast (len := 1) (N := 1024) (pc' := 169) mJ_423 (by decide +kernel) t5 h2.1 h2.2 (by decide) rfl rfl h7 ?_
      refine nk_p (i := .aload_n 0) (len := 1) (pc' := 170) mJ_423 (by decide +kernel) (ns_aload_n 0 rfl rfl) rfl ?_
      refine nk_p (i := .iconst 1) (len := 1) (pc' := 171) mJ_423 (by decide +kernel) (ns_iconst (c := 1) (by decide +kernel)) rfl ?_
      obtain ⟨S8, h9, hr⟩ := nk_lte hr
      refine nk_putI (y := (0, 0)) (ty := .boolean) (x := 62) (len := 3) (ci := 9) (k := 7) (pc' := 174) ja_okT mJ_423 (by decide +kernel) (by decide +kernel) (by decide +kernel) t_l0 (Or.inr ⟨rfl, by decide⟩) rfl h9 ?_
      cases hr
      exact nk_vret (len := 1) mJ_423 (by decide +kernel) rfl
  · have hr := nk_ifn (c := (nk_w (12 + l3)) ≤ l5) hc hr
    refine nk_p (i := .iload 5) (len := 2) (pc' := 46) mJ_423 (by decide +kernel) (ns_iload 5 rfl) rfl ?_
    refine nk_p (i := .iload_n 2) (len := 1) (pc' := 47) mJ_423 (by decide +kernel) (ns_iload_n 2 rfl rfl) rfl ?_
    refine nk_icmp (c := .lt) (off := 13) (len := 3) (t := 60) (pc' := 50) mJ_423 (by decide +kernel) (by decide +kernel) rfl (fun hc => ?_) (fun hc => ?_)
    · have hr := nk_ifp (c := l5 < l2) hc hr
      exact ja_X9_arrive_b60_ok zs hrec35 _ _ _ _ _ _ _ _ t_l0 hr
    · have hr := nk_ifn (c := l5 < l2) hc hr
      refine nk_p (i := .iload 5) (len := 2) (pc' := 52) mJ_423 (by decide +kernel) (ns_iload 5 rfl) rfl ?_
      refine nk_p (i := .bipush 12) (len := 2) (pc' := 54) mJ_423 (by decide +kernel) (ns_bipush (c := 12) (by decide +kernel)) rfl ?_
      refine nk_icmp (c := .ge) (off := 6) (len := 3) (t := 60) (pc' := 57) mJ_423 (by decide +kernel) (by decide +kernel) rfl (fun hc => ?_) (fun hc => ?_)
      · have hr := nk_ifp (c := 12 ≤ l5) hc hr
        exact ja_X9_arrive_b60_ok zs hrec35 _ _ _ _ _ _ _ _ t_l0 hr
      · have hr := nk_ifn (c := 12 ≤ l5) hc hr
        refine nk_p (i := .goto 87) (len := 3) (pc' := 144) mJ_423 (by decide +kernel) (ns_goto (by decide +kernel)) rfl ?_
        obtain ⟨v10, h11, hr⟩ := nk_lte hr
        refine nk_p (i := .iinc 5 1) (len := 3) (pc' := 147) mJ_423 (by decide +kernel) (ns_iinc (c := 1) (L' := [(5, nk_i v10), (0, nk_r l0), (1, nk_i l1), (2, nk_i l2), (3, nk_i l3), (4, nk_i l4)]) 5 rfl (by decide +kernel) h11 rfl (by decide +kernel)) rfl ?_
        refine nk_p (i := .goto (-112)) (len := 3) (pc' := 35) mJ_423 (by decide +kernel) (ns_goto (by decide +kernel)) rfl ?_
        refine nk_sub [1, 2, 3, 4, 5, 0] (L' := [(0, nk_r l0), (1, nk_i l1), (2, nk_i l2), (3, nk_i l3), (4, nk_i l4), (5, nk_i v10)]) rfl ?_
        exact hrec35 _ _ _ _ _ _ _ _ t_l0 hr
noncomputable def ja_X9_arrive_L35 : Nat → Nat → Int → Int → Int → Int → Int → nk_S → Option (Int × nk_S)
  | 0, _, _, _, _, _, _, _ => none
  | n + 1, l0, l1, l2, l3, l4, l5, S => ja_X9_arrive_b35 (ja_X9_arrive_L35 n) l0 l1 l2 l3 l4 l5 S
theorem ja_X9_arrive_L35_ok (zs : List Int32) : ∀ n : Nat, ∀ (l0 : Nat) (l1 : Int) (l2 : Int) (l3 : Int) (l4 : Int) (l5 : Int) (S : nk_S) (R : Int × nk_S), nk_cl ja_Tt l0 = some 9 → ja_X9_arrive_L35 n l0 l1 l2 l3 l4 l5 S = some R → nk_K ja_Tt mi_Γ (mi_ev zs) 0 423 35 [(0, nk_r l0), (1, nk_i l1), (2, nk_i l2), (3, nk_i l3), (4, nk_i l4), (5, nk_i l5)] [] S R := by
  intro n
  induction n with
  | zero => intro _ _ _ _ _ _ _ _ _ hr; cases hr
  | succ n ih => intro l0 l1 l2 l3 l4 l5 S R t_l0 hr; exact ja_X9_arrive_b35_ok zs ih l0 l1 l2 l3 l4 l5 S R t_l0 hr
noncomputable def ja_X9_arrive (l0 : Nat) (l1 : Int) (l2 : Int) (l3 : Int) (S : nk_S) : Option (Int × nk_S) :=
  if l1 < 0 then
    some (0, S)
  else
    if l1 < (S.1 (S.2 l0 0) 3) then
      if 0 ≤ l1 ∧ l1 < 1024 then
      if (S.1 (ja_c l0 4) l1.toNat) = 0 then
        ja_X9_arrive_L35 nk_big l0 l1 l2 l3 1 0 S
      else
        ja_X9_arrive_L35 nk_big l0 l1 l2 l3 0 0 S
      else none
    else
      some (0, S)
theorem ja_X9_arrive_ok (zs : List Int32) : ∀ (l0 : Nat) (l1 : Int) (l2 : Int) (l3 : Int) (S : nk_S) (R : Int × nk_S), nk_cl ja_Tt l0 = some 9 → ja_X9_arrive l0 l1 l2 l3 S = some R → nk_K ja_Tt mi_Γ (mi_ev zs) 0 423 0 [(0, nk_r l0), (1, nk_i l1), (2, nk_i l2), (3, nk_i l3)] [] S R := by
  intro l0 l1 l2 l3 S R t_l0 hr
  unfold ja_X9_arrive at hr
  refine nk_p (i := .iload_n 1) (len := 1) (pc' := 1) mJ_423 (by decide +kernel) (ns_iload_n 1 rfl rfl) rfl ?_
  refine nk_icond (c := .lt) (off := 14) (len := 3) (t := 15) (pc' := 4) mJ_423 (by decide +kernel) (by decide +kernel) rfl (fun hc => ?_) (fun hc => ?_)
  · have hr := nk_ifp (c := l1 < 0) hc hr
    cases hr
    exact nk_vret (len := 1) mJ_423 (by decide +kernel) rfl
  · have hr := nk_ifn (c := l1 < 0) hc hr
    refine nk_p (i := .iload_n 1) (len := 1) (pc' := 5) mJ_423 (by decide +kernel) (ns_iload_n 1 rfl rfl) rfl ?_
    refine nk_p (i := .aload_n 0) (len := 1) (pc' := 6) mJ_423 (by decide +kernel) (ns_aload_n 0 rfl rfl) rfl ?_
    refine nk_getM (cj := 3) (z := 0) (x := 28) (len := 3) (ci := 9) (k := 0) (pc' := 9) ja_okT mJ_423 (by decide +kernel) (by decide +kernel) (by decide +kernel) t_l0 rfl (fun t1 => ?_)
    refine nk_getI (y := (0, 0)) (x := 119) (len := 3) (ci := 3) (k := 3) (pc' := 12) ja_okT mJ_423 (by decide +kernel) (by decide +kernel) (by decide +kernel) t1 rfl ?_
    refine nk_icmp (c := .lt) (off := 4) (len := 3) (t := 16) (pc' := 15) mJ_423 (by decide +kernel) (by decide +kernel) rfl (fun hc => ?_) (fun hc => ?_)
    · have hr := nk_ifp (c := l1 < (S.1 (S.2 l0 0) 3)) hc hr
      refine nk_p (i := .aload_n 0) (len := 1) (pc' := 17) mJ_423 (by decide +kernel) (ns_aload_n 0 rfl rfl) rfl ?_
      refine nk_getC (f := (4, 3, 1024)) (x := 18) (len := 3) (ci := 9) (k := 4) (pc' := 20) ja_okT mJ_423 (by decide +kernel) (by decide +kernel) (by decide +kernel) (by decide) t_l0 rfl ?_
      have t2 : nk_ar ja_Tt (ja_c l0 4) = some (3, 1024) := nk_ta ja_okT t_l0 (by decide +kernel)
      refine nk_p (i := .iload_n 1) (len := 1) (pc' := 21) mJ_423 (by decide +kernel) (ns_iload_n 1 rfl rfl) rfl ?_
      obtain ⟨h3, hr⟩ := nk_cke hr
      refine nk_bald (t := 3) (len := 1) (N := 1024) (pc' := 22) mJ_423 (by decide +kernel) t2 (by decide) h3.1 h3.2 rfl rfl ?_
      refine nk_icond (c := .ne) (off := 7) (len := 3) (t := 29) (pc' := 25) mJ_423 (by decide +kernel) (by decide +kernel) rfl (fun hc => ?_) (fun hc => ?_)
      · have hr := nk_ifn (c := (S.1 (ja_c l0 4) l1.toNat) = 0) hc hr
        refine nk_p (i := .iconst 0) (len := 1) (pc' := 30) mJ_423 (by decide +kernel) (ns_iconst (c := 0) (by decide +kernel)) rfl ?_
        refine nk_p (i := .istore 4) (len := 2) (pc' := 32) mJ_423 (by decide +kernel) (ns_istore (L' := [(4, nk_i 0), (0, nk_r l0), (1, nk_i l1), (2, nk_i l2), (3, nk_i l3)]) rfl rfl (by decide +kernel)) rfl ?_
        refine nk_p (i := .iconst 0) (len := 1) (pc' := 33) mJ_423 (by decide +kernel) (ns_iconst (c := 0) (by decide +kernel)) rfl ?_
        refine nk_p (i := .istore 5) (len := 2) (pc' := 35) mJ_423 (by decide +kernel) (ns_istore (L' := [(5, nk_i 0), (4, nk_i 0), (0, nk_r l0), (1, nk_i l1), (2, nk_i l2), (3, nk_i l3)]) rfl rfl (by decide +kernel)) rfl ?_
        refine nk_sub [2, 3, 4, 5, 1, 0] (L' := [(0, nk_r l0), (1, nk_i l1), (2, nk_i l2), (3, nk_i l3), (4, nk_i 0), (5, nk_i 0)]) rfl ?_
        exact ja_X9_arrive_L35_ok zs nk_big _ _ _ _ _ _ _ _ t_l0 hr
      · have hr := nk_ifp (c := (S.1 (ja_c l0 4) l1.toNat) = 0) (Decidable.of_not_not hc) hr
        refine nk_p (i := .iconst 1) (len := 1) (pc' := 26) mJ_423 (by decide +kernel) (ns_iconst (c := 1) (by decide +kernel)) rfl ?_
        refine nk_p (i := .goto 4) (len := 3) (pc' := 30) mJ_423 (by decide +kernel) (ns_goto (by decide +kernel)) rfl ?_
        refine nk_p (i := .istore 4) (len := 2) (pc' := 32) mJ_423 (by decide +kernel) (ns_istore (L' := [(4, nk_i 1), (0, nk_r l0), (1, nk_i l1), (2, nk_i l2), (3, nk_i l3)]) rfl rfl (by decide +kernel)) rfl ?_
        refine nk_p (i := .iconst 0) (len := 1) (pc' := 33) mJ_423 (by decide +kernel) (ns_iconst (c := 0) (by decide +kernel)) rfl ?_
        refine nk_p (i := .istore 5) (len := 2) (pc' := 35) mJ_423 (by decide +kernel) (ns_istore (L' := [(5, nk_i 0), (4, nk_i 1), (0, nk_r l0), (1, nk_i l1), (2, nk_i l2), (3, nk_i l3)]) rfl rfl (by decide +kernel)) rfl ?_
        refine nk_sub [2, 3, 4, 5, 1, 0] (L' := [(0, nk_r l0), (1, nk_i l1), (2, nk_i l2), (3, nk_i l3), (4, nk_i 1), (5, nk_i 0)]) rfl ?_
        exact ja_X9_arrive_L35_ok zs nk_big _ _ _ _ _ _ _ _ t_l0 hr
    · have hr := nk_ifn (c := l1 < (S.1 (S.2 l0 0) 3)) hc hr
      cases hr
      exact nk_vret (len := 1) mJ_423 (by decide +kernel) rfl
/-! SafeCode$Classes isArray (I)Z -/
noncomputable def ja_X1_isArray (l0 : Int) (S : nk_S) : Option (Int × nk_S) :=
  if l0 = 3 then
    some (1, S)
  else
    if l0 ≤ 4 then
      some (0, S)
    else
      if (nk_iand l0 1) = 1 then
        some (1, S)
      else
        some (0, S)
theorem ja_X1_isArray_ok (zs : List Int32) : ∀ (l0 : Int) (S : nk_S) (R : Int × nk_S), ja_X1_isArray l0 S = some R → nk_K ja_Tt mi_Γ (mi_ev zs) 1 255 0 [(0, nk_i l0)] [] S R := by
  intro l0 S R hr
  unfold ja_X1_isArray at hr
  refine nk_p (i := .iload_n 0) (len := 1) (pc' := 1) mJ_255 (by decide +kernel) (ns_iload_n 0 rfl rfl) rfl ?_
  refine nk_p (i := .iconst 3) (len := 1) (pc' := 2) mJ_255 (by decide +kernel) (ns_iconst (c := 3) (by decide +kernel)) rfl ?_
  refine nk_icmp (c := .eq) (off := 15) (len := 3) (t := 17) (pc' := 5) mJ_255 (by decide +kernel) (by decide +kernel) rfl (fun hc => ?_) (fun hc => ?_)
  · have hr := nk_ifp (c := l0 = 3) hc hr
    refine nk_p (i := .iconst 1) (len := 1) (pc' := 18) mJ_255 (by decide +kernel) (ns_iconst (c := 1) (by decide +kernel)) rfl ?_
    refine nk_p (i := .goto 4) (len := 3) (pc' := 22) mJ_255 (by decide +kernel) (ns_goto (by decide +kernel)) rfl ?_
    cases hr
    exact nk_iret (ty := .boolean) (len := 1) mJ_255 (by decide +kernel) rfl (nk_nar_z (by decide))
  · have hr := nk_ifn (c := l0 = 3) hc hr
    refine nk_p (i := .iload_n 0) (len := 1) (pc' := 6) mJ_255 (by decide +kernel) (ns_iload_n 0 rfl rfl) rfl ?_
    refine nk_p (i := .iconst 4) (len := 1) (pc' := 7) mJ_255 (by decide +kernel) (ns_iconst (c := 4) (by decide +kernel)) rfl ?_
    refine nk_icmp (c := .le) (off := 14) (len := 3) (t := 21) (pc' := 10) mJ_255 (by decide +kernel) (by decide +kernel) rfl (fun hc => ?_) (fun hc => ?_)
    · have hr := nk_ifp (c := l0 ≤ 4) hc hr
      refine nk_p (i := .iconst 0) (len := 1) (pc' := 22) mJ_255 (by decide +kernel) (ns_iconst (c := 0) (by decide +kernel)) rfl ?_
      cases hr
      exact nk_iret (ty := .boolean) (len := 1) mJ_255 (by decide +kernel) rfl (nk_nar_z (by decide))
    · have hr := nk_ifn (c := l0 ≤ 4) hc hr
      refine nk_p (i := .iload_n 0) (len := 1) (pc' := 11) mJ_255 (by decide +kernel) (ns_iload_n 0 rfl rfl) rfl ?_
      refine nk_p (i := .iconst 1) (len := 1) (pc' := 12) mJ_255 (by decide +kernel) (ns_iconst (c := 1) (by decide +kernel)) rfl ?_
      refine nk_p (i := .iand) (len := 1) (pc' := 13) mJ_255 (by decide +kernel) ns_iand rfl ?_
      refine nk_p (i := .iconst 1) (len := 1) (pc' := 14) mJ_255 (by decide +kernel) (ns_iconst (c := 1) (by decide +kernel)) rfl ?_
      refine nk_icmp (c := .ne) (off := 7) (len := 3) (t := 21) (pc' := 17) mJ_255 (by decide +kernel) (by decide +kernel) rfl (fun hc => ?_) (fun hc => ?_)
      · have hr := nk_ifn (c := (nk_iand l0 1) = 1) hc hr
        refine nk_p (i := .iconst 0) (len := 1) (pc' := 22) mJ_255 (by decide +kernel) (ns_iconst (c := 0) (by decide +kernel)) rfl ?_
        cases hr
        exact nk_iret (ty := .boolean) (len := 1) mJ_255 (by decide +kernel) rfl (nk_nar_z (by decide))
      · have hr := nk_ifp (c := (nk_iand l0 1) = 1) (Decidable.of_not_not hc) hr
        refine nk_p (i := .iconst 1) (len := 1) (pc' := 18) mJ_255 (by decide +kernel) (ns_iconst (c := 1) (by decide +kernel)) rfl ?_
        refine nk_p (i := .goto 4) (len := 3) (pc' := 22) mJ_255 (by decide +kernel) (ns_goto (by decide +kernel)) rfl ?_
        cases hr
        exact nk_iret (ty := .boolean) (len := 1) mJ_255 (by decide +kernel) rfl (nk_nar_z (by decide))
/-! SafeCode$Classes element (I)I -/
noncomputable def ja_X1_element (l0 : Int) (S : nk_S) : Option (Int × nk_S) :=
  if l0 = 3 then
    some (1, S)
  else
    some ((nk_w (l0 - 1)), S)
theorem ja_X1_element_ok (zs : List Int32) : ∀ (l0 : Int) (S : nk_S) (R : Int × nk_S), ja_X1_element l0 S = some R → nk_K ja_Tt mi_Γ (mi_ev zs) 1 251 0 [(0, nk_i l0)] [] S R := by
  intro l0 S R hr
  unfold ja_X1_element at hr
  refine nk_p (i := .iload_n 0) (len := 1) (pc' := 1) mJ_251 (by decide +kernel) (ns_iload_n 0 rfl rfl) rfl ?_
  refine nk_p (i := .iconst 3) (len := 1) (pc' := 2) mJ_251 (by decide +kernel) (ns_iconst (c := 3) (by decide +kernel)) rfl ?_
  refine nk_icmp (c := .ne) (off := 7) (len := 3) (t := 9) (pc' := 5) mJ_251 (by decide +kernel) (by decide +kernel) rfl (fun hc => ?_) (fun hc => ?_)
  · have hr := nk_ifn (c := l0 = 3) hc hr
    refine nk_p (i := .iload_n 0) (len := 1) (pc' := 10) mJ_251 (by decide +kernel) (ns_iload_n 0 rfl rfl) rfl ?_
    refine nk_p (i := .iconst 1) (len := 1) (pc' := 11) mJ_251 (by decide +kernel) (ns_iconst (c := 1) (by decide +kernel)) rfl ?_
    refine nk_p (i := .isub) (len := 1) (pc' := 12) mJ_251 (by decide +kernel) ns_isub rfl ?_
    cases hr
    exact nk_iret (ty := .int) (len := 1) mJ_251 (by decide +kernel) rfl (nk_nar_i _)
  · have hr := nk_ifp (c := l0 = 3) (Decidable.of_not_not hc) hr
    refine nk_p (i := .iconst 1) (len := 1) (pc' := 6) mJ_251 (by decide +kernel) (ns_iconst (c := 1) (by decide +kernel)) rfl ?_
    refine nk_p (i := .goto 6) (len := 3) (pc' := 12) mJ_251 (by decide +kernel) (ns_goto (by decide +kernel)) rfl ?_
    cases hr
    exact nk_iret (ty := .int) (len := 1) mJ_251 (by decide +kernel) rfl (nk_nar_i _)
/-! SafeCode$Types leftType (II)I -/
noncomputable def ja_X9_leftType_b109 (l0 : Nat) (l1 : Int) (S : nk_S) : Option (Int × nk_S) :=
  if 0 ≤ l1 ∧ l1 < 1024 then
  if 0 ≤ (S.1 (ja_c (S.2 l0 0) 6) l1.toNat) ∧ (S.1 (ja_c (S.2 l0 0) 6) l1.toNat) < 54 then
  some ((S.1 (ja_c (S.2 l0 0) 11) (S.1 (ja_c (S.2 l0 0) 6) l1.toNat).toNat), S)
  else none
  else none
theorem ja_X9_leftType_b109_ok (zs : List Int32) : ∀ (l0 : Nat) (l1 : Int) (S : nk_S) (R : Int × nk_S), nk_cl ja_Tt l0 = some 9 → ja_X9_leftType_b109 l0 l1 S = some R → nk_K ja_Tt mi_Γ (mi_ev zs) 1 428 109 [(0, nk_r l0), (1, nk_i l1)] [] S R := by
  intro l0 l1 S R t_l0 hr
  unfold ja_X9_leftType_b109 at hr
  refine nk_p (i := .aload_n 0) (len := 1) (pc' := 110) mJ_428 (by decide +kernel) (ns_aload_n 0 rfl rfl) rfl ?_
  refine nk_getM (cj := 3) (z := 0) (x := 28) (len := 3) (ci := 9) (k := 0) (pc' := 113) ja_okT mJ_428 (by decide +kernel) (by decide +kernel) (by decide +kernel) t_l0 rfl (fun t1 => ?_)
  refine nk_getC (f := (4, 1, 54)) (x := 172) (len := 3) (ci := 3) (k := 11) (pc' := 116) ja_okT mJ_428 (by decide +kernel) (by decide +kernel) (by decide +kernel) (by decide) t1 rfl ?_
  have t2 : nk_ar ja_Tt (ja_c (S.2 l0 0) 11) = some (1, 54) := nk_ta ja_okT t1 (by decide +kernel)
  refine nk_p (i := .aload_n 0) (len := 1) (pc' := 117) mJ_428 (by decide +kernel) (ns_aload_n 0 rfl rfl) rfl ?_
  refine nk_getM (cj := 3) (z := 0) (x := 28) (len := 3) (ci := 9) (k := 0) (pc' := 120) ja_okT mJ_428 (by decide +kernel) (by decide +kernel) (by decide +kernel) t_l0 rfl (fun t3 => ?_)
  refine nk_getC (f := (4, 1, 1024)) (x := 175) (len := 3) (ci := 3) (k := 6) (pc' := 123) ja_okT mJ_428 (by decide +kernel) (by decide +kernel) (by decide +kernel) (by decide) t3 rfl ?_
  have t4 : nk_ar ja_Tt (ja_c (S.2 l0 0) 6) = some (1, 1024) := nk_ta ja_okT t3 (by decide +kernel)
  refine nk_p (i := .iload_n 1) (len := 1) (pc' := 124) mJ_428 (by decide +kernel) (ns_iload_n 1 rfl rfl) rfl ?_
  obtain ⟨h5, hr⟩ := nk_cke hr
  refine nk_iald (len := 1) (N := 1024) (pc' := 125) mJ_428 (by decide +kernel) t4 h5.1 h5.2 rfl rfl ?_
  obtain ⟨h6, hr⟩ := nk_cke hr
  refine nk_iald (len := 1) (N := 54) (pc' := 126) mJ_428 (by decide +kernel) t2 h6.1 h6.2 rfl rfl ?_
  cases hr
  exact nk_iret (ty := .int) (len := 1) mJ_428 (by decide +kernel) rfl (nk_nar_i _)
noncomputable def ja_X9_leftType_b180 (l0 : Nat) (l3 : Int) (S : nk_S) : Option (Int × nk_S) :=
  if 0 ≤ l3 ∧ l3 < 48 then
  some ((S.1 (ja_c (ja_c (S.2 l0 0) 1) 7) l3.toNat), S)
  else none
theorem ja_X9_leftType_b180_ok (zs : List Int32) : ∀ (l0 : Nat) (l3 : Int) (S : nk_S) (R : Int × nk_S), nk_cl ja_Tt l0 = some 9 → ja_X9_leftType_b180 l0 l3 S = some R → nk_K ja_Tt mi_Γ (mi_ev zs) 1 428 180 [(0, nk_r l0), (3, nk_i l3)] [] S R := by
  intro l0 l3 S R t_l0 hr
  unfold ja_X9_leftType_b180 at hr
  refine nk_p (i := .aload_n 0) (len := 1) (pc' := 181) mJ_428 (by decide +kernel) (ns_aload_n 0 rfl rfl) rfl ?_
  refine nk_getM (cj := 3) (z := 0) (x := 28) (len := 3) (ci := 9) (k := 0) (pc' := 184) ja_okT mJ_428 (by decide +kernel) (by decide +kernel) (by decide +kernel) t_l0 rfl (fun t1 => ?_)
  refine nk_getC (f := (2, 0, 0)) (x := 39) (len := 3) (ci := 3) (k := 1) (pc' := 187) ja_okT mJ_428 (by decide +kernel) (by decide +kernel) (by decide +kernel) (by decide) t1 rfl ?_
  have t2 : nk_cl ja_Tt (ja_c (S.2 l0 0) 1) = some 0 := nk_tc (y := 0) ja_okT t1 (by decide +kernel)
  refine nk_getC (f := (4, 1, 48)) (x := 187) (len := 3) (ci := 0) (k := 7) (pc' := 190) ja_okT mJ_428 (by decide +kernel) (by decide +kernel) (by decide +kernel) (by decide) t2 rfl ?_
  have t3 : nk_ar ja_Tt (ja_c (ja_c (S.2 l0 0) 1) 7) = some (1, 48) := nk_ta ja_okT t2 (by decide +kernel)
  refine nk_p (i := .iload_n 3) (len := 1) (pc' := 191) mJ_428 (by decide +kernel) (ns_iload_n 1 rfl rfl) rfl ?_
  obtain ⟨h4, hr⟩ := nk_cke hr
  refine nk_iald (len := 1) (N := 48) (pc' := 192) mJ_428 (by decide +kernel) t3 h4.1 h4.2 rfl rfl ?_
  cases hr
  exact nk_iret (ty := .int) (len := 1) mJ_428 (by decide +kernel) rfl (nk_nar_i _)
noncomputable def ja_X9_leftType (l0 : Nat) (l1 : Int) (l2 : Int) (S : nk_S) : Option (Int × nk_S) :=
  if 0 ≤ l1 ∧ l1 < 1024 then
  nk_lt (S.1 (ja_c (S.2 l0 0) 5) l1.toNat) fun v4 =>
  nk_lt (S.1 (ja_c (S.2 l0 0) 4) l1.toNat) fun v8 =>
  if v8 = 1 then
    some (2, S)
  else
  if v8 = 2 then
    if 0 ≤ v4 ∧ v4 < 20 then
    some ((S.1 (ja_c l0 6) v4.toNat), S)
    else none
  else
  if v8 = 30 then
    ja_X9_leftType_b109 l0 l1 S
  else
  if v8 = 31 then
    ja_X9_leftType_b109 l0 l1 S
  else
  if v8 = 33 then
    if 0 ≤ l2 ∧ l2 < 20 then
    if (S.1 (ja_c l0 6) l2.toNat) = 2 then
      some ((-3), S)
    else
      nk_bd (ja_X1_isArray (S.1 (ja_c l0 6) l2.toNat) S) fun r14 S15 =>
      if r14 = 0 then
        some (0, S15)
      else
        nk_bd (ja_X1_element (S15.1 (ja_c l0 6) l2.toNat) S15) fun r17 S18 =>
        some (r17, S18)
    else none
  else
  if v8 = 35 then
    if 0 ≤ v4 ∧ v4 < 48 then
    some ((S.1 (ja_c (S.2 l0 1) 7) v4.toNat), S)
    else none
  else
  if v8 = 37 then
    some (v4, S)
  else
  if v8 = 39 then
    ja_X9_leftType_b180 l0 v4 S
  else
  if v8 = 40 then
    ja_X9_leftType_b180 l0 v4 S
  else
  some (1, S)
  else none
theorem ja_X9_leftType_ok (zs : List Int32) : ∀ (l0 : Nat) (l1 : Int) (l2 : Int) (S : nk_S) (R : Int × nk_S), nk_cl ja_Tt l0 = some 9 → ja_X9_leftType l0 l1 l2 S = some R → nk_K ja_Tt mi_Γ (mi_ev zs) 1 428 0 [(0, nk_r l0), (1, nk_i l1), (2, nk_i l2)] [] S R := by
  intro l0 l1 l2 S R t_l0 hr
  unfold ja_X9_leftType at hr
  refine nk_p (i := .aload_n 0) (len := 1) (pc' := 1) mJ_428 (by decide +kernel) (ns_aload_n 0 rfl rfl) rfl ?_
  refine nk_getM (cj := 3) (z := 0) (x := 28) (len := 3) (ci := 9) (k := 0) (pc' := 4) ja_okT mJ_428 (by decide +kernel) (by decide +kernel) (by decide +kernel) t_l0 rfl (fun t1 => ?_)
  refine nk_getC (f := (4, 1, 1024)) (x := 166) (len := 3) (ci := 3) (k := 5) (pc' := 7) ja_okT mJ_428 (by decide +kernel) (by decide +kernel) (by decide +kernel) (by decide) t1 rfl ?_
  have t2 : nk_ar ja_Tt (ja_c (S.2 l0 0) 5) = some (1, 1024) := nk_ta ja_okT t1 (by decide +kernel)
  refine nk_p (i := .iload_n 1) (len := 1) (pc' := 8) mJ_428 (by decide +kernel) (ns_iload_n 1 rfl rfl) rfl ?_
  obtain ⟨h3, hr⟩ := nk_cke hr
  refine nk_iald (len := 1) (N := 1024) (pc' := 9) mJ_428 (by decide +kernel) t2 h3.1 h3.2 rfl rfl ?_
  obtain ⟨v4, h5, hr⟩ := nk_lte hr
  refine nk_p (i := .istore_n 3) (len := 1) (pc' := 10) mJ_428 (by decide +kernel) (ns_istore_n (L' := [(3, nk_i v4), (0, nk_r l0), (1, nk_i l1), (2, nk_i l2)]) h5 rfl rfl (by decide +kernel)) rfl ?_
  refine nk_p (i := .aload_n 0) (len := 1) (pc' := 11) mJ_428 (by decide +kernel) (ns_aload_n 1 rfl rfl) rfl ?_
  refine nk_getM (cj := 3) (z := 0) (x := 28) (len := 3) (ci := 9) (k := 0) (pc' := 14) ja_okT mJ_428 (by decide +kernel) (by decide +kernel) (by decide +kernel) t_l0 rfl (fun t6 => ?_)
  refine nk_getC (f := (4, 1, 1024)) (x := 163) (len := 3) (ci := 3) (k := 4) (pc' := 17) ja_okT mJ_428 (by decide +kernel) (by decide +kernel) (by decide +kernel) (by decide) t6 rfl ?_
  have t7 : nk_ar ja_Tt (ja_c (S.2 l0 0) 4) = some (1, 1024) := nk_ta ja_okT t6 (by decide +kernel)
  refine nk_p (i := .iload_n 1) (len := 1) (pc' := 18) mJ_428 (by decide +kernel) (ns_iload_n 2 rfl rfl) rfl ?_
  refine nk_iald (len := 1) (N := 1024) (pc' := 19) mJ_428 (by decide +kernel) t7 h3.1 h3.2 rfl rfl ?_
  obtain ⟨v8, h9, hr⟩ := nk_lte hr
  rw [← h9]
  by_cases hc0 : v8 = 1
  · have hr := nk_ifp hc0 hr
    refine nk_p (i := .lookupswitch 174 #[(1, 81), (2, 83), (30, 90), (31, 90), (33, 108), (35, 149), (37, 159), (39, 161), (40, 161)]) (len := 81) (pc' := 100) mJ_428 (by decide +kernel) (ns_lsw (V := 1) hc0 (by decide +kernel) (by decide +kernel)) rfl ?_
    refine nk_p (i := .iconst 2) (len := 1) (pc' := 101) mJ_428 (by decide +kernel) (ns_iconst (c := 2) (by decide +kernel)) rfl ?_
    cases hr
    exact nk_iret (ty := .int) (len := 1) mJ_428 (by decide +kernel) rfl (nk_nar_i _)
  have hr := nk_ifn hc0 hr
  by_cases hc1 : v8 = 2
  · have hr := nk_ifp hc1 hr
    refine nk_p (i := .lookupswitch 174 #[(1, 81), (2, 83), (30, 90), (31, 90), (33, 108), (35, 149), (37, 159), (39, 161), (40, 161)]) (len := 81) (pc' := 102) mJ_428 (by decide +kernel) (ns_lsw (V := 2) hc1 (by decide +kernel) (by decide +kernel)) rfl ?_
    refine nk_p (i := .aload_n 0) (len := 1) (pc' := 103) mJ_428 (by decide +kernel) (ns_aload_n 1 rfl rfl) rfl ?_
    refine nk_getC (f := (4, 1, 20)) (x := 25) (len := 3) (ci := 9) (k := 6) (pc' := 106) ja_okT mJ_428 (by decide +kernel) (by decide +kernel) (by decide +kernel) (by decide) t_l0 rfl ?_
    have t10 : nk_ar ja_Tt (ja_c l0 6) = some (1, 20) := nk_ta ja_okT t_l0 (by decide +kernel)
    refine nk_p (i := .iload_n 3) (len := 1) (pc' := 107) mJ_428 (by decide +kernel) (ns_iload_n 0 rfl rfl) rfl ?_
    obtain ⟨h11, hr⟩ := nk_cke hr
    refine nk_iald (len := 1) (N := 20) (pc' := 108) mJ_428 (by decide +kernel) t10 h11.1 h11.2 rfl rfl ?_
    cases hr
    exact nk_iret (ty := .int) (len := 1) mJ_428 (by decide +kernel) rfl (nk_nar_i _)
  have hr := nk_ifn hc1 hr
  by_cases hc2 : v8 = 30
  · have hr := nk_ifp hc2 hr
    refine nk_p (i := .lookupswitch 174 #[(1, 81), (2, 83), (30, 90), (31, 90), (33, 108), (35, 149), (37, 159), (39, 161), (40, 161)]) (len := 81) (pc' := 109) mJ_428 (by decide +kernel) (ns_lsw (V := 30) hc2 (by decide +kernel) (by decide +kernel)) rfl ?_
    refine nk_sub [1, 2] (L' := [(0, nk_r l0), (1, nk_i l1)]) rfl ?_
    exact ja_X9_leftType_b109_ok zs _ _ _ _ t_l0 hr
  have hr := nk_ifn hc2 hr
  by_cases hc3 : v8 = 31
  · have hr := nk_ifp hc3 hr
    refine nk_p (i := .lookupswitch 174 #[(1, 81), (2, 83), (30, 90), (31, 90), (33, 108), (35, 149), (37, 159), (39, 161), (40, 161)]) (len := 81) (pc' := 109) mJ_428 (by decide +kernel) (ns_lsw (V := 31) hc3 (by decide +kernel) (by decide +kernel)) rfl ?_
    refine nk_sub [1, 2] (L' := [(0, nk_r l0), (1, nk_i l1)]) rfl ?_
    exact ja_X9_leftType_b109_ok zs _ _ _ _ t_l0 hr
  have hr := nk_ifn hc3 hr
  by_cases hc4 : v8 = 33
  · have hr := nk_ifp hc4 hr
    refine nk_p (i := .lookupswitch 174 #[(1, 81), (2, 83), (30, 90), (31, 90), (33, 108), (35, 149), (37, 159), (39, 161), (40, 161)]) (len := 81) (pc' := 127) mJ_428 (by decide +kernel) (ns_lsw (V := 33) hc4 (by decide +kernel) (by decide +kernel)) rfl ?_
    refine nk_p (i := .aload_n 0) (len := 1) (pc' := 128) mJ_428 (by decide +kernel) (ns_aload_n 1 rfl rfl) rfl ?_
    refine nk_getC (f := (4, 1, 20)) (x := 25) (len := 3) (ci := 9) (k := 6) (pc' := 131) ja_okT mJ_428 (by decide +kernel) (by decide +kernel) (by decide +kernel) (by decide) t_l0 rfl ?_
    have t12 : nk_ar ja_Tt (ja_c l0 6) = some (1, 20) := nk_ta ja_okT t_l0 (by decide +kernel)
    refine nk_p (i := .iload_n 2) (len := 1) (pc' := 132) mJ_428 (by decide +kernel) (ns_iload_n 3 rfl rfl) rfl ?_
    obtain ⟨h13, hr⟩ := nk_cke hr
    refine nk_iald (len := 1) (N := 20) (pc' := 133) mJ_428 (by decide +kernel) t12 h13.1 h13.2 rfl rfl ?_
    refine nk_p (i := .iconst 2) (len := 1) (pc' := 134) mJ_428 (by decide +kernel) (ns_iconst (c := 2) (by decide +kernel)) rfl ?_
    refine nk_icmp (c := .ne) (off := 8) (len := 3) (t := 142) (pc' := 137) mJ_428 (by decide +kernel) (by decide +kernel) rfl (fun hc => ?_) (fun hc => ?_)
    · have hr := nk_ifn (c := (S.1 (ja_c l0 6) l2.toNat) = 2) hc hr
      refine nk_p (i := .aload_n 0) (len := 1) (pc' := 143) mJ_428 (by decide +kernel) (ns_aload_n 1 rfl rfl) rfl ?_
      refine nk_getC (f := (4, 1, 20)) (x := 25) (len := 3) (ci := 9) (k := 6) (pc' := 146) ja_okT mJ_428 (by decide +kernel) (by decide +kernel) (by decide +kernel) (by decide) t_l0 rfl ?_
      refine nk_p (i := .iload_n 2) (len := 1) (pc' := 147) mJ_428 (by decide +kernel) (ns_iload_n 3 rfl rfl) rfl ?_
      refine nk_iald (len := 1) (N := 20) (pc' := 148) mJ_428 (by decide +kernel) t12 h13.1 h13.2 rfl rfl ?_
      obtain ⟨r14, S15, h16, hr⟩ := nk_bde hr
      refine nk_callS (ci := 0) (n := 1) (x := 178) (len := 3) (j' := 255) (q' := 1) (r := r14) (S' := S15) (L2 := [(0, nk_i (S.1 (ja_c l0 6) l2.toNat))]) (rest := []) (st' := [nk_i r14]) (pc' := 151) mJ_428 (by decide +kernel) (by decide +kernel) (Nat.le_of_ble_eq_true rfl) rfl rfl (Nat.le_of_ble_eq_true rfl) mJ_255 (Nat.le_of_ble_eq_true rfl) ja_Tpos rfl (ja_X1_isArray_ok zs _ _ _ h16) rfl ?_
      refine nk_icond (c := .eq) (off := 15) (len := 3) (t := 166) (pc' := 154) mJ_428 (by decide +kernel) (by decide +kernel) rfl (fun hc => ?_) (fun hc => ?_)
      · have hr := nk_ifp (c := r14 = 0) hc hr
        refine nk_p (i := .iconst 0) (len := 1) (pc' := 167) mJ_428 (by decide +kernel) (ns_iconst (c := 0) (by decide +kernel)) rfl ?_
        cases hr
        exact nk_iret (ty := .int) (len := 1) mJ_428 (by decide +kernel) rfl (nk_nar_i _)
      · have hr := nk_ifn (c := r14 = 0) hc hr
        refine nk_p (i := .aload_n 0) (len := 1) (pc' := 155) mJ_428 (by decide +kernel) (ns_aload_n 1 rfl rfl) rfl ?_
        refine nk_getC (f := (4, 1, 20)) (x := 25) (len := 3) (ci := 9) (k := 6) (pc' := 158) ja_okT mJ_428 (by decide +kernel) (by decide +kernel) (by decide +kernel) (by decide) t_l0 rfl ?_
        refine nk_p (i := .iload_n 2) (len := 1) (pc' := 159) mJ_428 (by decide +kernel) (ns_iload_n 3 rfl rfl) rfl ?_
        refine nk_iald (len := 1) (N := 20) (pc' := 160) mJ_428 (by decide +kernel) t12 h13.1 h13.2 rfl rfl ?_
        obtain ⟨r17, S18, h19, hr⟩ := nk_bde hr
        refine nk_callS (ci := 0) (n := 1) (x := 181) (len := 3) (j' := 251) (q' := 1) (r := r17) (S' := S18) (L2 := [(0, nk_i (S15.1 (ja_c l0 6) l2.toNat))]) (rest := []) (st' := [nk_i r17]) (pc' := 163) mJ_428 (by decide +kernel) (by decide +kernel) (Nat.le_of_ble_eq_true rfl) rfl rfl (Nat.le_of_ble_eq_true rfl) mJ_251 (Nat.le_of_ble_eq_true rfl) ja_Tpos rfl (ja_X1_element_ok zs _ _ _ h19) rfl ?_
        refine nk_p (i := .goto 4) (len := 3) (pc' := 167) mJ_428 (by decide +kernel) (ns_goto (by decide +kernel)) rfl ?_
        cases hr
        exact nk_iret (ty := .int) (len := 1) mJ_428 (by decide +kernel) rfl (nk_nar_i _)
    · have hr := nk_ifp (c := (S.1 (ja_c l0 6) l2.toNat) = 2) (Decidable.of_not_not hc) hr
      refine nk_p (i := .bipush (-3)) (len := 2) (pc' := 139) mJ_428 (by decide +kernel) (ns_bipush (c := (-3)) (by decide +kernel)) rfl ?_
      refine nk_p (i := .goto 28) (len := 3) (pc' := 167) mJ_428 (by decide +kernel) (ns_goto (by decide +kernel)) rfl ?_
      cases hr
      exact nk_iret (ty := .int) (len := 1) mJ_428 (by decide +kernel) rfl (nk_nar_i _)
  have hr := nk_ifn hc4 hr
  by_cases hc5 : v8 = 35
  · have hr := nk_ifp hc5 hr
    refine nk_p (i := .lookupswitch 174 #[(1, 81), (2, 83), (30, 90), (31, 90), (33, 108), (35, 149), (37, 159), (39, 161), (40, 161)]) (len := 81) (pc' := 168) mJ_428 (by decide +kernel) (ns_lsw (V := 35) hc5 (by decide +kernel) (by decide +kernel)) rfl ?_
    refine nk_p (i := .aload_n 0) (len := 1) (pc' := 169) mJ_428 (by decide +kernel) (ns_aload_n 1 rfl rfl) rfl ?_
    refine nk_getM (cj := 1) (z := 0) (x := 38) (len := 3) (ci := 9) (k := 1) (pc' := 172) ja_okT mJ_428 (by decide +kernel) (by decide +kernel) (by decide +kernel) t_l0 rfl (fun t20 => ?_)
    refine nk_getC (f := (4, 1, 48)) (x := 184) (len := 3) (ci := 1) (k := 7) (pc' := 175) ja_okT mJ_428 (by decide +kernel) (by decide +kernel) (by decide +kernel) (by decide) t20 rfl ?_
    have t21 : nk_ar ja_Tt (ja_c (S.2 l0 1) 7) = some (1, 48) := nk_ta ja_okT t20 (by decide +kernel)
    refine nk_p (i := .iload_n 3) (len := 1) (pc' := 176) mJ_428 (by decide +kernel) (ns_iload_n 0 rfl rfl) rfl ?_
    obtain ⟨h22, hr⟩ := nk_cke hr
    refine nk_iald (len := 1) (N := 48) (pc' := 177) mJ_428 (by decide +kernel) t21 h22.1 h22.2 rfl rfl ?_
    cases hr
    exact nk_iret (ty := .int) (len := 1) mJ_428 (by decide +kernel) rfl (nk_nar_i _)
  have hr := nk_ifn hc5 hr
  by_cases hc6 : v8 = 37
  · have hr := nk_ifp hc6 hr
    refine nk_p (i := .lookupswitch 174 #[(1, 81), (2, 83), (30, 90), (31, 90), (33, 108), (35, 149), (37, 159), (39, 161), (40, 161)]) (len := 81) (pc' := 178) mJ_428 (by decide +kernel) (ns_lsw (V := 37) hc6 (by decide +kernel) (by decide +kernel)) rfl ?_
    refine nk_p (i := .iload_n 3) (len := 1) (pc' := 179) mJ_428 (by decide +kernel) (ns_iload_n 0 rfl rfl) rfl ?_
    cases hr
    exact nk_iret (ty := .int) (len := 1) mJ_428 (by decide +kernel) rfl (nk_nar_i _)
  have hr := nk_ifn hc6 hr
  by_cases hc7 : v8 = 39
  · have hr := nk_ifp hc7 hr
    refine nk_p (i := .lookupswitch 174 #[(1, 81), (2, 83), (30, 90), (31, 90), (33, 108), (35, 149), (37, 159), (39, 161), (40, 161)]) (len := 81) (pc' := 180) mJ_428 (by decide +kernel) (ns_lsw (V := 39) hc7 (by decide +kernel) (by decide +kernel)) rfl ?_
    refine nk_sub [1, 0] (L' := [(0, nk_r l0), (3, nk_i v4)]) rfl ?_
    exact ja_X9_leftType_b180_ok zs _ _ _ _ t_l0 hr
  have hr := nk_ifn hc7 hr
  by_cases hc8 : v8 = 40
  · have hr := nk_ifp hc8 hr
    refine nk_p (i := .lookupswitch 174 #[(1, 81), (2, 83), (30, 90), (31, 90), (33, 108), (35, 149), (37, 159), (39, 161), (40, 161)]) (len := 81) (pc' := 180) mJ_428 (by decide +kernel) (ns_lsw (V := 40) hc8 (by decide +kernel) (by decide +kernel)) rfl ?_
    refine nk_sub [1, 0] (L' := [(0, nk_r l0), (3, nk_i v4)]) rfl ?_
    exact ja_X9_leftType_b180_ok zs _ _ _ _ t_l0 hr
  have hr := nk_ifn hc8 hr
  refine nk_p (i := .lookupswitch 174 #[(1, 81), (2, 83), (30, 90), (31, 90), (33, 108), (35, 149), (37, 159), (39, 161), (40, 161)]) (len := 81) (pc' := 193) mJ_428 (by decide +kernel) (ns_lsd (by decide +kernel) (by simp only [List.forall_mem_cons]; exact ⟨fun e => hc0 e.symm, fun e => hc1 e.symm, fun e => hc2 e.symm, fun e => hc3 e.symm, fun e => hc4 e.symm, fun e => hc5 e.symm, fun e => hc6 e.symm, fun e => hc7 e.symm, fun e => hc8 e.symm, fun _ h => (by cases h)⟩) (by decide +kernel)) rfl ?_
  refine nk_p (i := .iconst 1) (len := 1) (pc' := 194) mJ_428 (by decide +kernel) (ns_iconst (c := 1) (by decide +kernel)) rfl ?_
  cases hr
  exact nk_iret (ty := .int) (len := 1) mJ_428 (by decide +kernel) rfl (nk_nar_i _)
/-! SafeCode$Types perform (I)Z -/
noncomputable def ja_X9_perform_b138 (l0 : Nat) (l1 : Int) (l3 : Int) (S : nk_S) : Option (Int × nk_S) :=
  nk_bd (ja_X3_leaves (S.2 l0 0) l1 S) fun r2 S3 =>
  if r2 = 0 then
    some (1, S3)
  else
    nk_bd (ja_X9_leftType l0 l1 l3 S3) fun r6 S7 =>
    if 0 ≤ l3 ∧ l3 < 20 then
    nk_lt (nk_wi S7 (ja_c l0 6) l3.toNat r6) fun S10 =>
    if (S10.1 (ja_c l0 6) l3.toNat) = (-3) then
      some (0, S10)
    else
      some (1, S10)
    else none
theorem ja_X9_perform_b138_ok (zs : List Int32) : ∀ (l0 : Nat) (l1 : Int) (l3 : Int) (S : nk_S) (R : Int × nk_S), nk_cl ja_Tt l0 = some 9 → ja_X9_perform_b138 l0 l1 l3 S = some R → nk_K ja_Tt mi_Γ (mi_ev zs) 1 429 138 [(0, nk_r l0), (1, nk_i l1), (3, nk_i l3)] [] S R := by
  intro l0 l1 l3 S R t_l0 hr
  unfold ja_X9_perform_b138 at hr
  refine nk_p (i := .aload_n 0) (len := 1) (pc' := 139) mJ_429 (by decide +kernel) (ns_aload_n 0 rfl rfl) rfl ?_
  refine nk_getM (cj := 3) (z := 0) (x := 28) (len := 3) (ci := 9) (k := 0) (pc' := 142) ja_okT mJ_429 (by decide +kernel) (by decide +kernel) (by decide +kernel) t_l0 rfl (fun t1 => ?_)
  refine nk_p (i := .iload_n 1) (len := 1) (pc' := 143) mJ_429 (by decide +kernel) (ns_iload_n 1 rfl rfl) rfl ?_
  obtain ⟨r2, S3, h4, hr⟩ := nk_bde hr
  refine nk_callV (ci := 3) (n := 1) (x := 86) (len := 3) (j' := 306) (q' := 1) (r := r2) (S' := S3) (L2 := [(0, nk_r (S.2 l0 0)), (1, nk_i l1)]) (rest := []) (st' := [nk_i r2]) (pc' := 146) mJ_429 (by decide +kernel) (by decide +kernel) rfl rfl t1 (Nat.le_of_ble_eq_true rfl) mJ_306 (Nat.le_of_ble_eq_true rfl) rfl (ja_X3_leaves_ok zs _ _ _ _ t1 h4) rfl ?_
  refine nk_icond (c := .ne) (off := 5) (len := 3) (t := 151) (pc' := 149) mJ_429 (by decide +kernel) (by decide +kernel) rfl (fun hc => ?_) (fun hc => ?_)
  · have hr := nk_ifn (c := r2 = 0) hc hr
    refine nk_p (i := .aload_n 0) (len := 1) (pc' := 152) mJ_429 (by decide +kernel) (ns_aload_n 0 rfl rfl) rfl ?_
    refine nk_getC (f := (4, 1, 20)) (x := 25) (len := 3) (ci := 9) (k := 6) (pc' := 155) ja_okT mJ_429 (by decide +kernel) (by decide +kernel) (by decide +kernel) (by decide) t_l0 rfl ?_
    have t5 : nk_ar ja_Tt (ja_c l0 6) = some (1, 20) := nk_ta ja_okT t_l0 (by decide +kernel)
    refine nk_p (i := .iload_n 3) (len := 1) (pc' := 156) mJ_429 (by decide +kernel) (ns_iload_n 2 rfl rfl) rfl ?_
    refine nk_p (i := .aload_n 0) (len := 1) (pc' := 157) mJ_429 (by decide +kernel) (ns_aload_n 0 rfl rfl) rfl ?_
    refine nk_p (i := .iload_n 1) (len := 1) (pc' := 158) mJ_429 (by decide +kernel) (ns_iload_n 1 rfl rfl) rfl ?_
    refine nk_p (i := .iload_n 3) (len := 1) (pc' := 159) mJ_429 (by decide +kernel) (ns_iload_n 2 rfl rfl) rfl ?_
    obtain ⟨r6, S7, h8, hr⟩ := nk_bde hr
    refine nk_callV (ci := 9) (n := 2) (x := 169) (len := 3) (j' := 428) (q' := 1) (r := r6) (S' := S7) (L2 := [(0, nk_r l0), (1, nk_i l1), (2, nk_i l3)]) (rest := [nk_i l3, nk_r (ja_c l0 6)]) (st' := [nk_i r6, nk_i l3, nk_r (ja_c l0 6)]) (pc' := 162) mJ_429 (by decide +kernel) (by decide +kernel) rfl rfl t_l0 (Nat.le_of_ble_eq_true rfl) mJ_428 (Nat.le_of_ble_eq_true rfl) rfl (ja_X9_leftType_ok zs _ _ _ _ _ t_l0 h8) rfl ?_
    obtain ⟨h9, hr⟩ := nk_cke hr
    obtain ⟨S10, h11, hr⟩ := nk_lte hr
    refine nk_iast (len := 1) (N := 20) (pc' := 163) mJ_429 (by decide +kernel) t5 h9.1 h9.2 rfl rfl h11 ?_
    refine nk_p (i := .aload_n 0) (len := 1) (pc' := 164) mJ_429 (by decide +kernel) (ns_aload_n 0 rfl rfl) rfl ?_
    refine nk_getC (f := (4, 1, 20)) (x := 25) (len := 3) (ci := 9) (k := 6) (pc' := 167) ja_okT mJ_429 (by decide +kernel) (by decide +kernel) (by decide +kernel) (by decide) t_l0 rfl ?_
    refine nk_p (i := .iload_n 3) (len := 1) (pc' := 168) mJ_429 (by decide +kernel) (ns_iload_n 2 rfl rfl) rfl ?_
    refine nk_iald (len := 1) (N := 20) (pc' := 169) mJ_429 (by decide +kernel) t5 h9.1 h9.2 rfl rfl ?_
    refine nk_p (i := .bipush (-3)) (len := 2) (pc' := 171) mJ_429 (by decide +kernel) (ns_bipush (c := (-3)) (by decide +kernel)) rfl ?_
    refine nk_icmp (c := .eq) (off := 7) (len := 3) (t := 178) (pc' := 174) mJ_429 (by decide +kernel) (by decide +kernel) rfl (fun hc => ?_) (fun hc => ?_)
    · have hr := nk_ifp (c := (S10.1 (ja_c l0 6) l3.toNat) = (-3)) hc hr
      refine nk_p (i := .iconst 0) (len := 1) (pc' := 179) mJ_429 (by decide +kernel) (ns_iconst (c := 0) (by decide +kernel)) rfl ?_
      cases hr
      exact nk_iret (ty := .boolean) (len := 1) mJ_429 (by decide +kernel) rfl (nk_nar_z (by decide))
    · have hr := nk_ifn (c := (S10.1 (ja_c l0 6) l3.toNat) = (-3)) hc hr
      refine nk_p (i := .iconst 1) (len := 1) (pc' := 175) mJ_429 (by decide +kernel) (ns_iconst (c := 1) (by decide +kernel)) rfl ?_
      refine nk_p (i := .goto 4) (len := 3) (pc' := 179) mJ_429 (by decide +kernel) (ns_goto (by decide +kernel)) rfl ?_
      cases hr
      exact nk_iret (ty := .boolean) (len := 1) mJ_429 (by decide +kernel) rfl (nk_nar_z (by decide))
  · have hr := nk_ifp (c := r2 = 0) (Decidable.of_not_not hc) hr
    refine nk_p (i := .iconst 1) (len := 1) (pc' := 150) mJ_429 (by decide +kernel) (ns_iconst (c := 1) (by decide +kernel)) rfl ?_
    cases hr
    exact nk_iret (ty := .boolean) (len := 1) mJ_429 (by decide +kernel) rfl (nk_nar_z (by decide))
noncomputable def ja_X9_perform (l0 : Nat) (l1 : Int) (S : nk_S) : Option (Int × nk_S) :=
  if 0 ≤ l1 ∧ l1 < 1024 then
  nk_lt (nk_w (12 + (S.1 (ja_c (S.2 l0 0) 9) l1.toNat))) fun v4 =>
  nk_bd (ja_X3_takes (S.2 l0 0) l1 S) fun r7 S8 =>
  nk_lt (nk_w (v4 - r7)) fun v10 =>
  nk_lt (S8.1 (ja_c (S8.2 l0 0) 4) l1.toNat) fun v14 =>
  if v14 = 3 then
    if 0 ≤ v10 ∧ v10 < 20 then
    if 0 ≤ (S8.1 (ja_c (S8.2 l0 0) 5) l1.toNat) ∧ (S8.1 (ja_c (S8.2 l0 0) 5) l1.toNat) < 20 then
    nk_lt (nk_wi S8 (ja_c l0 6) (S8.1 (ja_c (S8.2 l0 0) 5) l1.toNat).toNat (S8.1 (ja_c l0 6) v10.toNat)) fun S21 =>
    some (1, S21)
    else none
    else none
  else
  if v14 = 4 then
    ja_X9_perform_b138 l0 l1 v10 S8
  else
  if v14 = 5 then
    if 0 ≤ v10 ∧ v10 < 20 then
    if 0 ≤ v4 ∧ v4 < 20 then
    nk_lt (nk_wi S8 (ja_c l0 6) v4.toNat (S8.1 (ja_c l0 6) v10.toNat)) fun S26 =>
    some (1, S26)
    else none
    else none
  else
  if v14 = 6 then
    ja_X9_perform_b138 l0 l1 v10 S8
  else
  if v14 = 7 then
    if 0 ≤ v10 ∧ v10 < 20 then
    nk_lt (S8.1 (ja_c l0 6) v10.toNat) fun v30 =>
    if 0 ≤ (nk_w (v10 + 1)) ∧ (nk_w (v10 + 1)) < 20 then
    nk_lt (nk_wi S8 (ja_c l0 6) v10.toNat (S8.1 (ja_c l0 6) (nk_w (v10 + 1)).toNat)) fun S33 =>
    nk_lt (nk_wi S33 (ja_c l0 6) (nk_w (v10 + 1)).toNat v30) fun S35 =>
    some (1, S35)
    else none
    else none
  else
  ja_X9_perform_b138 l0 l1 v10 S8
  else none
theorem ja_X9_perform_ok (zs : List Int32) : ∀ (l0 : Nat) (l1 : Int) (S : nk_S) (R : Int × nk_S), nk_cl ja_Tt l0 = some 9 → ja_X9_perform l0 l1 S = some R → nk_K ja_Tt mi_Γ (mi_ev zs) 1 429 0 [(0, nk_r l0), (1, nk_i l1)] [] S R := by
  intro l0 l1 S R t_l0 hr
  unfold ja_X9_perform at hr
  refine nk_p (i := .bipush 12) (len := 2) (pc' := 2) mJ_429 (by decide +kernel) (ns_bipush (c := 12) (by decide +kernel)) rfl ?_
  refine nk_p (i := .aload_n 0) (len := 1) (pc' := 3) mJ_429 (by decide +kernel) (ns_aload_n 0 rfl rfl) rfl ?_
  refine nk_getM (cj := 3) (z := 0) (x := 28) (len := 3) (ci := 9) (k := 0) (pc' := 6) ja_okT mJ_429 (by decide +kernel) (by decide +kernel) (by decide +kernel) t_l0 rfl (fun t1 => ?_)
  refine nk_getC (f := (4, 1, 1024)) (x := 80) (len := 3) (ci := 3) (k := 9) (pc' := 9) ja_okT mJ_429 (by decide +kernel) (by decide +kernel) (by decide +kernel) (by decide) t1 rfl ?_
  have t2 : nk_ar ja_Tt (ja_c (S.2 l0 0) 9) = some (1, 1024) := nk_ta ja_okT t1 (by decide +kernel)
  refine nk_p (i := .iload_n 1) (len := 1) (pc' := 10) mJ_429 (by decide +kernel) (ns_iload_n 1 rfl rfl) rfl ?_
  obtain ⟨h3, hr⟩ := nk_cke hr
  refine nk_iald (len := 1) (N := 1024) (pc' := 11) mJ_429 (by decide +kernel) t2 h3.1 h3.2 rfl rfl ?_
  refine nk_p (i := .iadd) (len := 1) (pc' := 12) mJ_429 (by decide +kernel) ns_iadd rfl ?_
  obtain ⟨v4, h5, hr⟩ := nk_lte hr
  refine nk_p (i := .istore_n 2) (len := 1) (pc' := 13) mJ_429 (by decide +kernel) (ns_istore_n (L' := [(2, nk_i v4), (0, nk_r l0), (1, nk_i l1)]) h5 rfl rfl (by decide +kernel)) rfl ?_
  refine nk_p (i := .iload_n 2) (len := 1) (pc' := 14) mJ_429 (by decide +kernel) (ns_iload_n 0 rfl rfl) rfl ?_
  refine nk_p (i := .aload_n 0) (len := 1) (pc' := 15) mJ_429 (by decide +kernel) (ns_aload_n 1 rfl rfl) rfl ?_
  refine nk_getM (cj := 3) (z := 0) (x := 28) (len := 3) (ci := 9) (k := 0) (pc' := 18) ja_okT mJ_429 (by decide +kernel) (by decide +kernel) (by decide +kernel) t_l0 rfl (fun t6 => ?_)
  refine nk_p (i := .iload_n 1) (len := 1) (pc' := 19) mJ_429 (by decide +kernel) (ns_iload_n 2 rfl rfl) rfl ?_
  obtain ⟨r7, S8, h9, hr⟩ := nk_bde hr
  refine nk_callV (ci := 3) (n := 1) (x := 89) (len := 3) (j' := 308) (q' := 1) (r := r7) (S' := S8) (L2 := [(0, nk_r (S.2 l0 0)), (1, nk_i l1)]) (rest := [nk_i v4]) (st' := [nk_i r7, nk_i v4]) (pc' := 22) mJ_429 (by decide +kernel) (by decide +kernel) rfl rfl t6 (Nat.le_of_ble_eq_true rfl) mJ_308 (Nat.le_of_ble_eq_true rfl) rfl (ja_X3_takes_ok zs _ _ _ _ t6 h9) rfl ?_
  refine nk_p (i := .isub) (len := 1) (pc' := 23) mJ_429 (by decide +kernel) ns_isub rfl ?_
  obtain ⟨v10, h11, hr⟩ := nk_lte hr
  refine nk_p (i := .istore_n 3) (len := 1) (pc' := 24) mJ_429 (by decide +kernel) (ns_istore_n (L' := [(3, nk_i v10), (2, nk_i v4), (0, nk_r l0), (1, nk_i l1)]) h11 rfl rfl (by decide +kernel)) rfl ?_
  refine nk_p (i := .aload_n 0) (len := 1) (pc' := 25) mJ_429 (by decide +kernel) (ns_aload_n 2 rfl rfl) rfl ?_
  refine nk_getM (cj := 3) (z := 0) (x := 28) (len := 3) (ci := 9) (k := 0) (pc' := 28) ja_okT mJ_429 (by decide +kernel) (by decide +kernel) (by decide +kernel) t_l0 rfl (fun t12 => ?_)
  refine nk_getC (f := (4, 1, 1024)) (x := 163) (len := 3) (ci := 3) (k := 4) (pc' := 31) ja_okT mJ_429 (by decide +kernel) (by decide +kernel) (by decide +kernel) (by decide) t12 rfl ?_
  have t13 : nk_ar ja_Tt (ja_c (S8.2 l0 0) 4) = some (1, 1024) := nk_ta ja_okT t12 (by decide +kernel)
  refine nk_p (i := .iload_n 1) (len := 1) (pc' := 32) mJ_429 (by decide +kernel) (ns_iload_n 3 rfl rfl) rfl ?_
  refine nk_iald (len := 1) (N := 1024) (pc' := 33) mJ_429 (by decide +kernel) t13 h3.1 h3.2 rfl rfl ?_
  obtain ⟨v14, h15, hr⟩ := nk_lte hr
  rw [← h15]
  by_cases hc0 : v14 = 3
  · have hr := nk_ifp hc0 hr
    refine nk_p (i := .tableswitch 105 3 7 #[35, 105, 57, 105, 71]) (len := 35) (pc' := 68) mJ_429 (by decide +kernel) (ns_tsw (V := 3) hc0 (by decide +kernel)) rfl ?_
    refine nk_p (i := .aload_n 0) (len := 1) (pc' := 69) mJ_429 (by decide +kernel) (ns_aload_n 2 rfl rfl) rfl ?_
    refine nk_getC (f := (4, 1, 20)) (x := 25) (len := 3) (ci := 9) (k := 6) (pc' := 72) ja_okT mJ_429 (by decide +kernel) (by decide +kernel) (by decide +kernel) (by decide) t_l0 rfl ?_
    have t16 : nk_ar ja_Tt (ja_c l0 6) = some (1, 20) := nk_ta ja_okT t_l0 (by decide +kernel)
    refine nk_p (i := .aload_n 0) (len := 1) (pc' := 73) mJ_429 (by decide +kernel) (ns_aload_n 2 rfl rfl) rfl ?_
    refine nk_getM (cj := 3) (z := 0) (x := 28) (len := 3) (ci := 9) (k := 0) (pc' := 76) ja_okT mJ_429 (by decide +kernel) (by decide +kernel) (by decide +kernel) t_l0 rfl (fun t17 => ?_)
    refine nk_getC (f := (4, 1, 1024)) (x := 166) (len := 3) (ci := 3) (k := 5) (pc' := 79) ja_okT mJ_429 (by decide +kernel) (by decide +kernel) (by decide +kernel) (by decide) t17 rfl ?_
    have t18 : nk_ar ja_Tt (ja_c (S8.2 l0 0) 5) = some (1, 1024) := nk_ta ja_okT t17 (by decide +kernel)
    refine nk_p (i := .iload_n 1) (len := 1) (pc' := 80) mJ_429 (by decide +kernel) (ns_iload_n 3 rfl rfl) rfl ?_
    refine nk_iald (len := 1) (N := 1024) (pc' := 81) mJ_429 (by decide +kernel) t18 h3.1 h3.2 rfl rfl ?_
    refine nk_p (i := .aload_n 0) (len := 1) (pc' := 82) mJ_429 (by decide +kernel) (ns_aload_n 2 rfl rfl) rfl ?_
    refine nk_getC (f := (4, 1, 20)) (x := 25) (len := 3) (ci := 9) (k := 6) (pc' := 85) ja_okT mJ_429 (by decide +kernel) (by decide +kernel) (by decide +kernel) (by decide) t_l0 rfl ?_
    refine nk_p (i := .iload_n 3) (len := 1) (pc' := 86) mJ_429 (by decide +kernel) (ns_iload_n 0 rfl rfl) rfl ?_
    obtain ⟨h19, hr⟩ := nk_cke hr
    refine nk_iald (len := 1) (N := 20) (pc' := 87) mJ_429 (by decide +kernel) t16 h19.1 h19.2 rfl rfl ?_
    obtain ⟨h20, hr⟩ := nk_cke hr
    obtain ⟨S21, h22, hr⟩ := nk_lte hr
    refine nk_iast (len := 1) (N := 20) (pc' := 88) mJ_429 (by decide +kernel) t16 h20.1 h20.2 rfl rfl h22 ?_
    refine nk_p (i := .iconst 1) (len := 1) (pc' := 89) mJ_429 (by decide +kernel) (ns_iconst (c := 1) (by decide +kernel)) rfl ?_
    cases hr
    exact nk_iret (ty := .boolean) (len := 1) mJ_429 (by decide +kernel) rfl (nk_nar_z (by decide))
  have hr := nk_ifn hc0 hr
  by_cases hc1 : v14 = 4
  · have hr := nk_ifp hc1 hr
    refine nk_p (i := .tableswitch 105 3 7 #[35, 105, 57, 105, 71]) (len := 35) (pc' := 138) mJ_429 (by decide +kernel) (ns_tsw (V := 4) hc1 (by decide +kernel)) rfl ?_
    refine nk_sub [2, 3, 0] (L' := [(0, nk_r l0), (1, nk_i l1), (3, nk_i v10)]) rfl ?_
    exact ja_X9_perform_b138_ok zs _ _ _ _ _ t_l0 hr
  have hr := nk_ifn hc1 hr
  by_cases hc2 : v14 = 5
  · have hr := nk_ifp hc2 hr
    refine nk_p (i := .tableswitch 105 3 7 #[35, 105, 57, 105, 71]) (len := 35) (pc' := 90) mJ_429 (by decide +kernel) (ns_tsw (V := 5) hc2 (by decide +kernel)) rfl ?_
    refine nk_p (i := .aload_n 0) (len := 1) (pc' := 91) mJ_429 (by decide +kernel) (ns_aload_n 2 rfl rfl) rfl ?_
    refine nk_getC (f := (4, 1, 20)) (x := 25) (len := 3) (ci := 9) (k := 6) (pc' := 94) ja_okT mJ_429 (by decide +kernel) (by decide +kernel) (by decide +kernel) (by decide) t_l0 rfl ?_
    have t23 : nk_ar ja_Tt (ja_c l0 6) = some (1, 20) := nk_ta ja_okT t_l0 (by decide +kernel)
    refine nk_p (i := .iload_n 2) (len := 1) (pc' := 95) mJ_429 (by decide +kernel) (ns_iload_n 1 rfl rfl) rfl ?_
    refine nk_p (i := .aload_n 0) (len := 1) (pc' := 96) mJ_429 (by decide +kernel) (ns_aload_n 2 rfl rfl) rfl ?_
    refine nk_getC (f := (4, 1, 20)) (x := 25) (len := 3) (ci := 9) (k := 6) (pc' := 99) ja_okT mJ_429 (by decide +kernel) (by decide +kernel) (by decide +kernel) (by decide) t_l0 rfl ?_
    refine nk_p (i := .iload_n 3) (len := 1) (pc' := 100) mJ_429 (by decide +kernel) (ns_iload_n 0 rfl rfl) rfl ?_
    obtain ⟨h24, hr⟩ := nk_cke hr
    refine nk_iald (len := 1) (N := 20) (pc' := 101) mJ_429 (by decide +kernel) t23 h24.1 h24.2 rfl rfl ?_
    obtain ⟨h25, hr⟩ := nk_cke hr
    obtain ⟨S26, h27, hr⟩ := nk_lte hr
    refine nk_iast (len := 1) (N := 20) (pc' := 102) mJ_429 (by decide +kernel) t23 h25.1 h25.2 rfl rfl h27 ?_
    refine nk_p (i := .iconst 1) (len := 1) (pc' := 103) mJ_429 (by decide +kernel) (ns_iconst (c := 1) (by decide +kernel)) rfl ?_
    cases hr
    exact nk_iret (ty := .boolean) (len := 1) mJ_429 (by decide +kernel) rfl (nk_nar_z (by decide))
  have hr := nk_ifn hc2 hr
  by_cases hc3 : v14 = 6
  · have hr := nk_ifp hc3 hr
    refine nk_p (i := .tableswitch 105 3 7 #[35, 105, 57, 105, 71]) (len := 35) (pc' := 138) mJ_429 (by decide +kernel) (ns_tsw (V := 6) hc3 (by decide +kernel)) rfl ?_
    refine nk_sub [2, 3, 0] (L' := [(0, nk_r l0), (1, nk_i l1), (3, nk_i v10)]) rfl ?_
    exact ja_X9_perform_b138_ok zs _ _ _ _ _ t_l0 hr
  have hr := nk_ifn hc3 hr
  by_cases hc4 : v14 = 7
  · have hr := nk_ifp hc4 hr
    refine nk_p (i := .tableswitch 105 3 7 #[35, 105, 57, 105, 71]) (len := 35) (pc' := 104) mJ_429 (by decide +kernel) (ns_tsw (V := 7) hc4 (by decide +kernel)) rfl ?_
    refine nk_p (i := .aload_n 0) (len := 1) (pc' := 105) mJ_429 (by decide +kernel) (ns_aload_n 2 rfl rfl) rfl ?_
    refine nk_getC (f := (4, 1, 20)) (x := 25) (len := 3) (ci := 9) (k := 6) (pc' := 108) ja_okT mJ_429 (by decide +kernel) (by decide +kernel) (by decide +kernel) (by decide) t_l0 rfl ?_
    have t28 : nk_ar ja_Tt (ja_c l0 6) = some (1, 20) := nk_ta ja_okT t_l0 (by decide +kernel)
    refine nk_p (i := .iload_n 3) (len := 1) (pc' := 109) mJ_429 (by decide +kernel) (ns_iload_n 0 rfl rfl) rfl ?_
    obtain ⟨h29, hr⟩ := nk_cke hr
    refine nk_iald (len := 1) (N := 20) (pc' := 110) mJ_429 (by decide +kernel) t28 h29.1 h29.2 rfl rfl ?_
    obtain ⟨v30, h31, hr⟩ := nk_lte hr
    refine nk_p (i := .istore 4) (len := 2) (pc' := 112) mJ_429 (by decide +kernel) (ns_istore (L' := [(4, nk_i v30), (3, nk_i v10), (2, nk_i v4), (0, nk_r l0), (1, nk_i l1)]) h31 rfl (by decide +kernel)) rfl ?_
    refine nk_p (i := .aload_n 0) (len := 1) (pc' := 113) mJ_429 (by decide +kernel) (ns_aload_n 3 rfl rfl) rfl ?_
    refine nk_getC (f := (4, 1, 20)) (x := 25) (len := 3) (ci := 9) (k := 6) (pc' := 116) ja_okT mJ_429 (by decide +kernel) (by decide +kernel) (by decide +kernel) (by decide) t_l0 rfl ?_
    refine nk_p (i := .iload_n 3) (len := 1) (pc' := 117) mJ_429 (by decide +kernel) (ns_iload_n 1 rfl rfl) rfl ?_
    refine nk_p (i := .aload_n 0) (len := 1) (pc' := 118) mJ_429 (by decide +kernel) (ns_aload_n 3 rfl rfl) rfl ?_
    refine nk_getC (f := (4, 1, 20)) (x := 25) (len := 3) (ci := 9) (k := 6) (pc' := 121) ja_okT mJ_429 (by decide +kernel) (by decide +kernel) (by decide +kernel) (by decide) t_l0 rfl ?_
    refine nk_p (i := .iload_n 3) (len := 1) (pc' := 122) mJ_429 (by decide +kernel) (ns_iload_n 1 rfl rfl) rfl ?_
    refine nk_p (i := .iconst 1) (len := 1) (pc' := 123) mJ_429 (by decide +kernel) (ns_iconst (c := 1) (by decide +kernel)) rfl ?_
    refine nk_p (i := .iadd) (len := 1) (pc' := 124) mJ_429 (by decide +kernel) ns_iadd rfl ?_
    obtain ⟨h32, hr⟩ := nk_cke hr
    refine nk_iald (len := 1) (N := 20) (pc' := 125) mJ_429 (by decide +kernel) t28 h32.1 h32.2 rfl rfl ?_
    obtain ⟨S33, h34, hr⟩ := nk_lte hr
    refine nk_iast (len := 1) (N := 20) (pc' := 126) mJ_429 (by decide +kernel) t28 h29.1 h29.2 rfl rfl h34 ?_
    refine nk_p (i := .aload_n 0) (len := 1) (pc' := 127) mJ_429 (by decide +kernel) (ns_aload_n 3 rfl rfl) rfl ?_
    refine nk_getC (f := (4, 1, 20)) (x := 25) (len := 3) (ci := 9) (k := 6) (pc' := 130) ja_okT mJ_429 (by decide +kernel) (by decide +kernel) (by decide +kernel) (by decide) t_l0 rfl ?_
    refine nk_p (i := .iload_n 3) (len := 1) (pc' := 131) mJ_429 (by decide +kernel) (ns_iload_n 1 rfl rfl) rfl ?_
    refine nk_p (i := .iconst 1) (len := 1) (pc' := 132) mJ_429 (by decide +kernel) (ns_iconst (c := 1) (by decide +kernel)) rfl ?_
    refine nk_p (i := .iadd) (len := 1) (pc' := 133) mJ_429 (by decide +kernel) ns_iadd rfl ?_
    refine nk_p (i := .iload 4) (len := 2) (pc' := 135) mJ_429 (by decide +kernel) (ns_iload 0 rfl) rfl ?_
    obtain ⟨S35, h36, hr⟩ := nk_lte hr
    refine nk_iast (len := 1) (N := 20) (pc' := 136) mJ_429 (by decide +kernel) t28 h32.1 h32.2 rfl rfl h36 ?_
    refine nk_p (i := .iconst 1) (len := 1) (pc' := 137) mJ_429 (by decide +kernel) (ns_iconst (c := 1) (by decide +kernel)) rfl ?_
    cases hr
    exact nk_iret (ty := .boolean) (len := 1) mJ_429 (by decide +kernel) rfl (nk_nar_z (by decide))
  have hr := nk_ifn hc4 hr
  refine nk_p (i := .tableswitch 105 3 7 #[35, 105, 57, 105, 71]) (len := 35) (pc' := 138) mJ_429 (by decide +kernel) (ns_tsd (by omega) (by decide +kernel)) rfl ?_
  refine nk_sub [2, 3, 0] (L' := [(0, nk_r l0), (1, nk_i l1), (3, nk_i v10)]) rfl ?_
  exact ja_X9_perform_b138_ok zs _ _ _ _ _ t_l0 hr
/-! SafeCode$Types spreadTypes (I)V -/
noncomputable def ja_X9_spreadTypes_b128 (rec128 : Nat → Int → Int → Int → Int → nk_S → Option (Int × nk_S)) (l0 : Nat) (l1 : Int) (l2 : Int) (l3 : Int) (l5 : Int) (S : nk_S) : Option (Int × nk_S) :=
  if 0 ≤ l2 ∧ l2 < 48 then
  if (S.1 (ja_c (ja_c (S.2 l0 0) 1) 13) l2.toNat) ≤ l5 then
    some (0, S)
  else
    nk_bd (ja_X3_covers (S.2 l0 0) l5 l1 S) fun r6 S7 =>
    if r6 = 0 then
      nk_lt (nk_w (l5 + 1)) fun v9 =>
      rec128 l0 l1 l2 l3 v9 S7
    else
      if 0 ≤ (nk_w (l1 * 20)) ∧ 0 ≤ (0 : Int) ∧ 0 ≤ (20 : Int) ∧ (nk_w (l1 * 20)) + (20 : Int) ≤ 20480 ∧ (0 : Int) + (20 : Int) ≤ 20 then
      nk_lt (nk_cp S7 (ja_c l0 3) (nk_w (l1 * 20)).toNat (ja_c l0 6) 0 20) fun S14 =>
      if 0 ≤ l5 ∧ l5 < 64 then
      nk_lt (nk_wi S14 (ja_c l0 6) 12 (nk_w (4 + (nk_w (2 * (S14.1 (ja_c (S14.2 l0 0) 16) l5.toNat)))))) fun S19 =>
      nk_bd (ja_X9_arrive l0 (S19.1 (ja_c (S19.2 l0 0) 15) l5.toNat) l3 1 S19) fun r23 S24 =>
      nk_lt (nk_w (l5 + 1)) fun v26 =>
      rec128 l0 l1 l2 l3 v26 S24
      else none
      else none
  else none
theorem ja_X9_spreadTypes_b128_ok (zs : List Int32) {rec128 : Nat → Int → Int → Int → Int → nk_S → Option (Int × nk_S)} (hrec128 : ∀ (l0 : Nat) (l1 : Int) (l2 : Int) (l3 : Int) (l5 : Int) (S : nk_S) (R : Int × nk_S), nk_cl ja_Tt l0 = some 9 → rec128 l0 l1 l2 l3 l5 S = some R → nk_K ja_Tt mi_Γ (mi_ev zs) 0 431 128 [(0, nk_r l0), (1, nk_i l1), (2, nk_i l2), (3, nk_i l3), (5, nk_i l5)] [] S R) : ∀ (l0 : Nat) (l1 : Int) (l2 : Int) (l3 : Int) (l5 : Int) (S : nk_S) (R : Int × nk_S), nk_cl ja_Tt l0 = some 9 → ja_X9_spreadTypes_b128 rec128 l0 l1 l2 l3 l5 S = some R → nk_K ja_Tt mi_Γ (mi_ev zs) 0 431 128 [(0, nk_r l0), (1, nk_i l1), (2, nk_i l2), (3, nk_i l3), (5, nk_i l5)] [] S R := by
  intro l0 l1 l2 l3 l5 S R t_l0 hr
  unfold ja_X9_spreadTypes_b128 at hr
  refine nk_p (i := .iload 5) (len := 2) (pc' := 130) mJ_431 (by decide +kernel) (ns_iload 4 rfl) rfl ?_
  refine nk_p (i := .aload_n 0) (len := 1) (pc' := 131) mJ_431 (by decide +kernel) (ns_aload_n 0 rfl rfl) rfl ?_
  refine nk_getM (cj := 3) (z := 0) (x := 28) (len := 3) (ci := 9) (k := 0) (pc' := 134) ja_okT mJ_431 (by decide +kernel) (by decide +kernel) (by decide +kernel) t_l0 rfl (fun t1 => ?_)
  refine nk_getC (f := (2, 0, 0)) (x := 39) (len := 3) (ci := 3) (k := 1) (pc' := 137) ja_okT mJ_431 (by decide +kernel) (by decide +kernel) (by decide +kernel) (by decide) t1 rfl ?_
  have t2 : nk_cl ja_Tt (ja_c (S.2 l0 0) 1) = some 0 := nk_tc (y := 0) ja_okT t1 (by decide +kernel)
  refine nk_getC (f := (4, 1, 48)) (x := 109) (len := 3) (ci := 0) (k := 13) (pc' := 140) ja_okT mJ_431 (by decide +kernel) (by decide +kernel) (by decide +kernel) (by decide) t2 rfl ?_
  have t3 : nk_ar ja_Tt (ja_c (ja_c (S.2 l0 0) 1) 13) = some (1, 48) := nk_ta ja_okT t2 (by decide +kernel)
  refine nk_p (i := .iload_n 2) (len := 1) (pc' := 141) mJ_431 (by decide +kernel) (ns_iload_n 2 rfl rfl) rfl ?_
  obtain ⟨h4, hr⟩ := nk_cke hr
  refine nk_iald (len := 1) (N := 48) (pc' := 142) mJ_431 (by decide +kernel) t3 h4.1 h4.2 rfl rfl ?_
  refine nk_icmp (c := .ge) (off := 77) (len := 3) (t := 219) (pc' := 145) mJ_431 (by decide +kernel) (by decide +kernel) rfl (fun hc => ?_) (fun hc => ?_)
  · have hr := nk_ifp (c := (S.1 (ja_c (ja_c (S.2 l0 0) 1) 13) l2.toNat) ≤ l5) hc hr
    cases hr
    exact nk_vret (len := 1) mJ_431 (by decide +kernel) rfl
  · have hr := nk_ifn (c := (S.1 (ja_c (ja_c (S.2 l0 0) 1) 13) l2.toNat) ≤ l5) hc hr
    refine nk_p (i := .aload_n 0) (len := 1) (pc' := 146) mJ_431 (by decide +kernel) (ns_aload_n 0 rfl rfl) rfl ?_
    refine nk_getM (cj := 3) (z := 0) (x := 28) (len := 3) (ci := 9) (k := 0) (pc' := 149) ja_okT mJ_431 (by decide +kernel) (by decide +kernel) (by decide +kernel) t_l0 rfl (fun t5 => ?_)
    refine nk_p (i := .iload 5) (len := 2) (pc' := 151) mJ_431 (by decide +kernel) (ns_iload 4 rfl) rfl ?_
    refine nk_p (i := .iload_n 1) (len := 1) (pc' := 152) mJ_431 (by decide +kernel) (ns_iload_n 1 rfl rfl) rfl ?_
    obtain ⟨r6, S7, h8, hr⟩ := nk_bde hr
    refine nk_callV (ci := 3) (n := 2) (x := 112) (len := 3) (j' := 302) (q' := 1) (r := r6) (S' := S7) (L2 := [(0, nk_r (S.2 l0 0)), (1, nk_i l5), (2, nk_i l1)]) (rest := []) (st' := [nk_i r6]) (pc' := 155) mJ_431 (by decide +kernel) (by decide +kernel) rfl rfl t5 (Nat.le_of_ble_eq_true rfl) mJ_302 (Nat.le_of_ble_eq_true rfl) rfl (ja_X3_covers_ok zs _ _ _ _ _ t5 h8) rfl ?_
    refine nk_icond (c := .eq) (off := 58) (len := 3) (t := 213) (pc' := 158) mJ_431 (by decide +kernel) (by decide +kernel) rfl (fun hc => ?_) (fun hc => ?_)
    · have hr := nk_ifp (c := r6 = 0) hc hr
      obtain ⟨v9, h10, hr⟩ := nk_lte hr
      refine nk_p (i := .iinc 5 1) (len := 3) (pc' := 216) mJ_431 (by decide +kernel) (ns_iinc (c := 1) (L' := [(5, nk_i v9), (0, nk_r l0), (1, nk_i l1), (2, nk_i l2), (3, nk_i l3)]) 4 rfl (by decide +kernel) h10 rfl (by decide +kernel)) rfl ?_
      refine nk_p (i := .goto (-88)) (len := 3) (pc' := 128) mJ_431 (by decide +kernel) (ns_goto (by decide +kernel)) rfl ?_
      refine nk_sub [1, 2, 3, 4, 0] (L' := [(0, nk_r l0), (1, nk_i l1), (2, nk_i l2), (3, nk_i l3), (5, nk_i v9)]) rfl ?_
      exact hrec128 _ _ _ _ _ _ _ t_l0 hr
    · have hr := nk_ifn (c := r6 = 0) hc hr
      refine nk_p (i := .aload_n 0) (len := 1) (pc' := 159) mJ_431 (by decide +kernel) (ns_aload_n 0 rfl rfl) rfl ?_
      refine nk_getC (f := (4, 1, 20480)) (x := 15) (len := 3) (ci := 9) (k := 3) (pc' := 162) ja_okT mJ_431 (by decide +kernel) (by decide +kernel) (by decide +kernel) (by decide) t_l0 rfl ?_
      have t11 : nk_ar ja_Tt (ja_c l0 3) = some (1, 20480) := nk_ta ja_okT t_l0 (by decide +kernel)
      refine nk_p (i := .iload_n 1) (len := 1) (pc' := 163) mJ_431 (by decide +kernel) (ns_iload_n 1 rfl rfl) rfl ?_
      refine nk_p (i := .bipush 20) (len := 2) (pc' := 165) mJ_431 (by decide +kernel) (ns_bipush (c := 20) (by decide +kernel)) rfl ?_
      refine nk_p (i := .imul) (len := 1) (pc' := 166) mJ_431 (by decide +kernel) ns_imul rfl ?_
      refine nk_p (i := .aload_n 0) (len := 1) (pc' := 167) mJ_431 (by decide +kernel) (ns_aload_n 0 rfl rfl) rfl ?_
      refine nk_getC (f := (4, 1, 20)) (x := 25) (len := 3) (ci := 9) (k := 6) (pc' := 170) ja_okT mJ_431 (by decide +kernel) (by decide +kernel) (by decide +kernel) (by decide) t_l0 rfl ?_
      have t12 : nk_ar ja_Tt (ja_c l0 6) = some (1, 20) := nk_ta ja_okT t_l0 (by decide +kernel)
      refine nk_p (i := .iconst 0) (len := 1) (pc' := 171) mJ_431 (by decide +kernel) (ns_iconst (c := 0) (by decide +kernel)) rfl ?_
      refine nk_p (i := .bipush 20) (len := 2) (pc' := 173) mJ_431 (by decide +kernel) (ns_bipush (c := 20) (by decide +kernel)) rfl ?_
      obtain ⟨h13, hr⟩ := nk_cke hr
      obtain ⟨S14, h15, hr⟩ := nk_lte hr
      refine nk_copy (x := 151) (len := 3) (t := 1) (N0 := 20480) (N1 := 20) (q1 := 9999) (q2 := 0) (q3 := 0) (pc' := 176) mJ_431 (by decide +kernel) (by decide +kernel) t11 t12 h13.1 h13.2.1 h13.2.2.1 h13.2.2.2.1 h13.2.2.2.2 rfl rfl (Nat.le_of_ble_eq_true rfl) rfl h15 ?_
      refine nk_p (i := .aload_n 0) (len := 1) (pc' := 177) mJ_431 (by decide +kernel) (ns_aload_n 0 rfl rfl) rfl ?_
      refine nk_getC (f := (4, 1, 20)) (x := 25) (len := 3) (ci := 9) (k := 6) (pc' := 180) ja_okT mJ_431 (by decide +kernel) (by decide +kernel) (by decide +kernel) (by decide) t_l0 rfl ?_
      refine nk_p (i := .bipush 12) (len := 2) (pc' := 182) mJ_431 (by decide +kernel) (ns_bipush (c := 12) (by decide +kernel)) rfl ?_
      refine nk_p (i := .iconst 4) (len := 1) (pc' := 183) mJ_431 (by decide +kernel) (ns_iconst (c := 4) (by decide +kernel)) rfl ?_
      refine nk_p (i := .iconst 2) (len := 1) (pc' := 184) mJ_431 (by decide +kernel) (ns_iconst (c := 2) (by decide +kernel)) rfl ?_
      refine nk_p (i := .aload_n 0) (len := 1) (pc' := 185) mJ_431 (by decide +kernel) (ns_aload_n 0 rfl rfl) rfl ?_
      refine nk_getM (cj := 3) (z := 0) (x := 28) (len := 3) (ci := 9) (k := 0) (pc' := 188) ja_okT mJ_431 (by decide +kernel) (by decide +kernel) (by decide +kernel) t_l0 rfl (fun t16 => ?_)
      refine nk_getC (f := (4, 1, 64)) (x := 160) (len := 3) (ci := 3) (k := 16) (pc' := 191) ja_okT mJ_431 (by decide +kernel) (by decide +kernel) (by decide +kernel) (by decide) t16 rfl ?_
      have t17 : nk_ar ja_Tt (ja_c (S14.2 l0 0) 16) = some (1, 64) := nk_ta ja_okT t16 (by decide +kernel)
      refine nk_p (i := .iload 5) (len := 2) (pc' := 193) mJ_431 (by decide +kernel) (ns_iload 4 rfl) rfl ?_
      obtain ⟨h18, hr⟩ := nk_cke hr
      refine nk_iald (len := 1) (N := 64) (pc' := 194) mJ_431 (by decide +kernel) t17 h18.1 h18.2 rfl rfl ?_
      refine nk_p (i := .imul) (len := 1) (pc' := 195) mJ_431 (by decide +kernel) ns_imul rfl ?_
      refine nk_p (i := .iadd) (len := 1) (pc' := 196) mJ_431 (by decide +kernel) ns_iadd rfl ?_
      obtain ⟨S19, h20, hr⟩ := nk_lte hr
      refine nk_iast (len := 1) (N := 20) (pc' := 197) mJ_431 (by decide +kernel) t12 (by decide) (by decide) rfl rfl h20 ?_
      refine nk_p (i := .aload_n 0) (len := 1) (pc' := 198) mJ_431 (by decide +kernel) (ns_aload_n 0 rfl rfl) rfl ?_
      refine nk_p (i := .aload_n 0) (len := 1) (pc' := 199) mJ_431 (by decide +kernel) (ns_aload_n 0 rfl rfl) rfl ?_
      refine nk_getM (cj := 3) (z := 0) (x := 28) (len := 3) (ci := 9) (k := 0) (pc' := 202) ja_okT mJ_431 (by decide +kernel) (by decide +kernel) (by decide +kernel) t_l0 rfl (fun t21 => ?_)
      refine nk_getC (f := (4, 1, 64)) (x := 116) (len := 3) (ci := 3) (k := 15) (pc' := 205) ja_okT mJ_431 (by decide +kernel) (by decide +kernel) (by decide +kernel) (by decide) t21 rfl ?_
      have t22 : nk_ar ja_Tt (ja_c (S19.2 l0 0) 15) = some (1, 64) := nk_ta ja_okT t21 (by decide +kernel)
      refine nk_p (i := .iload 5) (len := 2) (pc' := 207) mJ_431 (by decide +kernel) (ns_iload 4 rfl) rfl ?_
      refine nk_iald (len := 1) (N := 64) (pc' := 208) mJ_431 (by decide +kernel) t22 h18.1 h18.2 rfl rfl ?_
      refine nk_p (i := .iload_n 3) (len := 1) (pc' := 209) mJ_431 (by decide +kernel) (ns_iload_n 3 rfl rfl) rfl ?_
      refine nk_p (i := .iconst 1) (len := 1) (pc' := 210) mJ_431 (by decide +kernel) (ns_iconst (c := 1) (by decide +kernel)) rfl ?_
      obtain ⟨r23, S24, h25, hr⟩ := nk_bde hr
      refine nk_callV (ci := 9) (n := 3) (x := 136) (len := 3) (j' := 423) (q' := 0) (r := r23) (S' := S24) (L2 := [(0, nk_r l0), (1, nk_i (S19.1 (ja_c (S19.2 l0 0) 15) l5.toNat)), (2, nk_i l3), (3, nk_i 1)]) (rest := []) (st' := []) (pc' := 213) mJ_431 (by decide +kernel) (by decide +kernel) rfl rfl t_l0 (Nat.le_of_ble_eq_true rfl) mJ_423 (Nat.le_of_ble_eq_true rfl) rfl (ja_X9_arrive_ok zs _ _ _ _ _ _ t_l0 h25) rfl ?_
      obtain ⟨v26, h27, hr⟩ := nk_lte hr
      refine nk_p (i := .iinc 5 1) (len := 3) (pc' := 216) mJ_431 (by decide +kernel) (ns_iinc (c := 1) (L' := [(5, nk_i v26), (0, nk_r l0), (1, nk_i l1), (2, nk_i l2), (3, nk_i l3)]) 4 rfl (by decide +kernel) h27 rfl (by decide +kernel)) rfl ?_
      refine nk_p (i := .goto (-88)) (len := 3) (pc' := 128) mJ_431 (by decide +kernel) (ns_goto (by decide +kernel)) rfl ?_
      refine nk_sub [1, 2, 3, 4, 0] (L' := [(0, nk_r l0), (1, nk_i l1), (2, nk_i l2), (3, nk_i l3), (5, nk_i v26)]) rfl ?_
      exact hrec128 _ _ _ _ _ _ _ t_l0 hr
noncomputable def ja_X9_spreadTypes_L128 : Nat → Nat → Int → Int → Int → Int → nk_S → Option (Int × nk_S)
  | 0, _, _, _, _, _, _ => none
  | n + 1, l0, l1, l2, l3, l5, S => ja_X9_spreadTypes_b128 (ja_X9_spreadTypes_L128 n) l0 l1 l2 l3 l5 S
theorem ja_X9_spreadTypes_L128_ok (zs : List Int32) : ∀ n : Nat, ∀ (l0 : Nat) (l1 : Int) (l2 : Int) (l3 : Int) (l5 : Int) (S : nk_S) (R : Int × nk_S), nk_cl ja_Tt l0 = some 9 → ja_X9_spreadTypes_L128 n l0 l1 l2 l3 l5 S = some R → nk_K ja_Tt mi_Γ (mi_ev zs) 0 431 128 [(0, nk_r l0), (1, nk_i l1), (2, nk_i l2), (3, nk_i l3), (5, nk_i l5)] [] S R := by
  intro n
  induction n with
  | zero => intro _ _ _ _ _ _ _ _ hr; cases hr
  | succ n ih => intro l0 l1 l2 l3 l5 S R t_l0 hr; exact ja_X9_spreadTypes_b128_ok zs ih l0 l1 l2 l3 l5 S R t_l0 hr
noncomputable def ja_X9_spreadTypes_b114 (l0 : Nat) (l1 : Int) (l2 : Int) (l3 : Int) (S : nk_S) : Option (Int × nk_S) :=
  if 0 ≤ l2 ∧ l2 < 48 then
  nk_lt (S.1 (ja_c (ja_c (S.2 l0 0) 1) 12) l2.toNat) fun v5 =>
  ja_X9_spreadTypes_L128 nk_big l0 l1 l2 l3 v5 S
  else none
theorem ja_X9_spreadTypes_b114_ok (zs : List Int32) : ∀ (l0 : Nat) (l1 : Int) (l2 : Int) (l3 : Int) (S : nk_S) (R : Int × nk_S), nk_cl ja_Tt l0 = some 9 → ja_X9_spreadTypes_b114 l0 l1 l2 l3 S = some R → nk_K ja_Tt mi_Γ (mi_ev zs) 0 431 114 [(0, nk_r l0), (1, nk_i l1), (2, nk_i l2), (3, nk_i l3)] [] S R := by
  intro l0 l1 l2 l3 S R t_l0 hr
  unfold ja_X9_spreadTypes_b114 at hr
  refine nk_p (i := .aload_n 0) (len := 1) (pc' := 115) mJ_431 (by decide +kernel) (ns_aload_n 0 rfl rfl) rfl ?_
  refine nk_getM (cj := 3) (z := 0) (x := 28) (len := 3) (ci := 9) (k := 0) (pc' := 118) ja_okT mJ_431 (by decide +kernel) (by decide +kernel) (by decide +kernel) t_l0 rfl (fun t1 => ?_)
  refine nk_getC (f := (2, 0, 0)) (x := 39) (len := 3) (ci := 3) (k := 1) (pc' := 121) ja_okT mJ_431 (by decide +kernel) (by decide +kernel) (by decide +kernel) (by decide) t1 rfl ?_
  have t2 : nk_cl ja_Tt (ja_c (S.2 l0 0) 1) = some 0 := nk_tc (y := 0) ja_okT t1 (by decide +kernel)
  refine nk_getC (f := (4, 1, 48)) (x := 106) (len := 3) (ci := 0) (k := 12) (pc' := 124) ja_okT mJ_431 (by decide +kernel) (by decide +kernel) (by decide +kernel) (by decide) t2 rfl ?_
  have t3 : nk_ar ja_Tt (ja_c (ja_c (S.2 l0 0) 1) 12) = some (1, 48) := nk_ta ja_okT t2 (by decide +kernel)
  refine nk_p (i := .iload_n 2) (len := 1) (pc' := 125) mJ_431 (by decide +kernel) (ns_iload_n 2 rfl rfl) rfl ?_
  obtain ⟨h4, hr⟩ := nk_cke hr
  refine nk_iald (len := 1) (N := 48) (pc' := 126) mJ_431 (by decide +kernel) t3 h4.1 h4.2 rfl rfl ?_
  obtain ⟨v5, h6, hr⟩ := nk_lte hr
  refine nk_p (i := .istore 5) (len := 2) (pc' := 128) mJ_431 (by decide +kernel) (ns_istore (L' := [(5, nk_i v5), (0, nk_r l0), (1, nk_i l1), (2, nk_i l2), (3, nk_i l3)]) h6 rfl (by decide +kernel)) rfl ?_
  refine nk_sub [1, 2, 3, 4, 0] (L' := [(0, nk_r l0), (1, nk_i l1), (2, nk_i l2), (3, nk_i l3), (5, nk_i v5)]) rfl ?_
  exact ja_X9_spreadTypes_L128_ok zs nk_big _ _ _ _ _ _ _ t_l0 hr
noncomputable def ja_X9_spreadTypes_b99 (l0 : Nat) (l1 : Int) (l2 : Int) (l3 : Int) (l4 : Int) (S : nk_S) : Option (Int × nk_S) :=
  nk_bd (ja_X3_target (S.2 l0 0) l1 S) fun r2 S3 =>
  nk_bd (ja_X9_arrive l0 r2 l3 l4 S3) fun r5 S6 =>
  ja_X9_spreadTypes_b114 l0 l1 l2 l3 S6
theorem ja_X9_spreadTypes_b99_ok (zs : List Int32) : ∀ (l0 : Nat) (l1 : Int) (l2 : Int) (l3 : Int) (l4 : Int) (S : nk_S) (R : Int × nk_S), nk_cl ja_Tt l0 = some 9 → ja_X9_spreadTypes_b99 l0 l1 l2 l3 l4 S = some R → nk_K ja_Tt mi_Γ (mi_ev zs) 0 431 99 [(0, nk_r l0), (1, nk_i l1), (2, nk_i l2), (3, nk_i l3), (4, nk_i l4)] [] S R := by
  intro l0 l1 l2 l3 l4 S R t_l0 hr
  unfold ja_X9_spreadTypes_b99 at hr
  refine nk_p (i := .aload_n 0) (len := 1) (pc' := 100) mJ_431 (by decide +kernel) (ns_aload_n 0 rfl rfl) rfl ?_
  refine nk_p (i := .aload_n 0) (len := 1) (pc' := 101) mJ_431 (by decide +kernel) (ns_aload_n 0 rfl rfl) rfl ?_
  refine nk_getM (cj := 3) (z := 0) (x := 28) (len := 3) (ci := 9) (k := 0) (pc' := 104) ja_okT mJ_431 (by decide +kernel) (by decide +kernel) (by decide +kernel) t_l0 rfl (fun t1 => ?_)
  refine nk_p (i := .iload_n 1) (len := 1) (pc' := 105) mJ_431 (by decide +kernel) (ns_iload_n 1 rfl rfl) rfl ?_
  obtain ⟨r2, S3, h4, hr⟩ := nk_bde hr
  refine nk_callV (ci := 3) (n := 1) (x := 100) (len := 3) (j' := 309) (q' := 1) (r := r2) (S' := S3) (L2 := [(0, nk_r (S.2 l0 0)), (1, nk_i l1)]) (rest := [nk_r l0]) (st' := [nk_i r2, nk_r l0]) (pc' := 108) mJ_431 (by decide +kernel) (by decide +kernel) rfl rfl t1 (Nat.le_of_ble_eq_true rfl) mJ_309 (Nat.le_of_ble_eq_true rfl) rfl (ja_X3_target_ok zs _ _ _ _ t1 h4) rfl ?_
  refine nk_p (i := .iload_n 3) (len := 1) (pc' := 109) mJ_431 (by decide +kernel) (ns_iload_n 3 rfl rfl) rfl ?_
  refine nk_p (i := .iload 4) (len := 2) (pc' := 111) mJ_431 (by decide +kernel) (ns_iload 4 rfl) rfl ?_
  obtain ⟨r5, S6, h7, hr⟩ := nk_bde hr
  refine nk_callV (ci := 9) (n := 3) (x := 136) (len := 3) (j' := 423) (q' := 0) (r := r5) (S' := S6) (L2 := [(0, nk_r l0), (1, nk_i r2), (2, nk_i l3), (3, nk_i l4)]) (rest := []) (st' := []) (pc' := 114) mJ_431 (by decide +kernel) (by decide +kernel) rfl rfl t_l0 (Nat.le_of_ble_eq_true rfl) mJ_423 (Nat.le_of_ble_eq_true rfl) rfl (ja_X9_arrive_ok zs _ _ _ _ _ _ t_l0 h7) rfl ?_
  refine nk_sub [0, 1, 2, 3] (L' := [(0, nk_r l0), (1, nk_i l1), (2, nk_i l2), (3, nk_i l3)]) rfl ?_
  exact ja_X9_spreadTypes_b114_ok zs _ _ _ _ _ _ t_l0 hr
noncomputable def ja_X9_spreadTypes (l0 : Nat) (l1 : Int) (S : nk_S) : Option (Int × nk_S) :=
  if 0 ≤ l1 ∧ l1 < 1024 then
  nk_lt (S.1 (ja_c (S.2 l0 0) 8) l1.toNat) fun v4 =>
  if 0 ≤ v4 ∧ v4 < 48 then
  nk_lt (S.1 (ja_c (ja_c (S.2 l0 0) 1) 8) v4.toNat) fun v10 =>
  if 0 ≤ (nk_w (l1 * 20)) ∧ 0 ≤ (0 : Int) ∧ 0 ≤ (20 : Int) ∧ (nk_w (l1 * 20)) + (20 : Int) ≤ 20480 ∧ (0 : Int) + (20 : Int) ≤ 20 then
  nk_lt (nk_cp S (ja_c l0 3) (nk_w (l1 * 20)).toNat (ja_c l0 6) 0 20) fun S15 =>
  nk_bd (ja_X3_takes (S15.2 l0 0) l1 S15) fun r20 S21 =>
  nk_bd (ja_X3_leaves (S21.2 l0 0) l1 S21) fun r24 S25 =>
  nk_lt (nk_w ((nk_w ((S15.1 (ja_c (S15.2 l0 0) 9) l1.toNat) - r20)) + r24)) fun v27 =>
  nk_bd (ja_X9_perform l0 l1 S25) fun r29 S30 =>
  if r29 = 0 then
    ja_X9_spreadTypes_b114 l0 l1 v4 v10 S30
  else
    nk_bd (ja_X3_fallsThrough (S30.2 l0 0) l1 S30) fun r33 S34 =>
    if r33 = 0 then
      ja_X9_spreadTypes_b99 l0 l1 v4 v10 v27 S34
    else
      nk_bd (ja_X9_arrive l0 (nk_w (l1 + 1)) v10 v27 S34) fun r36 S37 =>
      ja_X9_spreadTypes_b99 l0 l1 v4 v10 v27 S37
  else none
  else none
  else none
theorem ja_X9_spreadTypes_ok (zs : List Int32) : ∀ (l0 : Nat) (l1 : Int) (S : nk_S) (R : Int × nk_S), nk_cl ja_Tt l0 = some 9 → ja_X9_spreadTypes l0 l1 S = some R → nk_K ja_Tt mi_Γ (mi_ev zs) 0 431 0 [(0, nk_r l0), (1, nk_i l1)] [] S R := by
  intro l0 l1 S R t_l0 hr
  unfold ja_X9_spreadTypes at hr
  refine nk_p (i := .aload_n 0) (len := 1) (pc' := 1) mJ_431 (by decide +kernel) (ns_aload_n 0 rfl rfl) rfl ?_
  refine nk_getM (cj := 3) (z := 0) (x := 28) (len := 3) (ci := 9) (k := 0) (pc' := 4) ja_okT mJ_431 (by decide +kernel) (by decide +kernel) (by decide +kernel) t_l0 rfl (fun t1 => ?_)
  refine nk_getC (f := (4, 1, 1024)) (x := 103) (len := 3) (ci := 3) (k := 8) (pc' := 7) ja_okT mJ_431 (by decide +kernel) (by decide +kernel) (by decide +kernel) (by decide) t1 rfl ?_
  have t2 : nk_ar ja_Tt (ja_c (S.2 l0 0) 8) = some (1, 1024) := nk_ta ja_okT t1 (by decide +kernel)
  refine nk_p (i := .iload_n 1) (len := 1) (pc' := 8) mJ_431 (by decide +kernel) (ns_iload_n 1 rfl rfl) rfl ?_
  obtain ⟨h3, hr⟩ := nk_cke hr
  refine nk_iald (len := 1) (N := 1024) (pc' := 9) mJ_431 (by decide +kernel) t2 h3.1 h3.2 rfl rfl ?_
  obtain ⟨v4, h5, hr⟩ := nk_lte hr
  refine nk_p (i := .istore_n 2) (len := 1) (pc' := 10) mJ_431 (by decide +kernel) (ns_istore_n (L' := [(2, nk_i v4), (0, nk_r l0), (1, nk_i l1)]) h5 rfl rfl (by decide +kernel)) rfl ?_
  refine nk_p (i := .aload_n 0) (len := 1) (pc' := 11) mJ_431 (by decide +kernel) (ns_aload_n 1 rfl rfl) rfl ?_
  refine nk_getM (cj := 3) (z := 0) (x := 28) (len := 3) (ci := 9) (k := 0) (pc' := 14) ja_okT mJ_431 (by decide +kernel) (by decide +kernel) (by decide +kernel) t_l0 rfl (fun t6 => ?_)
  refine nk_getC (f := (2, 0, 0)) (x := 39) (len := 3) (ci := 3) (k := 1) (pc' := 17) ja_okT mJ_431 (by decide +kernel) (by decide +kernel) (by decide +kernel) (by decide) t6 rfl ?_
  have t7 : nk_cl ja_Tt (ja_c (S.2 l0 0) 1) = some 0 := nk_tc (y := 0) ja_okT t6 (by decide +kernel)
  refine nk_getC (f := (4, 1, 48)) (x := 133) (len := 3) (ci := 0) (k := 8) (pc' := 20) ja_okT mJ_431 (by decide +kernel) (by decide +kernel) (by decide +kernel) (by decide) t7 rfl ?_
  have t8 : nk_ar ja_Tt (ja_c (ja_c (S.2 l0 0) 1) 8) = some (1, 48) := nk_ta ja_okT t7 (by decide +kernel)
  refine nk_p (i := .iload_n 2) (len := 1) (pc' := 21) mJ_431 (by decide +kernel) (ns_iload_n 0 rfl rfl) rfl ?_
  obtain ⟨h9, hr⟩ := nk_cke hr
  refine nk_iald (len := 1) (N := 48) (pc' := 22) mJ_431 (by decide +kernel) t8 h9.1 h9.2 rfl rfl ?_
  obtain ⟨v10, h11, hr⟩ := nk_lte hr
  refine nk_p (i := .istore_n 3) (len := 1) (pc' := 23) mJ_431 (by decide +kernel) (ns_istore_n (L' := [(3, nk_i v10), (2, nk_i v4), (0, nk_r l0), (1, nk_i l1)]) h11 rfl rfl (by decide +kernel)) rfl ?_
  refine nk_p (i := .aload_n 0) (len := 1) (pc' := 24) mJ_431 (by decide +kernel) (ns_aload_n 2 rfl rfl) rfl ?_
  refine nk_getC (f := (4, 1, 20480)) (x := 15) (len := 3) (ci := 9) (k := 3) (pc' := 27) ja_okT mJ_431 (by decide +kernel) (by decide +kernel) (by decide +kernel) (by decide) t_l0 rfl ?_
  have t12 : nk_ar ja_Tt (ja_c l0 3) = some (1, 20480) := nk_ta ja_okT t_l0 (by decide +kernel)
  refine nk_p (i := .iload_n 1) (len := 1) (pc' := 28) mJ_431 (by decide +kernel) (ns_iload_n 3 rfl rfl) rfl ?_
  refine nk_p (i := .bipush 20) (len := 2) (pc' := 30) mJ_431 (by decide +kernel) (ns_bipush (c := 20) (by decide +kernel)) rfl ?_
  refine nk_p (i := .imul) (len := 1) (pc' := 31) mJ_431 (by decide +kernel) ns_imul rfl ?_
  refine nk_p (i := .aload_n 0) (len := 1) (pc' := 32) mJ_431 (by decide +kernel) (ns_aload_n 2 rfl rfl) rfl ?_
  refine nk_getC (f := (4, 1, 20)) (x := 25) (len := 3) (ci := 9) (k := 6) (pc' := 35) ja_okT mJ_431 (by decide +kernel) (by decide +kernel) (by decide +kernel) (by decide) t_l0 rfl ?_
  have t13 : nk_ar ja_Tt (ja_c l0 6) = some (1, 20) := nk_ta ja_okT t_l0 (by decide +kernel)
  refine nk_p (i := .iconst 0) (len := 1) (pc' := 36) mJ_431 (by decide +kernel) (ns_iconst (c := 0) (by decide +kernel)) rfl ?_
  refine nk_p (i := .bipush 20) (len := 2) (pc' := 38) mJ_431 (by decide +kernel) (ns_bipush (c := 20) (by decide +kernel)) rfl ?_
  obtain ⟨h14, hr⟩ := nk_cke hr
  obtain ⟨S15, h16, hr⟩ := nk_lte hr
  refine nk_copy (x := 151) (len := 3) (t := 1) (N0 := 20480) (N1 := 20) (q1 := 9999) (q2 := 0) (q3 := 0) (pc' := 41) mJ_431 (by decide +kernel) (by decide +kernel) t12 t13 h14.1 h14.2.1 h14.2.2.1 h14.2.2.2.1 h14.2.2.2.2 rfl rfl (Nat.le_of_ble_eq_true rfl) rfl h16 ?_
  refine nk_p (i := .aload_n 0) (len := 1) (pc' := 42) mJ_431 (by decide +kernel) (ns_aload_n 2 rfl rfl) rfl ?_
  refine nk_getM (cj := 3) (z := 0) (x := 28) (len := 3) (ci := 9) (k := 0) (pc' := 45) ja_okT mJ_431 (by decide +kernel) (by decide +kernel) (by decide +kernel) t_l0 rfl (fun t17 => ?_)
  refine nk_getC (f := (4, 1, 1024)) (x := 80) (len := 3) (ci := 3) (k := 9) (pc' := 48) ja_okT mJ_431 (by decide +kernel) (by decide +kernel) (by decide +kernel) (by decide) t17 rfl ?_
  have t18 : nk_ar ja_Tt (ja_c (S15.2 l0 0) 9) = some (1, 1024) := nk_ta ja_okT t17 (by decide +kernel)
  refine nk_p (i := .iload_n 1) (len := 1) (pc' := 49) mJ_431 (by decide +kernel) (ns_iload_n 3 rfl rfl) rfl ?_
  refine nk_iald (len := 1) (N := 1024) (pc' := 50) mJ_431 (by decide +kernel) t18 h3.1 h3.2 rfl rfl ?_
  refine nk_p (i := .aload_n 0) (len := 1) (pc' := 51) mJ_431 (by decide +kernel) (ns_aload_n 2 rfl rfl) rfl ?_
  refine nk_getM (cj := 3) (z := 0) (x := 28) (len := 3) (ci := 9) (k := 0) (pc' := 54) ja_okT mJ_431 (by decide +kernel) (by decide +kernel) (by decide +kernel) t_l0 rfl (fun t19 => ?_)
  refine nk_p (i := .iload_n 1) (len := 1) (pc' := 55) mJ_431 (by decide +kernel) (ns_iload_n 3 rfl rfl) rfl ?_
  obtain ⟨r20, S21, h22, hr⟩ := nk_bde hr
  refine nk_callV (ci := 3) (n := 1) (x := 89) (len := 3) (j' := 308) (q' := 1) (r := r20) (S' := S21) (L2 := [(0, nk_r (S15.2 l0 0)), (1, nk_i l1)]) (rest := [nk_i (S15.1 (ja_c (S15.2 l0 0) 9) l1.toNat)]) (st' := [nk_i r20, nk_i (S15.1 (ja_c (S15.2 l0 0) 9) l1.toNat)]) (pc' := 58) mJ_431 (by decide +kernel) (by decide +kernel) rfl rfl t19 (Nat.le_of_ble_eq_true rfl) mJ_308 (Nat.le_of_ble_eq_true rfl) rfl (ja_X3_takes_ok zs _ _ _ _ t19 h22) rfl ?_
  refine nk_p (i := .isub) (len := 1) (pc' := 59) mJ_431 (by decide +kernel) ns_isub rfl ?_
  refine nk_p (i := .aload_n 0) (len := 1) (pc' := 60) mJ_431 (by decide +kernel) (ns_aload_n 2 rfl rfl) rfl ?_
  refine nk_getM (cj := 3) (z := 0) (x := 28) (len := 3) (ci := 9) (k := 0) (pc' := 63) ja_okT mJ_431 (by decide +kernel) (by decide +kernel) (by decide +kernel) t_l0 rfl (fun t23 => ?_)
  refine nk_p (i := .iload_n 1) (len := 1) (pc' := 64) mJ_431 (by decide +kernel) (ns_iload_n 3 rfl rfl) rfl ?_
  obtain ⟨r24, S25, h26, hr⟩ := nk_bde hr
  refine nk_callV (ci := 3) (n := 1) (x := 86) (len := 3) (j' := 306) (q' := 1) (r := r24) (S' := S25) (L2 := [(0, nk_r (S21.2 l0 0)), (1, nk_i l1)]) (rest := [nk_i (nk_w ((S15.1 (ja_c (S15.2 l0 0) 9) l1.toNat) - r20))]) (st' := [nk_i r24, nk_i (nk_w ((S15.1 (ja_c (S15.2 l0 0) 9) l1.toNat) - r20))]) (pc' := 67) mJ_431 (by decide +kernel) (by decide +kernel) rfl rfl t23 (Nat.le_of_ble_eq_true rfl) mJ_306 (Nat.le_of_ble_eq_true rfl) rfl (ja_X3_leaves_ok zs _ _ _ _ t23 h26) rfl ?_
  refine nk_p (i := .iadd) (len := 1) (pc' := 68) mJ_431 (by decide +kernel) ns_iadd rfl ?_
  obtain ⟨v27, h28, hr⟩ := nk_lte hr
  refine nk_p (i := .istore 4) (len := 2) (pc' := 70) mJ_431 (by decide +kernel) (ns_istore (L' := [(4, nk_i v27), (3, nk_i v10), (2, nk_i v4), (0, nk_r l0), (1, nk_i l1)]) h28 rfl (by decide +kernel)) rfl ?_
  refine nk_p (i := .aload_n 0) (len := 1) (pc' := 71) mJ_431 (by decide +kernel) (ns_aload_n 3 rfl rfl) rfl ?_
  refine nk_p (i := .iload_n 1) (len := 1) (pc' := 72) mJ_431 (by decide +kernel) (ns_iload_n 4 rfl rfl) rfl ?_
  obtain ⟨r29, S30, h31, hr⟩ := nk_bde hr
  refine nk_callV (ci := 9) (n := 1) (x := 157) (len := 3) (j' := 429) (q' := 1) (r := r29) (S' := S30) (L2 := [(0, nk_r l0), (1, nk_i l1)]) (rest := []) (st' := [nk_i r29]) (pc' := 75) mJ_431 (by decide +kernel) (by decide +kernel) rfl rfl t_l0 (Nat.le_of_ble_eq_true rfl) mJ_429 (Nat.le_of_ble_eq_true rfl) rfl (ja_X9_perform_ok zs _ _ _ _ t_l0 h31) rfl ?_
  refine nk_icond (c := .eq) (off := 39) (len := 3) (t := 114) (pc' := 78) mJ_431 (by decide +kernel) (by decide +kernel) rfl (fun hc => ?_) (fun hc => ?_)
  · have hr := nk_ifp (c := r29 = 0) hc hr
    refine nk_sub [3, 4, 2, 1] (L' := [(0, nk_r l0), (1, nk_i l1), (2, nk_i v4), (3, nk_i v10)]) rfl ?_
    exact ja_X9_spreadTypes_b114_ok zs _ _ _ _ _ _ t_l0 hr
  · have hr := nk_ifn (c := r29 = 0) hc hr
    refine nk_p (i := .aload_n 0) (len := 1) (pc' := 79) mJ_431 (by decide +kernel) (ns_aload_n 3 rfl rfl) rfl ?_
    refine nk_getM (cj := 3) (z := 0) (x := 28) (len := 3) (ci := 9) (k := 0) (pc' := 82) ja_okT mJ_431 (by decide +kernel) (by decide +kernel) (by decide +kernel) t_l0 rfl (fun t32 => ?_)
    refine nk_p (i := .iload_n 1) (len := 1) (pc' := 83) mJ_431 (by decide +kernel) (ns_iload_n 4 rfl rfl) rfl ?_
    obtain ⟨r33, S34, h35, hr⟩ := nk_bde hr
    refine nk_callV (ci := 3) (n := 1) (x := 92) (len := 3) (j' := 304) (q' := 1) (r := r33) (S' := S34) (L2 := [(0, nk_r (S30.2 l0 0)), (1, nk_i l1)]) (rest := []) (st' := [nk_i r33]) (pc' := 86) mJ_431 (by decide +kernel) (by decide +kernel) rfl rfl t32 (Nat.le_of_ble_eq_true rfl) mJ_304 (Nat.le_of_ble_eq_true rfl) rfl (ja_X3_fallsThrough_ok zs _ _ _ _ t32 h35) rfl ?_
    refine nk_icond (c := .eq) (off := 13) (len := 3) (t := 99) (pc' := 89) mJ_431 (by decide +kernel) (by decide +kernel) rfl (fun hc => ?_) (fun hc => ?_)
    · have hr := nk_ifp (c := r33 = 0) hc hr
      refine nk_sub [3, 4, 2, 1, 0] (L' := [(0, nk_r l0), (1, nk_i l1), (2, nk_i v4), (3, nk_i v10), (4, nk_i v27)]) rfl ?_
      exact ja_X9_spreadTypes_b99_ok zs _ _ _ _ _ _ _ t_l0 hr
    · have hr := nk_ifn (c := r33 = 0) hc hr
      refine nk_p (i := .aload_n 0) (len := 1) (pc' := 90) mJ_431 (by decide +kernel) (ns_aload_n 3 rfl rfl) rfl ?_
      refine nk_p (i := .iload_n 1) (len := 1) (pc' := 91) mJ_431 (by decide +kernel) (ns_iload_n 4 rfl rfl) rfl ?_
      refine nk_p (i := .iconst 1) (len := 1) (pc' := 92) mJ_431 (by decide +kernel) (ns_iconst (c := 1) (by decide +kernel)) rfl ?_
      refine nk_p (i := .iadd) (len := 1) (pc' := 93) mJ_431 (by decide +kernel) ns_iadd rfl ?_
      refine nk_p (i := .iload_n 3) (len := 1) (pc' := 94) mJ_431 (by decide +kernel) (ns_iload_n 1 rfl rfl) rfl ?_
      refine nk_p (i := .iload 4) (len := 2) (pc' := 96) mJ_431 (by decide +kernel) (ns_iload 0 rfl) rfl ?_
      obtain ⟨r36, S37, h38, hr⟩ := nk_bde hr
      refine nk_callV (ci := 9) (n := 3) (x := 136) (len := 3) (j' := 423) (q' := 0) (r := r36) (S' := S37) (L2 := [(0, nk_r l0), (1, nk_i (nk_w (l1 + 1))), (2, nk_i v10), (3, nk_i v27)]) (rest := []) (st' := []) (pc' := 99) mJ_431 (by decide +kernel) (by decide +kernel) rfl rfl t_l0 (Nat.le_of_ble_eq_true rfl) mJ_423 (Nat.le_of_ble_eq_true rfl) rfl (ja_X9_arrive_ok zs _ _ _ _ _ _ t_l0 h38) rfl ?_
      refine nk_sub [3, 4, 2, 1, 0] (L' := [(0, nk_r l0), (1, nk_i l1), (2, nk_i v4), (3, nk_i v10), (4, nk_i v27)]) rfl ?_
      exact ja_X9_spreadTypes_b99_ok zs _ _ _ _ _ _ _ t_l0 hr
/-! SafeCode$Classes isBelow (II)Z -/
noncomputable def ja_X1_isBelow (l0 : Nat) (l1 : Int) (l2 : Int) (S : nk_S) : Option (Int × nk_S) :=
  if l1 = l2 then
    some (1, S)
  else
    if l2 = 0 then
      some (1, S)
    else
      if l1 < 2 then
        some (0, S)
      else
        if 2 < l2 then
          if l1 = 2 then
            some (1, S)
          else
            if l2 = 4 then
              some (1, S)
            else
              if l1 = 3 then
                some (0, S)
              else
                if l2 = 3 then
                  some (0, S)
                else
                  if (nk_iand l1 1) = (nk_iand l2 1) then
                    nk_bd (ja_X1_classOf l2 S) fun r1 S2 =>
                    nk_bd (ja_X1_classOf l1 S2) fun r4 S5 =>
                    nk_bd (ja_X1_isAbove l0 r1 r4 S5) fun r7 S8 =>
                    if r7 = 0 ∨ r7 = 1 then
                    some (r7, S8)
                    else none
                  else
                    some (0, S)
        else
          some (0, S)
theorem ja_X1_isBelow_ok (zs : List Int32) : ∀ (l0 : Nat) (l1 : Int) (l2 : Int) (S : nk_S) (R : Int × nk_S), nk_cl ja_Tt l0 = some 1 → ja_X1_isBelow l0 l1 l2 S = some R → nk_K ja_Tt mi_Γ (mi_ev zs) 1 256 0 [(0, nk_r l0), (1, nk_i l1), (2, nk_i l2)] [] S R := by
  intro l0 l1 l2 S R t_l0 hr
  unfold ja_X1_isBelow at hr
  refine nk_p (i := .iload_n 1) (len := 1) (pc' := 1) mJ_256 (by decide +kernel) (ns_iload_n 1 rfl rfl) rfl ?_
  refine nk_p (i := .iload_n 2) (len := 1) (pc' := 2) mJ_256 (by decide +kernel) (ns_iload_n 2 rfl rfl) rfl ?_
  refine nk_icmp (c := .eq) (off := 7) (len := 3) (t := 9) (pc' := 5) mJ_256 (by decide +kernel) (by decide +kernel) rfl (fun hc => ?_) (fun hc => ?_)
  · have hr := nk_ifp (c := l1 = l2) hc hr
    refine nk_p (i := .iconst 1) (len := 1) (pc' := 10) mJ_256 (by decide +kernel) (ns_iconst (c := 1) (by decide +kernel)) rfl ?_
    cases hr
    exact nk_iret (ty := .boolean) (len := 1) mJ_256 (by decide +kernel) rfl (nk_nar_z (by decide))
  · have hr := nk_ifn (c := l1 = l2) hc hr
    refine nk_p (i := .iload_n 2) (len := 1) (pc' := 6) mJ_256 (by decide +kernel) (ns_iload_n 2 rfl rfl) rfl ?_
    refine nk_icond (c := .ne) (off := 5) (len := 3) (t := 11) (pc' := 9) mJ_256 (by decide +kernel) (by decide +kernel) rfl (fun hc => ?_) (fun hc => ?_)
    · have hr := nk_ifn (c := l2 = 0) hc hr
      refine nk_p (i := .iload_n 1) (len := 1) (pc' := 12) mJ_256 (by decide +kernel) (ns_iload_n 1 rfl rfl) rfl ?_
      refine nk_p (i := .iconst 2) (len := 1) (pc' := 13) mJ_256 (by decide +kernel) (ns_iconst (c := 2) (by decide +kernel)) rfl ?_
      refine nk_icmp (c := .lt) (off := 8) (len := 3) (t := 21) (pc' := 16) mJ_256 (by decide +kernel) (by decide +kernel) rfl (fun hc => ?_) (fun hc => ?_)
      · have hr := nk_ifp (c := l1 < 2) hc hr
        refine nk_p (i := .iconst 0) (len := 1) (pc' := 22) mJ_256 (by decide +kernel) (ns_iconst (c := 0) (by decide +kernel)) rfl ?_
        cases hr
        exact nk_iret (ty := .boolean) (len := 1) mJ_256 (by decide +kernel) rfl (nk_nar_z (by decide))
      · have hr := nk_ifn (c := l1 < 2) hc hr
        refine nk_p (i := .iload_n 2) (len := 1) (pc' := 17) mJ_256 (by decide +kernel) (ns_iload_n 2 rfl rfl) rfl ?_
        refine nk_p (i := .iconst 2) (len := 1) (pc' := 18) mJ_256 (by decide +kernel) (ns_iconst (c := 2) (by decide +kernel)) rfl ?_
        refine nk_icmp (c := .gt) (off := 5) (len := 3) (t := 23) (pc' := 21) mJ_256 (by decide +kernel) (by decide +kernel) rfl (fun hc => ?_) (fun hc => ?_)
        · have hr := nk_ifp (c := 2 < l2) hc hr
          refine nk_p (i := .iload_n 1) (len := 1) (pc' := 24) mJ_256 (by decide +kernel) (ns_iload_n 1 rfl rfl) rfl ?_
          refine nk_p (i := .iconst 2) (len := 1) (pc' := 25) mJ_256 (by decide +kernel) (ns_iconst (c := 2) (by decide +kernel)) rfl ?_
          refine nk_icmp (c := .eq) (off := 8) (len := 3) (t := 33) (pc' := 28) mJ_256 (by decide +kernel) (by decide +kernel) rfl (fun hc => ?_) (fun hc => ?_)
          · have hr := nk_ifp (c := l1 = 2) hc hr
            refine nk_p (i := .iconst 1) (len := 1) (pc' := 34) mJ_256 (by decide +kernel) (ns_iconst (c := 1) (by decide +kernel)) rfl ?_
            cases hr
            exact nk_iret (ty := .boolean) (len := 1) mJ_256 (by decide +kernel) rfl (nk_nar_z (by decide))
          · have hr := nk_ifn (c := l1 = 2) hc hr
            refine nk_p (i := .iload_n 2) (len := 1) (pc' := 29) mJ_256 (by decide +kernel) (ns_iload_n 2 rfl rfl) rfl ?_
            refine nk_p (i := .iconst 4) (len := 1) (pc' := 30) mJ_256 (by decide +kernel) (ns_iconst (c := 4) (by decide +kernel)) rfl ?_
            refine nk_icmp (c := .ne) (off := 5) (len := 3) (t := 35) (pc' := 33) mJ_256 (by decide +kernel) (by decide +kernel) rfl (fun hc => ?_) (fun hc => ?_)
            · have hr := nk_ifn (c := l2 = 4) hc hr
              refine nk_p (i := .iload_n 1) (len := 1) (pc' := 36) mJ_256 (by decide +kernel) (ns_iload_n 1 rfl rfl) rfl ?_
              refine nk_p (i := .iconst 3) (len := 1) (pc' := 37) mJ_256 (by decide +kernel) (ns_iconst (c := 3) (by decide +kernel)) rfl ?_
              refine nk_icmp (c := .eq) (off := 17) (len := 3) (t := 54) (pc' := 40) mJ_256 (by decide +kernel) (by decide +kernel) rfl (fun hc => ?_) (fun hc => ?_)
              · have hr := nk_ifp (c := l1 = 3) hc hr
                refine nk_p (i := .iconst 0) (len := 1) (pc' := 55) mJ_256 (by decide +kernel) (ns_iconst (c := 0) (by decide +kernel)) rfl ?_
                cases hr
                exact nk_iret (ty := .boolean) (len := 1) mJ_256 (by decide +kernel) rfl (nk_nar_z (by decide))
              · have hr := nk_ifn (c := l1 = 3) hc hr
                refine nk_p (i := .iload_n 2) (len := 1) (pc' := 41) mJ_256 (by decide +kernel) (ns_iload_n 2 rfl rfl) rfl ?_
                refine nk_p (i := .iconst 3) (len := 1) (pc' := 42) mJ_256 (by decide +kernel) (ns_iconst (c := 3) (by decide +kernel)) rfl ?_
                refine nk_icmp (c := .eq) (off := 12) (len := 3) (t := 54) (pc' := 45) mJ_256 (by decide +kernel) (by decide +kernel) rfl (fun hc => ?_) (fun hc => ?_)
                · have hr := nk_ifp (c := l2 = 3) hc hr
                  refine nk_p (i := .iconst 0) (len := 1) (pc' := 55) mJ_256 (by decide +kernel) (ns_iconst (c := 0) (by decide +kernel)) rfl ?_
                  cases hr
                  exact nk_iret (ty := .boolean) (len := 1) mJ_256 (by decide +kernel) rfl (nk_nar_z (by decide))
                · have hr := nk_ifn (c := l2 = 3) hc hr
                  refine nk_p (i := .iload_n 1) (len := 1) (pc' := 46) mJ_256 (by decide +kernel) (ns_iload_n 1 rfl rfl) rfl ?_
                  refine nk_p (i := .iconst 1) (len := 1) (pc' := 47) mJ_256 (by decide +kernel) (ns_iconst (c := 1) (by decide +kernel)) rfl ?_
                  refine nk_p (i := .iand) (len := 1) (pc' := 48) mJ_256 (by decide +kernel) ns_iand rfl ?_
                  refine nk_p (i := .iload_n 2) (len := 1) (pc' := 49) mJ_256 (by decide +kernel) (ns_iload_n 2 rfl rfl) rfl ?_
                  refine nk_p (i := .iconst 1) (len := 1) (pc' := 50) mJ_256 (by decide +kernel) (ns_iconst (c := 1) (by decide +kernel)) rfl ?_
                  refine nk_p (i := .iand) (len := 1) (pc' := 51) mJ_256 (by decide +kernel) ns_iand rfl ?_
                  refine nk_icmp (c := .eq) (off := 5) (len := 3) (t := 56) (pc' := 54) mJ_256 (by decide +kernel) (by decide +kernel) rfl (fun hc => ?_) (fun hc => ?_)
                  · have hr := nk_ifp (c := (nk_iand l1 1) = (nk_iand l2 1)) hc hr
                    refine nk_p (i := .aload_n 0) (len := 1) (pc' := 57) mJ_256 (by decide +kernel) (ns_aload_n 0 rfl rfl) rfl ?_
                    refine nk_p (i := .iload_n 2) (len := 1) (pc' := 58) mJ_256 (by decide +kernel) (ns_iload_n 2 rfl rfl) rfl ?_
                    obtain ⟨r1, S2, h3, hr⟩ := nk_bde hr
                    refine nk_callS (ci := 0) (n := 1) (x := 54) (len := 3) (j' := 249) (q' := 1) (r := r1) (S' := S2) (L2 := [(0, nk_i l2)]) (rest := [nk_r l0]) (st' := [nk_i r1, nk_r l0]) (pc' := 61) mJ_256 (by decide +kernel) (by decide +kernel) (Nat.le_of_ble_eq_true rfl) rfl rfl (Nat.le_of_ble_eq_true rfl) mJ_249 (Nat.le_of_ble_eq_true rfl) ja_Tpos rfl (ja_X1_classOf_ok zs _ _ _ h3) rfl ?_
                    refine nk_p (i := .iload_n 1) (len := 1) (pc' := 62) mJ_256 (by decide +kernel) (ns_iload_n 1 rfl rfl) rfl ?_
                    obtain ⟨r4, S5, h6, hr⟩ := nk_bde hr
                    refine nk_callS (ci := 0) (n := 1) (x := 54) (len := 3) (j' := 249) (q' := 1) (r := r4) (S' := S5) (L2 := [(0, nk_i l1)]) (rest := [nk_i r1, nk_r l0]) (st' := [nk_i r4, nk_i r1, nk_r l0]) (pc' := 65) mJ_256 (by decide +kernel) (by decide +kernel) (Nat.le_of_ble_eq_true rfl) rfl rfl (Nat.le_of_ble_eq_true rfl) mJ_249 (Nat.le_of_ble_eq_true rfl) ja_Tpos rfl (ja_X1_classOf_ok zs _ _ _ h6) rfl ?_
                    obtain ⟨r7, S8, h9, hr⟩ := nk_bde hr
                    refine nk_callV (ci := 1) (n := 2) (x := 50) (len := 3) (j' := 254) (q' := 1) (r := r7) (S' := S8) (L2 := [(0, nk_r l0), (1, nk_i r1), (2, nk_i r4)]) (rest := []) (st' := [nk_i r7]) (pc' := 68) mJ_256 (by decide +kernel) (by decide +kernel) rfl rfl t_l0 (Nat.le_of_ble_eq_true rfl) mJ_254 (Nat.le_of_ble_eq_true rfl) rfl (ja_X1_isAbove_ok zs _ _ _ _ _ t_l0 h9) rfl ?_
                    obtain ⟨h10, hr⟩ := nk_cke hr
                    cases hr
                    exact nk_iret (ty := .boolean) (len := 1) mJ_256 (by decide +kernel) rfl (nk_nar_z h10)
                  · have hr := nk_ifn (c := (nk_iand l1 1) = (nk_iand l2 1)) hc hr
                    refine nk_p (i := .iconst 0) (len := 1) (pc' := 55) mJ_256 (by decide +kernel) (ns_iconst (c := 0) (by decide +kernel)) rfl ?_
                    cases hr
                    exact nk_iret (ty := .boolean) (len := 1) mJ_256 (by decide +kernel) rfl (nk_nar_z (by decide))
            · have hr := nk_ifp (c := l2 = 4) (Decidable.of_not_not hc) hr
              refine nk_p (i := .iconst 1) (len := 1) (pc' := 34) mJ_256 (by decide +kernel) (ns_iconst (c := 1) (by decide +kernel)) rfl ?_
              cases hr
              exact nk_iret (ty := .boolean) (len := 1) mJ_256 (by decide +kernel) rfl (nk_nar_z (by decide))
        · have hr := nk_ifn (c := 2 < l2) hc hr
          refine nk_p (i := .iconst 0) (len := 1) (pc' := 22) mJ_256 (by decide +kernel) (ns_iconst (c := 0) (by decide +kernel)) rfl ?_
          cases hr
          exact nk_iret (ty := .boolean) (len := 1) mJ_256 (by decide +kernel) rfl (nk_nar_z (by decide))
    · have hr := nk_ifp (c := l2 = 0) (Decidable.of_not_not hc) hr
      refine nk_p (i := .iconst 1) (len := 1) (pc' := 10) mJ_256 (by decide +kernel) (ns_iconst (c := 1) (by decide +kernel)) rfl ?_
      cases hr
      exact nk_iret (ty := .boolean) (len := 1) mJ_256 (by decide +kernel) rfl (nk_nar_z (by decide))
/-! SafeCode$Types suitsParameter (III)Z -/
noncomputable def ja_X9_suitsParameter_b66 (l0 : Nat) (l3 : Int) (s0 : Int) (S : nk_S) : Option (Int × nk_S) :=
  nk_bd (ja_X1_isBelow (S.2 l0 1) l3 s0 S) fun r2 S3 =>
  if r2 = 0 ∨ r2 = 1 then
  some (r2, S3)
  else none
theorem ja_X9_suitsParameter_b66_ok (zs : List Int32) : ∀ (l0 : Nat) (l3 : Int) (s0 : Int) (S : nk_S) (R : Int × nk_S), nk_cl ja_Tt l0 = some 9 → ja_X9_suitsParameter_b66 l0 l3 s0 S = some R → nk_K ja_Tt mi_Γ (mi_ev zs) 1 433 66 [(0, nk_r l0), (3, nk_i l3)] [nk_i s0] S R := by
  intro l0 l3 s0 S R t_l0 hr
  unfold ja_X9_suitsParameter_b66 at hr
  refine nk_p (i := .istore 5) (len := 2) (pc' := 68) mJ_433 (by decide +kernel) (ns_istore (L' := [(5, nk_i s0), (0, nk_r l0), (3, nk_i l3)]) rfl rfl (by decide +kernel)) rfl ?_
  refine nk_p (i := .aload_n 0) (len := 1) (pc' := 69) mJ_433 (by decide +kernel) (ns_aload_n 1 rfl rfl) rfl ?_
  refine nk_getM (cj := 1) (z := 0) (x := 38) (len := 3) (ci := 9) (k := 1) (pc' := 72) ja_okT mJ_433 (by decide +kernel) (by decide +kernel) (by decide +kernel) t_l0 rfl (fun t1 => ?_)
  refine nk_p (i := .iload_n 3) (len := 1) (pc' := 73) mJ_433 (by decide +kernel) (ns_iload_n 2 rfl rfl) rfl ?_
  refine nk_p (i := .iload 5) (len := 2) (pc' := 75) mJ_433 (by decide +kernel) (ns_iload 0 rfl) rfl ?_
  obtain ⟨r2, S3, h4, hr⟩ := nk_bde hr
  refine nk_callV (ci := 1) (n := 2) (x := 201) (len := 3) (j' := 256) (q' := 1) (r := r2) (S' := S3) (L2 := [(0, nk_r (S.2 l0 1)), (1, nk_i l3), (2, nk_i s0)]) (rest := []) (st' := [nk_i r2]) (pc' := 78) mJ_433 (by decide +kernel) (by decide +kernel) rfl rfl t1 (Nat.le_of_ble_eq_true rfl) mJ_256 (Nat.le_of_ble_eq_true rfl) rfl (ja_X1_isBelow_ok zs _ _ _ _ _ t1 h4) rfl ?_
  obtain ⟨h5, hr⟩ := nk_cke hr
  cases hr
  exact nk_iret (ty := .boolean) (len := 1) mJ_433 (by decide +kernel) rfl (nk_nar_z h5)
noncomputable def ja_X9_suitsParameter_b23 (l0 : Nat) (l1 : Int) (l2 : Int) (l3 : Int) (s0 : Int) (S : nk_S) : Option (Int × nk_S) :=
  if s0 = 0 then
    if 0 ≤ l1 ∧ l1 < 1024 then
    nk_bd (ja_X0_parameter (ja_c (S.2 l0 0) 1) (S.1 (ja_c (S.2 l0 0) 5) l1.toNat) l2 S) fun r6 S7 =>
    ja_X9_suitsParameter_b66 l0 l3 r6 S7
    else none
  else
    if 0 ≤ l1 ∧ l1 < 1024 then
    ja_X9_suitsParameter_b66 l0 l3 (nk_w (4 + (nk_w (2 * (S.1 (ja_c (S.2 l0 0) 6) l1.toNat))))) S
    else none
theorem ja_X9_suitsParameter_b23_ok (zs : List Int32) : ∀ (l0 : Nat) (l1 : Int) (l2 : Int) (l3 : Int) (s0 : Int) (S : nk_S) (R : Int × nk_S), nk_cl ja_Tt l0 = some 9 → ja_X9_suitsParameter_b23 l0 l1 l2 l3 s0 S = some R → nk_K ja_Tt mi_Γ (mi_ev zs) 1 433 23 [(0, nk_r l0), (1, nk_i l1), (2, nk_i l2), (3, nk_i l3)] [nk_i s0] S R := by
  intro l0 l1 l2 l3 s0 S R t_l0 hr
  unfold ja_X9_suitsParameter_b23 at hr
  refine nk_p (i := .istore 4) (len := 2) (pc' := 25) mJ_433 (by decide +kernel) (ns_istore (L' := [(4, nk_i s0), (0, nk_r l0), (1, nk_i l1), (2, nk_i l2), (3, nk_i l3)]) rfl rfl (by decide +kernel)) rfl ?_
  refine nk_p (i := .iload 4) (len := 2) (pc' := 27) mJ_433 (by decide +kernel) (ns_iload 0 rfl) rfl ?_
  refine nk_icond (c := .eq) (off := 19) (len := 3) (t := 46) (pc' := 30) mJ_433 (by decide +kernel) (by decide +kernel) rfl (fun hc => ?_) (fun hc => ?_)
  · have hr := nk_ifp (c := s0 = 0) hc hr
    refine nk_p (i := .aload_n 0) (len := 1) (pc' := 47) mJ_433 (by decide +kernel) (ns_aload_n 1 rfl rfl) rfl ?_
    refine nk_getM (cj := 3) (z := 0) (x := 28) (len := 3) (ci := 9) (k := 0) (pc' := 50) ja_okT mJ_433 (by decide +kernel) (by decide +kernel) (by decide +kernel) t_l0 rfl (fun t1 => ?_)
    refine nk_getC (f := (2, 0, 0)) (x := 39) (len := 3) (ci := 3) (k := 1) (pc' := 53) ja_okT mJ_433 (by decide +kernel) (by decide +kernel) (by decide +kernel) (by decide) t1 rfl ?_
    have t2 : nk_cl ja_Tt (ja_c (S.2 l0 0) 1) = some 0 := nk_tc (y := 0) ja_okT t1 (by decide +kernel)
    refine nk_p (i := .aload_n 0) (len := 1) (pc' := 54) mJ_433 (by decide +kernel) (ns_aload_n 1 rfl rfl) rfl ?_
    refine nk_getM (cj := 3) (z := 0) (x := 28) (len := 3) (ci := 9) (k := 0) (pc' := 57) ja_okT mJ_433 (by decide +kernel) (by decide +kernel) (by decide +kernel) t_l0 rfl (fun t3 => ?_)
    refine nk_getC (f := (4, 1, 1024)) (x := 166) (len := 3) (ci := 3) (k := 5) (pc' := 60) ja_okT mJ_433 (by decide +kernel) (by decide +kernel) (by decide +kernel) (by decide) t3 rfl ?_
    have t4 : nk_ar ja_Tt (ja_c (S.2 l0 0) 5) = some (1, 1024) := nk_ta ja_okT t3 (by decide +kernel)
    refine nk_p (i := .iload_n 1) (len := 1) (pc' := 61) mJ_433 (by decide +kernel) (ns_iload_n 2 rfl rfl) rfl ?_
    obtain ⟨h5, hr⟩ := nk_cke hr
    refine nk_iald (len := 1) (N := 1024) (pc' := 62) mJ_433 (by decide +kernel) t4 h5.1 h5.2 rfl rfl ?_
    refine nk_p (i := .iload_n 2) (len := 1) (pc' := 63) mJ_433 (by decide +kernel) (ns_iload_n 3 rfl rfl) rfl ?_
    obtain ⟨r6, S7, h8, hr⟩ := nk_bde hr
    refine nk_callV (ci := 0) (n := 2) (x := 129) (len := 3) (j' := 28) (q' := 1) (r := r6) (S' := S7) (L2 := [(0, nk_r (ja_c (S.2 l0 0) 1)), (1, nk_i (S.1 (ja_c (S.2 l0 0) 5) l1.toNat)), (2, nk_i l2)]) (rest := []) (st' := [nk_i r6]) (pc' := 66) mJ_433 (by decide +kernel) (by decide +kernel) rfl rfl t2 (Nat.le_of_ble_eq_true rfl) mJ_28 (Nat.le_of_ble_eq_true rfl) rfl (ja_X0_parameter_ok zs _ _ _ _ _ t2 h8) rfl ?_
    refine nk_sub [1, 4] (L' := [(0, nk_r l0), (3, nk_i l3)]) rfl ?_
    exact ja_X9_suitsParameter_b66_ok zs _ _ _ _ _ t_l0 hr
  · have hr := nk_ifn (c := s0 = 0) hc hr
    refine nk_p (i := .iconst 4) (len := 1) (pc' := 31) mJ_433 (by decide +kernel) (ns_iconst (c := 4) (by decide +kernel)) rfl ?_
    refine nk_p (i := .iconst 2) (len := 1) (pc' := 32) mJ_433 (by decide +kernel) (ns_iconst (c := 2) (by decide +kernel)) rfl ?_
    refine nk_p (i := .aload_n 0) (len := 1) (pc' := 33) mJ_433 (by decide +kernel) (ns_aload_n 1 rfl rfl) rfl ?_
    refine nk_getM (cj := 3) (z := 0) (x := 28) (len := 3) (ci := 9) (k := 0) (pc' := 36) ja_okT mJ_433 (by decide +kernel) (by decide +kernel) (by decide +kernel) t_l0 rfl (fun t9 => ?_)
    refine nk_getC (f := (4, 1, 1024)) (x := 175) (len := 3) (ci := 3) (k := 6) (pc' := 39) ja_okT mJ_433 (by decide +kernel) (by decide +kernel) (by decide +kernel) (by decide) t9 rfl ?_
    have t10 : nk_ar ja_Tt (ja_c (S.2 l0 0) 6) = some (1, 1024) := nk_ta ja_okT t9 (by decide +kernel)
    refine nk_p (i := .iload_n 1) (len := 1) (pc' := 40) mJ_433 (by decide +kernel) (ns_iload_n 2 rfl rfl) rfl ?_
    obtain ⟨h11, hr⟩ := nk_cke hr
    refine nk_iald (len := 1) (N := 1024) (pc' := 41) mJ_433 (by decide +kernel) t10 h11.1 h11.2 rfl rfl ?_
    refine nk_p (i := .imul) (len := 1) (pc' := 42) mJ_433 (by decide +kernel) ns_imul rfl ?_
    refine nk_p (i := .iadd) (len := 1) (pc' := 43) mJ_433 (by decide +kernel) ns_iadd rfl ?_
    refine nk_p (i := .goto 23) (len := 3) (pc' := 66) mJ_433 (by decide +kernel) (ns_goto (by decide +kernel)) rfl ?_
    refine nk_sub [1, 4] (L' := [(0, nk_r l0), (3, nk_i l3)]) rfl ?_
    exact ja_X9_suitsParameter_b66_ok zs _ _ _ _ _ t_l0 hr
noncomputable def ja_X9_suitsParameter_b22 (l0 : Nat) (l1 : Int) (l2 : Int) (l3 : Int) (S : nk_S) : Option (Int × nk_S) :=
  ja_X9_suitsParameter_b23 l0 l1 l2 l3 0 S
theorem ja_X9_suitsParameter_b22_ok (zs : List Int32) : ∀ (l0 : Nat) (l1 : Int) (l2 : Int) (l3 : Int) (S : nk_S) (R : Int × nk_S), nk_cl ja_Tt l0 = some 9 → ja_X9_suitsParameter_b22 l0 l1 l2 l3 S = some R → nk_K ja_Tt mi_Γ (mi_ev zs) 1 433 22 [(0, nk_r l0), (1, nk_i l1), (2, nk_i l2), (3, nk_i l3)] [] S R := by
  intro l0 l1 l2 l3 S R t_l0 hr
  unfold ja_X9_suitsParameter_b22 at hr
  refine nk_p (i := .iconst 0) (len := 1) (pc' := 23) mJ_433 (by decide +kernel) (ns_iconst (c := 0) (by decide +kernel)) rfl ?_
  exact ja_X9_suitsParameter_b23_ok zs _ _ _ _ _ _ _ t_l0 hr
noncomputable def ja_X9_suitsParameter (l0 : Nat) (l1 : Int) (l2 : Int) (l3 : Int) (S : nk_S) : Option (Int × nk_S) :=
  if l2 = 0 then
    if 0 ≤ l1 ∧ l1 < 1024 then
    if (S.1 (ja_c (S.2 l0 0) 4) l1.toNat) = 40 then
      ja_X9_suitsParameter_b23 l0 l1 l2 l3 1 S
    else
      ja_X9_suitsParameter_b22 l0 l1 l2 l3 S
    else none
  else
    ja_X9_suitsParameter_b22 l0 l1 l2 l3 S
theorem ja_X9_suitsParameter_ok (zs : List Int32) : ∀ (l0 : Nat) (l1 : Int) (l2 : Int) (l3 : Int) (S : nk_S) (R : Int × nk_S), nk_cl ja_Tt l0 = some 9 → ja_X9_suitsParameter l0 l1 l2 l3 S = some R → nk_K ja_Tt mi_Γ (mi_ev zs) 1 433 0 [(0, nk_r l0), (1, nk_i l1), (2, nk_i l2), (3, nk_i l3)] [] S R := by
  intro l0 l1 l2 l3 S R t_l0 hr
  unfold ja_X9_suitsParameter at hr
  refine nk_p (i := .iload_n 2) (len := 1) (pc' := 1) mJ_433 (by decide +kernel) (ns_iload_n 2 rfl rfl) rfl ?_
  refine nk_icond (c := .ne) (off := 21) (len := 3) (t := 22) (pc' := 4) mJ_433 (by decide +kernel) (by decide +kernel) rfl (fun hc => ?_) (fun hc => ?_)
  · have hr := nk_ifn (c := l2 = 0) hc hr
    exact ja_X9_suitsParameter_b22_ok zs _ _ _ _ _ _ t_l0 hr
  · have hr := nk_ifp (c := l2 = 0) (Decidable.of_not_not hc) hr
    refine nk_p (i := .aload_n 0) (len := 1) (pc' := 5) mJ_433 (by decide +kernel) (ns_aload_n 0 rfl rfl) rfl ?_
    refine nk_getM (cj := 3) (z := 0) (x := 28) (len := 3) (ci := 9) (k := 0) (pc' := 8) ja_okT mJ_433 (by decide +kernel) (by decide +kernel) (by decide +kernel) t_l0 rfl (fun t1 => ?_)
    refine nk_getC (f := (4, 1, 1024)) (x := 163) (len := 3) (ci := 3) (k := 4) (pc' := 11) ja_okT mJ_433 (by decide +kernel) (by decide +kernel) (by decide +kernel) (by decide) t1 rfl ?_
    have t2 : nk_ar ja_Tt (ja_c (S.2 l0 0) 4) = some (1, 1024) := nk_ta ja_okT t1 (by decide +kernel)
    refine nk_p (i := .iload_n 1) (len := 1) (pc' := 12) mJ_433 (by decide +kernel) (ns_iload_n 1 rfl rfl) rfl ?_
    obtain ⟨h3, hr⟩ := nk_cke hr
    refine nk_iald (len := 1) (N := 1024) (pc' := 13) mJ_433 (by decide +kernel) t2 h3.1 h3.2 rfl rfl ?_
    refine nk_p (i := .bipush 40) (len := 2) (pc' := 15) mJ_433 (by decide +kernel) (ns_bipush (c := 40) (by decide +kernel)) rfl ?_
    refine nk_icmp (c := .ne) (off := 7) (len := 3) (t := 22) (pc' := 18) mJ_433 (by decide +kernel) (by decide +kernel) rfl (fun hc => ?_) (fun hc => ?_)
    · have hr := nk_ifn (c := (S.1 (ja_c (S.2 l0 0) 4) l1.toNat) = 40) hc hr
      exact ja_X9_suitsParameter_b22_ok zs _ _ _ _ _ _ t_l0 hr
    · have hr := nk_ifp (c := (S.1 (ja_c (S.2 l0 0) 4) l1.toNat) = 40) (Decidable.of_not_not hc) hr
      refine nk_p (i := .iconst 1) (len := 1) (pc' := 19) mJ_433 (by decide +kernel) (ns_iconst (c := 1) (by decide +kernel)) rfl ?_
      refine nk_p (i := .goto 4) (len := 3) (pc' := 23) mJ_433 (by decide +kernel) (ns_goto (by decide +kernel)) rfl ?_
      exact ja_X9_suitsParameter_b23_ok zs _ _ _ _ _ _ _ t_l0 hr
/-! SafeCode$Classes isRef (I)Z -/
noncomputable def ja_X1_isRef (l0 : Int) (S : nk_S) : Option (Int × nk_S) :=
  if l0 < 2 then
    some (0, S)
  else
    some (1, S)
theorem ja_X1_isRef_ok (zs : List Int32) : ∀ (l0 : Int) (S : nk_S) (R : Int × nk_S), ja_X1_isRef l0 S = some R → nk_K ja_Tt mi_Γ (mi_ev zs) 1 257 0 [(0, nk_i l0)] [] S R := by
  intro l0 S R hr
  unfold ja_X1_isRef at hr
  refine nk_p (i := .iload_n 0) (len := 1) (pc' := 1) mJ_257 (by decide +kernel) (ns_iload_n 0 rfl rfl) rfl ?_
  refine nk_p (i := .iconst 2) (len := 1) (pc' := 2) mJ_257 (by decide +kernel) (ns_iconst (c := 2) (by decide +kernel)) rfl ?_
  refine nk_icmp (c := .lt) (off := 7) (len := 3) (t := 9) (pc' := 5) mJ_257 (by decide +kernel) (by decide +kernel) rfl (fun hc => ?_) (fun hc => ?_)
  · have hr := nk_ifp (c := l0 < 2) hc hr
    refine nk_p (i := .iconst 0) (len := 1) (pc' := 10) mJ_257 (by decide +kernel) (ns_iconst (c := 0) (by decide +kernel)) rfl ?_
    cases hr
    exact nk_iret (ty := .boolean) (len := 1) mJ_257 (by decide +kernel) rfl (nk_nar_z (by decide))
  · have hr := nk_ifn (c := l0 < 2) hc hr
    refine nk_p (i := .iconst 1) (len := 1) (pc' := 6) mJ_257 (by decide +kernel) (ns_iconst (c := 1) (by decide +kernel)) rfl ?_
    refine nk_p (i := .goto 4) (len := 3) (pc' := 10) mJ_257 (by decide +kernel) (ns_goto (by decide +kernel)) rfl ?_
    cases hr
    exact nk_iret (ty := .boolean) (len := 1) mJ_257 (by decide +kernel) rfl (nk_nar_z (by decide))
/-! SafeCode$Types suits (IIII)Z -/
noncomputable def ja_X9_suits (l0 : Nat) (l1 : Int) (l2 : Int) (l3 : Int) (l4 : Int) (S : nk_S) : Option (Int × nk_S) :=
  if l2 = 1 then
    if l4 = 1 then
      some (1, S)
    else
      some (0, S)
  else
  if l2 = 2 then
    nk_bd (ja_X1_isRef l4 S) fun r1 S2 =>
    if r1 = 0 ∨ r1 = 1 then
    some (r1, S2)
    else none
  else
  if l2 = 3 then
    if l4 = 2 then
      some (1, S)
    else
      nk_bd (ja_X1_isArray l4 S) fun r5 S6 =>
      if r5 = 0 then
        some (0, S6)
      else
        some (1, S6)
  else
  if l2 = 4 then
    some (1, S)
  else
  if l2 = 5 then
    if 0 ≤ l1 ∧ l1 < 1024 then
    nk_bd (ja_X1_isBelow (S.2 l0 1) l4 (nk_w (4 + (nk_w (2 * (S.1 (ja_c (S.2 l0 0) 6) l1.toNat))))) S) fun r12 S13 =>
    if r12 = 0 ∨ r12 = 1 then
    some (r12, S13)
    else none
    else none
  else
  if l2 = 6 then
    if 0 ≤ l1 ∧ l1 < 1024 then
    if 0 ≤ (S.1 (ja_c (S.2 l0 0) 5) l1.toNat) ∧ (S.1 (ja_c (S.2 l0 0) 5) l1.toNat) < 48 then
    nk_bd (ja_X1_isBelow (S.2 l0 1) l4 (S.1 (ja_c (S.2 l0 1) 7) (S.1 (ja_c (S.2 l0 0) 5) l1.toNat).toNat) S) fun r23 S24 =>
    if r23 = 0 ∨ r23 = 1 then
    some (r23, S24)
    else none
    else none
    else none
  else
  if l2 = 7 then
    if l3 = 2 then
      if l4 = 0 then
        some (0, S)
      else
        some (1, S)
    else
      nk_bd (ja_X1_element l3 S) fun r28 S29 =>
      nk_bd (ja_X1_isBelow (S.2 l0 1) l4 r28 S29) fun r31 S32 =>
      if r31 = 0 ∨ r31 = 1 then
      some (r31, S32)
      else none
  else
  if l2 = 8 then
    nk_bd (ja_X1_isBelow (S.2 l0 1) l4 6 S) fun r36 S37 =>
    if r36 = 0 ∨ r36 = 1 then
    some (r36, S37)
    else none
  else
  if 0 ≤ l1 ∧ l1 < 1024 then
  if 0 ≤ (S.1 (ja_c (S.2 l0 0) 8) l1.toNat) ∧ (S.1 (ja_c (S.2 l0 0) 8) l1.toNat) < 48 then
  nk_lt (S.1 (ja_c (ja_c (S.2 l0 0) 1) 7) (S.1 (ja_c (S.2 l0 0) 8) l1.toNat).toNat) fun v47 =>
  if v47 = (-1) then
    some (0, S)
  else
    nk_bd (ja_X1_isBelow (S.2 l0 1) l4 v47 S) fun r50 S51 =>
    if r50 = 0 then
      some (0, S51)
    else
      some (1, S51)
  else none
  else none
theorem ja_X9_suits_ok (zs : List Int32) : ∀ (l0 : Nat) (l1 : Int) (l2 : Int) (l3 : Int) (l4 : Int) (S : nk_S) (R : Int × nk_S), nk_cl ja_Tt l0 = some 9 → ja_X9_suits l0 l1 l2 l3 l4 S = some R → nk_K ja_Tt mi_Γ (mi_ev zs) 1 432 0 [(0, nk_r l0), (1, nk_i l1), (2, nk_i l2), (3, nk_i l3), (4, nk_i l4)] [] S R := by
  intro l0 l1 l2 l3 l4 S R t_l0 hr
  unfold ja_X9_suits at hr
  refine nk_p (i := .iload_n 2) (len := 1) (pc' := 1) mJ_432 (by decide +kernel) (ns_iload_n 2 rfl rfl) rfl ?_
  by_cases hc0 : l2 = 1
  · have hr := nk_ifp hc0 hr
    refine nk_p (i := .tableswitch 181 1 8 #[47, 59, 65, 85, 87, 110, 137, 169]) (len := 47) (pc' := 48) mJ_432 (by decide +kernel) (ns_tsw (V := 1) hc0 (by decide +kernel)) rfl ?_
    refine nk_p (i := .iload 4) (len := 2) (pc' := 50) mJ_432 (by decide +kernel) (ns_iload 4 rfl) rfl ?_
    refine nk_p (i := .iconst 1) (len := 1) (pc' := 51) mJ_432 (by decide +kernel) (ns_iconst (c := 1) (by decide +kernel)) rfl ?_
    refine nk_icmp (c := .ne) (off := 7) (len := 3) (t := 58) (pc' := 54) mJ_432 (by decide +kernel) (by decide +kernel) rfl (fun hc => ?_) (fun hc => ?_)
    · have hr := nk_ifn (c := l4 = 1) hc hr
      refine nk_p (i := .iconst 0) (len := 1) (pc' := 59) mJ_432 (by decide +kernel) (ns_iconst (c := 0) (by decide +kernel)) rfl ?_
      cases hr
      exact nk_iret (ty := .boolean) (len := 1) mJ_432 (by decide +kernel) rfl (nk_nar_z (by decide))
    · have hr := nk_ifp (c := l4 = 1) (Decidable.of_not_not hc) hr
      refine nk_p (i := .iconst 1) (len := 1) (pc' := 55) mJ_432 (by decide +kernel) (ns_iconst (c := 1) (by decide +kernel)) rfl ?_
      refine nk_p (i := .goto 4) (len := 3) (pc' := 59) mJ_432 (by decide +kernel) (ns_goto (by decide +kernel)) rfl ?_
      cases hr
      exact nk_iret (ty := .boolean) (len := 1) mJ_432 (by decide +kernel) rfl (nk_nar_z (by decide))
  have hr := nk_ifn hc0 hr
  by_cases hc1 : l2 = 2
  · have hr := nk_ifp hc1 hr
    refine nk_p (i := .tableswitch 181 1 8 #[47, 59, 65, 85, 87, 110, 137, 169]) (len := 47) (pc' := 60) mJ_432 (by decide +kernel) (ns_tsw (V := 2) hc1 (by decide +kernel)) rfl ?_
    refine nk_p (i := .iload 4) (len := 2) (pc' := 62) mJ_432 (by decide +kernel) (ns_iload 4 rfl) rfl ?_
    obtain ⟨r1, S2, h3, hr⟩ := nk_bde hr
    refine nk_callS (ci := 0) (n := 1) (x := 204) (len := 3) (j' := 257) (q' := 1) (r := r1) (S' := S2) (L2 := [(0, nk_i l4)]) (rest := []) (st' := [nk_i r1]) (pc' := 65) mJ_432 (by decide +kernel) (by decide +kernel) (Nat.le_of_ble_eq_true rfl) rfl rfl (Nat.le_of_ble_eq_true rfl) mJ_257 (Nat.le_of_ble_eq_true rfl) ja_Tpos rfl (ja_X1_isRef_ok zs _ _ _ h3) rfl ?_
    obtain ⟨h4, hr⟩ := nk_cke hr
    cases hr
    exact nk_iret (ty := .boolean) (len := 1) mJ_432 (by decide +kernel) rfl (nk_nar_z h4)
  have hr := nk_ifn hc1 hr
  by_cases hc2 : l2 = 3
  · have hr := nk_ifp hc2 hr
    refine nk_p (i := .tableswitch 181 1 8 #[47, 59, 65, 85, 87, 110, 137, 169]) (len := 47) (pc' := 66) mJ_432 (by decide +kernel) (ns_tsw (V := 3) hc2 (by decide +kernel)) rfl ?_
    refine nk_p (i := .iload 4) (len := 2) (pc' := 68) mJ_432 (by decide +kernel) (ns_iload 4 rfl) rfl ?_
    refine nk_p (i := .iconst 2) (len := 1) (pc' := 69) mJ_432 (by decide +kernel) (ns_iconst (c := 2) (by decide +kernel)) rfl ?_
    refine nk_icmp (c := .eq) (off := 11) (len := 3) (t := 80) (pc' := 72) mJ_432 (by decide +kernel) (by decide +kernel) rfl (fun hc => ?_) (fun hc => ?_)
    · have hr := nk_ifp (c := l4 = 2) hc hr
      refine nk_p (i := .iconst 1) (len := 1) (pc' := 81) mJ_432 (by decide +kernel) (ns_iconst (c := 1) (by decide +kernel)) rfl ?_
      refine nk_p (i := .goto 4) (len := 3) (pc' := 85) mJ_432 (by decide +kernel) (ns_goto (by decide +kernel)) rfl ?_
      cases hr
      exact nk_iret (ty := .boolean) (len := 1) mJ_432 (by decide +kernel) rfl (nk_nar_z (by decide))
    · have hr := nk_ifn (c := l4 = 2) hc hr
      refine nk_p (i := .iload 4) (len := 2) (pc' := 74) mJ_432 (by decide +kernel) (ns_iload 4 rfl) rfl ?_
      obtain ⟨r5, S6, h7, hr⟩ := nk_bde hr
      refine nk_callS (ci := 0) (n := 1) (x := 178) (len := 3) (j' := 255) (q' := 1) (r := r5) (S' := S6) (L2 := [(0, nk_i l4)]) (rest := []) (st' := [nk_i r5]) (pc' := 77) mJ_432 (by decide +kernel) (by decide +kernel) (Nat.le_of_ble_eq_true rfl) rfl rfl (Nat.le_of_ble_eq_true rfl) mJ_255 (Nat.le_of_ble_eq_true rfl) ja_Tpos rfl (ja_X1_isArray_ok zs _ _ _ h7) rfl ?_
      refine nk_icond (c := .eq) (off := 7) (len := 3) (t := 84) (pc' := 80) mJ_432 (by decide +kernel) (by decide +kernel) rfl (fun hc => ?_) (fun hc => ?_)
      · have hr := nk_ifp (c := r5 = 0) hc hr
        refine nk_p (i := .iconst 0) (len := 1) (pc' := 85) mJ_432 (by decide +kernel) (ns_iconst (c := 0) (by decide +kernel)) rfl ?_
        cases hr
        exact nk_iret (ty := .boolean) (len := 1) mJ_432 (by decide +kernel) rfl (nk_nar_z (by decide))
      · have hr := nk_ifn (c := r5 = 0) hc hr
        refine nk_p (i := .iconst 1) (len := 1) (pc' := 81) mJ_432 (by decide +kernel) (ns_iconst (c := 1) (by decide +kernel)) rfl ?_
        refine nk_p (i := .goto 4) (len := 3) (pc' := 85) mJ_432 (by decide +kernel) (ns_goto (by decide +kernel)) rfl ?_
        cases hr
        exact nk_iret (ty := .boolean) (len := 1) mJ_432 (by decide +kernel) rfl (nk_nar_z (by decide))
  have hr := nk_ifn hc2 hr
  by_cases hc3 : l2 = 4
  · have hr := nk_ifp hc3 hr
    refine nk_p (i := .tableswitch 181 1 8 #[47, 59, 65, 85, 87, 110, 137, 169]) (len := 47) (pc' := 86) mJ_432 (by decide +kernel) (ns_tsw (V := 4) hc3 (by decide +kernel)) rfl ?_
    refine nk_p (i := .iconst 1) (len := 1) (pc' := 87) mJ_432 (by decide +kernel) (ns_iconst (c := 1) (by decide +kernel)) rfl ?_
    cases hr
    exact nk_iret (ty := .boolean) (len := 1) mJ_432 (by decide +kernel) rfl (nk_nar_z (by decide))
  have hr := nk_ifn hc3 hr
  by_cases hc4 : l2 = 5
  · have hr := nk_ifp hc4 hr
    refine nk_p (i := .tableswitch 181 1 8 #[47, 59, 65, 85, 87, 110, 137, 169]) (len := 47) (pc' := 88) mJ_432 (by decide +kernel) (ns_tsw (V := 5) hc4 (by decide +kernel)) rfl ?_
    refine nk_p (i := .aload_n 0) (len := 1) (pc' := 89) mJ_432 (by decide +kernel) (ns_aload_n 0 rfl rfl) rfl ?_
    refine nk_getM (cj := 1) (z := 0) (x := 38) (len := 3) (ci := 9) (k := 1) (pc' := 92) ja_okT mJ_432 (by decide +kernel) (by decide +kernel) (by decide +kernel) t_l0 rfl (fun t8 => ?_)
    refine nk_p (i := .iload 4) (len := 2) (pc' := 94) mJ_432 (by decide +kernel) (ns_iload 4 rfl) rfl ?_
    refine nk_p (i := .iconst 4) (len := 1) (pc' := 95) mJ_432 (by decide +kernel) (ns_iconst (c := 4) (by decide +kernel)) rfl ?_
    refine nk_p (i := .iconst 2) (len := 1) (pc' := 96) mJ_432 (by decide +kernel) (ns_iconst (c := 2) (by decide +kernel)) rfl ?_
    refine nk_p (i := .aload_n 0) (len := 1) (pc' := 97) mJ_432 (by decide +kernel) (ns_aload_n 0 rfl rfl) rfl ?_
    refine nk_getM (cj := 3) (z := 0) (x := 28) (len := 3) (ci := 9) (k := 0) (pc' := 100) ja_okT mJ_432 (by decide +kernel) (by decide +kernel) (by decide +kernel) t_l0 rfl (fun t9 => ?_)
    refine nk_getC (f := (4, 1, 1024)) (x := 175) (len := 3) (ci := 3) (k := 6) (pc' := 103) ja_okT mJ_432 (by decide +kernel) (by decide +kernel) (by decide +kernel) (by decide) t9 rfl ?_
    have t10 : nk_ar ja_Tt (ja_c (S.2 l0 0) 6) = some (1, 1024) := nk_ta ja_okT t9 (by decide +kernel)
    refine nk_p (i := .iload_n 1) (len := 1) (pc' := 104) mJ_432 (by decide +kernel) (ns_iload_n 1 rfl rfl) rfl ?_
    obtain ⟨h11, hr⟩ := nk_cke hr
    refine nk_iald (len := 1) (N := 1024) (pc' := 105) mJ_432 (by decide +kernel) t10 h11.1 h11.2 rfl rfl ?_
    refine nk_p (i := .imul) (len := 1) (pc' := 106) mJ_432 (by decide +kernel) ns_imul rfl ?_
    refine nk_p (i := .iadd) (len := 1) (pc' := 107) mJ_432 (by decide +kernel) ns_iadd rfl ?_
    obtain ⟨r12, S13, h14, hr⟩ := nk_bde hr
    refine nk_callV (ci := 1) (n := 2) (x := 201) (len := 3) (j' := 256) (q' := 1) (r := r12) (S' := S13) (L2 := [(0, nk_r (S.2 l0 1)), (1, nk_i l4), (2, nk_i (nk_w (4 + (nk_w (2 * (S.1 (ja_c (S.2 l0 0) 6) l1.toNat))))))]) (rest := []) (st' := [nk_i r12]) (pc' := 110) mJ_432 (by decide +kernel) (by decide +kernel) rfl rfl t8 (Nat.le_of_ble_eq_true rfl) mJ_256 (Nat.le_of_ble_eq_true rfl) rfl (ja_X1_isBelow_ok zs _ _ _ _ _ t8 h14) rfl ?_
    obtain ⟨h15, hr⟩ := nk_cke hr
    cases hr
    exact nk_iret (ty := .boolean) (len := 1) mJ_432 (by decide +kernel) rfl (nk_nar_z h15)
  have hr := nk_ifn hc4 hr
  by_cases hc5 : l2 = 6
  · have hr := nk_ifp hc5 hr
    refine nk_p (i := .tableswitch 181 1 8 #[47, 59, 65, 85, 87, 110, 137, 169]) (len := 47) (pc' := 111) mJ_432 (by decide +kernel) (ns_tsw (V := 6) hc5 (by decide +kernel)) rfl ?_
    refine nk_p (i := .aload_n 0) (len := 1) (pc' := 112) mJ_432 (by decide +kernel) (ns_aload_n 0 rfl rfl) rfl ?_
    refine nk_getM (cj := 1) (z := 0) (x := 38) (len := 3) (ci := 9) (k := 1) (pc' := 115) ja_okT mJ_432 (by decide +kernel) (by decide +kernel) (by decide +kernel) t_l0 rfl (fun t16 => ?_)
    refine nk_p (i := .iload 4) (len := 2) (pc' := 117) mJ_432 (by decide +kernel) (ns_iload 4 rfl) rfl ?_
    refine nk_p (i := .aload_n 0) (len := 1) (pc' := 118) mJ_432 (by decide +kernel) (ns_aload_n 0 rfl rfl) rfl ?_
    refine nk_getM (cj := 1) (z := 0) (x := 38) (len := 3) (ci := 9) (k := 1) (pc' := 121) ja_okT mJ_432 (by decide +kernel) (by decide +kernel) (by decide +kernel) t_l0 rfl (fun t17 => ?_)
    refine nk_getC (f := (4, 1, 48)) (x := 184) (len := 3) (ci := 1) (k := 7) (pc' := 124) ja_okT mJ_432 (by decide +kernel) (by decide +kernel) (by decide +kernel) (by decide) t17 rfl ?_
    have t18 : nk_ar ja_Tt (ja_c (S.2 l0 1) 7) = some (1, 48) := nk_ta ja_okT t17 (by decide +kernel)
    refine nk_p (i := .aload_n 0) (len := 1) (pc' := 125) mJ_432 (by decide +kernel) (ns_aload_n 0 rfl rfl) rfl ?_
    refine nk_getM (cj := 3) (z := 0) (x := 28) (len := 3) (ci := 9) (k := 0) (pc' := 128) ja_okT mJ_432 (by decide +kernel) (by decide +kernel) (by decide +kernel) t_l0 rfl (fun t19 => ?_)
    refine nk_getC (f := (4, 1, 1024)) (x := 166) (len := 3) (ci := 3) (k := 5) (pc' := 131) ja_okT mJ_432 (by decide +kernel) (by decide +kernel) (by decide +kernel) (by decide) t19 rfl ?_
    have t20 : nk_ar ja_Tt (ja_c (S.2 l0 0) 5) = some (1, 1024) := nk_ta ja_okT t19 (by decide +kernel)
    refine nk_p (i := .iload_n 1) (len := 1) (pc' := 132) mJ_432 (by decide +kernel) (ns_iload_n 1 rfl rfl) rfl ?_
    obtain ⟨h21, hr⟩ := nk_cke hr
    refine nk_iald (len := 1) (N := 1024) (pc' := 133) mJ_432 (by decide +kernel) t20 h21.1 h21.2 rfl rfl ?_
    obtain ⟨h22, hr⟩ := nk_cke hr
    refine nk_iald (len := 1) (N := 48) (pc' := 134) mJ_432 (by decide +kernel) t18 h22.1 h22.2 rfl rfl ?_
    obtain ⟨r23, S24, h25, hr⟩ := nk_bde hr
    refine nk_callV (ci := 1) (n := 2) (x := 201) (len := 3) (j' := 256) (q' := 1) (r := r23) (S' := S24) (L2 := [(0, nk_r (S.2 l0 1)), (1, nk_i l4), (2, nk_i (S.1 (ja_c (S.2 l0 1) 7) (S.1 (ja_c (S.2 l0 0) 5) l1.toNat).toNat))]) (rest := []) (st' := [nk_i r23]) (pc' := 137) mJ_432 (by decide +kernel) (by decide +kernel) rfl rfl t17 (Nat.le_of_ble_eq_true rfl) mJ_256 (Nat.le_of_ble_eq_true rfl) rfl (ja_X1_isBelow_ok zs _ _ _ _ _ t17 h25) rfl ?_
    obtain ⟨h26, hr⟩ := nk_cke hr
    cases hr
    exact nk_iret (ty := .boolean) (len := 1) mJ_432 (by decide +kernel) rfl (nk_nar_z h26)
  have hr := nk_ifn hc5 hr
  by_cases hc6 : l2 = 7
  · have hr := nk_ifp hc6 hr
    refine nk_p (i := .tableswitch 181 1 8 #[47, 59, 65, 85, 87, 110, 137, 169]) (len := 47) (pc' := 138) mJ_432 (by decide +kernel) (ns_tsw (V := 7) hc6 (by decide +kernel)) rfl ?_
    refine nk_p (i := .iload_n 3) (len := 1) (pc' := 139) mJ_432 (by decide +kernel) (ns_iload_n 3 rfl rfl) rfl ?_
    refine nk_p (i := .iconst 2) (len := 1) (pc' := 140) mJ_432 (by decide +kernel) (ns_iconst (c := 2) (by decide +kernel)) rfl ?_
    refine nk_icmp (c := .ne) (off := 16) (len := 3) (t := 156) (pc' := 143) mJ_432 (by decide +kernel) (by decide +kernel) rfl (fun hc => ?_) (fun hc => ?_)
    · have hr := nk_ifn (c := l3 = 2) hc hr
      refine nk_p (i := .aload_n 0) (len := 1) (pc' := 157) mJ_432 (by decide +kernel) (ns_aload_n 0 rfl rfl) rfl ?_
      refine nk_getM (cj := 1) (z := 0) (x := 38) (len := 3) (ci := 9) (k := 1) (pc' := 160) ja_okT mJ_432 (by decide +kernel) (by decide +kernel) (by decide +kernel) t_l0 rfl (fun t27 => ?_)
      refine nk_p (i := .iload 4) (len := 2) (pc' := 162) mJ_432 (by decide +kernel) (ns_iload 4 rfl) rfl ?_
      refine nk_p (i := .iload_n 3) (len := 1) (pc' := 163) mJ_432 (by decide +kernel) (ns_iload_n 3 rfl rfl) rfl ?_
      obtain ⟨r28, S29, h30, hr⟩ := nk_bde hr
      refine nk_callS (ci := 0) (n := 1) (x := 181) (len := 3) (j' := 251) (q' := 1) (r := r28) (S' := S29) (L2 := [(0, nk_i l3)]) (rest := [nk_i l4, nk_r (S.2 l0 1)]) (st' := [nk_i r28, nk_i l4, nk_r (S.2 l0 1)]) (pc' := 166) mJ_432 (by decide +kernel) (by decide +kernel) (Nat.le_of_ble_eq_true rfl) rfl rfl (Nat.le_of_ble_eq_true rfl) mJ_251 (Nat.le_of_ble_eq_true rfl) ja_Tpos rfl (ja_X1_element_ok zs _ _ _ h30) rfl ?_
      obtain ⟨r31, S32, h33, hr⟩ := nk_bde hr
      refine nk_callV (ci := 1) (n := 2) (x := 201) (len := 3) (j' := 256) (q' := 1) (r := r31) (S' := S32) (L2 := [(0, nk_r (S.2 l0 1)), (1, nk_i l4), (2, nk_i r28)]) (rest := []) (st' := [nk_i r31]) (pc' := 169) mJ_432 (by decide +kernel) (by decide +kernel) rfl rfl t27 (Nat.le_of_ble_eq_true rfl) mJ_256 (Nat.le_of_ble_eq_true rfl) rfl (ja_X1_isBelow_ok zs _ _ _ _ _ t27 h33) rfl ?_
      obtain ⟨h34, hr⟩ := nk_cke hr
      cases hr
      exact nk_iret (ty := .boolean) (len := 1) mJ_432 (by decide +kernel) rfl (nk_nar_z h34)
    · have hr := nk_ifp (c := l3 = 2) (Decidable.of_not_not hc) hr
      refine nk_p (i := .iload 4) (len := 2) (pc' := 145) mJ_432 (by decide +kernel) (ns_iload 4 rfl) rfl ?_
      refine nk_icond (c := .eq) (off := 7) (len := 3) (t := 152) (pc' := 148) mJ_432 (by decide +kernel) (by decide +kernel) rfl (fun hc => ?_) (fun hc => ?_)
      · have hr := nk_ifp (c := l4 = 0) hc hr
        refine nk_p (i := .iconst 0) (len := 1) (pc' := 153) mJ_432 (by decide +kernel) (ns_iconst (c := 0) (by decide +kernel)) rfl ?_
        refine nk_p (i := .goto 16) (len := 3) (pc' := 169) mJ_432 (by decide +kernel) (ns_goto (by decide +kernel)) rfl ?_
        cases hr
        exact nk_iret (ty := .boolean) (len := 1) mJ_432 (by decide +kernel) rfl (nk_nar_z (by decide))
      · have hr := nk_ifn (c := l4 = 0) hc hr
        refine nk_p (i := .iconst 1) (len := 1) (pc' := 149) mJ_432 (by decide +kernel) (ns_iconst (c := 1) (by decide +kernel)) rfl ?_
        refine nk_p (i := .goto 20) (len := 3) (pc' := 169) mJ_432 (by decide +kernel) (ns_goto (by decide +kernel)) rfl ?_
        cases hr
        exact nk_iret (ty := .boolean) (len := 1) mJ_432 (by decide +kernel) rfl (nk_nar_z (by decide))
  have hr := nk_ifn hc6 hr
  by_cases hc7 : l2 = 8
  · have hr := nk_ifp hc7 hr
    refine nk_p (i := .tableswitch 181 1 8 #[47, 59, 65, 85, 87, 110, 137, 169]) (len := 47) (pc' := 170) mJ_432 (by decide +kernel) (ns_tsw (V := 8) hc7 (by decide +kernel)) rfl ?_
    refine nk_p (i := .aload_n 0) (len := 1) (pc' := 171) mJ_432 (by decide +kernel) (ns_aload_n 0 rfl rfl) rfl ?_
    refine nk_getM (cj := 1) (z := 0) (x := 38) (len := 3) (ci := 9) (k := 1) (pc' := 174) ja_okT mJ_432 (by decide +kernel) (by decide +kernel) (by decide +kernel) t_l0 rfl (fun t35 => ?_)
    refine nk_p (i := .iload 4) (len := 2) (pc' := 176) mJ_432 (by decide +kernel) (ns_iload 4 rfl) rfl ?_
    refine nk_p (i := .bipush 6) (len := 2) (pc' := 178) mJ_432 (by decide +kernel) (ns_bipush (c := 6) (by decide +kernel)) rfl ?_
    obtain ⟨r36, S37, h38, hr⟩ := nk_bde hr
    refine nk_callV (ci := 1) (n := 2) (x := 201) (len := 3) (j' := 256) (q' := 1) (r := r36) (S' := S37) (L2 := [(0, nk_r (S.2 l0 1)), (1, nk_i l4), (2, nk_i 6)]) (rest := []) (st' := [nk_i r36]) (pc' := 181) mJ_432 (by decide +kernel) (by decide +kernel) rfl rfl t35 (Nat.le_of_ble_eq_true rfl) mJ_256 (Nat.le_of_ble_eq_true rfl) rfl (ja_X1_isBelow_ok zs _ _ _ _ _ t35 h38) rfl ?_
    obtain ⟨h39, hr⟩ := nk_cke hr
    cases hr
    exact nk_iret (ty := .boolean) (len := 1) mJ_432 (by decide +kernel) rfl (nk_nar_z h39)
  have hr := nk_ifn hc7 hr
  refine nk_p (i := .tableswitch 181 1 8 #[47, 59, 65, 85, 87, 110, 137, 169]) (len := 47) (pc' := 182) mJ_432 (by decide +kernel) (ns_tsd (by omega) (by decide +kernel)) rfl ?_
  refine nk_p (i := .aload_n 0) (len := 1) (pc' := 183) mJ_432 (by decide +kernel) (ns_aload_n 0 rfl rfl) rfl ?_
  refine nk_getM (cj := 3) (z := 0) (x := 28) (len := 3) (ci := 9) (k := 0) (pc' := 186) ja_okT mJ_432 (by decide +kernel) (by decide +kernel) (by decide +kernel) t_l0 rfl (fun t40 => ?_)
  refine nk_getC (f := (2, 0, 0)) (x := 39) (len := 3) (ci := 3) (k := 1) (pc' := 189) ja_okT mJ_432 (by decide +kernel) (by decide +kernel) (by decide +kernel) (by decide) t40 rfl ?_
  have t41 : nk_cl ja_Tt (ja_c (S.2 l0 0) 1) = some 0 := nk_tc (y := 0) ja_okT t40 (by decide +kernel)
  refine nk_getC (f := (4, 1, 48)) (x := 187) (len := 3) (ci := 0) (k := 7) (pc' := 192) ja_okT mJ_432 (by decide +kernel) (by decide +kernel) (by decide +kernel) (by decide) t41 rfl ?_
  have t42 : nk_ar ja_Tt (ja_c (ja_c (S.2 l0 0) 1) 7) = some (1, 48) := nk_ta ja_okT t41 (by decide +kernel)
  refine nk_p (i := .aload_n 0) (len := 1) (pc' := 193) mJ_432 (by decide +kernel) (ns_aload_n 0 rfl rfl) rfl ?_
  refine nk_getM (cj := 3) (z := 0) (x := 28) (len := 3) (ci := 9) (k := 0) (pc' := 196) ja_okT mJ_432 (by decide +kernel) (by decide +kernel) (by decide +kernel) t_l0 rfl (fun t43 => ?_)
  refine nk_getC (f := (4, 1, 1024)) (x := 103) (len := 3) (ci := 3) (k := 8) (pc' := 199) ja_okT mJ_432 (by decide +kernel) (by decide +kernel) (by decide +kernel) (by decide) t43 rfl ?_
  have t44 : nk_ar ja_Tt (ja_c (S.2 l0 0) 8) = some (1, 1024) := nk_ta ja_okT t43 (by decide +kernel)
  refine nk_p (i := .iload_n 1) (len := 1) (pc' := 200) mJ_432 (by decide +kernel) (ns_iload_n 1 rfl rfl) rfl ?_
  obtain ⟨h45, hr⟩ := nk_cke hr
  refine nk_iald (len := 1) (N := 1024) (pc' := 201) mJ_432 (by decide +kernel) t44 h45.1 h45.2 rfl rfl ?_
  obtain ⟨h46, hr⟩ := nk_cke hr
  refine nk_iald (len := 1) (N := 48) (pc' := 202) mJ_432 (by decide +kernel) t42 h46.1 h46.2 rfl rfl ?_
  obtain ⟨v47, h48, hr⟩ := nk_lte hr
  refine nk_p (i := .istore 5) (len := 2) (pc' := 204) mJ_432 (by decide +kernel) (ns_istore (L' := [(5, nk_i v47), (0, nk_r l0), (1, nk_i l1), (2, nk_i l2), (3, nk_i l3), (4, nk_i l4)]) h48 rfl (by decide +kernel)) rfl ?_
  refine nk_p (i := .iload 5) (len := 2) (pc' := 206) mJ_432 (by decide +kernel) (ns_iload 0 rfl) rfl ?_
  refine nk_p (i := .iconst (-1)) (len := 1) (pc' := 207) mJ_432 (by decide +kernel) (ns_iconst (c := (-1)) (by decide +kernel)) rfl ?_
  refine nk_icmp (c := .eq) (off := 21) (len := 3) (t := 228) (pc' := 210) mJ_432 (by decide +kernel) (by decide +kernel) rfl (fun hc => ?_) (fun hc => ?_)
  · have hr := nk_ifp (c := v47 = (-1)) hc hr
    refine nk_p (i := .iconst 0) (len := 1) (pc' := 229) mJ_432 (by decide +kernel) (ns_iconst (c := 0) (by decide +kernel)) rfl ?_
    cases hr
    exact nk_iret (ty := .boolean) (len := 1) mJ_432 (by decide +kernel) rfl (nk_nar_z (by decide))
  · have hr := nk_ifn (c := v47 = (-1)) hc hr
    refine nk_p (i := .aload_n 0) (len := 1) (pc' := 211) mJ_432 (by decide +kernel) (ns_aload_n 1 rfl rfl) rfl ?_
    refine nk_getM (cj := 1) (z := 0) (x := 38) (len := 3) (ci := 9) (k := 1) (pc' := 214) ja_okT mJ_432 (by decide +kernel) (by decide +kernel) (by decide +kernel) t_l0 rfl (fun t49 => ?_)
    refine nk_p (i := .iload 4) (len := 2) (pc' := 216) mJ_432 (by decide +kernel) (ns_iload 5 rfl) rfl ?_
    refine nk_p (i := .iload 5) (len := 2) (pc' := 218) mJ_432 (by decide +kernel) (ns_iload 0 rfl) rfl ?_
    obtain ⟨r50, S51, h52, hr⟩ := nk_bde hr
    refine nk_callV (ci := 1) (n := 2) (x := 201) (len := 3) (j' := 256) (q' := 1) (r := r50) (S' := S51) (L2 := [(0, nk_r (S.2 l0 1)), (1, nk_i l4), (2, nk_i v47)]) (rest := []) (st' := [nk_i r50]) (pc' := 221) mJ_432 (by decide +kernel) (by decide +kernel) rfl rfl t49 (Nat.le_of_ble_eq_true rfl) mJ_256 (Nat.le_of_ble_eq_true rfl) rfl (ja_X1_isBelow_ok zs _ _ _ _ _ t49 h52) rfl ?_
    refine nk_icond (c := .eq) (off := 7) (len := 3) (t := 228) (pc' := 224) mJ_432 (by decide +kernel) (by decide +kernel) rfl (fun hc => ?_) (fun hc => ?_)
    · have hr := nk_ifp (c := r50 = 0) hc hr
      refine nk_p (i := .iconst 0) (len := 1) (pc' := 229) mJ_432 (by decide +kernel) (ns_iconst (c := 0) (by decide +kernel)) rfl ?_
      cases hr
      exact nk_iret (ty := .boolean) (len := 1) mJ_432 (by decide +kernel) rfl (nk_nar_z (by decide))
    · have hr := nk_ifn (c := r50 = 0) hc hr
      refine nk_p (i := .iconst 1) (len := 1) (pc' := 225) mJ_432 (by decide +kernel) (ns_iconst (c := 1) (by decide +kernel)) rfl ?_
      refine nk_p (i := .goto 4) (len := 3) (pc' := 229) mJ_432 (by decide +kernel) (ns_goto (by decide +kernel)) rfl ?_
      cases hr
      exact nk_iret (ty := .boolean) (len := 1) mJ_432 (by decide +kernel) rfl (nk_nar_z (by decide))
