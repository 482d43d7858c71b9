/-! java/lang/String isLatin1 ()Z -/
noncomputable def ja_J0_isLatin1_aae02 (l0 : Nat) (S : nk_S) : Option (Int × nk_S) :=
  if (1 : Int) = 0 then
    some (0, S)
  else
    if (0 : Int) = 0 then
      some (1, S)
    else
      some (0, S)
theorem ja_J0_isLatin1_aae02_ok (zs : List Int32) : ∀ (l0 : Nat) (S : nk_S) (R : Int × nk_S), ja_tx zs l0 → ja_J0_isLatin1_aae02 l0 S = some R → nk_K ja_Tt mi_Γ (mi_ev zs) 1 4 0 [(0, nk_o l0)] [] S R := by
  intro l0 S R t_l0 hr
  unfold ja_J0_isLatin1_aae02 at hr
  refine nk_gsti (x := 38) (len := 3) (pc' := 3) (s1 := "java/lang/String") (s2 := "COMPACT_STRINGS") (s3 := "Z") (v := 1) (X := 1) mJ_4 (by decide +kernel) (by decide +kernel) (by decide +kernel) rfl ?_
  refine nk_icond (c := .eq) (off := 14) (len := 3) (t := 17) (pc' := 6) mJ_4 (by decide +kernel) (by decide +kernel) rfl (fun hc => ?_) (fun hc => ?_)
  · have hr := nk_ifp (c := (1 : Int) = 0) hc hr
    refine nk_p (i := .iconst 0) (len := 1) (pc' := 18) mJ_4 (by decide +kernel) (ns_iconst (c := 0) (by decide +kernel)) rfl ?_
    cases hr
    exact nk_iret (ty := .boolean) (len := 1) mJ_4 (by decide +kernel) rfl (nk_nar_z (by decide))
  · have hr := nk_ifn (c := (1 : Int) = 0) hc hr
    refine nk_p (i := .aload_n 0) (len := 1) (pc' := 7) mJ_4 (by decide +kernel) (ns_oload_n 0 rfl rfl) rfl ?_
    refine nk_coder (x := 15) (len := 3) (pc' := 10) mJ_4 (by decide +kernel) (by decide +kernel) t_l0.1 rfl ?_
    refine nk_icond (c := .ne) (off := 7) (len := 3) (t := 17) (pc' := 13) mJ_4 (by decide +kernel) (by decide +kernel) rfl (fun hc => ?_) (fun hc => ?_)
    · have hr := nk_ifn (c := (0 : Int) = 0) hc hr
      refine nk_p (i := .iconst 0) (len := 1) (pc' := 18) mJ_4 (by decide +kernel) (ns_iconst (c := 0) (by decide +kernel)) rfl ?_
      cases hr
      exact nk_iret (ty := .boolean) (len := 1) mJ_4 (by decide +kernel) rfl (nk_nar_z (by decide))
    · have hr := nk_ifp (c := (0 : Int) = 0) (Decidable.of_not_not hc) hr
      refine nk_p (i := .iconst 1) (len := 1) (pc' := 14) mJ_4 (by decide +kernel) (ns_iconst (c := 1) (by decide +kernel)) rfl ?_
      refine nk_p (i := .goto 4) (len := 3) (pc' := 18) mJ_4 (by decide +kernel) (ns_goto (by decide +kernel)) rfl ?_
      cases hr
      exact nk_iret (ty := .boolean) (len := 1) mJ_4 (by decide +kernel) rfl (nk_nar_z (by decide))
/-! jdk/internal/util/Preconditions checkIndex (IILjava/util/function/BiFunction;)I -/
noncomputable def ja_J3_checkIndex_8e157_b9 (l0 : Int) (l1 : Int) (l2 : Nat) (S : nk_S) : Option (Int × nk_S) :=
  none
theorem ja_J3_checkIndex_8e157_b9_ok (zs : List Int32) : ∀ (l0 : Int) (l1 : Int) (l2 : Nat) (S : nk_S) (R : Int × nk_S), ja_J3_checkIndex_8e157_b9 l0 l1 l2 S = some R → nk_K ja_Tt mi_Γ (mi_ev zs) 1 9 9 [(0, nk_i l0), (1, nk_i l1), (2, nk_o l2)] [] S R := by
  intro l0 l1 l2 S R hr
  unfold ja_J3_checkIndex_8e157_b9 at hr
  refine nk_p (i := .aload_n 2) (len := 1) (pc' := 10) mJ_9 (by decide +kernel) (ns_oload_n 2 rfl rfl) rfl ?_
  refine nk_p (i := .iload_n 0) (len := 1) (pc' := 11) mJ_9 (by decide +kernel) (ns_iload_n 0 rfl rfl) rfl ?_
  refine nk_p (i := .iload_n 1) (len := 1) (pc' := 12) mJ_9 (by decide +kernel) (ns_iload_n 1 rfl rfl) rfl ?_
  cases hr
noncomputable def ja_J3_checkIndex_8e157 (l0 : Int) (l1 : Int) (l2 : Nat) (S : nk_S) : Option (Int × nk_S) :=
  if l0 < 0 then
    ja_J3_checkIndex_8e157_b9 l0 l1 l2 S
  else
    if l0 < l1 then
      some (l0, S)
    else
      ja_J3_checkIndex_8e157_b9 l0 l1 l2 S
theorem ja_J3_checkIndex_8e157_ok (zs : List Int32) : ∀ (l0 : Int) (l1 : Int) (l2 : Nat) (S : nk_S) (R : Int × nk_S), ja_J3_checkIndex_8e157 l0 l1 l2 S = some R → nk_K ja_Tt mi_Γ (mi_ev zs) 1 9 0 [(0, nk_i l0), (1, nk_i l1), (2, nk_o l2)] [] S R := by
  intro l0 l1 l2 S R hr
  unfold ja_J3_checkIndex_8e157 at hr
  refine nk_p (i := .iload_n 0) (len := 1) (pc' := 1) mJ_9 (by decide +kernel) (ns_iload_n 0 rfl rfl) rfl ?_
  refine nk_icond (c := .lt) (off := 8) (len := 3) (t := 9) (pc' := 4) mJ_9 (by decide +kernel) (by decide +kernel) rfl (fun hc => ?_) (fun hc => ?_)
  · have hr := nk_ifp (c := l0 < 0) hc hr
    exact ja_J3_checkIndex_8e157_b9_ok zs _ _ _ _ _ hr
  · have hr := nk_ifn (c := l0 < 0) hc hr
    refine nk_p (i := .iload_n 0) (len := 1) (pc' := 5) mJ_9 (by decide +kernel) (ns_iload_n 0 rfl rfl) rfl ?_
    refine nk_p (i := .iload_n 1) (len := 1) (pc' := 6) mJ_9 (by decide +kernel) (ns_iload_n 1 rfl rfl) rfl ?_
    refine nk_icmp (c := .lt) (off := 10) (len := 3) (t := 16) (pc' := 9) mJ_9 (by decide +kernel) (by decide +kernel) rfl (fun hc => ?_) (fun hc => ?_)
    · have hr := nk_ifp (c := l0 < l1) hc hr
      refine nk_p (i := .iload_n 0) (len := 1) (pc' := 17) mJ_9 (by decide +kernel) (ns_iload_n 0 rfl rfl) rfl ?_
      cases hr
      exact nk_iret (ty := .int) (len := 1) mJ_9 (by decide +kernel) rfl (nk_nar_i _)
    · have hr := nk_ifn (c := l0 < l1) hc hr
      exact ja_J3_checkIndex_8e157_b9_ok zs _ _ _ _ _ hr
/-! java/lang/String checkIndex (II)V -/
noncomputable def ja_J0_checkIndex_df160 (l0 : Int) (l1 : Int) (S : nk_S) : Option (Int × nk_S) :=
  nk_bd (ja_J3_checkIndex_8e157 l0 l1 43 S) fun r1 S2 =>
  some (0, S2)
theorem ja_J0_checkIndex_df160_ok (zs : List Int32) : ∀ (l0 : Int) (l1 : Int) (S : nk_S) (R : Int × nk_S), ja_J0_checkIndex_df160 l0 l1 S = some R → nk_K ja_Tt mi_Γ (mi_ev zs) 0 2 0 [(0, nk_i l0), (1, nk_i l1)] [] S R := by
  intro l0 l1 S R hr
  unfold ja_J0_checkIndex_df160 at hr
  refine nk_p (i := .iload_n 0) (len := 1) (pc' := 1) mJ_2 (by decide +kernel) (ns_iload_n 0 rfl rfl) rfl ?_
  refine nk_p (i := .iload_n 1) (len := 1) (pc' := 2) mJ_2 (by decide +kernel) (ns_iload_n 1 rfl rfl) rfl ?_
  refine nk_gsto (x := 1053) (len := 3) (pc' := 5) (s1 := "jdk/internal/util/Preconditions") (s2 := "SIOOBE_FORMATTER") (s3 := "Ljava/util/function/BiFunction;") (k := 43) mJ_2 (by decide +kernel) (by decide +kernel) rfl ?_
  obtain ⟨r1, S2, h3, hr⟩ := nk_bde hr
  refine nk_callS (ci := 0) (n := 3) (x := 1059) (len := 3) (j' := 9) (q' := 1) (r := r1) (S' := S2) (L2 := [(0, nk_i l0), (1, nk_i l1), (2, nk_o 43)]) (rest := []) (st' := [nk_i r1]) (pc' := 8) mJ_2 (by decide +kernel) (by decide +kernel) (Nat.le_of_ble_eq_true rfl) rfl rfl (Nat.le_of_ble_eq_true rfl) mJ_9 (Nat.le_of_ble_eq_true rfl) ja_Tpos rfl (ja_J3_checkIndex_8e157_ok zs _ _ _ _ _ h3) rfl ?_
  refine nk_p (i := .pop) (len := 1) (pc' := 9) mJ_2 (by decide +kernel) (ns_pop rfl) rfl ?_
  cases hr
  exact nk_vret (len := 1) mJ_2 (by decide +kernel) rfl
/-! java/lang/StringLatin1 charAt ([BI)C -/
noncomputable def ja_J1_charAt_3b067 (l0 : Nat) (l1 : Int) (S : nk_S) : Option (Int × nk_S) :=
  if (ja_ob l0).length < 2147483648 then
  nk_bd (ja_J0_checkIndex_df160 l1 ((ja_ob l0).length : Int) S) fun r2 S3 =>
  if 0 ≤ l1 ∧ l1 < ((ja_ob l0).length : Int) then
  if 0 ≤ (nk_i2c (nk_iand (((ja_ob l0).getD l1.toNat 0).toInt) 255)) ∧ (nk_i2c (nk_iand (((ja_ob l0).getD l1.toNat 0).toInt) 255)) < 65536 then
  some ((nk_i2c (nk_iand (((ja_ob l0).getD l1.toNat 0).toInt) 255)), S3)
  else none
  else none
  else none
theorem ja_J1_charAt_3b067_ok (zs : List Int32) : ∀ (l0 : Nat) (l1 : Int) (S : nk_S) (R : Int × nk_S), mi_oa (mi_ev zs) l0 = some (0, ja_ob l0) → ja_J1_charAt_3b067 l0 l1 S = some R → nk_K ja_Tt mi_Γ (mi_ev zs) 1 8 0 [(0, nk_o l0), (1, nk_i l1)] [] S R := by
  intro l0 l1 S R t_l0 hr
  unfold ja_J1_charAt_3b067 at hr
  refine nk_p (i := .iload_n 1) (len := 1) (pc' := 1) mJ_8 (by decide +kernel) (ns_iload_n 1 rfl rfl) rfl ?_
  refine nk_p (i := .aload_n 0) (len := 1) (pc' := 2) mJ_8 (by decide +kernel) (ns_oload_n 0 rfl rfl) rfl ?_
  obtain ⟨h1, hr⟩ := nk_cke hr
  refine nk_oalen (len := 1) (pc' := 3) mJ_8 (by decide +kernel) t_l0 h1 rfl ?_
  obtain ⟨r2, S3, h4, hr⟩ := nk_bde hr
  refine nk_callS (ci := 0) (n := 2) (x := 9) (len := 3) (j' := 2) (q' := 0) (r := r2) (S' := S3) (L2 := [(0, nk_i l1), (1, nk_i ((ja_ob l0).length : Int))]) (rest := []) (st' := []) (pc' := 6) mJ_8 (by decide +kernel) (by decide +kernel) (Nat.le_of_ble_eq_true rfl) rfl rfl (Nat.le_of_ble_eq_true rfl) mJ_2 (Nat.le_of_ble_eq_true rfl) ja_Tpos rfl (ja_J0_checkIndex_df160_ok zs _ _ _ _ h4) rfl ?_
  refine nk_p (i := .aload_n 0) (len := 1) (pc' := 7) mJ_8 (by decide +kernel) (ns_oload_n 0 rfl rfl) rfl ?_
  refine nk_p (i := .iload_n 1) (len := 1) (pc' := 8) mJ_8 (by decide +kernel) (ns_iload_n 1 rfl rfl) rfl ?_
  obtain ⟨h5, hr⟩ := nk_cke hr
  refine nk_obald (len := 1) (xs := ja_ob l0) (N := ((ja_ob l0).length : Int)) (pc' := 9) mJ_8 (by decide +kernel) t_l0 h5.1 h5.2 rfl rfl ?_
  refine nk_p (i := .sipush 255) (len := 3) (pc' := 12) mJ_8 (by decide +kernel) (ns_sipush (c := 255) (by decide +kernel)) rfl ?_
  refine nk_p (i := .iand) (len := 1) (pc' := 13) mJ_8 (by decide +kernel) ns_iand rfl ?_
  refine nk_p (i := .i2c) (len := 1) (pc' := 14) mJ_8 (by decide +kernel) ns_i2c rfl ?_
  obtain ⟨h6, hr⟩ := nk_cke hr
  cases hr
  exact nk_iret (ty := .char) (len := 1) mJ_8 (by decide +kernel) rfl (nk_nar_c h6)
/-! java/lang/String charAt (I)C -/
noncomputable def ja_J0_charAt_5068e (l0 : Nat) (l1 : Int) (S : nk_S) : Option (Int × nk_S) :=
  nk_bd (ja_J0_isLatin1_aae02 l0 S) fun r1 S2 =>
  if r1 = 0 then
    none
  else
    nk_bd (ja_J1_charAt_3b067 (l0 + 1) l1 S2) fun r4 S5 =>
    if 0 ≤ r4 ∧ r4 < 65536 then
    some (r4, S5)
    else none
theorem ja_J0_charAt_5068e_ok (zs : List Int32) : ∀ (l0 : Nat) (l1 : Int) (S : nk_S) (R : Int × nk_S), ja_tx zs l0 → ja_J0_charAt_5068e l0 l1 S = some R → nk_K ja_Tt mi_Γ (mi_ev zs) 1 1 0 [(0, nk_o l0), (1, nk_i l1)] [] S R := by
  intro l0 l1 S R t_l0 hr
  unfold ja_J0_charAt_5068e at hr
  refine nk_p (i := .aload_n 0) (len := 1) (pc' := 1) mJ_1 (by decide +kernel) (ns_oload_n 0 rfl rfl) rfl ?_
  obtain ⟨r1, S2, h3, hr⟩ := nk_bde hr
  refine nk_callT (ci := 0) (n := 0) (x := 492) (len := 3) (j' := 4) (q' := 1) (r := r1) (S' := S2) (L2 := [(0, nk_o l0)]) (rest := []) (st' := [nk_i r1]) (pc' := 4) mJ_1 (by decide +kernel) (by decide +kernel) rfl rfl t_l0.1 (Nat.le_of_ble_eq_true rfl) mJ_4 (Nat.le_of_ble_eq_true rfl) ja_Tpos rfl (ja_J0_isLatin1_aae02_ok zs _ _ _ t_l0 h3) rfl ?_
  refine nk_icond (c := .eq) (off := 12) (len := 3) (t := 16) (pc' := 7) mJ_1 (by decide +kernel) (by decide +kernel) rfl (fun hc => ?_) (fun hc => ?_)
  · have hr := nk_ifp (c := r1 = 0) hc hr
    refine nk_p (i := .aload_n 0) (len := 1) (pc' := 17) mJ_1 (by decide +kernel) (ns_oload_n 0 rfl rfl) rfl ?_
    refine nk_text (x := 9) (len := 3) (pc' := 20) mJ_1 (by decide +kernel) (by decide +kernel) t_l0.1 rfl ?_
    refine nk_p (i := .iload_n 1) (len := 1) (pc' := 21) mJ_1 (by decide +kernel) (ns_iload_n 1 rfl rfl) rfl ?_
    cases hr
  · have hr := nk_ifn (c := r1 = 0) hc hr
    refine nk_p (i := .aload_n 0) (len := 1) (pc' := 8) mJ_1 (by decide +kernel) (ns_oload_n 0 rfl rfl) rfl ?_
    refine nk_text (x := 9) (len := 3) (pc' := 11) mJ_1 (by decide +kernel) (by decide +kernel) t_l0.1 rfl ?_
    refine nk_p (i := .iload_n 1) (len := 1) (pc' := 12) mJ_1 (by decide +kernel) (ns_iload_n 1 rfl rfl) rfl ?_
    obtain ⟨r4, S5, h6, hr⟩ := nk_bde hr
    refine nk_callS (ci := 0) (n := 2) (x := 495) (len := 3) (j' := 8) (q' := 1) (r := r4) (S' := S5) (L2 := [(0, nk_o (l0 + 1)), (1, nk_i l1)]) (rest := []) (st' := [nk_i r4]) (pc' := 15) mJ_1 (by decide +kernel) (by decide +kernel) (Nat.le_of_ble_eq_true rfl) rfl rfl (Nat.le_of_ble_eq_true rfl) mJ_8 (Nat.le_of_ble_eq_true rfl) ja_Tpos rfl (ja_J1_charAt_3b067_ok zs _ _ _ _ t_l0.2 h6) rfl ?_
    obtain ⟨h7, hr⟩ := nk_cke hr
    cases hr
    exact nk_iret (ty := .char) (len := 1) mJ_1 (by decide +kernel) rfl (nk_nar_c h7)
/-! java/lang/String coder ()B -/
noncomputable def ja_J0_coder_7d493 (l0 : Nat) (S : nk_S) : Option (Int × nk_S) :=
  if (1 : Int) = 0 then
    some (1, S)
  else
    some (0, S)
theorem ja_J0_coder_7d493_ok (zs : List Int32) : ∀ (l0 : Nat) (S : nk_S) (R : Int × nk_S), ja_tx zs l0 → ja_J0_coder_7d493 l0 S = some R → nk_K ja_Tt mi_Γ (mi_ev zs) 1 3 0 [(0, nk_o l0)] [] S R := by
  intro l0 S R t_l0 hr
  unfold ja_J0_coder_7d493 at hr
  refine nk_gsti (x := 38) (len := 3) (pc' := 3) (s1 := "java/lang/String") (s2 := "COMPACT_STRINGS") (s3 := "Z") (v := 1) (X := 1) mJ_3 (by decide +kernel) (by decide +kernel) (by decide +kernel) rfl ?_
  refine nk_icond (c := .eq) (off := 10) (len := 3) (t := 13) (pc' := 6) mJ_3 (by decide +kernel) (by decide +kernel) rfl (fun hc => ?_) (fun hc => ?_)
  · have hr := nk_ifp (c := (1 : Int) = 0) hc hr
    refine nk_p (i := .iconst 1) (len := 1) (pc' := 14) mJ_3 (by decide +kernel) (ns_iconst (c := 1) (by decide +kernel)) rfl ?_
    cases hr
    exact nk_iret (ty := .byte) (len := 1) mJ_3 (by decide +kernel) rfl (nk_nar_b (by decide))
  · have hr := nk_ifn (c := (1 : Int) = 0) hc hr
    refine nk_p (i := .aload_n 0) (len := 1) (pc' := 7) mJ_3 (by decide +kernel) (ns_oload_n 0 rfl rfl) rfl ?_
    refine nk_coder (x := 15) (len := 3) (pc' := 10) mJ_3 (by decide +kernel) (by decide +kernel) t_l0.1 rfl ?_
    refine nk_p (i := .goto 4) (len := 3) (pc' := 14) mJ_3 (by decide +kernel) (ns_goto (by decide +kernel)) rfl ?_
    cases hr
    exact nk_iret (ty := .byte) (len := 1) mJ_3 (by decide +kernel) rfl (nk_nar_b (by decide))
/-! java/lang/String length ()I -/
noncomputable def ja_J0_length_8abf5 (l0 : Nat) (S : nk_S) : Option (Int × nk_S) :=
  if (ja_ob (l0 + 1)).length < 2147483648 then
  nk_bd (ja_J0_coder_7d493 l0 S) fun r2 S3 =>
  some ((nk_ishr ((ja_ob (l0 + 1)).length : Int) r2), S3)
  else none
theorem ja_J0_length_8abf5_ok (zs : List Int32) : ∀ (l0 : Nat) (S : nk_S) (R : Int × nk_S), ja_tx zs l0 → ja_J0_length_8abf5 l0 S = some R → nk_K ja_Tt mi_Γ (mi_ev zs) 1 5 0 [(0, nk_o l0)] [] S R := by
  intro l0 S R t_l0 hr
  unfold ja_J0_length_8abf5 at hr
  refine nk_p (i := .aload_n 0) (len := 1) (pc' := 1) mJ_5 (by decide +kernel) (ns_oload_n 0 rfl rfl) rfl ?_
  refine nk_text (x := 9) (len := 3) (pc' := 4) mJ_5 (by decide +kernel) (by decide +kernel) t_l0.1 rfl ?_
  obtain ⟨h1, hr⟩ := nk_cke hr
  refine nk_oalen (len := 1) (pc' := 5) mJ_5 (by decide +kernel) t_l0.2 h1 rfl ?_
  refine nk_p (i := .aload_n 0) (len := 1) (pc' := 6) mJ_5 (by decide +kernel) (ns_oload_n 0 rfl rfl) rfl ?_
  obtain ⟨r2, S3, h4, hr⟩ := nk_bde hr
  refine nk_callT (ci := 0) (n := 0) (x := 335) (len := 3) (j' := 3) (q' := 1) (r := r2) (S' := S3) (L2 := [(0, nk_o l0)]) (rest := [nk_i ((ja_ob (l0 + 1)).length : Int)]) (st' := [nk_i r2, nk_i ((ja_ob (l0 + 1)).length : Int)]) (pc' := 9) mJ_5 (by decide +kernel) (by decide +kernel) rfl rfl t_l0.1 (Nat.le_of_ble_eq_true rfl) mJ_3 (Nat.le_of_ble_eq_true rfl) ja_Tpos rfl (ja_J0_coder_7d493_ok zs _ _ _ t_l0 h4) rfl ?_
  refine nk_p (i := .ishr) (len := 1) (pc' := 10) mJ_5 (by decide +kernel) ns_ishr rfl ?_
  cases hr
  exact nk_iret (ty := .int) (len := 1) mJ_5 (by decide +kernel) rfl (nk_nar_i _)
/-! java/lang/Long lowestOneBit (J)J -/
noncomputable def ja_J13_lowestOneBit_067f4 (l0 : Int) (S : nk_S) : Option (Int × nk_S) :=
  some ((nk_land l0 (nk_W (-l0))), S)
theorem ja_J13_lowestOneBit_067f4_ok (zs : List Int32) : ∀ (l0 : Int) (S : nk_S) (R : Int × nk_S), ja_J13_lowestOneBit_067f4 l0 S = some R → nk_K ja_Tt mi_Γ (mi_ev zs) 2 6 0 [(0, nk_l l0)] [] S R := by
  intro l0 S R hr
  unfold ja_J13_lowestOneBit_067f4 at hr
  refine nk_p (i := .lload_n 0) (len := 1) (pc' := 1) mJ_6 (by decide +kernel) (ns_lload_n 0 rfl rfl) rfl ?_
  refine nk_p (i := .lload_n 0) (len := 1) (pc' := 2) mJ_6 (by decide +kernel) (ns_lload_n 0 rfl rfl) rfl ?_
  refine nk_p (i := .lneg) (len := 1) (pc' := 3) mJ_6 (by decide +kernel) ns_lneg rfl ?_
  refine nk_p (i := .land) (len := 1) (pc' := 4) mJ_6 (by decide +kernel) ns_land rfl ?_
  cases hr
  exact nk_lret (len := 1) mJ_6 (by decide +kernel) rfl
/-! java/lang/Integer numberOfTrailingZeros (I)I -/
noncomputable def ja_J6_numberOfTrailingZeros_0f7a4_b74 (l0 : Int) (l1 : Int) (S : nk_S) : Option (Int × nk_S) :=
  some ((nk_w (l1 + (nk_iushr l0 1))), S)
theorem ja_J6_numberOfTrailingZeros_0f7a4_b74_ok (zs : List Int32) : ∀ (l0 : Int) (l1 : Int) (S : nk_S) (R : Int × nk_S), ja_J6_numberOfTrailingZeros_0f7a4_b74 l0 l1 S = some R → nk_K ja_Tt mi_Γ (mi_ev zs) 1 12 74 [(0, nk_i l0), (1, nk_i l1)] [] S R := by
  intro l0 l1 S R hr
  unfold ja_J6_numberOfTrailingZeros_0f7a4_b74 at hr
  refine nk_p (i := .iload_n 1) (len := 1) (pc' := 75) mJ_12 (by decide +kernel) (ns_iload_n 1 rfl rfl) rfl ?_
  refine nk_p (i := .iload_n 0) (len := 1) (pc' := 76) mJ_12 (by decide +kernel) (ns_iload_n 0 rfl rfl) rfl ?_
  refine nk_p (i := .iconst 1) (len := 1) (pc' := 77) mJ_12 (by decide +kernel) (ns_iconst (c := 1) (by decide +kernel)) rfl ?_
  refine nk_p (i := .iushr) (len := 1) (pc' := 78) mJ_12 (by decide +kernel) ns_iushr rfl ?_
  refine nk_p (i := .iadd) (len := 1) (pc' := 79) mJ_12 (by decide +kernel) ns_iadd rfl ?_
  cases hr
  exact nk_iret (ty := .int) (len := 1) mJ_12 (by decide +kernel) rfl (nk_nar_i _)
noncomputable def ja_J6_numberOfTrailingZeros_0f7a4_b62 (l0 : Int) (l1 : Int) (S : nk_S) : Option (Int × nk_S) :=
  if l0 ≤ 4 then
    ja_J6_numberOfTrailingZeros_0f7a4_b74 l0 l1 S
  else
    nk_lt (nk_w (l1 + 2)) fun v1 =>
    nk_lt (nk_iushr l0 2) fun v3 =>
    ja_J6_numberOfTrailingZeros_0f7a4_b74 v3 v1 S
theorem ja_J6_numberOfTrailingZeros_0f7a4_b62_ok (zs : List Int32) : ∀ (l0 : Int) (l1 : Int) (S : nk_S) (R : Int × nk_S), ja_J6_numberOfTrailingZeros_0f7a4_b62 l0 l1 S = some R → nk_K ja_Tt mi_Γ (mi_ev zs) 1 12 62 [(0, nk_i l0), (1, nk_i l1)] [] S R := by
  intro l0 l1 S R hr
  unfold ja_J6_numberOfTrailingZeros_0f7a4_b62 at hr
  refine nk_p (i := .iload_n 0) (len := 1) (pc' := 63) mJ_12 (by decide +kernel) (ns_iload_n 0 rfl rfl) rfl ?_
  refine nk_p (i := .iconst 4) (len := 1) (pc' := 64) mJ_12 (by decide +kernel) (ns_iconst (c := 4) (by decide +kernel)) rfl ?_
  refine nk_icmp (c := .le) (off := 10) (len := 3) (t := 74) (pc' := 67) mJ_12 (by decide +kernel) (by decide +kernel) rfl (fun hc => ?_) (fun hc => ?_)
  · have hr := nk_ifp (c := l0 ≤ 4) hc hr
    exact ja_J6_numberOfTrailingZeros_0f7a4_b74_ok zs _ _ _ _ hr
  · have hr := nk_ifn (c := l0 ≤ 4) hc hr
    obtain ⟨v1, h2, hr⟩ := nk_lte hr
    refine nk_p (i := .iinc 1 2) (len := 3) (pc' := 70) mJ_12 (by decide +kernel) (ns_iinc (c := 2) (L' := [(1, nk_i v1), (0, nk_i l0)]) 1 rfl (by decide +kernel) h2 rfl (by decide +kernel)) rfl ?_
    refine nk_p (i := .iload_n 0) (len := 1) (pc' := 71) mJ_12 (by decide +kernel) (ns_iload_n 1 rfl rfl) rfl ?_
    refine nk_p (i := .iconst 2) (len := 1) (pc' := 72) mJ_12 (by decide +kernel) (ns_iconst (c := 2) (by decide +kernel)) rfl ?_
    refine nk_p (i := .iushr) (len := 1) (pc' := 73) mJ_12 (by decide +kernel) ns_iushr rfl ?_
    obtain ⟨v3, h4, hr⟩ := nk_lte hr
    refine nk_p (i := .istore_n 0) (len := 1) (pc' := 74) mJ_12 (by decide +kernel) (ns_istore_n (L' := [(0, nk_i v3), (1, nk_i v1)]) h4 rfl rfl (by decide +kernel)) rfl ?_
    exact ja_J6_numberOfTrailingZeros_0f7a4_b74_ok zs _ _ _ _ hr
noncomputable def ja_J6_numberOfTrailingZeros_0f7a4_b49 (l0 : Int) (l1 : Int) (S : nk_S) : Option (Int × nk_S) :=
  if l0 ≤ 16 then
    ja_J6_numberOfTrailingZeros_0f7a4_b62 l0 l1 S
  else
    nk_lt (nk_w (l1 + 4)) fun v1 =>
    nk_lt (nk_iushr l0 4) fun v3 =>
    ja_J6_numberOfTrailingZeros_0f7a4_b62 v3 v1 S
theorem ja_J6_numberOfTrailingZeros_0f7a4_b49_ok (zs : List Int32) : ∀ (l0 : Int) (l1 : Int) (S : nk_S) (R : Int × nk_S), ja_J6_numberOfTrailingZeros_0f7a4_b49 l0 l1 S = some R → nk_K ja_Tt mi_Γ (mi_ev zs) 1 12 49 [(0, nk_i l0), (1, nk_i l1)] [] S R := by
  intro l0 l1 S R hr
  unfold ja_J6_numberOfTrailingZeros_0f7a4_b49 at hr
  refine nk_p (i := .iload_n 0) (len := 1) (pc' := 50) mJ_12 (by decide +kernel) (ns_iload_n 0 rfl rfl) rfl ?_
  refine nk_p (i := .bipush 16) (len := 2) (pc' := 52) mJ_12 (by decide +kernel) (ns_bipush (c := 16) (by decide +kernel)) rfl ?_
  refine nk_icmp (c := .le) (off := 10) (len := 3) (t := 62) (pc' := 55) mJ_12 (by decide +kernel) (by decide +kernel) rfl (fun hc => ?_) (fun hc => ?_)
  · have hr := nk_ifp (c := l0 ≤ 16) hc hr
    exact ja_J6_numberOfTrailingZeros_0f7a4_b62_ok zs _ _ _ _ hr
  · have hr := nk_ifn (c := l0 ≤ 16) hc hr
    obtain ⟨v1, h2, hr⟩ := nk_lte hr
    refine nk_p (i := .iinc 1 4) (len := 3) (pc' := 58) mJ_12 (by decide +kernel) (ns_iinc (c := 4) (L' := [(1, nk_i v1), (0, nk_i l0)]) 1 rfl (by decide +kernel) h2 rfl (by decide +kernel)) rfl ?_
    refine nk_p (i := .iload_n 0) (len := 1) (pc' := 59) mJ_12 (by decide +kernel) (ns_iload_n 1 rfl rfl) rfl ?_
    refine nk_p (i := .iconst 4) (len := 1) (pc' := 60) mJ_12 (by decide +kernel) (ns_iconst (c := 4) (by decide +kernel)) rfl ?_
    refine nk_p (i := .iushr) (len := 1) (pc' := 61) mJ_12 (by decide +kernel) ns_iushr rfl ?_
    obtain ⟨v3, h4, hr⟩ := nk_lte hr
    refine nk_p (i := .istore_n 0) (len := 1) (pc' := 62) mJ_12 (by decide +kernel) (ns_istore_n (L' := [(0, nk_i v3), (1, nk_i v1)]) h4 rfl rfl (by decide +kernel)) rfl ?_
    exact ja_J6_numberOfTrailingZeros_0f7a4_b62_ok zs _ _ _ _ hr
noncomputable def ja_J6_numberOfTrailingZeros_0f7a4_b34 (l0 : Int) (l1 : Int) (S : nk_S) : Option (Int × nk_S) :=
  if l0 ≤ 256 then
    ja_J6_numberOfTrailingZeros_0f7a4_b49 l0 l1 S
  else
    nk_lt (nk_w (l1 + 8)) fun v1 =>
    nk_lt (nk_iushr l0 8) fun v3 =>
    ja_J6_numberOfTrailingZeros_0f7a4_b49 v3 v1 S
theorem ja_J6_numberOfTrailingZeros_0f7a4_b34_ok (zs : List Int32) : ∀ (l0 : Int) (l1 : Int) (S : nk_S) (R : Int × nk_S), ja_J6_numberOfTrailingZeros_0f7a4_b34 l0 l1 S = some R → nk_K ja_Tt mi_Γ (mi_ev zs) 1 12 34 [(0, nk_i l0), (1, nk_i l1)] [] S R := by
  intro l0 l1 S R hr
  unfold ja_J6_numberOfTrailingZeros_0f7a4_b34 at hr
  refine nk_p (i := .iload_n 0) (len := 1) (pc' := 35) mJ_12 (by decide +kernel) (ns_iload_n 0 rfl rfl) rfl ?_
  refine nk_p (i := .sipush 256) (len := 3) (pc' := 38) mJ_12 (by decide +kernel) (ns_sipush (c := 256) (by decide +kernel)) rfl ?_
  refine nk_icmp (c := .le) (off := 11) (len := 3) (t := 49) (pc' := 41) mJ_12 (by decide +kernel) (by decide +kernel) rfl (fun hc => ?_) (fun hc => ?_)
  · have hr := nk_ifp (c := l0 ≤ 256) hc hr
    exact ja_J6_numberOfTrailingZeros_0f7a4_b49_ok zs _ _ _ _ hr
  · have hr := nk_ifn (c := l0 ≤ 256) hc hr
    obtain ⟨v1, h2, hr⟩ := nk_lte hr
    refine nk_p (i := .iinc 1 8) (len := 3) (pc' := 44) mJ_12 (by decide +kernel) (ns_iinc (c := 8) (L' := [(1, nk_i v1), (0, nk_i l0)]) 1 rfl (by decide +kernel) h2 rfl (by decide +kernel)) rfl ?_
    refine nk_p (i := .iload_n 0) (len := 1) (pc' := 45) mJ_12 (by decide +kernel) (ns_iload_n 1 rfl rfl) rfl ?_
    refine nk_p (i := .bipush 8) (len := 2) (pc' := 47) mJ_12 (by decide +kernel) (ns_bipush (c := 8) (by decide +kernel)) rfl ?_
    refine nk_p (i := .iushr) (len := 1) (pc' := 48) mJ_12 (by decide +kernel) ns_iushr rfl ?_
    obtain ⟨v3, h4, hr⟩ := nk_lte hr
    refine nk_p (i := .istore_n 0) (len := 1) (pc' := 49) mJ_12 (by decide +kernel) (ns_istore_n (L' := [(0, nk_i v3), (1, nk_i v1)]) h4 rfl rfl (by decide +kernel)) rfl ?_
    exact ja_J6_numberOfTrailingZeros_0f7a4_b49_ok zs _ _ _ _ hr
noncomputable def ja_J6_numberOfTrailingZeros_0f7a4 (l0 : Int) (S : nk_S) : Option (Int × nk_S) :=
  nk_lt (nk_iand (nk_ixor l0 (-1)) (nk_w (l0 - 1))) fun v1 =>
  if 0 < v1 then
    if v1 ≤ 65536 then
      ja_J6_numberOfTrailingZeros_0f7a4_b34 v1 1 S
    else
      nk_lt (nk_w (1 + 16)) fun v3 =>
      nk_lt (nk_iushr v1 16) fun v5 =>
      ja_J6_numberOfTrailingZeros_0f7a4_b34 v5 v3 S
  else
    some ((nk_iand v1 32), S)
theorem ja_J6_numberOfTrailingZeros_0f7a4_ok (zs : List Int32) : ∀ (l0 : Int) (S : nk_S) (R : Int × nk_S), ja_J6_numberOfTrailingZeros_0f7a4 l0 S = some R → nk_K ja_Tt mi_Γ (mi_ev zs) 1 12 0 [(0, nk_i l0)] [] S R := by
  intro l0 S R hr
  unfold ja_J6_numberOfTrailingZeros_0f7a4 at hr
  refine nk_p (i := .iload_n 0) (len := 1) (pc' := 1) mJ_12 (by decide +kernel) (ns_iload_n 0 rfl rfl) rfl ?_
  refine nk_p (i := .iconst (-1)) (len := 1) (pc' := 2) mJ_12 (by decide +kernel) (ns_iconst (c := (-1)) (by decide +kernel)) rfl ?_
  refine nk_p (i := .ixor) (len := 1) (pc' := 3) mJ_12 (by decide +kernel) ns_ixor rfl ?_
  refine nk_p (i := .iload_n 0) (len := 1) (pc' := 4) mJ_12 (by decide +kernel) (ns_iload_n 0 rfl rfl) rfl ?_
  refine nk_p (i := .iconst 1) (len := 1) (pc' := 5) mJ_12 (by decide +kernel) (ns_iconst (c := 1) (by decide +kernel)) rfl ?_
  refine nk_p (i := .isub) (len := 1) (pc' := 6) mJ_12 (by decide +kernel) ns_isub rfl ?_
  refine nk_p (i := .iand) (len := 1) (pc' := 7) mJ_12 (by decide +kernel) ns_iand rfl ?_
  obtain ⟨v1, h2, hr⟩ := nk_lte hr
  refine nk_p (i := .istore_n 0) (len := 1) (pc' := 8) mJ_12 (by decide +kernel) (ns_istore_n (L' := [(0, nk_i v1)]) h2 rfl rfl (by decide +kernel)) rfl ?_
  refine nk_p (i := .iload_n 0) (len := 1) (pc' := 9) mJ_12 (by decide +kernel) (ns_iload_n 0 rfl rfl) rfl ?_
  refine nk_icond (c := .gt) (off := 8) (len := 3) (t := 17) (pc' := 12) mJ_12 (by decide +kernel) (by decide +kernel) rfl (fun hc => ?_) (fun hc => ?_)
  · have hr := nk_ifp (c := 0 < v1) hc hr
    refine nk_p (i := .iconst 1) (len := 1) (pc' := 18) mJ_12 (by decide +kernel) (ns_iconst (c := 1) (by decide +kernel)) rfl ?_
    refine nk_p (i := .istore_n 1) (len := 1) (pc' := 19) mJ_12 (by decide +kernel) (ns_istore_n (L' := [(1, nk_i 1), (0, nk_i v1)]) rfl rfl rfl (by decide +kernel)) rfl ?_
    refine nk_p (i := .iload_n 0) (len := 1) (pc' := 20) mJ_12 (by decide +kernel) (ns_iload_n 1 rfl rfl) rfl ?_
    refine nk_ldcw (x := 264) (len := 3) (X := 65536) (v := 65536) (pc' := 23) mJ_12 (by decide +kernel) (by decide +kernel) (by decide +kernel) rfl ?_
    refine nk_icmp (c := .le) (off := 11) (len := 3) (t := 34) (pc' := 26) mJ_12 (by decide +kernel) (by decide +kernel) rfl (fun hc => ?_) (fun hc => ?_)
    · have hr := nk_ifp (c := v1 ≤ 65536) hc hr
      refine nk_sub [1, 0] (L' := [(0, nk_i v1), (1, nk_i 1)]) rfl ?_
      exact ja_J6_numberOfTrailingZeros_0f7a4_b34_ok zs _ _ _ _ hr
    · have hr := nk_ifn (c := v1 ≤ 65536) hc hr
      obtain ⟨v3, h4, hr⟩ := nk_lte hr
      refine nk_p (i := .iinc 1 16) (len := 3) (pc' := 29) mJ_12 (by decide +kernel) (ns_iinc (c := 16) (L' := [(1, nk_i v3), (0, nk_i v1)]) 0 rfl (by decide +kernel) h4 rfl (by decide +kernel)) rfl ?_
      refine nk_p (i := .iload_n 0) (len := 1) (pc' := 30) mJ_12 (by decide +kernel) (ns_iload_n 1 rfl rfl) rfl ?_
      refine nk_p (i := .bipush 16) (len := 2) (pc' := 32) mJ_12 (by decide +kernel) (ns_bipush (c := 16) (by decide +kernel)) rfl ?_
      refine nk_p (i := .iushr) (len := 1) (pc' := 33) mJ_12 (by decide +kernel) ns_iushr rfl ?_
      obtain ⟨v5, h6, hr⟩ := nk_lte hr
      refine nk_p (i := .istore_n 0) (len := 1) (pc' := 34) mJ_12 (by decide +kernel) (ns_istore_n (L' := [(0, nk_i v5), (1, nk_i v3)]) h6 rfl rfl (by decide +kernel)) rfl ?_
      exact ja_J6_numberOfTrailingZeros_0f7a4_b34_ok zs _ _ _ _ hr
  · have hr := nk_ifn (c := 0 < v1) hc hr
    refine nk_p (i := .iload_n 0) (len := 1) (pc' := 13) mJ_12 (by decide +kernel) (ns_iload_n 0 rfl rfl) rfl ?_
    refine nk_p (i := .bipush 32) (len := 2) (pc' := 15) mJ_12 (by decide +kernel) (ns_bipush (c := 32) (by decide +kernel)) rfl ?_
    refine nk_p (i := .iand) (len := 1) (pc' := 16) mJ_12 (by decide +kernel) ns_iand rfl ?_
    cases hr
    exact nk_iret (ty := .int) (len := 1) mJ_12 (by decide +kernel) rfl (nk_nar_i _)
/-! java/lang/Long numberOfTrailingZeros (J)I -/
noncomputable def ja_J13_numberOfTrailingZeros_95d88 (l0 : Int) (S : nk_S) : Option (Int × nk_S) :=
  nk_lt (nk_w l0) fun v1 =>
  if v1 = 0 then
    nk_bd (ja_J6_numberOfTrailingZeros_0f7a4 (nk_w (nk_lushr l0 32)) S) fun r6 S7 =>
    some ((nk_w (32 + r6)), S7)
  else
    nk_bd (ja_J6_numberOfTrailingZeros_0f7a4 v1 S) fun r3 S4 =>
    some (r3, S4)
theorem ja_J13_numberOfTrailingZeros_95d88_ok (zs : List Int32) : ∀ (l0 : Int) (S : nk_S) (R : Int × nk_S), ja_J13_numberOfTrailingZeros_95d88 l0 S = some R → nk_K ja_Tt mi_Γ (mi_ev zs) 1 7 0 [(0, nk_l l0)] [] S R := by
  intro l0 S R hr
  unfold ja_J13_numberOfTrailingZeros_95d88 at hr
  refine nk_p (i := .lload_n 0) (len := 1) (pc' := 1) mJ_7 (by decide +kernel) (ns_lload_n 0 rfl rfl) rfl ?_
  refine nk_p (i := .l2i) (len := 1) (pc' := 2) mJ_7 (by decide +kernel) ns_l2i rfl ?_
  obtain ⟨v1, h2, hr⟩ := nk_lte hr
  refine nk_p (i := .istore_n 2) (len := 1) (pc' := 3) mJ_7 (by decide +kernel) (ns_istore_n (L' := [(2, nk_i v1), (0, nk_l l0)]) h2 rfl rfl (by decide +kernel)) rfl ?_
  refine nk_p (i := .iload_n 2) (len := 1) (pc' := 4) mJ_7 (by decide +kernel) (ns_iload_n 0 rfl rfl) rfl ?_
  refine nk_icond (c := .ne) (off := 17) (len := 3) (t := 21) (pc' := 7) mJ_7 (by decide +kernel) (by decide +kernel) rfl (fun hc => ?_) (fun hc => ?_)
  · have hr := nk_ifn (c := v1 = 0) hc hr
    refine nk_p (i := .iload_n 2) (len := 1) (pc' := 22) mJ_7 (by decide +kernel) (ns_iload_n 0 rfl rfl) rfl ?_
    obtain ⟨r3, S4, h5, hr⟩ := nk_bde hr
    refine nk_callS (ci := 0) (n := 1) (x := 311) (len := 3) (j' := 12) (q' := 1) (r := r3) (S' := S4) (L2 := [(0, nk_i v1)]) (rest := []) (st' := [nk_i r3]) (pc' := 25) mJ_7 (by decide +kernel) (by decide +kernel) (Nat.le_of_ble_eq_true rfl) rfl rfl (Nat.le_of_ble_eq_true rfl) mJ_12 (Nat.le_of_ble_eq_true rfl) ja_Tpos rfl (ja_J6_numberOfTrailingZeros_0f7a4_ok zs _ _ _ h5) rfl ?_
    cases hr
    exact nk_iret (ty := .int) (len := 1) mJ_7 (by decide +kernel) rfl (nk_nar_i _)
  · have hr := nk_ifp (c := v1 = 0) (Decidable.of_not_not hc) hr
    refine nk_p (i := .bipush 32) (len := 2) (pc' := 9) mJ_7 (by decide +kernel) (ns_bipush (c := 32) (by decide +kernel)) rfl ?_
    refine nk_p (i := .lload_n 0) (len := 1) (pc' := 10) mJ_7 (by decide +kernel) (ns_lload_n 1 rfl rfl) rfl ?_
    refine nk_p (i := .bipush 32) (len := 2) (pc' := 12) mJ_7 (by decide +kernel) (ns_bipush (c := 32) (by decide +kernel)) rfl ?_
    refine nk_p (i := .lushr) (len := 1) (pc' := 13) mJ_7 (by decide +kernel) ns_lushr rfl ?_
    refine nk_p (i := .l2i) (len := 1) (pc' := 14) mJ_7 (by decide +kernel) ns_l2i rfl ?_
    obtain ⟨r6, S7, h8, hr⟩ := nk_bde hr
    refine nk_callS (ci := 0) (n := 1) (x := 311) (len := 3) (j' := 12) (q' := 1) (r := r6) (S' := S7) (L2 := [(0, nk_i (nk_w (nk_lushr l0 32)))]) (rest := [nk_i 32]) (st' := [nk_i r6, nk_i 32]) (pc' := 17) mJ_7 (by decide +kernel) (by decide +kernel) (Nat.le_of_ble_eq_true rfl) rfl rfl (Nat.le_of_ble_eq_true rfl) mJ_12 (Nat.le_of_ble_eq_true rfl) ja_Tpos rfl (ja_J6_numberOfTrailingZeros_0f7a4_ok zs _ _ _ h8) rfl ?_
    refine nk_p (i := .iadd) (len := 1) (pc' := 18) mJ_7 (by decide +kernel) ns_iadd rfl ?_
    refine nk_p (i := .goto 7) (len := 3) (pc' := 25) mJ_7 (by decide +kernel) (ns_goto (by decide +kernel)) rfl ?_
    cases hr
    exact nk_iret (ty := .int) (len := 1) mJ_7 (by decide +kernel) rfl (nk_nar_i _)
/-! java/lang/Integer bitCount (I)I -/
noncomputable def ja_J6_bitCount_0f7a4 (l0 : Int) (S : nk_S) : Option (Int × nk_S) :=
  nk_lt (nk_w (l0 - (nk_iand (nk_iushr l0 1) 1431655765))) fun v1 =>
  nk_lt (nk_w ((nk_iand v1 858993459) + (nk_iand (nk_iushr v1 2) 858993459))) fun v3 =>
  nk_lt (nk_iand (nk_w (v3 + (nk_iushr v3 4))) 252645135) fun v5 =>
  nk_lt (nk_w (v5 + (nk_iushr v5 8))) fun v7 =>
  nk_lt (nk_w (v7 + (nk_iushr v7 16))) fun v9 =>
  some ((nk_iand v9 63), S)
theorem ja_J6_bitCount_0f7a4_ok (zs : List Int32) : ∀ (l0 : Int) (S : nk_S) (R : Int × nk_S), ja_J6_bitCount_0f7a4 l0 S = some R → nk_K ja_Tt mi_Γ (mi_ev zs) 1 10 0 [(0, nk_i l0)] [] S R := by
  intro l0 S R hr
  unfold ja_J6_bitCount_0f7a4 at hr
  refine nk_p (i := .iload_n 0) (len := 1) (pc' := 1) mJ_10 (by decide +kernel) (ns_iload_n 0 rfl rfl) rfl ?_
  refine nk_p (i := .iload_n 0) (len := 1) (pc' := 2) mJ_10 (by decide +kernel) (ns_iload_n 0 rfl rfl) rfl ?_
  refine nk_p (i := .iconst 1) (len := 1) (pc' := 3) mJ_10 (by decide +kernel) (ns_iconst (c := 1) (by decide +kernel)) rfl ?_
  refine nk_p (i := .iushr) (len := 1) (pc' := 4) mJ_10 (by decide +kernel) ns_iushr rfl ?_
  refine nk_ldcw (x := 265) (len := 3) (X := 1431655765) (v := 1431655765) (pc' := 7) mJ_10 (by decide +kernel) (by decide +kernel) (by decide +kernel) rfl ?_
  refine nk_p (i := .iand) (len := 1) (pc' := 8) mJ_10 (by decide +kernel) ns_iand rfl ?_
  refine nk_p (i := .isub) (len := 1) (pc' := 9) mJ_10 (by decide +kernel) ns_isub rfl ?_
  obtain ⟨v1, h2, hr⟩ := nk_lte hr
  refine nk_p (i := .istore_n 0) (len := 1) (pc' := 10) mJ_10 (by decide +kernel) (ns_istore_n (L' := [(0, nk_i v1)]) h2 rfl rfl (by decide +kernel)) rfl ?_
  refine nk_p (i := .iload_n 0) (len := 1) (pc' := 11) mJ_10 (by decide +kernel) (ns_iload_n 0 rfl rfl) rfl ?_
  refine nk_ldcw (x := 266) (len := 3) (X := 858993459) (v := 858993459) (pc' := 14) mJ_10 (by decide +kernel) (by decide +kernel) (by decide +kernel) rfl ?_
  refine nk_p (i := .iand) (len := 1) (pc' := 15) mJ_10 (by decide +kernel) ns_iand rfl ?_
  refine nk_p (i := .iload_n 0) (len := 1) (pc' := 16) mJ_10 (by decide +kernel) (ns_iload_n 0 rfl rfl) rfl ?_
  refine nk_p (i := .iconst 2) (len := 1) (pc' := 17) mJ_10 (by decide +kernel) (ns_iconst (c := 2) (by decide +kernel)) rfl ?_
  refine nk_p (i := .iushr) (len := 1) (pc' := 18) mJ_10 (by decide +kernel) ns_iushr rfl ?_
  refine nk_ldcw (x := 266) (len := 3) (X := 858993459) (v := 858993459) (pc' := 21) mJ_10 (by decide +kernel) (by decide +kernel) (by decide +kernel) rfl ?_
  refine nk_p (i := .iand) (len := 1) (pc' := 22) mJ_10 (by decide +kernel) ns_iand rfl ?_
  refine nk_p (i := .iadd) (len := 1) (pc' := 23) mJ_10 (by decide +kernel) ns_iadd rfl ?_
  obtain ⟨v3, h4, hr⟩ := nk_lte hr
  refine nk_p (i := .istore_n 0) (len := 1) (pc' := 24) mJ_10 (by decide +kernel) (ns_istore_n (L' := [(0, nk_i v3)]) h4 rfl rfl (by decide +kernel)) rfl ?_
  refine nk_p (i := .iload_n 0) (len := 1) (pc' := 25) mJ_10 (by decide +kernel) (ns_iload_n 0 rfl rfl) rfl ?_
  refine nk_p (i := .iload_n 0) (len := 1) (pc' := 26) mJ_10 (by decide +kernel) (ns_iload_n 0 rfl rfl) rfl ?_
  refine nk_p (i := .iconst 4) (len := 1) (pc' := 27) mJ_10 (by decide +kernel) (ns_iconst (c := 4) (by decide +kernel)) rfl ?_
  refine nk_p (i := .iushr) (len := 1) (pc' := 28) mJ_10 (by decide +kernel) ns_iushr rfl ?_
  refine nk_p (i := .iadd) (len := 1) (pc' := 29) mJ_10 (by decide +kernel) ns_iadd rfl ?_
  refine nk_ldcw (x := 267) (len := 3) (X := 252645135) (v := 252645135) (pc' := 32) mJ_10 (by decide +kernel) (by decide +kernel) (by decide +kernel) rfl ?_
  refine nk_p (i := .iand) (len := 1) (pc' := 33) mJ_10 (by decide +kernel) ns_iand rfl ?_
  obtain ⟨v5, h6, hr⟩ := nk_lte hr
  refine nk_p (i := .istore_n 0) (len := 1) (pc' := 34) mJ_10 (by decide +kernel) (ns_istore_n (L' := [(0, nk_i v5)]) h6 rfl rfl (by decide +kernel)) rfl ?_
  refine nk_p (i := .iload_n 0) (len := 1) (pc' := 35) mJ_10 (by decide +kernel) (ns_iload_n 0 rfl rfl) rfl ?_
  refine nk_p (i := .iload_n 0) (len := 1) (pc' := 36) mJ_10 (by decide +kernel) (ns_iload_n 0 rfl rfl) rfl ?_
  refine nk_p (i := .bipush 8) (len := 2) (pc' := 38) mJ_10 (by decide +kernel) (ns_bipush (c := 8) (by decide +kernel)) rfl ?_
  refine nk_p (i := .iushr) (len := 1) (pc' := 39) mJ_10 (by decide +kernel) ns_iushr rfl ?_
  refine nk_p (i := .iadd) (len := 1) (pc' := 40) mJ_10 (by decide +kernel) ns_iadd rfl ?_
  obtain ⟨v7, h8, hr⟩ := nk_lte hr
  refine nk_p (i := .istore_n 0) (len := 1) (pc' := 41) mJ_10 (by decide +kernel) (ns_istore_n (L' := [(0, nk_i v7)]) h8 rfl rfl (by decide +kernel)) rfl ?_
  refine nk_p (i := .iload_n 0) (len := 1) (pc' := 42) mJ_10 (by decide +kernel) (ns_iload_n 0 rfl rfl) rfl ?_
  refine nk_p (i := .iload_n 0) (len := 1) (pc' := 43) mJ_10 (by decide +kernel) (ns_iload_n 0 rfl rfl) rfl ?_
  refine nk_p (i := .bipush 16) (len := 2) (pc' := 45) mJ_10 (by decide +kernel) (ns_bipush (c := 16) (by decide +kernel)) rfl ?_
  refine nk_p (i := .iushr) (len := 1) (pc' := 46) mJ_10 (by decide +kernel) ns_iushr rfl ?_
  refine nk_p (i := .iadd) (len := 1) (pc' := 47) mJ_10 (by decide +kernel) ns_iadd rfl ?_
  obtain ⟨v9, h10, hr⟩ := nk_lte hr
  refine nk_p (i := .istore_n 0) (len := 1) (pc' := 48) mJ_10 (by decide +kernel) (ns_istore_n (L' := [(0, nk_i v9)]) h10 rfl rfl (by decide +kernel)) rfl ?_
  refine nk_p (i := .iload_n 0) (len := 1) (pc' := 49) mJ_10 (by decide +kernel) (ns_iload_n 0 rfl rfl) rfl ?_
  refine nk_p (i := .bipush 63) (len := 2) (pc' := 51) mJ_10 (by decide +kernel) (ns_bipush (c := 63) (by decide +kernel)) rfl ?_
  refine nk_p (i := .iand) (len := 1) (pc' := 52) mJ_10 (by decide +kernel) ns_iand rfl ?_
  cases hr
  exact nk_iret (ty := .int) (len := 1) mJ_10 (by decide +kernel) rfl (nk_nar_i _)
/-! java/lang/Integer numberOfLeadingZeros (I)I -/
noncomputable def ja_J6_numberOfLeadingZeros_0f7a4_b73 (l0 : Int) (l1 : Int) (S : nk_S) : Option (Int × nk_S) :=
  some ((nk_w (l1 - (nk_iushr l0 1))), S)
theorem ja_J6_numberOfLeadingZeros_0f7a4_b73_ok (zs : List Int32) : ∀ (l0 : Int) (l1 : Int) (S : nk_S) (R : Int × nk_S), ja_J6_numberOfLeadingZeros_0f7a4_b73 l0 l1 S = some R → nk_K ja_Tt mi_Γ (mi_ev zs) 1 11 73 [(0, nk_i l0), (1, nk_i l1)] [] S R := by
  intro l0 l1 S R hr
  unfold ja_J6_numberOfLeadingZeros_0f7a4_b73 at hr
  refine nk_p (i := .iload_n 1) (len := 1) (pc' := 74) mJ_11 (by decide +kernel) (ns_iload_n 1 rfl rfl) rfl ?_
  refine nk_p (i := .iload_n 0) (len := 1) (pc' := 75) mJ_11 (by decide +kernel) (ns_iload_n 0 rfl rfl) rfl ?_
  refine nk_p (i := .iconst 1) (len := 1) (pc' := 76) mJ_11 (by decide +kernel) (ns_iconst (c := 1) (by decide +kernel)) rfl ?_
  refine nk_p (i := .iushr) (len := 1) (pc' := 77) mJ_11 (by decide +kernel) ns_iushr rfl ?_
  refine nk_p (i := .isub) (len := 1) (pc' := 78) mJ_11 (by decide +kernel) ns_isub rfl ?_
  cases hr
  exact nk_iret (ty := .int) (len := 1) mJ_11 (by decide +kernel) rfl (nk_nar_i _)
noncomputable def ja_J6_numberOfLeadingZeros_0f7a4_b61 (l0 : Int) (l1 : Int) (S : nk_S) : Option (Int × nk_S) :=
  if l0 < 4 then
    ja_J6_numberOfLeadingZeros_0f7a4_b73 l0 l1 S
  else
    nk_lt (nk_w (l1 + (-2))) fun v1 =>
    nk_lt (nk_iushr l0 2) fun v3 =>
    ja_J6_numberOfLeadingZeros_0f7a4_b73 v3 v1 S
theorem ja_J6_numberOfLeadingZeros_0f7a4_b61_ok (zs : List Int32) : ∀ (l0 : Int) (l1 : Int) (S : nk_S) (R : Int × nk_S), ja_J6_numberOfLeadingZeros_0f7a4_b61 l0 l1 S = some R → nk_K ja_Tt mi_Γ (mi_ev zs) 1 11 61 [(0, nk_i l0), (1, nk_i l1)] [] S R := by
  intro l0 l1 S R hr
  unfold ja_J6_numberOfLeadingZeros_0f7a4_b61 at hr
  refine nk_p (i := .iload_n 0) (len := 1) (pc' := 62) mJ_11 (by decide +kernel) (ns_iload_n 0 rfl rfl) rfl ?_
  refine nk_p (i := .iconst 4) (len := 1) (pc' := 63) mJ_11 (by decide +kernel) (ns_iconst (c := 4) (by decide +kernel)) rfl ?_
  refine nk_icmp (c := .lt) (off := 10) (len := 3) (t := 73) (pc' := 66) mJ_11 (by decide +kernel) (by decide +kernel) rfl (fun hc => ?_) (fun hc => ?_)
  · have hr := nk_ifp (c := l0 < 4) hc hr
    exact ja_J6_numberOfLeadingZeros_0f7a4_b73_ok zs _ _ _ _ hr
  · have hr := nk_ifn (c := l0 < 4) hc hr
    obtain ⟨v1, h2, hr⟩ := nk_lte hr
    refine nk_p (i := .iinc 1 (-2)) (len := 3) (pc' := 69) mJ_11 (by decide +kernel) (ns_iinc (c := (-2)) (L' := [(1, nk_i v1), (0, nk_i l0)]) 1 rfl (by decide +kernel) h2 rfl (by decide +kernel)) rfl ?_
    refine nk_p (i := .iload_n 0) (len := 1) (pc' := 70) mJ_11 (by decide +kernel) (ns_iload_n 1 rfl rfl) rfl ?_
    refine nk_p (i := .iconst 2) (len := 1) (pc' := 71) mJ_11 (by decide +kernel) (ns_iconst (c := 2) (by decide +kernel)) rfl ?_
    refine nk_p (i := .iushr) (len := 1) (pc' := 72) mJ_11 (by decide +kernel) ns_iushr rfl ?_
    obtain ⟨v3, h4, hr⟩ := nk_lte hr
    refine nk_p (i := .istore_n 0) (len := 1) (pc' := 73) mJ_11 (by decide +kernel) (ns_istore_n (L' := [(0, nk_i v3), (1, nk_i v1)]) h4 rfl rfl (by decide +kernel)) rfl ?_
    exact ja_J6_numberOfLeadingZeros_0f7a4_b73_ok zs _ _ _ _ hr
noncomputable def ja_J6_numberOfLeadingZeros_0f7a4_b48 (l0 : Int) (l1 : Int) (S : nk_S) : Option (Int × nk_S) :=
  if l0 < 16 then
    ja_J6_numberOfLeadingZeros_0f7a4_b61 l0 l1 S
  else
    nk_lt (nk_w (l1 + (-4))) fun v1 =>
    nk_lt (nk_iushr l0 4) fun v3 =>
    ja_J6_numberOfLeadingZeros_0f7a4_b61 v3 v1 S
theorem ja_J6_numberOfLeadingZeros_0f7a4_b48_ok (zs : List Int32) : ∀ (l0 : Int) (l1 : Int) (S : nk_S) (R : Int × nk_S), ja_J6_numberOfLeadingZeros_0f7a4_b48 l0 l1 S = some R → nk_K ja_Tt mi_Γ (mi_ev zs) 1 11 48 [(0, nk_i l0), (1, nk_i l1)] [] S R := by
  intro l0 l1 S R hr
  unfold ja_J6_numberOfLeadingZeros_0f7a4_b48 at hr
  refine nk_p (i := .iload_n 0) (len := 1) (pc' := 49) mJ_11 (by decide +kernel) (ns_iload_n 0 rfl rfl) rfl ?_
  refine nk_p (i := .bipush 16) (len := 2) (pc' := 51) mJ_11 (by decide +kernel) (ns_bipush (c := 16) (by decide +kernel)) rfl ?_
  refine nk_icmp (c := .lt) (off := 10) (len := 3) (t := 61) (pc' := 54) mJ_11 (by decide +kernel) (by decide +kernel) rfl (fun hc => ?_) (fun hc => ?_)
  · have hr := nk_ifp (c := l0 < 16) hc hr
    exact ja_J6_numberOfLeadingZeros_0f7a4_b61_ok zs _ _ _ _ hr
  · have hr := nk_ifn (c := l0 < 16) hc hr
    obtain ⟨v1, h2, hr⟩ := nk_lte hr
    refine nk_p (i := .iinc 1 (-4)) (len := 3) (pc' := 57) mJ_11 (by decide +kernel) (ns_iinc (c := (-4)) (L' := [(1, nk_i v1), (0, nk_i l0)]) 1 rfl (by decide +kernel) h2 rfl (by decide +kernel)) rfl ?_
    refine nk_p (i := .iload_n 0) (len := 1) (pc' := 58) mJ_11 (by decide +kernel) (ns_iload_n 1 rfl rfl) rfl ?_
    refine nk_p (i := .iconst 4) (len := 1) (pc' := 59) mJ_11 (by decide +kernel) (ns_iconst (c := 4) (by decide +kernel)) rfl ?_
    refine nk_p (i := .iushr) (len := 1) (pc' := 60) mJ_11 (by decide +kernel) ns_iushr rfl ?_
    obtain ⟨v3, h4, hr⟩ := nk_lte hr
    refine nk_p (i := .istore_n 0) (len := 1) (pc' := 61) mJ_11 (by decide +kernel) (ns_istore_n (L' := [(0, nk_i v3), (1, nk_i v1)]) h4 rfl rfl (by decide +kernel)) rfl ?_
    exact ja_J6_numberOfLeadingZeros_0f7a4_b61_ok zs _ _ _ _ hr
noncomputable def ja_J6_numberOfLeadingZeros_0f7a4_b33 (l0 : Int) (l1 : Int) (S : nk_S) : Option (Int × nk_S) :=
  if l0 < 256 then
    ja_J6_numberOfLeadingZeros_0f7a4_b48 l0 l1 S
  else
    nk_lt (nk_w (l1 + (-8))) fun v1 =>
    nk_lt (nk_iushr l0 8) fun v3 =>
    ja_J6_numberOfLeadingZeros_0f7a4_b48 v3 v1 S
theorem ja_J6_numberOfLeadingZeros_0f7a4_b33_ok (zs : List Int32) : ∀ (l0 : Int) (l1 : Int) (S : nk_S) (R : Int × nk_S), ja_J6_numberOfLeadingZeros_0f7a4_b33 l0 l1 S = some R → nk_K ja_Tt mi_Γ (mi_ev zs) 1 11 33 [(0, nk_i l0), (1, nk_i l1)] [] S R := by
  intro l0 l1 S R hr
  unfold ja_J6_numberOfLeadingZeros_0f7a4_b33 at hr
  refine nk_p (i := .iload_n 0) (len := 1) (pc' := 34) mJ_11 (by decide +kernel) (ns_iload_n 0 rfl rfl) rfl ?_
  refine nk_p (i := .sipush 256) (len := 3) (pc' := 37) mJ_11 (by decide +kernel) (ns_sipush (c := 256) (by decide +kernel)) rfl ?_
  refine nk_icmp (c := .lt) (off := 11) (len := 3) (t := 48) (pc' := 40) mJ_11 (by decide +kernel) (by decide +kernel) rfl (fun hc => ?_) (fun hc => ?_)
  · have hr := nk_ifp (c := l0 < 256) hc hr
    exact ja_J6_numberOfLeadingZeros_0f7a4_b48_ok zs _ _ _ _ hr
  · have hr := nk_ifn (c := l0 < 256) hc hr
    obtain ⟨v1, h2, hr⟩ := nk_lte hr
    refine nk_p (i := .iinc 1 (-8)) (len := 3) (pc' := 43) mJ_11 (by decide +kernel) (ns_iinc (c := (-8)) (L' := [(1, nk_i v1), (0, nk_i l0)]) 1 rfl (by decide +kernel) h2 rfl (by decide +kernel)) rfl ?_
    refine nk_p (i := .iload_n 0) (len := 1) (pc' := 44) mJ_11 (by decide +kernel) (ns_iload_n 1 rfl rfl) rfl ?_
    refine nk_p (i := .bipush 8) (len := 2) (pc' := 46) mJ_11 (by decide +kernel) (ns_bipush (c := 8) (by decide +kernel)) rfl ?_
    refine nk_p (i := .iushr) (len := 1) (pc' := 47) mJ_11 (by decide +kernel) ns_iushr rfl ?_
    obtain ⟨v3, h4, hr⟩ := nk_lte hr
    refine nk_p (i := .istore_n 0) (len := 1) (pc' := 48) mJ_11 (by decide +kernel) (ns_istore_n (L' := [(0, nk_i v3), (1, nk_i v1)]) h4 rfl rfl (by decide +kernel)) rfl ?_
    exact ja_J6_numberOfLeadingZeros_0f7a4_b48_ok zs _ _ _ _ hr
noncomputable def ja_J6_numberOfLeadingZeros_0f7a4 (l0 : Int) (S : nk_S) : Option (Int × nk_S) :=
  if 0 < l0 then
    if l0 < 65536 then
      ja_J6_numberOfLeadingZeros_0f7a4_b33 l0 31 S
    else
      nk_lt (nk_w (31 + (-16))) fun v1 =>
      nk_lt (nk_iushr l0 16) fun v3 =>
      ja_J6_numberOfLeadingZeros_0f7a4_b33 v3 v1 S
  else
    if l0 = 0 then
      some (32, S)
    else
      some (0, S)
theorem ja_J6_numberOfLeadingZeros_0f7a4_ok (zs : List Int32) : ∀ (l0 : Int) (S : nk_S) (R : Int × nk_S), ja_J6_numberOfLeadingZeros_0f7a4 l0 S = some R → nk_K ja_Tt mi_Γ (mi_ev zs) 1 11 0 [(0, nk_i l0)] [] S R := by
  intro l0 S R hr
  unfold ja_J6_numberOfLeadingZeros_0f7a4 at hr
  refine nk_p (i := .iload_n 0) (len := 1) (pc' := 1) mJ_11 (by decide +kernel) (ns_iload_n 0 rfl rfl) rfl ?_
  refine nk_icond (c := .gt) (off := 14) (len := 3) (t := 15) (pc' := 4) mJ_11 (by decide +kernel) (by decide +kernel) rfl (fun hc => ?_) (fun hc => ?_)
  · have hr := nk_ifp (c := 0 < l0) hc hr
    refine nk_p (i := .bipush 31) (len := 2) (pc' := 17) mJ_11 (by decide +kernel) (ns_bipush (c := 31) (by decide +kernel)) rfl ?_
    refine nk_p (i := .istore_n 1) (len := 1) (pc' := 18) mJ_11 (by decide +kernel) (ns_istore_n (L' := [(1, nk_i 31), (0, nk_i l0)]) rfl rfl rfl (by decide +kernel)) rfl ?_
    refine nk_p (i := .iload_n 0) (len := 1) (pc' := 19) mJ_11 (by decide +kernel) (ns_iload_n 1 rfl rfl) rfl ?_
    refine nk_ldcw (x := 264) (len := 3) (X := 65536) (v := 65536) (pc' := 22) mJ_11 (by decide +kernel) (by decide +kernel) (by decide +kernel) rfl ?_
    refine nk_icmp (c := .lt) (off := 11) (len := 3) (t := 33) (pc' := 25) mJ_11 (by decide +kernel) (by decide +kernel) rfl (fun hc => ?_) (fun hc => ?_)
    · have hr := nk_ifp (c := l0 < 65536) hc hr
      refine nk_sub [1, 0] (L' := [(0, nk_i l0), (1, nk_i 31)]) rfl ?_
      exact ja_J6_numberOfLeadingZeros_0f7a4_b33_ok zs _ _ _ _ hr
    · have hr := nk_ifn (c := l0 < 65536) hc hr
      obtain ⟨v1, h2, hr⟩ := nk_lte hr
      refine nk_p (i := .iinc 1 (-16)) (len := 3) (pc' := 28) mJ_11 (by decide +kernel) (ns_iinc (c := (-16)) (L' := [(1, nk_i v1), (0, nk_i l0)]) 0 rfl (by decide +kernel) h2 rfl (by decide +kernel)) rfl ?_
      refine nk_p (i := .iload_n 0) (len := 1) (pc' := 29) mJ_11 (by decide +kernel) (ns_iload_n 1 rfl rfl) rfl ?_
      refine nk_p (i := .bipush 16) (len := 2) (pc' := 31) mJ_11 (by decide +kernel) (ns_bipush (c := 16) (by decide +kernel)) rfl ?_
      refine nk_p (i := .iushr) (len := 1) (pc' := 32) mJ_11 (by decide +kernel) ns_iushr rfl ?_
      obtain ⟨v3, h4, hr⟩ := nk_lte hr
      refine nk_p (i := .istore_n 0) (len := 1) (pc' := 33) mJ_11 (by decide +kernel) (ns_istore_n (L' := [(0, nk_i v3), (1, nk_i v1)]) h4 rfl rfl (by decide +kernel)) rfl ?_
      exact ja_J6_numberOfLeadingZeros_0f7a4_b33_ok zs _ _ _ _ hr
  · have hr := nk_ifn (c := 0 < l0) hc hr
    refine nk_p (i := .iload_n 0) (len := 1) (pc' := 5) mJ_11 (by decide +kernel) (ns_iload_n 0 rfl rfl) rfl ?_
    refine nk_icond (c := .ne) (off := 8) (len := 3) (t := 13) (pc' := 8) mJ_11 (by decide +kernel) (by decide +kernel) rfl (fun hc => ?_) (fun hc => ?_)
    · have hr := nk_ifn (c := l0 = 0) hc hr
      refine nk_p (i := .iconst 0) (len := 1) (pc' := 14) mJ_11 (by decide +kernel) (ns_iconst (c := 0) (by decide +kernel)) rfl ?_
      cases hr
      exact nk_iret (ty := .int) (len := 1) mJ_11 (by decide +kernel) rfl (nk_nar_i _)
    · have hr := nk_ifp (c := l0 = 0) (Decidable.of_not_not hc) hr
      refine nk_p (i := .bipush 32) (len := 2) (pc' := 10) mJ_11 (by decide +kernel) (ns_bipush (c := 32) (by decide +kernel)) rfl ?_
      refine nk_p (i := .goto 4) (len := 3) (pc' := 14) mJ_11 (by decide +kernel) (ns_goto (by decide +kernel)) rfl ?_
      cases hr
      exact nk_iret (ty := .int) (len := 1) mJ_11 (by decide +kernel) rfl (nk_nar_i _)
/-! java/util/Arrays fill ([II)V -/
noncomputable def ja_J7_fill_53178_b5 (rec5 : Nat → Nat → Int → Int → Int → nk_S → Option (Int × nk_S)) (l0 : Nat) (n0 : Nat) (l1 : Int) (l2 : Int) (l3 : Int) (S : nk_S) : Option (Int × nk_S) :=
  if l3 ≤ l2 then
    some (0, S)
  else
    if 0 ≤ l2 ∧ l2 < (n0 : Int) then
    nk_lt (nk_wi S l0 l2.toNat l1) fun S2 =>
    nk_lt (nk_w (l2 + 1)) fun v4 =>
    rec5 l0 n0 l1 v4 l3 S2
    else none
theorem ja_J7_fill_53178_b5_ok (zs : List Int32) {rec5 : Nat → Nat → Int → Int → Int → nk_S → Option (Int × nk_S)} (hrec5 : ∀ (l0 : Nat) (n0 : Nat) (l1 : Int) (l2 : Int) (l3 : Int) (S : nk_S) (R : Int × nk_S), nk_ar ja_Tt l0 = some (1, n0) → rec5 l0 n0 l1 l2 l3 S = some R → nk_K ja_Tt mi_Γ (mi_ev zs) 0 13 5 [(0, nk_r l0), (1, nk_i l1), (2, nk_i l2), (3, nk_i l3)] [] S R) : ∀ (l0 : Nat) (n0 : Nat) (l1 : Int) (l2 : Int) (l3 : Int) (S : nk_S) (R : Int × nk_S), nk_ar ja_Tt l0 = some (1, n0) → ja_J7_fill_53178_b5 rec5 l0 n0 l1 l2 l3 S = some R → nk_K ja_Tt mi_Γ (mi_ev zs) 0 13 5 [(0, nk_r l0), (1, nk_i l1), (2, nk_i l2), (3, nk_i l3)] [] S R := by
  intro l0 n0 l1 l2 l3 S R t_l0 hr
  unfold ja_J7_fill_53178_b5 at hr
  refine nk_p (i := .iload_n 2) (len := 1) (pc' := 6) mJ_13 (by decide +kernel) (ns_iload_n 2 rfl rfl) rfl ?_
  refine nk_p (i := .iload_n 3) (len := 1) (pc' := 7) mJ_13 (by decide +kernel) (ns_iload_n 3 rfl rfl) rfl ?_
  refine nk_icmp (c := .ge) (off := 13) (len := 3) (t := 20) (pc' := 10) mJ_13 (by decide +kernel) (by decide +kernel) rfl (fun hc => ?_) (fun hc => ?_)
  · have hr := nk_ifp (c := l3 ≤ l2) hc hr
    cases hr
    exact nk_vret (len := 1) mJ_13 (by decide +kernel) rfl
  · have hr := nk_ifn (c := l3 ≤ l2) hc hr
    refine nk_p (i := .aload_n 0) (len := 1) (pc' := 11) mJ_13 (by decide +kernel) (ns_aload_n 0 rfl rfl) rfl ?_
    refine nk_p (i := .iload_n 2) (len := 1) (pc' := 12) mJ_13 (by decide +kernel) (ns_iload_n 2 rfl rfl) rfl ?_
    refine nk_p (i := .iload_n 1) (len := 1) (pc' := 13) mJ_13 (by decide +kernel) (ns_iload_n 1 rfl rfl) rfl ?_
    obtain ⟨h1, hr⟩ := nk_cke hr
    obtain ⟨S2, h3, hr⟩ := nk_lte hr
    refine nk_iast (len := 1) (N := (n0 : Int)) (pc' := 14) mJ_13 (by decide +kernel) t_l0 h1.1 h1.2 rfl rfl h3 ?_
    obtain ⟨v4, h5, hr⟩ := nk_lte hr
    refine nk_p (i := .iinc 2 1) (len := 3) (pc' := 17) mJ_13 (by decide +kernel) (ns_iinc (c := 1) (L' := [(2, nk_i v4), (0, nk_r l0), (1, nk_i l1), (3, nk_i l3)]) 2 rfl (by decide +kernel) h5 rfl (by decide +kernel)) rfl ?_
    refine nk_p (i := .goto (-12)) (len := 3) (pc' := 5) mJ_13 (by decide +kernel) (ns_goto (by decide +kernel)) rfl ?_
    refine nk_sub [1, 2, 0, 3] (L' := [(0, nk_r l0), (1, nk_i l1), (2, nk_i v4), (3, nk_i l3)]) rfl ?_
    exact hrec5 _ _ _ _ _ _ _ t_l0 hr
noncomputable def ja_J7_fill_53178_L5 : Nat → Nat → Nat → Int → Int → Int → nk_S → Option (Int × nk_S)
  | 0, _, _, _, _, _, _ => none
  | n + 1, l0, n0, l1, l2, l3, S => ja_J7_fill_53178_b5 (ja_J7_fill_53178_L5 n) l0 n0 l1 l2 l3 S
theorem ja_J7_fill_53178_L5_ok (zs : List Int32) : ∀ n : Nat, ∀ (l0 : Nat) (n0 : Nat) (l1 : Int) (l2 : Int) (l3 : Int) (S : nk_S) (R : Int × nk_S), nk_ar ja_Tt l0 = some (1, n0) → ja_J7_fill_53178_L5 n l0 n0 l1 l2 l3 S = some R → nk_K ja_Tt mi_Γ (mi_ev zs) 0 13 5 [(0, nk_r l0), (1, nk_i l1), (2, nk_i l2), (3, nk_i l3)] [] S R := by
  intro n
  induction n with
  | zero => intro _ _ _ _ _ _ _ _ hr; cases hr
  | succ n ih => intro l0 n0 l1 l2 l3 S R t_l0 hr; exact ja_J7_fill_53178_b5_ok zs ih l0 n0 l1 l2 l3 S R t_l0 hr
noncomputable def ja_J7_fill_53178 (l0 : Nat) (n0 : Nat) (l1 : Int) (S : nk_S) : Option (Int × nk_S) :=
  nk_lt (n0 : Int) fun v1 =>
  ja_J7_fill_53178_L5 nk_big l0 n0 l1 0 v1 S
theorem ja_J7_fill_53178_ok (zs : List Int32) : ∀ (l0 : Nat) (n0 : Nat) (l1 : Int) (S : nk_S) (R : Int × nk_S), nk_ar ja_Tt l0 = some (1, n0) → ja_J7_fill_53178 l0 n0 l1 S = some R → nk_K ja_Tt mi_Γ (mi_ev zs) 0 13 0 [(0, nk_r l0), (1, nk_i l1)] [] S R := by
  intro l0 n0 l1 S R t_l0 hr
  unfold ja_J7_fill_53178 at hr
  refine nk_p (i := .iconst 0) (len := 1) (pc' := 1) mJ_13 (by decide +kernel) (ns_iconst (c := 0) (by decide +kernel)) rfl ?_
  refine nk_p (i := .istore_n 2) (len := 1) (pc' := 2) mJ_13 (by decide +kernel) (ns_istore_n (L' := [(2, nk_i 0), (0, nk_r l0), (1, nk_i l1)]) rfl rfl rfl (by decide +kernel)) rfl ?_
  refine nk_p (i := .aload_n 0) (len := 1) (pc' := 3) mJ_13 (by decide +kernel) (ns_aload_n 1 rfl rfl) rfl ?_
  refine nk_alen (len := 1) (N := (n0 : Int)) (pc' := 4) mJ_13 (by decide +kernel) t_l0 rfl rfl ?_
  obtain ⟨v1, h2, hr⟩ := nk_lte hr
  refine nk_p (i := .istore_n 3) (len := 1) (pc' := 5) mJ_13 (by decide +kernel) (ns_istore_n (L' := [(3, nk_i v1), (2, nk_i 0), (0, nk_r l0), (1, nk_i l1)]) h2 rfl rfl (by decide +kernel)) rfl ?_
  refine nk_sub [2, 3, 1, 0] (L' := [(0, nk_r l0), (1, nk_i l1), (2, nk_i 0), (3, nk_i v1)]) rfl ?_
  exact ja_J7_fill_53178_L5_ok zs nk_big _ _ _ _ _ _ _ t_l0 hr
/-! java/util/Arrays fill ([JJ)V -/
noncomputable def ja_J7_fill_d0a16_b6 (rec6 : Nat → Nat → Int → Int → Int → nk_S → Option (Int × nk_S)) (l0 : Nat) (n0 : Nat) (l1 : Int) (l3 : Int) (l4 : Int) (S : nk_S) : Option (Int × nk_S) :=
  if l4 ≤ l3 then
    some (0, S)
  else
    if 0 ≤ l3 ∧ l3 < (n0 : Int) then
    nk_lt (nk_wi S l0 l3.toNat l1) fun S2 =>
    nk_lt (nk_w (l3 + 1)) fun v4 =>
    rec6 l0 n0 l1 v4 l4 S2
    else none
theorem ja_J7_fill_d0a16_b6_ok (zs : List Int32) {rec6 : Nat → Nat → Int → Int → Int → nk_S → Option (Int × nk_S)} (hrec6 : ∀ (l0 : Nat) (n0 : Nat) (l1 : Int) (l3 : Int) (l4 : Int) (S : nk_S) (R : Int × nk_S), nk_ar ja_Tt l0 = some (2, n0) → rec6 l0 n0 l1 l3 l4 S = some R → nk_K ja_Tt mi_Γ (mi_ev zs) 0 14 6 [(0, nk_r l0), (1, nk_l l1), (3, nk_i l3), (4, nk_i l4)] [] S R) : ∀ (l0 : Nat) (n0 : Nat) (l1 : Int) (l3 : Int) (l4 : Int) (S : nk_S) (R : Int × nk_S), nk_ar ja_Tt l0 = some (2, n0) → ja_J7_fill_d0a16_b6 rec6 l0 n0 l1 l3 l4 S = some R → nk_K ja_Tt mi_Γ (mi_ev zs) 0 14 6 [(0, nk_r l0), (1, nk_l l1), (3, nk_i l3), (4, nk_i l4)] [] S R := by
  intro l0 n0 l1 l3 l4 S R t_l0 hr
  unfold ja_J7_fill_d0a16_b6 at hr
  refine nk_p (i := .iload_n 3) (len := 1) (pc' := 7) mJ_14 (by decide +kernel) (ns_iload_n 2 rfl rfl) rfl ?_
  refine nk_p (i := .iload 4) (len := 2) (pc' := 9) mJ_14 (by decide +kernel) (ns_iload 3 rfl) rfl ?_
  refine nk_icmp (c := .ge) (off := 13) (len := 3) (t := 22) (pc' := 12) mJ_14 (by decide +kernel) (by decide +kernel) rfl (fun hc => ?_) (fun hc => ?_)
  · have hr := nk_ifp (c := l4 ≤ l3) hc hr
    cases hr
    exact nk_vret (len := 1) mJ_14 (by decide +kernel) rfl
  · have hr := nk_ifn (c := l4 ≤ l3) hc hr
    refine nk_p (i := .aload_n 0) (len := 1) (pc' := 13) mJ_14 (by decide +kernel) (ns_aload_n 0 rfl rfl) rfl ?_
    refine nk_p (i := .iload_n 3) (len := 1) (pc' := 14) mJ_14 (by decide +kernel) (ns_iload_n 2 rfl rfl) rfl ?_
    refine nk_p (i := .lload_n 1) (len := 1) (pc' := 15) mJ_14 (by decide +kernel) (ns_lload_n 1 rfl rfl) rfl ?_
    obtain ⟨h1, hr⟩ := nk_cke hr
    obtain ⟨S2, h3, hr⟩ := nk_lte hr
    refine nk_last (len := 1) (N := (n0 : Int)) (pc' := 16) mJ_14 (by decide +kernel) t_l0 h1.1 h1.2 rfl rfl h3 ?_
    obtain ⟨v4, h5, hr⟩ := nk_lte hr
    refine nk_p (i := .iinc 3 1) (len := 3) (pc' := 19) mJ_14 (by decide +kernel) (ns_iinc (c := 1) (L' := [(3, nk_i v4), (0, nk_r l0), (1, nk_l l1), (4, nk_i l4)]) 2 rfl (by decide +kernel) h5 rfl (by decide +kernel)) rfl ?_
    refine nk_p (i := .goto (-13)) (len := 3) (pc' := 6) mJ_14 (by decide +kernel) (ns_goto (by decide +kernel)) rfl ?_
    refine nk_sub [1, 2, 0, 3] (L' := [(0, nk_r l0), (1, nk_l l1), (3, nk_i v4), (4, nk_i l4)]) rfl ?_
    exact hrec6 _ _ _ _ _ _ _ t_l0 hr
noncomputable def ja_J7_fill_d0a16_L6 : Nat → Nat → Nat → Int → Int → Int → nk_S → Option (Int × nk_S)
  | 0, _, _, _, _, _, _ => none
  | n + 1, l0, n0, l1, l3, l4, S => ja_J7_fill_d0a16_b6 (ja_J7_fill_d0a16_L6 n) l0 n0 l1 l3 l4 S
theorem ja_J7_fill_d0a16_L6_ok (zs : List Int32) : ∀ n : Nat, ∀ (l0 : Nat) (n0 : Nat) (l1 : Int) (l3 : Int) (l4 : Int) (S : nk_S) (R : Int × nk_S), nk_ar ja_Tt l0 = some (2, n0) → ja_J7_fill_d0a16_L6 n l0 n0 l1 l3 l4 S = some R → nk_K ja_Tt mi_Γ (mi_ev zs) 0 14 6 [(0, nk_r l0), (1, nk_l l1), (3, nk_i l3), (4, nk_i l4)] [] S R := by
  intro n
  induction n with
  | zero => intro _ _ _ _ _ _ _ _ hr; cases hr
  | succ n ih => intro l0 n0 l1 l3 l4 S R t_l0 hr; exact ja_J7_fill_d0a16_b6_ok zs ih l0 n0 l1 l3 l4 S R t_l0 hr
noncomputable def ja_J7_fill_d0a16 (l0 : Nat) (n0 : Nat) (l1 : Int) (S : nk_S) : Option (Int × nk_S) :=
  nk_lt (n0 : Int) fun v1 =>
  ja_J7_fill_d0a16_L6 nk_big l0 n0 l1 0 v1 S
theorem ja_J7_fill_d0a16_ok (zs : List Int32) : ∀ (l0 : Nat) (n0 : Nat) (l1 : Int) (S : nk_S) (R : Int × nk_S), nk_ar ja_Tt l0 = some (2, n0) → ja_J7_fill_d0a16 l0 n0 l1 S = some R → nk_K ja_Tt mi_Γ (mi_ev zs) 0 14 0 [(0, nk_r l0), (1, nk_l l1)] [] S R := by
  intro l0 n0 l1 S R t_l0 hr
  unfold ja_J7_fill_d0a16 at hr
  refine nk_p (i := .iconst 0) (len := 1) (pc' := 1) mJ_14 (by decide +kernel) (ns_iconst (c := 0) (by decide +kernel)) rfl ?_
  refine nk_p (i := .istore_n 3) (len := 1) (pc' := 2) mJ_14 (by decide +kernel) (ns_istore_n (L' := [(3, nk_i 0), (0, nk_r l0), (1, nk_l l1)]) rfl rfl rfl (by decide +kernel)) rfl ?_
  refine nk_p (i := .aload_n 0) (len := 1) (pc' := 3) mJ_14 (by decide +kernel) (ns_aload_n 1 rfl rfl) rfl ?_
  refine nk_alen (len := 1) (N := (n0 : Int)) (pc' := 4) mJ_14 (by decide +kernel) t_l0 rfl rfl ?_
  obtain ⟨v1, h2, hr⟩ := nk_lte hr
  refine nk_p (i := .istore 4) (len := 2) (pc' := 6) mJ_14 (by decide +kernel) (ns_istore (L' := [(4, nk_i v1), (3, nk_i 0), (0, nk_r l0), (1, nk_l l1)]) h2 rfl (by decide +kernel)) rfl ?_
  refine nk_sub [2, 3, 1, 0] (L' := [(0, nk_r l0), (1, nk_l l1), (3, nk_i 0), (4, nk_i v1)]) rfl ?_
  exact ja_J7_fill_d0a16_L6_ok zs nk_big _ _ _ _ _ _ _ t_l0 hr
/-! java/lang/Math abs (J)J -/
noncomputable def ja_J9_abs_067f4 (l0 : Int) (S : nk_S) : Option (Int × nk_S) :=
  if 0 ≤ l0 then
    some (l0, S)
  else
    some ((nk_W (-l0)), S)
theorem ja_J9_abs_067f4_ok (zs : List Int32) : ∀ (l0 : Int) (S : nk_S) (R : Int × nk_S), ja_J9_abs_067f4 l0 S = some R → nk_K ja_Tt mi_Γ (mi_ev zs) 2 15 0 [(0, nk_l l0)] [] S R := by
  intro l0 S R hr
  unfold ja_J9_abs_067f4 at hr
  refine nk_p (i := .lload_n 0) (len := 1) (pc' := 1) mJ_15 (by decide +kernel) (ns_lload_n 0 rfl rfl) rfl ?_
  refine nk_p (i := .lconst 0) (len := 1) (pc' := 2) mJ_15 (by decide +kernel) (ns_lconst (c := 0) (by decide +kernel)) rfl ?_
  refine nk_p (i := .lcmp) (len := 1) (pc' := 3) mJ_15 (by decide +kernel) ns_lcmp rfl ?_
  refine nk_lcond (c := .ge) (off := 8) (len := 3) (t := 11) (pc' := 6) mJ_15 (by decide +kernel) (by decide +kernel) rfl (fun hc => ?_) (fun hc => ?_)
  · have hr := nk_ifp (c := 0 ≤ l0) hc hr
    refine nk_p (i := .lload_n 0) (len := 1) (pc' := 12) mJ_15 (by decide +kernel) (ns_lload_n 0 rfl rfl) rfl ?_
    cases hr
    exact nk_lret (len := 1) mJ_15 (by decide +kernel) rfl
  · have hr := nk_ifn (c := 0 ≤ l0) hc hr
    refine nk_p (i := .lload_n 0) (len := 1) (pc' := 7) mJ_15 (by decide +kernel) (ns_lload_n 0 rfl rfl) rfl ?_
    refine nk_p (i := .lneg) (len := 1) (pc' := 8) mJ_15 (by decide +kernel) ns_lneg rfl ?_
    refine nk_p (i := .goto 4) (len := 3) (pc' := 12) mJ_15 (by decide +kernel) (ns_goto (by decide +kernel)) rfl ?_
    cases hr
    exact nk_lret (len := 1) mJ_15 (by decide +kernel) rfl
/-! java/lang/Math max (II)I -/
noncomputable def ja_J9_max_7cf53 (l0 : Int) (l1 : Int) (S : nk_S) : Option (Int × nk_S) :=
  if l0 < l1 then
    some (l1, S)
  else
    some (l0, S)
theorem ja_J9_max_7cf53_ok (zs : List Int32) : ∀ (l0 : Int) (l1 : Int) (S : nk_S) (R : Int × nk_S), ja_J9_max_7cf53 l0 l1 S = some R → nk_K ja_Tt mi_Γ (mi_ev zs) 1 16 0 [(0, nk_i l0), (1, nk_i l1)] [] S R := by
  intro l0 l1 S R hr
  unfold ja_J9_max_7cf53 at hr
  refine nk_p (i := .iload_n 0) (len := 1) (pc' := 1) mJ_16 (by decide +kernel) (ns_iload_n 0 rfl rfl) rfl ?_
  refine nk_p (i := .iload_n 1) (len := 1) (pc' := 2) mJ_16 (by decide +kernel) (ns_iload_n 1 rfl rfl) rfl ?_
  refine nk_icmp (c := .lt) (off := 7) (len := 3) (t := 9) (pc' := 5) mJ_16 (by decide +kernel) (by decide +kernel) rfl (fun hc => ?_) (fun hc => ?_)
  · have hr := nk_ifp (c := l0 < l1) hc hr
    refine nk_p (i := .iload_n 1) (len := 1) (pc' := 10) mJ_16 (by decide +kernel) (ns_iload_n 1 rfl rfl) rfl ?_
    cases hr
    exact nk_iret (ty := .int) (len := 1) mJ_16 (by decide +kernel) rfl (nk_nar_i _)
  · have hr := nk_ifn (c := l0 < l1) hc hr
    refine nk_p (i := .iload_n 0) (len := 1) (pc' := 6) mJ_16 (by decide +kernel) (ns_iload_n 0 rfl rfl) rfl ?_
    refine nk_p (i := .goto 4) (len := 3) (pc' := 10) mJ_16 (by decide +kernel) (ns_goto (by decide +kernel)) rfl ?_
    cases hr
    exact nk_iret (ty := .int) (len := 1) mJ_16 (by decide +kernel) rfl (nk_nar_i _)
/-! java/lang/Math max (JJ)J -/
noncomputable def ja_J9_max_f86c9 (l0 : Int) (l2 : Int) (S : nk_S) : Option (Int × nk_S) :=
  if l0 < l2 then
    some (l2, S)
  else
    some (l0, S)
theorem ja_J9_max_f86c9_ok (zs : List Int32) : ∀ (l0 : Int) (l2 : Int) (S : nk_S) (R : Int × nk_S), ja_J9_max_f86c9 l0 l2 S = some R → nk_K ja_Tt mi_Γ (mi_ev zs) 2 17 0 [(0, nk_l l0), (2, nk_l l2)] [] S R := by
  intro l0 l2 S R hr
  unfold ja_J9_max_f86c9 at hr
  refine nk_p (i := .lload_n 0) (len := 1) (pc' := 1) mJ_17 (by decide +kernel) (ns_lload_n 0 rfl rfl) rfl ?_
  refine nk_p (i := .lload_n 2) (len := 1) (pc' := 2) mJ_17 (by decide +kernel) (ns_lload_n 1 rfl rfl) rfl ?_
  refine nk_p (i := .lcmp) (len := 1) (pc' := 3) mJ_17 (by decide +kernel) ns_lcmp rfl ?_
  refine nk_lcond (c := .lt) (off := 7) (len := 3) (t := 10) (pc' := 6) mJ_17 (by decide +kernel) (by decide +kernel) rfl (fun hc => ?_) (fun hc => ?_)
  · have hr := nk_ifp (c := l0 < l2) hc hr
    refine nk_p (i := .lload_n 2) (len := 1) (pc' := 11) mJ_17 (by decide +kernel) (ns_lload_n 1 rfl rfl) rfl ?_
    cases hr
    exact nk_lret (len := 1) mJ_17 (by decide +kernel) rfl
  · have hr := nk_ifn (c := l0 < l2) hc hr
    refine nk_p (i := .lload_n 0) (len := 1) (pc' := 7) mJ_17 (by decide +kernel) (ns_lload_n 0 rfl rfl) rfl ?_
    refine nk_p (i := .goto 4) (len := 3) (pc' := 11) mJ_17 (by decide +kernel) (ns_goto (by decide +kernel)) rfl ?_
    cases hr
    exact nk_lret (len := 1) mJ_17 (by decide +kernel) rfl
/-! java/lang/Math min (II)I -/
noncomputable def ja_J9_min_7cf53 (l0 : Int) (l1 : Int) (S : nk_S) : Option (Int × nk_S) :=
  if l1 < l0 then
    some (l1, S)
  else
    some (l0, S)
theorem ja_J9_min_7cf53_ok (zs : List Int32) : ∀ (l0 : Int) (l1 : Int) (S : nk_S) (R : Int × nk_S), ja_J9_min_7cf53 l0 l1 S = some R → nk_K ja_Tt mi_Γ (mi_ev zs) 1 18 0 [(0, nk_i l0), (1, nk_i l1)] [] S R := by
  intro l0 l1 S R hr
  unfold ja_J9_min_7cf53 at hr
  refine nk_p (i := .iload_n 0) (len := 1) (pc' := 1) mJ_18 (by decide +kernel) (ns_iload_n 0 rfl rfl) rfl ?_
  refine nk_p (i := .iload_n 1) (len := 1) (pc' := 2) mJ_18 (by decide +kernel) (ns_iload_n 1 rfl rfl) rfl ?_
  refine nk_icmp (c := .gt) (off := 7) (len := 3) (t := 9) (pc' := 5) mJ_18 (by decide +kernel) (by decide +kernel) rfl (fun hc => ?_) (fun hc => ?_)
  · have hr := nk_ifp (c := l1 < l0) hc hr
    refine nk_p (i := .iload_n 1) (len := 1) (pc' := 10) mJ_18 (by decide +kernel) (ns_iload_n 1 rfl rfl) rfl ?_
    cases hr
    exact nk_iret (ty := .int) (len := 1) mJ_18 (by decide +kernel) rfl (nk_nar_i _)
  · have hr := nk_ifn (c := l1 < l0) hc hr
    refine nk_p (i := .iload_n 0) (len := 1) (pc' := 6) mJ_18 (by decide +kernel) (ns_iload_n 0 rfl rfl) rfl ?_
    refine nk_p (i := .goto 4) (len := 3) (pc' := 10) mJ_18 (by decide +kernel) (ns_goto (by decide +kernel)) rfl ?_
    cases hr
    exact nk_iret (ty := .int) (len := 1) mJ_18 (by decide +kernel) rfl (nk_nar_i _)
/-! java/lang/Math min (JJ)J -/
noncomputable def ja_J9_min_f86c9 (l0 : Int) (l2 : Int) (S : nk_S) : Option (Int × nk_S) :=
  if l2 < l0 then
    some (l2, S)
  else
    some (l0, S)
theorem ja_J9_min_f86c9_ok (zs : List Int32) : ∀ (l0 : Int) (l2 : Int) (S : nk_S) (R : Int × nk_S), ja_J9_min_f86c9 l0 l2 S = some R → nk_K ja_Tt mi_Γ (mi_ev zs) 2 19 0 [(0, nk_l l0), (2, nk_l l2)] [] S R := by
  intro l0 l2 S R hr
  unfold ja_J9_min_f86c9 at hr
  refine nk_p (i := .lload_n 0) (len := 1) (pc' := 1) mJ_19 (by decide +kernel) (ns_lload_n 0 rfl rfl) rfl ?_
  refine nk_p (i := .lload_n 2) (len := 1) (pc' := 2) mJ_19 (by decide +kernel) (ns_lload_n 1 rfl rfl) rfl ?_
  refine nk_p (i := .lcmp) (len := 1) (pc' := 3) mJ_19 (by decide +kernel) ns_lcmp rfl ?_
  refine nk_lcond (c := .gt) (off := 7) (len := 3) (t := 10) (pc' := 6) mJ_19 (by decide +kernel) (by decide +kernel) rfl (fun hc => ?_) (fun hc => ?_)
  · have hr := nk_ifp (c := l2 < l0) hc hr
    refine nk_p (i := .lload_n 2) (len := 1) (pc' := 11) mJ_19 (by decide +kernel) (ns_lload_n 1 rfl rfl) rfl ?_
    cases hr
    exact nk_lret (len := 1) mJ_19 (by decide +kernel) rfl
  · have hr := nk_ifn (c := l2 < l0) hc hr
    refine nk_p (i := .lload_n 0) (len := 1) (pc' := 7) mJ_19 (by decide +kernel) (ns_lload_n 0 rfl rfl) rfl ?_
    refine nk_p (i := .goto 4) (len := 3) (pc' := 11) mJ_19 (by decide +kernel) (ns_goto (by decide +kernel)) rfl ?_
    cases hr
    exact nk_lret (len := 1) mJ_19 (by decide +kernel) rfl
/-! SafeCode$Bodies addParameter (I)V -/
noncomputable def ja_X0_addParameter_b37 (l0 : Nat) (S : nk_S) : Option (Int × nk_S) :=
  if 0 ≤ (S.1 l0 0) ∧ (S.1 l0 0) < 48 then
  nk_lt (nk_wi S (ja_c l0 5) (S.1 l0 0).toNat (nk_w ((S.1 (ja_c l0 5) (S.1 l0 0).toNat) + 1))) fun S3 =>
  some (0, S3)
  else none
theorem ja_X0_addParameter_b37_ok (zs : List Int32) : ∀ (l0 : Nat) (S : nk_S) (R : Int × nk_S), nk_cl ja_Tt l0 = some 0 → ja_X0_addParameter_b37 l0 S = some R → nk_K ja_Tt mi_Γ (mi_ev zs) 0 20 37 [(0, nk_r l0)] [] S R := by
  intro l0 S R t_l0 hr
  unfold ja_X0_addParameter_b37 at hr
  refine nk_p (i := .aload_n 0) (len := 1) (pc' := 38) mJ_20 (by decide +kernel) (ns_aload_n 0 rfl rfl) rfl ?_
  refine nk_getC (f := (4, 1, 48)) (x := 26) (len := 3) (ci := 0) (k := 5) (pc' := 41) ja_okT mJ_20 (by decide +kernel) (by decide +kernel) (by decide +kernel) (by decide) t_l0 rfl ?_
  have t1 : nk_ar ja_Tt (ja_c l0 5) = some (1, 48) := nk_ta ja_okT t_l0 (by decide +kernel)
  refine nk_p (i := .aload_n 0) (len := 1) (pc' := 42) mJ_20 (by decide +kernel) (ns_aload_n 0 rfl rfl) rfl ?_
  refine nk_getI (y := (0, 0)) (x := 56) (len := 3) (ci := 0) (k := 0) (pc' := 45) ja_okT mJ_20 (by decide +kernel) (by decide +kernel) (by decide +kernel) t_l0 rfl ?_
  refine nk_p (i := .dup2) (len := 1) (pc' := 46) mJ_20 (by decide +kernel) (ns_dup2 rfl rfl) rfl ?_
  obtain ⟨h2, hr⟩ := nk_cke hr
  refine nk_iald (len := 1) (N := 48) (pc' := 47) mJ_20 (by decide +kernel) t1 h2.1 h2.2 rfl rfl ?_
  refine nk_p (i := .iconst 1) (len := 1) (pc' := 48) mJ_20 (by decide +kernel) (ns_iconst (c := 1) (by decide +kernel)) rfl ?_
  refine nk_p (i := .iadd) (len := 1) (pc' := 49) mJ_20 (by decide +kernel) ns_iadd rfl ?_
  obtain ⟨S3, h4, hr⟩ := nk_lte hr
  refine nk_iast (len := 1) (N := 48) (pc' := 50) mJ_20 (by decide +kernel) t1 h2.1 h2.2 rfl rfl h4 ?_
  cases hr
  exact nk_vret (len := 1) mJ_20 (by decide +kernel) rfl
noncomputable def ja_X0_addParameter (l0 : Nat) (l1 : Int) (S : nk_S) : Option (Int × nk_S) :=
  if 0 ≤ (S.1 l0 0) ∧ (S.1 l0 0) < 48 then
  if 12 ≤ (S.1 (ja_c l0 5) (S.1 l0 0).toNat) then
    ja_X0_addParameter_b37 l0 S
  else
    if 0 ≤ (nk_w ((nk_w ((S.1 l0 0) * 12)) + (S.1 (ja_c l0 5) (S.1 l0 0).toNat))) ∧ (nk_w ((nk_w ((S.1 l0 0) * 12)) + (S.1 (ja_c l0 5) (S.1 l0 0).toNat))) < 576 then
    nk_lt (nk_wi S (ja_c l0 6) (nk_w ((nk_w ((S.1 l0 0) * 12)) + (S.1 (ja_c l0 5) (S.1 l0 0).toNat))).toNat l1) fun S5 =>
    ja_X0_addParameter_b37 l0 S5
    else none
  else none
theorem ja_X0_addParameter_ok (zs : List Int32) : ∀ (l0 : Nat) (l1 : Int) (S : nk_S) (R : Int × nk_S), nk_cl ja_Tt l0 = some 0 → ja_X0_addParameter l0 l1 S = some R → nk_K ja_Tt mi_Γ (mi_ev zs) 0 20 0 [(0, nk_r l0), (1, nk_i l1)] [] S R := by
  intro l0 l1 S R t_l0 hr
  unfold ja_X0_addParameter at hr
  refine nk_p (i := .aload_n 0) (len := 1) (pc' := 1) mJ_20 (by decide +kernel) (ns_aload_n 0 rfl rfl) rfl ?_
  refine nk_getC (f := (4, 1, 48)) (x := 26) (len := 3) (ci := 0) (k := 5) (pc' := 4) ja_okT mJ_20 (by decide +kernel) (by decide +kernel) (by decide +kernel) (by decide) t_l0 rfl ?_
  have t1 : nk_ar ja_Tt (ja_c l0 5) = some (1, 48) := nk_ta ja_okT t_l0 (by decide +kernel)
  refine nk_p (i := .aload_n 0) (len := 1) (pc' := 5) mJ_20 (by decide +kernel) (ns_aload_n 0 rfl rfl) rfl ?_
  refine nk_getI (y := (0, 0)) (x := 56) (len := 3) (ci := 0) (k := 0) (pc' := 8) ja_okT mJ_20 (by decide +kernel) (by decide +kernel) (by decide +kernel) t_l0 rfl ?_
  obtain ⟨h2, hr⟩ := nk_cke hr
  refine nk_iald (len := 1) (N := 48) (pc' := 9) mJ_20 (by decide +kernel) t1 h2.1 h2.2 rfl rfl ?_
  refine nk_p (i := .bipush 12) (len := 2) (pc' := 11) mJ_20 (by decide +kernel) (ns_bipush (c := 12) (by decide +kernel)) rfl ?_
  refine nk_icmp (c := .ge) (off := 26) (len := 3) (t := 37) (pc' := 14) mJ_20 (by decide +kernel) (by decide +kernel) rfl (fun hc => ?_) (fun hc => ?_)
  · have hr := nk_ifp (c := 12 ≤ (S.1 (ja_c l0 5) (S.1 l0 0).toNat)) hc hr
    refine nk_sub [0] (L' := [(0, nk_r l0)]) rfl ?_
    exact ja_X0_addParameter_b37_ok zs _ _ _ t_l0 hr
  · have hr := nk_ifn (c := 12 ≤ (S.1 (ja_c l0 5) (S.1 l0 0).toNat)) hc hr
    refine nk_p (i := .aload_n 0) (len := 1) (pc' := 15) mJ_20 (by decide +kernel) (ns_aload_n 0 rfl rfl) rfl ?_
    refine nk_getC (f := (4, 1, 576)) (x := 29) (len := 3) (ci := 0) (k := 6) (pc' := 18) ja_okT mJ_20 (by decide +kernel) (by decide +kernel) (by decide +kernel) (by decide) t_l0 rfl ?_
    have t3 : nk_ar ja_Tt (ja_c l0 6) = some (1, 576) := nk_ta ja_okT t_l0 (by decide +kernel)
    refine nk_p (i := .aload_n 0) (len := 1) (pc' := 19) mJ_20 (by decide +kernel) (ns_aload_n 0 rfl rfl) rfl ?_
    refine nk_getI (y := (0, 0)) (x := 56) (len := 3) (ci := 0) (k := 0) (pc' := 22) ja_okT mJ_20 (by decide +kernel) (by decide +kernel) (by decide +kernel) t_l0 rfl ?_
    refine nk_p (i := .bipush 12) (len := 2) (pc' := 24) mJ_20 (by decide +kernel) (ns_bipush (c := 12) (by decide +kernel)) rfl ?_
    refine nk_p (i := .imul) (len := 1) (pc' := 25) mJ_20 (by decide +kernel) ns_imul rfl ?_
    refine nk_p (i := .aload_n 0) (len := 1) (pc' := 26) mJ_20 (by decide +kernel) (ns_aload_n 0 rfl rfl) rfl ?_
    refine nk_getC (f := (4, 1, 48)) (x := 26) (len := 3) (ci := 0) (k := 5) (pc' := 29) ja_okT mJ_20 (by decide +kernel) (by decide +kernel) (by decide +kernel) (by decide) t_l0 rfl ?_
    refine nk_p (i := .aload_n 0) (len := 1) (pc' := 30) mJ_20 (by decide +kernel) (ns_aload_n 0 rfl rfl) rfl ?_
    refine nk_getI (y := (0, 0)) (x := 56) (len := 3) (ci := 0) (k := 0) (pc' := 33) ja_okT mJ_20 (by decide +kernel) (by decide +kernel) (by decide +kernel) t_l0 rfl ?_
    refine nk_iald (len := 1) (N := 48) (pc' := 34) mJ_20 (by decide +kernel) t1 h2.1 h2.2 rfl rfl ?_
    refine nk_p (i := .iadd) (len := 1) (pc' := 35) mJ_20 (by decide +kernel) ns_iadd rfl ?_
    refine nk_p (i := .iload_n 1) (len := 1) (pc' := 36) mJ_20 (by decide +kernel) (ns_iload_n 1 rfl rfl) rfl ?_
    obtain ⟨h4, hr⟩ := nk_cke hr
    obtain ⟨S5, h6, hr⟩ := nk_lte hr
    refine nk_iast (len := 1) (N := 576) (pc' := 37) mJ_20 (by decide +kernel) t3 h4.1 h4.2 rfl rfl h6 ?_
    refine nk_sub [0] (L' := [(0, nk_r l0)]) rfl ?_
    exact ja_X0_addParameter_b37_ok zs _ _ _ t_l0 hr
/-! SafeCode$Bodies begin (IIZ)V -/
noncomputable def ja_X0_begin (l0 : Nat) (l1 : Int) (l2 : Int) (l3 : Int) (S : nk_S) : Option (Int × nk_S) :=
  if 0 ≤ (S.1 l0 0) ∧ (S.1 l0 0) < 48 then
  nk_lt (nk_wi S (ja_c l0 2) (S.1 l0 0).toNat l1) fun S3 =>
  if 0 ≤ (S3.1 l0 0) ∧ (S3.1 l0 0) < 48 then
  nk_lt (nk_wi S3 (ja_c l0 3) (S3.1 l0 0).toNat l2) fun S7 =>
  if 0 ≤ (S7.1 l0 0) ∧ (S7.1 l0 0) < 48 then
  if l3 = 0 ∨ l3 = 1 then
  nk_lt (nk_wi S7 (ja_c l0 4) (S7.1 l0 0).toNat l3) fun S11 =>
  if 0 ≤ (S11.1 l0 0) ∧ (S11.1 l0 0) < 48 then
  nk_lt (nk_wi S11 (ja_c l0 5) (S11.1 l0 0).toNat 0) fun S16 =>
  if l3 = 0 then
    some (0, S16)
  else
    nk_bd (ja_X0_addParameter l0 (nk_w (4 + (nk_w (2 * l1)))) S16) fun r18 S19 =>
    some (0, S19)
  else none
  else none
  else none
  else none
  else none
theorem ja_X0_begin_ok (zs : List Int32) : ∀ (l0 : Nat) (l1 : Int) (l2 : Int) (l3 : Int) (S : nk_S) (R : Int × nk_S), nk_cl ja_Tt l0 = some 0 → ja_X0_begin l0 l1 l2 l3 S = some R → nk_K ja_Tt mi_Γ (mi_ev zs) 0 21 0 [(0, nk_r l0), (1, nk_i l1), (2, nk_i l2), (3, nk_i l3)] [] S R := by
  intro l0 l1 l2 l3 S R t_l0 hr
  unfold ja_X0_begin at hr
  refine nk_p (i := .aload_n 0) (len := 1) (pc' := 1) mJ_21 (by decide +kernel) (ns_aload_n 0 rfl rfl) rfl ?_
  refine nk_getC (f := (4, 1, 48)) (x := 15) (len := 3) (ci := 0) (k := 2) (pc' := 4) ja_okT mJ_21 (by decide +kernel) (by decide +kernel) (by decide +kernel) (by decide) t_l0 rfl ?_
  have t1 : nk_ar ja_Tt (ja_c l0 2) = some (1, 48) := nk_ta ja_okT t_l0 (by decide +kernel)
  refine nk_p (i := .aload_n 0) (len := 1) (pc' := 5) mJ_21 (by decide +kernel) (ns_aload_n 0 rfl rfl) rfl ?_
  refine nk_getI (y := (0, 0)) (x := 56) (len := 3) (ci := 0) (k := 0) (pc' := 8) ja_okT mJ_21 (by decide +kernel) (by decide +kernel) (by decide +kernel) t_l0 rfl ?_
  refine nk_p (i := .iload_n 1) (len := 1) (pc' := 9) mJ_21 (by decide +kernel) (ns_iload_n 1 rfl rfl) rfl ?_
  obtain ⟨h2, hr⟩ := nk_cke hr
  obtain ⟨S3, h4, hr⟩ := nk_lte hr
  refine nk_iast (len := 1) (N := 48) (pc' := 10) mJ_21 (by decide +kernel) t1 h2.1 h2.2 rfl rfl h4 ?_
  refine nk_p (i := .aload_n 0) (len := 1) (pc' := 11) mJ_21 (by decide +kernel) (ns_aload_n 0 rfl rfl) rfl ?_
  refine nk_getC (f := (4, 1, 48)) (x := 19) (len := 3) (ci := 0) (k := 3) (pc' := 14) ja_okT mJ_21 (by decide +kernel) (by decide +kernel) (by decide +kernel) (by decide) t_l0 rfl ?_
  have t5 : nk_ar ja_Tt (ja_c l0 3) = some (1, 48) := nk_ta ja_okT t_l0 (by decide +kernel)
  refine nk_p (i := .aload_n 0) (len := 1) (pc' := 15) mJ_21 (by decide +kernel) (ns_aload_n 0 rfl rfl) rfl ?_
  refine nk_getI (y := (0, 0)) (x := 56) (len := 3) (ci := 0) (k := 0) (pc' := 18) ja_okT mJ_21 (by decide +kernel) (by decide +kernel) (by decide +kernel) t_l0 rfl ?_
  refine nk_p (i := .iload_n 2) (len := 1) (pc' := 19) mJ_21 (by decide +kernel) (ns_iload_n 2 rfl rfl) rfl ?_
  obtain ⟨h6, hr⟩ := nk_cke hr
  obtain ⟨S7, h8, hr⟩ := nk_lte hr
  refine nk_iast (len := 1) (N := 48) (pc' := 20) mJ_21 (by decide +kernel) t5 h6.1 h6.2 rfl rfl h8 ?_
  refine nk_p (i := .aload_n 0) (len := 1) (pc' := 21) mJ_21 (by decide +kernel) (ns_aload_n 0 rfl rfl) rfl ?_
  refine nk_getC (f := (4, 3, 48)) (x := 22) (len := 3) (ci := 0) (k := 4) (pc' := 24) ja_okT mJ_21 (by decide +kernel) (by decide +kernel) (by decide +kernel) (by decide) t_l0 rfl ?_
  have t9 : nk_ar ja_Tt (ja_c l0 4) = some (3, 48) := nk_ta ja_okT t_l0 (by decide +kernel)
  refine nk_p (i := .aload_n 0) (len := 1) (pc' := 25) mJ_21 (by decide +kernel) (ns_aload_n 0 rfl rfl) rfl ?_
  refine nk_getI (y := (0, 0)) (x := 56) (len := 3) (ci := 0) (k := 0) (pc' := 28) ja_okT mJ_21 (by decide +kernel) (by decide +kernel) (by decide +kernel) t_l0 rfl ?_
  refine nk_p (i := .iload_n 3) (len := 1) (pc' := 29) mJ_21 (by decide +kernel) (ns_iload_n 3 rfl rfl) rfl ?_
  obtain ⟨h10, hr⟩ := nk_cke hr
  obtain ⟨h13, hr⟩ := nk_cke hr
  obtain ⟨S11, h12, hr⟩ := nk_lte hr
  refine nk_zast (len := 1) (N := 48) (pc' := 30) mJ_21 (by decide +kernel) t9 h10.1 h10.2 h13 rfl rfl h12 ?_
  refine nk_p (i := .aload_n 0) (len := 1) (pc' := 31) mJ_21 (by decide +kernel) (ns_aload_n 0 rfl rfl) rfl ?_
  refine nk_getC (f := (4, 1, 48)) (x := 26) (len := 3) (ci := 0) (k := 5) (pc' := 34) ja_okT mJ_21 (by decide +kernel) (by decide +kernel) (by decide +kernel) (by decide) t_l0 rfl ?_
  have t14 : nk_ar ja_Tt (ja_c l0 5) = some (1, 48) := nk_ta ja_okT t_l0 (by decide +kernel)
  refine nk_p (i := .aload_n 0) (len := 1) (pc' := 35) mJ_21 (by decide +kernel) (ns_aload_n 0 rfl rfl) rfl ?_
  refine nk_getI (y := (0, 0)) (x := 56) (len := 3) (ci := 0) (k := 0) (pc' := 38) ja_okT mJ_21 (by decide +kernel) (by decide +kernel) (by decide +kernel) t_l0 rfl ?_
  refine nk_p (i := .iconst 0) (len := 1) (pc' := 39) mJ_21 (by decide +kernel) (ns_iconst (c := 0) (by decide +kernel)) rfl ?_
  obtain ⟨h15, hr⟩ := nk_cke hr
  obtain ⟨S16, h17, hr⟩ := nk_lte hr
  refine nk_iast (len := 1) (N := 48) (pc' := 40) mJ_21 (by decide +kernel) t14 h15.1 h15.2 rfl rfl h17 ?_
  refine nk_p (i := .iload_n 3) (len := 1) (pc' := 41) mJ_21 (by decide +kernel) (ns_iload_n 3 rfl rfl) rfl ?_
  refine nk_icond (c := .eq) (off := 12) (len := 3) (t := 53) (pc' := 44) mJ_21 (by decide +kernel) (by decide +kernel) rfl (fun hc => ?_) (fun hc => ?_)
  · have hr := nk_ifp (c := l3 = 0) hc hr
    cases hr
    exact nk_vret (len := 1) mJ_21 (by decide +kernel) rfl
  · have hr := nk_ifn (c := l3 = 0) hc hr
    refine nk_p (i := .aload_n 0) (len := 1) (pc' := 45) mJ_21 (by decide +kernel) (ns_aload_n 0 rfl rfl) rfl ?_
    refine nk_p (i := .iconst 4) (len := 1) (pc' := 46) mJ_21 (by decide +kernel) (ns_iconst (c := 4) (by decide +kernel)) rfl ?_
    refine nk_p (i := .iconst 2) (len := 1) (pc' := 47) mJ_21 (by decide +kernel) (ns_iconst (c := 2) (by decide +kernel)) rfl ?_
    refine nk_p (i := .iload_n 1) (len := 1) (pc' := 48) mJ_21 (by decide +kernel) (ns_iload_n 1 rfl rfl) rfl ?_
    refine nk_p (i := .imul) (len := 1) (pc' := 49) mJ_21 (by decide +kernel) ns_imul rfl ?_
    refine nk_p (i := .iadd) (len := 1) (pc' := 50) mJ_21 (by decide +kernel) ns_iadd rfl ?_
    obtain ⟨r18, S19, h20, hr⟩ := nk_bde hr
    refine nk_callV (ci := 0) (n := 1) (x := 59) (len := 3) (j' := 20) (q' := 0) (r := r18) (S' := S19) (L2 := [(0, nk_r l0), (1, nk_i (nk_w (4 + (nk_w (2 * l1)))))]) (rest := []) (st' := []) (pc' := 53) mJ_21 (by decide +kernel) (by decide +kernel) rfl rfl t_l0 (Nat.le_of_ble_eq_true rfl) mJ_20 (Nat.le_of_ble_eq_true rfl) rfl (ja_X0_addParameter_ok zs _ _ _ _ t_l0 h20) rfl ?_
    cases hr
    exact nk_vret (len := 1) mJ_21 (by decide +kernel) rfl
/-! SafeCode$Classes upOf (I)I -/
noncomputable def ja_X1_upOf (l0 : Nat) (l1 : Int) (S : nk_S) : Option (Int × nk_S) :=
  if 0 ≤ l1 ∧ l1 < 32 then
  some ((S.1 (ja_c l0 1) l1.toNat), S)
  else none
theorem ja_X1_upOf_ok (zs : List Int32) : ∀ (l0 : Nat) (l1 : Int) (S : nk_S) (R : Int × nk_S), nk_cl ja_Tt l0 = some 1 → ja_X1_upOf l0 l1 S = some R → nk_K ja_Tt mi_Γ (mi_ev zs) 1 260 0 [(0, nk_r l0), (1, nk_i l1)] [] S R := by
  intro l0 l1 S R t_l0 hr
  unfold ja_X1_upOf at hr
  refine nk_p (i := .aload_n 0) (len := 1) (pc' := 1) mJ_260 (by decide +kernel) (ns_aload_n 0 rfl rfl) rfl ?_
  refine nk_getC (f := (4, 1, 32)) (x := 9) (len := 3) (ci := 1) (k := 1) (pc' := 4) ja_okT mJ_260 (by decide +kernel) (by decide +kernel) (by decide +kernel) (by decide) t_l0 rfl ?_
  have t1 : nk_ar ja_Tt (ja_c l0 1) = some (1, 32) := nk_ta ja_okT t_l0 (by decide +kernel)
  refine nk_p (i := .iload_n 1) (len := 1) (pc' := 5) mJ_260 (by decide +kernel) (ns_iload_n 1 rfl rfl) rfl ?_
  obtain ⟨h2, hr⟩ := nk_cke hr
  refine nk_iald (len := 1) (N := 32) (pc' := 6) mJ_260 (by decide +kernel) t1 h2.1 h2.2 rfl rfl ?_
  cases hr
  exact nk_iret (ty := .int) (len := 1) mJ_260 (by decide +kernel) rfl (nk_nar_i _)
/-! SafeCode$Classes isAbove (II)Z -/
noncomputable def ja_X1_isAbove (l0 : Nat) (l1 : Int) (l2 : Int) (S : nk_S) : Option (Int × nk_S) :=
  if 0 ≤ l2 ∧ l2 < 32 then
  if (nk_iand (nk_iushr (S.1 (ja_c l0 2) l2.toNat) l1) 1) = 0 then
    some (0, S)
  else
    some (1, S)
  else none
theorem ja_X1_isAbove_ok (zs : List Int32) : ∀ (l0 : Nat) (l1 : Int) (l2 : Int) (S : nk_S) (R : Int × nk_S), nk_cl ja_Tt l0 = some 1 → ja_X1_isAbove l0 l1 l2 S = some R → nk_K ja_Tt mi_Γ (mi_ev zs) 1 254 0 [(0, nk_r l0), (1, nk_i l1), (2, nk_i l2)] [] S R := by
  intro l0 l1 l2 S R t_l0 hr
  unfold ja_X1_isAbove at hr
  refine nk_p (i := .aload_n 0) (len := 1) (pc' := 1) mJ_254 (by decide +kernel) (ns_aload_n 0 rfl rfl) rfl ?_
  refine nk_getC (f := (4, 1, 32)) (x := 15) (len := 3) (ci := 1) (k := 2) (pc' := 4) ja_okT mJ_254 (by decide +kernel) (by decide +kernel) (by decide +kernel) (by decide) t_l0 rfl ?_
  have t1 : nk_ar ja_Tt (ja_c l0 2) = some (1, 32) := nk_ta ja_okT t_l0 (by decide +kernel)
  refine nk_p (i := .iload_n 2) (len := 1) (pc' := 5) mJ_254 (by decide +kernel) (ns_iload_n 2 rfl rfl) rfl ?_
  obtain ⟨h2, hr⟩ := nk_cke hr
  refine nk_iald (len := 1) (N := 32) (pc' := 6) mJ_254 (by decide +kernel) t1 h2.1 h2.2 rfl rfl ?_
  refine nk_p (i := .iload_n 1) (len := 1) (pc' := 7) mJ_254 (by decide +kernel) (ns_iload_n 1 rfl rfl) rfl ?_
  refine nk_p (i := .iushr) (len := 1) (pc' := 8) mJ_254 (by decide +kernel) ns_iushr rfl ?_
  refine nk_p (i := .iconst 1) (len := 1) (pc' := 9) mJ_254 (by decide +kernel) (ns_iconst (c := 1) (by decide +kernel)) rfl ?_
  refine nk_p (i := .iand) (len := 1) (pc' := 10) mJ_254 (by decide +kernel) ns_iand rfl ?_
  refine nk_icond (c := .eq) (off := 7) (len := 3) (t := 17) (pc' := 13) mJ_254 (by decide +kernel) (by decide +kernel) rfl (fun hc => ?_) (fun hc => ?_)
  · have hr := nk_ifp (c := (nk_iand (nk_iushr (S.1 (ja_c l0 2) l2.toNat) l1) 1) = 0) hc hr
    refine nk_p (i := .iconst 0) (len := 1) (pc' := 18) mJ_254 (by decide +kernel) (ns_iconst (c := 0) (by decide +kernel)) rfl ?_
    cases hr
    exact nk_iret (ty := .boolean) (len := 1) mJ_254 (by decide +kernel) rfl (nk_nar_z (by decide))
  · have hr := nk_ifn (c := (nk_iand (nk_iushr (S.1 (ja_c l0 2) l2.toNat) l1) 1) = 0) hc hr
    refine nk_p (i := .iconst 1) (len := 1) (pc' := 14) mJ_254 (by decide +kernel) (ns_iconst (c := 1) (by decide +kernel)) rfl ?_
    refine nk_p (i := .goto 4) (len := 3) (pc' := 18) mJ_254 (by decide +kernel) (ns_goto (by decide +kernel)) rfl ?_
    cases hr
    exact nk_iret (ty := .boolean) (len := 1) mJ_254 (by decide +kernel) rfl (nk_nar_z (by decide))
/-! SafeCode$Bodies replaceRuns (LSafeCode$Classes;II)V -/
noncomputable def ja_X0_replaceRuns_b3 (rec3 : Nat → Nat → Int → Int → Int → nk_S → Option (Int × nk_S)) (l0 : Nat) (l1 : Nat) (l2 : Int) (l3 : Int) (l4 : Int) (S : nk_S) : Option (Int × nk_S) :=
  if l3 < l4 then
    some (0, S)
  else
    if 0 ≤ l4 ∧ l4 < 48 then
    if 0 ≤ l3 ∧ l3 < 48 then
    if (S.1 (ja_c l0 3) l4.toNat) = (S.1 (ja_c l0 3) l3.toNat) then
      nk_bd (ja_X1_isAbove l1 (S.1 (ja_c l0 2) l4.toNat) l2 S) fun r7 S8 =>
      if r7 = 0 then
        nk_lt (nk_w (l4 + 1)) fun v10 =>
        rec3 l0 l1 l2 l3 v10 S8
      else
        if 0 ≤ (nk_w ((nk_w (l2 * 48)) + l4)) ∧ (nk_w ((nk_w (l2 * 48)) + l4)) < 1536 then
        nk_lt (nk_wi S8 (ja_c l0 14) (nk_w ((nk_w (l2 * 48)) + l4)).toNat l3) fun S14 =>
        nk_lt (nk_w (l4 + 1)) fun v16 =>
        rec3 l0 l1 l2 l3 v16 S14
        else none
    else
      nk_lt (nk_w (l4 + 1)) fun v4 =>
      rec3 l0 l1 l2 l3 v4 S
    else none
    else none
theorem ja_X0_replaceRuns_b3_ok (zs : List Int32) {rec3 : Nat → Nat → Int → Int → Int → nk_S → Option (Int × nk_S)} (hrec3 : ∀ (l0 : Nat) (l1 : Nat) (l2 : Int) (l3 : Int) (l4 : Int) (S : nk_S) (R : Int × nk_S), nk_cl ja_Tt l0 = some 0 → nk_cl ja_Tt l1 = some 1 → rec3 l0 l1 l2 l3 l4 S = some R → nk_K ja_Tt mi_Γ (mi_ev zs) 0 29 3 [(0, nk_r l0), (1, nk_r l1), (2, nk_i l2), (3, nk_i l3), (4, nk_i l4)] [] S R) : ∀ (l0 : Nat) (l1 : Nat) (l2 : Int) (l3 : Int) (l4 : Int) (S : nk_S) (R : Int × nk_S), nk_cl ja_Tt l0 = some 0 → nk_cl ja_Tt l1 = some 1 → ja_X0_replaceRuns_b3 rec3 l0 l1 l2 l3 l4 S = some R → nk_K ja_Tt mi_Γ (mi_ev zs) 0 29 3 [(0, nk_r l0), (1, nk_r l1), (2, nk_i l2), (3, nk_i l3), (4, nk_i l4)] [] S R := by
  intro l0 l1 l2 l3 l4 S R t_l0 t_l1 hr
  unfold ja_X0_replaceRuns_b3 at hr
  refine nk_p (i := .iload 4) (len := 2) (pc' := 5) mJ_29 (by decide +kernel) (ns_iload 4 rfl) rfl ?_
  refine nk_p (i := .iload_n 3) (len := 1) (pc' := 6) mJ_29 (by decide +kernel) (ns_iload_n 3 rfl rfl) rfl ?_
  refine nk_icmp (c := .gt) (off := 53) (len := 3) (t := 59) (pc' := 9) mJ_29 (by decide +kernel) (by decide +kernel) rfl (fun hc => ?_) (fun hc => ?_)
  · have hr := nk_ifp (c := l3 < l4) hc hr
    cases hr
    exact nk_vret (len := 1) mJ_29 (by decide +kernel) rfl
  · have hr := nk_ifn (c := l3 < l4) hc hr
    refine nk_p (i := .aload_n 0) (len := 1) (pc' := 10) mJ_29 (by decide +kernel) (ns_aload_n 0 rfl rfl) rfl ?_
    refine nk_getC (f := (4, 1, 48)) (x := 19) (len := 3) (ci := 0) (k := 3) (pc' := 13) ja_okT mJ_29 (by decide +kernel) (by decide +kernel) (by decide +kernel) (by decide) t_l0 rfl ?_
    have t1 : nk_ar ja_Tt (ja_c l0 3) = some (1, 48) := nk_ta ja_okT t_l0 (by decide +kernel)
    refine nk_p (i := .iload 4) (len := 2) (pc' := 15) mJ_29 (by decide +kernel) (ns_iload 4 rfl) rfl ?_
    obtain ⟨h2, hr⟩ := nk_cke hr
    refine nk_iald (len := 1) (N := 48) (pc' := 16) mJ_29 (by decide +kernel) t1 h2.1 h2.2 rfl rfl ?_
    refine nk_p (i := .aload_n 0) (len := 1) (pc' := 17) mJ_29 (by decide +kernel) (ns_aload_n 0 rfl rfl) rfl ?_
    refine nk_getC (f := (4, 1, 48)) (x := 19) (len := 3) (ci := 0) (k := 3) (pc' := 20) ja_okT mJ_29 (by decide +kernel) (by decide +kernel) (by decide +kernel) (by decide) t_l0 rfl ?_
    refine nk_p (i := .iload_n 3) (len := 1) (pc' := 21) mJ_29 (by decide +kernel) (ns_iload_n 3 rfl rfl) rfl ?_
    obtain ⟨h3, hr⟩ := nk_cke hr
    refine nk_iald (len := 1) (N := 48) (pc' := 22) mJ_29 (by decide +kernel) t1 h3.1 h3.2 rfl rfl ?_
    refine nk_icmp (c := .ne) (off := 31) (len := 3) (t := 53) (pc' := 25) mJ_29 (by decide +kernel) (by decide +kernel) rfl (fun hc => ?_) (fun hc => ?_)
    · have hr := nk_ifn (c := (S.1 (ja_c l0 3) l4.toNat) = (S.1 (ja_c l0 3) l3.toNat)) hc hr
      obtain ⟨v4, h5, hr⟩ := nk_lte hr
      refine nk_p (i := .iinc 4 1) (len := 3) (pc' := 56) mJ_29 (by decide +kernel) (ns_iinc (c := 1) (L' := [(4, nk_i v4), (0, nk_r l0), (1, nk_r l1), (2, nk_i l2), (3, nk_i l3)]) 4 rfl (by decide +kernel) h5 rfl (by decide +kernel)) rfl ?_
      refine nk_p (i := .goto (-53)) (len := 3) (pc' := 3) mJ_29 (by decide +kernel) (ns_goto (by decide +kernel)) rfl ?_
      refine nk_sub [1, 2, 3, 4, 0] (L' := [(0, nk_r l0), (1, nk_r l1), (2, nk_i l2), (3, nk_i l3), (4, nk_i v4)]) rfl ?_
      exact hrec3 _ _ _ _ _ _ _ t_l0 t_l1 hr
    · have hr := nk_ifp (c := (S.1 (ja_c l0 3) l4.toNat) = (S.1 (ja_c l0 3) l3.toNat)) (Decidable.of_not_not hc) hr
      refine nk_p (i := .aload_n 1) (len := 1) (pc' := 26) mJ_29 (by decide +kernel) (ns_aload_n 1 rfl rfl) rfl ?_
      refine nk_p (i := .aload_n 0) (len := 1) (pc' := 27) mJ_29 (by decide +kernel) (ns_aload_n 0 rfl rfl) rfl ?_
      refine nk_getC (f := (4, 1, 48)) (x := 15) (len := 3) (ci := 0) (k := 2) (pc' := 30) ja_okT mJ_29 (by decide +kernel) (by decide +kernel) (by decide +kernel) (by decide) t_l0 rfl ?_
      have t6 : nk_ar ja_Tt (ja_c l0 2) = some (1, 48) := nk_ta ja_okT t_l0 (by decide +kernel)
      refine nk_p (i := .iload 4) (len := 2) (pc' := 32) mJ_29 (by decide +kernel) (ns_iload 4 rfl) rfl ?_
      refine nk_iald (len := 1) (N := 48) (pc' := 33) mJ_29 (by decide +kernel) t6 h2.1 h2.2 rfl rfl ?_
      refine nk_p (i := .iload_n 2) (len := 1) (pc' := 34) mJ_29 (by decide +kernel) (ns_iload_n 2 rfl rfl) rfl ?_
      obtain ⟨r7, S8, h9, hr⟩ := nk_bde hr
      refine nk_callV (ci := 1) (n := 2) (x := 67) (len := 3) (j' := 254) (q' := 1) (r := r7) (S' := S8) (L2 := [(0, nk_r l1), (1, nk_i (S.1 (ja_c l0 2) l4.toNat)), (2, nk_i l2)]) (rest := []) (st' := [nk_i r7]) (pc' := 37) mJ_29 (by decide +kernel) (by decide +kernel) rfl rfl t_l1 (Nat.le_of_ble_eq_true rfl) mJ_254 (Nat.le_of_ble_eq_true rfl) rfl (ja_X1_isAbove_ok zs _ _ _ _ _ t_l1 h9) rfl ?_
      refine nk_icond (c := .eq) (off := 16) (len := 3) (t := 53) (pc' := 40) mJ_29 (by decide +kernel) (by decide +kernel) rfl (fun hc => ?_) (fun hc => ?_)
      · have hr := nk_ifp (c := r7 = 0) hc hr
        obtain ⟨v10, h11, hr⟩ := nk_lte hr
        refine nk_p (i := .iinc 4 1) (len := 3) (pc' := 56) mJ_29 (by decide +kernel) (ns_iinc (c := 1) (L' := [(4, nk_i v10), (0, nk_r l0), (1, nk_r l1), (2, nk_i l2), (3, nk_i l3)]) 4 rfl (by decide +kernel) h11 rfl (by decide +kernel)) rfl ?_
        refine nk_p (i := .goto (-53)) (len := 3) (pc' := 3) mJ_29 (by decide +kernel) (ns_goto (by decide +kernel)) rfl ?_
        refine nk_sub [1, 2, 3, 4, 0] (L' := [(0, nk_r l0), (1, nk_r l1), (2, nk_i l2), (3, nk_i l3), (4, nk_i v10)]) rfl ?_
        exact hrec3 _ _ _ _ _ _ _ t_l0 t_l1 hr
      · have hr := nk_ifn (c := r7 = 0) hc hr
        refine nk_p (i := .aload_n 0) (len := 1) (pc' := 41) mJ_29 (by decide +kernel) (ns_aload_n 0 rfl rfl) rfl ?_
        refine nk_getC (f := (4, 1, 1536)) (x := 53) (len := 3) (ci := 0) (k := 14) (pc' := 44) ja_okT mJ_29 (by decide +kernel) (by decide +kernel) (by decide +kernel) (by decide) t_l0 rfl ?_
        have t12 : nk_ar ja_Tt (ja_c l0 14) = some (1, 1536) := nk_ta ja_okT t_l0 (by decide +kernel)
        refine nk_p (i := .iload_n 2) (len := 1) (pc' := 45) mJ_29 (by decide +kernel) (ns_iload_n 2 rfl rfl) rfl ?_
        refine nk_p (i := .bipush 48) (len := 2) (pc' := 47) mJ_29 (by decide +kernel) (ns_bipush (c := 48) (by decide +kernel)) rfl ?_
        refine nk_p (i := .imul) (len := 1) (pc' := 48) mJ_29 (by decide +kernel) ns_imul rfl ?_
        refine nk_p (i := .iload 4) (len := 2) (pc' := 50) mJ_29 (by decide +kernel) (ns_iload 4 rfl) rfl ?_
        refine nk_p (i := .iadd) (len := 1) (pc' := 51) mJ_29 (by decide +kernel) ns_iadd rfl ?_
        refine nk_p (i := .iload_n 3) (len := 1) (pc' := 52) mJ_29 (by decide +kernel) (ns_iload_n 3 rfl rfl) rfl ?_
        obtain ⟨h13, hr⟩ := nk_cke hr
        obtain ⟨S14, h15, hr⟩ := nk_lte hr
        refine nk_iast (len := 1) (N := 1536) (pc' := 53) mJ_29 (by decide +kernel) t12 h13.1 h13.2 rfl rfl h15 ?_
        obtain ⟨v16, h17, hr⟩ := nk_lte hr
        refine nk_p (i := .iinc 4 1) (len := 3) (pc' := 56) mJ_29 (by decide +kernel) (ns_iinc (c := 1) (L' := [(4, nk_i v16), (0, nk_r l0), (1, nk_r l1), (2, nk_i l2), (3, nk_i l3)]) 4 rfl (by decide +kernel) h17 rfl (by decide +kernel)) rfl ?_
        refine nk_p (i := .goto (-53)) (len := 3) (pc' := 3) mJ_29 (by decide +kernel) (ns_goto (by decide +kernel)) rfl ?_
        refine nk_sub [1, 2, 3, 4, 0] (L' := [(0, nk_r l0), (1, nk_r l1), (2, nk_i l2), (3, nk_i l3), (4, nk_i v16)]) rfl ?_
        exact hrec3 _ _ _ _ _ _ _ t_l0 t_l1 hr
noncomputable def ja_X0_replaceRuns_L3 : Nat → Nat → Nat → Int → Int → Int → nk_S → Option (Int × nk_S)
  | 0, _, _, _, _, _, _ => none
  | n + 1, l0, l1, l2, l3, l4, S => ja_X0_replaceRuns_b3 (ja_X0_replaceRuns_L3 n) l0 l1 l2 l3 l4 S
theorem ja_X0_replaceRuns_L3_ok (zs : List Int32) : ∀ n : Nat, ∀ (l0 : Nat) (l1 : Nat) (l2 : Int) (l3 : Int) (l4 : Int) (S : nk_S) (R : Int × nk_S), nk_cl ja_Tt l0 = some 0 → nk_cl ja_Tt l1 = some 1 → ja_X0_replaceRuns_L3 n l0 l1 l2 l3 l4 S = some R → nk_K ja_Tt mi_Γ (mi_ev zs) 0 29 3 [(0, nk_r l0), (1, nk_r l1), (2, nk_i l2), (3, nk_i l3), (4, nk_i l4)] [] S R := by
  intro n
  induction n with
  | zero => intro _ _ _ _ _ _ _ _ _ hr; cases hr
  | succ n ih => intro l0 l1 l2 l3 l4 S R t_l0 t_l1 hr; exact ja_X0_replaceRuns_b3_ok zs ih l0 l1 l2 l3 l4 S R t_l0 t_l1 hr
noncomputable def ja_X0_replaceRuns (l0 : Nat) (l1 : Nat) (l2 : Int) (l3 : Int) (S : nk_S) : Option (Int × nk_S) :=
  ja_X0_replaceRuns_L3 nk_big l0 l1 l2 l3 0 S
theorem ja_X0_replaceRuns_ok (zs : List Int32) : ∀ (l0 : Nat) (l1 : Nat) (l2 : Int) (l3 : Int) (S : nk_S) (R : Int × nk_S), nk_cl ja_Tt l0 = some 0 → nk_cl ja_Tt l1 = some 1 → ja_X0_replaceRuns l0 l1 l2 l3 S = some R → nk_K ja_Tt mi_Γ (mi_ev zs) 0 29 0 [(0, nk_r l0), (1, nk_r l1), (2, nk_i l2), (3, nk_i l3)] [] S R := by
  intro l0 l1 l2 l3 S R t_l0 t_l1 hr
  unfold ja_X0_replaceRuns at hr
  refine nk_p (i := .iconst 0) (len := 1) (pc' := 1) mJ_29 (by decide +kernel) (ns_iconst (c := 0) (by decide +kernel)) rfl ?_
  refine nk_p (i := .istore 4) (len := 2) (pc' := 3) mJ_29 (by decide +kernel) (ns_istore (L' := [(4, nk_i 0), (0, nk_r l0), (1, nk_r l1), (2, nk_i l2), (3, nk_i l3)]) rfl rfl (by decide +kernel)) rfl ?_
  refine nk_sub [1, 2, 3, 4, 0] (L' := [(0, nk_r l0), (1, nk_r l1), (2, nk_i l2), (3, nk_i l3), (4, nk_i 0)]) rfl ?_
  exact ja_X0_replaceRuns_L3_ok zs nk_big _ _ _ _ _ _ _ t_l0 t_l1 hr
/-! SafeCode$Bodies fillRuns (LSafeCode$Classes;)V -/
noncomputable def ja_X0_fillRuns_b46 (rec13 : Nat → Nat → Int → Int → nk_S → Option (Int × nk_S)) (rec46 : Nat → Nat → Int → Int → nk_S → Option (Int × nk_S)) (l0 : Nat) (l1 : Nat) (l2 : Int) (l3 : Int) (S : nk_S) : Option (Int × nk_S) :=
  if (S.1 l0 0) ≤ l2 then
    nk_lt (nk_w (l3 + 1)) fun v1 =>
    rec13 l0 l1 l2 v1 S
  else
    if 0 ≤ l2 ∧ l2 < 48 then
    if (S.1 (ja_c l0 2) l2.toNat) = l3 then
      nk_bd (ja_X0_replaceRuns l0 l1 l3 l2 S) fun r7 S8 =>
      nk_lt (nk_w (l2 + 1)) fun v10 =>
      rec46 l0 l1 v10 l3 S8
    else
      nk_lt (nk_w (l3 + 1)) fun v5 =>
      rec13 l0 l1 l2 v5 S
    else none
theorem ja_X0_fillRuns_b46_ok (zs : List Int32) {rec13 : Nat → Nat → Int → Int → nk_S → Option (Int × nk_S)} (hrec13 : ∀ (l0 : Nat) (l1 : Nat) (l2 : Int) (l3 : Int) (S : nk_S) (R : Int × nk_S), nk_cl ja_Tt l0 = some 0 → nk_cl ja_Tt l1 = some 1 → rec13 l0 l1 l2 l3 S = some R → nk_K ja_Tt mi_Γ (mi_ev zs) 0 22 13 [(0, nk_r l0), (1, nk_r l1), (2, nk_i l2), (3, nk_i l3)] [] S R) {rec46 : Nat → Nat → Int → Int → nk_S → Option (Int × nk_S)} (hrec46 : ∀ (l0 : Nat) (l1 : Nat) (l2 : Int) (l3 : Int) (S : nk_S) (R : Int × nk_S), nk_cl ja_Tt l0 = some 0 → nk_cl ja_Tt l1 = some 1 → rec46 l0 l1 l2 l3 S = some R → nk_K ja_Tt mi_Γ (mi_ev zs) 0 22 46 [(0, nk_r l0), (1, nk_r l1), (2, nk_i l2), (3, nk_i l3)] [] S R) : ∀ (l0 : Nat) (l1 : Nat) (l2 : Int) (l3 : Int) (S : nk_S) (R : Int × nk_S), nk_cl ja_Tt l0 = some 0 → nk_cl ja_Tt l1 = some 1 → ja_X0_fillRuns_b46 rec13 rec46 l0 l1 l2 l3 S = some R → nk_K ja_Tt mi_Γ (mi_ev zs) 0 22 46 [(0, nk_r l0), (1, nk_r l1), (2, nk_i l2), (3, nk_i l3)] [] S R := by
  intro l0 l1 l2 l3 S R t_l0 t_l1 hr
  unfold ja_X0_fillRuns_b46 at hr
  refine nk_p (i := .iload_n 2) (len := 1) (pc' := 47) mJ_22 (by decide +kernel) (ns_iload_n 2 rfl rfl) rfl ?_
  refine nk_p (i := .aload_n 0) (len := 1) (pc' := 48) mJ_22 (by decide +kernel) (ns_aload_n 0 rfl rfl) rfl ?_
  refine nk_getI (y := (0, 0)) (x := 56) (len := 3) (ci := 0) (k := 0) (pc' := 51) ja_okT mJ_22 (by decide +kernel) (by decide +kernel) (by decide +kernel) t_l0 rfl ?_
  refine nk_icmp (c := .ge) (off := 26) (len := 3) (t := 77) (pc' := 54) mJ_22 (by decide +kernel) (by decide +kernel) rfl (fun hc => ?_) (fun hc => ?_)
  · have hr := nk_ifp (c := (S.1 l0 0) ≤ l2) hc hr
    obtain ⟨v1, h2, hr⟩ := nk_lte hr
    refine nk_p (i := .iinc 3 1) (len := 3) (pc' := 80) mJ_22 (by decide +kernel) (ns_iinc (c := 1) (L' := [(3, nk_i v1), (0, nk_r l0), (1, nk_r l1), (2, nk_i l2)]) 3 rfl (by decide +kernel) h2 rfl (by decide +kernel)) rfl ?_
    refine nk_p (i := .goto (-67)) (len := 3) (pc' := 13) mJ_22 (by decide +kernel) (ns_goto (by decide +kernel)) rfl ?_
    refine nk_sub [1, 2, 3, 0] (L' := [(0, nk_r l0), (1, nk_r l1), (2, nk_i l2), (3, nk_i v1)]) rfl ?_
    exact hrec13 _ _ _ _ _ _ t_l0 t_l1 hr
  · have hr := nk_ifn (c := (S.1 l0 0) ≤ l2) hc hr
    refine nk_p (i := .aload_n 0) (len := 1) (pc' := 55) mJ_22 (by decide +kernel) (ns_aload_n 0 rfl rfl) rfl ?_
    refine nk_getC (f := (4, 1, 48)) (x := 15) (len := 3) (ci := 0) (k := 2) (pc' := 58) ja_okT mJ_22 (by decide +kernel) (by decide +kernel) (by decide +kernel) (by decide) t_l0 rfl ?_
    have t3 : nk_ar ja_Tt (ja_c l0 2) = some (1, 48) := nk_ta ja_okT t_l0 (by decide +kernel)
    refine nk_p (i := .iload_n 2) (len := 1) (pc' := 59) mJ_22 (by decide +kernel) (ns_iload_n 2 rfl rfl) rfl ?_
    obtain ⟨h4, hr⟩ := nk_cke hr
    refine nk_iald (len := 1) (N := 48) (pc' := 60) mJ_22 (by decide +kernel) t3 h4.1 h4.2 rfl rfl ?_
    refine nk_p (i := .iload_n 3) (len := 1) (pc' := 61) mJ_22 (by decide +kernel) (ns_iload_n 3 rfl rfl) rfl ?_
    refine nk_icmp (c := .ne) (off := 16) (len := 3) (t := 77) (pc' := 64) mJ_22 (by decide +kernel) (by decide +kernel) rfl (fun hc => ?_) (fun hc => ?_)
    · have hr := nk_ifn (c := (S.1 (ja_c l0 2) l2.toNat) = l3) hc hr
      obtain ⟨v5, h6, hr⟩ := nk_lte hr
      refine nk_p (i := .iinc 3 1) (len := 3) (pc' := 80) mJ_22 (by decide +kernel) (ns_iinc (c := 1) (L' := [(3, nk_i v5), (0, nk_r l0), (1, nk_r l1), (2, nk_i l2)]) 3 rfl (by decide +kernel) h6 rfl (by decide +kernel)) rfl ?_
      refine nk_p (i := .goto (-67)) (len := 3) (pc' := 13) mJ_22 (by decide +kernel) (ns_goto (by decide +kernel)) rfl ?_
      refine nk_sub [1, 2, 3, 0] (L' := [(0, nk_r l0), (1, nk_r l1), (2, nk_i l2), (3, nk_i v5)]) rfl ?_
      exact hrec13 _ _ _ _ _ _ t_l0 t_l1 hr
    · have hr := nk_ifp (c := (S.1 (ja_c l0 2) l2.toNat) = l3) (Decidable.of_not_not hc) hr
      refine nk_p (i := .aload_n 0) (len := 1) (pc' := 65) mJ_22 (by decide +kernel) (ns_aload_n 0 rfl rfl) rfl ?_
      refine nk_p (i := .aload_n 1) (len := 1) (pc' := 66) mJ_22 (by decide +kernel) (ns_aload_n 1 rfl rfl) rfl ?_
      refine nk_p (i := .iload_n 3) (len := 1) (pc' := 67) mJ_22 (by decide +kernel) (ns_iload_n 3 rfl rfl) rfl ?_
      refine nk_p (i := .iload_n 2) (len := 1) (pc' := 68) mJ_22 (by decide +kernel) (ns_iload_n 2 rfl rfl) rfl ?_
      obtain ⟨r7, S8, h9, hr⟩ := nk_bde hr
      refine nk_callV (ci := 0) (n := 3) (x := 90) (len := 3) (j' := 29) (q' := 0) (r := r7) (S' := S8) (L2 := [(0, nk_r l0), (1, nk_r l1), (2, nk_i l3), (3, nk_i l2)]) (rest := []) (st' := []) (pc' := 71) mJ_22 (by decide +kernel) (by decide +kernel) rfl rfl t_l0 (Nat.le_of_ble_eq_true rfl) mJ_29 (Nat.le_of_ble_eq_true rfl) rfl (ja_X0_replaceRuns_ok zs _ _ _ _ _ _ t_l0 t_l1 h9) rfl ?_
      obtain ⟨v10, h11, hr⟩ := nk_lte hr
      refine nk_p (i := .iinc 2 1) (len := 3) (pc' := 74) mJ_22 (by decide +kernel) (ns_iinc (c := 1) (L' := [(2, nk_i v10), (0, nk_r l0), (1, nk_r l1), (3, nk_i l3)]) 2 rfl (by decide +kernel) h11 rfl (by decide +kernel)) rfl ?_
      refine nk_p (i := .goto (-28)) (len := 3) (pc' := 46) mJ_22 (by decide +kernel) (ns_goto (by decide +kernel)) rfl ?_
      refine nk_sub [1, 2, 0, 3] (L' := [(0, nk_r l0), (1, nk_r l1), (2, nk_i v10), (3, nk_i l3)]) rfl ?_
      exact hrec46 _ _ _ _ _ _ t_l0 t_l1 hr
noncomputable def ja_X0_fillRuns_L46 (rec13 : Nat → Nat → Int → Int → nk_S → Option (Int × nk_S)) : Nat → Nat → Nat → Int → Int → nk_S → Option (Int × nk_S)
  | 0, _, _, _, _, _ => none
  | n + 1, l0, l1, l2, l3, S => ja_X0_fillRuns_b46 rec13 (ja_X0_fillRuns_L46 rec13 n) l0 l1 l2 l3 S
theorem ja_X0_fillRuns_L46_ok (zs : List Int32) {rec13 : Nat → Nat → Int → Int → nk_S → Option (Int × nk_S)} (hrec13 : ∀ (l0 : Nat) (l1 : Nat) (l2 : Int) (l3 : Int) (S : nk_S) (R : Int × nk_S), nk_cl ja_Tt l0 = some 0 → nk_cl ja_Tt l1 = some 1 → rec13 l0 l1 l2 l3 S = some R → nk_K ja_Tt mi_Γ (mi_ev zs) 0 22 13 [(0, nk_r l0), (1, nk_r l1), (2, nk_i l2), (3, nk_i l3)] [] S R) : ∀ n : Nat, ∀ (l0 : Nat) (l1 : Nat) (l2 : Int) (l3 : Int) (S : nk_S) (R : Int × nk_S), nk_cl ja_Tt l0 = some 0 → nk_cl ja_Tt l1 = some 1 → ja_X0_fillRuns_L46 rec13 n l0 l1 l2 l3 S = some R → nk_K ja_Tt mi_Γ (mi_ev zs) 0 22 46 [(0, nk_r l0), (1, nk_r l1), (2, nk_i l2), (3, nk_i l3)] [] S R := by
  intro n
  induction n with
  | zero => intro _ _ _ _ _ _ _ _ hr; cases hr
  | succ n ih => intro l0 l1 l2 l3 S R t_l0 t_l1 hr; exact ja_X0_fillRuns_b46_ok zs hrec13 ih l0 l1 l2 l3 S R t_l0 t_l1 hr
noncomputable def ja_X0_fillRuns_b13 (rec13 : Nat → Nat → Int → Int → nk_S → Option (Int × nk_S)) (l0 : Nat) (l1 : Nat) (l2 : Int) (l3 : Int) (S : nk_S) : Option (Int × nk_S) :=
  if (S.1 l1 0) ≤ l3 then
    some (0, S)
  else
    nk_bd (ja_X1_upOf l1 l3 S) fun r2 S3 =>
    if 0 ≤ (nk_w (r2 * 48)) ∧ 0 ≤ (nk_w (l3 * 48)) ∧ 0 ≤ (48 : Int) ∧ (nk_w (r2 * 48)) + (48 : Int) ≤ 1536 ∧ (nk_w (l3 * 48)) + (48 : Int) ≤ 1536 then
    nk_lt (nk_cp S3 (ja_c l0 14) (nk_w (r2 * 48)).toNat (ja_c l0 14) (nk_w (l3 * 48)).toNat 48) fun S6 =>
    ja_X0_fillRuns_L46 rec13 nk_big l0 l1 l2 l3 S6
    else none
theorem ja_X0_fillRuns_b13_ok (zs : List Int32) {rec13 : Nat → Nat → Int → Int → nk_S → Option (Int × nk_S)} (hrec13 : ∀ (l0 : Nat) (l1 : Nat) (l2 : Int) (l3 : Int) (S : nk_S) (R : Int × nk_S), nk_cl ja_Tt l0 = some 0 → nk_cl ja_Tt l1 = some 1 → rec13 l0 l1 l2 l3 S = some R → nk_K ja_Tt mi_Γ (mi_ev zs) 0 22 13 [(0, nk_r l0), (1, nk_r l1), (2, nk_i l2), (3, nk_i l3)] [] S R) : ∀ (l0 : Nat) (l1 : Nat) (l2 : Int) (l3 : Int) (S : nk_S) (R : Int × nk_S), nk_cl ja_Tt l0 = some 0 → nk_cl ja_Tt l1 = some 1 → ja_X0_fillRuns_b13 rec13 l0 l1 l2 l3 S = some R → nk_K ja_Tt mi_Γ (mi_ev zs) 0 22 13 [(0, nk_r l0), (1, nk_r l1), (2, nk_i l2), (3, nk_i l3)] [] S R := by
  intro l0 l1 l2 l3 S R t_l0 t_l1 hr
  unfold ja_X0_fillRuns_b13 at hr
  refine nk_p (i := .iload_n 3) (len := 1) (pc' := 14) mJ_22 (by decide +kernel) (ns_iload_n 3 rfl rfl) rfl ?_
  refine nk_p (i := .aload_n 1) (len := 1) (pc' := 15) mJ_22 (by decide +kernel) (ns_aload_n 1 rfl rfl) rfl ?_
  refine nk_getI (y := (0, 0)) (x := 79) (len := 3) (ci := 1) (k := 0) (pc' := 18) ja_okT mJ_22 (by decide +kernel) (by decide +kernel) (by decide +kernel) t_l1 rfl ?_
  refine nk_icmp (c := .ge) (off := 65) (len := 3) (t := 83) (pc' := 21) mJ_22 (by decide +kernel) (by decide +kernel) rfl (fun hc => ?_) (fun hc => ?_)
  · have hr := nk_ifp (c := (S.1 l1 0) ≤ l3) hc hr
    cases hr
    exact nk_vret (len := 1) mJ_22 (by decide +kernel) rfl
  · have hr := nk_ifn (c := (S.1 l1 0) ≤ l3) hc hr
    refine nk_p (i := .aload_n 0) (len := 1) (pc' := 22) mJ_22 (by decide +kernel) (ns_aload_n 0 rfl rfl) rfl ?_
    refine nk_getC (f := (4, 1, 1536)) (x := 53) (len := 3) (ci := 0) (k := 14) (pc' := 25) ja_okT mJ_22 (by decide +kernel) (by decide +kernel) (by decide +kernel) (by decide) t_l0 rfl ?_
    have t1 : nk_ar ja_Tt (ja_c l0 14) = some (1, 1536) := nk_ta ja_okT t_l0 (by decide +kernel)
    refine nk_p (i := .aload_n 1) (len := 1) (pc' := 26) mJ_22 (by decide +kernel) (ns_aload_n 1 rfl rfl) rfl ?_
    refine nk_p (i := .iload_n 3) (len := 1) (pc' := 27) mJ_22 (by decide +kernel) (ns_iload_n 3 rfl rfl) rfl ?_
    obtain ⟨r2, S3, h4, hr⟩ := nk_bde hr
    refine nk_callV (ci := 1) (n := 1) (x := 80) (len := 3) (j' := 260) (q' := 1) (r := r2) (S' := S3) (L2 := [(0, nk_r l1), (1, nk_i l3)]) (rest := [nk_r (ja_c l0 14)]) (st' := [nk_i r2, nk_r (ja_c l0 14)]) (pc' := 30) mJ_22 (by decide +kernel) (by decide +kernel) rfl rfl t_l1 (Nat.le_of_ble_eq_true rfl) mJ_260 (Nat.le_of_ble_eq_true rfl) rfl (ja_X1_upOf_ok zs _ _ _ _ t_l1 h4) rfl ?_
    refine nk_p (i := .bipush 48) (len := 2) (pc' := 32) mJ_22 (by decide +kernel) (ns_bipush (c := 48) (by decide +kernel)) rfl ?_
    refine nk_p (i := .imul) (len := 1) (pc' := 33) mJ_22 (by decide +kernel) ns_imul rfl ?_
    refine nk_p (i := .aload_n 0) (len := 1) (pc' := 34) mJ_22 (by decide +kernel) (ns_aload_n 0 rfl rfl) rfl ?_
    refine nk_getC (f := (4, 1, 1536)) (x := 53) (len := 3) (ci := 0) (k := 14) (pc' := 37) ja_okT mJ_22 (by decide +kernel) (by decide +kernel) (by decide +kernel) (by decide) t_l0 rfl ?_
    refine nk_p (i := .iload_n 3) (len := 1) (pc' := 38) mJ_22 (by decide +kernel) (ns_iload_n 3 rfl rfl) rfl ?_
    refine nk_p (i := .bipush 48) (len := 2) (pc' := 40) mJ_22 (by decide +kernel) (ns_bipush (c := 48) (by decide +kernel)) rfl ?_
    refine nk_p (i := .imul) (len := 1) (pc' := 41) mJ_22 (by decide +kernel) ns_imul rfl ?_
    refine nk_p (i := .bipush 48) (len := 2) (pc' := 43) mJ_22 (by decide +kernel) (ns_bipush (c := 48) (by decide +kernel)) rfl ?_
    obtain ⟨h5, hr⟩ := nk_cke hr
    obtain ⟨S6, h7, hr⟩ := nk_lte hr
    refine nk_copy (x := 84) (len := 3) (t := 1) (N0 := 1536) (N1 := 1536) (q1 := 9999) (q2 := 0) (q3 := 0) (pc' := 46) mJ_22 (by decide +kernel) (by decide +kernel) t1 t1 h5.1 h5.2.1 h5.2.2.1 h5.2.2.2.1 h5.2.2.2.2 rfl rfl (Nat.le_of_ble_eq_true rfl) rfl h7 ?_
    exact ja_X0_fillRuns_L46_ok zs hrec13 nk_big _ _ _ _ _ _ t_l0 t_l1 hr
noncomputable def ja_X0_fillRuns_L13 : Nat → Nat → Nat → Int → Int → nk_S → Option (Int × nk_S)
  | 0, _, _, _, _, _ => none
  | n + 1, l0, l1, l2, l3, S => ja_X0_fillRuns_b13 (ja_X0_fillRuns_L13 n) l0 l1 l2 l3 S
theorem ja_X0_fillRuns_L13_ok (zs : List Int32) : ∀ n : Nat, ∀ (l0 : Nat) (l1 : Nat) (l2 : Int) (l3 : Int) (S : nk_S) (R : Int × nk_S), nk_cl ja_Tt l0 = some 0 → nk_cl ja_Tt l1 = some 1 → ja_X0_fillRuns_L13 n l0 l1 l2 l3 S = some R → nk_K ja_Tt mi_Γ (mi_ev zs) 0 22 13 [(0, nk_r l0), (1, nk_r l1), (2, nk_i l2), (3, nk_i l3)] [] S R := by
  intro n
  induction n with
  | zero => intro _ _ _ _ _ _ _ _ hr; cases hr
  | succ n ih => intro l0 l1 l2 l3 S R t_l0 t_l1 hr; exact ja_X0_fillRuns_b13_ok zs ih l0 l1 l2 l3 S R t_l0 t_l1 hr
noncomputable def ja_X0_fillRuns (l0 : Nat) (l1 : Nat) (S : nk_S) : Option (Int × nk_S) :=
  nk_bd (ja_J7_fill_53178 (ja_c l0 14) 1536 (-1) S) fun r2 S3 =>
  ja_X0_fillRuns_L13 nk_big l0 l1 0 8 S3
theorem ja_X0_fillRuns_ok (zs : List Int32) : ∀ (l0 : Nat) (l1 : Nat) (S : nk_S) (R : Int × nk_S), nk_cl ja_Tt l0 = some 0 → nk_cl ja_Tt l1 = some 1 → ja_X0_fillRuns l0 l1 S = some R → nk_K ja_Tt mi_Γ (mi_ev zs) 0 22 0 [(0, nk_r l0), (1, nk_r l1)] [] S R := by
  intro l0 l1 S R t_l0 t_l1 hr
  unfold ja_X0_fillRuns at hr
  refine nk_p (i := .aload_n 0) (len := 1) (pc' := 1) mJ_22 (by decide +kernel) (ns_aload_n 0 rfl rfl) rfl ?_
  refine nk_getC (f := (4, 1, 1536)) (x := 53) (len := 3) (ci := 0) (k := 14) (pc' := 4) ja_okT mJ_22 (by decide +kernel) (by decide +kernel) (by decide +kernel) (by decide) t_l0 rfl ?_
  have t1 : nk_ar ja_Tt (ja_c l0 14) = some (1, 1536) := nk_ta ja_okT t_l0 (by decide +kernel)
  refine nk_p (i := .iconst (-1)) (len := 1) (pc' := 5) mJ_22 (by decide +kernel) (ns_iconst (c := (-1)) (by decide +kernel)) rfl ?_
  obtain ⟨r2, S3, h4, hr⟩ := nk_bde hr
  refine nk_callS (ci := 0) (n := 2) (x := 73) (len := 3) (j' := 13) (q' := 0) (r := r2) (S' := S3) (L2 := [(0, nk_r (ja_c l0 14)), (1, nk_i (-1))]) (rest := []) (st' := []) (pc' := 8) mJ_22 (by decide +kernel) (by decide +kernel) (Nat.le_of_ble_eq_true rfl) rfl rfl (Nat.le_of_ble_eq_true rfl) mJ_13 (Nat.le_of_ble_eq_true rfl) ja_Tpos rfl (ja_J7_fill_53178_ok zs _ _ _ _ _ t1 h4) rfl ?_
  refine nk_p (i := .iconst 0) (len := 1) (pc' := 9) mJ_22 (by decide +kernel) (ns_iconst (c := 0) (by decide +kernel)) rfl ?_
  refine nk_p (i := .istore_n 2) (len := 1) (pc' := 10) mJ_22 (by decide +kernel) (ns_istore_n (L' := [(2, nk_i 0), (0, nk_r l0), (1, nk_r l1)]) rfl rfl rfl (by decide +kernel)) rfl ?_
  refine nk_p (i := .bipush 8) (len := 2) (pc' := 12) mJ_22 (by decide +kernel) (ns_bipush (c := 8) (by decide +kernel)) rfl ?_
  refine nk_p (i := .istore_n 3) (len := 1) (pc' := 13) mJ_22 (by decide +kernel) (ns_istore_n (L' := [(3, nk_i 8), (2, nk_i 0), (0, nk_r l0), (1, nk_r l1)]) rfl rfl rfl (by decide +kernel)) rfl ?_
  refine nk_sub [2, 3, 1, 0] (L' := [(0, nk_r l0), (1, nk_r l1), (2, nk_i 0), (3, nk_i 8)]) rfl ?_
  exact ja_X0_fillRuns_L13_ok zs nk_big _ _ _ _ _ _ t_l0 t_l1 hr
/-! SafeCode$Bodies finish (III)V -/
noncomputable def ja_X0_finish (l0 : Nat) (l1 : Int) (l2 : Int) (l3 : Int) (S : nk_S) : Option (Int × nk_S) :=
  if 0 ≤ (S.1 l0 0) ∧ (S.1 l0 0) < 48 then
  nk_lt (nk_wi S (ja_c l0 7) (S.1 l0 0).toNat l1) fun S3 =>
  if 0 ≤ (S3.1 l0 0) ∧ (S3.1 l0 0) < 48 then
  nk_lt (nk_wi S3 (ja_c l0 8) (S3.1 l0 0).toNat l2) fun S7 =>
  if 0 ≤ (S7.1 l0 0) ∧ (S7.1 l0 0) < 48 then
  nk_lt (nk_wi S7 (ja_c l0 9) (S7.1 l0 0).toNat l3) fun S11 =>
  some (0, S11)
  else none
  else none
  else none
theorem ja_X0_finish_ok (zs : List Int32) : ∀ (l0 : Nat) (l1 : Int) (l2 : Int) (l3 : Int) (S : nk_S) (R : Int × nk_S), nk_cl ja_Tt l0 = some 0 → ja_X0_finish l0 l1 l2 l3 S = some R → nk_K ja_Tt mi_Γ (mi_ev zs) 0 23 0 [(0, nk_r l0), (1, nk_i l1), (2, nk_i l2), (3, nk_i l3)] [] S R := by
  intro l0 l1 l2 l3 S R t_l0 hr
  unfold ja_X0_finish at hr
  refine nk_p (i := .aload_n 0) (len := 1) (pc' := 1) mJ_23 (by decide +kernel) (ns_aload_n 0 rfl rfl) rfl ?_
  refine nk_getC (f := (4, 1, 48)) (x := 32) (len := 3) (ci := 0) (k := 7) (pc' := 4) ja_okT mJ_23 (by decide +kernel) (by decide +kernel) (by decide +kernel) (by decide) t_l0 rfl ?_
  have t1 : nk_ar ja_Tt (ja_c l0 7) = some (1, 48) := nk_ta ja_okT t_l0 (by decide +kernel)
  refine nk_p (i := .aload_n 0) (len := 1) (pc' := 5) mJ_23 (by decide +kernel) (ns_aload_n 0 rfl rfl) rfl ?_
  refine nk_getI (y := (0, 0)) (x := 56) (len := 3) (ci := 0) (k := 0) (pc' := 8) ja_okT mJ_23 (by decide +kernel) (by decide +kernel) (by decide +kernel) t_l0 rfl ?_
  refine nk_p (i := .iload_n 1) (len := 1) (pc' := 9) mJ_23 (by decide +kernel) (ns_iload_n 1 rfl rfl) rfl ?_
  obtain ⟨h2, hr⟩ := nk_cke hr
  obtain ⟨S3, h4, hr⟩ := nk_lte hr
  refine nk_iast (len := 1) (N := 48) (pc' := 10) mJ_23 (by decide +kernel) t1 h2.1 h2.2 rfl rfl h4 ?_
  refine nk_p (i := .aload_n 0) (len := 1) (pc' := 11) mJ_23 (by decide +kernel) (ns_aload_n 0 rfl rfl) rfl ?_
  refine nk_getC (f := (4, 1, 48)) (x := 35) (len := 3) (ci := 0) (k := 8) (pc' := 14) ja_okT mJ_23 (by decide +kernel) (by decide +kernel) (by decide +kernel) (by decide) t_l0 rfl ?_
  have t5 : nk_ar ja_Tt (ja_c l0 8) = some (1, 48) := nk_ta ja_okT t_l0 (by decide +kernel)
  refine nk_p (i := .aload_n 0) (len := 1) (pc' := 15) mJ_23 (by decide +kernel) (ns_aload_n 0 rfl rfl) rfl ?_
  refine nk_getI (y := (0, 0)) (x := 56) (len := 3) (ci := 0) (k := 0) (pc' := 18) ja_okT mJ_23 (by decide +kernel) (by decide +kernel) (by decide +kernel) t_l0 rfl ?_
  refine nk_p (i := .iload_n 2) (len := 1) (pc' := 19) mJ_23 (by decide +kernel) (ns_iload_n 2 rfl rfl) rfl ?_
  obtain ⟨h6, hr⟩ := nk_cke hr
  obtain ⟨S7, h8, hr⟩ := nk_lte hr
  refine nk_iast (len := 1) (N := 48) (pc' := 20) mJ_23 (by decide +kernel) t5 h6.1 h6.2 rfl rfl h8 ?_
  refine nk_p (i := .aload_n 0) (len := 1) (pc' := 21) mJ_23 (by decide +kernel) (ns_aload_n 0 rfl rfl) rfl ?_
  refine nk_getC (f := (4, 1, 48)) (x := 38) (len := 3) (ci := 0) (k := 9) (pc' := 24) ja_okT mJ_23 (by decide +kernel) (by decide +kernel) (by decide +kernel) (by decide) t_l0 rfl ?_
  have t9 : nk_ar ja_Tt (ja_c l0 9) = some (1, 48) := nk_ta ja_okT t_l0 (by decide +kernel)
  refine nk_p (i := .aload_n 0) (len := 1) (pc' := 25) mJ_23 (by decide +kernel) (ns_aload_n 0 rfl rfl) rfl ?_
  refine nk_getI (y := (0, 0)) (x := 56) (len := 3) (ci := 0) (k := 0) (pc' := 28) ja_okT mJ_23 (by decide +kernel) (by decide +kernel) (by decide +kernel) t_l0 rfl ?_
  refine nk_p (i := .iload_n 3) (len := 1) (pc' := 29) mJ_23 (by decide +kernel) (ns_iload_n 3 rfl rfl) rfl ?_
  obtain ⟨h10, hr⟩ := nk_cke hr
  obtain ⟨S11, h12, hr⟩ := nk_lte hr
  refine nk_iast (len := 1) (N := 48) (pc' := 30) mJ_23 (by decide +kernel) t9 h10.1 h10.2 rfl rfl h12 ?_
  cases hr
  exact nk_vret (len := 1) mJ_23 (by decide +kernel) rfl
/-! SafeCode$Bodies mainOf (I)I -/
noncomputable def ja_X0_mainOf_b2 (rec2 : Nat → Int → Int → nk_S → Option (Int × nk_S)) (l0 : Nat) (l1 : Int) (l2 : Int) (S : nk_S) : Option (Int × nk_S) :=
  if (S.1 l0 0) ≤ l2 then
    some ((-1), S)
  else
    if 0 ≤ l2 ∧ l2 < 48 then
    if (S.1 (ja_c l0 2) l2.toNat) = l1 then
      if (S.1 (ja_c l0 3) l2.toNat) = 69 then
        if (S.1 (ja_c l0 4) l2.toNat) = 0 then
          if (S.1 (ja_c l0 5) l2.toNat) = 0 then
            if (S.1 (ja_c l0 7) l2.toNat) = (-1) then
              some (l2, S)
            else
              some ((-1), S)
          else
            some ((-1), S)
        else
          some ((-1), S)
      else
        nk_lt (nk_w (l2 + 1)) fun v6 =>
        rec2 l0 l1 v6 S
    else
      nk_lt (nk_w (l2 + 1)) fun v3 =>
      rec2 l0 l1 v3 S
    else none
theorem ja_X0_mainOf_b2_ok (zs : List Int32) {rec2 : Nat → Int → Int → nk_S → Option (Int × nk_S)} (hrec2 : ∀ (l0 : Nat) (l1 : Int) (l2 : Int) (S : nk_S) (R : Int × nk_S), nk_cl ja_Tt l0 = some 0 → rec2 l0 l1 l2 S = some R → nk_K ja_Tt mi_Γ (mi_ev zs) 1 25 2 [(0, nk_r l0), (1, nk_i l1), (2, nk_i l2)] [] S R) : ∀ (l0 : Nat) (l1 : Int) (l2 : Int) (S : nk_S) (R : Int × nk_S), nk_cl ja_Tt l0 = some 0 → ja_X0_mainOf_b2 rec2 l0 l1 l2 S = some R → nk_K ja_Tt mi_Γ (mi_ev zs) 1 25 2 [(0, nk_r l0), (1, nk_i l1), (2, nk_i l2)] [] S R := by
  intro l0 l1 l2 S R t_l0 hr
  unfold ja_X0_mainOf_b2 at hr
  refine nk_p (i := .iload_n 2) (len := 1) (pc' := 3) mJ_25 (by decide +kernel) (ns_iload_n 2 rfl rfl) rfl ?_
  refine nk_p (i := .aload_n 0) (len := 1) (pc' := 4) mJ_25 (by decide +kernel) (ns_aload_n 0 rfl rfl) rfl ?_
  refine nk_getI (y := (0, 0)) (x := 56) (len := 3) (ci := 0) (k := 0) (pc' := 7) ja_okT mJ_25 (by decide +kernel) (by decide +kernel) (by decide +kernel) t_l0 rfl ?_
  refine nk_icmp (c := .ge) (off := 64) (len := 3) (t := 71) (pc' := 10) mJ_25 (by decide +kernel) (by decide +kernel) rfl (fun hc => ?_) (fun hc => ?_)
  · have hr := nk_ifp (c := (S.1 l0 0) ≤ l2) hc hr
    refine nk_p (i := .iconst (-1)) (len := 1) (pc' := 72) mJ_25 (by decide +kernel) (ns_iconst (c := (-1)) (by decide +kernel)) rfl ?_
    cases hr
    exact nk_iret (ty := .int) (len := 1) mJ_25 (by decide +kernel) rfl (nk_nar_i _)
  · have hr := nk_ifn (c := (S.1 l0 0) ≤ l2) hc hr
    refine nk_p (i := .aload_n 0) (len := 1) (pc' := 11) mJ_25 (by decide +kernel) (ns_aload_n 0 rfl rfl) rfl ?_
    refine nk_getC (f := (4, 1, 48)) (x := 15) (len := 3) (ci := 0) (k := 2) (pc' := 14) ja_okT mJ_25 (by decide +kernel) (by decide +kernel) (by decide +kernel) (by decide) t_l0 rfl ?_
    have t1 : nk_ar ja_Tt (ja_c l0 2) = some (1, 48) := nk_ta ja_okT t_l0 (by decide +kernel)
    refine nk_p (i := .iload_n 2) (len := 1) (pc' := 15) mJ_25 (by decide +kernel) (ns_iload_n 2 rfl rfl) rfl ?_
    obtain ⟨h2, hr⟩ := nk_cke hr
    refine nk_iald (len := 1) (N := 48) (pc' := 16) mJ_25 (by decide +kernel) t1 h2.1 h2.2 rfl rfl ?_
    refine nk_p (i := .iload_n 1) (len := 1) (pc' := 17) mJ_25 (by decide +kernel) (ns_iload_n 1 rfl rfl) rfl ?_
    refine nk_icmp (c := .ne) (off := 48) (len := 3) (t := 65) (pc' := 20) mJ_25 (by decide +kernel) (by decide +kernel) rfl (fun hc => ?_) (fun hc => ?_)
    · have hr := nk_ifn (c := (S.1 (ja_c l0 2) l2.toNat) = l1) hc hr
      obtain ⟨v3, h4, hr⟩ := nk_lte hr
      refine nk_p (i := .iinc 2 1) (len := 3) (pc' := 68) mJ_25 (by decide +kernel) (ns_iinc (c := 1) (L' := [(2, nk_i v3), (0, nk_r l0), (1, nk_i l1)]) 2 rfl (by decide +kernel) h4 rfl (by decide +kernel)) rfl ?_
      refine nk_p (i := .goto (-66)) (len := 3) (pc' := 2) mJ_25 (by decide +kernel) (ns_goto (by decide +kernel)) rfl ?_
      refine nk_sub [1, 2, 0] (L' := [(0, nk_r l0), (1, nk_i l1), (2, nk_i v3)]) rfl ?_
      exact hrec2 _ _ _ _ _ t_l0 hr
    · have hr := nk_ifp (c := (S.1 (ja_c l0 2) l2.toNat) = l1) (Decidable.of_not_not hc) hr
      refine nk_p (i := .aload_n 0) (len := 1) (pc' := 21) mJ_25 (by decide +kernel) (ns_aload_n 0 rfl rfl) rfl ?_
      refine nk_getC (f := (4, 1, 48)) (x := 19) (len := 3) (ci := 0) (k := 3) (pc' := 24) ja_okT mJ_25 (by decide +kernel) (by decide +kernel) (by decide +kernel) (by decide) t_l0 rfl ?_
      have t5 : nk_ar ja_Tt (ja_c l0 3) = some (1, 48) := nk_ta ja_okT t_l0 (by decide +kernel)
      refine nk_p (i := .iload_n 2) (len := 1) (pc' := 25) mJ_25 (by decide +kernel) (ns_iload_n 2 rfl rfl) rfl ?_
      refine nk_iald (len := 1) (N := 48) (pc' := 26) mJ_25 (by decide +kernel) t5 h2.1 h2.2 rfl rfl ?_
      refine nk_p (i := .bipush 69) (len := 2) (pc' := 28) mJ_25 (by decide +kernel) (ns_bipush (c := 69) (by decide +kernel)) rfl ?_
      refine nk_icmp (c := .ne) (off := 37) (len := 3) (t := 65) (pc' := 31) mJ_25 (by decide +kernel) (by decide +kernel) rfl (fun hc => ?_) (fun hc => ?_)
      · have hr := nk_ifn (c := (S.1 (ja_c l0 3) l2.toNat) = 69) hc hr
        obtain ⟨v6, h7, hr⟩ := nk_lte hr
        refine nk_p (i := .iinc 2 1) (len := 3) (pc' := 68) mJ_25 (by decide +kernel) (ns_iinc (c := 1) (L' := [(2, nk_i v6), (0, nk_r l0), (1, nk_i l1)]) 2 rfl (by decide +kernel) h7 rfl (by decide +kernel)) rfl ?_
        refine nk_p (i := .goto (-66)) (len := 3) (pc' := 2) mJ_25 (by decide +kernel) (ns_goto (by decide +kernel)) rfl ?_
        refine nk_sub [1, 2, 0] (L' := [(0, nk_r l0), (1, nk_i l1), (2, nk_i v6)]) rfl ?_
        exact hrec2 _ _ _ _ _ t_l0 hr
      · have hr := nk_ifp (c := (S.1 (ja_c l0 3) l2.toNat) = 69) (Decidable.of_not_not hc) hr
        refine nk_p (i := .aload_n 0) (len := 1) (pc' := 32) mJ_25 (by decide +kernel) (ns_aload_n 0 rfl rfl) rfl ?_
        refine nk_getC (f := (4, 3, 48)) (x := 22) (len := 3) (ci := 0) (k := 4) (pc' := 35) ja_okT mJ_25 (by decide +kernel) (by decide +kernel) (by decide +kernel) (by decide) t_l0 rfl ?_
        have t8 : nk_ar ja_Tt (ja_c l0 4) = some (3, 48) := nk_ta ja_okT t_l0 (by decide +kernel)
        refine nk_p (i := .iload_n 2) (len := 1) (pc' := 36) mJ_25 (by decide +kernel) (ns_iload_n 2 rfl rfl) rfl ?_
        refine nk_bald (t := 3) (len := 1) (N := 48) (pc' := 37) mJ_25 (by decide +kernel) t8 (by decide) h2.1 h2.2 rfl rfl ?_
        refine nk_icond (c := .ne) (off := 26) (len := 3) (t := 63) (pc' := 40) mJ_25 (by decide +kernel) (by decide +kernel) rfl (fun hc => ?_) (fun hc => ?_)
        · have hr := nk_ifn (c := (S.1 (ja_c l0 4) l2.toNat) = 0) hc hr
          refine nk_p (i := .iconst (-1)) (len := 1) (pc' := 64) mJ_25 (by decide +kernel) (ns_iconst (c := (-1)) (by decide +kernel)) rfl ?_
          cases hr
          exact nk_iret (ty := .int) (len := 1) mJ_25 (by decide +kernel) rfl (nk_nar_i _)
        · have hr := nk_ifp (c := (S.1 (ja_c l0 4) l2.toNat) = 0) (Decidable.of_not_not hc) hr
          refine nk_p (i := .aload_n 0) (len := 1) (pc' := 41) mJ_25 (by decide +kernel) (ns_aload_n 0 rfl rfl) rfl ?_
          refine nk_getC (f := (4, 1, 48)) (x := 26) (len := 3) (ci := 0) (k := 5) (pc' := 44) ja_okT mJ_25 (by decide +kernel) (by decide +kernel) (by decide +kernel) (by decide) t_l0 rfl ?_
          have t9 : nk_ar ja_Tt (ja_c l0 5) = some (1, 48) := nk_ta ja_okT t_l0 (by decide +kernel)
          refine nk_p (i := .iload_n 2) (len := 1) (pc' := 45) mJ_25 (by decide +kernel) (ns_iload_n 2 rfl rfl) rfl ?_
          refine nk_iald (len := 1) (N := 48) (pc' := 46) mJ_25 (by decide +kernel) t9 h2.1 h2.2 rfl rfl ?_
          refine nk_icond (c := .ne) (off := 17) (len := 3) (t := 63) (pc' := 49) mJ_25 (by decide +kernel) (by decide +kernel) rfl (fun hc => ?_) (fun hc => ?_)
          · have hr := nk_ifn (c := (S.1 (ja_c l0 5) l2.toNat) = 0) hc hr
            refine nk_p (i := .iconst (-1)) (len := 1) (pc' := 64) mJ_25 (by decide +kernel) (ns_iconst (c := (-1)) (by decide +kernel)) rfl ?_
            cases hr
            exact nk_iret (ty := .int) (len := 1) mJ_25 (by decide +kernel) rfl (nk_nar_i _)
          · have hr := nk_ifp (c := (S.1 (ja_c l0 5) l2.toNat) = 0) (Decidable.of_not_not hc) hr
            refine nk_p (i := .aload_n 0) (len := 1) (pc' := 50) mJ_25 (by decide +kernel) (ns_aload_n 0 rfl rfl) rfl ?_
            refine nk_getC (f := (4, 1, 48)) (x := 32) (len := 3) (ci := 0) (k := 7) (pc' := 53) ja_okT mJ_25 (by decide +kernel) (by decide +kernel) (by decide +kernel) (by decide) t_l0 rfl ?_
            have t10 : nk_ar ja_Tt (ja_c l0 7) = some (1, 48) := nk_ta ja_okT t_l0 (by decide +kernel)
            refine nk_p (i := .iload_n 2) (len := 1) (pc' := 54) mJ_25 (by decide +kernel) (ns_iload_n 2 rfl rfl) rfl ?_
            refine nk_iald (len := 1) (N := 48) (pc' := 55) mJ_25 (by decide +kernel) t10 h2.1 h2.2 rfl rfl ?_
            refine nk_p (i := .iconst (-1)) (len := 1) (pc' := 56) mJ_25 (by decide +kernel) (ns_iconst (c := (-1)) (by decide +kernel)) rfl ?_
            refine nk_icmp (c := .ne) (off := 7) (len := 3) (t := 63) (pc' := 59) mJ_25 (by decide +kernel) (by decide +kernel) rfl (fun hc => ?_) (fun hc => ?_)
            · have hr := nk_ifn (c := (S.1 (ja_c l0 7) l2.toNat) = (-1)) hc hr
              refine nk_p (i := .iconst (-1)) (len := 1) (pc' := 64) mJ_25 (by decide +kernel) (ns_iconst (c := (-1)) (by decide +kernel)) rfl ?_
              cases hr
              exact nk_iret (ty := .int) (len := 1) mJ_25 (by decide +kernel) rfl (nk_nar_i _)
            · have hr := nk_ifp (c := (S.1 (ja_c l0 7) l2.toNat) = (-1)) (Decidable.of_not_not hc) hr
              refine nk_p (i := .iload_n 2) (len := 1) (pc' := 60) mJ_25 (by decide +kernel) (ns_iload_n 2 rfl rfl) rfl ?_
              refine nk_p (i := .goto 4) (len := 3) (pc' := 64) mJ_25 (by decide +kernel) (ns_goto (by decide +kernel)) rfl ?_
              cases hr
              exact nk_iret (ty := .int) (len := 1) mJ_25 (by decide +kernel) rfl (nk_nar_i _)
noncomputable def ja_X0_mainOf_L2 : Nat → Nat → Int → Int → nk_S → Option (Int × nk_S)
  | 0, _, _, _, _ => none
  | n + 1, l0, l1, l2, S => ja_X0_mainOf_b2 (ja_X0_mainOf_L2 n) l0 l1 l2 S
theorem ja_X0_mainOf_L2_ok (zs : List Int32) : ∀ n : Nat, ∀ (l0 : Nat) (l1 : Int) (l2 : Int) (S : nk_S) (R : Int × nk_S), nk_cl ja_Tt l0 = some 0 → ja_X0_mainOf_L2 n l0 l1 l2 S = some R → nk_K ja_Tt mi_Γ (mi_ev zs) 1 25 2 [(0, nk_r l0), (1, nk_i l1), (2, nk_i l2)] [] S R := by
  intro n
  induction n with
  | zero => intro _ _ _ _ _ _ hr; cases hr
  | succ n ih => intro l0 l1 l2 S R t_l0 hr; exact ja_X0_mainOf_b2_ok zs ih l0 l1 l2 S R t_l0 hr
noncomputable def ja_X0_mainOf (l0 : Nat) (l1 : Int) (S : nk_S) : Option (Int × nk_S) :=
  ja_X0_mainOf_L2 nk_big l0 l1 0 S
theorem ja_X0_mainOf_ok (zs : List Int32) : ∀ (l0 : Nat) (l1 : Int) (S : nk_S) (R : Int × nk_S), nk_cl ja_Tt l0 = some 0 → ja_X0_mainOf l0 l1 S = some R → nk_K ja_Tt mi_Γ (mi_ev zs) 1 25 0 [(0, nk_r l0), (1, nk_i l1)] [] S R := by
  intro l0 l1 S R t_l0 hr
  unfold ja_X0_mainOf at hr
  refine nk_p (i := .iconst 0) (len := 1) (pc' := 1) mJ_25 (by decide +kernel) (ns_iconst (c := 0) (by decide +kernel)) rfl ?_
  refine nk_p (i := .istore_n 2) (len := 1) (pc' := 2) mJ_25 (by decide +kernel) (ns_istore_n (L' := [(2, nk_i 0), (0, nk_r l0), (1, nk_i l1)]) rfl rfl rfl (by decide +kernel)) rfl ?_
  refine nk_sub [1, 2, 0] (L' := [(0, nk_r l0), (1, nk_i l1), (2, nk_i 0)]) rfl ?_
  exact ja_X0_mainOf_L2_ok zs nk_big _ _ _ _ _ t_l0 hr
/-! SafeCode$Bodies parameter (II)I -/
noncomputable def ja_X0_parameter (l0 : Nat) (l1 : Int) (l2 : Int) (S : nk_S) : Option (Int × nk_S) :=
  if l2 < 0 then
    some ((-2), S)
  else
    if 12 ≤ l2 then
      some ((-2), S)
    else
      if 0 ≤ (nk_w ((nk_w (l1 * 12)) + l2)) ∧ (nk_w ((nk_w (l1 * 12)) + l2)) < 576 then
      some ((S.1 (ja_c l0 6) (nk_w ((nk_w (l1 * 12)) + l2)).toNat), S)
      else none
theorem ja_X0_parameter_ok (zs : List Int32) : ∀ (l0 : Nat) (l1 : Int) (l2 : Int) (S : nk_S) (R : Int × nk_S), nk_cl ja_Tt l0 = some 0 → ja_X0_parameter l0 l1 l2 S = some R → nk_K ja_Tt mi_Γ (mi_ev zs) 1 28 0 [(0, nk_r l0), (1, nk_i l1), (2, nk_i l2)] [] S R := by
  intro l0 l1 l2 S R t_l0 hr
  unfold ja_X0_parameter at hr
  refine nk_p (i := .iload_n 2) (len := 1) (pc' := 1) mJ_28 (by decide +kernel) (ns_iload_n 2 rfl rfl) rfl ?_
  refine nk_icond (c := .lt) (off := 23) (len := 3) (t := 24) (pc' := 4) mJ_28 (by decide +kernel) (by decide +kernel) rfl (fun hc => ?_) (fun hc => ?_)
  · have hr := nk_ifp (c := l2 < 0) hc hr
    refine nk_p (i := .bipush (-2)) (len := 2) (pc' := 26) mJ_28 (by decide +kernel) (ns_bipush (c := (-2)) (by decide +kernel)) rfl ?_
    cases hr
    exact nk_iret (ty := .int) (len := 1) mJ_28 (by decide +kernel) rfl (nk_nar_i _)
  · have hr := nk_ifn (c := l2 < 0) hc hr
    refine nk_p (i := .iload_n 2) (len := 1) (pc' := 5) mJ_28 (by decide +kernel) (ns_iload_n 2 rfl rfl) rfl ?_
    refine nk_p (i := .bipush 12) (len := 2) (pc' := 7) mJ_28 (by decide +kernel) (ns_bipush (c := 12) (by decide +kernel)) rfl ?_
    refine nk_icmp (c := .ge) (off := 17) (len := 3) (t := 24) (pc' := 10) mJ_28 (by decide +kernel) (by decide +kernel) rfl (fun hc => ?_) (fun hc => ?_)
    · have hr := nk_ifp (c := 12 ≤ l2) hc hr
      refine nk_p (i := .bipush (-2)) (len := 2) (pc' := 26) mJ_28 (by decide +kernel) (ns_bipush (c := (-2)) (by decide +kernel)) rfl ?_
      cases hr
      exact nk_iret (ty := .int) (len := 1) mJ_28 (by decide +kernel) rfl (nk_nar_i _)
    · have hr := nk_ifn (c := 12 ≤ l2) hc hr
      refine nk_p (i := .aload_n 0) (len := 1) (pc' := 11) mJ_28 (by decide +kernel) (ns_aload_n 0 rfl rfl) rfl ?_
      refine nk_getC (f := (4, 1, 576)) (x := 29) (len := 3) (ci := 0) (k := 6) (pc' := 14) ja_okT mJ_28 (by decide +kernel) (by decide +kernel) (by decide +kernel) (by decide) t_l0 rfl ?_
      have t1 : nk_ar ja_Tt (ja_c l0 6) = some (1, 576) := nk_ta ja_okT t_l0 (by decide +kernel)
      refine nk_p (i := .iload_n 1) (len := 1) (pc' := 15) mJ_28 (by decide +kernel) (ns_iload_n 1 rfl rfl) rfl ?_
      refine nk_p (i := .bipush 12) (len := 2) (pc' := 17) mJ_28 (by decide +kernel) (ns_bipush (c := 12) (by decide +kernel)) rfl ?_
      refine nk_p (i := .imul) (len := 1) (pc' := 18) mJ_28 (by decide +kernel) ns_imul rfl ?_
      refine nk_p (i := .iload_n 2) (len := 1) (pc' := 19) mJ_28 (by decide +kernel) (ns_iload_n 2 rfl rfl) rfl ?_
      refine nk_p (i := .iadd) (len := 1) (pc' := 20) mJ_28 (by decide +kernel) ns_iadd rfl ?_
      obtain ⟨h2, hr⟩ := nk_cke hr
      refine nk_iald (len := 1) (N := 576) (pc' := 21) mJ_28 (by decide +kernel) t1 h2.1 h2.2 rfl rfl ?_
      refine nk_p (i := .goto 5) (len := 3) (pc' := 26) mJ_28 (by decide +kernel) (ns_goto (by decide +kernel)) rfl ?_
      cases hr
      exact nk_iret (ty := .int) (len := 1) mJ_28 (by decide +kernel) rfl (nk_nar_i _)
/-! SafeCode$Bodies mayReplace (I)Z -/
noncomputable def ja_X0_mayReplace_b81 (rec81 : Nat → Int → Int → nk_S → Option (Int × nk_S)) (l0 : Nat) (l1 : Int) (l2 : Int) (S : nk_S) : Option (Int × nk_S) :=
  if 0 ≤ l1 ∧ l1 < 48 then
  if (S.1 (ja_c l0 5) l1.toNat) ≤ l2 then
    some (1, S)
  else
    nk_bd (ja_X0_parameter l0 l1 l2 S) fun r3 S4 =>
    nk_bd (ja_X0_parameter l0 (S4.1 l0 0) l2 S4) fun r6 S7 =>
    if r3 = r6 then
      nk_lt (nk_w (l2 + 1)) fun v9 =>
      rec81 l0 l1 v9 S7
    else
      some (0, S7)
  else none
theorem ja_X0_mayReplace_b81_ok (zs : List Int32) {rec81 : Nat → Int → Int → nk_S → Option (Int × nk_S)} (hrec81 : ∀ (l0 : Nat) (l1 : Int) (l2 : Int) (S : nk_S) (R : Int × nk_S), nk_cl ja_Tt l0 = some 0 → rec81 l0 l1 l2 S = some R → nk_K ja_Tt mi_Γ (mi_ev zs) 1 26 81 [(0, nk_r l0), (1, nk_i l1), (2, nk_i l2)] [] S R) : ∀ (l0 : Nat) (l1 : Int) (l2 : Int) (S : nk_S) (R : Int × nk_S), nk_cl ja_Tt l0 = some 0 → ja_X0_mayReplace_b81 rec81 l0 l1 l2 S = some R → nk_K ja_Tt mi_Γ (mi_ev zs) 1 26 81 [(0, nk_r l0), (1, nk_i l1), (2, nk_i l2)] [] S R := by
  intro l0 l1 l2 S R t_l0 hr
  unfold ja_X0_mayReplace_b81 at hr
  refine nk_p (i := .iload_n 2) (len := 1) (pc' := 82) mJ_26 (by decide +kernel) (ns_iload_n 2 rfl rfl) rfl ?_
  refine nk_p (i := .aload_n 0) (len := 1) (pc' := 83) mJ_26 (by decide +kernel) (ns_aload_n 0 rfl rfl) rfl ?_
  refine nk_getC (f := (4, 1, 48)) (x := 26) (len := 3) (ci := 0) (k := 5) (pc' := 86) ja_okT mJ_26 (by decide +kernel) (by decide +kernel) (by decide +kernel) (by decide) t_l0 rfl ?_
  have t1 : nk_ar ja_Tt (ja_c l0 5) = some (1, 48) := nk_ta ja_okT t_l0 (by decide +kernel)
  refine nk_p (i := .iload_n 1) (len := 1) (pc' := 87) mJ_26 (by decide +kernel) (ns_iload_n 1 rfl rfl) rfl ?_
  obtain ⟨h2, hr⟩ := nk_cke hr
  refine nk_iald (len := 1) (N := 48) (pc' := 88) mJ_26 (by decide +kernel) t1 h2.1 h2.2 rfl rfl ?_
  refine nk_icmp (c := .ge) (off := 29) (len := 3) (t := 117) (pc' := 91) mJ_26 (by decide +kernel) (by decide +kernel) rfl (fun hc => ?_) (fun hc => ?_)
  · have hr := nk_ifp (c := (S.1 (ja_c l0 5) l1.toNat) ≤ l2) hc hr
    refine nk_p (i := .iconst 1) (len := 1) (pc' := 118) mJ_26 (by decide +kernel) (ns_iconst (c := 1) (by decide +kernel)) rfl ?_
    cases hr
    exact nk_iret (ty := .boolean) (len := 1) mJ_26 (by decide +kernel) rfl (nk_nar_z (by decide))
  · have hr := nk_ifn (c := (S.1 (ja_c l0 5) l1.toNat) ≤ l2) hc hr
    refine nk_p (i := .aload_n 0) (len := 1) (pc' := 92) mJ_26 (by decide +kernel) (ns_aload_n 0 rfl rfl) rfl ?_
    refine nk_p (i := .iload_n 1) (len := 1) (pc' := 93) mJ_26 (by decide +kernel) (ns_iload_n 1 rfl rfl) rfl ?_
    refine nk_p (i := .iload_n 2) (len := 1) (pc' := 94) mJ_26 (by decide +kernel) (ns_iload_n 2 rfl rfl) rfl ?_
    obtain ⟨r3, S4, h5, hr⟩ := nk_bde hr
    refine nk_callV (ci := 0) (n := 2) (x := 63) (len := 3) (j' := 28) (q' := 1) (r := r3) (S' := S4) (L2 := [(0, nk_r l0), (1, nk_i l1), (2, nk_i l2)]) (rest := []) (st' := [nk_i r3]) (pc' := 97) mJ_26 (by decide +kernel) (by decide +kernel) rfl rfl t_l0 (Nat.le_of_ble_eq_true rfl) mJ_28 (Nat.le_of_ble_eq_true rfl) rfl (ja_X0_parameter_ok zs _ _ _ _ _ t_l0 h5) rfl ?_
    refine nk_p (i := .aload_n 0) (len := 1) (pc' := 98) mJ_26 (by decide +kernel) (ns_aload_n 0 rfl rfl) rfl ?_
    refine nk_p (i := .aload_n 0) (len := 1) (pc' := 99) mJ_26 (by decide +kernel) (ns_aload_n 0 rfl rfl) rfl ?_
    refine nk_getI (y := (0, 0)) (x := 56) (len := 3) (ci := 0) (k := 0) (pc' := 102) ja_okT mJ_26 (by decide +kernel) (by decide +kernel) (by decide +kernel) t_l0 rfl ?_
    refine nk_p (i := .iload_n 2) (len := 1) (pc' := 103) mJ_26 (by decide +kernel) (ns_iload_n 2 rfl rfl) rfl ?_
    obtain ⟨r6, S7, h8, hr⟩ := nk_bde hr
    refine nk_callV (ci := 0) (n := 2) (x := 63) (len := 3) (j' := 28) (q' := 1) (r := r6) (S' := S7) (L2 := [(0, nk_r l0), (1, nk_i (S4.1 l0 0)), (2, nk_i l2)]) (rest := [nk_i r3]) (st' := [nk_i r6, nk_i r3]) (pc' := 106) mJ_26 (by decide +kernel) (by decide +kernel) rfl rfl t_l0 (Nat.le_of_ble_eq_true rfl) mJ_28 (Nat.le_of_ble_eq_true rfl) rfl (ja_X0_parameter_ok zs _ _ _ _ _ t_l0 h8) rfl ?_
    refine nk_icmp (c := .eq) (off := 5) (len := 3) (t := 111) (pc' := 109) mJ_26 (by decide +kernel) (by decide +kernel) rfl (fun hc => ?_) (fun hc => ?_)
    · have hr := nk_ifp (c := r3 = r6) hc hr
      obtain ⟨v9, h10, hr⟩ := nk_lte hr
      refine nk_p (i := .iinc 2 1) (len := 3) (pc' := 114) mJ_26 (by decide +kernel) (ns_iinc (c := 1) (L' := [(2, nk_i v9), (0, nk_r l0), (1, nk_i l1)]) 2 rfl (by decide +kernel) h10 rfl (by decide +kernel)) rfl ?_
      refine nk_p (i := .goto (-33)) (len := 3) (pc' := 81) mJ_26 (by decide +kernel) (ns_goto (by decide +kernel)) rfl ?_
      refine nk_sub [1, 2, 0] (L' := [(0, nk_r l0), (1, nk_i l1), (2, nk_i v9)]) rfl ?_
      exact hrec81 _ _ _ _ _ t_l0 hr
    · have hr := nk_ifn (c := r3 = r6) hc hr
      refine nk_p (i := .iconst 0) (len := 1) (pc' := 110) mJ_26 (by decide +kernel) (ns_iconst (c := 0) (by decide +kernel)) rfl ?_
      cases hr
      exact nk_iret (ty := .boolean) (len := 1) mJ_26 (by decide +kernel) rfl (nk_nar_z (by decide))
noncomputable def ja_X0_mayReplace_L81 : Nat → Nat → Int → Int → nk_S → Option (Int × nk_S)
  | 0, _, _, _, _ => none
  | n + 1, l0, l1, l2, S => ja_X0_mayReplace_b81 (ja_X0_mayReplace_L81 n) l0 l1 l2 S
theorem ja_X0_mayReplace_L81_ok (zs : List Int32) : ∀ n : Nat, ∀ (l0 : Nat) (l1 : Int) (l2 : Int) (S : nk_S) (R : Int × nk_S), nk_cl ja_Tt l0 = some 0 → ja_X0_mayReplace_L81 n l0 l1 l2 S = some R → nk_K ja_Tt mi_Γ (mi_ev zs) 1 26 81 [(0, nk_r l0), (1, nk_i l1), (2, nk_i l2)] [] S R := by
  intro n
  induction n with
  | zero => intro _ _ _ _ _ _ hr; cases hr
  | succ n ih => intro l0 l1 l2 S R t_l0 hr; exact ja_X0_mayReplace_b81_ok zs ih l0 l1 l2 S R t_l0 hr
noncomputable def ja_X0_mayReplace (l0 : Nat) (l1 : Int) (S : nk_S) : Option (Int × nk_S) :=
  if 0 ≤ l1 ∧ l1 < 48 then
  if 0 ≤ (S.1 l0 0) ∧ (S.1 l0 0) < 48 then
  if (S.1 (ja_c l0 2) l1.toNat) = (S.1 (ja_c l0 2) (S.1 l0 0).toNat) then
    some (0, S)
  else
    if (S.1 (ja_c l0 4) l1.toNat) = 0 then
      some (0, S)
    else
      if (S.1 (ja_c l0 4) (S.1 l0 0).toNat) = 0 then
        some (0, S)
      else
        if (S.1 (ja_c l0 5) l1.toNat) = (S.1 (ja_c l0 5) (S.1 l0 0).toNat) then
          if (S.1 (ja_c l0 7) l1.toNat) = (S.1 (ja_c l0 7) (S.1 l0 0).toNat) then
            ja_X0_mayReplace_L81 nk_big l0 l1 1 S
          else
            some (0, S)
        else
          some (0, S)
  else none
  else none
theorem ja_X0_mayReplace_ok (zs : List Int32) : ∀ (l0 : Nat) (l1 : Int) (S : nk_S) (R : Int × nk_S), nk_cl ja_Tt l0 = some 0 → ja_X0_mayReplace l0 l1 S = some R → nk_K ja_Tt mi_Γ (mi_ev zs) 1 26 0 [(0, nk_r l0), (1, nk_i l1)] [] S R := by
  intro l0 l1 S R t_l0 hr
  unfold ja_X0_mayReplace at hr
  refine nk_p (i := .aload_n 0) (len := 1) (pc' := 1) mJ_26 (by decide +kernel) (ns_aload_n 0 rfl rfl) rfl ?_
  refine nk_getC (f := (4, 1, 48)) (x := 15) (len := 3) (ci := 0) (k := 2) (pc' := 4) ja_okT mJ_26 (by decide +kernel) (by decide +kernel) (by decide +kernel) (by decide) t_l0 rfl ?_
  have t1 : nk_ar ja_Tt (ja_c l0 2) = some (1, 48) := nk_ta ja_okT t_l0 (by decide +kernel)
  refine nk_p (i := .iload_n 1) (len := 1) (pc' := 5) mJ_26 (by decide +kernel) (ns_iload_n 1 rfl rfl) rfl ?_
  obtain ⟨h2, hr⟩ := nk_cke hr
  refine nk_iald (len := 1) (N := 48) (pc' := 6) mJ_26 (by decide +kernel) t1 h2.1 h2.2 rfl rfl ?_
  refine nk_p (i := .aload_n 0) (len := 1) (pc' := 7) mJ_26 (by decide +kernel) (ns_aload_n 0 rfl rfl) rfl ?_
  refine nk_getC (f := (4, 1, 48)) (x := 15) (len := 3) (ci := 0) (k := 2) (pc' := 10) ja_okT mJ_26 (by decide +kernel) (by decide +kernel) (by decide +kernel) (by decide) t_l0 rfl ?_
  refine nk_p (i := .aload_n 0) (len := 1) (pc' := 11) mJ_26 (by decide +kernel) (ns_aload_n 0 rfl rfl) rfl ?_
  refine nk_getI (y := (0, 0)) (x := 56) (len := 3) (ci := 0) (k := 0) (pc' := 14) ja_okT mJ_26 (by decide +kernel) (by decide +kernel) (by decide +kernel) t_l0 rfl ?_
  obtain ⟨h3, hr⟩ := nk_cke hr
  refine nk_iald (len := 1) (N := 48) (pc' := 15) mJ_26 (by decide +kernel) t1 h3.1 h3.2 rfl rfl ?_
  refine nk_icmp (c := .eq) (off := 24) (len := 3) (t := 39) (pc' := 18) mJ_26 (by decide +kernel) (by decide +kernel) rfl (fun hc => ?_) (fun hc => ?_)
  · have hr := nk_ifp (c := (S.1 (ja_c l0 2) l1.toNat) = (S.1 (ja_c l0 2) (S.1 l0 0).toNat)) hc hr
    refine nk_p (i := .iconst 0) (len := 1) (pc' := 40) mJ_26 (by decide +kernel) (ns_iconst (c := 0) (by decide +kernel)) rfl ?_
    cases hr
    exact nk_iret (ty := .boolean) (len := 1) mJ_26 (by decide +kernel) rfl (nk_nar_z (by decide))
  · have hr := nk_ifn (c := (S.1 (ja_c l0 2) l1.toNat) = (S.1 (ja_c l0 2) (S.1 l0 0).toNat)) hc hr
    refine nk_p (i := .aload_n 0) (len := 1) (pc' := 19) mJ_26 (by decide +kernel) (ns_aload_n 0 rfl rfl) rfl ?_
    refine nk_getC (f := (4, 3, 48)) (x := 22) (len := 3) (ci := 0) (k := 4) (pc' := 22) ja_okT mJ_26 (by decide +kernel) (by decide +kernel) (by decide +kernel) (by decide) t_l0 rfl ?_
    have t4 : nk_ar ja_Tt (ja_c l0 4) = some (3, 48) := nk_ta ja_okT t_l0 (by decide +kernel)
    refine nk_p (i := .iload_n 1) (len := 1) (pc' := 23) mJ_26 (by decide +kernel) (ns_iload_n 1 rfl rfl) rfl ?_
    refine nk_bald (t := 3) (len := 1) (N := 48) (pc' := 24) mJ_26 (by decide +kernel) t4 (by decide) h2.1 h2.2 rfl rfl ?_
    refine nk_icond (c := .eq) (off := 15) (len := 3) (t := 39) (pc' := 27) mJ_26 (by decide +kernel) (by decide +kernel) rfl (fun hc => ?_) (fun hc => ?_)
    · have hr := nk_ifp (c := (S.1 (ja_c l0 4) l1.toNat) = 0) hc hr
      refine nk_p (i := .iconst 0) (len := 1) (pc' := 40) mJ_26 (by decide +kernel) (ns_iconst (c := 0) (by decide +kernel)) rfl ?_
      cases hr
      exact nk_iret (ty := .boolean) (len := 1) mJ_26 (by decide +kernel) rfl (nk_nar_z (by decide))
    · have hr := nk_ifn (c := (S.1 (ja_c l0 4) l1.toNat) = 0) hc hr
      refine nk_p (i := .aload_n 0) (len := 1) (pc' := 28) mJ_26 (by decide +kernel) (ns_aload_n 0 rfl rfl) rfl ?_
      refine nk_getC (f := (4, 3, 48)) (x := 22) (len := 3) (ci := 0) (k := 4) (pc' := 31) ja_okT mJ_26 (by decide +kernel) (by decide +kernel) (by decide +kernel) (by decide) t_l0 rfl ?_
      refine nk_p (i := .aload_n 0) (len := 1) (pc' := 32) mJ_26 (by decide +kernel) (ns_aload_n 0 rfl rfl) rfl ?_
      refine nk_getI (y := (0, 0)) (x := 56) (len := 3) (ci := 0) (k := 0) (pc' := 35) ja_okT mJ_26 (by decide +kernel) (by decide +kernel) (by decide +kernel) t_l0 rfl ?_
      refine nk_bald (t := 3) (len := 1) (N := 48) (pc' := 36) mJ_26 (by decide +kernel) t4 (by decide) h3.1 h3.2 rfl rfl ?_
      refine nk_icond (c := .ne) (off := 5) (len := 3) (t := 41) (pc' := 39) mJ_26 (by decide +kernel) (by decide +kernel) rfl (fun hc => ?_) (fun hc => ?_)
      · have hr := nk_ifn (c := (S.1 (ja_c l0 4) (S.1 l0 0).toNat) = 0) hc hr
        refine nk_p (i := .aload_n 0) (len := 1) (pc' := 42) mJ_26 (by decide +kernel) (ns_aload_n 0 rfl rfl) rfl ?_
        refine nk_getC (f := (4, 1, 48)) (x := 26) (len := 3) (ci := 0) (k := 5) (pc' := 45) ja_okT mJ_26 (by decide +kernel) (by decide +kernel) (by decide +kernel) (by decide) t_l0 rfl ?_
        have t5 : nk_ar ja_Tt (ja_c l0 5) = some (1, 48) := nk_ta ja_okT t_l0 (by decide +kernel)
        refine nk_p (i := .iload_n 1) (len := 1) (pc' := 46) mJ_26 (by decide +kernel) (ns_iload_n 1 rfl rfl) rfl ?_
        refine nk_iald (len := 1) (N := 48) (pc' := 47) mJ_26 (by decide +kernel) t5 h2.1 h2.2 rfl rfl ?_
        refine nk_p (i := .aload_n 0) (len := 1) (pc' := 48) mJ_26 (by decide +kernel) (ns_aload_n 0 rfl rfl) rfl ?_
        refine nk_getC (f := (4, 1, 48)) (x := 26) (len := 3) (ci := 0) (k := 5) (pc' := 51) ja_okT mJ_26 (by decide +kernel) (by decide +kernel) (by decide +kernel) (by decide) t_l0 rfl ?_
        refine nk_p (i := .aload_n 0) (len := 1) (pc' := 52) mJ_26 (by decide +kernel) (ns_aload_n 0 rfl rfl) rfl ?_
        refine nk_getI (y := (0, 0)) (x := 56) (len := 3) (ci := 0) (k := 0) (pc' := 55) ja_okT mJ_26 (by decide +kernel) (by decide +kernel) (by decide +kernel) t_l0 rfl ?_
        refine nk_iald (len := 1) (N := 48) (pc' := 56) mJ_26 (by decide +kernel) t5 h3.1 h3.2 rfl rfl ?_
        refine nk_icmp (c := .ne) (off := 21) (len := 3) (t := 77) (pc' := 59) mJ_26 (by decide +kernel) (by decide +kernel) rfl (fun hc => ?_) (fun hc => ?_)
        · have hr := nk_ifn (c := (S.1 (ja_c l0 5) l1.toNat) = (S.1 (ja_c l0 5) (S.1 l0 0).toNat)) hc hr
          refine nk_p (i := .iconst 0) (len := 1) (pc' := 78) mJ_26 (by decide +kernel) (ns_iconst (c := 0) (by decide +kernel)) rfl ?_
          cases hr
          exact nk_iret (ty := .boolean) (len := 1) mJ_26 (by decide +kernel) rfl (nk_nar_z (by decide))
        · have hr := nk_ifp (c := (S.1 (ja_c l0 5) l1.toNat) = (S.1 (ja_c l0 5) (S.1 l0 0).toNat)) (Decidable.of_not_not hc) hr
          refine nk_p (i := .aload_n 0) (len := 1) (pc' := 60) mJ_26 (by decide +kernel) (ns_aload_n 0 rfl rfl) rfl ?_
          refine nk_getC (f := (4, 1, 48)) (x := 32) (len := 3) (ci := 0) (k := 7) (pc' := 63) ja_okT mJ_26 (by decide +kernel) (by decide +kernel) (by decide +kernel) (by decide) t_l0 rfl ?_
          have t6 : nk_ar ja_Tt (ja_c l0 7) = some (1, 48) := nk_ta ja_okT t_l0 (by decide +kernel)
          refine nk_p (i := .iload_n 1) (len := 1) (pc' := 64) mJ_26 (by decide +kernel) (ns_iload_n 1 rfl rfl) rfl ?_
          refine nk_iald (len := 1) (N := 48) (pc' := 65) mJ_26 (by decide +kernel) t6 h2.1 h2.2 rfl rfl ?_
          refine nk_p (i := .aload_n 0) (len := 1) (pc' := 66) mJ_26 (by decide +kernel) (ns_aload_n 0 rfl rfl) rfl ?_
          refine nk_getC (f := (4, 1, 48)) (x := 32) (len := 3) (ci := 0) (k := 7) (pc' := 69) ja_okT mJ_26 (by decide +kernel) (by decide +kernel) (by decide +kernel) (by decide) t_l0 rfl ?_
          refine nk_p (i := .aload_n 0) (len := 1) (pc' := 70) mJ_26 (by decide +kernel) (ns_aload_n 0 rfl rfl) rfl ?_
          refine nk_getI (y := (0, 0)) (x := 56) (len := 3) (ci := 0) (k := 0) (pc' := 73) ja_okT mJ_26 (by decide +kernel) (by decide +kernel) (by decide +kernel) t_l0 rfl ?_
          refine nk_iald (len := 1) (N := 48) (pc' := 74) mJ_26 (by decide +kernel) t6 h3.1 h3.2 rfl rfl ?_
          refine nk_icmp (c := .eq) (off := 5) (len := 3) (t := 79) (pc' := 77) mJ_26 (by decide +kernel) (by decide +kernel) rfl (fun hc => ?_) (fun hc => ?_)
          · have hr := nk_ifp (c := (S.1 (ja_c l0 7) l1.toNat) = (S.1 (ja_c l0 7) (S.1 l0 0).toNat)) hc hr
            refine nk_p (i := .iconst 1) (len := 1) (pc' := 80) mJ_26 (by decide +kernel) (ns_iconst (c := 1) (by decide +kernel)) rfl ?_
            refine nk_p (i := .istore_n 2) (len := 1) (pc' := 81) mJ_26 (by decide +kernel) (ns_istore_n (L' := [(2, nk_i 1), (0, nk_r l0), (1, nk_i l1)]) rfl rfl rfl (by decide +kernel)) rfl ?_
            refine nk_sub [1, 2, 0] (L' := [(0, nk_r l0), (1, nk_i l1), (2, nk_i 1)]) rfl ?_
            exact ja_X0_mayReplace_L81_ok zs nk_big _ _ _ _ _ t_l0 hr
          · have hr := nk_ifn (c := (S.1 (ja_c l0 7) l1.toNat) = (S.1 (ja_c l0 7) (S.1 l0 0).toNat)) hc hr
            refine nk_p (i := .iconst 0) (len := 1) (pc' := 78) mJ_26 (by decide +kernel) (ns_iconst (c := 0) (by decide +kernel)) rfl ?_
            cases hr
            exact nk_iret (ty := .boolean) (len := 1) mJ_26 (by decide +kernel) rfl (nk_nar_z (by decide))
      · have hr := nk_ifp (c := (S.1 (ja_c l0 4) (S.1 l0 0).toNat) = 0) (Decidable.of_not_not hc) hr
        refine nk_p (i := .iconst 0) (len := 1) (pc' := 40) mJ_26 (by decide +kernel) (ns_iconst (c := 0) (by decide +kernel)) rfl ?_
        cases hr
        exact nk_iret (ty := .boolean) (len := 1) mJ_26 (by decide +kernel) rfl (nk_nar_z (by decide))
/-! SafeCode$Bodies nearest (LSafeCode$Classes;II)I -/
noncomputable def ja_X0_nearest_b6 (rec6 : Nat → Nat → Int → Int → Int → Int → nk_S → Option (Int × nk_S)) (l0 : Nat) (l1 : Nat) (l2 : Int) (l3 : Int) (l4 : Int) (l5 : Int) (S : nk_S) : Option (Int × nk_S) :=
  if (S.1 l0 0) ≤ l5 then
    some (l4, S)
  else
    if 0 ≤ l5 ∧ l5 < 48 then
    if (S.1 (ja_c l0 3) l5.toNat) = l3 then
      nk_bd (ja_X1_isAbove l1 (S.1 (ja_c l0 2) l5.toNat) l2 S) fun r6 S7 =>
      if r6 = 0 then
        nk_lt (nk_w (l5 + 1)) fun v9 =>
        rec6 l0 l1 l2 l3 l4 v9 S7
      else
        nk_lt (nk_w (l5 + 1)) fun v11 =>
        rec6 l0 l1 l2 l3 l5 v11 S7
    else
      nk_lt (nk_w (l5 + 1)) fun v3 =>
      rec6 l0 l1 l2 l3 l4 v3 S
    else none
theorem ja_X0_nearest_b6_ok (zs : List Int32) {rec6 : Nat → Nat → Int → Int → Int → Int → nk_S → Option (Int × nk_S)} (hrec6 : ∀ (l0 : Nat) (l1 : Nat) (l2 : Int) (l3 : Int) (l4 : Int) (l5 : Int) (S : nk_S) (R : Int × nk_S), nk_cl ja_Tt l0 = some 0 → nk_cl ja_Tt l1 = some 1 → rec6 l0 l1 l2 l3 l4 l5 S = some R → nk_K ja_Tt mi_Γ (mi_ev zs) 1 27 6 [(0, nk_r l0), (1, nk_r l1), (2, nk_i l2), (3, nk_i l3), (4, nk_i l4), (5, nk_i l5)] [] S R) : ∀ (l0 : Nat) (l1 : Nat) (l2 : Int) (l3 : Int) (l4 : Int) (l5 : Int) (S : nk_S) (R : Int × nk_S), nk_cl ja_Tt l0 = some 0 → nk_cl ja_Tt l1 = some 1 → ja_X0_nearest_b6 rec6 l0 l1 l2 l3 l4 l5 S = some R → nk_K ja_Tt mi_Γ (mi_ev zs) 1 27 6 [(0, nk_r l0), (1, nk_r l1), (2, nk_i l2), (3, nk_i l3), (4, nk_i l4), (5, nk_i l5)] [] S R := by
  intro l0 l1 l2 l3 l4 l5 S R t_l0 t_l1 hr
  unfold ja_X0_nearest_b6 at hr
  refine nk_p (i := .iload 5) (len := 2) (pc' := 8) mJ_27 (by decide +kernel) (ns_iload 5 rfl) rfl ?_
  refine nk_p (i := .aload_n 0) (len := 1) (pc' := 9) mJ_27 (by decide +kernel) (ns_aload_n 0 rfl rfl) rfl ?_
  refine nk_getI (y := (0, 0)) (x := 56) (len := 3) (ci := 0) (k := 0) (pc' := 12) ja_okT mJ_27 (by decide +kernel) (by decide +kernel) (by decide +kernel) t_l0 rfl ?_
  refine nk_icmp (c := .ge) (off := 39) (len := 3) (t := 51) (pc' := 15) mJ_27 (by decide +kernel) (by decide +kernel) rfl (fun hc => ?_) (fun hc => ?_)
  · have hr := nk_ifp (c := (S.1 l0 0) ≤ l5) hc hr
    refine nk_p (i := .iload 4) (len := 2) (pc' := 53) mJ_27 (by decide +kernel) (ns_iload 4 rfl) rfl ?_
    cases hr
    exact nk_iret (ty := .int) (len := 1) mJ_27 (by decide +kernel) rfl (nk_nar_i _)
  · have hr := nk_ifn (c := (S.1 l0 0) ≤ l5) hc hr
    refine nk_p (i := .aload_n 0) (len := 1) (pc' := 16) mJ_27 (by decide +kernel) (ns_aload_n 0 rfl rfl) rfl ?_
    refine nk_getC (f := (4, 1, 48)) (x := 19) (len := 3) (ci := 0) (k := 3) (pc' := 19) ja_okT mJ_27 (by decide +kernel) (by decide +kernel) (by decide +kernel) (by decide) t_l0 rfl ?_
    have t1 : nk_ar ja_Tt (ja_c l0 3) = some (1, 48) := nk_ta ja_okT t_l0 (by decide +kernel)
    refine nk_p (i := .iload 5) (len := 2) (pc' := 21) mJ_27 (by decide +kernel) (ns_iload 5 rfl) rfl ?_
    obtain ⟨h2, hr⟩ := nk_cke hr
    refine nk_iald (len := 1) (N := 48) (pc' := 22) mJ_27 (by decide +kernel) t1 h2.1 h2.2 rfl rfl ?_
    refine nk_p (i := .iload_n 3) (len := 1) (pc' := 23) mJ_27 (by decide +kernel) (ns_iload_n 3 rfl rfl) rfl ?_
    refine nk_icmp (c := .ne) (off := 22) (len := 3) (t := 45) (pc' := 26) mJ_27 (by decide +kernel) (by decide +kernel) rfl (fun hc => ?_) (fun hc => ?_)
    · have hr := nk_ifn (c := (S.1 (ja_c l0 3) l5.toNat) = l3) hc hr
      obtain ⟨v3, h4, hr⟩ := nk_lte hr
      refine nk_p (i := .iinc 5 1) (len := 3) (pc' := 48) mJ_27 (by decide +kernel) (ns_iinc (c := 1) (L' := [(5, nk_i v3), (0, nk_r l0), (1, nk_r l1), (2, nk_i l2), (3, nk_i l3), (4, nk_i l4)]) 5 rfl (by decide +kernel) h4 rfl (by decide +kernel)) rfl ?_
      refine nk_p (i := .goto (-42)) (len := 3) (pc' := 6) mJ_27 (by decide +kernel) (ns_goto (by decide +kernel)) rfl ?_
      refine nk_sub [1, 2, 3, 4, 5, 0] (L' := [(0, nk_r l0), (1, nk_r l1), (2, nk_i l2), (3, nk_i l3), (4, nk_i l4), (5, nk_i v3)]) rfl ?_
      exact hrec6 _ _ _ _ _ _ _ _ t_l0 t_l1 hr
    · have hr := nk_ifp (c := (S.1 (ja_c l0 3) l5.toNat) = l3) (Decidable.of_not_not hc) hr
      refine nk_p (i := .aload_n 1) (len := 1) (pc' := 27) mJ_27 (by decide +kernel) (ns_aload_n 1 rfl rfl) rfl ?_
      refine nk_p (i := .aload_n 0) (len := 1) (pc' := 28) mJ_27 (by decide +kernel) (ns_aload_n 0 rfl rfl) rfl ?_
      refine nk_getC (f := (4, 1, 48)) (x := 15) (len := 3) (ci := 0) (k := 2) (pc' := 31) ja_okT mJ_27 (by decide +kernel) (by decide +kernel) (by decide +kernel) (by decide) t_l0 rfl ?_
      have t5 : nk_ar ja_Tt (ja_c l0 2) = some (1, 48) := nk_ta ja_okT t_l0 (by decide +kernel)
      refine nk_p (i := .iload 5) (len := 2) (pc' := 33) mJ_27 (by decide +kernel) (ns_iload 5 rfl) rfl ?_
      refine nk_iald (len := 1) (N := 48) (pc' := 34) mJ_27 (by decide +kernel) t5 h2.1 h2.2 rfl rfl ?_
      refine nk_p (i := .iload_n 2) (len := 1) (pc' := 35) mJ_27 (by decide +kernel) (ns_iload_n 2 rfl rfl) rfl ?_
      obtain ⟨r6, S7, h8, hr⟩ := nk_bde hr
      refine nk_callV (ci := 1) (n := 2) (x := 67) (len := 3) (j' := 254) (q' := 1) (r := r6) (S' := S7) (L2 := [(0, nk_r l1), (1, nk_i (S.1 (ja_c l0 2) l5.toNat)), (2, nk_i l2)]) (rest := []) (st' := [nk_i r6]) (pc' := 38) mJ_27 (by decide +kernel) (by decide +kernel) rfl rfl t_l1 (Nat.le_of_ble_eq_true rfl) mJ_254 (Nat.le_of_ble_eq_true rfl) rfl (ja_X1_isAbove_ok zs _ _ _ _ _ t_l1 h8) rfl ?_
      refine nk_icond (c := .eq) (off := 7) (len := 3) (t := 45) (pc' := 41) mJ_27 (by decide +kernel) (by decide +kernel) rfl (fun hc => ?_) (fun hc => ?_)
      · have hr := nk_ifp (c := r6 = 0) hc hr
        obtain ⟨v9, h10, hr⟩ := nk_lte hr
        refine nk_p (i := .iinc 5 1) (len := 3) (pc' := 48) mJ_27 (by decide +kernel) (ns_iinc (c := 1) (L' := [(5, nk_i v9), (0, nk_r l0), (1, nk_r l1), (2, nk_i l2), (3, nk_i l3), (4, nk_i l4)]) 5 rfl (by decide +kernel) h10 rfl (by decide +kernel)) rfl ?_
        refine nk_p (i := .goto (-42)) (len := 3) (pc' := 6) mJ_27 (by decide +kernel) (ns_goto (by decide +kernel)) rfl ?_
        refine nk_sub [1, 2, 3, 4, 5, 0] (L' := [(0, nk_r l0), (1, nk_r l1), (2, nk_i l2), (3, nk_i l3), (4, nk_i l4), (5, nk_i v9)]) rfl ?_
        exact hrec6 _ _ _ _ _ _ _ _ t_l0 t_l1 hr
      · have hr := nk_ifn (c := r6 = 0) hc hr
        refine nk_p (i := .iload 5) (len := 2) (pc' := 43) mJ_27 (by decide +kernel) (ns_iload 5 rfl) rfl ?_
        refine nk_p (i := .istore 4) (len := 2) (pc' := 45) mJ_27 (by decide +kernel) (ns_istore (L' := [(4, nk_i l5), (0, nk_r l0), (1, nk_r l1), (2, nk_i l2), (3, nk_i l3), (5, nk_i l5)]) rfl rfl (by decide +kernel)) rfl ?_
        obtain ⟨v11, h12, hr⟩ := nk_lte hr
        refine nk_p (i := .iinc 5 1) (len := 3) (pc' := 48) mJ_27 (by decide +kernel) (ns_iinc (c := 1) (L' := [(5, nk_i v11), (4, nk_i l5), (0, nk_r l0), (1, nk_r l1), (2, nk_i l2), (3, nk_i l3)]) 5 rfl (by decide +kernel) h12 rfl (by decide +kernel)) rfl ?_
        refine nk_p (i := .goto (-42)) (len := 3) (pc' := 6) mJ_27 (by decide +kernel) (ns_goto (by decide +kernel)) rfl ?_
        refine nk_sub [2, 3, 4, 5, 1, 0] (L' := [(0, nk_r l0), (1, nk_r l1), (2, nk_i l2), (3, nk_i l3), (4, nk_i l5), (5, nk_i v11)]) rfl ?_
        exact hrec6 _ _ _ _ _ _ _ _ t_l0 t_l1 hr
noncomputable def ja_X0_nearest_L6 : Nat → Nat → Nat → Int → Int → Int → Int → nk_S → Option (Int × nk_S)
  | 0, _, _, _, _, _, _, _ => none
  | n + 1, l0, l1, l2, l3, l4, l5, S => ja_X0_nearest_b6 (ja_X0_nearest_L6 n) l0 l1 l2 l3 l4 l5 S
theorem ja_X0_nearest_L6_ok (zs : List Int32) : ∀ n : Nat, ∀ (l0 : Nat) (l1 : Nat) (l2 : Int) (l3 : Int) (l4 : Int) (l5 : Int) (S : nk_S) (R : Int × nk_S), nk_cl ja_Tt l0 = some 0 → nk_cl ja_Tt l1 = some 1 → ja_X0_nearest_L6 n l0 l1 l2 l3 l4 l5 S = some R → nk_K ja_Tt mi_Γ (mi_ev zs) 1 27 6 [(0, nk_r l0), (1, nk_r l1), (2, nk_i l2), (3, nk_i l3), (4, nk_i l4), (5, nk_i l5)] [] S R := by
  intro n
  induction n with
  | zero => intro _ _ _ _ _ _ _ _ _ _ hr; cases hr
  | succ n ih => intro l0 l1 l2 l3 l4 l5 S R t_l0 t_l1 hr; exact ja_X0_nearest_b6_ok zs ih l0 l1 l2 l3 l4 l5 S R t_l0 t_l1 hr
noncomputable def ja_X0_nearest (l0 : Nat) (l1 : Nat) (l2 : Int) (l3 : Int) (S : nk_S) : Option (Int × nk_S) :=
  ja_X0_nearest_L6 nk_big l0 l1 l2 l3 (-1) 0 S
theorem ja_X0_nearest_ok (zs : List Int32) : ∀ (l0 : Nat) (l1 : Nat) (l2 : Int) (l3 : Int) (S : nk_S) (R : Int × nk_S), nk_cl ja_Tt l0 = some 0 → nk_cl ja_Tt l1 = some 1 → ja_X0_nearest l0 l1 l2 l3 S = some R → nk_K ja_Tt mi_Γ (mi_ev zs) 1 27 0 [(0, nk_r l0), (1, nk_r l1), (2, nk_i l2), (3, nk_i l3)] [] S R := by
  intro l0 l1 l2 l3 S R t_l0 t_l1 hr
  unfold ja_X0_nearest at hr
  refine nk_p (i := .iconst (-1)) (len := 1) (pc' := 1) mJ_27 (by decide +kernel) (ns_iconst (c := (-1)) (by decide +kernel)) rfl ?_
  refine nk_p (i := .istore 4) (len := 2) (pc' := 3) mJ_27 (by decide +kernel) (ns_istore (L' := [(4, nk_i (-1)), (0, nk_r l0), (1, nk_r l1), (2, nk_i l2), (3, nk_i l3)]) rfl rfl (by decide +kernel)) rfl ?_
  refine nk_p (i := .iconst 0) (len := 1) (pc' := 4) mJ_27 (by decide +kernel) (ns_iconst (c := 0) (by decide +kernel)) rfl ?_
  refine nk_p (i := .istore 5) (len := 2) (pc' := 6) mJ_27 (by decide +kernel) (ns_istore (L' := [(5, nk_i 0), (4, nk_i (-1)), (0, nk_r l0), (1, nk_r l1), (2, nk_i l2), (3, nk_i l3)]) rfl rfl (by decide +kernel)) rfl ?_
  refine nk_sub [2, 3, 4, 5, 1, 0] (L' := [(0, nk_r l0), (1, nk_r l1), (2, nk_i l2), (3, nk_i l3), (4, nk_i (-1)), (5, nk_i 0)]) rfl ?_
  exact ja_X0_nearest_L6_ok zs nk_big _ _ _ _ _ _ _ _ t_l0 t_l1 hr
/-! SafeCode$Bodies running (II)I -/
noncomputable def ja_X0_running (l0 : Nat) (l1 : Int) (l2 : Int) (S : nk_S) : Option (Int × nk_S) :=
  if l1 < 0 then
    some ((-1), S)
  else
    if 32 ≤ l1 then
      some ((-1), S)
    else
      if 0 ≤ (nk_w ((nk_w (l1 * 48)) + l2)) ∧ (nk_w ((nk_w (l1 * 48)) + l2)) < 1536 then
      some ((S.1 (ja_c l0 14) (nk_w ((nk_w (l1 * 48)) + l2)).toNat), S)
      else none
theorem ja_X0_running_ok (zs : List Int32) : ∀ (l0 : Nat) (l1 : Int) (l2 : Int) (S : nk_S) (R : Int × nk_S), nk_cl ja_Tt l0 = some 0 → ja_X0_running l0 l1 l2 S = some R → nk_K ja_Tt mi_Γ (mi_ev zs) 1 30 0 [(0, nk_r l0), (1, nk_i l1), (2, nk_i l2)] [] S R := by
  intro l0 l1 l2 S R t_l0 hr
  unfold ja_X0_running at hr
  refine nk_p (i := .iload_n 1) (len := 1) (pc' := 1) mJ_30 (by decide +kernel) (ns_iload_n 1 rfl rfl) rfl ?_
  refine nk_icond (c := .lt) (off := 23) (len := 3) (t := 24) (pc' := 4) mJ_30 (by decide +kernel) (by decide +kernel) rfl (fun hc => ?_) (fun hc => ?_)
  · have hr := nk_ifp (c := l1 < 0) hc hr
    refine nk_p (i := .iconst (-1)) (len := 1) (pc' := 25) mJ_30 (by decide +kernel) (ns_iconst (c := (-1)) (by decide +kernel)) rfl ?_
    cases hr
    exact nk_iret (ty := .int) (len := 1) mJ_30 (by decide +kernel) rfl (nk_nar_i _)
  · have hr := nk_ifn (c := l1 < 0) hc hr
    refine nk_p (i := .iload_n 1) (len := 1) (pc' := 5) mJ_30 (by decide +kernel) (ns_iload_n 1 rfl rfl) rfl ?_
    refine nk_p (i := .bipush 32) (len := 2) (pc' := 7) mJ_30 (by decide +kernel) (ns_bipush (c := 32) (by decide +kernel)) rfl ?_
    refine nk_icmp (c := .ge) (off := 17) (len := 3) (t := 24) (pc' := 10) mJ_30 (by decide +kernel) (by decide +kernel) rfl (fun hc => ?_) (fun hc => ?_)
    · have hr := nk_ifp (c := 32 ≤ l1) hc hr
      refine nk_p (i := .iconst (-1)) (len := 1) (pc' := 25) mJ_30 (by decide +kernel) (ns_iconst (c := (-1)) (by decide +kernel)) rfl ?_
      cases hr
      exact nk_iret (ty := .int) (len := 1) mJ_30 (by decide +kernel) rfl (nk_nar_i _)
    · have hr := nk_ifn (c := 32 ≤ l1) hc hr
      refine nk_p (i := .aload_n 0) (len := 1) (pc' := 11) mJ_30 (by decide +kernel) (ns_aload_n 0 rfl rfl) rfl ?_
      refine nk_getC (f := (4, 1, 1536)) (x := 53) (len := 3) (ci := 0) (k := 14) (pc' := 14) ja_okT mJ_30 (by decide +kernel) (by decide +kernel) (by decide +kernel) (by decide) t_l0 rfl ?_
      have t1 : nk_ar ja_Tt (ja_c l0 14) = some (1, 1536) := nk_ta ja_okT t_l0 (by decide +kernel)
      refine nk_p (i := .iload_n 1) (len := 1) (pc' := 15) mJ_30 (by decide +kernel) (ns_iload_n 1 rfl rfl) rfl ?_
      refine nk_p (i := .bipush 48) (len := 2) (pc' := 17) mJ_30 (by decide +kernel) (ns_bipush (c := 48) (by decide +kernel)) rfl ?_
      refine nk_p (i := .imul) (len := 1) (pc' := 18) mJ_30 (by decide +kernel) ns_imul rfl ?_
      refine nk_p (i := .iload_n 2) (len := 1) (pc' := 19) mJ_30 (by decide +kernel) (ns_iload_n 2 rfl rfl) rfl ?_
      refine nk_p (i := .iadd) (len := 1) (pc' := 20) mJ_30 (by decide +kernel) ns_iadd rfl ?_
      obtain ⟨h2, hr⟩ := nk_cke hr
      refine nk_iald (len := 1) (N := 1536) (pc' := 21) mJ_30 (by decide +kernel) t1 h2.1 h2.2 rfl rfl ?_
      refine nk_p (i := .goto 4) (len := 3) (pc' := 25) mJ_30 (by decide +kernel) (ns_goto (by decide +kernel)) rfl ?_
      cases hr
      exact nk_iret (ty := .int) (len := 1) mJ_30 (by decide +kernel) rfl (nk_nar_i _)
/-! SafeCode$Words isWord (III)Z -/
noncomputable def ja_X10_isWord_b28 (rec28 : Nat → Int → Int → Int → Int → nk_S → Option (Int × nk_S)) (l0 : Nat) (l1 : Int) (l2 : Int) (l4 : Int) (l5 : Int) (S : nk_S) : Option (Int × nk_S) :=
  if l4 ≤ l5 then
    some (1, S)
  else
    if 0 ≤ l1 ∧ l1 < 12288 then
    if 0 ≤ (nk_w ((S.1 (ja_c l0 6) l1.toNat) + l5)) ∧ (nk_w ((S.1 (ja_c l0 6) l1.toNat) + l5)) < 16512 then
    if 0 ≤ (nk_w (l2 + l5)) ∧ (nk_w (l2 + l5)) < 16512 then
    if (S.1 (ja_c l0 0) (nk_w ((S.1 (ja_c l0 6) l1.toNat) + l5)).toNat) = (S.1 (ja_c l0 0) (nk_w (l2 + l5)).toNat) then
      nk_lt (nk_w (l5 + 1)) fun v6 =>
      rec28 l0 l1 l2 l4 v6 S
    else
      some (0, S)
    else none
    else none
    else none
theorem ja_X10_isWord_b28_ok (zs : List Int32) {rec28 : Nat → Int → Int → Int → Int → nk_S → Option (Int × nk_S)} (hrec28 : ∀ (l0 : Nat) (l1 : Int) (l2 : Int) (l4 : Int) (l5 : Int) (S : nk_S) (R : Int × nk_S), nk_cl ja_Tt l0 = some 10 → rec28 l0 l1 l2 l4 l5 S = some R → nk_K ja_Tt mi_Γ (mi_ev zs) 1 41 28 [(0, nk_r l0), (1, nk_i l1), (2, nk_i l2), (4, nk_i l4), (5, nk_i l5)] [] S R) : ∀ (l0 : Nat) (l1 : Int) (l2 : Int) (l4 : Int) (l5 : Int) (S : nk_S) (R : Int × nk_S), nk_cl ja_Tt l0 = some 10 → ja_X10_isWord_b28 rec28 l0 l1 l2 l4 l5 S = some R → nk_K ja_Tt mi_Γ (mi_ev zs) 1 41 28 [(0, nk_r l0), (1, nk_i l1), (2, nk_i l2), (4, nk_i l4), (5, nk_i l5)] [] S R := by
  intro l0 l1 l2 l4 l5 S R t_l0 hr
  unfold ja_X10_isWord_b28 at hr
  refine nk_p (i := .iload 5) (len := 2) (pc' := 30) mJ_41 (by decide +kernel) (ns_iload 4 rfl) rfl ?_
  refine nk_p (i := .iload 4) (len := 2) (pc' := 32) mJ_41 (by decide +kernel) (ns_iload 3 rfl) rfl ?_
  refine nk_icmp (c := .ge) (off := 37) (len := 3) (t := 69) (pc' := 35) mJ_41 (by decide +kernel) (by decide +kernel) rfl (fun hc => ?_) (fun hc => ?_)
  · have hr := nk_ifp (c := l4 ≤ l5) hc hr
    refine nk_p (i := .iconst 1) (len := 1) (pc' := 70) mJ_41 (by decide +kernel) (ns_iconst (c := 1) (by decide +kernel)) rfl ?_
    cases hr
    exact nk_iret (ty := .boolean) (len := 1) mJ_41 (by decide +kernel) rfl (nk_nar_z (by decide))
  · have hr := nk_ifn (c := l4 ≤ l5) hc hr
    refine nk_p (i := .aload_n 0) (len := 1) (pc' := 36) mJ_41 (by decide +kernel) (ns_aload_n 0 rfl rfl) rfl ?_
    refine nk_getC (f := (4, 0, 16512)) (x := 9) (len := 3) (ci := 10) (k := 0) (pc' := 39) ja_okT mJ_41 (by decide +kernel) (by decide +kernel) (by decide +kernel) (by decide) t_l0 rfl ?_
    have t1 : nk_ar ja_Tt (ja_c l0 0) = some (0, 16512) := nk_ta ja_okT t_l0 (by decide +kernel)
    refine nk_p (i := .aload_n 0) (len := 1) (pc' := 40) mJ_41 (by decide +kernel) (ns_aload_n 0 rfl rfl) rfl ?_
    refine nk_getC (f := (4, 1, 12288)) (x := 19) (len := 3) (ci := 10) (k := 6) (pc' := 43) ja_okT mJ_41 (by decide +kernel) (by decide +kernel) (by decide +kernel) (by decide) t_l0 rfl ?_
    have t2 : nk_ar ja_Tt (ja_c l0 6) = some (1, 12288) := nk_ta ja_okT t_l0 (by decide +kernel)
    refine nk_p (i := .iload_n 1) (len := 1) (pc' := 44) mJ_41 (by decide +kernel) (ns_iload_n 1 rfl rfl) rfl ?_
    obtain ⟨h3, hr⟩ := nk_cke hr
    refine nk_iald (len := 1) (N := 12288) (pc' := 45) mJ_41 (by decide +kernel) t2 h3.1 h3.2 rfl rfl ?_
    refine nk_p (i := .iload 5) (len := 2) (pc' := 47) mJ_41 (by decide +kernel) (ns_iload 4 rfl) rfl ?_
    refine nk_p (i := .iadd) (len := 1) (pc' := 48) mJ_41 (by decide +kernel) ns_iadd rfl ?_
    obtain ⟨h4, hr⟩ := nk_cke hr
    refine nk_bald (t := 0) (len := 1) (N := 16512) (pc' := 49) mJ_41 (by decide +kernel) t1 (by decide) h4.1 h4.2 rfl rfl ?_
    refine nk_p (i := .aload_n 0) (len := 1) (pc' := 50) mJ_41 (by decide +kernel) (ns_aload_n 0 rfl rfl) rfl ?_
    refine nk_getC (f := (4, 0, 16512)) (x := 9) (len := 3) (ci := 10) (k := 0) (pc' := 53) ja_okT mJ_41 (by decide +kernel) (by decide +kernel) (by decide +kernel) (by decide) t_l0 rfl ?_
    refine nk_p (i := .iload_n 2) (len := 1) (pc' := 54) mJ_41 (by decide +kernel) (ns_iload_n 2 rfl rfl) rfl ?_
    refine nk_p (i := .iload 5) (len := 2) (pc' := 56) mJ_41 (by decide +kernel) (ns_iload 4 rfl) rfl ?_
    refine nk_p (i := .iadd) (len := 1) (pc' := 57) mJ_41 (by decide +kernel) ns_iadd rfl ?_
    obtain ⟨h5, hr⟩ := nk_cke hr
    refine nk_bald (t := 0) (len := 1) (N := 16512) (pc' := 58) mJ_41 (by decide +kernel) t1 (by decide) h5.1 h5.2 rfl rfl ?_
    refine nk_icmp (c := .eq) (off := 5) (len := 3) (t := 63) (pc' := 61) mJ_41 (by decide +kernel) (by decide +kernel) rfl (fun hc => ?_) (fun hc => ?_)
    · have hr := nk_ifp (c := (S.1 (ja_c l0 0) (nk_w ((S.1 (ja_c l0 6) l1.toNat) + l5)).toNat) = (S.1 (ja_c l0 0) (nk_w (l2 + l5)).toNat)) hc hr
      obtain ⟨v6, h7, hr⟩ := nk_lte hr
      refine nk_p (i := .iinc 5 1) (len := 3) (pc' := 66) mJ_41 (by decide +kernel) (ns_iinc (c := 1) (L' := [(5, nk_i v6), (0, nk_r l0), (1, nk_i l1), (2, nk_i l2), (4, nk_i l4)]) 4 rfl (by decide +kernel) h7 rfl (by decide +kernel)) rfl ?_
      refine nk_p (i := .goto (-38)) (len := 3) (pc' := 28) mJ_41 (by decide +kernel) (ns_goto (by decide +kernel)) rfl ?_
      refine nk_sub [1, 2, 3, 4, 0] (L' := [(0, nk_r l0), (1, nk_i l1), (2, nk_i l2), (4, nk_i l4), (5, nk_i v6)]) rfl ?_
      exact hrec28 _ _ _ _ _ _ _ t_l0 hr
    · have hr := nk_ifn (c := (S.1 (ja_c l0 0) (nk_w ((S.1 (ja_c l0 6) l1.toNat) + l5)).toNat) = (S.1 (ja_c l0 0) (nk_w (l2 + l5)).toNat)) hc hr
      refine nk_p (i := .iconst 0) (len := 1) (pc' := 62) mJ_41 (by decide +kernel) (ns_iconst (c := 0) (by decide +kernel)) rfl ?_
      cases hr
      exact nk_iret (ty := .boolean) (len := 1) mJ_41 (by decide +kernel) rfl (nk_nar_z (by decide))
noncomputable def ja_X10_isWord_L28 : Nat → Nat → Int → Int → Int → Int → nk_S → Option (Int × nk_S)
  | 0, _, _, _, _, _, _ => none
  | n + 1, l0, l1, l2, l4, l5, S => ja_X10_isWord_b28 (ja_X10_isWord_L28 n) l0 l1 l2 l4 l5 S
theorem ja_X10_isWord_L28_ok (zs : List Int32) : ∀ n : Nat, ∀ (l0 : Nat) (l1 : Int) (l2 : Int) (l4 : Int) (l5 : Int) (S : nk_S) (R : Int × nk_S), nk_cl ja_Tt l0 = some 10 → ja_X10_isWord_L28 n l0 l1 l2 l4 l5 S = some R → nk_K ja_Tt mi_Γ (mi_ev zs) 1 41 28 [(0, nk_r l0), (1, nk_i l1), (2, nk_i l2), (4, nk_i l4), (5, nk_i l5)] [] S R := by
  intro n
  induction n with
  | zero => intro _ _ _ _ _ _ _ _ hr; cases hr
  | succ n ih => intro l0 l1 l2 l4 l5 S R t_l0 hr; exact ja_X10_isWord_b28_ok zs ih l0 l1 l2 l4 l5 S R t_l0 hr
noncomputable def ja_X10_isWord (l0 : Nat) (l1 : Int) (l2 : Int) (l3 : Int) (S : nk_S) : Option (Int × nk_S) :=
  nk_lt (nk_w (l3 - l2)) fun v1 =>
  if 0 ≤ l1 ∧ l1 < 12288 then
  if (nk_w ((S.1 (ja_c l0 7) l1.toNat) - (S.1 (ja_c l0 6) l1.toNat))) = v1 then
    ja_X10_isWord_L28 nk_big l0 l1 l2 v1 0 S
  else
    some (0, S)
  else none
theorem ja_X10_isWord_ok (zs : List Int32) : ∀ (l0 : Nat) (l1 : Int) (l2 : Int) (l3 : Int) (S : nk_S) (R : Int × nk_S), nk_cl ja_Tt l0 = some 10 → ja_X10_isWord l0 l1 l2 l3 S = some R → nk_K ja_Tt mi_Γ (mi_ev zs) 1 41 0 [(0, nk_r l0), (1, nk_i l1), (2, nk_i l2), (3, nk_i l3)] [] S R := by
  intro l0 l1 l2 l3 S R t_l0 hr
  unfold ja_X10_isWord at hr
  refine nk_p (i := .iload_n 3) (len := 1) (pc' := 1) mJ_41 (by decide +kernel) (ns_iload_n 3 rfl rfl) rfl ?_
  refine nk_p (i := .iload_n 2) (len := 1) (pc' := 2) mJ_41 (by decide +kernel) (ns_iload_n 2 rfl rfl) rfl ?_
  refine nk_p (i := .isub) (len := 1) (pc' := 3) mJ_41 (by decide +kernel) ns_isub rfl ?_
  obtain ⟨v1, h2, hr⟩ := nk_lte hr
  refine nk_p (i := .istore 4) (len := 2) (pc' := 5) mJ_41 (by decide +kernel) (ns_istore (L' := [(4, nk_i v1), (0, nk_r l0), (1, nk_i l1), (2, nk_i l2), (3, nk_i l3)]) h2 rfl (by decide +kernel)) rfl ?_
  refine nk_p (i := .aload_n 0) (len := 1) (pc' := 6) mJ_41 (by decide +kernel) (ns_aload_n 1 rfl rfl) rfl ?_
  refine nk_getC (f := (4, 1, 12288)) (x := 22) (len := 3) (ci := 10) (k := 7) (pc' := 9) ja_okT mJ_41 (by decide +kernel) (by decide +kernel) (by decide +kernel) (by decide) t_l0 rfl ?_
  have t3 : nk_ar ja_Tt (ja_c l0 7) = some (1, 12288) := nk_ta ja_okT t_l0 (by decide +kernel)
  refine nk_p (i := .iload_n 1) (len := 1) (pc' := 10) mJ_41 (by decide +kernel) (ns_iload_n 2 rfl rfl) rfl ?_
  obtain ⟨h4, hr⟩ := nk_cke hr
  refine nk_iald (len := 1) (N := 12288) (pc' := 11) mJ_41 (by decide +kernel) t3 h4.1 h4.2 rfl rfl ?_
  refine nk_p (i := .aload_n 0) (len := 1) (pc' := 12) mJ_41 (by decide +kernel) (ns_aload_n 1 rfl rfl) rfl ?_
  refine nk_getC (f := (4, 1, 12288)) (x := 19) (len := 3) (ci := 10) (k := 6) (pc' := 15) ja_okT mJ_41 (by decide +kernel) (by decide +kernel) (by decide +kernel) (by decide) t_l0 rfl ?_
  have t5 : nk_ar ja_Tt (ja_c l0 6) = some (1, 12288) := nk_ta ja_okT t_l0 (by decide +kernel)
  refine nk_p (i := .iload_n 1) (len := 1) (pc' := 16) mJ_41 (by decide +kernel) (ns_iload_n 2 rfl rfl) rfl ?_
  refine nk_iald (len := 1) (N := 12288) (pc' := 17) mJ_41 (by decide +kernel) t5 h4.1 h4.2 rfl rfl ?_
  refine nk_p (i := .isub) (len := 1) (pc' := 18) mJ_41 (by decide +kernel) ns_isub rfl ?_
  refine nk_p (i := .iload 4) (len := 2) (pc' := 20) mJ_41 (by decide +kernel) (ns_iload 0 rfl) rfl ?_
  refine nk_icmp (c := .eq) (off := 5) (len := 3) (t := 25) (pc' := 23) mJ_41 (by decide +kernel) (by decide +kernel) rfl (fun hc => ?_) (fun hc => ?_)
  · have hr := nk_ifp (c := (nk_w ((S.1 (ja_c l0 7) l1.toNat) - (S.1 (ja_c l0 6) l1.toNat))) = v1) hc hr
    refine nk_p (i := .iconst 0) (len := 1) (pc' := 26) mJ_41 (by decide +kernel) (ns_iconst (c := 0) (by decide +kernel)) rfl ?_
    refine nk_p (i := .istore 5) (len := 2) (pc' := 28) mJ_41 (by decide +kernel) (ns_istore (L' := [(5, nk_i 0), (4, nk_i v1), (0, nk_r l0), (1, nk_i l1), (2, nk_i l2), (3, nk_i l3)]) rfl rfl (by decide +kernel)) rfl ?_
    refine nk_sub [2, 3, 4, 1, 0] (L' := [(0, nk_r l0), (1, nk_i l1), (2, nk_i l2), (4, nk_i v1), (5, nk_i 0)]) rfl ?_
    exact ja_X10_isWord_L28_ok zs nk_big _ _ _ _ _ _ _ t_l0 hr
  · have hr := nk_ifn (c := (nk_w ((S.1 (ja_c l0 7) l1.toNat) - (S.1 (ja_c l0 6) l1.toNat))) = v1) hc hr
    refine nk_p (i := .iconst 0) (len := 1) (pc' := 24) mJ_41 (by decide +kernel) (ns_iconst (c := 0) (by decide +kernel)) rfl ?_
    cases hr
    exact nk_iret (ty := .boolean) (len := 1) mJ_41 (by decide +kernel) rfl (nk_nar_z (by decide))
/-! SafeCode$Words keep (II)I -/
noncomputable def ja_X10_keep_b96 (l0 : Nat) (l1 : Int) (l2 : Int) (l4 : Int) (S : nk_S) : Option (Int × nk_S) :=
  if (S.1 l0 5) < 12288 then
    if 0 ≤ (S.1 l0 5) ∧ (S.1 l0 5) < 12288 then
    nk_lt (nk_wi S (ja_c l0 6) (S.1 l0 5).toNat l1) fun S3 =>
    if 0 ≤ (S3.1 l0 5) ∧ (S3.1 l0 5) < 12288 then
    nk_lt (nk_wi S3 (ja_c l0 7) (S3.1 l0 5).toNat l2) fun S7 =>
    if 0 ≤ l4 ∧ l4 < 1024 then
    if 0 ≤ (S7.1 l0 5) ∧ (S7.1 l0 5) < 12288 then
    nk_lt (nk_wi S7 (ja_c l0 8) (S7.1 l0 5).toNat (S7.1 (ja_c l0 9) l4.toNat)) fun S13 =>
    nk_lt (nk_wi S13 (ja_c l0 9) l4.toNat (S13.1 l0 5)) fun S15 =>
    nk_lt (nk_wi S15 l0 5 (nk_w ((S15.1 l0 5) + 1))) fun S17 =>
    some ((nk_w ((S17.1 l0 5) - 1)), S17)
    else none
    else none
    else none
    else none
  else
    some ((-1), S)
theorem ja_X10_keep_b96_ok (zs : List Int32) : ∀ (l0 : Nat) (l1 : Int) (l2 : Int) (l4 : Int) (S : nk_S) (R : Int × nk_S), nk_cl ja_Tt l0 = some 10 → ja_X10_keep_b96 l0 l1 l2 l4 S = some R → nk_K ja_Tt mi_Γ (mi_ev zs) 1 42 96 [(0, nk_r l0), (1, nk_i l1), (2, nk_i l2), (4, nk_i l4)] [] S R := by
  intro l0 l1 l2 l4 S R t_l0 hr
  unfold ja_X10_keep_b96 at hr
  refine nk_p (i := .aload_n 0) (len := 1) (pc' := 97) mJ_42 (by decide +kernel) (ns_aload_n 0 rfl rfl) rfl ?_
  refine nk_getI (y := (0, 0)) (x := 71) (len := 3) (ci := 10) (k := 5) (pc' := 100) ja_okT mJ_42 (by decide +kernel) (by decide +kernel) (by decide +kernel) t_l0 rfl ?_
  refine nk_p (i := .sipush 12288) (len := 3) (pc' := 103) mJ_42 (by decide +kernel) (ns_sipush (c := 12288) (by decide +kernel)) rfl ?_
  refine nk_icmp (c := .lt) (off := 5) (len := 3) (t := 108) (pc' := 106) mJ_42 (by decide +kernel) (by decide +kernel) rfl (fun hc => ?_) (fun hc => ?_)
  · have hr := nk_ifp (c := (S.1 l0 5) < 12288) hc hr
    refine nk_p (i := .aload_n 0) (len := 1) (pc' := 109) mJ_42 (by decide +kernel) (ns_aload_n 0 rfl rfl) rfl ?_
    refine nk_getC (f := (4, 1, 12288)) (x := 19) (len := 3) (ci := 10) (k := 6) (pc' := 112) ja_okT mJ_42 (by decide +kernel) (by decide +kernel) (by decide +kernel) (by decide) t_l0 rfl ?_
    have t1 : nk_ar ja_Tt (ja_c l0 6) = some (1, 12288) := nk_ta ja_okT t_l0 (by decide +kernel)
    refine nk_p (i := .aload_n 0) (len := 1) (pc' := 113) mJ_42 (by decide +kernel) (ns_aload_n 0 rfl rfl) rfl ?_
    refine nk_getI (y := (0, 0)) (x := 71) (len := 3) (ci := 10) (k := 5) (pc' := 116) ja_okT mJ_42 (by decide +kernel) (by decide +kernel) (by decide +kernel) t_l0 rfl ?_
    refine nk_p (i := .iload_n 1) (len := 1) (pc' := 117) mJ_42 (by decide +kernel) (ns_iload_n 1 rfl rfl) rfl ?_
    obtain ⟨h2, hr⟩ := nk_cke hr
    obtain ⟨S3, h4, hr⟩ := nk_lte hr
    refine nk_iast (len := 1) (N := 12288) (pc' := 118) mJ_42 (by decide +kernel) t1 h2.1 h2.2 rfl rfl h4 ?_
    refine nk_p (i := .aload_n 0) (len := 1) (pc' := 119) mJ_42 (by decide +kernel) (ns_aload_n 0 rfl rfl) rfl ?_
    refine nk_getC (f := (4, 1, 12288)) (x := 22) (len := 3) (ci := 10) (k := 7) (pc' := 122) ja_okT mJ_42 (by decide +kernel) (by decide +kernel) (by decide +kernel) (by decide) t_l0 rfl ?_
    have t5 : nk_ar ja_Tt (ja_c l0 7) = some (1, 12288) := nk_ta ja_okT t_l0 (by decide +kernel)
    refine nk_p (i := .aload_n 0) (len := 1) (pc' := 123) mJ_42 (by decide +kernel) (ns_aload_n 0 rfl rfl) rfl ?_
    refine nk_getI (y := (0, 0)) (x := 71) (len := 3) (ci := 10) (k := 5) (pc' := 126) ja_okT mJ_42 (by decide +kernel) (by decide +kernel) (by decide +kernel) t_l0 rfl ?_
    refine nk_p (i := .iload_n 2) (len := 1) (pc' := 127) mJ_42 (by decide +kernel) (ns_iload_n 2 rfl rfl) rfl ?_
    obtain ⟨h6, hr⟩ := nk_cke hr
    obtain ⟨S7, h8, hr⟩ := nk_lte hr
    refine nk_iast (len := 1) (N := 12288) (pc' := 128) mJ_42 (by decide +kernel) t5 h6.1 h6.2 rfl rfl h8 ?_
    refine nk_p (i := .aload_n 0) (len := 1) (pc' := 129) mJ_42 (by decide +kernel) (ns_aload_n 0 rfl rfl) rfl ?_
    refine nk_getC (f := (4, 1, 12288)) (x := 25) (len := 3) (ci := 10) (k := 8) (pc' := 132) ja_okT mJ_42 (by decide +kernel) (by decide +kernel) (by decide +kernel) (by decide) t_l0 rfl ?_
    have t9 : nk_ar ja_Tt (ja_c l0 8) = some (1, 12288) := nk_ta ja_okT t_l0 (by decide +kernel)
    refine nk_p (i := .aload_n 0) (len := 1) (pc' := 133) mJ_42 (by decide +kernel) (ns_aload_n 0 rfl rfl) rfl ?_
    refine nk_getI (y := (0, 0)) (x := 71) (len := 3) (ci := 10) (k := 5) (pc' := 136) ja_okT mJ_42 (by decide +kernel) (by decide +kernel) (by decide +kernel) t_l0 rfl ?_
    refine nk_p (i := .aload_n 0) (len := 1) (pc' := 137) mJ_42 (by decide +kernel) (ns_aload_n 0 rfl rfl) rfl ?_
    refine nk_getC (f := (4, 1, 1024)) (x := 28) (len := 3) (ci := 10) (k := 9) (pc' := 140) ja_okT mJ_42 (by decide +kernel) (by decide +kernel) (by decide +kernel) (by decide) t_l0 rfl ?_
    have t10 : nk_ar ja_Tt (ja_c l0 9) = some (1, 1024) := nk_ta ja_okT t_l0 (by decide +kernel)
    refine nk_p (i := .iload 4) (len := 2) (pc' := 142) mJ_42 (by decide +kernel) (ns_iload 3 rfl) rfl ?_
    obtain ⟨h11, hr⟩ := nk_cke hr
    refine nk_iald (len := 1) (N := 1024) (pc' := 143) mJ_42 (by decide +kernel) t10 h11.1 h11.2 rfl rfl ?_
    obtain ⟨h12, hr⟩ := nk_cke hr
    obtain ⟨S13, h14, hr⟩ := nk_lte hr
    refine nk_iast (len := 1) (N := 12288) (pc' := 144) mJ_42 (by decide +kernel) t9 h12.1 h12.2 rfl rfl h14 ?_
    refine nk_p (i := .aload_n 0) (len := 1) (pc' := 145) mJ_42 (by decide +kernel) (ns_aload_n 0 rfl rfl) rfl ?_
    refine nk_getC (f := (4, 1, 1024)) (x := 28) (len := 3) (ci := 10) (k := 9) (pc' := 148) ja_okT mJ_42 (by decide +kernel) (by decide +kernel) (by decide +kernel) (by decide) t_l0 rfl ?_
    refine nk_p (i := .iload 4) (len := 2) (pc' := 150) mJ_42 (by decide +kernel) (ns_iload 3 rfl) rfl ?_
    refine nk_p (i := .aload_n 0) (len := 1) (pc' := 151) mJ_42 (by decide +kernel) (ns_aload_n 0 rfl rfl) rfl ?_
    refine nk_getI (y := (0, 0)) (x := 71) (len := 3) (ci := 10) (k := 5) (pc' := 154) ja_okT mJ_42 (by decide +kernel) (by decide +kernel) (by decide +kernel) t_l0 rfl ?_
    obtain ⟨S15, h16, hr⟩ := nk_lte hr
    refine nk_iast (len := 1) (N := 1024) (pc' := 155) mJ_42 (by decide +kernel) t10 h11.1 h11.2 rfl rfl h16 ?_
    refine nk_p (i := .aload_n 0) (len := 1) (pc' := 156) mJ_42 (by decide +kernel) (ns_aload_n 0 rfl rfl) rfl ?_
    refine nk_p (i := .dup) (len := 1) (pc' := 157) mJ_42 (by decide +kernel) (ns_dup rfl) rfl ?_
    refine nk_getI (y := (0, 0)) (x := 71) (len := 3) (ci := 10) (k := 5) (pc' := 160) ja_okT mJ_42 (by decide +kernel) (by decide +kernel) (by decide +kernel) t_l0 rfl ?_
    refine nk_p (i := .iconst 1) (len := 1) (pc' := 161) mJ_42 (by decide +kernel) (ns_iconst (c := 1) (by decide +kernel)) rfl ?_
    refine nk_p (i := .iadd) (len := 1) (pc' := 162) mJ_42 (by decide +kernel) ns_iadd rfl ?_
    obtain ⟨S17, h18, hr⟩ := nk_lte hr
    refine nk_putI (y := (0, 0)) (ty := .int) (x := 71) (len := 3) (ci := 10) (k := 5) (pc' := 165) ja_okT mJ_42 (by decide +kernel) (by decide +kernel) (by decide +kernel) t_l0 (Or.inl rfl) rfl h18 ?_
    refine nk_p (i := .aload_n 0) (len := 1) (pc' := 166) mJ_42 (by decide +kernel) (ns_aload_n 0 rfl rfl) rfl ?_
    refine nk_getI (y := (0, 0)) (x := 71) (len := 3) (ci := 10) (k := 5) (pc' := 169) ja_okT mJ_42 (by decide +kernel) (by decide +kernel) (by decide +kernel) t_l0 rfl ?_
    refine nk_p (i := .iconst 1) (len := 1) (pc' := 170) mJ_42 (by decide +kernel) (ns_iconst (c := 1) (by decide +kernel)) rfl ?_
    refine nk_p (i := .isub) (len := 1) (pc' := 171) mJ_42 (by decide +kernel) ns_isub rfl ?_
    cases hr
    exact nk_iret (ty := .int) (len := 1) mJ_42 (by decide +kernel) rfl (nk_nar_i _)
  · have hr := nk_ifn (c := (S.1 l0 5) < 12288) hc hr
    refine nk_p (i := .iconst (-1)) (len := 1) (pc' := 107) mJ_42 (by decide +kernel) (ns_iconst (c := (-1)) (by decide +kernel)) rfl ?_
    cases hr
    exact nk_iret (ty := .int) (len := 1) mJ_42 (by decide +kernel) rfl (nk_nar_i _)
noncomputable def ja_X10_keep_b54 (rec54 : Nat → Int → Int → Int → Int → Int → nk_S → Option (Int × nk_S)) (l0 : Nat) (l1 : Int) (l2 : Int) (l4 : Int) (l5 : Int) (l6 : Int) (S : nk_S) : Option (Int × nk_S) :=
  if 12288 ≤ l6 then
    ja_X10_keep_b96 l0 l1 l2 l4 S
  else
    if l5 < 0 then
      ja_X10_keep_b96 l0 l1 l2 l4 S
    else
      nk_bd (ja_X10_isWord l0 l5 l1 l2 S) fun r1 S2 =>
      if r1 = 0 then
        if 0 ≤ l5 ∧ l5 < 12288 then
        nk_lt (S2.1 (ja_c l0 8) l5.toNat) fun v6 =>
        nk_lt (nk_w (l6 + 1)) fun v8 =>
        rec54 l0 l1 l2 l4 v6 v8 S2
        else none
      else
        some (l5, S2)
theorem ja_X10_keep_b54_ok (zs : List Int32) {rec54 : Nat → Int → Int → Int → Int → Int → nk_S → Option (Int × nk_S)} (hrec54 : ∀ (l0 : Nat) (l1 : Int) (l2 : Int) (l4 : Int) (l5 : Int) (l6 : Int) (S : nk_S) (R : Int × nk_S), nk_cl ja_Tt l0 = some 10 → rec54 l0 l1 l2 l4 l5 l6 S = some R → nk_K ja_Tt mi_Γ (mi_ev zs) 1 42 54 [(0, nk_r l0), (1, nk_i l1), (2, nk_i l2), (4, nk_i l4), (5, nk_i l5), (6, nk_i l6)] [] S R) : ∀ (l0 : Nat) (l1 : Int) (l2 : Int) (l4 : Int) (l5 : Int) (l6 : Int) (S : nk_S) (R : Int × nk_S), nk_cl ja_Tt l0 = some 10 → ja_X10_keep_b54 rec54 l0 l1 l2 l4 l5 l6 S = some R → nk_K ja_Tt mi_Γ (mi_ev zs) 1 42 54 [(0, nk_r l0), (1, nk_i l1), (2, nk_i l2), (4, nk_i l4), (5, nk_i l5), (6, nk_i l6)] [] S R := by
  intro l0 l1 l2 l4 l5 l6 S R t_l0 hr
  unfold ja_X10_keep_b54 at hr
  refine nk_p (i := .iload 6) (len := 2) (pc' := 56) mJ_42 (by decide +kernel) (ns_iload 5 rfl) rfl ?_
  refine nk_p (i := .sipush 12288) (len := 3) (pc' := 59) mJ_42 (by decide +kernel) (ns_sipush (c := 12288) (by decide +kernel)) rfl ?_
  refine nk_icmp (c := .ge) (off := 37) (len := 3) (t := 96) (pc' := 62) mJ_42 (by decide +kernel) (by decide +kernel) rfl (fun hc => ?_) (fun hc => ?_)
  · have hr := nk_ifp (c := 12288 ≤ l6) hc hr
    refine nk_sub [0, 1, 2, 3] (L' := [(0, nk_r l0), (1, nk_i l1), (2, nk_i l2), (4, nk_i l4)]) rfl ?_
    exact ja_X10_keep_b96_ok zs _ _ _ _ _ _ t_l0 hr
  · have hr := nk_ifn (c := 12288 ≤ l6) hc hr
    refine nk_p (i := .iload 5) (len := 2) (pc' := 64) mJ_42 (by decide +kernel) (ns_iload 4 rfl) rfl ?_
    refine nk_icond (c := .lt) (off := 32) (len := 3) (t := 96) (pc' := 67) mJ_42 (by decide +kernel) (by decide +kernel) rfl (fun hc => ?_) (fun hc => ?_)
    · have hr := nk_ifp (c := l5 < 0) hc hr
      refine nk_sub [0, 1, 2, 3] (L' := [(0, nk_r l0), (1, nk_i l1), (2, nk_i l2), (4, nk_i l4)]) rfl ?_
      exact ja_X10_keep_b96_ok zs _ _ _ _ _ _ t_l0 hr
    · have hr := nk_ifn (c := l5 < 0) hc hr
      refine nk_p (i := .aload_n 0) (len := 1) (pc' := 68) mJ_42 (by decide +kernel) (ns_aload_n 0 rfl rfl) rfl ?_
      refine nk_p (i := .iload 5) (len := 2) (pc' := 70) mJ_42 (by decide +kernel) (ns_iload 4 rfl) rfl ?_
      refine nk_p (i := .iload_n 1) (len := 1) (pc' := 71) mJ_42 (by decide +kernel) (ns_iload_n 1 rfl rfl) rfl ?_
      refine nk_p (i := .iload_n 2) (len := 1) (pc' := 72) mJ_42 (by decide +kernel) (ns_iload_n 2 rfl rfl) rfl ?_
      obtain ⟨r1, S2, h3, hr⟩ := nk_bde hr
      refine nk_callV (ci := 10) (n := 3) (x := 115) (len := 3) (j' := 41) (q' := 1) (r := r1) (S' := S2) (L2 := [(0, nk_r l0), (1, nk_i l5), (2, nk_i l1), (3, nk_i l2)]) (rest := []) (st' := [nk_i r1]) (pc' := 75) mJ_42 (by decide +kernel) (by decide +kernel) rfl rfl t_l0 (Nat.le_of_ble_eq_true rfl) mJ_41 (Nat.le_of_ble_eq_true rfl) rfl (ja_X10_isWord_ok zs _ _ _ _ _ _ t_l0 h3) rfl ?_
      refine nk_icond (c := .eq) (off := 6) (len := 3) (t := 81) (pc' := 78) mJ_42 (by decide +kernel) (by decide +kernel) rfl (fun hc => ?_) (fun hc => ?_)
      · have hr := nk_ifp (c := r1 = 0) hc hr
        refine nk_p (i := .aload_n 0) (len := 1) (pc' := 82) mJ_42 (by decide +kernel) (ns_aload_n 0 rfl rfl) rfl ?_
        refine nk_getC (f := (4, 1, 12288)) (x := 25) (len := 3) (ci := 10) (k := 8) (pc' := 85) ja_okT mJ_42 (by decide +kernel) (by decide +kernel) (by decide +kernel) (by decide) t_l0 rfl ?_
        have t4 : nk_ar ja_Tt (ja_c l0 8) = some (1, 12288) := nk_ta ja_okT t_l0 (by decide +kernel)
        refine nk_p (i := .iload 5) (len := 2) (pc' := 87) mJ_42 (by decide +kernel) (ns_iload 4 rfl) rfl ?_
        obtain ⟨h5, hr⟩ := nk_cke hr
        refine nk_iald (len := 1) (N := 12288) (pc' := 88) mJ_42 (by decide +kernel) t4 h5.1 h5.2 rfl rfl ?_
        obtain ⟨v6, h7, hr⟩ := nk_lte hr
        refine nk_p (i := .istore 5) (len := 2) (pc' := 90) mJ_42 (by decide +kernel) (ns_istore (L' := [(5, nk_i v6), (0, nk_r l0), (1, nk_i l1), (2, nk_i l2), (4, nk_i l4), (6, nk_i l6)]) h7 rfl (by decide +kernel)) rfl ?_
        obtain ⟨v8, h9, hr⟩ := nk_lte hr
        refine nk_p (i := .iinc 6 1) (len := 3) (pc' := 93) mJ_42 (by decide +kernel) (ns_iinc (c := 1) (L' := [(6, nk_i v8), (5, nk_i v6), (0, nk_r l0), (1, nk_i l1), (2, nk_i l2), (4, nk_i l4)]) 5 rfl (by decide +kernel) h9 rfl (by decide +kernel)) rfl ?_
        refine nk_p (i := .goto (-39)) (len := 3) (pc' := 54) mJ_42 (by decide +kernel) (ns_goto (by decide +kernel)) rfl ?_
        refine nk_sub [2, 3, 4, 5, 1, 0] (L' := [(0, nk_r l0), (1, nk_i l1), (2, nk_i l2), (4, nk_i l4), (5, nk_i v6), (6, nk_i v8)]) rfl ?_
        exact hrec54 _ _ _ _ _ _ _ _ t_l0 hr
      · have hr := nk_ifn (c := r1 = 0) hc hr
        refine nk_p (i := .iload 5) (len := 2) (pc' := 80) mJ_42 (by decide +kernel) (ns_iload 4 rfl) rfl ?_
        cases hr
        exact nk_iret (ty := .int) (len := 1) mJ_42 (by decide +kernel) rfl (nk_nar_i _)
noncomputable def ja_X10_keep_L54 : Nat → Nat → Int → Int → Int → Int → Int → nk_S → Option (Int × nk_S)
  | 0, _, _, _, _, _, _, _ => none
  | n + 1, l0, l1, l2, l4, l5, l6, S => ja_X10_keep_b54 (ja_X10_keep_L54 n) l0 l1 l2 l4 l5 l6 S
theorem ja_X10_keep_L54_ok (zs : List Int32) : ∀ n : Nat, ∀ (l0 : Nat) (l1 : Int) (l2 : Int) (l4 : Int) (l5 : Int) (l6 : Int) (S : nk_S) (R : Int × nk_S), nk_cl ja_Tt l0 = some 10 → ja_X10_keep_L54 n l0 l1 l2 l4 l5 l6 S = some R → nk_K ja_Tt mi_Γ (mi_ev zs) 1 42 54 [(0, nk_r l0), (1, nk_i l1), (2, nk_i l2), (4, nk_i l4), (5, nk_i l5), (6, nk_i l6)] [] S R := by
  intro n
  induction n with
  | zero => intro _ _ _ _ _ _ _ _ _ hr; cases hr
  | succ n ih => intro l0 l1 l2 l4 l5 l6 S R t_l0 hr; exact ja_X10_keep_b54_ok zs ih l0 l1 l2 l4 l5 l6 S R t_l0 hr
noncomputable def ja_X10_keep_b5 (rec5 : Nat → Int → Int → Int → Int → nk_S → Option (Int × nk_S)) (l0 : Nat) (l1 : Int) (l2 : Int) (l3 : Int) (l4 : Int) (S : nk_S) : Option (Int × nk_S) :=
  if l2 ≤ l4 then
    nk_lt (nk_iand (nk_ixor l3 (nk_iushr l3 10)) 1023) fun v1 =>
    if 0 ≤ v1 ∧ v1 < 1024 then
    nk_lt (S.1 (ja_c l0 9) v1.toNat) fun v5 =>
    ja_X10_keep_L54 nk_big l0 l1 l2 v1 v5 0 S
    else none
  else
    if 0 ≤ l4 ∧ l4 < 16512 then
    nk_lt (nk_w ((nk_w (l3 * 31)) + (S.1 (ja_c l0 0) l4.toNat))) fun v9 =>
    nk_lt (nk_w (l4 + 1)) fun v11 =>
    rec5 l0 l1 l2 v9 v11 S
    else none
theorem ja_X10_keep_b5_ok (zs : List Int32) {rec5 : Nat → Int → Int → Int → Int → nk_S → Option (Int × nk_S)} (hrec5 : ∀ (l0 : Nat) (l1 : Int) (l2 : Int) (l3 : Int) (l4 : Int) (S : nk_S) (R : Int × nk_S), nk_cl ja_Tt l0 = some 10 → rec5 l0 l1 l2 l3 l4 S = some R → nk_K ja_Tt mi_Γ (mi_ev zs) 1 42 5 [(0, nk_r l0), (1, nk_i l1), (2, nk_i l2), (3, nk_i l3), (4, nk_i l4)] [] S R) : ∀ (l0 : Nat) (l1 : Int) (l2 : Int) (l3 : Int) (l4 : Int) (S : nk_S) (R : Int × nk_S), nk_cl ja_Tt l0 = some 10 → ja_X10_keep_b5 rec5 l0 l1 l2 l3 l4 S = some R → nk_K ja_Tt mi_Γ (mi_ev zs) 1 42 5 [(0, nk_r l0), (1, nk_i l1), (2, nk_i l2), (3, nk_i l3), (4, nk_i l4)] [] S R := by
  intro l0 l1 l2 l3 l4 S R t_l0 hr
  unfold ja_X10_keep_b5 at hr
  refine nk_p (i := .iload 4) (len := 2) (pc' := 7) mJ_42 (by decide +kernel) (ns_iload 4 rfl) rfl ?_
  refine nk_p (i := .iload_n 2) (len := 1) (pc' := 8) mJ_42 (by decide +kernel) (ns_iload_n 2 rfl rfl) rfl ?_
  refine nk_icmp (c := .ge) (off := 22) (len := 3) (t := 30) (pc' := 11) mJ_42 (by decide +kernel) (by decide +kernel) rfl (fun hc => ?_) (fun hc => ?_)
  · have hr := nk_ifp (c := l2 ≤ l4) hc hr
    refine nk_p (i := .iload_n 3) (len := 1) (pc' := 31) mJ_42 (by decide +kernel) (ns_iload_n 3 rfl rfl) rfl ?_
    refine nk_p (i := .iload_n 3) (len := 1) (pc' := 32) mJ_42 (by decide +kernel) (ns_iload_n 3 rfl rfl) rfl ?_
    refine nk_p (i := .bipush 10) (len := 2) (pc' := 34) mJ_42 (by decide +kernel) (ns_bipush (c := 10) (by decide +kernel)) rfl ?_
    refine nk_p (i := .iushr) (len := 1) (pc' := 35) mJ_42 (by decide +kernel) ns_iushr rfl ?_
    refine nk_p (i := .ixor) (len := 1) (pc' := 36) mJ_42 (by decide +kernel) ns_ixor rfl ?_
    refine nk_p (i := .sipush 1023) (len := 3) (pc' := 39) mJ_42 (by decide +kernel) (ns_sipush (c := 1023) (by decide +kernel)) rfl ?_
    refine nk_p (i := .iand) (len := 1) (pc' := 40) mJ_42 (by decide +kernel) ns_iand rfl ?_
    obtain ⟨v1, h2, hr⟩ := nk_lte hr
    refine nk_p (i := .istore 4) (len := 2) (pc' := 42) mJ_42 (by decide +kernel) (ns_istore (L' := [(4, nk_i v1), (0, nk_r l0), (1, nk_i l1), (2, nk_i l2), (3, nk_i l3)]) h2 rfl (by decide +kernel)) rfl ?_
    refine nk_p (i := .aload_n 0) (len := 1) (pc' := 43) mJ_42 (by decide +kernel) (ns_aload_n 1 rfl rfl) rfl ?_
    refine nk_getC (f := (4, 1, 1024)) (x := 28) (len := 3) (ci := 10) (k := 9) (pc' := 46) ja_okT mJ_42 (by decide +kernel) (by decide +kernel) (by decide +kernel) (by decide) t_l0 rfl ?_
    have t3 : nk_ar ja_Tt (ja_c l0 9) = some (1, 1024) := nk_ta ja_okT t_l0 (by decide +kernel)
    refine nk_p (i := .iload 4) (len := 2) (pc' := 48) mJ_42 (by decide +kernel) (ns_iload 0 rfl) rfl ?_
    obtain ⟨h4, hr⟩ := nk_cke hr
    refine nk_iald (len := 1) (N := 1024) (pc' := 49) mJ_42 (by decide +kernel) t3 h4.1 h4.2 rfl rfl ?_
    obtain ⟨v5, h6, hr⟩ := nk_lte hr
    refine nk_p (i := .istore 5) (len := 2) (pc' := 51) mJ_42 (by decide +kernel) (ns_istore (L' := [(5, nk_i v5), (4, nk_i v1), (0, nk_r l0), (1, nk_i l1), (2, nk_i l2), (3, nk_i l3)]) h6 rfl (by decide +kernel)) rfl ?_
    refine nk_p (i := .iconst 0) (len := 1) (pc' := 52) mJ_42 (by decide +kernel) (ns_iconst (c := 0) (by decide +kernel)) rfl ?_
    refine nk_p (i := .istore 6) (len := 2) (pc' := 54) mJ_42 (by decide +kernel) (ns_istore (L' := [(6, nk_i 0), (5, nk_i v5), (4, nk_i v1), (0, nk_r l0), (1, nk_i l1), (2, nk_i l2), (3, nk_i l3)]) rfl rfl (by decide +kernel)) rfl ?_
    refine nk_sub [3, 4, 5, 2, 1, 0] (L' := [(0, nk_r l0), (1, nk_i l1), (2, nk_i l2), (4, nk_i v1), (5, nk_i v5), (6, nk_i 0)]) rfl ?_
    exact ja_X10_keep_L54_ok zs nk_big _ _ _ _ _ _ _ _ t_l0 hr
  · have hr := nk_ifn (c := l2 ≤ l4) hc hr
    refine nk_p (i := .iload_n 3) (len := 1) (pc' := 12) mJ_42 (by decide +kernel) (ns_iload_n 3 rfl rfl) rfl ?_
    refine nk_p (i := .bipush 31) (len := 2) (pc' := 14) mJ_42 (by decide +kernel) (ns_bipush (c := 31) (by decide +kernel)) rfl ?_
    refine nk_p (i := .imul) (len := 1) (pc' := 15) mJ_42 (by decide +kernel) ns_imul rfl ?_
    refine nk_p (i := .aload_n 0) (len := 1) (pc' := 16) mJ_42 (by decide +kernel) (ns_aload_n 0 rfl rfl) rfl ?_
    refine nk_getC (f := (4, 0, 16512)) (x := 9) (len := 3) (ci := 10) (k := 0) (pc' := 19) ja_okT mJ_42 (by decide +kernel) (by decide +kernel) (by decide +kernel) (by decide) t_l0 rfl ?_
    have t7 : nk_ar ja_Tt (ja_c l0 0) = some (0, 16512) := nk_ta ja_okT t_l0 (by decide +kernel)
    refine nk_p (i := .iload 4) (len := 2) (pc' := 21) mJ_42 (by decide +kernel) (ns_iload 4 rfl) rfl ?_
    obtain ⟨h8, hr⟩ := nk_cke hr
    refine nk_bald (t := 0) (len := 1) (N := 16512) (pc' := 22) mJ_42 (by decide +kernel) t7 (by decide) h8.1 h8.2 rfl rfl ?_
    refine nk_p (i := .iadd) (len := 1) (pc' := 23) mJ_42 (by decide +kernel) ns_iadd rfl ?_
    obtain ⟨v9, h10, hr⟩ := nk_lte hr
    refine nk_p (i := .istore_n 3) (len := 1) (pc' := 24) mJ_42 (by decide +kernel) (ns_istore_n (L' := [(3, nk_i v9), (0, nk_r l0), (1, nk_i l1), (2, nk_i l2), (4, nk_i l4)]) h10 rfl rfl (by decide +kernel)) rfl ?_
    obtain ⟨v11, h12, hr⟩ := nk_lte hr
    refine nk_p (i := .iinc 4 1) (len := 3) (pc' := 27) mJ_42 (by decide +kernel) (ns_iinc (c := 1) (L' := [(4, nk_i v11), (3, nk_i v9), (0, nk_r l0), (1, nk_i l1), (2, nk_i l2)]) 4 rfl (by decide +kernel) h12 rfl (by decide +kernel)) rfl ?_
    refine nk_p (i := .goto (-22)) (len := 3) (pc' := 5) mJ_42 (by decide +kernel) (ns_goto (by decide +kernel)) rfl ?_
    refine nk_sub [2, 3, 4, 1, 0] (L' := [(0, nk_r l0), (1, nk_i l1), (2, nk_i l2), (3, nk_i v9), (4, nk_i v11)]) rfl ?_
    exact hrec5 _ _ _ _ _ _ _ t_l0 hr
noncomputable def ja_X10_keep_L5 : Nat → Nat → Int → Int → Int → Int → nk_S → Option (Int × nk_S)
  | 0, _, _, _, _, _, _ => none
  | n + 1, l0, l1, l2, l3, l4, S => ja_X10_keep_b5 (ja_X10_keep_L5 n) l0 l1 l2 l3 l4 S
theorem ja_X10_keep_L5_ok (zs : List Int32) : ∀ n : Nat, ∀ (l0 : Nat) (l1 : Int) (l2 : Int) (l3 : Int) (l4 : Int) (S : nk_S) (R : Int × nk_S), nk_cl ja_Tt l0 = some 10 → ja_X10_keep_L5 n l0 l1 l2 l3 l4 S = some R → nk_K ja_Tt mi_Γ (mi_ev zs) 1 42 5 [(0, nk_r l0), (1, nk_i l1), (2, nk_i l2), (3, nk_i l3), (4, nk_i l4)] [] S R := by
  intro n
  induction n with
  | zero => intro _ _ _ _ _ _ _ _ hr; cases hr
  | succ n ih => intro l0 l1 l2 l3 l4 S R t_l0 hr; exact ja_X10_keep_b5_ok zs ih l0 l1 l2 l3 l4 S R t_l0 hr
noncomputable def ja_X10_keep (l0 : Nat) (l1 : Int) (l2 : Int) (S : nk_S) : Option (Int × nk_S) :=
  ja_X10_keep_L5 nk_big l0 l1 l2 0 l1 S
theorem ja_X10_keep_ok (zs : List Int32) : ∀ (l0 : Nat) (l1 : Int) (l2 : Int) (S : nk_S) (R : Int × nk_S), nk_cl ja_Tt l0 = some 10 → ja_X10_keep l0 l1 l2 S = some R → nk_K ja_Tt mi_Γ (mi_ev zs) 1 42 0 [(0, nk_r l0), (1, nk_i l1), (2, nk_i l2)] [] S R := by
  intro l0 l1 l2 S R t_l0 hr
  unfold ja_X10_keep at hr
  refine nk_p (i := .iconst 0) (len := 1) (pc' := 1) mJ_42 (by decide +kernel) (ns_iconst (c := 0) (by decide +kernel)) rfl ?_
  refine nk_p (i := .istore_n 3) (len := 1) (pc' := 2) mJ_42 (by decide +kernel) (ns_istore_n (L' := [(3, nk_i 0), (0, nk_r l0), (1, nk_i l1), (2, nk_i l2)]) rfl rfl rfl (by decide +kernel)) rfl ?_
  refine nk_p (i := .iload_n 1) (len := 1) (pc' := 3) mJ_42 (by decide +kernel) (ns_iload_n 2 rfl rfl) rfl ?_
  refine nk_p (i := .istore 4) (len := 2) (pc' := 5) mJ_42 (by decide +kernel) (ns_istore (L' := [(4, nk_i l1), (3, nk_i 0), (0, nk_r l0), (1, nk_i l1), (2, nk_i l2)]) rfl rfl (by decide +kernel)) rfl ?_
  refine nk_sub [2, 3, 4, 1, 0] (L' := [(0, nk_r l0), (1, nk_i l1), (2, nk_i l2), (3, nk_i 0), (4, nk_i l1)]) rfl ?_
  exact ja_X10_keep_L5_ok zs nk_big _ _ _ _ _ _ _ t_l0 hr
/-! SafeCode$Words addToken (II)V -/
noncomputable def ja_X10_addToken (l0 : Nat) (l1 : Int) (l2 : Int) (S : nk_S) : Option (Int × nk_S) :=
  if 16000 ≤ (S.1 l0 4) then
    some (0, S)
  else
    nk_bd (ja_X10_keep l0 l1 l2 S) fun r2 S3 =>
    if 0 ≤ (S.1 l0 4) ∧ (S.1 l0 4) < 16000 then
    nk_lt (nk_wi S3 (ja_c l0 3) (S.1 l0 4).toNat r2) fun S6 =>
    nk_lt (nk_wi S6 l0 4 (nk_w ((S6.1 l0 4) + 1))) fun S8 =>
    some (0, S8)
    else none
theorem ja_X10_addToken_ok (zs : List Int32) : ∀ (l0 : Nat) (l1 : Int) (l2 : Int) (S : nk_S) (R : Int × nk_S), nk_cl ja_Tt l0 = some 10 → ja_X10_addToken l0 l1 l2 S = some R → nk_K ja_Tt mi_Γ (mi_ev zs) 0 31 0 [(0, nk_r l0), (1, nk_i l1), (2, nk_i l2)] [] S R := by
  intro l0 l1 l2 S R t_l0 hr
  unfold ja_X10_addToken at hr
  refine nk_p (i := .aload_n 0) (len := 1) (pc' := 1) mJ_31 (by decide +kernel) (ns_aload_n 0 rfl rfl) rfl ?_
  refine nk_getI (y := (0, 0)) (x := 101) (len := 3) (ci := 10) (k := 4) (pc' := 4) ja_okT mJ_31 (by decide +kernel) (by decide +kernel) (by decide +kernel) t_l0 rfl ?_
  refine nk_p (i := .sipush 16000) (len := 3) (pc' := 7) mJ_31 (by decide +kernel) (ns_sipush (c := 16000) (by decide +kernel)) rfl ?_
  refine nk_icmp (c := .ge) (off := 28) (len := 3) (t := 35) (pc' := 10) mJ_31 (by decide +kernel) (by decide +kernel) rfl (fun hc => ?_) (fun hc => ?_)
  · have hr := nk_ifp (c := 16000 ≤ (S.1 l0 4)) hc hr
    cases hr
    exact nk_vret (len := 1) mJ_31 (by decide +kernel) rfl
  · have hr := nk_ifn (c := 16000 ≤ (S.1 l0 4)) hc hr
    refine nk_p (i := .aload_n 0) (len := 1) (pc' := 11) mJ_31 (by decide +kernel) (ns_aload_n 0 rfl rfl) rfl ?_
    refine nk_getC (f := (4, 1, 16000)) (x := 15) (len := 3) (ci := 10) (k := 3) (pc' := 14) ja_okT mJ_31 (by decide +kernel) (by decide +kernel) (by decide +kernel) (by decide) t_l0 rfl ?_
    have t1 : nk_ar ja_Tt (ja_c l0 3) = some (1, 16000) := nk_ta ja_okT t_l0 (by decide +kernel)
    refine nk_p (i := .aload_n 0) (len := 1) (pc' := 15) mJ_31 (by decide +kernel) (ns_aload_n 0 rfl rfl) rfl ?_
    refine nk_getI (y := (0, 0)) (x := 101) (len := 3) (ci := 10) (k := 4) (pc' := 18) ja_okT mJ_31 (by decide +kernel) (by decide +kernel) (by decide +kernel) t_l0 rfl ?_
    refine nk_p (i := .aload_n 0) (len := 1) (pc' := 19) mJ_31 (by decide +kernel) (ns_aload_n 0 rfl rfl) rfl ?_
    refine nk_p (i := .iload_n 1) (len := 1) (pc' := 20) mJ_31 (by decide +kernel) (ns_iload_n 1 rfl rfl) rfl ?_
    refine nk_p (i := .iload_n 2) (len := 1) (pc' := 21) mJ_31 (by decide +kernel) (ns_iload_n 2 rfl rfl) rfl ?_
    obtain ⟨r2, S3, h4, hr⟩ := nk_bde hr
    refine nk_callV (ci := 10) (n := 2) (x := 111) (len := 3) (j' := 42) (q' := 1) (r := r2) (S' := S3) (L2 := [(0, nk_r l0), (1, nk_i l1), (2, nk_i l2)]) (rest := [nk_i (S.1 l0 4), nk_r (ja_c l0 3)]) (st' := [nk_i r2, nk_i (S.1 l0 4), nk_r (ja_c l0 3)]) (pc' := 24) mJ_31 (by decide +kernel) (by decide +kernel) rfl rfl t_l0 (Nat.le_of_ble_eq_true rfl) mJ_42 (Nat.le_of_ble_eq_true rfl) rfl (ja_X10_keep_ok zs _ _ _ _ _ t_l0 h4) rfl ?_
    obtain ⟨h5, hr⟩ := nk_cke hr
    obtain ⟨S6, h7, hr⟩ := nk_lte hr
    refine nk_iast (len := 1) (N := 16000) (pc' := 25) mJ_31 (by decide +kernel) t1 h5.1 h5.2 rfl rfl h7 ?_
    refine nk_p (i := .aload_n 0) (len := 1) (pc' := 26) mJ_31 (by decide +kernel) (ns_aload_n 0 rfl rfl) rfl ?_
    refine nk_p (i := .dup) (len := 1) (pc' := 27) mJ_31 (by decide +kernel) (ns_dup rfl) rfl ?_
    refine nk_getI (y := (0, 0)) (x := 101) (len := 3) (ci := 10) (k := 4) (pc' := 30) ja_okT mJ_31 (by decide +kernel) (by decide +kernel) (by decide +kernel) t_l0 rfl ?_
    refine nk_p (i := .iconst 1) (len := 1) (pc' := 31) mJ_31 (by decide +kernel) (ns_iconst (c := 1) (by decide +kernel)) rfl ?_
    refine nk_p (i := .iadd) (len := 1) (pc' := 32) mJ_31 (by decide +kernel) ns_iadd rfl ?_
    obtain ⟨S8, h9, hr⟩ := nk_lte hr
    refine nk_putI (y := (0, 0)) (ty := .int) (x := 101) (len := 3) (ci := 10) (k := 4) (pc' := 35) ja_okT mJ_31 (by decide +kernel) (by decide +kernel) (by decide +kernel) t_l0 (Or.inl rfl) rfl h9 ?_
    cases hr
    exact nk_vret (len := 1) mJ_31 (by decide +kernel) rfl
/-! SafeCode$Words at (I)I -/
noncomputable def ja_X10_at (l0 : Nat) (l1 : Int) (S : nk_S) : Option (Int × nk_S) :=
  if l1 < 0 then
    some ((-1), S)
  else
    if (S.1 l0 4) ≤ l1 then
      some ((-1), S)
    else
      if 0 ≤ l1 ∧ l1 < 16000 then
      some ((S.1 (ja_c l0 3) l1.toNat), S)
      else none
theorem ja_X10_at_ok (zs : List Int32) : ∀ (l0 : Nat) (l1 : Int) (S : nk_S) (R : Int × nk_S), nk_cl ja_Tt l0 = some 10 → ja_X10_at l0 l1 S = some R → nk_K ja_Tt mi_Γ (mi_ev zs) 1 32 0 [(0, nk_r l0), (1, nk_i l1)] [] S R := by
  intro l0 l1 S R t_l0 hr
  unfold ja_X10_at at hr
  refine nk_p (i := .iload_n 1) (len := 1) (pc' := 1) mJ_32 (by decide +kernel) (ns_iload_n 1 rfl rfl) rfl ?_
  refine nk_icond (c := .lt) (off := 20) (len := 3) (t := 21) (pc' := 4) mJ_32 (by decide +kernel) (by decide +kernel) rfl (fun hc => ?_) (fun hc => ?_)
  · have hr := nk_ifp (c := l1 < 0) hc hr
    refine nk_p (i := .iconst (-1)) (len := 1) (pc' := 22) mJ_32 (by decide +kernel) (ns_iconst (c := (-1)) (by decide +kernel)) rfl ?_
    cases hr
    exact nk_iret (ty := .int) (len := 1) mJ_32 (by decide +kernel) rfl (nk_nar_i _)
  · have hr := nk_ifn (c := l1 < 0) hc hr
    refine nk_p (i := .iload_n 1) (len := 1) (pc' := 5) mJ_32 (by decide +kernel) (ns_iload_n 1 rfl rfl) rfl ?_
    refine nk_p (i := .aload_n 0) (len := 1) (pc' := 6) mJ_32 (by decide +kernel) (ns_aload_n 0 rfl rfl) rfl ?_
    refine nk_getI (y := (0, 0)) (x := 101) (len := 3) (ci := 10) (k := 4) (pc' := 9) ja_okT mJ_32 (by decide +kernel) (by decide +kernel) (by decide +kernel) t_l0 rfl ?_
    refine nk_icmp (c := .ge) (off := 12) (len := 3) (t := 21) (pc' := 12) mJ_32 (by decide +kernel) (by decide +kernel) rfl (fun hc => ?_) (fun hc => ?_)
    · have hr := nk_ifp (c := (S.1 l0 4) ≤ l1) hc hr
      refine nk_p (i := .iconst (-1)) (len := 1) (pc' := 22) mJ_32 (by decide +kernel) (ns_iconst (c := (-1)) (by decide +kernel)) rfl ?_
      cases hr
      exact nk_iret (ty := .int) (len := 1) mJ_32 (by decide +kernel) rfl (nk_nar_i _)
    · have hr := nk_ifn (c := (S.1 l0 4) ≤ l1) hc hr
      refine nk_p (i := .aload_n 0) (len := 1) (pc' := 13) mJ_32 (by decide +kernel) (ns_aload_n 0 rfl rfl) rfl ?_
      refine nk_getC (f := (4, 1, 16000)) (x := 15) (len := 3) (ci := 10) (k := 3) (pc' := 16) ja_okT mJ_32 (by decide +kernel) (by decide +kernel) (by decide +kernel) (by decide) t_l0 rfl ?_
      have t1 : nk_ar ja_Tt (ja_c l0 3) = some (1, 16000) := nk_ta ja_okT t_l0 (by decide +kernel)
      refine nk_p (i := .iload_n 1) (len := 1) (pc' := 17) mJ_32 (by decide +kernel) (ns_iload_n 1 rfl rfl) rfl ?_
      obtain ⟨h2, hr⟩ := nk_cke hr
      refine nk_iald (len := 1) (N := 16000) (pc' := 18) mJ_32 (by decide +kernel) t1 h2.1 h2.2 rfl rfl ?_
      refine nk_p (i := .goto 4) (len := 3) (pc' := 22) mJ_32 (by decide +kernel) (ns_goto (by decide +kernel)) rfl ?_
      cases hr
      exact nk_iret (ty := .int) (len := 1) mJ_32 (by decide +kernel) rfl (nk_nar_i _)
/-! SafeCode$Words cut (II)Z -/
noncomputable def ja_X10_cut_b226 (l0 : Nat) (l3 : Int) (l5 : Int) (l6 : Int) (S : nk_S) : Option (Int × nk_S) :=
  if l3 < 0 then
    if l5 = 0 ∨ l5 = 1 then
    some (l5, S)
    else none
  else
    nk_bd (ja_X10_addToken l0 l3 l6 S) fun r2 S3 =>
    if l5 = 0 ∨ l5 = 1 then
    some (l5, S3)
    else none
theorem ja_X10_cut_b226_ok (zs : List Int32) : ∀ (l0 : Nat) (l3 : Int) (l5 : Int) (l6 : Int) (S : nk_S) (R : Int × nk_S), nk_cl ja_Tt l0 = some 10 → ja_X10_cut_b226 l0 l3 l5 l6 S = some R → nk_K ja_Tt mi_Γ (mi_ev zs) 1 33 226 [(0, nk_r l0), (3, nk_i l3), (5, nk_i l5), (6, nk_i l6)] [] S R := by
  intro l0 l3 l5 l6 S R t_l0 hr
  unfold ja_X10_cut_b226 at hr
  refine nk_p (i := .iload_n 3) (len := 1) (pc' := 227) mJ_33 (by decide +kernel) (ns_iload_n 1 rfl rfl) rfl ?_
  refine nk_icond (c := .lt) (off := 10) (len := 3) (t := 237) (pc' := 230) mJ_33 (by decide +kernel) (by decide +kernel) rfl (fun hc => ?_) (fun hc => ?_)
  · have hr := nk_ifp (c := l3 < 0) hc hr
    refine nk_p (i := .iload 5) (len := 2) (pc' := 239) mJ_33 (by decide +kernel) (ns_iload 2 rfl) rfl ?_
    obtain ⟨h1, hr⟩ := nk_cke hr
    cases hr
    exact nk_iret (ty := .boolean) (len := 1) mJ_33 (by decide +kernel) rfl (nk_nar_z h1)
  · have hr := nk_ifn (c := l3 < 0) hc hr
    refine nk_p (i := .aload_n 0) (len := 1) (pc' := 231) mJ_33 (by decide +kernel) (ns_aload_n 0 rfl rfl) rfl ?_
    refine nk_p (i := .iload_n 3) (len := 1) (pc' := 232) mJ_33 (by decide +kernel) (ns_iload_n 1 rfl rfl) rfl ?_
    refine nk_p (i := .iload 6) (len := 2) (pc' := 234) mJ_33 (by decide +kernel) (ns_iload 3 rfl) rfl ?_
    obtain ⟨r2, S3, h4, hr⟩ := nk_bde hr
    refine nk_callV (ci := 10) (n := 2) (x := 107) (len := 3) (j' := 31) (q' := 0) (r := r2) (S' := S3) (L2 := [(0, nk_r l0), (1, nk_i l3), (2, nk_i l6)]) (rest := []) (st' := []) (pc' := 237) mJ_33 (by decide +kernel) (by decide +kernel) rfl rfl t_l0 (Nat.le_of_ble_eq_true rfl) mJ_31 (Nat.le_of_ble_eq_true rfl) rfl (ja_X10_addToken_ok zs _ _ _ _ _ t_l0 h4) rfl ?_
    refine nk_p (i := .iload 5) (len := 2) (pc' := 239) mJ_33 (by decide +kernel) (ns_iload 2 rfl) rfl ?_
    obtain ⟨h5, hr⟩ := nk_cke hr
    cases hr
    exact nk_iret (ty := .boolean) (len := 1) mJ_33 (by decide +kernel) rfl (nk_nar_z h5)
noncomputable def ja_X10_cut_b200 (rec11 : Nat → Int → Int → Int → Int → Int → nk_S → Option (Int × nk_S)) (l0 : Nat) (l2 : Int) (l3 : Int) (l4 : Int) (l5 : Int) (l6 : Int) (l8 : Int) (S : nk_S) : Option (Int × nk_S) :=
  if l8 = 0 then
    nk_lt (nk_w (l6 + 1)) fun v1 =>
    rec11 l0 l2 l3 l4 l5 v1 S
  else
    if l4 = 0 then
      nk_bd (ja_X10_addToken l0 l6 (nk_w (l6 + 1)) S) fun r5 S6 =>
      nk_lt (nk_w (l6 + 1)) fun v8 =>
      rec11 l0 l2 l3 l4 l5 v8 S6
    else
      nk_lt (nk_w (l6 + 1)) fun v3 =>
      rec11 l0 l2 l3 l4 l5 v3 S
theorem ja_X10_cut_b200_ok (zs : List Int32) {rec11 : Nat → Int → Int → Int → Int → Int → nk_S → Option (Int × nk_S)} (hrec11 : ∀ (l0 : Nat) (l2 : Int) (l3 : Int) (l4 : Int) (l5 : Int) (l6 : Int) (S : nk_S) (R : Int × nk_S), nk_cl ja_Tt l0 = some 10 → rec11 l0 l2 l3 l4 l5 l6 S = some R → nk_K ja_Tt mi_Γ (mi_ev zs) 1 33 11 [(0, nk_r l0), (2, nk_i l2), (3, nk_i l3), (4, nk_i l4), (5, nk_i l5), (6, nk_i l6)] [] S R) : ∀ (l0 : Nat) (l2 : Int) (l3 : Int) (l4 : Int) (l5 : Int) (l6 : Int) (l8 : Int) (S : nk_S) (R : Int × nk_S), nk_cl ja_Tt l0 = some 10 → ja_X10_cut_b200 rec11 l0 l2 l3 l4 l5 l6 l8 S = some R → nk_K ja_Tt mi_Γ (mi_ev zs) 1 33 200 [(0, nk_r l0), (2, nk_i l2), (3, nk_i l3), (4, nk_i l4), (5, nk_i l5), (6, nk_i l6), (8, nk_i l8)] [] S R := by
  intro l0 l2 l3 l4 l5 l6 l8 S R t_l0 hr
  unfold ja_X10_cut_b200 at hr
  refine nk_p (i := .iload 8) (len := 2) (pc' := 202) mJ_33 (by decide +kernel) (ns_iload 6 rfl) rfl ?_
  refine nk_icond (c := .eq) (off := 18) (len := 3) (t := 220) (pc' := 205) mJ_33 (by decide +kernel) (by decide +kernel) rfl (fun hc => ?_) (fun hc => ?_)
  · have hr := nk_ifp (c := l8 = 0) hc hr
    obtain ⟨v1, h2, hr⟩ := nk_lte hr
    refine nk_p (i := .iinc 6 1) (len := 3) (pc' := 223) mJ_33 (by decide +kernel) (ns_iinc (c := 1) (L' := [(6, nk_i v1), (0, nk_r l0), (2, nk_i l2), (3, nk_i l3), (4, nk_i l4), (5, nk_i l5), (8, nk_i l8)]) 5 rfl (by decide +kernel) h2 rfl (by decide +kernel)) rfl ?_
    refine nk_p (i := .goto (-212)) (len := 3) (pc' := 11) mJ_33 (by decide +kernel) (ns_goto (by decide +kernel)) rfl ?_
    refine nk_sub [1, 2, 3, 4, 5, 0] (L' := [(0, nk_r l0), (2, nk_i l2), (3, nk_i l3), (4, nk_i l4), (5, nk_i l5), (6, nk_i v1)]) rfl ?_
    exact hrec11 _ _ _ _ _ _ _ _ t_l0 hr
  · have hr := nk_ifn (c := l8 = 0) hc hr
    refine nk_p (i := .iload 4) (len := 2) (pc' := 207) mJ_33 (by decide +kernel) (ns_iload 3 rfl) rfl ?_
    refine nk_icond (c := .ne) (off := 13) (len := 3) (t := 220) (pc' := 210) mJ_33 (by decide +kernel) (by decide +kernel) rfl (fun hc => ?_) (fun hc => ?_)
    · have hr := nk_ifn (c := l4 = 0) hc hr
      obtain ⟨v3, h4, hr⟩ := nk_lte hr
      refine nk_p (i := .iinc 6 1) (len := 3) (pc' := 223) mJ_33 (by decide +kernel) (ns_iinc (c := 1) (L' := [(6, nk_i v3), (0, nk_r l0), (2, nk_i l2), (3, nk_i l3), (4, nk_i l4), (5, nk_i l5), (8, nk_i l8)]) 5 rfl (by decide +kernel) h4 rfl (by decide +kernel)) rfl ?_
      refine nk_p (i := .goto (-212)) (len := 3) (pc' := 11) mJ_33 (by decide +kernel) (ns_goto (by decide +kernel)) rfl ?_
      refine nk_sub [1, 2, 3, 4, 5, 0] (L' := [(0, nk_r l0), (2, nk_i l2), (3, nk_i l3), (4, nk_i l4), (5, nk_i l5), (6, nk_i v3)]) rfl ?_
      exact hrec11 _ _ _ _ _ _ _ _ t_l0 hr
    · have hr := nk_ifp (c := l4 = 0) (Decidable.of_not_not hc) hr
      refine nk_p (i := .aload_n 0) (len := 1) (pc' := 211) mJ_33 (by decide +kernel) (ns_aload_n 0 rfl rfl) rfl ?_
      refine nk_p (i := .iload 6) (len := 2) (pc' := 213) mJ_33 (by decide +kernel) (ns_iload 5 rfl) rfl ?_
      refine nk_p (i := .iload 6) (len := 2) (pc' := 215) mJ_33 (by decide +kernel) (ns_iload 5 rfl) rfl ?_
      refine nk_p (i := .iconst 1) (len := 1) (pc' := 216) mJ_33 (by decide +kernel) (ns_iconst (c := 1) (by decide +kernel)) rfl ?_
      refine nk_p (i := .iadd) (len := 1) (pc' := 217) mJ_33 (by decide +kernel) ns_iadd rfl ?_
      obtain ⟨r5, S6, h7, hr⟩ := nk_bde hr
      refine nk_callV (ci := 10) (n := 2) (x := 107) (len := 3) (j' := 31) (q' := 0) (r := r5) (S' := S6) (L2 := [(0, nk_r l0), (1, nk_i l6), (2, nk_i (nk_w (l6 + 1)))]) (rest := []) (st' := []) (pc' := 220) mJ_33 (by decide +kernel) (by decide +kernel) rfl rfl t_l0 (Nat.le_of_ble_eq_true rfl) mJ_31 (Nat.le_of_ble_eq_true rfl) rfl (ja_X10_addToken_ok zs _ _ _ _ _ t_l0 h7) rfl ?_
      obtain ⟨v8, h9, hr⟩ := nk_lte hr
      refine nk_p (i := .iinc 6 1) (len := 3) (pc' := 223) mJ_33 (by decide +kernel) (ns_iinc (c := 1) (L' := [(6, nk_i v8), (0, nk_r l0), (2, nk_i l2), (3, nk_i l3), (4, nk_i l4), (5, nk_i l5), (8, nk_i l8)]) 5 rfl (by decide +kernel) h9 rfl (by decide +kernel)) rfl ?_
      refine nk_p (i := .goto (-212)) (len := 3) (pc' := 11) mJ_33 (by decide +kernel) (ns_goto (by decide +kernel)) rfl ?_
      refine nk_sub [1, 2, 3, 4, 5, 0] (L' := [(0, nk_r l0), (2, nk_i l2), (3, nk_i l3), (4, nk_i l4), (5, nk_i l5), (6, nk_i v8)]) rfl ?_
      exact hrec11 _ _ _ _ _ _ _ _ t_l0 hr
noncomputable def ja_X10_cut_b188 (rec11 : Nat → Int → Int → Int → Int → Int → nk_S → Option (Int × nk_S)) (l0 : Nat) (l2 : Int) (l3 : Int) (l4 : Int) (l5 : Int) (l6 : Int) (l8 : Int) (l9 : Int) (S : nk_S) : Option (Int × nk_S) :=
  if l9 = 0 then
    ja_X10_cut_b200 rec11 l0 l2 l3 l4 l5 l6 l8 S
  else
    if 0 ≤ l3 then
      ja_X10_cut_b200 rec11 l0 l2 l3 l4 l5 l6 l8 S
    else
      ja_X10_cut_b200 rec11 l0 l2 l6 l4 l5 l6 l8 S
theorem ja_X10_cut_b188_ok (zs : List Int32) {rec11 : Nat → Int → Int → Int → Int → Int → nk_S → Option (Int × nk_S)} (hrec11 : ∀ (l0 : Nat) (l2 : Int) (l3 : Int) (l4 : Int) (l5 : Int) (l6 : Int) (S : nk_S) (R : Int × nk_S), nk_cl ja_Tt l0 = some 10 → rec11 l0 l2 l3 l4 l5 l6 S = some R → nk_K ja_Tt mi_Γ (mi_ev zs) 1 33 11 [(0, nk_r l0), (2, nk_i l2), (3, nk_i l3), (4, nk_i l4), (5, nk_i l5), (6, nk_i l6)] [] S R) : ∀ (l0 : Nat) (l2 : Int) (l3 : Int) (l4 : Int) (l5 : Int) (l6 : Int) (l8 : Int) (l9 : Int) (S : nk_S) (R : Int × nk_S), nk_cl ja_Tt l0 = some 10 → ja_X10_cut_b188 rec11 l0 l2 l3 l4 l5 l6 l8 l9 S = some R → nk_K ja_Tt mi_Γ (mi_ev zs) 1 33 188 [(0, nk_r l0), (2, nk_i l2), (3, nk_i l3), (4, nk_i l4), (5, nk_i l5), (6, nk_i l6), (8, nk_i l8), (9, nk_i l9)] [] S R := by
  intro l0 l2 l3 l4 l5 l6 l8 l9 S R t_l0 hr
  unfold ja_X10_cut_b188 at hr
  refine nk_p (i := .iload 9) (len := 2) (pc' := 190) mJ_33 (by decide +kernel) (ns_iload 7 rfl) rfl ?_
  refine nk_icond (c := .eq) (off := 10) (len := 3) (t := 200) (pc' := 193) mJ_33 (by decide +kernel) (by decide +kernel) rfl (fun hc => ?_) (fun hc => ?_)
  · have hr := nk_ifp (c := l9 = 0) hc hr
    refine nk_sub [0, 1, 2, 3, 4, 5, 6] (L' := [(0, nk_r l0), (2, nk_i l2), (3, nk_i l3), (4, nk_i l4), (5, nk_i l5), (6, nk_i l6), (8, nk_i l8)]) rfl ?_
    exact ja_X10_cut_b200_ok zs hrec11 _ _ _ _ _ _ _ _ _ t_l0 hr
  · have hr := nk_ifn (c := l9 = 0) hc hr
    refine nk_p (i := .iload_n 3) (len := 1) (pc' := 194) mJ_33 (by decide +kernel) (ns_iload_n 2 rfl rfl) rfl ?_
    refine nk_icond (c := .ge) (off := 6) (len := 3) (t := 200) (pc' := 197) mJ_33 (by decide +kernel) (by decide +kernel) rfl (fun hc => ?_) (fun hc => ?_)
    · have hr := nk_ifp (c := 0 ≤ l3) hc hr
      refine nk_sub [0, 1, 2, 3, 4, 5, 6] (L' := [(0, nk_r l0), (2, nk_i l2), (3, nk_i l3), (4, nk_i l4), (5, nk_i l5), (6, nk_i l6), (8, nk_i l8)]) rfl ?_
      exact ja_X10_cut_b200_ok zs hrec11 _ _ _ _ _ _ _ _ _ t_l0 hr
    · have hr := nk_ifn (c := 0 ≤ l3) hc hr
      refine nk_p (i := .iload 6) (len := 2) (pc' := 199) mJ_33 (by decide +kernel) (ns_iload 5 rfl) rfl ?_
      refine nk_p (i := .istore_n 3) (len := 1) (pc' := 200) mJ_33 (by decide +kernel) (ns_istore_n (L' := [(3, nk_i l6), (0, nk_r l0), (2, nk_i l2), (4, nk_i l4), (5, nk_i l5), (6, nk_i l6), (8, nk_i l8), (9, nk_i l9)]) rfl rfl rfl (by decide +kernel)) rfl ?_
      refine nk_sub [1, 2, 0, 3, 4, 5, 6] (L' := [(0, nk_r l0), (2, nk_i l2), (3, nk_i l6), (4, nk_i l4), (5, nk_i l5), (6, nk_i l6), (8, nk_i l8)]) rfl ?_
      exact ja_X10_cut_b200_ok zs hrec11 _ _ _ _ _ _ _ _ _ t_l0 hr
noncomputable def ja_X10_cut_b168 (rec11 : Nat → Int → Int → Int → Int → Int → nk_S → Option (Int × nk_S)) (l0 : Nat) (l2 : Int) (l3 : Int) (l4 : Int) (l5 : Int) (l6 : Int) (l8 : Int) (s0 : Int) (S : nk_S) : Option (Int × nk_S) :=
  if s0 = 0 then
    if l3 < 0 then
      ja_X10_cut_b188 rec11 l0 l2 l3 l4 l5 l6 l8 s0 S
    else
      nk_bd (ja_X10_addToken l0 l3 l6 S) fun r1 S2 =>
      ja_X10_cut_b188 rec11 l0 l2 (-1) l4 l5 l6 l8 s0 S2
  else
    ja_X10_cut_b188 rec11 l0 l2 l3 l4 l5 l6 l8 s0 S
theorem ja_X10_cut_b168_ok (zs : List Int32) {rec11 : Nat → Int → Int → Int → Int → Int → nk_S → Option (Int × nk_S)} (hrec11 : ∀ (l0 : Nat) (l2 : Int) (l3 : Int) (l4 : Int) (l5 : Int) (l6 : Int) (S : nk_S) (R : Int × nk_S), nk_cl ja_Tt l0 = some 10 → rec11 l0 l2 l3 l4 l5 l6 S = some R → nk_K ja_Tt mi_Γ (mi_ev zs) 1 33 11 [(0, nk_r l0), (2, nk_i l2), (3, nk_i l3), (4, nk_i l4), (5, nk_i l5), (6, nk_i l6)] [] S R) : ∀ (l0 : Nat) (l2 : Int) (l3 : Int) (l4 : Int) (l5 : Int) (l6 : Int) (l8 : Int) (s0 : Int) (S : nk_S) (R : Int × nk_S), nk_cl ja_Tt l0 = some 10 → ja_X10_cut_b168 rec11 l0 l2 l3 l4 l5 l6 l8 s0 S = some R → nk_K ja_Tt mi_Γ (mi_ev zs) 1 33 168 [(0, nk_r l0), (2, nk_i l2), (3, nk_i l3), (4, nk_i l4), (5, nk_i l5), (6, nk_i l6), (8, nk_i l8)] [nk_i s0] S R := by
  intro l0 l2 l3 l4 l5 l6 l8 s0 S R t_l0 hr
  unfold ja_X10_cut_b168 at hr
  refine nk_p (i := .istore 9) (len := 2) (pc' := 170) mJ_33 (by decide +kernel) (ns_istore (L' := [(9, nk_i s0), (0, nk_r l0), (2, nk_i l2), (3, nk_i l3), (4, nk_i l4), (5, nk_i l5), (6, nk_i l6), (8, nk_i l8)]) rfl rfl (by decide +kernel)) rfl ?_
  refine nk_p (i := .iload 9) (len := 2) (pc' := 172) mJ_33 (by decide +kernel) (ns_iload 0 rfl) rfl ?_
  refine nk_icond (c := .ne) (off := 16) (len := 3) (t := 188) (pc' := 175) mJ_33 (by decide +kernel) (by decide +kernel) rfl (fun hc => ?_) (fun hc => ?_)
  · have hr := nk_ifn (c := s0 = 0) hc hr
    refine nk_sub [1, 2, 3, 4, 5, 6, 7, 0] (L' := [(0, nk_r l0), (2, nk_i l2), (3, nk_i l3), (4, nk_i l4), (5, nk_i l5), (6, nk_i l6), (8, nk_i l8), (9, nk_i s0)]) rfl ?_
    exact ja_X10_cut_b188_ok zs hrec11 _ _ _ _ _ _ _ _ _ _ t_l0 hr
  · have hr := nk_ifp (c := s0 = 0) (Decidable.of_not_not hc) hr
    refine nk_p (i := .iload_n 3) (len := 1) (pc' := 176) mJ_33 (by decide +kernel) (ns_iload_n 3 rfl rfl) rfl ?_
    refine nk_icond (c := .lt) (off := 12) (len := 3) (t := 188) (pc' := 179) mJ_33 (by decide +kernel) (by decide +kernel) rfl (fun hc => ?_) (fun hc => ?_)
    · have hr := nk_ifp (c := l3 < 0) hc hr
      refine nk_sub [1, 2, 3, 4, 5, 6, 7, 0] (L' := [(0, nk_r l0), (2, nk_i l2), (3, nk_i l3), (4, nk_i l4), (5, nk_i l5), (6, nk_i l6), (8, nk_i l8), (9, nk_i s0)]) rfl ?_
      exact ja_X10_cut_b188_ok zs hrec11 _ _ _ _ _ _ _ _ _ _ t_l0 hr
    · have hr := nk_ifn (c := l3 < 0) hc hr
      refine nk_p (i := .aload_n 0) (len := 1) (pc' := 180) mJ_33 (by decide +kernel) (ns_aload_n 1 rfl rfl) rfl ?_
      refine nk_p (i := .iload_n 3) (len := 1) (pc' := 181) mJ_33 (by decide +kernel) (ns_iload_n 3 rfl rfl) rfl ?_
      refine nk_p (i := .iload 6) (len := 2) (pc' := 183) mJ_33 (by decide +kernel) (ns_iload 6 rfl) rfl ?_
      obtain ⟨r1, S2, h3, hr⟩ := nk_bde hr
      refine nk_callV (ci := 10) (n := 2) (x := 107) (len := 3) (j' := 31) (q' := 0) (r := r1) (S' := S2) (L2 := [(0, nk_r l0), (1, nk_i l3), (2, nk_i l6)]) (rest := []) (st' := []) (pc' := 186) mJ_33 (by decide +kernel) (by decide +kernel) rfl rfl t_l0 (Nat.le_of_ble_eq_true rfl) mJ_31 (Nat.le_of_ble_eq_true rfl) rfl (ja_X10_addToken_ok zs _ _ _ _ _ t_l0 h3) rfl ?_
      refine nk_p (i := .iconst (-1)) (len := 1) (pc' := 187) mJ_33 (by decide +kernel) (ns_iconst (c := (-1)) (by decide +kernel)) rfl ?_
      refine nk_p (i := .istore_n 3) (len := 1) (pc' := 188) mJ_33 (by decide +kernel) (ns_istore_n (L' := [(3, nk_i (-1)), (9, nk_i s0), (0, nk_r l0), (2, nk_i l2), (4, nk_i l4), (5, nk_i l5), (6, nk_i l6), (8, nk_i l8)]) rfl rfl rfl (by decide +kernel)) rfl ?_
      refine nk_sub [2, 3, 0, 4, 5, 6, 7, 1] (L' := [(0, nk_r l0), (2, nk_i l2), (3, nk_i (-1)), (4, nk_i l4), (5, nk_i l5), (6, nk_i l6), (8, nk_i l8), (9, nk_i s0)]) rfl ?_
      exact ja_X10_cut_b188_ok zs hrec11 _ _ _ _ _ _ _ _ _ _ t_l0 hr
noncomputable def ja_X10_cut_b167 (rec11 : Nat → Int → Int → Int → Int → Int → nk_S → Option (Int × nk_S)) (l0 : Nat) (l2 : Int) (l3 : Int) (l4 : Int) (l5 : Int) (l6 : Int) (l8 : Int) (S : nk_S) : Option (Int × nk_S) :=
  ja_X10_cut_b168 rec11 l0 l2 l3 l4 l5 l6 l8 0 S
theorem ja_X10_cut_b167_ok (zs : List Int32) {rec11 : Nat → Int → Int → Int → Int → Int → nk_S → Option (Int × nk_S)} (hrec11 : ∀ (l0 : Nat) (l2 : Int) (l3 : Int) (l4 : Int) (l5 : Int) (l6 : Int) (S : nk_S) (R : Int × nk_S), nk_cl ja_Tt l0 = some 10 → rec11 l0 l2 l3 l4 l5 l6 S = some R → nk_K ja_Tt mi_Γ (mi_ev zs) 1 33 11 [(0, nk_r l0), (2, nk_i l2), (3, nk_i l3), (4, nk_i l4), (5, nk_i l5), (6, nk_i l6)] [] S R) : ∀ (l0 : Nat) (l2 : Int) (l3 : Int) (l4 : Int) (l5 : Int) (l6 : Int) (l8 : Int) (S : nk_S) (R : Int × nk_S), nk_cl ja_Tt l0 = some 10 → ja_X10_cut_b167 rec11 l0 l2 l3 l4 l5 l6 l8 S = some R → nk_K ja_Tt mi_Γ (mi_ev zs) 1 33 167 [(0, nk_r l0), (2, nk_i l2), (3, nk_i l3), (4, nk_i l4), (5, nk_i l5), (6, nk_i l6), (8, nk_i l8)] [] S R := by
  intro l0 l2 l3 l4 l5 l6 l8 S R t_l0 hr
  unfold ja_X10_cut_b167 at hr
  refine nk_p (i := .iconst 0) (len := 1) (pc' := 168) mJ_33 (by decide +kernel) (ns_iconst (c := 0) (by decide +kernel)) rfl ?_
  exact ja_X10_cut_b168_ok zs hrec11 _ _ _ _ _ _ _ _ _ _ t_l0 hr
noncomputable def ja_X10_cut_b139 (rec11 : Nat → Int → Int → Int → Int → Int → nk_S → Option (Int × nk_S)) (l0 : Nat) (l2 : Int) (l3 : Int) (l4 : Int) (l5 : Int) (l6 : Int) (l7 : Int) (s0 : Int) (S : nk_S) : Option (Int × nk_S) :=
  if l5 = 0 then
    ja_X10_cut_b167 rec11 l0 l2 l3 l4 l5 l6 s0 S
  else
    if l4 = 0 then
      if l7 ≤ 32 then
        ja_X10_cut_b167 rec11 l0 l2 l3 l4 l5 l6 s0 S
      else
        if s0 = 0 then
          ja_X10_cut_b168 rec11 l0 l2 l3 l4 l5 l6 s0 1 S
        else
          ja_X10_cut_b167 rec11 l0 l2 l3 l4 l5 l6 s0 S
    else
      ja_X10_cut_b167 rec11 l0 l2 l3 l4 l5 l6 s0 S
theorem ja_X10_cut_b139_ok (zs : List Int32) {rec11 : Nat → Int → Int → Int → Int → Int → nk_S → Option (Int × nk_S)} (hrec11 : ∀ (l0 : Nat) (l2 : Int) (l3 : Int) (l4 : Int) (l5 : Int) (l6 : Int) (S : nk_S) (R : Int × nk_S), nk_cl ja_Tt l0 = some 10 → rec11 l0 l2 l3 l4 l5 l6 S = some R → nk_K ja_Tt mi_Γ (mi_ev zs) 1 33 11 [(0, nk_r l0), (2, nk_i l2), (3, nk_i l3), (4, nk_i l4), (5, nk_i l5), (6, nk_i l6)] [] S R) : ∀ (l0 : Nat) (l2 : Int) (l3 : Int) (l4 : Int) (l5 : Int) (l6 : Int) (l7 : Int) (s0 : Int) (S : nk_S) (R : Int × nk_S), nk_cl ja_Tt l0 = some 10 → ja_X10_cut_b139 rec11 l0 l2 l3 l4 l5 l6 l7 s0 S = some R → nk_K ja_Tt mi_Γ (mi_ev zs) 1 33 139 [(0, nk_r l0), (2, nk_i l2), (3, nk_i l3), (4, nk_i l4), (5, nk_i l5), (6, nk_i l6), (7, nk_i l7)] [nk_i s0] S R := by
  intro l0 l2 l3 l4 l5 l6 l7 s0 S R t_l0 hr
  unfold ja_X10_cut_b139 at hr
  refine nk_p (i := .istore 8) (len := 2) (pc' := 141) mJ_33 (by decide +kernel) (ns_istore (L' := [(8, nk_i s0), (0, nk_r l0), (2, nk_i l2), (3, nk_i l3), (4, nk_i l4), (5, nk_i l5), (6, nk_i l6), (7, nk_i l7)]) rfl rfl (by decide +kernel)) rfl ?_
  refine nk_p (i := .iload 5) (len := 2) (pc' := 143) mJ_33 (by decide +kernel) (ns_iload 5 rfl) rfl ?_
  refine nk_icond (c := .eq) (off := 24) (len := 3) (t := 167) (pc' := 146) mJ_33 (by decide +kernel) (by decide +kernel) rfl (fun hc => ?_) (fun hc => ?_)
  · have hr := nk_ifp (c := l5 = 0) hc hr
    refine nk_sub [1, 2, 3, 4, 5, 6, 0] (L' := [(0, nk_r l0), (2, nk_i l2), (3, nk_i l3), (4, nk_i l4), (5, nk_i l5), (6, nk_i l6), (8, nk_i s0)]) rfl ?_
    exact ja_X10_cut_b167_ok zs hrec11 _ _ _ _ _ _ _ _ _ t_l0 hr
  · have hr := nk_ifn (c := l5 = 0) hc hr
    refine nk_p (i := .iload 4) (len := 2) (pc' := 148) mJ_33 (by decide +kernel) (ns_iload 4 rfl) rfl ?_
    refine nk_icond (c := .ne) (off := 19) (len := 3) (t := 167) (pc' := 151) mJ_33 (by decide +kernel) (by decide +kernel) rfl (fun hc => ?_) (fun hc => ?_)
    · have hr := nk_ifn (c := l4 = 0) hc hr
      refine nk_sub [1, 2, 3, 4, 5, 6, 0] (L' := [(0, nk_r l0), (2, nk_i l2), (3, nk_i l3), (4, nk_i l4), (5, nk_i l5), (6, nk_i l6), (8, nk_i s0)]) rfl ?_
      exact ja_X10_cut_b167_ok zs hrec11 _ _ _ _ _ _ _ _ _ t_l0 hr
    · have hr := nk_ifp (c := l4 = 0) (Decidable.of_not_not hc) hr
      refine nk_p (i := .iload 7) (len := 2) (pc' := 153) mJ_33 (by decide +kernel) (ns_iload 7 rfl) rfl ?_
      refine nk_p (i := .bipush 32) (len := 2) (pc' := 155) mJ_33 (by decide +kernel) (ns_bipush (c := 32) (by decide +kernel)) rfl ?_
      refine nk_icmp (c := .le) (off := 12) (len := 3) (t := 167) (pc' := 158) mJ_33 (by decide +kernel) (by decide +kernel) rfl (fun hc => ?_) (fun hc => ?_)
      · have hr := nk_ifp (c := l7 ≤ 32) hc hr
        refine nk_sub [1, 2, 3, 4, 5, 6, 0] (L' := [(0, nk_r l0), (2, nk_i l2), (3, nk_i l3), (4, nk_i l4), (5, nk_i l5), (6, nk_i l6), (8, nk_i s0)]) rfl ?_
        exact ja_X10_cut_b167_ok zs hrec11 _ _ _ _ _ _ _ _ _ t_l0 hr
      · have hr := nk_ifn (c := l7 ≤ 32) hc hr
        refine nk_p (i := .iload 8) (len := 2) (pc' := 160) mJ_33 (by decide +kernel) (ns_iload 0 rfl) rfl ?_
        refine nk_icond (c := .ne) (off := 7) (len := 3) (t := 167) (pc' := 163) mJ_33 (by decide +kernel) (by decide +kernel) rfl (fun hc => ?_) (fun hc => ?_)
        · have hr := nk_ifn (c := s0 = 0) hc hr
          refine nk_sub [1, 2, 3, 4, 5, 6, 0] (L' := [(0, nk_r l0), (2, nk_i l2), (3, nk_i l3), (4, nk_i l4), (5, nk_i l5), (6, nk_i l6), (8, nk_i s0)]) rfl ?_
          exact ja_X10_cut_b167_ok zs hrec11 _ _ _ _ _ _ _ _ _ t_l0 hr
        · have hr := nk_ifp (c := s0 = 0) (Decidable.of_not_not hc) hr
          refine nk_p (i := .iconst 1) (len := 1) (pc' := 164) mJ_33 (by decide +kernel) (ns_iconst (c := 1) (by decide +kernel)) rfl ?_
          refine nk_p (i := .goto 4) (len := 3) (pc' := 168) mJ_33 (by decide +kernel) (ns_goto (by decide +kernel)) rfl ?_
          refine nk_sub [1, 2, 3, 4, 5, 6, 0] (L' := [(0, nk_r l0), (2, nk_i l2), (3, nk_i l3), (4, nk_i l4), (5, nk_i l5), (6, nk_i l6), (8, nk_i s0)]) rfl ?_
          exact ja_X10_cut_b168_ok zs hrec11 _ _ _ _ _ _ _ _ _ _ t_l0 hr
noncomputable def ja_X10_cut_b134 (rec11 : Nat → Int → Int → Int → Int → Int → nk_S → Option (Int × nk_S)) (l0 : Nat) (l2 : Int) (l3 : Int) (l4 : Int) (l5 : Int) (l6 : Int) (l7 : Int) (S : nk_S) : Option (Int × nk_S) :=
  ja_X10_cut_b139 rec11 l0 l2 l3 l4 l5 l6 l7 1 S
theorem ja_X10_cut_b134_ok (zs : List Int32) {rec11 : Nat → Int → Int → Int → Int → Int → nk_S → Option (Int × nk_S)} (hrec11 : ∀ (l0 : Nat) (l2 : Int) (l3 : Int) (l4 : Int) (l5 : Int) (l6 : Int) (S : nk_S) (R : Int × nk_S), nk_cl ja_Tt l0 = some 10 → rec11 l0 l2 l3 l4 l5 l6 S = some R → nk_K ja_Tt mi_Γ (mi_ev zs) 1 33 11 [(0, nk_r l0), (2, nk_i l2), (3, nk_i l3), (4, nk_i l4), (5, nk_i l5), (6, nk_i l6)] [] S R) : ∀ (l0 : Nat) (l2 : Int) (l3 : Int) (l4 : Int) (l5 : Int) (l6 : Int) (l7 : Int) (S : nk_S) (R : Int × nk_S), nk_cl ja_Tt l0 = some 10 → ja_X10_cut_b134 rec11 l0 l2 l3 l4 l5 l6 l7 S = some R → nk_K ja_Tt mi_Γ (mi_ev zs) 1 33 134 [(0, nk_r l0), (2, nk_i l2), (3, nk_i l3), (4, nk_i l4), (5, nk_i l5), (6, nk_i l6), (7, nk_i l7)] [] S R := by
  intro l0 l2 l3 l4 l5 l6 l7 S R t_l0 hr
  unfold ja_X10_cut_b134 at hr
  refine nk_p (i := .iconst 1) (len := 1) (pc' := 135) mJ_33 (by decide +kernel) (ns_iconst (c := 1) (by decide +kernel)) rfl ?_
  refine nk_p (i := .goto 4) (len := 3) (pc' := 139) mJ_33 (by decide +kernel) (ns_goto (by decide +kernel)) rfl ?_
  exact ja_X10_cut_b139_ok zs hrec11 _ _ _ _ _ _ _ _ _ _ t_l0 hr
noncomputable def ja_X10_cut_b97 (rec11 : Nat → Int → Int → Int → Int → Int → nk_S → Option (Int × nk_S)) (l0 : Nat) (l2 : Int) (l3 : Int) (l5 : Int) (l6 : Int) (l7 : Int) (s0 : Int) (S : nk_S) : Option (Int × nk_S) :=
  if l7 = 40 then
    ja_X10_cut_b134 rec11 l0 l2 l3 s0 l5 l6 l7 S
  else
    if l7 = 41 then
      ja_X10_cut_b134 rec11 l0 l2 l3 s0 l5 l6 l7 S
    else
      if l7 = 123 then
        ja_X10_cut_b134 rec11 l0 l2 l3 s0 l5 l6 l7 S
      else
        if l7 = 125 then
          ja_X10_cut_b134 rec11 l0 l2 l3 s0 l5 l6 l7 S
        else
          if l7 = 58 then
            ja_X10_cut_b134 rec11 l0 l2 l3 s0 l5 l6 l7 S
          else
            ja_X10_cut_b139 rec11 l0 l2 l3 s0 l5 l6 l7 0 S
theorem ja_X10_cut_b97_ok (zs : List Int32) {rec11 : Nat → Int → Int → Int → Int → Int → nk_S → Option (Int × nk_S)} (hrec11 : ∀ (l0 : Nat) (l2 : Int) (l3 : Int) (l4 : Int) (l5 : Int) (l6 : Int) (S : nk_S) (R : Int × nk_S), nk_cl ja_Tt l0 = some 10 → rec11 l0 l2 l3 l4 l5 l6 S = some R → nk_K ja_Tt mi_Γ (mi_ev zs) 1 33 11 [(0, nk_r l0), (2, nk_i l2), (3, nk_i l3), (4, nk_i l4), (5, nk_i l5), (6, nk_i l6)] [] S R) : ∀ (l0 : Nat) (l2 : Int) (l3 : Int) (l5 : Int) (l6 : Int) (l7 : Int) (s0 : Int) (S : nk_S) (R : Int × nk_S), nk_cl ja_Tt l0 = some 10 → ja_X10_cut_b97 rec11 l0 l2 l3 l5 l6 l7 s0 S = some R → nk_K ja_Tt mi_Γ (mi_ev zs) 1 33 97 [(0, nk_r l0), (2, nk_i l2), (3, nk_i l3), (5, nk_i l5), (6, nk_i l6), (7, nk_i l7)] [nk_i s0] S R := by
  intro l0 l2 l3 l5 l6 l7 s0 S R t_l0 hr
  unfold ja_X10_cut_b97 at hr
  refine nk_p (i := .istore 4) (len := 2) (pc' := 99) mJ_33 (by decide +kernel) (ns_istore (L' := [(4, nk_i s0), (0, nk_r l0), (2, nk_i l2), (3, nk_i l3), (5, nk_i l5), (6, nk_i l6), (7, nk_i l7)]) rfl rfl (by decide +kernel)) rfl ?_
  refine nk_p (i := .iload 7) (len := 2) (pc' := 101) mJ_33 (by decide +kernel) (ns_iload 6 rfl) rfl ?_
  refine nk_p (i := .bipush 40) (len := 2) (pc' := 103) mJ_33 (by decide +kernel) (ns_bipush (c := 40) (by decide +kernel)) rfl ?_
  refine nk_icmp (c := .eq) (off := 31) (len := 3) (t := 134) (pc' := 106) mJ_33 (by decide +kernel) (by decide +kernel) rfl (fun hc => ?_) (fun hc => ?_)
  · have hr := nk_ifp (c := l7 = 40) hc hr
    refine nk_sub [1, 2, 3, 0, 4, 5, 6] (L' := [(0, nk_r l0), (2, nk_i l2), (3, nk_i l3), (4, nk_i s0), (5, nk_i l5), (6, nk_i l6), (7, nk_i l7)]) rfl ?_
    exact ja_X10_cut_b134_ok zs hrec11 _ _ _ _ _ _ _ _ _ t_l0 hr
  · have hr := nk_ifn (c := l7 = 40) hc hr
    refine nk_p (i := .iload 7) (len := 2) (pc' := 108) mJ_33 (by decide +kernel) (ns_iload 6 rfl) rfl ?_
    refine nk_p (i := .bipush 41) (len := 2) (pc' := 110) mJ_33 (by decide +kernel) (ns_bipush (c := 41) (by decide +kernel)) rfl ?_
    refine nk_icmp (c := .eq) (off := 24) (len := 3) (t := 134) (pc' := 113) mJ_33 (by decide +kernel) (by decide +kernel) rfl (fun hc => ?_) (fun hc => ?_)
    · have hr := nk_ifp (c := l7 = 41) hc hr
      refine nk_sub [1, 2, 3, 0, 4, 5, 6] (L' := [(0, nk_r l0), (2, nk_i l2), (3, nk_i l3), (4, nk_i s0), (5, nk_i l5), (6, nk_i l6), (7, nk_i l7)]) rfl ?_
      exact ja_X10_cut_b134_ok zs hrec11 _ _ _ _ _ _ _ _ _ t_l0 hr
    · have hr := nk_ifn (c := l7 = 41) hc hr
      refine nk_p (i := .iload 7) (len := 2) (pc' := 115) mJ_33 (by decide +kernel) (ns_iload 6 rfl) rfl ?_
      refine nk_p (i := .bipush 123) (len := 2) (pc' := 117) mJ_33 (by decide +kernel) (ns_bipush (c := 123) (by decide +kernel)) rfl ?_
      refine nk_icmp (c := .eq) (off := 17) (len := 3) (t := 134) (pc' := 120) mJ_33 (by decide +kernel) (by decide +kernel) rfl (fun hc => ?_) (fun hc => ?_)
      · have hr := nk_ifp (c := l7 = 123) hc hr
        refine nk_sub [1, 2, 3, 0, 4, 5, 6] (L' := [(0, nk_r l0), (2, nk_i l2), (3, nk_i l3), (4, nk_i s0), (5, nk_i l5), (6, nk_i l6), (7, nk_i l7)]) rfl ?_
        exact ja_X10_cut_b134_ok zs hrec11 _ _ _ _ _ _ _ _ _ t_l0 hr
      · have hr := nk_ifn (c := l7 = 123) hc hr
        refine nk_p (i := .iload 7) (len := 2) (pc' := 122) mJ_33 (by decide +kernel) (ns_iload 6 rfl) rfl ?_
        refine nk_p (i := .bipush 125) (len := 2) (pc' := 124) mJ_33 (by decide +kernel) (ns_bipush (c := 125) (by decide +kernel)) rfl ?_
        refine nk_icmp (c := .eq) (off := 10) (len := 3) (t := 134) (pc' := 127) mJ_33 (by decide +kernel) (by decide +kernel) rfl (fun hc => ?_) (fun hc => ?_)
        · have hr := nk_ifp (c := l7 = 125) hc hr
          refine nk_sub [1, 2, 3, 0, 4, 5, 6] (L' := [(0, nk_r l0), (2, nk_i l2), (3, nk_i l3), (4, nk_i s0), (5, nk_i l5), (6, nk_i l6), (7, nk_i l7)]) rfl ?_
          exact ja_X10_cut_b134_ok zs hrec11 _ _ _ _ _ _ _ _ _ t_l0 hr
        · have hr := nk_ifn (c := l7 = 125) hc hr
          refine nk_p (i := .iload 7) (len := 2) (pc' := 129) mJ_33 (by decide +kernel) (ns_iload 6 rfl) rfl ?_
          refine nk_p (i := .bipush 58) (len := 2) (pc' := 131) mJ_33 (by decide +kernel) (ns_bipush (c := 58) (by decide +kernel)) rfl ?_
          refine nk_icmp (c := .ne) (off := 7) (len := 3) (t := 138) (pc' := 134) mJ_33 (by decide +kernel) (by decide +kernel) rfl (fun hc => ?_) (fun hc => ?_)
          · have hr := nk_ifn (c := l7 = 58) hc hr
            refine nk_p (i := .iconst 0) (len := 1) (pc' := 139) mJ_33 (by decide +kernel) (ns_iconst (c := 0) (by decide +kernel)) rfl ?_
            refine nk_sub [1, 2, 3, 0, 4, 5, 6] (L' := [(0, nk_r l0), (2, nk_i l2), (3, nk_i l3), (4, nk_i s0), (5, nk_i l5), (6, nk_i l6), (7, nk_i l7)]) rfl ?_
            exact ja_X10_cut_b139_ok zs hrec11 _ _ _ _ _ _ _ _ _ _ t_l0 hr
          · have hr := nk_ifp (c := l7 = 58) (Decidable.of_not_not hc) hr
            refine nk_sub [1, 2, 3, 0, 4, 5, 6] (L' := [(0, nk_r l0), (2, nk_i l2), (3, nk_i l3), (4, nk_i s0), (5, nk_i l5), (6, nk_i l6), (7, nk_i l7)]) rfl ?_
            exact ja_X10_cut_b134_ok zs hrec11 _ _ _ _ _ _ _ _ _ t_l0 hr
noncomputable def ja_X10_cut_b92 (rec11 : Nat → Int → Int → Int → Int → Int → nk_S → Option (Int × nk_S)) (l0 : Nat) (l2 : Int) (l3 : Int) (l5 : Int) (l6 : Int) (l7 : Int) (S : nk_S) : Option (Int × nk_S) :=
  ja_X10_cut_b97 rec11 l0 l2 l3 l5 l6 l7 1 S
theorem ja_X10_cut_b92_ok (zs : List Int32) {rec11 : Nat → Int → Int → Int → Int → Int → nk_S → Option (Int × nk_S)} (hrec11 : ∀ (l0 : Nat) (l2 : Int) (l3 : Int) (l4 : Int) (l5 : Int) (l6 : Int) (S : nk_S) (R : Int × nk_S), nk_cl ja_Tt l0 = some 10 → rec11 l0 l2 l3 l4 l5 l6 S = some R → nk_K ja_Tt mi_Γ (mi_ev zs) 1 33 11 [(0, nk_r l0), (2, nk_i l2), (3, nk_i l3), (4, nk_i l4), (5, nk_i l5), (6, nk_i l6)] [] S R) : ∀ (l0 : Nat) (l2 : Int) (l3 : Int) (l5 : Int) (l6 : Int) (l7 : Int) (S : nk_S) (R : Int × nk_S), nk_cl ja_Tt l0 = some 10 → ja_X10_cut_b92 rec11 l0 l2 l3 l5 l6 l7 S = some R → nk_K ja_Tt mi_Γ (mi_ev zs) 1 33 92 [(0, nk_r l0), (2, nk_i l2), (3, nk_i l3), (5, nk_i l5), (6, nk_i l6), (7, nk_i l7)] [] S R := by
  intro l0 l2 l3 l5 l6 l7 S R t_l0 hr
  unfold ja_X10_cut_b92 at hr
  refine nk_p (i := .iconst 1) (len := 1) (pc' := 93) mJ_33 (by decide +kernel) (ns_iconst (c := 1) (by decide +kernel)) rfl ?_
  refine nk_p (i := .goto 4) (len := 3) (pc' := 97) mJ_33 (by decide +kernel) (ns_goto (by decide +kernel)) rfl ?_
  exact ja_X10_cut_b97_ok zs hrec11 _ _ _ _ _ _ _ _ _ t_l0 hr
noncomputable def ja_X10_cut_b96 (rec11 : Nat → Int → Int → Int → Int → Int → nk_S → Option (Int × nk_S)) (l0 : Nat) (l2 : Int) (l3 : Int) (l5 : Int) (l6 : Int) (l7 : Int) (S : nk_S) : Option (Int × nk_S) :=
  ja_X10_cut_b97 rec11 l0 l2 l3 l5 l6 l7 0 S
theorem ja_X10_cut_b96_ok (zs : List Int32) {rec11 : Nat → Int → Int → Int → Int → Int → nk_S → Option (Int × nk_S)} (hrec11 : ∀ (l0 : Nat) (l2 : Int) (l3 : Int) (l4 : Int) (l5 : Int) (l6 : Int) (S : nk_S) (R : Int × nk_S), nk_cl ja_Tt l0 = some 10 → rec11 l0 l2 l3 l4 l5 l6 S = some R → nk_K ja_Tt mi_Γ (mi_ev zs) 1 33 11 [(0, nk_r l0), (2, nk_i l2), (3, nk_i l3), (4, nk_i l4), (5, nk_i l5), (6, nk_i l6)] [] S R) : ∀ (l0 : Nat) (l2 : Int) (l3 : Int) (l5 : Int) (l6 : Int) (l7 : Int) (S : nk_S) (R : Int × nk_S), nk_cl ja_Tt l0 = some 10 → ja_X10_cut_b96 rec11 l0 l2 l3 l5 l6 l7 S = some R → nk_K ja_Tt mi_Γ (mi_ev zs) 1 33 96 [(0, nk_r l0), (2, nk_i l2), (3, nk_i l3), (5, nk_i l5), (6, nk_i l6), (7, nk_i l7)] [] S R := by
  intro l0 l2 l3 l5 l6 l7 S R t_l0 hr
  unfold ja_X10_cut_b96 at hr
  refine nk_p (i := .iconst 0) (len := 1) (pc' := 97) mJ_33 (by decide +kernel) (ns_iconst (c := 0) (by decide +kernel)) rfl ?_
  exact ja_X10_cut_b97_ok zs hrec11 _ _ _ _ _ _ _ _ _ t_l0 hr
noncomputable def ja_X10_cut_b71 (rec11 : Nat → Int → Int → Int → Int → Int → nk_S → Option (Int × nk_S)) (l0 : Nat) (l2 : Int) (l3 : Int) (l4 : Int) (l6 : Int) (l7 : Int) (s0 : Int) (S : nk_S) : Option (Int × nk_S) :=
  if l7 = 59 then
    ja_X10_cut_b92 rec11 l0 l2 l3 s0 l6 l7 S
  else
    if l4 = 0 then
      ja_X10_cut_b96 rec11 l0 l2 l3 s0 l6 l7 S
    else
      if l7 = 10 then
        ja_X10_cut_b96 rec11 l0 l2 l3 s0 l6 l7 S
      else
        ja_X10_cut_b92 rec11 l0 l2 l3 s0 l6 l7 S
theorem ja_X10_cut_b71_ok (zs : List Int32) {rec11 : Nat → Int → Int → Int → Int → Int → nk_S → Option (Int × nk_S)} (hrec11 : ∀ (l0 : Nat) (l2 : Int) (l3 : Int) (l4 : Int) (l5 : Int) (l6 : Int) (S : nk_S) (R : Int × nk_S), nk_cl ja_Tt l0 = some 10 → rec11 l0 l2 l3 l4 l5 l6 S = some R → nk_K ja_Tt mi_Γ (mi_ev zs) 1 33 11 [(0, nk_r l0), (2, nk_i l2), (3, nk_i l3), (4, nk_i l4), (5, nk_i l5), (6, nk_i l6)] [] S R) : ∀ (l0 : Nat) (l2 : Int) (l3 : Int) (l4 : Int) (l6 : Int) (l7 : Int) (s0 : Int) (S : nk_S) (R : Int × nk_S), nk_cl ja_Tt l0 = some 10 → ja_X10_cut_b71 rec11 l0 l2 l3 l4 l6 l7 s0 S = some R → nk_K ja_Tt mi_Γ (mi_ev zs) 1 33 71 [(0, nk_r l0), (2, nk_i l2), (3, nk_i l3), (4, nk_i l4), (6, nk_i l6), (7, nk_i l7)] [nk_i s0] S R := by
  intro l0 l2 l3 l4 l6 l7 s0 S R t_l0 hr
  unfold ja_X10_cut_b71 at hr
  refine nk_p (i := .istore 5) (len := 2) (pc' := 73) mJ_33 (by decide +kernel) (ns_istore (L' := [(5, nk_i s0), (0, nk_r l0), (2, nk_i l2), (3, nk_i l3), (4, nk_i l4), (6, nk_i l6), (7, nk_i l7)]) rfl rfl (by decide +kernel)) rfl ?_
  refine nk_p (i := .iload 7) (len := 2) (pc' := 75) mJ_33 (by decide +kernel) (ns_iload 6 rfl) rfl ?_
  refine nk_p (i := .bipush 59) (len := 2) (pc' := 77) mJ_33 (by decide +kernel) (ns_bipush (c := 59) (by decide +kernel)) rfl ?_
  refine nk_icmp (c := .eq) (off := 15) (len := 3) (t := 92) (pc' := 80) mJ_33 (by decide +kernel) (by decide +kernel) rfl (fun hc => ?_) (fun hc => ?_)
  · have hr := nk_ifp (c := l7 = 59) hc hr
    refine nk_sub [1, 2, 3, 0, 5, 6] (L' := [(0, nk_r l0), (2, nk_i l2), (3, nk_i l3), (5, nk_i s0), (6, nk_i l6), (7, nk_i l7)]) rfl ?_
    exact ja_X10_cut_b92_ok zs hrec11 _ _ _ _ _ _ _ _ t_l0 hr
  · have hr := nk_ifn (c := l7 = 59) hc hr
    refine nk_p (i := .iload 4) (len := 2) (pc' := 82) mJ_33 (by decide +kernel) (ns_iload 4 rfl) rfl ?_
    refine nk_icond (c := .eq) (off := 14) (len := 3) (t := 96) (pc' := 85) mJ_33 (by decide +kernel) (by decide +kernel) rfl (fun hc => ?_) (fun hc => ?_)
    · have hr := nk_ifp (c := l4 = 0) hc hr
      refine nk_sub [1, 2, 3, 0, 5, 6] (L' := [(0, nk_r l0), (2, nk_i l2), (3, nk_i l3), (5, nk_i s0), (6, nk_i l6), (7, nk_i l7)]) rfl ?_
      exact ja_X10_cut_b96_ok zs hrec11 _ _ _ _ _ _ _ _ t_l0 hr
    · have hr := nk_ifn (c := l4 = 0) hc hr
      refine nk_p (i := .iload 7) (len := 2) (pc' := 87) mJ_33 (by decide +kernel) (ns_iload 6 rfl) rfl ?_
      refine nk_p (i := .bipush 10) (len := 2) (pc' := 89) mJ_33 (by decide +kernel) (ns_bipush (c := 10) (by decide +kernel)) rfl ?_
      refine nk_icmp (c := .eq) (off := 7) (len := 3) (t := 96) (pc' := 92) mJ_33 (by decide +kernel) (by decide +kernel) rfl (fun hc => ?_) (fun hc => ?_)
      · have hr := nk_ifp (c := l7 = 10) hc hr
        refine nk_sub [1, 2, 3, 0, 5, 6] (L' := [(0, nk_r l0), (2, nk_i l2), (3, nk_i l3), (5, nk_i s0), (6, nk_i l6), (7, nk_i l7)]) rfl ?_
        exact ja_X10_cut_b96_ok zs hrec11 _ _ _ _ _ _ _ _ t_l0 hr
      · have hr := nk_ifn (c := l7 = 10) hc hr
        refine nk_sub [1, 2, 3, 0, 5, 6] (L' := [(0, nk_r l0), (2, nk_i l2), (3, nk_i l3), (5, nk_i s0), (6, nk_i l6), (7, nk_i l7)]) rfl ?_
        exact ja_X10_cut_b92_ok zs hrec11 _ _ _ _ _ _ _ _ t_l0 hr
noncomputable def ja_X10_cut_b66 (rec11 : Nat → Int → Int → Int → Int → Int → nk_S → Option (Int × nk_S)) (l0 : Nat) (l2 : Int) (l3 : Int) (l4 : Int) (l6 : Int) (l7 : Int) (S : nk_S) : Option (Int × nk_S) :=
  ja_X10_cut_b71 rec11 l0 l2 l3 l4 l6 l7 1 S
theorem ja_X10_cut_b66_ok (zs : List Int32) {rec11 : Nat → Int → Int → Int → Int → Int → nk_S → Option (Int × nk_S)} (hrec11 : ∀ (l0 : Nat) (l2 : Int) (l3 : Int) (l4 : Int) (l5 : Int) (l6 : Int) (S : nk_S) (R : Int × nk_S), nk_cl ja_Tt l0 = some 10 → rec11 l0 l2 l3 l4 l5 l6 S = some R → nk_K ja_Tt mi_Γ (mi_ev zs) 1 33 11 [(0, nk_r l0), (2, nk_i l2), (3, nk_i l3), (4, nk_i l4), (5, nk_i l5), (6, nk_i l6)] [] S R) : ∀ (l0 : Nat) (l2 : Int) (l3 : Int) (l4 : Int) (l6 : Int) (l7 : Int) (S : nk_S) (R : Int × nk_S), nk_cl ja_Tt l0 = some 10 → ja_X10_cut_b66 rec11 l0 l2 l3 l4 l6 l7 S = some R → nk_K ja_Tt mi_Γ (mi_ev zs) 1 33 66 [(0, nk_r l0), (2, nk_i l2), (3, nk_i l3), (4, nk_i l4), (6, nk_i l6), (7, nk_i l7)] [] S R := by
  intro l0 l2 l3 l4 l6 l7 S R t_l0 hr
  unfold ja_X10_cut_b66 at hr
  refine nk_p (i := .iconst 1) (len := 1) (pc' := 67) mJ_33 (by decide +kernel) (ns_iconst (c := 1) (by decide +kernel)) rfl ?_
  refine nk_p (i := .goto 4) (len := 3) (pc' := 71) mJ_33 (by decide +kernel) (ns_goto (by decide +kernel)) rfl ?_
  exact ja_X10_cut_b71_ok zs hrec11 _ _ _ _ _ _ _ _ _ t_l0 hr
noncomputable def ja_X10_cut_b45 (rec11 : Nat → Int → Int → Int → Int → Int → nk_S → Option (Int × nk_S)) (l0 : Nat) (l2 : Int) (l3 : Int) (l4 : Int) (l6 : Int) (l7 : Int) (S : nk_S) : Option (Int × nk_S) :=
  if l7 = 9 then
    ja_X10_cut_b66 rec11 l0 l2 l3 l4 l6 l7 S
  else
    if l7 = 10 then
      ja_X10_cut_b66 rec11 l0 l2 l3 l4 l6 l7 S
    else
      if l7 = 13 then
        ja_X10_cut_b66 rec11 l0 l2 l3 l4 l6 l7 S
      else
        ja_X10_cut_b71 rec11 l0 l2 l3 l4 l6 l7 0 S
theorem ja_X10_cut_b45_ok (zs : List Int32) {rec11 : Nat → Int → Int → Int → Int → Int → nk_S → Option (Int × nk_S)} (hrec11 : ∀ (l0 : Nat) (l2 : Int) (l3 : Int) (l4 : Int) (l5 : Int) (l6 : Int) (S : nk_S) (R : Int × nk_S), nk_cl ja_Tt l0 = some 10 → rec11 l0 l2 l3 l4 l5 l6 S = some R → nk_K ja_Tt mi_Γ (mi_ev zs) 1 33 11 [(0, nk_r l0), (2, nk_i l2), (3, nk_i l3), (4, nk_i l4), (5, nk_i l5), (6, nk_i l6)] [] S R) : ∀ (l0 : Nat) (l2 : Int) (l3 : Int) (l4 : Int) (l6 : Int) (l7 : Int) (S : nk_S) (R : Int × nk_S), nk_cl ja_Tt l0 = some 10 → ja_X10_cut_b45 rec11 l0 l2 l3 l4 l6 l7 S = some R → nk_K ja_Tt mi_Γ (mi_ev zs) 1 33 45 [(0, nk_r l0), (2, nk_i l2), (3, nk_i l3), (4, nk_i l4), (6, nk_i l6), (7, nk_i l7)] [] S R := by
  intro l0 l2 l3 l4 l6 l7 S R t_l0 hr
  unfold ja_X10_cut_b45 at hr
  refine nk_p (i := .iload 7) (len := 2) (pc' := 47) mJ_33 (by decide +kernel) (ns_iload 5 rfl) rfl ?_
  refine nk_p (i := .bipush 9) (len := 2) (pc' := 49) mJ_33 (by decide +kernel) (ns_bipush (c := 9) (by decide +kernel)) rfl ?_
  refine nk_icmp (c := .eq) (off := 17) (len := 3) (t := 66) (pc' := 52) mJ_33 (by decide +kernel) (by decide +kernel) rfl (fun hc => ?_) (fun hc => ?_)
  · have hr := nk_ifp (c := l7 = 9) hc hr
    exact ja_X10_cut_b66_ok zs hrec11 _ _ _ _ _ _ _ _ t_l0 hr
  · have hr := nk_ifn (c := l7 = 9) hc hr
    refine nk_p (i := .iload 7) (len := 2) (pc' := 54) mJ_33 (by decide +kernel) (ns_iload 5 rfl) rfl ?_
    refine nk_p (i := .bipush 10) (len := 2) (pc' := 56) mJ_33 (by decide +kernel) (ns_bipush (c := 10) (by decide +kernel)) rfl ?_
    refine nk_icmp (c := .eq) (off := 10) (len := 3) (t := 66) (pc' := 59) mJ_33 (by decide +kernel) (by decide +kernel) rfl (fun hc => ?_) (fun hc => ?_)
    · have hr := nk_ifp (c := l7 = 10) hc hr
      exact ja_X10_cut_b66_ok zs hrec11 _ _ _ _ _ _ _ _ t_l0 hr
    · have hr := nk_ifn (c := l7 = 10) hc hr
      refine nk_p (i := .iload 7) (len := 2) (pc' := 61) mJ_33 (by decide +kernel) (ns_iload 5 rfl) rfl ?_
      refine nk_p (i := .bipush 13) (len := 2) (pc' := 63) mJ_33 (by decide +kernel) (ns_bipush (c := 13) (by decide +kernel)) rfl ?_
      refine nk_icmp (c := .ne) (off := 7) (len := 3) (t := 70) (pc' := 66) mJ_33 (by decide +kernel) (by decide +kernel) rfl (fun hc => ?_) (fun hc => ?_)
      · have hr := nk_ifn (c := l7 = 13) hc hr
        refine nk_p (i := .iconst 0) (len := 1) (pc' := 71) mJ_33 (by decide +kernel) (ns_iconst (c := 0) (by decide +kernel)) rfl ?_
        exact ja_X10_cut_b71_ok zs hrec11 _ _ _ _ _ _ _ _ _ t_l0 hr
      · have hr := nk_ifp (c := l7 = 13) (Decidable.of_not_not hc) hr
        exact ja_X10_cut_b66_ok zs hrec11 _ _ _ _ _ _ _ _ t_l0 hr
noncomputable def ja_X10_cut_b11 (rec11 : Nat → Int → Int → Int → Int → Int → nk_S → Option (Int × nk_S)) (l0 : Nat) (l2 : Int) (l3 : Int) (l4 : Int) (l5 : Int) (l6 : Int) (S : nk_S) : Option (Int × nk_S) :=
  if l5 = 0 then
    ja_X10_cut_b226 l0 l3 l5 l6 S
  else
    if l2 ≤ l6 then
      ja_X10_cut_b226 l0 l3 l5 l6 S
    else
      if 0 ≤ l6 ∧ l6 < 16512 then
      nk_lt (S.1 (ja_c l0 0) l6.toNat) fun v3 =>
      if v3 < 32 then
        ja_X10_cut_b45 rec11 l0 l2 l3 l4 l6 v3 S
      else
        if v3 ≤ 126 then
          ja_X10_cut_b66 rec11 l0 l2 l3 l4 l6 v3 S
        else
          ja_X10_cut_b45 rec11 l0 l2 l3 l4 l6 v3 S
      else none
theorem ja_X10_cut_b11_ok (zs : List Int32) {rec11 : Nat → Int → Int → Int → Int → Int → nk_S → Option (Int × nk_S)} (hrec11 : ∀ (l0 : Nat) (l2 : Int) (l3 : Int) (l4 : Int) (l5 : Int) (l6 : Int) (S : nk_S) (R : Int × nk_S), nk_cl ja_Tt l0 = some 10 → rec11 l0 l2 l3 l4 l5 l6 S = some R → nk_K ja_Tt mi_Γ (mi_ev zs) 1 33 11 [(0, nk_r l0), (2, nk_i l2), (3, nk_i l3), (4, nk_i l4), (5, nk_i l5), (6, nk_i l6)] [] S R) : ∀ (l0 : Nat) (l2 : Int) (l3 : Int) (l4 : Int) (l5 : Int) (l6 : Int) (S : nk_S) (R : Int × nk_S), nk_cl ja_Tt l0 = some 10 → ja_X10_cut_b11 rec11 l0 l2 l3 l4 l5 l6 S = some R → nk_K ja_Tt mi_Γ (mi_ev zs) 1 33 11 [(0, nk_r l0), (2, nk_i l2), (3, nk_i l3), (4, nk_i l4), (5, nk_i l5), (6, nk_i l6)] [] S R := by
  intro l0 l2 l3 l4 l5 l6 S R t_l0 hr
  unfold ja_X10_cut_b11 at hr
  refine nk_p (i := .iload 5) (len := 2) (pc' := 13) mJ_33 (by decide +kernel) (ns_iload 4 rfl) rfl ?_
  refine nk_icond (c := .eq) (off := 213) (len := 3) (t := 226) (pc' := 16) mJ_33 (by decide +kernel) (by decide +kernel) rfl (fun hc => ?_) (fun hc => ?_)
  · have hr := nk_ifp (c := l5 = 0) hc hr
    refine nk_sub [0, 2, 4, 5] (L' := [(0, nk_r l0), (3, nk_i l3), (5, nk_i l5), (6, nk_i l6)]) rfl ?_
    exact ja_X10_cut_b226_ok zs _ _ _ _ _ _ t_l0 hr
  · have hr := nk_ifn (c := l5 = 0) hc hr
    refine nk_p (i := .iload 6) (len := 2) (pc' := 18) mJ_33 (by decide +kernel) (ns_iload 5 rfl) rfl ?_
    refine nk_p (i := .iload_n 2) (len := 1) (pc' := 19) mJ_33 (by decide +kernel) (ns_iload_n 1 rfl rfl) rfl ?_
    refine nk_icmp (c := .ge) (off := 207) (len := 3) (t := 226) (pc' := 22) mJ_33 (by decide +kernel) (by decide +kernel) rfl (fun hc => ?_) (fun hc => ?_)
    · have hr := nk_ifp (c := l2 ≤ l6) hc hr
      refine nk_sub [0, 2, 4, 5] (L' := [(0, nk_r l0), (3, nk_i l3), (5, nk_i l5), (6, nk_i l6)]) rfl ?_
      exact ja_X10_cut_b226_ok zs _ _ _ _ _ _ t_l0 hr
    · have hr := nk_ifn (c := l2 ≤ l6) hc hr
      refine nk_p (i := .aload_n 0) (len := 1) (pc' := 23) mJ_33 (by decide +kernel) (ns_aload_n 0 rfl rfl) rfl ?_
      refine nk_getC (f := (4, 0, 16512)) (x := 9) (len := 3) (ci := 10) (k := 0) (pc' := 26) ja_okT mJ_33 (by decide +kernel) (by decide +kernel) (by decide +kernel) (by decide) t_l0 rfl ?_
      have t1 : nk_ar ja_Tt (ja_c l0 0) = some (0, 16512) := nk_ta ja_okT t_l0 (by decide +kernel)
      refine nk_p (i := .iload 6) (len := 2) (pc' := 28) mJ_33 (by decide +kernel) (ns_iload 5 rfl) rfl ?_
      obtain ⟨h2, hr⟩ := nk_cke hr
      refine nk_bald (t := 0) (len := 1) (N := 16512) (pc' := 29) mJ_33 (by decide +kernel) t1 (by decide) h2.1 h2.2 rfl rfl ?_
      obtain ⟨v3, h4, hr⟩ := nk_lte hr
      refine nk_p (i := .istore 7) (len := 2) (pc' := 31) mJ_33 (by decide +kernel) (ns_istore (L' := [(7, nk_i v3), (0, nk_r l0), (2, nk_i l2), (3, nk_i l3), (4, nk_i l4), (5, nk_i l5), (6, nk_i l6)]) h4 rfl (by decide +kernel)) rfl ?_
      refine nk_p (i := .iload 7) (len := 2) (pc' := 33) mJ_33 (by decide +kernel) (ns_iload 0 rfl) rfl ?_
      refine nk_p (i := .bipush 32) (len := 2) (pc' := 35) mJ_33 (by decide +kernel) (ns_bipush (c := 32) (by decide +kernel)) rfl ?_
      refine nk_icmp (c := .lt) (off := 10) (len := 3) (t := 45) (pc' := 38) mJ_33 (by decide +kernel) (by decide +kernel) rfl (fun hc => ?_) (fun hc => ?_)
      · have hr := nk_ifp (c := v3 < 32) hc hr
        refine nk_sub [1, 2, 3, 4, 6, 0] (L' := [(0, nk_r l0), (2, nk_i l2), (3, nk_i l3), (4, nk_i l4), (6, nk_i l6), (7, nk_i v3)]) rfl ?_
        exact ja_X10_cut_b45_ok zs hrec11 _ _ _ _ _ _ _ _ t_l0 hr
      · have hr := nk_ifn (c := v3 < 32) hc hr
        refine nk_p (i := .iload 7) (len := 2) (pc' := 40) mJ_33 (by decide +kernel) (ns_iload 0 rfl) rfl ?_
        refine nk_p (i := .bipush 126) (len := 2) (pc' := 42) mJ_33 (by decide +kernel) (ns_bipush (c := 126) (by decide +kernel)) rfl ?_
        refine nk_icmp (c := .le) (off := 24) (len := 3) (t := 66) (pc' := 45) mJ_33 (by decide +kernel) (by decide +kernel) rfl (fun hc => ?_) (fun hc => ?_)
        · have hr := nk_ifp (c := v3 ≤ 126) hc hr
          refine nk_sub [1, 2, 3, 4, 6, 0] (L' := [(0, nk_r l0), (2, nk_i l2), (3, nk_i l3), (4, nk_i l4), (6, nk_i l6), (7, nk_i v3)]) rfl ?_
          exact ja_X10_cut_b66_ok zs hrec11 _ _ _ _ _ _ _ _ t_l0 hr
        · have hr := nk_ifn (c := v3 ≤ 126) hc hr
          refine nk_sub [1, 2, 3, 4, 6, 0] (L' := [(0, nk_r l0), (2, nk_i l2), (3, nk_i l3), (4, nk_i l4), (6, nk_i l6), (7, nk_i v3)]) rfl ?_
          exact ja_X10_cut_b45_ok zs hrec11 _ _ _ _ _ _ _ _ t_l0 hr
noncomputable def ja_X10_cut_L11 : Nat → Nat → Int → Int → Int → Int → Int → nk_S → Option (Int × nk_S)
  | 0, _, _, _, _, _, _, _ => none
  | n + 1, l0, l2, l3, l4, l5, l6, S => ja_X10_cut_b11 (ja_X10_cut_L11 n) l0 l2 l3 l4 l5 l6 S
theorem ja_X10_cut_L11_ok (zs : List Int32) : ∀ n : Nat, ∀ (l0 : Nat) (l2 : Int) (l3 : Int) (l4 : Int) (l5 : Int) (l6 : Int) (S : nk_S) (R : Int × nk_S), nk_cl ja_Tt l0 = some 10 → ja_X10_cut_L11 n l0 l2 l3 l4 l5 l6 S = some R → nk_K ja_Tt mi_Γ (mi_ev zs) 1 33 11 [(0, nk_r l0), (2, nk_i l2), (3, nk_i l3), (4, nk_i l4), (5, nk_i l5), (6, nk_i l6)] [] S R := by
  intro n
  induction n with
  | zero => intro _ _ _ _ _ _ _ _ _ hr; cases hr
  | succ n ih => intro l0 l2 l3 l4 l5 l6 S R t_l0 hr; exact ja_X10_cut_b11_ok zs ih l0 l2 l3 l4 l5 l6 S R t_l0 hr
noncomputable def ja_X10_cut (l0 : Nat) (l1 : Int) (l2 : Int) (S : nk_S) : Option (Int × nk_S) :=
  ja_X10_cut_L11 nk_big l0 l2 (-1) 0 1 l1 S
theorem ja_X10_cut_ok (zs : List Int32) : ∀ (l0 : Nat) (l1 : Int) (l2 : Int) (S : nk_S) (R : Int × nk_S), nk_cl ja_Tt l0 = some 10 → ja_X10_cut l0 l1 l2 S = some R → nk_K ja_Tt mi_Γ (mi_ev zs) 1 33 0 [(0, nk_r l0), (1, nk_i l1), (2, nk_i l2)] [] S R := by
  intro l0 l1 l2 S R t_l0 hr
  unfold ja_X10_cut at hr
  refine nk_p (i := .iconst (-1)) (len := 1) (pc' := 1) mJ_33 (by decide +kernel) (ns_iconst (c := (-1)) (by decide +kernel)) rfl ?_
  refine nk_p (i := .istore_n 3) (len := 1) (pc' := 2) mJ_33 (by decide +kernel) (ns_istore_n (L' := [(3, nk_i (-1)), (0, nk_r l0), (1, nk_i l1), (2, nk_i l2)]) rfl rfl rfl (by decide +kernel)) rfl ?_
  refine nk_p (i := .iconst 0) (len := 1) (pc' := 3) mJ_33 (by decide +kernel) (ns_iconst (c := 0) (by decide +kernel)) rfl ?_
  refine nk_p (i := .istore 4) (len := 2) (pc' := 5) mJ_33 (by decide +kernel) (ns_istore (L' := [(4, nk_i 0), (3, nk_i (-1)), (0, nk_r l0), (1, nk_i l1), (2, nk_i l2)]) rfl rfl (by decide +kernel)) rfl ?_
  refine nk_p (i := .iconst 1) (len := 1) (pc' := 6) mJ_33 (by decide +kernel) (ns_iconst (c := 1) (by decide +kernel)) rfl ?_
  refine nk_p (i := .istore 5) (len := 2) (pc' := 8) mJ_33 (by decide +kernel) (ns_istore (L' := [(5, nk_i 1), (4, nk_i 0), (3, nk_i (-1)), (0, nk_r l0), (1, nk_i l1), (2, nk_i l2)]) rfl rfl (by decide +kernel)) rfl ?_
  refine nk_p (i := .iload_n 1) (len := 1) (pc' := 9) mJ_33 (by decide +kernel) (ns_iload_n 4 rfl rfl) rfl ?_
  refine nk_p (i := .istore 6) (len := 2) (pc' := 11) mJ_33 (by decide +kernel) (ns_istore (L' := [(6, nk_i l1), (5, nk_i 1), (4, nk_i 0), (3, nk_i (-1)), (0, nk_r l0), (1, nk_i l1), (2, nk_i l2)]) rfl rfl (by decide +kernel)) rfl ?_
  refine nk_sub [4, 6, 3, 2, 1, 0] (L' := [(0, nk_r l0), (2, nk_i l2), (3, nk_i (-1)), (4, nk_i 0), (5, nk_i 1), (6, nk_i l1)]) rfl ?_
  exact ja_X10_cut_L11_ok zs nk_big _ _ _ _ _ _ _ _ t_l0 hr
