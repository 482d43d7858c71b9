/-! SafeCodeModel ended (II)V -/
noncomputable def ja_X13_ended (l0 : Nat) (l1 : Int) (l2 : Int) (S : nk_S) : Option (Int × nk_S) :=
  nk_lt (nk_wi S l0 61 l1) fun S1 =>
  nk_lt (nk_wi S1 l0 59 l2) fun S3 =>
  some (0, S3)
theorem ja_X13_ended_ok (zs : List Int32) : ∀ (l0 : Nat) (l1 : Int) (l2 : Int) (S : nk_S) (R : Int × nk_S), nk_cl ja_Tt l0 = some 13 → ja_X13_ended l0 l1 l2 S = some R → nk_K ja_Tt mi_Γ (mi_ev zs) 0 111 0 [(0, nk_r l0), (1, nk_i l1), (2, nk_i l2)] [] S R := by
  intro l0 l1 l2 S R t_l0 hr
  unfold ja_X13_ended at hr
  refine nk_p (i := .aload_n 0) (len := 1) (pc' := 1) mJ_111 (by decide +kernel) (ns_aload_n 0 rfl rfl) rfl ?_
  refine nk_p (i := .iload_n 1) (len := 1) (pc' := 2) mJ_111 (by decide +kernel) (ns_iload_n 1 rfl rfl) rfl ?_
  obtain ⟨S1, h2, hr⟩ := nk_lte hr
  refine nk_putI (y := (0, 0)) (ty := .int) (x := 826) (len := 3) (ci := 13) (k := 61) (pc' := 5) ja_okT mJ_111 (by decide +kernel) (by decide +kernel) (by decide +kernel) t_l0 (Or.inl rfl) rfl h2 ?_
  refine nk_p (i := .aload_n 0) (len := 1) (pc' := 6) mJ_111 (by decide +kernel) (ns_aload_n 0 rfl rfl) rfl ?_
  refine nk_p (i := .iload_n 2) (len := 1) (pc' := 7) mJ_111 (by decide +kernel) (ns_iload_n 2 rfl rfl) rfl ?_
  obtain ⟨S3, h4, hr⟩ := nk_lte hr
  refine nk_putI (y := (0, 0)) (ty := .int) (x := 135) (len := 3) (ci := 13) (k := 59) (pc' := 10) ja_okT mJ_111 (by decide +kernel) (by decide +kernel) (by decide +kernel) t_l0 (Or.inl rfl) rfl h4 ?_
  cases hr
  exact nk_vret (len := 1) mJ_111 (by decide +kernel) rfl
/-! SafeCodeModel object (IIII)J -/
noncomputable def ja_X13_object_b22 (l0 : Nat) (l4 : Int) (S : nk_S) : Option (Int × nk_S) :=
  nk_bd (ja_X13_ended l0 3 l4 S) fun r1 S2 =>
  some (0, S2)
theorem ja_X13_object_b22_ok (zs : List Int32) : ∀ (l0 : Nat) (l4 : Int) (S : nk_S) (R : Int × nk_S), nk_cl ja_Tt l0 = some 13 → ja_X13_object_b22 l0 l4 S = some R → nk_K ja_Tt mi_Γ (mi_ev zs) 2 199 22 [(0, nk_r l0), (4, nk_i l4)] [] S R := by
  intro l0 l4 S R t_l0 hr
  unfold ja_X13_object_b22 at hr
  refine nk_p (i := .aload_n 0) (len := 1) (pc' := 23) mJ_199 (by decide +kernel) (ns_aload_n 0 rfl rfl) rfl ?_
  refine nk_p (i := .iconst 3) (len := 1) (pc' := 24) mJ_199 (by decide +kernel) (ns_iconst (c := 3) (by decide +kernel)) rfl ?_
  refine nk_p (i := .iload 4) (len := 2) (pc' := 26) mJ_199 (by decide +kernel) (ns_iload 1 rfl) rfl ?_
  obtain ⟨r1, S2, h3, hr⟩ := nk_bde hr
  refine nk_callV (ci := 13) (n := 2) (x := 871) (len := 3) (j' := 111) (q' := 0) (r := r1) (S' := S2) (L2 := [(0, nk_r l0), (1, nk_i 3), (2, nk_i l4)]) (rest := []) (st' := []) (pc' := 29) mJ_199 (by decide +kernel) (by decide +kernel) rfl rfl t_l0 (Nat.le_of_ble_eq_true rfl) mJ_111 (Nat.le_of_ble_eq_true rfl) rfl (ja_X13_ended_ok zs _ _ _ _ _ t_l0 h3) rfl ?_
  refine nk_p (i := .lconst 0) (len := 1) (pc' := 30) mJ_199 (by decide +kernel) (ns_lconst (c := 0) (by decide +kernel)) rfl ?_
  cases hr
  exact nk_lret (len := 1) mJ_199 (by decide +kernel) rfl
noncomputable def ja_X13_object (l0 : Nat) (l1 : Int) (l2 : Int) (l3 : Int) (l4 : Int) (S : nk_S) : Option (Int × nk_S) :=
  if (S.1 l0 53) = 2000 then
    ja_X13_object_b22 l0 l4 S
  else
    if (nk_w ((S.1 l0 54) + l3)) ≤ 12000 then
      if 0 ≤ (S.1 l0 53) ∧ (S.1 l0 53) < 2000 then
      nk_lt (nk_wi S (ja_c l0 45) (S.1 l0 53).toNat l1) fun S3 =>
      if 0 ≤ (S3.1 l0 53) ∧ (S3.1 l0 53) < 2000 then
      nk_lt (nk_wi S3 (ja_c l0 46) (S3.1 l0 53).toNat l2) fun S7 =>
      if 0 ≤ (S7.1 l0 53) ∧ (S7.1 l0 53) < 2000 then
      nk_lt (nk_wi S7 (ja_c l0 47) (S7.1 l0 53).toNat (S7.1 l0 54)) fun S11 =>
      if 0 ≤ (S11.1 l0 53) ∧ (S11.1 l0 53) < 2000 then
      nk_lt (nk_wi S11 (ja_c l0 48) (S11.1 l0 53).toNat l3) fun S15 =>
      nk_lt (nk_wi S15 l0 54 (nk_w ((S15.1 l0 54) + l3))) fun S17 =>
      nk_lt (nk_wi S17 l0 53 (nk_w ((S17.1 l0 53) + 1))) fun S19 =>
      some ((nk_W (1099511627776 + (S19.1 l0 53))), S19)
      else none
      else none
      else none
      else none
    else
      ja_X13_object_b22 l0 l4 S
theorem ja_X13_object_ok (zs : List Int32) : ∀ (l0 : Nat) (l1 : Int) (l2 : Int) (l3 : Int) (l4 : Int) (S : nk_S) (R : Int × nk_S), nk_cl ja_Tt l0 = some 13 → ja_X13_object l0 l1 l2 l3 l4 S = some R → nk_K ja_Tt mi_Γ (mi_ev zs) 2 199 0 [(0, nk_r l0), (1, nk_i l1), (2, nk_i l2), (3, nk_i l3), (4, nk_i l4)] [] S R := by
  intro l0 l1 l2 l3 l4 S R t_l0 hr
  unfold ja_X13_object at hr
  refine nk_p (i := .aload_n 0) (len := 1) (pc' := 1) mJ_199 (by decide +kernel) (ns_aload_n 0 rfl rfl) rfl ?_
  refine nk_getI (y := (0, 0)) (x := 808) (len := 3) (ci := 13) (k := 53) (pc' := 4) ja_okT mJ_199 (by decide +kernel) (by decide +kernel) (by decide +kernel) t_l0 rfl ?_
  refine nk_p (i := .sipush 2000) (len := 3) (pc' := 7) mJ_199 (by decide +kernel) (ns_sipush (c := 2000) (by decide +kernel)) rfl ?_
  refine nk_icmp (c := .eq) (off := 15) (len := 3) (t := 22) (pc' := 10) mJ_199 (by decide +kernel) (by decide +kernel) rfl (fun hc => ?_) (fun hc => ?_)
  · have hr := nk_ifp (c := (S.1 l0 53) = 2000) hc hr
    refine nk_sub [0, 4] (L' := [(0, nk_r l0), (4, nk_i l4)]) rfl ?_
    exact ja_X13_object_b22_ok zs _ _ _ _ t_l0 hr
  · have hr := nk_ifn (c := (S.1 l0 53) = 2000) hc hr
    refine nk_p (i := .aload_n 0) (len := 1) (pc' := 11) mJ_199 (by decide +kernel) (ns_aload_n 0 rfl rfl) rfl ?_
    refine nk_getI (y := (0, 0)) (x := 811) (len := 3) (ci := 13) (k := 54) (pc' := 14) ja_okT mJ_199 (by decide +kernel) (by decide +kernel) (by decide +kernel) t_l0 rfl ?_
    refine nk_p (i := .iload_n 3) (len := 1) (pc' := 15) mJ_199 (by decide +kernel) (ns_iload_n 3 rfl rfl) rfl ?_
    refine nk_p (i := .iadd) (len := 1) (pc' := 16) mJ_199 (by decide +kernel) ns_iadd rfl ?_
    refine nk_p (i := .sipush 12000) (len := 3) (pc' := 19) mJ_199 (by decide +kernel) (ns_sipush (c := 12000) (by decide +kernel)) rfl ?_
    refine nk_icmp (c := .le) (off := 12) (len := 3) (t := 31) (pc' := 22) mJ_199 (by decide +kernel) (by decide +kernel) rfl (fun hc => ?_) (fun hc => ?_)
    · have hr := nk_ifp (c := (nk_w ((S.1 l0 54) + l3)) ≤ 12000) hc hr
      refine nk_p (i := .aload_n 0) (len := 1) (pc' := 32) mJ_199 (by decide +kernel) (ns_aload_n 0 rfl rfl) rfl ?_
      refine nk_getC (f := (4, 1, 2000)) (x := 114) (len := 3) (ci := 13) (k := 45) (pc' := 35) ja_okT mJ_199 (by decide +kernel) (by decide +kernel) (by decide +kernel) (by decide) t_l0 rfl ?_
      have t1 : nk_ar ja_Tt (ja_c l0 45) = some (1, 2000) := nk_ta ja_okT t_l0 (by decide +kernel)
      refine nk_p (i := .aload_n 0) (len := 1) (pc' := 36) mJ_199 (by decide +kernel) (ns_aload_n 0 rfl rfl) rfl ?_
      refine nk_getI (y := (0, 0)) (x := 808) (len := 3) (ci := 13) (k := 53) (pc' := 39) ja_okT mJ_199 (by decide +kernel) (by decide +kernel) (by decide +kernel) t_l0 rfl ?_
      refine nk_p (i := .iload_n 1) (len := 1) (pc' := 40) mJ_199 (by decide +kernel) (ns_iload_n 1 rfl rfl) rfl ?_
      obtain ⟨h2, hr⟩ := nk_cke hr
      obtain ⟨S3, h4, hr⟩ := nk_lte hr
      refine nk_iast (len := 1) (N := 2000) (pc' := 41) mJ_199 (by decide +kernel) t1 h2.1 h2.2 rfl rfl h4 ?_
      refine nk_p (i := .aload_n 0) (len := 1) (pc' := 42) mJ_199 (by decide +kernel) (ns_aload_n 0 rfl rfl) rfl ?_
      refine nk_getC (f := (4, 1, 2000)) (x := 117) (len := 3) (ci := 13) (k := 46) (pc' := 45) ja_okT mJ_199 (by decide +kernel) (by decide +kernel) (by decide +kernel) (by decide) t_l0 rfl ?_
      have t5 : nk_ar ja_Tt (ja_c l0 46) = some (1, 2000) := nk_ta ja_okT t_l0 (by decide +kernel)
      refine nk_p (i := .aload_n 0) (len := 1) (pc' := 46) mJ_199 (by decide +kernel) (ns_aload_n 0 rfl rfl) rfl ?_
      refine nk_getI (y := (0, 0)) (x := 808) (len := 3) (ci := 13) (k := 53) (pc' := 49) ja_okT mJ_199 (by decide +kernel) (by decide +kernel) (by decide +kernel) t_l0 rfl ?_
      refine nk_p (i := .iload_n 2) (len := 1) (pc' := 50) mJ_199 (by decide +kernel) (ns_iload_n 2 rfl rfl) rfl ?_
      obtain ⟨h6, hr⟩ := nk_cke hr
      obtain ⟨S7, h8, hr⟩ := nk_lte hr
      refine nk_iast (len := 1) (N := 2000) (pc' := 51) mJ_199 (by decide +kernel) t5 h6.1 h6.2 rfl rfl h8 ?_
      refine nk_p (i := .aload_n 0) (len := 1) (pc' := 52) mJ_199 (by decide +kernel) (ns_aload_n 0 rfl rfl) rfl ?_
      refine nk_getC (f := (4, 1, 2000)) (x := 120) (len := 3) (ci := 13) (k := 47) (pc' := 55) ja_okT mJ_199 (by decide +kernel) (by decide +kernel) (by decide +kernel) (by decide) t_l0 rfl ?_
      have t9 : nk_ar ja_Tt (ja_c l0 47) = some (1, 2000) := nk_ta ja_okT t_l0 (by decide +kernel)
      refine nk_p (i := .aload_n 0) (len := 1) (pc' := 56) mJ_199 (by decide +kernel) (ns_aload_n 0 rfl rfl) rfl ?_
      refine nk_getI (y := (0, 0)) (x := 808) (len := 3) (ci := 13) (k := 53) (pc' := 59) ja_okT mJ_199 (by decide +kernel) (by decide +kernel) (by decide +kernel) t_l0 rfl ?_
      refine nk_p (i := .aload_n 0) (len := 1) (pc' := 60) mJ_199 (by decide +kernel) (ns_aload_n 0 rfl rfl) rfl ?_
      refine nk_getI (y := (0, 0)) (x := 811) (len := 3) (ci := 13) (k := 54) (pc' := 63) ja_okT mJ_199 (by decide +kernel) (by decide +kernel) (by decide +kernel) t_l0 rfl ?_
      obtain ⟨h10, hr⟩ := nk_cke hr
      obtain ⟨S11, h12, hr⟩ := nk_lte hr
      refine nk_iast (len := 1) (N := 2000) (pc' := 64) mJ_199 (by decide +kernel) t9 h10.1 h10.2 rfl rfl h12 ?_
      refine nk_p (i := .aload_n 0) (len := 1) (pc' := 65) mJ_199 (by decide +kernel) (ns_aload_n 0 rfl rfl) rfl ?_
      refine nk_getC (f := (4, 1, 2000)) (x := 123) (len := 3) (ci := 13) (k := 48) (pc' := 68) ja_okT mJ_199 (by decide +kernel) (by decide +kernel) (by decide +kernel) (by decide) t_l0 rfl ?_
      have t13 : nk_ar ja_Tt (ja_c l0 48) = some (1, 2000) := nk_ta ja_okT t_l0 (by decide +kernel)
      refine nk_p (i := .aload_n 0) (len := 1) (pc' := 69) mJ_199 (by decide +kernel) (ns_aload_n 0 rfl rfl) rfl ?_
      refine nk_getI (y := (0, 0)) (x := 808) (len := 3) (ci := 13) (k := 53) (pc' := 72) ja_okT mJ_199 (by decide +kernel) (by decide +kernel) (by decide +kernel) t_l0 rfl ?_
      refine nk_p (i := .iload_n 3) (len := 1) (pc' := 73) mJ_199 (by decide +kernel) (ns_iload_n 3 rfl rfl) rfl ?_
      obtain ⟨h14, hr⟩ := nk_cke hr
      obtain ⟨S15, h16, hr⟩ := nk_lte hr
      refine nk_iast (len := 1) (N := 2000) (pc' := 74) mJ_199 (by decide +kernel) t13 h14.1 h14.2 rfl rfl h16 ?_
      refine nk_p (i := .aload_n 0) (len := 1) (pc' := 75) mJ_199 (by decide +kernel) (ns_aload_n 0 rfl rfl) rfl ?_
      refine nk_p (i := .dup) (len := 1) (pc' := 76) mJ_199 (by decide +kernel) (ns_dup rfl) rfl ?_
      refine nk_getI (y := (0, 0)) (x := 811) (len := 3) (ci := 13) (k := 54) (pc' := 79) ja_okT mJ_199 (by decide +kernel) (by decide +kernel) (by decide +kernel) t_l0 rfl ?_
      refine nk_p (i := .iload_n 3) (len := 1) (pc' := 80) mJ_199 (by decide +kernel) (ns_iload_n 3 rfl rfl) rfl ?_
      refine nk_p (i := .iadd) (len := 1) (pc' := 81) mJ_199 (by decide +kernel) ns_iadd rfl ?_
      obtain ⟨S17, h18, hr⟩ := nk_lte hr
      refine nk_putI (y := (0, 0)) (ty := .int) (x := 811) (len := 3) (ci := 13) (k := 54) (pc' := 84) ja_okT mJ_199 (by decide +kernel) (by decide +kernel) (by decide +kernel) t_l0 (Or.inl rfl) rfl h18 ?_
      refine nk_p (i := .aload_n 0) (len := 1) (pc' := 85) mJ_199 (by decide +kernel) (ns_aload_n 0 rfl rfl) rfl ?_
      refine nk_p (i := .dup) (len := 1) (pc' := 86) mJ_199 (by decide +kernel) (ns_dup rfl) rfl ?_
      refine nk_getI (y := (0, 0)) (x := 808) (len := 3) (ci := 13) (k := 53) (pc' := 89) ja_okT mJ_199 (by decide +kernel) (by decide +kernel) (by decide +kernel) t_l0 rfl ?_
      refine nk_p (i := .iconst 1) (len := 1) (pc' := 90) mJ_199 (by decide +kernel) (ns_iconst (c := 1) (by decide +kernel)) rfl ?_
      refine nk_p (i := .iadd) (len := 1) (pc' := 91) mJ_199 (by decide +kernel) ns_iadd rfl ?_
      obtain ⟨S19, h20, hr⟩ := nk_lte hr
      refine nk_putI (y := (0, 0)) (ty := .int) (x := 808) (len := 3) (ci := 13) (k := 53) (pc' := 94) ja_okT mJ_199 (by decide +kernel) (by decide +kernel) (by decide +kernel) t_l0 (Or.inl rfl) rfl h20 ?_
      refine nk_ldc2 (x := 846) (len := 3) (X := 1099511627776) (v := 1099511627776) (pc' := 97) mJ_199 (by decide +kernel) (by decide +kernel) (by decide +kernel) rfl ?_
      refine nk_p (i := .aload_n 0) (len := 1) (pc' := 98) mJ_199 (by decide +kernel) (ns_aload_n 0 rfl rfl) rfl ?_
      refine nk_getI (y := (0, 0)) (x := 808) (len := 3) (ci := 13) (k := 53) (pc' := 101) ja_okT mJ_199 (by decide +kernel) (by decide +kernel) (by decide +kernel) t_l0 rfl ?_
      refine nk_p (i := .i2l) (len := 1) (pc' := 102) mJ_199 (by decide +kernel) ns_i2l rfl ?_
      refine nk_p (i := .ladd) (len := 1) (pc' := 103) mJ_199 (by decide +kernel) ns_ladd rfl ?_
      cases hr
      exact nk_lret (len := 1) mJ_199 (by decide +kernel) rfl
    · have hr := nk_ifn (c := (nk_w ((S.1 l0 54) + l3)) ≤ 12000) hc hr
      refine nk_sub [0, 4] (L' := [(0, nk_r l0), (4, nk_i l4)]) rfl ?_
      exact ja_X13_object_b22_ok zs _ _ _ _ t_l0 hr
/-! SafeCodeModel objectOf (J)I -/
noncomputable def ja_X13_objectOf (l0 : Int) (S : nk_S) : Option (Int × nk_S) :=
  some ((nk_w (nk_W ((nk_W (l0 - 1099511627776)) - 1))), S)
theorem ja_X13_objectOf_ok (zs : List Int32) : ∀ (l0 : Int) (S : nk_S) (R : Int × nk_S), ja_X13_objectOf l0 S = some R → nk_K ja_Tt mi_Γ (mi_ev zs) 1 200 0 [(0, nk_l l0)] [] S R := by
  intro l0 S R hr
  unfold ja_X13_objectOf at hr
  refine nk_p (i := .lload_n 0) (len := 1) (pc' := 1) mJ_200 (by decide +kernel) (ns_lload_n 0 rfl rfl) rfl ?_
  refine nk_ldc2 (x := 846) (len := 3) (X := 1099511627776) (v := 1099511627776) (pc' := 4) mJ_200 (by decide +kernel) (by decide +kernel) (by decide +kernel) rfl ?_
  refine nk_p (i := .lsub) (len := 1) (pc' := 5) mJ_200 (by decide +kernel) ns_lsub rfl ?_
  refine nk_p (i := .lconst 1) (len := 1) (pc' := 6) mJ_200 (by decide +kernel) (ns_lconst (c := 1) (by decide +kernel)) rfl ?_
  refine nk_p (i := .lsub) (len := 1) (pc' := 7) mJ_200 (by decide +kernel) ns_lsub rfl ?_
  refine nk_p (i := .l2i) (len := 1) (pc' := 8) mJ_200 (by decide +kernel) ns_l2i rfl ?_
  cases hr
  exact nk_iret (ty := .int) (len := 1) mJ_200 (by decide +kernel) rfl (nk_nar_i _)
/-! SafeCodeModel covers (LSafeCodeModel$Program;II)Z -/
noncomputable def ja_X13_covers (l0 : Nat) (l1 : Int) (l2 : Int) (S : nk_S) : Option (Int × nk_S) :=
  if 0 ≤ l1 ∧ l1 < 64 then
  if 0 ≤ l2 ∧ l2 < 1024 then
  if (S.1 (ja_c l0 28) l1.toNat) = (S.1 (ja_c l0 25) l2.toNat) then
    if l2 < (S.1 (ja_c l0 29) l1.toNat) then
      some (0, S)
    else
      if (S.1 (ja_c l0 30) l1.toNat) ≤ l2 then
        some (0, S)
      else
        some (1, S)
  else
    some (0, S)
  else none
  else none
theorem ja_X13_covers_ok (zs : List Int32) : ∀ (l0 : Nat) (l1 : Int) (l2 : Int) (S : nk_S) (R : Int × nk_S), nk_cl ja_Tt l0 = some 12 → ja_X13_covers l0 l1 l2 S = some R → nk_K ja_Tt mi_Γ (mi_ev zs) 1 104 0 [(0, nk_r l0), (1, nk_i l1), (2, nk_i l2)] [] S R := by
  intro l0 l1 l2 S R t_l0 hr
  unfold ja_X13_covers at hr
  refine nk_p (i := .aload_n 0) (len := 1) (pc' := 1) mJ_104 (by decide +kernel) (ns_aload_n 0 rfl rfl) rfl ?_
  refine nk_getC (f := (4, 1, 64)) (x := 397) (len := 3) (ci := 12) (k := 28) (pc' := 4) ja_okT mJ_104 (by decide +kernel) (by decide +kernel) (by decide +kernel) (by decide) t_l0 rfl ?_
  have t1 : nk_ar ja_Tt (ja_c l0 28) = some (1, 64) := nk_ta ja_okT t_l0 (by decide +kernel)
  refine nk_p (i := .iload_n 1) (len := 1) (pc' := 5) mJ_104 (by decide +kernel) (ns_iload_n 1 rfl rfl) rfl ?_
  obtain ⟨h2, hr⟩ := nk_cke hr
  refine nk_iald (len := 1) (N := 64) (pc' := 6) mJ_104 (by decide +kernel) t1 h2.1 h2.2 rfl rfl ?_
  refine nk_p (i := .aload_n 0) (len := 1) (pc' := 7) mJ_104 (by decide +kernel) (ns_aload_n 0 rfl rfl) rfl ?_
  refine nk_getC (f := (4, 1, 1024)) (x := 412) (len := 3) (ci := 12) (k := 25) (pc' := 10) ja_okT mJ_104 (by decide +kernel) (by decide +kernel) (by decide +kernel) (by decide) t_l0 rfl ?_
  have t3 : nk_ar ja_Tt (ja_c l0 25) = some (1, 1024) := nk_ta ja_okT t_l0 (by decide +kernel)
  refine nk_p (i := .iload_n 2) (len := 1) (pc' := 11) mJ_104 (by decide +kernel) (ns_iload_n 2 rfl rfl) rfl ?_
  obtain ⟨h4, hr⟩ := nk_cke hr
  refine nk_iald (len := 1) (N := 1024) (pc' := 12) mJ_104 (by decide +kernel) t3 h4.1 h4.2 rfl rfl ?_
  refine nk_icmp (c := .ne) (off := 27) (len := 3) (t := 39) (pc' := 15) mJ_104 (by decide +kernel) (by decide +kernel) rfl (fun hc => ?_) (fun hc => ?_)
  · have hr := nk_ifn (c := (S.1 (ja_c l0 28) l1.toNat) = (S.1 (ja_c l0 25) l2.toNat)) hc hr
    refine nk_p (i := .iconst 0) (len := 1) (pc' := 40) mJ_104 (by decide +kernel) (ns_iconst (c := 0) (by decide +kernel)) rfl ?_
    cases hr
    exact nk_iret (ty := .boolean) (len := 1) mJ_104 (by decide +kernel) rfl (nk_nar_z (by decide))
  · have hr := nk_ifp (c := (S.1 (ja_c l0 28) l1.toNat) = (S.1 (ja_c l0 25) l2.toNat)) (Decidable.of_not_not hc) hr
    refine nk_p (i := .aload_n 0) (len := 1) (pc' := 16) mJ_104 (by decide +kernel) (ns_aload_n 0 rfl rfl) rfl ?_
    refine nk_getC (f := (4, 1, 64)) (x := 400) (len := 3) (ci := 12) (k := 29) (pc' := 19) ja_okT mJ_104 (by decide +kernel) (by decide +kernel) (by decide +kernel) (by decide) t_l0 rfl ?_
    have t5 : nk_ar ja_Tt (ja_c l0 29) = some (1, 64) := nk_ta ja_okT t_l0 (by decide +kernel)
    refine nk_p (i := .iload_n 1) (len := 1) (pc' := 20) mJ_104 (by decide +kernel) (ns_iload_n 1 rfl rfl) rfl ?_
    refine nk_iald (len := 1) (N := 64) (pc' := 21) mJ_104 (by decide +kernel) t5 h2.1 h2.2 rfl rfl ?_
    refine nk_p (i := .iload_n 2) (len := 1) (pc' := 22) mJ_104 (by decide +kernel) (ns_iload_n 2 rfl rfl) rfl ?_
    refine nk_icmp (c := .gt) (off := 17) (len := 3) (t := 39) (pc' := 25) mJ_104 (by decide +kernel) (by decide +kernel) rfl (fun hc => ?_) (fun hc => ?_)
    · have hr := nk_ifp (c := l2 < (S.1 (ja_c l0 29) l1.toNat)) hc hr
      refine nk_p (i := .iconst 0) (len := 1) (pc' := 40) mJ_104 (by decide +kernel) (ns_iconst (c := 0) (by decide +kernel)) rfl ?_
      cases hr
      exact nk_iret (ty := .boolean) (len := 1) mJ_104 (by decide +kernel) rfl (nk_nar_z (by decide))
    · have hr := nk_ifn (c := l2 < (S.1 (ja_c l0 29) l1.toNat)) hc hr
      refine nk_p (i := .iload_n 2) (len := 1) (pc' := 26) mJ_104 (by decide +kernel) (ns_iload_n 2 rfl rfl) rfl ?_
      refine nk_p (i := .aload_n 0) (len := 1) (pc' := 27) mJ_104 (by decide +kernel) (ns_aload_n 0 rfl rfl) rfl ?_
      refine nk_getC (f := (4, 1, 64)) (x := 403) (len := 3) (ci := 12) (k := 30) (pc' := 30) ja_okT mJ_104 (by decide +kernel) (by decide +kernel) (by decide +kernel) (by decide) t_l0 rfl ?_
      have t6 : nk_ar ja_Tt (ja_c l0 30) = some (1, 64) := nk_ta ja_okT t_l0 (by decide +kernel)
      refine nk_p (i := .iload_n 1) (len := 1) (pc' := 31) mJ_104 (by decide +kernel) (ns_iload_n 1 rfl rfl) rfl ?_
      refine nk_iald (len := 1) (N := 64) (pc' := 32) mJ_104 (by decide +kernel) t6 h2.1 h2.2 rfl rfl ?_
      refine nk_icmp (c := .ge) (off := 7) (len := 3) (t := 39) (pc' := 35) mJ_104 (by decide +kernel) (by decide +kernel) rfl (fun hc => ?_) (fun hc => ?_)
      · have hr := nk_ifp (c := (S.1 (ja_c l0 30) l1.toNat) ≤ l2) hc hr
        refine nk_p (i := .iconst 0) (len := 1) (pc' := 40) mJ_104 (by decide +kernel) (ns_iconst (c := 0) (by decide +kernel)) rfl ?_
        cases hr
        exact nk_iret (ty := .boolean) (len := 1) mJ_104 (by decide +kernel) rfl (nk_nar_z (by decide))
      · have hr := nk_ifn (c := (S.1 (ja_c l0 30) l1.toNat) ≤ l2) hc hr
        refine nk_p (i := .iconst 1) (len := 1) (pc' := 36) mJ_104 (by decide +kernel) (ns_iconst (c := 1) (by decide +kernel)) rfl ?_
        refine nk_p (i := .goto 4) (len := 3) (pc' := 40) mJ_104 (by decide +kernel) (ns_goto (by decide +kernel)) rfl ?_
        cases hr
        exact nk_iret (ty := .boolean) (len := 1) mJ_104 (by decide +kernel) rfl (nk_nar_z (by decide))
/-! SafeCodeModel push (J)V -/
noncomputable def ja_X13_push (l0 : Nat) (l1 : Int) (S : nk_S) : Option (Int × nk_S) :=
  if 0 ≤ (nk_w ((S.1 l0 52) - 1)) ∧ (nk_w ((S.1 l0 52) - 1)) < 64 then
  if 0 ≤ (nk_w ((nk_w ((nk_w ((S.1 l0 52) - 1)) * 8)) + (S.1 (ja_c l0 43) (nk_w ((S.1 l0 52) - 1)).toNat))) ∧ (nk_w ((nk_w ((nk_w ((S.1 l0 52) - 1)) * 8)) + (S.1 (ja_c l0 43) (nk_w ((S.1 l0 52) - 1)).toNat))) < 512 then
  nk_lt (nk_wi S (ja_c l0 42) (nk_w ((nk_w ((nk_w ((S.1 l0 52) - 1)) * 8)) + (S.1 (ja_c l0 43) (nk_w ((S.1 l0 52) - 1)).toNat))).toNat l1) fun S5 =>
  if 0 ≤ (nk_w ((S5.1 l0 52) - 1)) ∧ (nk_w ((S5.1 l0 52) - 1)) < 64 then
  nk_lt (nk_wi S5 (ja_c l0 43) (nk_w ((S5.1 l0 52) - 1)).toNat (nk_w ((S5.1 (ja_c l0 43) (nk_w ((S5.1 l0 52) - 1)).toNat) + 1))) fun S8 =>
  some (0, S8)
  else none
  else none
  else none
theorem ja_X13_push_ok (zs : List Int32) : ∀ (l0 : Nat) (l1 : Int) (S : nk_S) (R : Int × nk_S), nk_cl ja_Tt l0 = some 13 → ja_X13_push l0 l1 S = some R → nk_K ja_Tt mi_Γ (mi_ev zs) 0 211 0 [(0, nk_r l0), (1, nk_l l1)] [] S R := by
  intro l0 l1 S R t_l0 hr
  unfold ja_X13_push at hr
  refine nk_p (i := .aload_n 0) (len := 1) (pc' := 1) mJ_211 (by decide +kernel) (ns_aload_n 0 rfl rfl) rfl ?_
  refine nk_getC (f := (4, 2, 512)) (x := 105) (len := 3) (ci := 13) (k := 42) (pc' := 4) ja_okT mJ_211 (by decide +kernel) (by decide +kernel) (by decide +kernel) (by decide) t_l0 rfl ?_
  have t1 : nk_ar ja_Tt (ja_c l0 42) = some (2, 512) := nk_ta ja_okT t_l0 (by decide +kernel)
  refine nk_p (i := .aload_n 0) (len := 1) (pc' := 5) mJ_211 (by decide +kernel) (ns_aload_n 0 rfl rfl) rfl ?_
  refine nk_getI (y := (0, 0)) (x := 823) (len := 3) (ci := 13) (k := 52) (pc' := 8) ja_okT mJ_211 (by decide +kernel) (by decide +kernel) (by decide +kernel) t_l0 rfl ?_
  refine nk_p (i := .iconst 1) (len := 1) (pc' := 9) mJ_211 (by decide +kernel) (ns_iconst (c := 1) (by decide +kernel)) rfl ?_
  refine nk_p (i := .isub) (len := 1) (pc' := 10) mJ_211 (by decide +kernel) ns_isub rfl ?_
  refine nk_p (i := .bipush 8) (len := 2) (pc' := 12) mJ_211 (by decide +kernel) (ns_bipush (c := 8) (by decide +kernel)) rfl ?_
  refine nk_p (i := .imul) (len := 1) (pc' := 13) mJ_211 (by decide +kernel) ns_imul rfl ?_
  refine nk_p (i := .aload_n 0) (len := 1) (pc' := 14) mJ_211 (by decide +kernel) (ns_aload_n 0 rfl rfl) rfl ?_
  refine nk_getC (f := (4, 1, 64)) (x := 108) (len := 3) (ci := 13) (k := 43) (pc' := 17) ja_okT mJ_211 (by decide +kernel) (by decide +kernel) (by decide +kernel) (by decide) t_l0 rfl ?_
  have t2 : nk_ar ja_Tt (ja_c l0 43) = some (1, 64) := nk_ta ja_okT t_l0 (by decide +kernel)
  refine nk_p (i := .aload_n 0) (len := 1) (pc' := 18) mJ_211 (by decide +kernel) (ns_aload_n 0 rfl rfl) rfl ?_
  refine nk_getI (y := (0, 0)) (x := 823) (len := 3) (ci := 13) (k := 52) (pc' := 21) ja_okT mJ_211 (by decide +kernel) (by decide +kernel) (by decide +kernel) t_l0 rfl ?_
  refine nk_p (i := .iconst 1) (len := 1) (pc' := 22) mJ_211 (by decide +kernel) (ns_iconst (c := 1) (by decide +kernel)) rfl ?_
  refine nk_p (i := .isub) (len := 1) (pc' := 23) mJ_211 (by decide +kernel) ns_isub rfl ?_
  obtain ⟨h3, hr⟩ := nk_cke hr
  refine nk_iald (len := 1) (N := 64) (pc' := 24) mJ_211 (by decide +kernel) t2 h3.1 h3.2 rfl rfl ?_
  refine nk_p (i := .iadd) (len := 1) (pc' := 25) mJ_211 (by decide +kernel) ns_iadd rfl ?_
  refine nk_p (i := .lload_n 1) (len := 1) (pc' := 26) mJ_211 (by decide +kernel) (ns_lload_n 1 rfl rfl) rfl ?_
  obtain ⟨h4, hr⟩ := nk_cke hr
  obtain ⟨S5, h6, hr⟩ := nk_lte hr
  refine nk_last (len := 1) (N := 512) (pc' := 27) mJ_211 (by decide +kernel) t1 h4.1 h4.2 rfl rfl h6 ?_
  refine nk_p (i := .aload_n 0) (len := 1) (pc' := 28) mJ_211 (by decide +kernel) (ns_aload_n 0 rfl rfl) rfl ?_
  refine nk_getC (f := (4, 1, 64)) (x := 108) (len := 3) (ci := 13) (k := 43) (pc' := 31) ja_okT mJ_211 (by decide +kernel) (by decide +kernel) (by decide +kernel) (by decide) t_l0 rfl ?_
  refine nk_p (i := .aload_n 0) (len := 1) (pc' := 32) mJ_211 (by decide +kernel) (ns_aload_n 0 rfl rfl) rfl ?_
  refine nk_getI (y := (0, 0)) (x := 823) (len := 3) (ci := 13) (k := 52) (pc' := 35) ja_okT mJ_211 (by decide +kernel) (by decide +kernel) (by decide +kernel) t_l0 rfl ?_
  refine nk_p (i := .iconst 1) (len := 1) (pc' := 36) mJ_211 (by decide +kernel) (ns_iconst (c := 1) (by decide +kernel)) rfl ?_
  refine nk_p (i := .isub) (len := 1) (pc' := 37) mJ_211 (by decide +kernel) ns_isub rfl ?_
  refine nk_p (i := .dup2) (len := 1) (pc' := 38) mJ_211 (by decide +kernel) (ns_dup2 rfl rfl) rfl ?_
  obtain ⟨h7, hr⟩ := nk_cke hr
  refine nk_iald (len := 1) (N := 64) (pc' := 39) mJ_211 (by decide +kernel) t2 h7.1 h7.2 rfl rfl ?_
  refine nk_p (i := .iconst 1) (len := 1) (pc' := 40) mJ_211 (by decide +kernel) (ns_iconst (c := 1) (by decide +kernel)) rfl ?_
  refine nk_p (i := .iadd) (len := 1) (pc' := 41) mJ_211 (by decide +kernel) ns_iadd rfl ?_
  obtain ⟨S8, h9, hr⟩ := nk_lte hr
  refine nk_iast (len := 1) (N := 64) (pc' := 42) mJ_211 (by decide +kernel) t2 h7.1 h7.2 rfl rfl h9 ?_
  cases hr
  exact nk_vret (len := 1) mJ_211 (by decide +kernel) rfl
/-! SafeCodeModel toss (JI)V -/
noncomputable def ja_X13_toss_b34 (rec11 : Nat → Int → Int → Int → nk_S → Option (Int × nk_S)) (rec34 : Nat → Int → Int → Int → Int → Int → nk_S → Option (Int × nk_S)) (l0 : Nat) (l1 : Int) (l3 : Int) (l4 : Int) (l5 : Int) (l6 : Int) (S : nk_S) : Option (Int × nk_S) :=
  if (S.1 (S.2 l0 0) 5) ≤ l6 then
    nk_lt (nk_wi S l0 52 (nk_w ((S.1 l0 52) - 1))) fun S2 =>
    rec11 l0 l1 l3 l4 S2
  else
    nk_bd (ja_X13_covers (S.2 l0 0) l6 l5 S) fun r5 S6 =>
    if r5 = 0 then
      nk_lt (nk_w (l6 + 1)) fun v8 =>
      rec34 l0 l1 l3 l4 l5 v8 S6
    else
      if 0 ≤ l6 ∧ l6 < 64 then
      nk_bd (ja_X13_isBelow (S6.2 l0 0) l4 (nk_w (8 + (S6.1 (ja_c (S6.2 l0 0) 32) l6.toNat))) S6) fun r14 S15 =>
      if r14 = 0 then
        nk_lt (nk_w (l6 + 1)) fun v30 =>
        rec34 l0 l1 l3 l4 l5 v30 S15
      else
        if 0 ≤ (nk_w ((S15.1 l0 52) - 1)) ∧ (nk_w ((S15.1 l0 52) - 1)) < 64 then
        nk_lt (nk_wi S15 (ja_c l0 43) (nk_w ((S15.1 l0 52) - 1)).toNat 0) fun S19 =>
        nk_bd (ja_X13_push l0 l1 S19) fun r21 S22 =>
        if 0 ≤ (nk_w ((S22.1 l0 52) - 1)) ∧ (nk_w ((S22.1 l0 52) - 1)) < 64 then
        nk_lt (nk_wi S22 (ja_c l0 44) (nk_w ((S22.1 l0 52) - 1)).toNat (S22.1 (ja_c (S22.2 l0 0) 31) l6.toNat)) fun S28 =>
        some (0, S28)
        else none
        else none
      else none
theorem ja_X13_toss_b34_ok (zs : List Int32) {rec11 : Nat → Int → Int → Int → nk_S → Option (Int × nk_S)} (hrec11 : ∀ (l0 : Nat) (l1 : Int) (l3 : Int) (l4 : Int) (S : nk_S) (R : Int × nk_S), nk_cl ja_Tt l0 = some 13 → rec11 l0 l1 l3 l4 S = some R → nk_K ja_Tt mi_Γ (mi_ev zs) 0 235 11 [(0, nk_r l0), (1, nk_l l1), (3, nk_i l3), (4, nk_i l4)] [] S R) {rec34 : Nat → Int → Int → Int → Int → Int → nk_S → Option (Int × nk_S)} (hrec34 : ∀ (l0 : Nat) (l1 : Int) (l3 : Int) (l4 : Int) (l5 : Int) (l6 : Int) (S : nk_S) (R : Int × nk_S), nk_cl ja_Tt l0 = some 13 → rec34 l0 l1 l3 l4 l5 l6 S = some R → nk_K ja_Tt mi_Γ (mi_ev zs) 0 235 34 [(0, nk_r l0), (1, nk_l l1), (3, nk_i l3), (4, nk_i l4), (5, nk_i l5), (6, nk_i l6)] [] S R) : ∀ (l0 : Nat) (l1 : Int) (l3 : Int) (l4 : Int) (l5 : Int) (l6 : Int) (S : nk_S) (R : Int × nk_S), nk_cl ja_Tt l0 = some 13 → ja_X13_toss_b34 rec11 rec34 l0 l1 l3 l4 l5 l6 S = some R → nk_K ja_Tt mi_Γ (mi_ev zs) 0 235 34 [(0, nk_r l0), (1, nk_l l1), (3, nk_i l3), (4, nk_i l4), (5, nk_i l5), (6, nk_i l6)] [] S R := by
  intro l0 l1 l3 l4 l5 l6 S R t_l0 hr
  unfold ja_X13_toss_b34 at hr
  refine nk_p (i := .iload 6) (len := 2) (pc' := 36) mJ_235 (by decide +kernel) (ns_iload 5 rfl) rfl ?_
  refine nk_p (i := .aload_n 0) (len := 1) (pc' := 37) mJ_235 (by decide +kernel) (ns_aload_n 0 rfl rfl) rfl ?_
  refine nk_getM (cj := 12) (z := 0) (x := 12) (len := 3) (ci := 13) (k := 0) (pc' := 40) ja_okT mJ_235 (by decide +kernel) (by decide +kernel) (by decide +kernel) t_l0 rfl (fun t1 => ?_)
  refine nk_getI (y := (0, 0)) (x := 359) (len := 3) (ci := 12) (k := 5) (pc' := 43) ja_okT mJ_235 (by decide +kernel) (by decide +kernel) (by decide +kernel) t1 rfl ?_
  refine nk_icmp (c := .ge) (off := 90) (len := 3) (t := 133) (pc' := 46) mJ_235 (by decide +kernel) (by decide +kernel) rfl (fun hc => ?_) (fun hc => ?_)
  · have hr := nk_ifp (c := (S.1 (S.2 l0 0) 5) ≤ l6) hc hr
    refine nk_p (i := .aload_n 0) (len := 1) (pc' := 134) mJ_235 (by decide +kernel) (ns_aload_n 0 rfl rfl) rfl ?_
    refine nk_p (i := .dup) (len := 1) (pc' := 135) mJ_235 (by decide +kernel) (ns_dup rfl) rfl ?_
    refine nk_getI (y := (0, 0)) (x := 823) (len := 3) (ci := 13) (k := 52) (pc' := 138) ja_okT mJ_235 (by decide +kernel) (by decide +kernel) (by decide +kernel) t_l0 rfl ?_
    refine nk_p (i := .iconst 1) (len := 1) (pc' := 139) mJ_235 (by decide +kernel) (ns_iconst (c := 1) (by decide +kernel)) rfl ?_
    refine nk_p (i := .isub) (len := 1) (pc' := 140) mJ_235 (by decide +kernel) ns_isub rfl ?_
    obtain ⟨S2, h3, hr⟩ := nk_lte hr
    refine nk_putI (y := (0, 0)) (ty := .int) (x := 823) (len := 3) (ci := 13) (k := 52) (pc' := 143) ja_okT mJ_235 (by decide +kernel) (by decide +kernel) (by decide +kernel) t_l0 (Or.inl rfl) rfl h3 ?_
    refine nk_p (i := .goto (-132)) (len := 3) (pc' := 11) mJ_235 (by decide +kernel) (ns_goto (by decide +kernel)) rfl ?_
    refine nk_sub [0, 1, 2, 3] (L' := [(0, nk_r l0), (1, nk_l l1), (3, nk_i l3), (4, nk_i l4)]) rfl ?_
    exact hrec11 _ _ _ _ _ _ t_l0 hr
  · have hr := nk_ifn (c := (S.1 (S.2 l0 0) 5) ≤ l6) hc hr
    refine nk_p (i := .aload_n 0) (len := 1) (pc' := 47) mJ_235 (by decide +kernel) (ns_aload_n 0 rfl rfl) rfl ?_
    refine nk_getM (cj := 12) (z := 0) (x := 12) (len := 3) (ci := 13) (k := 0) (pc' := 50) ja_okT mJ_235 (by decide +kernel) (by decide +kernel) (by decide +kernel) t_l0 rfl (fun t4 => ?_)
    refine nk_p (i := .iload 6) (len := 2) (pc' := 52) mJ_235 (by decide +kernel) (ns_iload 5 rfl) rfl ?_
    refine nk_p (i := .iload 5) (len := 2) (pc' := 54) mJ_235 (by decide +kernel) (ns_iload 4 rfl) rfl ?_
    obtain ⟨r5, S6, h7, hr⟩ := nk_bde hr
    refine nk_callS (ci := 0) (n := 3) (x := 471) (len := 3) (j' := 104) (q' := 1) (r := r5) (S' := S6) (L2 := [(0, nk_r (S.2 l0 0)), (1, nk_i l6), (2, nk_i l5)]) (rest := []) (st' := [nk_i r5]) (pc' := 57) mJ_235 (by decide +kernel) (by decide +kernel) (Nat.le_of_ble_eq_true rfl) rfl rfl (Nat.le_of_ble_eq_true rfl) mJ_104 (Nat.le_of_ble_eq_true rfl) ja_Tpos rfl (ja_X13_covers_ok zs _ _ _ _ _ t4 h7) rfl ?_
    refine nk_icond (c := .eq) (off := 70) (len := 3) (t := 127) (pc' := 60) mJ_235 (by decide +kernel) (by decide +kernel) rfl (fun hc => ?_) (fun hc => ?_)
    · have hr := nk_ifp (c := r5 = 0) hc hr
      obtain ⟨v8, h9, hr⟩ := nk_lte hr
      refine nk_p (i := .iinc 6 1) (len := 3) (pc' := 130) mJ_235 (by decide +kernel) (ns_iinc (c := 1) (L' := [(6, nk_i v8), (0, nk_r l0), (1, nk_l l1), (3, nk_i l3), (4, nk_i l4), (5, nk_i l5)]) 5 rfl (by decide +kernel) h9 rfl (by decide +kernel)) rfl ?_
      refine nk_p (i := .goto (-96)) (len := 3) (pc' := 34) mJ_235 (by decide +kernel) (ns_goto (by decide +kernel)) rfl ?_
      refine nk_sub [1, 2, 3, 4, 5, 0] (L' := [(0, nk_r l0), (1, nk_l l1), (3, nk_i l3), (4, nk_i l4), (5, nk_i l5), (6, nk_i v8)]) rfl ?_
      exact hrec34 _ _ _ _ _ _ _ _ t_l0 hr
    · have hr := nk_ifn (c := r5 = 0) hc hr
      refine nk_p (i := .aload_n 0) (len := 1) (pc' := 61) mJ_235 (by decide +kernel) (ns_aload_n 0 rfl rfl) rfl ?_
      refine nk_getM (cj := 12) (z := 0) (x := 12) (len := 3) (ci := 13) (k := 0) (pc' := 64) ja_okT mJ_235 (by decide +kernel) (by decide +kernel) (by decide +kernel) t_l0 rfl (fun t10 => ?_)
      refine nk_p (i := .iload 4) (len := 2) (pc' := 66) mJ_235 (by decide +kernel) (ns_iload 3 rfl) rfl ?_
      refine nk_p (i := .bipush 8) (len := 2) (pc' := 68) mJ_235 (by decide +kernel) (ns_bipush (c := 8) (by decide +kernel)) rfl ?_
      refine nk_p (i := .aload_n 0) (len := 1) (pc' := 69) mJ_235 (by decide +kernel) (ns_aload_n 0 rfl rfl) rfl ?_
      refine nk_getM (cj := 12) (z := 0) (x := 12) (len := 3) (ci := 13) (k := 0) (pc' := 72) ja_okT mJ_235 (by decide +kernel) (by decide +kernel) (by decide +kernel) t_l0 rfl (fun t11 => ?_)
      refine nk_getC (f := (4, 1, 64)) (x := 409) (len := 3) (ci := 12) (k := 32) (pc' := 75) ja_okT mJ_235 (by decide +kernel) (by decide +kernel) (by decide +kernel) (by decide) t11 rfl ?_
      have t12 : nk_ar ja_Tt (ja_c (S6.2 l0 0) 32) = some (1, 64) := nk_ta ja_okT t11 (by decide +kernel)
      refine nk_p (i := .iload 6) (len := 2) (pc' := 77) mJ_235 (by decide +kernel) (ns_iload 5 rfl) rfl ?_
      obtain ⟨h13, hr⟩ := nk_cke hr
      refine nk_iald (len := 1) (N := 64) (pc' := 78) mJ_235 (by decide +kernel) t12 h13.1 h13.2 rfl rfl ?_
      refine nk_p (i := .iadd) (len := 1) (pc' := 79) mJ_235 (by decide +kernel) ns_iadd rfl ?_
      obtain ⟨r14, S15, h16, hr⟩ := nk_bde hr
      refine nk_callS (ci := 0) (n := 3) (x := 486) (len := 3) (j' := 143) (q' := 1) (r := r14) (S' := S15) (L2 := [(0, nk_r (S6.2 l0 0)), (1, nk_i l4), (2, nk_i (nk_w (8 + (S6.1 (ja_c (S6.2 l0 0) 32) l6.toNat))))]) (rest := []) (st' := [nk_i r14]) (pc' := 82) mJ_235 (by decide +kernel) (by decide +kernel) (Nat.le_of_ble_eq_true rfl) rfl rfl (Nat.le_of_ble_eq_true rfl) mJ_143 (Nat.le_of_ble_eq_true rfl) ja_Tpos rfl (ja_X13_isBelow_ok zs _ _ _ _ _ t11 h16) rfl ?_
      refine nk_icond (c := .ne) (off := 6) (len := 3) (t := 88) (pc' := 85) mJ_235 (by decide +kernel) (by decide +kernel) rfl (fun hc => ?_) (fun hc => ?_)
      · have hr := nk_ifn (c := r14 = 0) hc hr
        refine nk_p (i := .aload_n 0) (len := 1) (pc' := 89) mJ_235 (by decide +kernel) (ns_aload_n 0 rfl rfl) rfl ?_
        refine nk_getC (f := (4, 1, 64)) (x := 108) (len := 3) (ci := 13) (k := 43) (pc' := 92) ja_okT mJ_235 (by decide +kernel) (by decide +kernel) (by decide +kernel) (by decide) t_l0 rfl ?_
        have t17 : nk_ar ja_Tt (ja_c l0 43) = some (1, 64) := nk_ta ja_okT t_l0 (by decide +kernel)
        refine nk_p (i := .aload_n 0) (len := 1) (pc' := 93) mJ_235 (by decide +kernel) (ns_aload_n 0 rfl rfl) rfl ?_
        refine nk_getI (y := (0, 0)) (x := 823) (len := 3) (ci := 13) (k := 52) (pc' := 96) ja_okT mJ_235 (by decide +kernel) (by decide +kernel) (by decide +kernel) t_l0 rfl ?_
        refine nk_p (i := .iconst 1) (len := 1) (pc' := 97) mJ_235 (by decide +kernel) (ns_iconst (c := 1) (by decide +kernel)) rfl ?_
        refine nk_p (i := .isub) (len := 1) (pc' := 98) mJ_235 (by decide +kernel) ns_isub rfl ?_
        refine nk_p (i := .iconst 0) (len := 1) (pc' := 99) mJ_235 (by decide +kernel) (ns_iconst (c := 0) (by decide +kernel)) rfl ?_
        obtain ⟨h18, hr⟩ := nk_cke hr
        obtain ⟨S19, h20, hr⟩ := nk_lte hr
        refine nk_iast (len := 1) (N := 64) (pc' := 100) mJ_235 (by decide +kernel) t17 h18.1 h18.2 rfl rfl h20 ?_
        refine nk_p (i := .aload_n 0) (len := 1) (pc' := 101) mJ_235 (by decide +kernel) (ns_aload_n 0 rfl rfl) rfl ?_
        refine nk_p (i := .lload_n 1) (len := 1) (pc' := 102) mJ_235 (by decide +kernel) (ns_lload_n 1 rfl rfl) rfl ?_
        obtain ⟨r21, S22, h23, hr⟩ := nk_bde hr
        refine nk_callV (ci := 13) (n := 1) (x := 882) (len := 3) (j' := 211) (q' := 0) (r := r21) (S' := S22) (L2 := [(0, nk_r l0), (1, nk_l l1)]) (rest := []) (st' := []) (pc' := 105) mJ_235 (by decide +kernel) (by decide +kernel) rfl rfl t_l0 (Nat.le_of_ble_eq_true rfl) mJ_211 (Nat.le_of_ble_eq_true rfl) rfl (ja_X13_push_ok zs _ _ _ _ t_l0 h23) rfl ?_
        refine nk_p (i := .aload_n 0) (len := 1) (pc' := 106) mJ_235 (by decide +kernel) (ns_aload_n 0 rfl rfl) rfl ?_
        refine nk_getC (f := (4, 1, 64)) (x := 111) (len := 3) (ci := 13) (k := 44) (pc' := 109) ja_okT mJ_235 (by decide +kernel) (by decide +kernel) (by decide +kernel) (by decide) t_l0 rfl ?_
        have t24 : nk_ar ja_Tt (ja_c l0 44) = some (1, 64) := nk_ta ja_okT t_l0 (by decide +kernel)
        refine nk_p (i := .aload_n 0) (len := 1) (pc' := 110) mJ_235 (by decide +kernel) (ns_aload_n 0 rfl rfl) rfl ?_
        refine nk_getI (y := (0, 0)) (x := 823) (len := 3) (ci := 13) (k := 52) (pc' := 113) ja_okT mJ_235 (by decide +kernel) (by decide +kernel) (by decide +kernel) t_l0 rfl ?_
        refine nk_p (i := .iconst 1) (len := 1) (pc' := 114) mJ_235 (by decide +kernel) (ns_iconst (c := 1) (by decide +kernel)) rfl ?_
        refine nk_p (i := .isub) (len := 1) (pc' := 115) mJ_235 (by decide +kernel) ns_isub rfl ?_
        refine nk_p (i := .aload_n 0) (len := 1) (pc' := 116) mJ_235 (by decide +kernel) (ns_aload_n 0 rfl rfl) rfl ?_
        refine nk_getM (cj := 12) (z := 0) (x := 12) (len := 3) (ci := 13) (k := 0) (pc' := 119) ja_okT mJ_235 (by decide +kernel) (by decide +kernel) (by decide +kernel) t_l0 rfl (fun t25 => ?_)
        refine nk_getC (f := (4, 1, 64)) (x := 406) (len := 3) (ci := 12) (k := 31) (pc' := 122) ja_okT mJ_235 (by decide +kernel) (by decide +kernel) (by decide +kernel) (by decide) t25 rfl ?_
        have t26 : nk_ar ja_Tt (ja_c (S22.2 l0 0) 31) = some (1, 64) := nk_ta ja_okT t25 (by decide +kernel)
        refine nk_p (i := .iload 6) (len := 2) (pc' := 124) mJ_235 (by decide +kernel) (ns_iload 5 rfl) rfl ?_
        refine nk_iald (len := 1) (N := 64) (pc' := 125) mJ_235 (by decide +kernel) t26 h13.1 h13.2 rfl rfl ?_
        obtain ⟨h27, hr⟩ := nk_cke hr
        obtain ⟨S28, h29, hr⟩ := nk_lte hr
        refine nk_iast (len := 1) (N := 64) (pc' := 126) mJ_235 (by decide +kernel) t24 h27.1 h27.2 rfl rfl h29 ?_
        cases hr
        exact nk_vret (len := 1) mJ_235 (by decide +kernel) rfl
      · have hr := nk_ifp (c := r14 = 0) (Decidable.of_not_not hc) hr
        refine nk_p (i := .goto 42) (len := 3) (pc' := 127) mJ_235 (by decide +kernel) (ns_goto (by decide +kernel)) rfl ?_
        obtain ⟨v30, h31, hr⟩ := nk_lte hr
        refine nk_p (i := .iinc 6 1) (len := 3) (pc' := 130) mJ_235 (by decide +kernel) (ns_iinc (c := 1) (L' := [(6, nk_i v30), (0, nk_r l0), (1, nk_l l1), (3, nk_i l3), (4, nk_i l4), (5, nk_i l5)]) 5 rfl (by decide +kernel) h31 rfl (by decide +kernel)) rfl ?_
        refine nk_p (i := .goto (-96)) (len := 3) (pc' := 34) mJ_235 (by decide +kernel) (ns_goto (by decide +kernel)) rfl ?_
        refine nk_sub [1, 2, 3, 4, 5, 0] (L' := [(0, nk_r l0), (1, nk_l l1), (3, nk_i l3), (4, nk_i l4), (5, nk_i l5), (6, nk_i v30)]) rfl ?_
        exact hrec34 _ _ _ _ _ _ _ _ t_l0 hr
noncomputable def ja_X13_toss_L34 (rec11 : Nat → Int → Int → Int → nk_S → Option (Int × nk_S)) : Nat → Nat → Int → Int → Int → Int → Int → nk_S → Option (Int × nk_S)
  | 0, _, _, _, _, _, _, _ => none
  | n + 1, l0, l1, l3, l4, l5, l6, S => ja_X13_toss_b34 rec11 (ja_X13_toss_L34 rec11 n) l0 l1 l3 l4 l5 l6 S
theorem ja_X13_toss_L34_ok (zs : List Int32) {rec11 : Nat → Int → Int → Int → nk_S → Option (Int × nk_S)} (hrec11 : ∀ (l0 : Nat) (l1 : Int) (l3 : Int) (l4 : Int) (S : nk_S) (R : Int × nk_S), nk_cl ja_Tt l0 = some 13 → rec11 l0 l1 l3 l4 S = some R → nk_K ja_Tt mi_Γ (mi_ev zs) 0 235 11 [(0, nk_r l0), (1, nk_l l1), (3, nk_i l3), (4, nk_i l4)] [] S R) : ∀ n : Nat, ∀ (l0 : Nat) (l1 : Int) (l3 : Int) (l4 : Int) (l5 : Int) (l6 : Int) (S : nk_S) (R : Int × nk_S), nk_cl ja_Tt l0 = some 13 → ja_X13_toss_L34 rec11 n l0 l1 l3 l4 l5 l6 S = some R → nk_K ja_Tt mi_Γ (mi_ev zs) 0 235 34 [(0, nk_r l0), (1, nk_l l1), (3, nk_i l3), (4, nk_i l4), (5, nk_i l5), (6, nk_i l6)] [] S R := by
  intro n
  induction n with
  | zero => intro _ _ _ _ _ _ _ _ _ hr; cases hr
  | succ n ih => intro l0 l1 l3 l4 l5 l6 S R t_l0 hr; exact ja_X13_toss_b34_ok zs hrec11 ih l0 l1 l3 l4 l5 l6 S R t_l0 hr
noncomputable def ja_X13_toss_b11 (rec11 : Nat → Int → Int → Int → nk_S → Option (Int × nk_S)) (l0 : Nat) (l1 : Int) (l3 : Int) (l4 : Int) (S : nk_S) : Option (Int × nk_S) :=
  if (S.1 l0 52) ≤ 0 then
    nk_bd (ja_X13_objectOf l1 S) fun r2 S3 =>
    if 0 ≤ r2 ∧ r2 < 2000 then
    nk_lt (nk_wi S3 l0 60 (S3.1 (ja_c l0 46) r2.toNat)) fun S6 =>
    nk_bd (ja_X13_ended l0 1 l3 S6) fun r8 S9 =>
    some (0, S9)
    else none
  else
    if 0 ≤ (nk_w ((S.1 l0 52) - 1)) ∧ (nk_w ((S.1 l0 52) - 1)) < 64 then
    nk_lt (S.1 (ja_c l0 44) (nk_w ((S.1 l0 52) - 1)).toNat) fun v13 =>
    ja_X13_toss_L34 rec11 nk_big l0 l1 l3 l4 v13 0 S
    else none
theorem ja_X13_toss_b11_ok (zs : List Int32) {rec11 : Nat → Int → Int → Int → nk_S → Option (Int × nk_S)} (hrec11 : ∀ (l0 : Nat) (l1 : Int) (l3 : Int) (l4 : Int) (S : nk_S) (R : Int × nk_S), nk_cl ja_Tt l0 = some 13 → rec11 l0 l1 l3 l4 S = some R → nk_K ja_Tt mi_Γ (mi_ev zs) 0 235 11 [(0, nk_r l0), (1, nk_l l1), (3, nk_i l3), (4, nk_i l4)] [] S R) : ∀ (l0 : Nat) (l1 : Int) (l3 : Int) (l4 : Int) (S : nk_S) (R : Int × nk_S), nk_cl ja_Tt l0 = some 13 → ja_X13_toss_b11 rec11 l0 l1 l3 l4 S = some R → nk_K ja_Tt mi_Γ (mi_ev zs) 0 235 11 [(0, nk_r l0), (1, nk_l l1), (3, nk_i l3), (4, nk_i l4)] [] S R := by
  intro l0 l1 l3 l4 S R t_l0 hr
  unfold ja_X13_toss_b11 at hr
  refine nk_p (i := .aload_n 0) (len := 1) (pc' := 12) mJ_235 (by decide +kernel) (ns_aload_n 0 rfl rfl) rfl ?_
  refine nk_getI (y := (0, 0)) (x := 823) (len := 3) (ci := 13) (k := 52) (pc' := 15) ja_okT mJ_235 (by decide +kernel) (by decide +kernel) (by decide +kernel) t_l0 rfl ?_
  refine nk_icond (c := .le) (off := 131) (len := 3) (t := 146) (pc' := 18) mJ_235 (by decide +kernel) (by decide +kernel) rfl (fun hc => ?_) (fun hc => ?_)
  · have hr := nk_ifp (c := (S.1 l0 52) ≤ 0) hc hr
    refine nk_p (i := .aload_n 0) (len := 1) (pc' := 147) mJ_235 (by decide +kernel) (ns_aload_n 0 rfl rfl) rfl ?_
    refine nk_p (i := .aload_n 0) (len := 1) (pc' := 148) mJ_235 (by decide +kernel) (ns_aload_n 0 rfl rfl) rfl ?_
    refine nk_getC (f := (4, 1, 2000)) (x := 117) (len := 3) (ci := 13) (k := 46) (pc' := 151) ja_okT mJ_235 (by decide +kernel) (by decide +kernel) (by decide +kernel) (by decide) t_l0 rfl ?_
    have t1 : nk_ar ja_Tt (ja_c l0 46) = some (1, 2000) := nk_ta ja_okT t_l0 (by decide +kernel)
    refine nk_p (i := .lload_n 1) (len := 1) (pc' := 152) mJ_235 (by decide +kernel) (ns_lload_n 1 rfl rfl) rfl ?_
    obtain ⟨r2, S3, h4, hr⟩ := nk_bde hr
    refine nk_callS (ci := 0) (n := 1) (x := 852) (len := 3) (j' := 200) (q' := 1) (r := r2) (S' := S3) (L2 := [(0, nk_l l1)]) (rest := [nk_r (ja_c l0 46), nk_r l0]) (st' := [nk_i r2, nk_r (ja_c l0 46), nk_r l0]) (pc' := 155) mJ_235 (by decide +kernel) (by decide +kernel) (Nat.le_of_ble_eq_true rfl) rfl rfl (Nat.le_of_ble_eq_true rfl) mJ_200 (Nat.le_of_ble_eq_true rfl) ja_Tpos rfl (ja_X13_objectOf_ok zs _ _ _ h4) rfl ?_
    obtain ⟨h5, hr⟩ := nk_cke hr
    refine nk_iald (len := 1) (N := 2000) (pc' := 156) mJ_235 (by decide +kernel) t1 h5.1 h5.2 rfl rfl ?_
    obtain ⟨S6, h7, hr⟩ := nk_lte hr
    refine nk_putI (y := (0, 0)) (ty := .int) (x := 138) (len := 3) (ci := 13) (k := 60) (pc' := 159) ja_okT mJ_235 (by decide +kernel) (by decide +kernel) (by decide +kernel) t_l0 (Or.inl rfl) rfl h7 ?_
    refine nk_p (i := .aload_n 0) (len := 1) (pc' := 160) mJ_235 (by decide +kernel) (ns_aload_n 0 rfl rfl) rfl ?_
    refine nk_p (i := .iconst 1) (len := 1) (pc' := 161) mJ_235 (by decide +kernel) (ns_iconst (c := 1) (by decide +kernel)) rfl ?_
    refine nk_p (i := .iload_n 3) (len := 1) (pc' := 162) mJ_235 (by decide +kernel) (ns_iload_n 2 rfl rfl) rfl ?_
    obtain ⟨r8, S9, h10, hr⟩ := nk_bde hr
    refine nk_callV (ci := 13) (n := 2) (x := 871) (len := 3) (j' := 111) (q' := 0) (r := r8) (S' := S9) (L2 := [(0, nk_r l0), (1, nk_i 1), (2, nk_i l3)]) (rest := []) (st' := []) (pc' := 165) mJ_235 (by decide +kernel) (by decide +kernel) rfl rfl t_l0 (Nat.le_of_ble_eq_true rfl) mJ_111 (Nat.le_of_ble_eq_true rfl) rfl (ja_X13_ended_ok zs _ _ _ _ _ t_l0 h10) rfl ?_
    cases hr
    exact nk_vret (len := 1) mJ_235 (by decide +kernel) rfl
  · have hr := nk_ifn (c := (S.1 l0 52) ≤ 0) hc hr
    refine nk_p (i := .aload_n 0) (len := 1) (pc' := 19) mJ_235 (by decide +kernel) (ns_aload_n 0 rfl rfl) rfl ?_
    refine nk_getC (f := (4, 1, 64)) (x := 111) (len := 3) (ci := 13) (k := 44) (pc' := 22) ja_okT mJ_235 (by decide +kernel) (by decide +kernel) (by decide +kernel) (by decide) t_l0 rfl ?_
    have t11 : nk_ar ja_Tt (ja_c l0 44) = some (1, 64) := nk_ta ja_okT t_l0 (by decide +kernel)
    refine nk_p (i := .aload_n 0) (len := 1) (pc' := 23) mJ_235 (by decide +kernel) (ns_aload_n 0 rfl rfl) rfl ?_
    refine nk_getI (y := (0, 0)) (x := 823) (len := 3) (ci := 13) (k := 52) (pc' := 26) ja_okT mJ_235 (by decide +kernel) (by decide +kernel) (by decide +kernel) t_l0 rfl ?_
    refine nk_p (i := .iconst 1) (len := 1) (pc' := 27) mJ_235 (by decide +kernel) (ns_iconst (c := 1) (by decide +kernel)) rfl ?_
    refine nk_p (i := .isub) (len := 1) (pc' := 28) mJ_235 (by decide +kernel) ns_isub rfl ?_
    obtain ⟨h12, hr⟩ := nk_cke hr
    refine nk_iald (len := 1) (N := 64) (pc' := 29) mJ_235 (by decide +kernel) t11 h12.1 h12.2 rfl rfl ?_
    obtain ⟨v13, h14, hr⟩ := nk_lte hr
    refine nk_p (i := .istore 5) (len := 2) (pc' := 31) mJ_235 (by decide +kernel) (ns_istore (L' := [(5, nk_i v13), (0, nk_r l0), (1, nk_l l1), (3, nk_i l3), (4, nk_i l4)]) h14 rfl (by decide +kernel)) rfl ?_
    refine nk_p (i := .iconst 0) (len := 1) (pc' := 32) mJ_235 (by decide +kernel) (ns_iconst (c := 0) (by decide +kernel)) rfl ?_
    refine nk_p (i := .istore 6) (len := 2) (pc' := 34) mJ_235 (by decide +kernel) (ns_istore (L' := [(6, nk_i 0), (5, nk_i v13), (0, nk_r l0), (1, nk_l l1), (3, nk_i l3), (4, nk_i l4)]) rfl rfl (by decide +kernel)) rfl ?_
    refine nk_sub [2, 3, 4, 5, 1, 0] (L' := [(0, nk_r l0), (1, nk_l l1), (3, nk_i l3), (4, nk_i l4), (5, nk_i v13), (6, nk_i 0)]) rfl ?_
    exact ja_X13_toss_L34_ok zs hrec11 nk_big _ _ _ _ _ _ _ _ t_l0 hr
noncomputable def ja_X13_toss_L11 : Nat → Nat → Int → Int → Int → nk_S → Option (Int × nk_S)
  | 0, _, _, _, _, _ => none
  | n + 1, l0, l1, l3, l4, S => ja_X13_toss_b11 (ja_X13_toss_L11 n) l0 l1 l3 l4 S
theorem ja_X13_toss_L11_ok (zs : List Int32) : ∀ n : Nat, ∀ (l0 : Nat) (l1 : Int) (l3 : Int) (l4 : Int) (S : nk_S) (R : Int × nk_S), nk_cl ja_Tt l0 = some 13 → ja_X13_toss_L11 n l0 l1 l3 l4 S = some R → nk_K ja_Tt mi_Γ (mi_ev zs) 0 235 11 [(0, nk_r l0), (1, nk_l l1), (3, nk_i l3), (4, nk_i l4)] [] S R := by
  intro n
  induction n with
  | zero => intro _ _ _ _ _ _ _ hr; cases hr
  | succ n ih => intro l0 l1 l3 l4 S R t_l0 hr; exact ja_X13_toss_b11_ok zs ih l0 l1 l3 l4 S R t_l0 hr
noncomputable def ja_X13_toss (l0 : Nat) (l1 : Int) (l3 : Int) (S : nk_S) : Option (Int × nk_S) :=
  nk_bd (ja_X13_objectOf l1 S) fun r2 S3 =>
  if 0 ≤ r2 ∧ r2 < 2000 then
  nk_lt (S3.1 (ja_c l0 45) r2.toNat) fun v6 =>
  ja_X13_toss_L11 nk_big l0 l1 l3 v6 S3
  else none
theorem ja_X13_toss_ok (zs : List Int32) : ∀ (l0 : Nat) (l1 : Int) (l3 : Int) (S : nk_S) (R : Int × nk_S), nk_cl ja_Tt l0 = some 13 → ja_X13_toss l0 l1 l3 S = some R → nk_K ja_Tt mi_Γ (mi_ev zs) 0 235 0 [(0, nk_r l0), (1, nk_l l1), (3, nk_i l3)] [] S R := by
  intro l0 l1 l3 S R t_l0 hr
  unfold ja_X13_toss at hr
  refine nk_p (i := .aload_n 0) (len := 1) (pc' := 1) mJ_235 (by decide +kernel) (ns_aload_n 0 rfl rfl) rfl ?_
  refine nk_getC (f := (4, 1, 2000)) (x := 114) (len := 3) (ci := 13) (k := 45) (pc' := 4) ja_okT mJ_235 (by decide +kernel) (by decide +kernel) (by decide +kernel) (by decide) t_l0 rfl ?_
  have t1 : nk_ar ja_Tt (ja_c l0 45) = some (1, 2000) := nk_ta ja_okT t_l0 (by decide +kernel)
  refine nk_p (i := .lload_n 1) (len := 1) (pc' := 5) mJ_235 (by decide +kernel) (ns_lload_n 1 rfl rfl) rfl ?_
  obtain ⟨r2, S3, h4, hr⟩ := nk_bde hr
  refine nk_callS (ci := 0) (n := 1) (x := 852) (len := 3) (j' := 200) (q' := 1) (r := r2) (S' := S3) (L2 := [(0, nk_l l1)]) (rest := [nk_r (ja_c l0 45)]) (st' := [nk_i r2, nk_r (ja_c l0 45)]) (pc' := 8) mJ_235 (by decide +kernel) (by decide +kernel) (Nat.le_of_ble_eq_true rfl) rfl rfl (Nat.le_of_ble_eq_true rfl) mJ_200 (Nat.le_of_ble_eq_true rfl) ja_Tpos rfl (ja_X13_objectOf_ok zs _ _ _ h4) rfl ?_
  obtain ⟨h5, hr⟩ := nk_cke hr
  refine nk_iald (len := 1) (N := 2000) (pc' := 9) mJ_235 (by decide +kernel) t1 h5.1 h5.2 rfl rfl ?_
  obtain ⟨v6, h7, hr⟩ := nk_lte hr
  refine nk_p (i := .istore 4) (len := 2) (pc' := 11) mJ_235 (by decide +kernel) (ns_istore (L' := [(4, nk_i v6), (0, nk_r l0), (1, nk_l l1), (3, nk_i l3)]) h7 rfl (by decide +kernel)) rfl ?_
  refine nk_sub [1, 2, 3, 0] (L' := [(0, nk_r l0), (1, nk_l l1), (3, nk_i l3), (4, nk_i v6)]) rfl ?_
  exact ja_X13_toss_L11_ok zs nk_big _ _ _ _ _ _ t_l0 hr
/-! SafeCodeModel raise (II)V -/
noncomputable def ja_X13_raise_b21 (l0 : Nat) (l1 : Int) (l2 : Int) (S : nk_S) : Option (Int × nk_S) :=
  nk_bd (ja_X13_object l0 (nk_w (10 + l1)) (nk_w (48 + l1)) 0 l2 S) fun r1 S2 =>
  if r1 = 0 then
    some (0, S2)
  else
    nk_bd (ja_X13_toss l0 r1 l2 S2) fun r4 S5 =>
    some (0, S5)
theorem ja_X13_raise_b21_ok (zs : List Int32) : ∀ (l0 : Nat) (l1 : Int) (l2 : Int) (S : nk_S) (R : Int × nk_S), nk_cl ja_Tt l0 = some 13 → ja_X13_raise_b21 l0 l1 l2 S = some R → nk_K ja_Tt mi_Γ (mi_ev zs) 0 214 21 [(0, nk_r l0), (1, nk_i l1), (2, nk_i l2)] [] S R := by
  intro l0 l1 l2 S R t_l0 hr
  unfold ja_X13_raise_b21 at hr
  refine nk_p (i := .aload_n 0) (len := 1) (pc' := 22) mJ_214 (by decide +kernel) (ns_aload_n 0 rfl rfl) rfl ?_
  refine nk_p (i := .bipush 10) (len := 2) (pc' := 24) mJ_214 (by decide +kernel) (ns_bipush (c := 10) (by decide +kernel)) rfl ?_
  refine nk_p (i := .iload_n 1) (len := 1) (pc' := 25) mJ_214 (by decide +kernel) (ns_iload_n 1 rfl rfl) rfl ?_
  refine nk_p (i := .iadd) (len := 1) (pc' := 26) mJ_214 (by decide +kernel) ns_iadd rfl ?_
  refine nk_p (i := .bipush 48) (len := 2) (pc' := 28) mJ_214 (by decide +kernel) (ns_bipush (c := 48) (by decide +kernel)) rfl ?_
  refine nk_p (i := .iload_n 1) (len := 1) (pc' := 29) mJ_214 (by decide +kernel) (ns_iload_n 1 rfl rfl) rfl ?_
  refine nk_p (i := .iadd) (len := 1) (pc' := 30) mJ_214 (by decide +kernel) ns_iadd rfl ?_
  refine nk_p (i := .iconst 0) (len := 1) (pc' := 31) mJ_214 (by decide +kernel) (ns_iconst (c := 0) (by decide +kernel)) rfl ?_
  refine nk_p (i := .iload_n 2) (len := 1) (pc' := 32) mJ_214 (by decide +kernel) (ns_iload_n 2 rfl rfl) rfl ?_
  obtain ⟨r1, S2, h3, hr⟩ := nk_bde hr
  refine nk_callV (ci := 13) (n := 4) (x := 874) (len := 3) (j' := 199) (q' := 2) (r := r1) (S' := S2) (L2 := [(0, nk_r l0), (1, nk_i (nk_w (10 + l1))), (2, nk_i (nk_w (48 + l1))), (3, nk_i 0), (4, nk_i l2)]) (rest := []) (st' := [nk_l r1]) (pc' := 35) mJ_214 (by decide +kernel) (by decide +kernel) rfl rfl t_l0 (Nat.le_of_ble_eq_true rfl) mJ_199 (Nat.le_of_ble_eq_true rfl) rfl (ja_X13_object_ok zs _ _ _ _ _ _ _ t_l0 h3) rfl ?_
  refine nk_p (i := .lstore_n 3) (len := 1) (pc' := 36) mJ_214 (by decide +kernel) (ns_lstore_n (L' := [(3, nk_l r1), (0, nk_r l0), (1, nk_i l1), (2, nk_i l2)]) rfl rfl rfl (by decide +kernel)) rfl ?_
  refine nk_p (i := .lload_n 3) (len := 1) (pc' := 37) mJ_214 (by decide +kernel) (ns_lload_n 0 rfl rfl) rfl ?_
  refine nk_p (i := .lconst 0) (len := 1) (pc' := 38) mJ_214 (by decide +kernel) (ns_lconst (c := 0) (by decide +kernel)) rfl ?_
  refine nk_p (i := .lcmp) (len := 1) (pc' := 39) mJ_214 (by decide +kernel) ns_lcmp rfl ?_
  refine nk_lcond (c := .eq) (off := 9) (len := 3) (t := 48) (pc' := 42) mJ_214 (by decide +kernel) (by decide +kernel) rfl (fun hc => ?_) (fun hc => ?_)
  · have hr := nk_ifp (c := r1 = 0) hc hr
    cases hr
    exact nk_vret (len := 1) mJ_214 (by decide +kernel) rfl
  · have hr := nk_ifn (c := r1 = 0) hc hr
    refine nk_p (i := .aload_n 0) (len := 1) (pc' := 43) mJ_214 (by decide +kernel) (ns_aload_n 1 rfl rfl) rfl ?_
    refine nk_p (i := .lload_n 3) (len := 1) (pc' := 44) mJ_214 (by decide +kernel) (ns_lload_n 0 rfl rfl) rfl ?_
    refine nk_p (i := .iload_n 2) (len := 1) (pc' := 45) mJ_214 (by decide +kernel) (ns_iload_n 3 rfl rfl) rfl ?_
    obtain ⟨r4, S5, h6, hr⟩ := nk_bde hr
    refine nk_callV (ci := 13) (n := 2) (x := 878) (len := 3) (j' := 235) (q' := 0) (r := r4) (S' := S5) (L2 := [(0, nk_r l0), (1, nk_l r1), (3, nk_i l2)]) (rest := []) (st' := []) (pc' := 48) mJ_214 (by decide +kernel) (by decide +kernel) rfl rfl t_l0 (Nat.le_of_ble_eq_true rfl) mJ_235 (Nat.le_of_ble_eq_true rfl) rfl (ja_X13_toss_ok zs _ _ _ _ _ t_l0 h6) rfl ?_
    cases hr
    exact nk_vret (len := 1) mJ_214 (by decide +kernel) rfl
noncomputable def ja_X13_raise (l0 : Nat) (l1 : Int) (l2 : Int) (S : nk_S) : Option (Int × nk_S) :=
  if 0 ≤ l2 ∧ l2 < 1024 then
  if (nk_iand (nk_ishr (S.1 (ja_c (S.2 l0 0) 44) l2.toNat) l1) 1) = 0 then
    nk_lt (nk_wi S l0 63 1) fun S4 =>
    ja_X13_raise_b21 l0 l1 l2 S4
  else
    ja_X13_raise_b21 l0 l1 l2 S
  else none
theorem ja_X13_raise_ok (zs : List Int32) : ∀ (l0 : Nat) (l1 : Int) (l2 : Int) (S : nk_S) (R : Int × nk_S), nk_cl ja_Tt l0 = some 13 → ja_X13_raise l0 l1 l2 S = some R → nk_K ja_Tt mi_Γ (mi_ev zs) 0 214 0 [(0, nk_r l0), (1, nk_i l1), (2, nk_i l2)] [] S R := by
  intro l0 l1 l2 S R t_l0 hr
  unfold ja_X13_raise at hr
  refine nk_p (i := .aload_n 0) (len := 1) (pc' := 1) mJ_214 (by decide +kernel) (ns_aload_n 0 rfl rfl) rfl ?_
  refine nk_getM (cj := 12) (z := 0) (x := 12) (len := 3) (ci := 13) (k := 0) (pc' := 4) ja_okT mJ_214 (by decide +kernel) (by decide +kernel) (by decide +kernel) t_l0 rfl (fun t1 => ?_)
  refine nk_getC (f := (4, 1, 1024)) (x := 601) (len := 3) (ci := 12) (k := 44) (pc' := 7) ja_okT mJ_214 (by decide +kernel) (by decide +kernel) (by decide +kernel) (by decide) t1 rfl ?_
  have t2 : nk_ar ja_Tt (ja_c (S.2 l0 0) 44) = some (1, 1024) := nk_ta ja_okT t1 (by decide +kernel)
  refine nk_p (i := .iload_n 2) (len := 1) (pc' := 8) mJ_214 (by decide +kernel) (ns_iload_n 2 rfl rfl) rfl ?_
  obtain ⟨h3, hr⟩ := nk_cke hr
  refine nk_iald (len := 1) (N := 1024) (pc' := 9) mJ_214 (by decide +kernel) t2 h3.1 h3.2 rfl rfl ?_
  refine nk_p (i := .iload_n 1) (len := 1) (pc' := 10) mJ_214 (by decide +kernel) (ns_iload_n 1 rfl rfl) rfl ?_
  refine nk_p (i := .ishr) (len := 1) (pc' := 11) mJ_214 (by decide +kernel) ns_ishr rfl ?_
  refine nk_p (i := .iconst 1) (len := 1) (pc' := 12) mJ_214 (by decide +kernel) (ns_iconst (c := 1) (by decide +kernel)) rfl ?_
  refine nk_p (i := .iand) (len := 1) (pc' := 13) mJ_214 (by decide +kernel) ns_iand rfl ?_
  refine nk_icond (c := .ne) (off := 8) (len := 3) (t := 21) (pc' := 16) mJ_214 (by decide +kernel) (by decide +kernel) rfl (fun hc => ?_) (fun hc => ?_)
  · have hr := nk_ifn (c := (nk_iand (nk_ishr (S.1 (ja_c (S.2 l0 0) 44) l2.toNat) l1) 1) = 0) hc hr
    exact ja_X13_raise_b21_ok zs _ _ _ _ _ t_l0 hr
  · have hr := nk_ifp (c := (nk_iand (nk_ishr (S.1 (ja_c (S.2 l0 0) 44) l2.toNat) l1) 1) = 0) (Decidable.of_not_not hc) hr
    refine nk_p (i := .aload_n 0) (len := 1) (pc' := 17) mJ_214 (by decide +kernel) (ns_aload_n 0 rfl rfl) rfl ?_
    refine nk_p (i := .iconst 1) (len := 1) (pc' := 18) mJ_214 (by decide +kernel) (ns_iconst (c := 1) (by decide +kernel)) rfl ?_
    obtain ⟨S4, h5, hr⟩ := nk_lte hr
    refine nk_putI (y := (0, 0)) (ty := .boolean) (x := 835) (len := 3) (ci := 13) (k := 63) (pc' := 21) ja_okT mJ_214 (by decide +kernel) (by decide +kernel) (by decide +kernel) t_l0 (Or.inr ⟨rfl, by decide⟩) rfl h5 ?_
    exact ja_X13_raise_b21_ok zs _ _ _ _ _ t_l0 hr
/-! SafeCodeModel enter (I)V -/
noncomputable def ja_X13_enter_b2 (rec2 : Nat → Int → Int → nk_S → Option (Int × nk_S)) (l0 : Nat) (l1 : Int) (l2 : Int) (S : nk_S) : Option (Int × nk_S) :=
  if 12 ≤ l2 then
    if 0 ≤ (S.1 l0 52) ∧ (S.1 l0 52) < 64 then
    nk_lt (nk_wi S (ja_c l0 43) (S.1 l0 52).toNat 0) fun S3 =>
    if 0 ≤ l1 ∧ l1 < 48 then
    if 0 ≤ (S3.1 l0 52) ∧ (S3.1 l0 52) < 64 then
    nk_lt (nk_wi S3 (ja_c l0 44) (S3.1 l0 52).toNat (S3.1 (ja_c (S3.2 l0 0) 19) l1.toNat)) fun S10 =>
    nk_lt (nk_wi S10 l0 52 (nk_w ((S10.1 l0 52) + 1))) fun S12 =>
    some (0, S12)
    else none
    else none
    else none
  else
    if 0 ≤ (nk_w ((nk_w ((S.1 l0 52) * 12)) + l2)) ∧ (nk_w ((nk_w ((S.1 l0 52) * 12)) + l2)) < 768 then
    nk_lt (nk_wi S (ja_c l0 41) (nk_w ((nk_w ((S.1 l0 52) * 12)) + l2)).toNat 1125899906842624) fun S16 =>
    nk_lt (nk_w (l2 + 1)) fun v18 =>
    rec2 l0 l1 v18 S16
    else none
theorem ja_X13_enter_b2_ok (zs : List Int32) {rec2 : Nat → Int → Int → nk_S → Option (Int × nk_S)} (hrec2 : ∀ (l0 : Nat) (l1 : Int) (l2 : Int) (S : nk_S) (R : Int × nk_S), nk_cl ja_Tt l0 = some 13 → rec2 l0 l1 l2 S = some R → nk_K ja_Tt mi_Γ (mi_ev zs) 0 113 2 [(0, nk_r l0), (1, nk_i l1), (2, nk_i l2)] [] S R) : ∀ (l0 : Nat) (l1 : Int) (l2 : Int) (S : nk_S) (R : Int × nk_S), nk_cl ja_Tt l0 = some 13 → ja_X13_enter_b2 rec2 l0 l1 l2 S = some R → nk_K ja_Tt mi_Γ (mi_ev zs) 0 113 2 [(0, nk_r l0), (1, nk_i l1), (2, nk_i l2)] [] S R := by
  intro l0 l1 l2 S R t_l0 hr
  unfold ja_X13_enter_b2 at hr
  refine nk_p (i := .iload_n 2) (len := 1) (pc' := 3) mJ_113 (by decide +kernel) (ns_iload_n 2 rfl rfl) rfl ?_
  refine nk_p (i := .bipush 12) (len := 2) (pc' := 5) mJ_113 (by decide +kernel) (ns_bipush (c := 12) (by decide +kernel)) rfl ?_
  refine nk_icmp (c := .ge) (off := 26) (len := 3) (t := 31) (pc' := 8) mJ_113 (by decide +kernel) (by decide +kernel) rfl (fun hc => ?_) (fun hc => ?_)
  · have hr := nk_ifp (c := 12 ≤ l2) hc hr
    refine nk_p (i := .aload_n 0) (len := 1) (pc' := 32) mJ_113 (by decide +kernel) (ns_aload_n 0 rfl rfl) rfl ?_
    refine nk_getC (f := (4, 1, 64)) (x := 108) (len := 3) (ci := 13) (k := 43) (pc' := 35) ja_okT mJ_113 (by decide +kernel) (by decide +kernel) (by decide +kernel) (by decide) t_l0 rfl ?_
    have t1 : nk_ar ja_Tt (ja_c l0 43) = some (1, 64) := nk_ta ja_okT t_l0 (by decide +kernel)
    refine nk_p (i := .aload_n 0) (len := 1) (pc' := 36) mJ_113 (by decide +kernel) (ns_aload_n 0 rfl rfl) rfl ?_
    refine nk_getI (y := (0, 0)) (x := 823) (len := 3) (ci := 13) (k := 52) (pc' := 39) ja_okT mJ_113 (by decide +kernel) (by decide +kernel) (by decide +kernel) t_l0 rfl ?_
    refine nk_p (i := .iconst 0) (len := 1) (pc' := 40) mJ_113 (by decide +kernel) (ns_iconst (c := 0) (by decide +kernel)) rfl ?_
    obtain ⟨h2, hr⟩ := nk_cke hr
    obtain ⟨S3, h4, hr⟩ := nk_lte hr
    refine nk_iast (len := 1) (N := 64) (pc' := 41) mJ_113 (by decide +kernel) t1 h2.1 h2.2 rfl rfl h4 ?_
    refine nk_p (i := .aload_n 0) (len := 1) (pc' := 42) mJ_113 (by decide +kernel) (ns_aload_n 0 rfl rfl) rfl ?_
    refine nk_getC (f := (4, 1, 64)) (x := 111) (len := 3) (ci := 13) (k := 44) (pc' := 45) ja_okT mJ_113 (by decide +kernel) (by decide +kernel) (by decide +kernel) (by decide) t_l0 rfl ?_
    have t5 : nk_ar ja_Tt (ja_c l0 44) = some (1, 64) := nk_ta ja_okT t_l0 (by decide +kernel)
    refine nk_p (i := .aload_n 0) (len := 1) (pc' := 46) mJ_113 (by decide +kernel) (ns_aload_n 0 rfl rfl) rfl ?_
    refine nk_getI (y := (0, 0)) (x := 823) (len := 3) (ci := 13) (k := 52) (pc' := 49) ja_okT mJ_113 (by decide +kernel) (by decide +kernel) (by decide +kernel) t_l0 rfl ?_
    refine nk_p (i := .aload_n 0) (len := 1) (pc' := 50) mJ_113 (by decide +kernel) (ns_aload_n 0 rfl rfl) rfl ?_
    refine nk_getM (cj := 12) (z := 0) (x := 12) (len := 3) (ci := 13) (k := 0) (pc' := 53) ja_okT mJ_113 (by decide +kernel) (by decide +kernel) (by decide +kernel) t_l0 rfl (fun t6 => ?_)
    refine nk_getC (f := (4, 1, 48)) (x := 369) (len := 3) (ci := 12) (k := 19) (pc' := 56) ja_okT mJ_113 (by decide +kernel) (by decide +kernel) (by decide +kernel) (by decide) t6 rfl ?_
    have t7 : nk_ar ja_Tt (ja_c (S3.2 l0 0) 19) = some (1, 48) := nk_ta ja_okT t6 (by decide +kernel)
    refine nk_p (i := .iload_n 1) (len := 1) (pc' := 57) mJ_113 (by decide +kernel) (ns_iload_n 1 rfl rfl) rfl ?_
    obtain ⟨h8, hr⟩ := nk_cke hr
    refine nk_iald (len := 1) (N := 48) (pc' := 58) mJ_113 (by decide +kernel) t7 h8.1 h8.2 rfl rfl ?_
    obtain ⟨h9, hr⟩ := nk_cke hr
    obtain ⟨S10, h11, hr⟩ := nk_lte hr
    refine nk_iast (len := 1) (N := 64) (pc' := 59) mJ_113 (by decide +kernel) t5 h9.1 h9.2 rfl rfl h11 ?_
    refine nk_p (i := .aload_n 0) (len := 1) (pc' := 60) mJ_113 (by decide +kernel) (ns_aload_n 0 rfl rfl) rfl ?_
    refine nk_p (i := .dup) (len := 1) (pc' := 61) mJ_113 (by decide +kernel) (ns_dup rfl) rfl ?_
    refine nk_getI (y := (0, 0)) (x := 823) (len := 3) (ci := 13) (k := 52) (pc' := 64) ja_okT mJ_113 (by decide +kernel) (by decide +kernel) (by decide +kernel) t_l0 rfl ?_
    refine nk_p (i := .iconst 1) (len := 1) (pc' := 65) mJ_113 (by decide +kernel) (ns_iconst (c := 1) (by decide +kernel)) rfl ?_
    refine nk_p (i := .iadd) (len := 1) (pc' := 66) mJ_113 (by decide +kernel) ns_iadd rfl ?_
    obtain ⟨S12, h13, hr⟩ := nk_lte hr
    refine nk_putI (y := (0, 0)) (ty := .int) (x := 823) (len := 3) (ci := 13) (k := 52) (pc' := 69) ja_okT mJ_113 (by decide +kernel) (by decide +kernel) (by decide +kernel) t_l0 (Or.inl rfl) rfl h13 ?_
    cases hr
    exact nk_vret (len := 1) mJ_113 (by decide +kernel) rfl
  · have hr := nk_ifn (c := 12 ≤ l2) hc hr
    refine nk_p (i := .aload_n 0) (len := 1) (pc' := 9) mJ_113 (by decide +kernel) (ns_aload_n 0 rfl rfl) rfl ?_
    refine nk_getC (f := (4, 2, 768)) (x := 102) (len := 3) (ci := 13) (k := 41) (pc' := 12) ja_okT mJ_113 (by decide +kernel) (by decide +kernel) (by decide +kernel) (by decide) t_l0 rfl ?_
    have t14 : nk_ar ja_Tt (ja_c l0 41) = some (2, 768) := nk_ta ja_okT t_l0 (by decide +kernel)
    refine nk_p (i := .aload_n 0) (len := 1) (pc' := 13) mJ_113 (by decide +kernel) (ns_aload_n 0 rfl rfl) rfl ?_
    refine nk_getI (y := (0, 0)) (x := 823) (len := 3) (ci := 13) (k := 52) (pc' := 16) ja_okT mJ_113 (by decide +kernel) (by decide +kernel) (by decide +kernel) t_l0 rfl ?_
    refine nk_p (i := .bipush 12) (len := 2) (pc' := 18) mJ_113 (by decide +kernel) (ns_bipush (c := 12) (by decide +kernel)) rfl ?_
    refine nk_p (i := .imul) (len := 1) (pc' := 19) mJ_113 (by decide +kernel) ns_imul rfl ?_
    refine nk_p (i := .iload_n 2) (len := 1) (pc' := 20) mJ_113 (by decide +kernel) (ns_iload_n 2 rfl rfl) rfl ?_
    refine nk_p (i := .iadd) (len := 1) (pc' := 21) mJ_113 (by decide +kernel) ns_iadd rfl ?_
    refine nk_ldc2 (x := 844) (len := 3) (X := 1125899906842624) (v := 1125899906842624) (pc' := 24) mJ_113 (by decide +kernel) (by decide +kernel) (by decide +kernel) rfl ?_
    obtain ⟨h15, hr⟩ := nk_cke hr
    obtain ⟨S16, h17, hr⟩ := nk_lte hr
    refine nk_last (len := 1) (N := 768) (pc' := 25) mJ_113 (by decide +kernel) t14 h15.1 h15.2 rfl rfl h17 ?_
    obtain ⟨v18, h19, hr⟩ := nk_lte hr
    refine nk_p (i := .iinc 2 1) (len := 3) (pc' := 28) mJ_113 (by decide +kernel) (ns_iinc (c := 1) (L' := [(2, nk_i v18), (0, nk_r l0), (1, nk_i l1)]) 2 rfl (by decide +kernel) h19 rfl (by decide +kernel)) rfl ?_
    refine nk_p (i := .goto (-26)) (len := 3) (pc' := 2) mJ_113 (by decide +kernel) (ns_goto (by decide +kernel)) rfl ?_
    refine nk_sub [1, 2, 0] (L' := [(0, nk_r l0), (1, nk_i l1), (2, nk_i v18)]) rfl ?_
    exact hrec2 _ _ _ _ _ t_l0 hr
noncomputable def ja_X13_enter_L2 : Nat → Nat → Int → Int → nk_S → Option (Int × nk_S)
  | 0, _, _, _, _ => none
  | n + 1, l0, l1, l2, S => ja_X13_enter_b2 (ja_X13_enter_L2 n) l0 l1 l2 S
theorem ja_X13_enter_L2_ok (zs : List Int32) : ∀ n : Nat, ∀ (l0 : Nat) (l1 : Int) (l2 : Int) (S : nk_S) (R : Int × nk_S), nk_cl ja_Tt l0 = some 13 → ja_X13_enter_L2 n l0 l1 l2 S = some R → nk_K ja_Tt mi_Γ (mi_ev zs) 0 113 2 [(0, nk_r l0), (1, nk_i l1), (2, nk_i l2)] [] S R := by
  intro n
  induction n with
  | zero => intro _ _ _ _ _ _ hr; cases hr
  | succ n ih => intro l0 l1 l2 S R t_l0 hr; exact ja_X13_enter_b2_ok zs ih l0 l1 l2 S R t_l0 hr
noncomputable def ja_X13_enter (l0 : Nat) (l1 : Int) (S : nk_S) : Option (Int × nk_S) :=
  ja_X13_enter_L2 nk_big l0 l1 0 S
theorem ja_X13_enter_ok (zs : List Int32) : ∀ (l0 : Nat) (l1 : Int) (S : nk_S) (R : Int × nk_S), nk_cl ja_Tt l0 = some 13 → ja_X13_enter l0 l1 S = some R → nk_K ja_Tt mi_Γ (mi_ev zs) 0 113 0 [(0, nk_r l0), (1, nk_i l1)] [] S R := by
  intro l0 l1 S R t_l0 hr
  unfold ja_X13_enter at hr
  refine nk_p (i := .iconst 0) (len := 1) (pc' := 1) mJ_113 (by decide +kernel) (ns_iconst (c := 0) (by decide +kernel)) rfl ?_
  refine nk_p (i := .istore_n 2) (len := 1) (pc' := 2) mJ_113 (by decide +kernel) (ns_istore_n (L' := [(2, nk_i 0), (0, nk_r l0), (1, nk_i l1)]) rfl rfl rfl (by decide +kernel)) rfl ?_
  refine nk_sub [1, 2, 0] (L' := [(0, nk_r l0), (1, nk_i l1), (2, nk_i 0)]) rfl ?_
  exact ja_X13_enter_L2_ok zs nk_big _ _ _ _ _ t_l0 hr
/-! SafeCodeModel callStep (III)V -/
noncomputable def ja_X13_callStep_b141 (rec141 : Nat → Int → Int → Int → nk_S → Option (Int × nk_S)) (l0 : Nat) (l4 : Int) (l5 : Int) (l7 : Int) (S : nk_S) : Option (Int × nk_S) :=
  if l4 ≤ l7 then
    some (0, S)
  else
    if 0 ≤ (nk_w (l5 + l7)) ∧ (nk_w (l5 + l7)) < 512 then
    if 0 ≤ (nk_w ((nk_w ((nk_w ((S.1 l0 52) - 1)) * 12)) + l7)) ∧ (nk_w ((nk_w ((nk_w ((S.1 l0 52) - 1)) * 12)) + l7)) < 768 then
    nk_lt (nk_wi S (ja_c l0 41) (nk_w ((nk_w ((nk_w ((S.1 l0 52) - 1)) * 12)) + l7)).toNat (S.1 (ja_c l0 42) (nk_w (l5 + l7)).toNat)) fun S5 =>
    nk_lt (nk_w (l7 + 1)) fun v7 =>
    rec141 l0 l4 l5 v7 S5
    else none
    else none
theorem ja_X13_callStep_b141_ok (zs : List Int32) {rec141 : Nat → Int → Int → Int → nk_S → Option (Int × nk_S)} (hrec141 : ∀ (l0 : Nat) (l4 : Int) (l5 : Int) (l7 : Int) (S : nk_S) (R : Int × nk_S), nk_cl ja_Tt l0 = some 13 → rec141 l0 l4 l5 l7 S = some R → nk_K ja_Tt mi_Γ (mi_ev zs) 0 94 141 [(0, nk_r l0), (4, nk_i l4), (5, nk_i l5), (7, nk_i l7)] [] S R) : ∀ (l0 : Nat) (l4 : Int) (l5 : Int) (l7 : Int) (S : nk_S) (R : Int × nk_S), nk_cl ja_Tt l0 = some 13 → ja_X13_callStep_b141 rec141 l0 l4 l5 l7 S = some R → nk_K ja_Tt mi_Γ (mi_ev zs) 0 94 141 [(0, nk_r l0), (4, nk_i l4), (5, nk_i l5), (7, nk_i l7)] [] S R := by
  intro l0 l4 l5 l7 S R t_l0 hr
  unfold ja_X13_callStep_b141 at hr
  refine nk_p (i := .iload 7) (len := 2) (pc' := 143) mJ_94 (by decide +kernel) (ns_iload 3 rfl) rfl ?_
  refine nk_p (i := .iload 4) (len := 2) (pc' := 145) mJ_94 (by decide +kernel) (ns_iload 1 rfl) rfl ?_
  refine nk_icmp (c := .ge) (off := 36) (len := 3) (t := 181) (pc' := 148) mJ_94 (by decide +kernel) (by decide +kernel) rfl (fun hc => ?_) (fun hc => ?_)
  · have hr := nk_ifp (c := l4 ≤ l7) hc hr
    cases hr
    exact nk_vret (len := 1) mJ_94 (by decide +kernel) rfl
  · have hr := nk_ifn (c := l4 ≤ l7) hc hr
    refine nk_p (i := .aload_n 0) (len := 1) (pc' := 149) mJ_94 (by decide +kernel) (ns_aload_n 0 rfl rfl) rfl ?_
    refine nk_getC (f := (4, 2, 768)) (x := 102) (len := 3) (ci := 13) (k := 41) (pc' := 152) ja_okT mJ_94 (by decide +kernel) (by decide +kernel) (by decide +kernel) (by decide) t_l0 rfl ?_
    have t1 : nk_ar ja_Tt (ja_c l0 41) = some (2, 768) := nk_ta ja_okT t_l0 (by decide +kernel)
    refine nk_p (i := .aload_n 0) (len := 1) (pc' := 153) mJ_94 (by decide +kernel) (ns_aload_n 0 rfl rfl) rfl ?_
    refine nk_getI (y := (0, 0)) (x := 823) (len := 3) (ci := 13) (k := 52) (pc' := 156) ja_okT mJ_94 (by decide +kernel) (by decide +kernel) (by decide +kernel) t_l0 rfl ?_
    refine nk_p (i := .iconst 1) (len := 1) (pc' := 157) mJ_94 (by decide +kernel) (ns_iconst (c := 1) (by decide +kernel)) rfl ?_
    refine nk_p (i := .isub) (len := 1) (pc' := 158) mJ_94 (by decide +kernel) ns_isub rfl ?_
    refine nk_p (i := .bipush 12) (len := 2) (pc' := 160) mJ_94 (by decide +kernel) (ns_bipush (c := 12) (by decide +kernel)) rfl ?_
    refine nk_p (i := .imul) (len := 1) (pc' := 161) mJ_94 (by decide +kernel) ns_imul rfl ?_
    refine nk_p (i := .iload 7) (len := 2) (pc' := 163) mJ_94 (by decide +kernel) (ns_iload 3 rfl) rfl ?_
    refine nk_p (i := .iadd) (len := 1) (pc' := 164) mJ_94 (by decide +kernel) ns_iadd rfl ?_
    refine nk_p (i := .aload_n 0) (len := 1) (pc' := 165) mJ_94 (by decide +kernel) (ns_aload_n 0 rfl rfl) rfl ?_
    refine nk_getC (f := (4, 2, 512)) (x := 105) (len := 3) (ci := 13) (k := 42) (pc' := 168) ja_okT mJ_94 (by decide +kernel) (by decide +kernel) (by decide +kernel) (by decide) t_l0 rfl ?_
    have t2 : nk_ar ja_Tt (ja_c l0 42) = some (2, 512) := nk_ta ja_okT t_l0 (by decide +kernel)
    refine nk_p (i := .iload 5) (len := 2) (pc' := 170) mJ_94 (by decide +kernel) (ns_iload 2 rfl) rfl ?_
    refine nk_p (i := .iload 7) (len := 2) (pc' := 172) mJ_94 (by decide +kernel) (ns_iload 3 rfl) rfl ?_
    refine nk_p (i := .iadd) (len := 1) (pc' := 173) mJ_94 (by decide +kernel) ns_iadd rfl ?_
    obtain ⟨h3, hr⟩ := nk_cke hr
    refine nk_lald (len := 1) (N := 512) (pc' := 174) mJ_94 (by decide +kernel) t2 h3.1 h3.2 rfl rfl ?_
    obtain ⟨h4, hr⟩ := nk_cke hr
    obtain ⟨S5, h6, hr⟩ := nk_lte hr
    refine nk_last (len := 1) (N := 768) (pc' := 175) mJ_94 (by decide +kernel) t1 h4.1 h4.2 rfl rfl h6 ?_
    obtain ⟨v7, h8, hr⟩ := nk_lte hr
    refine nk_p (i := .iinc 7 1) (len := 3) (pc' := 178) mJ_94 (by decide +kernel) (ns_iinc (c := 1) (L' := [(7, nk_i v7), (0, nk_r l0), (4, nk_i l4), (5, nk_i l5)]) 3 rfl (by decide +kernel) h8 rfl (by decide +kernel)) rfl ?_
    refine nk_p (i := .goto (-37)) (len := 3) (pc' := 141) mJ_94 (by decide +kernel) (ns_goto (by decide +kernel)) rfl ?_
    refine nk_sub [1, 2, 3, 0] (L' := [(0, nk_r l0), (4, nk_i l4), (5, nk_i l5), (7, nk_i v7)]) rfl ?_
    exact hrec141 _ _ _ _ _ _ t_l0 hr
noncomputable def ja_X13_callStep_L141 : Nat → Nat → Int → Int → Int → nk_S → Option (Int × nk_S)
  | 0, _, _, _, _, _ => none
  | n + 1, l0, l4, l5, l7, S => ja_X13_callStep_b141 (ja_X13_callStep_L141 n) l0 l4 l5 l7 S
theorem ja_X13_callStep_L141_ok (zs : List Int32) : ∀ n : Nat, ∀ (l0 : Nat) (l4 : Int) (l5 : Int) (l7 : Int) (S : nk_S) (R : Int × nk_S), nk_cl ja_Tt l0 = some 13 → ja_X13_callStep_L141 n l0 l4 l5 l7 S = some R → nk_K ja_Tt mi_Γ (mi_ev zs) 0 94 141 [(0, nk_r l0), (4, nk_i l4), (5, nk_i l5), (7, nk_i l7)] [] S R := by
  intro n
  induction n with
  | zero => intro _ _ _ _ _ _ _ hr; cases hr
  | succ n ih => intro l0 l4 l5 l7 S R t_l0 hr; exact ja_X13_callStep_b141_ok zs ih l0 l4 l5 l7 S R t_l0 hr
noncomputable def ja_X13_callStep_b100 (l0 : Nat) (l3 : Int) (l4 : Int) (l5 : Int) (l6 : Int) (S : nk_S) : Option (Int × nk_S) :=
  if (S.1 l0 52) = 64 then
    nk_bd (ja_X13_ended l0 4 l3 S) fun r8 S9 =>
    some (0, S9)
  else
    if 0 ≤ (nk_w ((S.1 l0 52) - 1)) ∧ (nk_w ((S.1 l0 52) - 1)) < 64 then
    nk_lt (nk_wi S (ja_c l0 43) (nk_w ((S.1 l0 52) - 1)).toNat (nk_w ((S.1 (ja_c l0 43) (nk_w ((S.1 l0 52) - 1)).toNat) - l4))) fun S3 =>
    nk_bd (ja_X13_enter l0 l6 S3) fun r5 S6 =>
    ja_X13_callStep_L141 nk_big l0 l4 l5 0 S6
    else none
theorem ja_X13_callStep_b100_ok (zs : List Int32) : ∀ (l0 : Nat) (l3 : Int) (l4 : Int) (l5 : Int) (l6 : Int) (S : nk_S) (R : Int × nk_S), nk_cl ja_Tt l0 = some 13 → ja_X13_callStep_b100 l0 l3 l4 l5 l6 S = some R → nk_K ja_Tt mi_Γ (mi_ev zs) 0 94 100 [(0, nk_r l0), (3, nk_i l3), (4, nk_i l4), (5, nk_i l5), (6, nk_i l6)] [] S R := by
  intro l0 l3 l4 l5 l6 S R t_l0 hr
  unfold ja_X13_callStep_b100 at hr
  refine nk_p (i := .aload_n 0) (len := 1) (pc' := 101) mJ_94 (by decide +kernel) (ns_aload_n 0 rfl rfl) rfl ?_
  refine nk_getI (y := (0, 0)) (x := 823) (len := 3) (ci := 13) (k := 52) (pc' := 104) ja_okT mJ_94 (by decide +kernel) (by decide +kernel) (by decide +kernel) t_l0 rfl ?_
  refine nk_p (i := .bipush 64) (len := 2) (pc' := 106) mJ_94 (by decide +kernel) (ns_bipush (c := 64) (by decide +kernel)) rfl ?_
  refine nk_icmp (c := .ne) (off := 10) (len := 3) (t := 116) (pc' := 109) mJ_94 (by decide +kernel) (by decide +kernel) rfl (fun hc => ?_) (fun hc => ?_)
  · have hr := nk_ifn (c := (S.1 l0 52) = 64) hc hr
    refine nk_p (i := .aload_n 0) (len := 1) (pc' := 117) mJ_94 (by decide +kernel) (ns_aload_n 0 rfl rfl) rfl ?_
    refine nk_getC (f := (4, 1, 64)) (x := 108) (len := 3) (ci := 13) (k := 43) (pc' := 120) ja_okT mJ_94 (by decide +kernel) (by decide +kernel) (by decide +kernel) (by decide) t_l0 rfl ?_
    have t1 : nk_ar ja_Tt (ja_c l0 43) = some (1, 64) := nk_ta ja_okT t_l0 (by decide +kernel)
    refine nk_p (i := .aload_n 0) (len := 1) (pc' := 121) mJ_94 (by decide +kernel) (ns_aload_n 0 rfl rfl) rfl ?_
    refine nk_getI (y := (0, 0)) (x := 823) (len := 3) (ci := 13) (k := 52) (pc' := 124) ja_okT mJ_94 (by decide +kernel) (by decide +kernel) (by decide +kernel) t_l0 rfl ?_
    refine nk_p (i := .iconst 1) (len := 1) (pc' := 125) mJ_94 (by decide +kernel) (ns_iconst (c := 1) (by decide +kernel)) rfl ?_
    refine nk_p (i := .isub) (len := 1) (pc' := 126) mJ_94 (by decide +kernel) ns_isub rfl ?_
    refine nk_p (i := .dup2) (len := 1) (pc' := 127) mJ_94 (by decide +kernel) (ns_dup2 rfl rfl) rfl ?_
    obtain ⟨h2, hr⟩ := nk_cke hr
    refine nk_iald (len := 1) (N := 64) (pc' := 128) mJ_94 (by decide +kernel) t1 h2.1 h2.2 rfl rfl ?_
    refine nk_p (i := .iload 4) (len := 2) (pc' := 130) mJ_94 (by decide +kernel) (ns_iload 2 rfl) rfl ?_
    refine nk_p (i := .isub) (len := 1) (pc' := 131) mJ_94 (by decide +kernel) ns_isub rfl ?_
    obtain ⟨S3, h4, hr⟩ := nk_lte hr
    refine nk_iast (len := 1) (N := 64) (pc' := 132) mJ_94 (by decide +kernel) t1 h2.1 h2.2 rfl rfl h4 ?_
    refine nk_p (i := .aload_n 0) (len := 1) (pc' := 133) mJ_94 (by decide +kernel) (ns_aload_n 0 rfl rfl) rfl ?_
    refine nk_p (i := .iload 6) (len := 2) (pc' := 135) mJ_94 (by decide +kernel) (ns_iload 4 rfl) rfl ?_
    obtain ⟨r5, S6, h7, hr⟩ := nk_bde hr
    refine nk_callV (ci := 13) (n := 1) (x := 829) (len := 3) (j' := 113) (q' := 0) (r := r5) (S' := S6) (L2 := [(0, nk_r l0), (1, nk_i l6)]) (rest := []) (st' := []) (pc' := 138) mJ_94 (by decide +kernel) (by decide +kernel) rfl rfl t_l0 (Nat.le_of_ble_eq_true rfl) mJ_113 (Nat.le_of_ble_eq_true rfl) rfl (ja_X13_enter_ok zs _ _ _ _ t_l0 h7) rfl ?_
    refine nk_p (i := .iconst 0) (len := 1) (pc' := 139) mJ_94 (by decide +kernel) (ns_iconst (c := 0) (by decide +kernel)) rfl ?_
    refine nk_p (i := .istore 7) (len := 2) (pc' := 141) mJ_94 (by decide +kernel) (ns_istore (L' := [(7, nk_i 0), (0, nk_r l0), (3, nk_i l3), (4, nk_i l4), (5, nk_i l5), (6, nk_i l6)]) rfl rfl (by decide +kernel)) rfl ?_
    refine nk_sub [1, 3, 4, 0] (L' := [(0, nk_r l0), (4, nk_i l4), (5, nk_i l5), (7, nk_i 0)]) rfl ?_
    exact ja_X13_callStep_L141_ok zs nk_big _ _ _ _ _ _ t_l0 hr
  · have hr := nk_ifp (c := (S.1 l0 52) = 64) (Decidable.of_not_not hc) hr
    refine nk_p (i := .aload_n 0) (len := 1) (pc' := 110) mJ_94 (by decide +kernel) (ns_aload_n 0 rfl rfl) rfl ?_
    refine nk_p (i := .iconst 4) (len := 1) (pc' := 111) mJ_94 (by decide +kernel) (ns_iconst (c := 4) (by decide +kernel)) rfl ?_
    refine nk_p (i := .iload_n 3) (len := 1) (pc' := 112) mJ_94 (by decide +kernel) (ns_iload_n 1 rfl rfl) rfl ?_
    obtain ⟨r8, S9, h10, hr⟩ := nk_bde hr
    refine nk_callV (ci := 13) (n := 2) (x := 871) (len := 3) (j' := 111) (q' := 0) (r := r8) (S' := S9) (L2 := [(0, nk_r l0), (1, nk_i 4), (2, nk_i l3)]) (rest := []) (st' := []) (pc' := 115) mJ_94 (by decide +kernel) (by decide +kernel) rfl rfl t_l0 (Nat.le_of_ble_eq_true rfl) mJ_111 (Nat.le_of_ble_eq_true rfl) rfl (ja_X13_ended_ok zs _ _ _ _ _ t_l0 h10) rfl ?_
    cases hr
    exact nk_vret (len := 1) mJ_94 (by decide +kernel) rfl
noncomputable def ja_X13_callStep (l0 : Nat) (l1 : Int) (l2 : Int) (l3 : Int) (S : nk_S) : Option (Int × nk_S) :=
  if 0 ≤ l2 ∧ l2 < 48 then
  nk_lt (S.1 (ja_c (S.2 l0 0) 15) l2.toNat) fun v4 =>
  if 0 ≤ (nk_w ((S.1 l0 52) - 1)) ∧ (nk_w ((S.1 l0 52) - 1)) < 64 then
  nk_lt (nk_w ((nk_w ((nk_w ((nk_w ((S.1 l0 52) - 1)) * 8)) + (S.1 (ja_c l0 43) (nk_w ((S.1 l0 52) - 1)).toNat))) - v4)) fun v8 =>
  if l1 = 40 then
    if 0 ≤ v8 ∧ v8 < 512 then
    if (S.1 (ja_c l0 42) v8.toNat) = 1099511627776 then
      nk_bd (ja_X13_raise l0 0 l3 S) fun r22 S23 =>
      some (0, S23)
    else
      nk_bd (ja_X13_objectOf (S.1 (ja_c l0 42) v8.toNat) S) fun r15 S16 =>
      if 0 ≤ r15 ∧ r15 < 2000 then
      if 0 ≤ (nk_w ((nk_w ((nk_w ((S16.1 (ja_c l0 45) r15.toNat) - 8)) * 48)) + l2)) ∧ (nk_w ((nk_w ((nk_w ((S16.1 (ja_c l0 45) r15.toNat) - 8)) * 48)) + l2)) < 1536 then
      nk_lt (S16.1 (ja_c (S.2 l0 0) 21) (nk_w ((nk_w ((nk_w ((S16.1 (ja_c l0 45) r15.toNat) - 8)) * 48)) + l2)).toNat) fun v20 =>
      ja_X13_callStep_b100 l0 l3 v4 v8 v20 S16
      else none
      else none
    else none
  else
    ja_X13_callStep_b100 l0 l3 v4 v8 l2 S
  else none
  else none
theorem ja_X13_callStep_ok (zs : List Int32) : ∀ (l0 : Nat) (l1 : Int) (l2 : Int) (l3 : Int) (S : nk_S) (R : Int × nk_S), nk_cl ja_Tt l0 = some 13 → ja_X13_callStep l0 l1 l2 l3 S = some R → nk_K ja_Tt mi_Γ (mi_ev zs) 0 94 0 [(0, nk_r l0), (1, nk_i l1), (2, nk_i l2), (3, nk_i l3)] [] S R := by
  intro l0 l1 l2 l3 S R t_l0 hr
  unfold ja_X13_callStep at hr
  refine nk_p (i := .aload_n 0) (len := 1) (pc' := 1) mJ_94 (by decide +kernel) (ns_aload_n 0 rfl rfl) rfl ?_
  refine nk_getM (cj := 12) (z := 0) (x := 12) (len := 3) (ci := 13) (k := 0) (pc' := 4) ja_okT mJ_94 (by decide +kernel) (by decide +kernel) (by decide +kernel) t_l0 rfl (fun t1 => ?_)
  refine nk_getC (f := (4, 1, 48)) (x := 348) (len := 3) (ci := 12) (k := 15) (pc' := 7) ja_okT mJ_94 (by decide +kernel) (by decide +kernel) (by decide +kernel) (by decide) t1 rfl ?_
  have t2 : nk_ar ja_Tt (ja_c (S.2 l0 0) 15) = some (1, 48) := nk_ta ja_okT t1 (by decide +kernel)
  refine nk_p (i := .iload_n 2) (len := 1) (pc' := 8) mJ_94 (by decide +kernel) (ns_iload_n 2 rfl rfl) rfl ?_
  obtain ⟨h3, hr⟩ := nk_cke hr
  refine nk_iald (len := 1) (N := 48) (pc' := 9) mJ_94 (by decide +kernel) t2 h3.1 h3.2 rfl rfl ?_
  obtain ⟨v4, h5, hr⟩ := nk_lte hr
  refine nk_p (i := .istore 4) (len := 2) (pc' := 11) mJ_94 (by decide +kernel) (ns_istore (L' := [(4, nk_i v4), (0, nk_r l0), (1, nk_i l1), (2, nk_i l2), (3, nk_i l3)]) h5 rfl (by decide +kernel)) rfl ?_
  refine nk_p (i := .aload_n 0) (len := 1) (pc' := 12) mJ_94 (by decide +kernel) (ns_aload_n 1 rfl rfl) rfl ?_
  refine nk_getI (y := (0, 0)) (x := 823) (len := 3) (ci := 13) (k := 52) (pc' := 15) ja_okT mJ_94 (by decide +kernel) (by decide +kernel) (by decide +kernel) t_l0 rfl ?_
  refine nk_p (i := .iconst 1) (len := 1) (pc' := 16) mJ_94 (by decide +kernel) (ns_iconst (c := 1) (by decide +kernel)) rfl ?_
  refine nk_p (i := .isub) (len := 1) (pc' := 17) mJ_94 (by decide +kernel) ns_isub rfl ?_
  refine nk_p (i := .bipush 8) (len := 2) (pc' := 19) mJ_94 (by decide +kernel) (ns_bipush (c := 8) (by decide +kernel)) rfl ?_
  refine nk_p (i := .imul) (len := 1) (pc' := 20) mJ_94 (by decide +kernel) ns_imul rfl ?_
  refine nk_p (i := .aload_n 0) (len := 1) (pc' := 21) mJ_94 (by decide +kernel) (ns_aload_n 1 rfl rfl) rfl ?_
  refine nk_getC (f := (4, 1, 64)) (x := 108) (len := 3) (ci := 13) (k := 43) (pc' := 24) ja_okT mJ_94 (by decide +kernel) (by decide +kernel) (by decide +kernel) (by decide) t_l0 rfl ?_
  have t6 : nk_ar ja_Tt (ja_c l0 43) = some (1, 64) := nk_ta ja_okT t_l0 (by decide +kernel)
  refine nk_p (i := .aload_n 0) (len := 1) (pc' := 25) mJ_94 (by decide +kernel) (ns_aload_n 1 rfl rfl) rfl ?_
  refine nk_getI (y := (0, 0)) (x := 823) (len := 3) (ci := 13) (k := 52) (pc' := 28) ja_okT mJ_94 (by decide +kernel) (by decide +kernel) (by decide +kernel) t_l0 rfl ?_
  refine nk_p (i := .iconst 1) (len := 1) (pc' := 29) mJ_94 (by decide +kernel) (ns_iconst (c := 1) (by decide +kernel)) rfl ?_
  refine nk_p (i := .isub) (len := 1) (pc' := 30) mJ_94 (by decide +kernel) ns_isub rfl ?_
  obtain ⟨h7, hr⟩ := nk_cke hr
  refine nk_iald (len := 1) (N := 64) (pc' := 31) mJ_94 (by decide +kernel) t6 h7.1 h7.2 rfl rfl ?_
  refine nk_p (i := .iadd) (len := 1) (pc' := 32) mJ_94 (by decide +kernel) ns_iadd rfl ?_
  refine nk_p (i := .iload 4) (len := 2) (pc' := 34) mJ_94 (by decide +kernel) (ns_iload 0 rfl) rfl ?_
  refine nk_p (i := .isub) (len := 1) (pc' := 35) mJ_94 (by decide +kernel) ns_isub rfl ?_
  obtain ⟨v8, h9, hr⟩ := nk_lte hr
  refine nk_p (i := .istore 5) (len := 2) (pc' := 37) mJ_94 (by decide +kernel) (ns_istore (L' := [(5, nk_i v8), (4, nk_i v4), (0, nk_r l0), (1, nk_i l1), (2, nk_i l2), (3, nk_i l3)]) h9 rfl (by decide +kernel)) rfl ?_
  refine nk_p (i := .iload_n 2) (len := 1) (pc' := 38) mJ_94 (by decide +kernel) (ns_iload_n 4 rfl rfl) rfl ?_
  refine nk_p (i := .istore 6) (len := 2) (pc' := 40) mJ_94 (by decide +kernel) (ns_istore (L' := [(6, nk_i l2), (5, nk_i v8), (4, nk_i v4), (0, nk_r l0), (1, nk_i l1), (2, nk_i l2), (3, nk_i l3)]) rfl rfl (by decide +kernel)) rfl ?_
  refine nk_p (i := .iload_n 1) (len := 1) (pc' := 41) mJ_94 (by decide +kernel) (ns_iload_n 4 rfl rfl) rfl ?_
  refine nk_p (i := .bipush 40) (len := 2) (pc' := 43) mJ_94 (by decide +kernel) (ns_bipush (c := 40) (by decide +kernel)) rfl ?_
  refine nk_icmp (c := .ne) (off := 57) (len := 3) (t := 100) (pc' := 46) mJ_94 (by decide +kernel) (by decide +kernel) rfl (fun hc => ?_) (fun hc => ?_)
  · have hr := nk_ifn (c := l1 = 40) hc hr
    refine nk_sub [3, 6, 2, 1, 0] (L' := [(0, nk_r l0), (3, nk_i l3), (4, nk_i v4), (5, nk_i v8), (6, nk_i l2)]) rfl ?_
    exact ja_X13_callStep_b100_ok zs _ _ _ _ _ _ _ t_l0 hr
  · have hr := nk_ifp (c := l1 = 40) (Decidable.of_not_not hc) hr
    refine nk_p (i := .aload_n 0) (len := 1) (pc' := 47) mJ_94 (by decide +kernel) (ns_aload_n 3 rfl rfl) rfl ?_
    refine nk_getC (f := (4, 2, 512)) (x := 105) (len := 3) (ci := 13) (k := 42) (pc' := 50) ja_okT mJ_94 (by decide +kernel) (by decide +kernel) (by decide +kernel) (by decide) t_l0 rfl ?_
    have t10 : nk_ar ja_Tt (ja_c l0 42) = some (2, 512) := nk_ta ja_okT t_l0 (by decide +kernel)
    refine nk_p (i := .iload 5) (len := 2) (pc' := 52) mJ_94 (by decide +kernel) (ns_iload 1 rfl) rfl ?_
    obtain ⟨h11, hr⟩ := nk_cke hr
    refine nk_lald (len := 1) (N := 512) (pc' := 53) mJ_94 (by decide +kernel) t10 h11.1 h11.2 rfl rfl ?_
    refine nk_ldc2 (x := 846) (len := 3) (X := 1099511627776) (v := 1099511627776) (pc' := 56) mJ_94 (by decide +kernel) (by decide +kernel) (by decide +kernel) rfl ?_
    refine nk_p (i := .lcmp) (len := 1) (pc' := 57) mJ_94 (by decide +kernel) ns_lcmp rfl ?_
    refine nk_lcond (c := .ne) (off := 10) (len := 3) (t := 67) (pc' := 60) mJ_94 (by decide +kernel) (by decide +kernel) rfl (fun hc => ?_) (fun hc => ?_)
    · have hr := nk_ifn (c := (S.1 (ja_c l0 42) v8.toNat) = 1099511627776) hc hr
      refine nk_p (i := .aload_n 0) (len := 1) (pc' := 68) mJ_94 (by decide +kernel) (ns_aload_n 3 rfl rfl) rfl ?_
      refine nk_getM (cj := 12) (z := 0) (x := 12) (len := 3) (ci := 13) (k := 0) (pc' := 71) ja_okT mJ_94 (by decide +kernel) (by decide +kernel) (by decide +kernel) t_l0 rfl (fun t12 => ?_)
      refine nk_getC (f := (4, 1, 1536)) (x := 450) (len := 3) (ci := 12) (k := 21) (pc' := 74) ja_okT mJ_94 (by decide +kernel) (by decide +kernel) (by decide +kernel) (by decide) t12 rfl ?_
      have t13 : nk_ar ja_Tt (ja_c (S.2 l0 0) 21) = some (1, 1536) := nk_ta ja_okT t12 (by decide +kernel)
      refine nk_p (i := .aload_n 0) (len := 1) (pc' := 75) mJ_94 (by decide +kernel) (ns_aload_n 3 rfl rfl) rfl ?_
      refine nk_getC (f := (4, 1, 2000)) (x := 114) (len := 3) (ci := 13) (k := 45) (pc' := 78) ja_okT mJ_94 (by decide +kernel) (by decide +kernel) (by decide +kernel) (by decide) t_l0 rfl ?_
      have t14 : nk_ar ja_Tt (ja_c l0 45) = some (1, 2000) := nk_ta ja_okT t_l0 (by decide +kernel)
      refine nk_p (i := .aload_n 0) (len := 1) (pc' := 79) mJ_94 (by decide +kernel) (ns_aload_n 3 rfl rfl) rfl ?_
      refine nk_getC (f := (4, 2, 512)) (x := 105) (len := 3) (ci := 13) (k := 42) (pc' := 82) ja_okT mJ_94 (by decide +kernel) (by decide +kernel) (by decide +kernel) (by decide) t_l0 rfl ?_
      refine nk_p (i := .iload 5) (len := 2) (pc' := 84) mJ_94 (by decide +kernel) (ns_iload 1 rfl) rfl ?_
      refine nk_lald (len := 1) (N := 512) (pc' := 85) mJ_94 (by decide +kernel) t10 h11.1 h11.2 rfl rfl ?_
      obtain ⟨r15, S16, h17, hr⟩ := nk_bde hr
      refine nk_callS (ci := 0) (n := 1) (x := 852) (len := 3) (j' := 200) (q' := 1) (r := r15) (S' := S16) (L2 := [(0, nk_l (S.1 (ja_c l0 42) v8.toNat))]) (rest := [nk_r (ja_c l0 45), nk_r (ja_c (S.2 l0 0) 21)]) (st' := [nk_i r15, nk_r (ja_c l0 45), nk_r (ja_c (S.2 l0 0) 21)]) (pc' := 88) mJ_94 (by decide +kernel) (by decide +kernel) (Nat.le_of_ble_eq_true rfl) rfl rfl (Nat.le_of_ble_eq_true rfl) mJ_200 (Nat.le_of_ble_eq_true rfl) ja_Tpos rfl (ja_X13_objectOf_ok zs _ _ _ h17) rfl ?_
      obtain ⟨h18, hr⟩ := nk_cke hr
      refine nk_iald (len := 1) (N := 2000) (pc' := 89) mJ_94 (by decide +kernel) t14 h18.1 h18.2 rfl rfl ?_
      refine nk_p (i := .bipush 8) (len := 2) (pc' := 91) mJ_94 (by decide +kernel) (ns_bipush (c := 8) (by decide +kernel)) rfl ?_
      refine nk_p (i := .isub) (len := 1) (pc' := 92) mJ_94 (by decide +kernel) ns_isub rfl ?_
      refine nk_p (i := .bipush 48) (len := 2) (pc' := 94) mJ_94 (by decide +kernel) (ns_bipush (c := 48) (by decide +kernel)) rfl ?_
      refine nk_p (i := .imul) (len := 1) (pc' := 95) mJ_94 (by decide +kernel) ns_imul rfl ?_
      refine nk_p (i := .iload_n 2) (len := 1) (pc' := 96) mJ_94 (by decide +kernel) (ns_iload_n 5 rfl rfl) rfl ?_
      refine nk_p (i := .iadd) (len := 1) (pc' := 97) mJ_94 (by decide +kernel) ns_iadd rfl ?_
      obtain ⟨h19, hr⟩ := nk_cke hr
      refine nk_iald (len := 1) (N := 1536) (pc' := 98) mJ_94 (by decide +kernel) t13 h19.1 h19.2 rfl rfl ?_
      obtain ⟨v20, h21, hr⟩ := nk_lte hr
      refine nk_p (i := .istore 6) (len := 2) (pc' := 100) mJ_94 (by decide +kernel) (ns_istore (L' := [(6, nk_i v20), (5, nk_i v8), (4, nk_i v4), (0, nk_r l0), (1, nk_i l1), (2, nk_i l2), (3, nk_i l3)]) h21 rfl (by decide +kernel)) rfl ?_
      refine nk_sub [3, 6, 2, 1, 0] (L' := [(0, nk_r l0), (3, nk_i l3), (4, nk_i v4), (5, nk_i v8), (6, nk_i v20)]) rfl ?_
      exact ja_X13_callStep_b100_ok zs _ _ _ _ _ _ _ t_l0 hr
    · have hr := nk_ifp (c := (S.1 (ja_c l0 42) v8.toNat) = 1099511627776) (Decidable.of_not_not hc) hr
      refine nk_p (i := .aload_n 0) (len := 1) (pc' := 61) mJ_94 (by decide +kernel) (ns_aload_n 3 rfl rfl) rfl ?_
      refine nk_p (i := .iconst 0) (len := 1) (pc' := 62) mJ_94 (by decide +kernel) (ns_iconst (c := 0) (by decide +kernel)) rfl ?_
      refine nk_p (i := .iload_n 3) (len := 1) (pc' := 63) mJ_94 (by decide +kernel) (ns_iload_n 6 rfl rfl) rfl ?_
      obtain ⟨r22, S23, h24, hr⟩ := nk_bde hr
      refine nk_callV (ci := 13) (n := 2) (x := 902) (len := 3) (j' := 214) (q' := 0) (r := r22) (S' := S23) (L2 := [(0, nk_r l0), (1, nk_i 0), (2, nk_i l3)]) (rest := []) (st' := []) (pc' := 66) mJ_94 (by decide +kernel) (by decide +kernel) rfl rfl t_l0 (Nat.le_of_ble_eq_true rfl) mJ_214 (Nat.le_of_ble_eq_true rfl) rfl (ja_X13_raise_ok zs _ _ _ _ _ t_l0 h24) rfl ?_
      cases hr
      exact nk_vret (len := 1) mJ_94 (by decide +kernel) rfl
/-! SafeCodeModel label (I)I -/
noncomputable def ja_X13_label_b2 (rec2 : Nat → Int → Int → nk_S → Option (Int × nk_S)) (l0 : Nat) (l1 : Int) (l2 : Int) (S : nk_S) : Option (Int × nk_S) :=
  if (S.1 l0 19) ≤ l2 then
    some ((-1), S)
  else
    if 0 ≤ l2 ∧ l2 < 16000 then
    nk_bd (ja_X13_isSameToken l0 l1 (S.1 (ja_c l0 17) l2.toNat) S) fun r3 S4 =>
    if r3 = 0 then
      nk_lt (nk_w (l2 + 1)) fun v6 =>
      rec2 l0 l1 v6 S4
    else
      some (l2, S4)
    else none
theorem ja_X13_label_b2_ok (zs : List Int32) {rec2 : Nat → Int → Int → nk_S → Option (Int × nk_S)} (hrec2 : ∀ (l0 : Nat) (l1 : Int) (l2 : Int) (S : nk_S) (R : Int × nk_S), nk_cl ja_Tt l0 = some 13 → rec2 l0 l1 l2 S = some R → nk_K ja_Tt mi_Γ (mi_ev zs) 1 172 2 [(0, nk_r l0), (1, nk_i l1), (2, nk_i l2)] [] S R) : ∀ (l0 : Nat) (l1 : Int) (l2 : Int) (S : nk_S) (R : Int × nk_S), nk_cl ja_Tt l0 = some 13 → ja_X13_label_b2 rec2 l0 l1 l2 S = some R → nk_K ja_Tt mi_Γ (mi_ev zs) 1 172 2 [(0, nk_r l0), (1, nk_i l1), (2, nk_i l2)] [] S R := by
  intro l0 l1 l2 S R t_l0 hr
  unfold ja_X13_label_b2 at hr
  refine nk_p (i := .iload_n 2) (len := 1) (pc' := 3) mJ_172 (by decide +kernel) (ns_iload_n 2 rfl rfl) rfl ?_
  refine nk_p (i := .aload_n 0) (len := 1) (pc' := 4) mJ_172 (by decide +kernel) (ns_aload_n 0 rfl rfl) rfl ?_
  refine nk_getI (y := (0, 0)) (x := 372) (len := 3) (ci := 13) (k := 19) (pc' := 7) ja_okT mJ_172 (by decide +kernel) (by decide +kernel) (by decide +kernel) t_l0 rfl ?_
  refine nk_icmp (c := .ge) (off := 25) (len := 3) (t := 32) (pc' := 10) mJ_172 (by decide +kernel) (by decide +kernel) rfl (fun hc => ?_) (fun hc => ?_)
  · have hr := nk_ifp (c := (S.1 l0 19) ≤ l2) hc hr
    refine nk_p (i := .iconst (-1)) (len := 1) (pc' := 33) mJ_172 (by decide +kernel) (ns_iconst (c := (-1)) (by decide +kernel)) rfl ?_
    cases hr
    exact nk_iret (ty := .int) (len := 1) mJ_172 (by decide +kernel) rfl (nk_nar_i _)
  · have hr := nk_ifn (c := (S.1 l0 19) ≤ l2) hc hr
    refine nk_p (i := .aload_n 0) (len := 1) (pc' := 11) mJ_172 (by decide +kernel) (ns_aload_n 0 rfl rfl) rfl ?_
    refine nk_p (i := .iload_n 1) (len := 1) (pc' := 12) mJ_172 (by decide +kernel) (ns_iload_n 1 rfl rfl) rfl ?_
    refine nk_p (i := .aload_n 0) (len := 1) (pc' := 13) mJ_172 (by decide +kernel) (ns_aload_n 0 rfl rfl) rfl ?_
    refine nk_getC (f := (4, 1, 16000)) (x := 49) (len := 3) (ci := 13) (k := 17) (pc' := 16) ja_okT mJ_172 (by decide +kernel) (by decide +kernel) (by decide +kernel) (by decide) t_l0 rfl ?_
    have t1 : nk_ar ja_Tt (ja_c l0 17) = some (1, 16000) := nk_ta ja_okT t_l0 (by decide +kernel)
    refine nk_p (i := .iload_n 2) (len := 1) (pc' := 17) mJ_172 (by decide +kernel) (ns_iload_n 2 rfl rfl) rfl ?_
    obtain ⟨h2, hr⟩ := nk_cke hr
    refine nk_iald (len := 1) (N := 16000) (pc' := 18) mJ_172 (by decide +kernel) t1 h2.1 h2.2 rfl rfl ?_
    obtain ⟨r3, S4, h5, hr⟩ := nk_bde hr
    refine nk_callV (ci := 13) (n := 2) (x := 327) (len := 3) (j' := 161) (q' := 1) (r := r3) (S' := S4) (L2 := [(0, nk_r l0), (1, nk_i l1), (2, nk_i (S.1 (ja_c l0 17) l2.toNat))]) (rest := []) (st' := [nk_i r3]) (pc' := 21) mJ_172 (by decide +kernel) (by decide +kernel) rfl rfl t_l0 (Nat.le_of_ble_eq_true rfl) mJ_161 (Nat.le_of_ble_eq_true rfl) rfl (ja_X13_isSameToken_ok zs _ _ _ _ _ t_l0 h5) rfl ?_
    refine nk_icond (c := .eq) (off := 5) (len := 3) (t := 26) (pc' := 24) mJ_172 (by decide +kernel) (by decide +kernel) rfl (fun hc => ?_) (fun hc => ?_)
    · have hr := nk_ifp (c := r3 = 0) hc hr
      obtain ⟨v6, h7, hr⟩ := nk_lte hr
      refine nk_p (i := .iinc 2 1) (len := 3) (pc' := 29) mJ_172 (by decide +kernel) (ns_iinc (c := 1) (L' := [(2, nk_i v6), (0, nk_r l0), (1, nk_i l1)]) 2 rfl (by decide +kernel) h7 rfl (by decide +kernel)) rfl ?_
      refine nk_p (i := .goto (-27)) (len := 3) (pc' := 2) mJ_172 (by decide +kernel) (ns_goto (by decide +kernel)) rfl ?_
      refine nk_sub [1, 2, 0] (L' := [(0, nk_r l0), (1, nk_i l1), (2, nk_i v6)]) rfl ?_
      exact hrec2 _ _ _ _ _ t_l0 hr
    · have hr := nk_ifn (c := r3 = 0) hc hr
      refine nk_p (i := .iload_n 2) (len := 1) (pc' := 25) mJ_172 (by decide +kernel) (ns_iload_n 2 rfl rfl) rfl ?_
      cases hr
      exact nk_iret (ty := .int) (len := 1) mJ_172 (by decide +kernel) rfl (nk_nar_i _)
noncomputable def ja_X13_label_L2 : Nat → Nat → Int → Int → nk_S → Option (Int × nk_S)
  | 0, _, _, _, _ => none
  | n + 1, l0, l1, l2, S => ja_X13_label_b2 (ja_X13_label_L2 n) l0 l1 l2 S
theorem ja_X13_label_L2_ok (zs : List Int32) : ∀ n : Nat, ∀ (l0 : Nat) (l1 : Int) (l2 : Int) (S : nk_S) (R : Int × nk_S), nk_cl ja_Tt l0 = some 13 → ja_X13_label_L2 n l0 l1 l2 S = some R → nk_K ja_Tt mi_Γ (mi_ev zs) 1 172 2 [(0, nk_r l0), (1, nk_i l1), (2, nk_i l2)] [] S R := by
  intro n
  induction n with
  | zero => intro _ _ _ _ _ _ hr; cases hr
  | succ n ih => intro l0 l1 l2 S R t_l0 hr; exact ja_X13_label_b2_ok zs ih l0 l1 l2 S R t_l0 hr
noncomputable def ja_X13_label (l0 : Nat) (l1 : Int) (S : nk_S) : Option (Int × nk_S) :=
  ja_X13_label_L2 nk_big l0 l1 0 S
theorem ja_X13_label_ok (zs : List Int32) : ∀ (l0 : Nat) (l1 : Int) (S : nk_S) (R : Int × nk_S), nk_cl ja_Tt l0 = some 13 → ja_X13_label l0 l1 S = some R → nk_K ja_Tt mi_Γ (mi_ev zs) 1 172 0 [(0, nk_r l0), (1, nk_i l1)] [] S R := by
  intro l0 l1 S R t_l0 hr
  unfold ja_X13_label at hr
  refine nk_p (i := .iconst 0) (len := 1) (pc' := 1) mJ_172 (by decide +kernel) (ns_iconst (c := 0) (by decide +kernel)) rfl ?_
  refine nk_p (i := .istore_n 2) (len := 1) (pc' := 2) mJ_172 (by decide +kernel) (ns_istore_n (L' := [(2, nk_i 0), (0, nk_r l0), (1, nk_i l1)]) rfl rfl rfl (by decide +kernel)) rfl ?_
  refine nk_sub [1, 2, 0] (L' := [(0, nk_r l0), (1, nk_i l1), (2, nk_i 0)]) rfl ?_
  exact ja_X13_label_L2_ok zs nk_big _ _ _ _ _ t_l0 hr
/-! SafeCodeModel labelAt (I)I -/
noncomputable def ja_X13_labelAt (l0 : Nat) (l1 : Int) (S : nk_S) : Option (Int × nk_S) :=
  nk_bd (ja_X13_label l0 l1 S) fun r1 S2 =>
  if 0 ≤ r1 then
    if 0 ≤ r1 ∧ r1 < 16000 then
    some ((S2.1 (ja_c l0 18) r1.toNat), S2)
    else none
  else
    some ((-1), S2)
theorem ja_X13_labelAt_ok (zs : List Int32) : ∀ (l0 : Nat) (l1 : Int) (S : nk_S) (R : Int × nk_S), nk_cl ja_Tt l0 = some 13 → ja_X13_labelAt l0 l1 S = some R → nk_K ja_Tt mi_Γ (mi_ev zs) 1 173 0 [(0, nk_r l0), (1, nk_i l1)] [] S R := by
  intro l0 l1 S R t_l0 hr
  unfold ja_X13_labelAt at hr
  refine nk_p (i := .aload_n 0) (len := 1) (pc' := 1) mJ_173 (by decide +kernel) (ns_aload_n 0 rfl rfl) rfl ?_
  refine nk_p (i := .iload_n 1) (len := 1) (pc' := 2) mJ_173 (by decide +kernel) (ns_iload_n 1 rfl rfl) rfl ?_
  obtain ⟨r1, S2, h3, hr⟩ := nk_bde hr
  refine nk_callV (ci := 13) (n := 1) (x := 381) (len := 3) (j' := 172) (q' := 1) (r := r1) (S' := S2) (L2 := [(0, nk_r l0), (1, nk_i l1)]) (rest := []) (st' := [nk_i r1]) (pc' := 5) mJ_173 (by decide +kernel) (by decide +kernel) rfl rfl t_l0 (Nat.le_of_ble_eq_true rfl) mJ_172 (Nat.le_of_ble_eq_true rfl) rfl (ja_X13_label_ok zs _ _ _ _ t_l0 h3) rfl ?_
  refine nk_p (i := .istore_n 2) (len := 1) (pc' := 6) mJ_173 (by decide +kernel) (ns_istore_n (L' := [(2, nk_i r1), (0, nk_r l0), (1, nk_i l1)]) rfl rfl rfl (by decide +kernel)) rfl ?_
  refine nk_p (i := .iload_n 2) (len := 1) (pc' := 7) mJ_173 (by decide +kernel) (ns_iload_n 0 rfl rfl) rfl ?_
  refine nk_icond (c := .ge) (off := 7) (len := 3) (t := 14) (pc' := 10) mJ_173 (by decide +kernel) (by decide +kernel) rfl (fun hc => ?_) (fun hc => ?_)
  · have hr := nk_ifp (c := 0 ≤ r1) hc hr
    refine nk_p (i := .aload_n 0) (len := 1) (pc' := 15) mJ_173 (by decide +kernel) (ns_aload_n 1 rfl rfl) rfl ?_
    refine nk_getC (f := (4, 1, 16000)) (x := 52) (len := 3) (ci := 13) (k := 18) (pc' := 18) ja_okT mJ_173 (by decide +kernel) (by decide +kernel) (by decide +kernel) (by decide) t_l0 rfl ?_
    have t4 : nk_ar ja_Tt (ja_c l0 18) = some (1, 16000) := nk_ta ja_okT t_l0 (by decide +kernel)
    refine nk_p (i := .iload_n 2) (len := 1) (pc' := 19) mJ_173 (by decide +kernel) (ns_iload_n 0 rfl rfl) rfl ?_
    obtain ⟨h5, hr⟩ := nk_cke hr
    refine nk_iald (len := 1) (N := 16000) (pc' := 20) mJ_173 (by decide +kernel) t4 h5.1 h5.2 rfl rfl ?_
    cases hr
    exact nk_iret (ty := .int) (len := 1) mJ_173 (by decide +kernel) rfl (nk_nar_i _)
  · have hr := nk_ifn (c := 0 ≤ r1) hc hr
    refine nk_p (i := .iconst (-1)) (len := 1) (pc' := 11) mJ_173 (by decide +kernel) (ns_iconst (c := (-1)) (by decide +kernel)) rfl ?_
    refine nk_p (i := .goto 9) (len := 3) (pc' := 20) mJ_173 (by decide +kernel) (ns_goto (by decide +kernel)) rfl ?_
    cases hr
    exact nk_iret (ty := .int) (len := 1) mJ_173 (by decide +kernel) rfl (nk_nar_i _)
/-! SafeCodeModel classOfToken (LSafeCodeModel$Program;I)I -/
noncomputable def ja_X13_classOfToken (l0 : Nat) (l1 : Nat) (l2 : Int) (S : nk_S) : Option (Int × nk_S) :=
  if 0 ≤ l2 ∧ l2 < 16002 then
  nk_bd (ja_X13_classOf l0 l1 (S.1 (ja_c l0 8) l2.toNat) (S.1 (ja_c l0 9) l2.toNat) S) fun r4 S5 =>
  some (r4, S5)
  else none
theorem ja_X13_classOfToken_ok (zs : List Int32) : ∀ (l0 : Nat) (l1 : Nat) (l2 : Int) (S : nk_S) (R : Int × nk_S), nk_cl ja_Tt l0 = some 13 → nk_cl ja_Tt l1 = some 12 → ja_X13_classOfToken l0 l1 l2 S = some R → nk_K ja_Tt mi_Γ (mi_ev zs) 1 100 0 [(0, nk_r l0), (1, nk_r l1), (2, nk_i l2)] [] S R := by
  intro l0 l1 l2 S R t_l0 t_l1 hr
  unfold ja_X13_classOfToken at hr
  refine nk_p (i := .aload_n 0) (len := 1) (pc' := 1) mJ_100 (by decide +kernel) (ns_aload_n 0 rfl rfl) rfl ?_
  refine nk_p (i := .aload_n 1) (len := 1) (pc' := 2) mJ_100 (by decide +kernel) (ns_aload_n 1 rfl rfl) rfl ?_
  refine nk_p (i := .aload_n 0) (len := 1) (pc' := 3) mJ_100 (by decide +kernel) (ns_aload_n 0 rfl rfl) rfl ?_
  refine nk_getC (f := (4, 1, 16002)) (x := 26) (len := 3) (ci := 13) (k := 8) (pc' := 6) ja_okT mJ_100 (by decide +kernel) (by decide +kernel) (by decide +kernel) (by decide) t_l0 rfl ?_
  have t1 : nk_ar ja_Tt (ja_c l0 8) = some (1, 16002) := nk_ta ja_okT t_l0 (by decide +kernel)
  refine nk_p (i := .iload_n 2) (len := 1) (pc' := 7) mJ_100 (by decide +kernel) (ns_iload_n 2 rfl rfl) rfl ?_
  obtain ⟨h2, hr⟩ := nk_cke hr
  refine nk_iald (len := 1) (N := 16002) (pc' := 8) mJ_100 (by decide +kernel) t1 h2.1 h2.2 rfl rfl ?_
  refine nk_p (i := .aload_n 0) (len := 1) (pc' := 9) mJ_100 (by decide +kernel) (ns_aload_n 0 rfl rfl) rfl ?_
  refine nk_getC (f := (4, 1, 16002)) (x := 30) (len := 3) (ci := 13) (k := 9) (pc' := 12) ja_okT mJ_100 (by decide +kernel) (by decide +kernel) (by decide +kernel) (by decide) t_l0 rfl ?_
  have t3 : nk_ar ja_Tt (ja_c l0 9) = some (1, 16002) := nk_ta ja_okT t_l0 (by decide +kernel)
  refine nk_p (i := .iload_n 2) (len := 1) (pc' := 13) mJ_100 (by decide +kernel) (ns_iload_n 2 rfl rfl) rfl ?_
  refine nk_iald (len := 1) (N := 16002) (pc' := 14) mJ_100 (by decide +kernel) t3 h2.1 h2.2 rfl rfl ?_
  obtain ⟨r4, S5, h6, hr⟩ := nk_bde hr
  refine nk_callV (ci := 13) (n := 3) (x := 276) (len := 3) (j' := 99) (q' := 1) (r := r4) (S' := S5) (L2 := [(0, nk_r l0), (1, nk_r l1), (2, nk_i (S.1 (ja_c l0 8) l2.toNat)), (3, nk_i (S.1 (ja_c l0 9) l2.toNat))]) (rest := []) (st' := [nk_i r4]) (pc' := 17) mJ_100 (by decide +kernel) (by decide +kernel) rfl rfl t_l0 (Nat.le_of_ble_eq_true rfl) mJ_99 (Nat.le_of_ble_eq_true rfl) rfl (ja_X13_classOf_ok zs _ _ _ _ _ _ t_l0 t_l1 h6) rfl ?_
  cases hr
  exact nk_iret (ty := .int) (len := 1) mJ_100 (by decide +kernel) rfl (nk_nar_i _)
/-! SafeCodeModel catchLine (LSafeCodeModel$Program;III)Z -/
noncomputable def ja_X13_catchLine_b82 (l0 : Nat) (l3 : Int) (S : nk_S) : Option (Int × nk_S) :=
  nk_bd (ja_X13_wrong l0 (nk_w (l3 + 3)) S) fun r1 S2 =>
  if r1 = 0 ∨ r1 = 1 then
  some (r1, S2)
  else none
theorem ja_X13_catchLine_b82_ok (zs : List Int32) : ∀ (l0 : Nat) (l3 : Int) (S : nk_S) (R : Int × nk_S), nk_cl ja_Tt l0 = some 13 → ja_X13_catchLine_b82 l0 l3 S = some R → nk_K ja_Tt mi_Γ (mi_ev zs) 1 95 82 [(0, nk_r l0), (3, nk_i l3)] [] S R := by
  intro l0 l3 S R t_l0 hr
  unfold ja_X13_catchLine_b82 at hr
  refine nk_p (i := .aload_n 0) (len := 1) (pc' := 83) mJ_95 (by decide +kernel) (ns_aload_n 0 rfl rfl) rfl ?_
  refine nk_p (i := .iload_n 3) (len := 1) (pc' := 84) mJ_95 (by decide +kernel) (ns_iload_n 1 rfl rfl) rfl ?_
  refine nk_p (i := .iconst 3) (len := 1) (pc' := 85) mJ_95 (by decide +kernel) (ns_iconst (c := 3) (by decide +kernel)) rfl ?_
  refine nk_p (i := .iadd) (len := 1) (pc' := 86) mJ_95 (by decide +kernel) ns_iadd rfl ?_
  obtain ⟨r1, S2, h3, hr⟩ := nk_bde hr
  refine nk_callV (ci := 13) (n := 1) (x := 290) (len := 3) (j' := 246) (q' := 1) (r := r1) (S' := S2) (L2 := [(0, nk_r l0), (1, nk_i (nk_w (l3 + 3)))]) (rest := []) (st' := [nk_i r1]) (pc' := 89) mJ_95 (by decide +kernel) (by decide +kernel) rfl rfl t_l0 (Nat.le_of_ble_eq_true rfl) mJ_246 (Nat.le_of_ble_eq_true rfl) rfl (ja_X13_wrong_ok zs _ _ _ _ t_l0 h3) rfl ?_
  obtain ⟨h4, hr⟩ := nk_cke hr
  cases hr
  exact nk_iret (ty := .boolean) (len := 1) mJ_95 (by decide +kernel) rfl (nk_nar_z h4)
noncomputable def ja_X13_catchLine_b115 (l0 : Nat) (l3 : Int) (S : nk_S) : Option (Int × nk_S) :=
  nk_bd (ja_X13_wrong l0 (nk_w (l3 + 4)) S) fun r1 S2 =>
  if r1 = 0 ∨ r1 = 1 then
  some (r1, S2)
  else none
theorem ja_X13_catchLine_b115_ok (zs : List Int32) : ∀ (l0 : Nat) (l3 : Int) (S : nk_S) (R : Int × nk_S), nk_cl ja_Tt l0 = some 13 → ja_X13_catchLine_b115 l0 l3 S = some R → nk_K ja_Tt mi_Γ (mi_ev zs) 1 95 115 [(0, nk_r l0), (3, nk_i l3)] [] S R := by
  intro l0 l3 S R t_l0 hr
  unfold ja_X13_catchLine_b115 at hr
  refine nk_p (i := .aload_n 0) (len := 1) (pc' := 116) mJ_95 (by decide +kernel) (ns_aload_n 0 rfl rfl) rfl ?_
  refine nk_p (i := .iload_n 3) (len := 1) (pc' := 117) mJ_95 (by decide +kernel) (ns_iload_n 1 rfl rfl) rfl ?_
  refine nk_p (i := .iconst 4) (len := 1) (pc' := 118) mJ_95 (by decide +kernel) (ns_iconst (c := 4) (by decide +kernel)) rfl ?_
  refine nk_p (i := .iadd) (len := 1) (pc' := 119) mJ_95 (by decide +kernel) ns_iadd rfl ?_
  obtain ⟨r1, S2, h3, hr⟩ := nk_bde hr
  refine nk_callV (ci := 13) (n := 1) (x := 290) (len := 3) (j' := 246) (q' := 1) (r := r1) (S' := S2) (L2 := [(0, nk_r l0), (1, nk_i (nk_w (l3 + 4)))]) (rest := []) (st' := [nk_i r1]) (pc' := 122) mJ_95 (by decide +kernel) (by decide +kernel) rfl rfl t_l0 (Nat.le_of_ble_eq_true rfl) mJ_246 (Nat.le_of_ble_eq_true rfl) rfl (ja_X13_wrong_ok zs _ _ _ _ t_l0 h3) rfl ?_
  obtain ⟨h4, hr⟩ := nk_cke hr
  cases hr
  exact nk_iret (ty := .boolean) (len := 1) mJ_95 (by decide +kernel) rfl (nk_nar_z h4)
noncomputable def ja_X13_catchLine_b61 (l0 : Nat) (l1 : Nat) (l2 : Int) (l3 : Int) (l4 : Int) (l5 : Int) (l6 : Int) (S : nk_S) : Option (Int × nk_S) :=
  nk_bd (ja_X13_labelAt l0 (nk_w (l3 + 3)) S) fun r1 S2 =>
  if r1 < 0 then
    ja_X13_catchLine_b82 l0 l3 S2
  else
    if r1 < l4 then
      nk_bd (ja_X13_classOfToken l0 l1 (nk_w (l3 + 4)) S2) fun r4 S5 =>
      if r4 < 0 then
        ja_X13_catchLine_b115 l0 l3 S5
      else
        nk_bd (ja_X13_isAtOrBelow l1 r4 1 S5) fun r7 S8 =>
        if r7 = 0 then
          ja_X13_catchLine_b115 l0 l3 S8
        else
          if 0 ≤ (S8.1 l1 5) ∧ (S8.1 l1 5) < 64 then
          nk_lt (nk_wi S8 (ja_c l1 28) (S8.1 l1 5).toNat l2) fun S12 =>
          if 0 ≤ (S12.1 l1 5) ∧ (S12.1 l1 5) < 64 then
          nk_lt (nk_wi S12 (ja_c l1 29) (S12.1 l1 5).toNat l5) fun S16 =>
          if 0 ≤ (S16.1 l1 5) ∧ (S16.1 l1 5) < 64 then
          nk_lt (nk_wi S16 (ja_c l1 30) (S16.1 l1 5).toNat l6) fun S20 =>
          if 0 ≤ (S20.1 l1 5) ∧ (S20.1 l1 5) < 64 then
          nk_lt (nk_wi S20 (ja_c l1 31) (S20.1 l1 5).toNat r1) fun S24 =>
          if 0 ≤ (S24.1 l1 5) ∧ (S24.1 l1 5) < 64 then
          nk_lt (nk_wi S24 (ja_c l1 32) (S24.1 l1 5).toNat r4) fun S28 =>
          nk_lt (nk_wi S28 l1 5 (nk_w ((S28.1 l1 5) + 1))) fun S30 =>
          some (1, S30)
          else none
          else none
          else none
          else none
          else none
    else
      ja_X13_catchLine_b82 l0 l3 S2
theorem ja_X13_catchLine_b61_ok (zs : List Int32) : ∀ (l0 : Nat) (l1 : Nat) (l2 : Int) (l3 : Int) (l4 : Int) (l5 : Int) (l6 : Int) (S : nk_S) (R : Int × nk_S), nk_cl ja_Tt l0 = some 13 → nk_cl ja_Tt l1 = some 12 → ja_X13_catchLine_b61 l0 l1 l2 l3 l4 l5 l6 S = some R → nk_K ja_Tt mi_Γ (mi_ev zs) 1 95 61 [(0, nk_r l0), (1, nk_r l1), (2, nk_i l2), (3, nk_i l3), (4, nk_i l4), (5, nk_i l5), (6, nk_i l6)] [] S R := by
  intro l0 l1 l2 l3 l4 l5 l6 S R t_l0 t_l1 hr
  unfold ja_X13_catchLine_b61 at hr
  refine nk_p (i := .aload_n 0) (len := 1) (pc' := 62) mJ_95 (by decide +kernel) (ns_aload_n 0 rfl rfl) rfl ?_
  refine nk_p (i := .iload_n 3) (len := 1) (pc' := 63) mJ_95 (by decide +kernel) (ns_iload_n 3 rfl rfl) rfl ?_
  refine nk_p (i := .iconst 3) (len := 1) (pc' := 64) mJ_95 (by decide +kernel) (ns_iconst (c := 3) (by decide +kernel)) rfl ?_
  refine nk_p (i := .iadd) (len := 1) (pc' := 65) mJ_95 (by decide +kernel) ns_iadd rfl ?_
  obtain ⟨r1, S2, h3, hr⟩ := nk_bde hr
  refine nk_callV (ci := 13) (n := 1) (x := 394) (len := 3) (j' := 173) (q' := 1) (r := r1) (S' := S2) (L2 := [(0, nk_r l0), (1, nk_i (nk_w (l3 + 3)))]) (rest := []) (st' := [nk_i r1]) (pc' := 68) mJ_95 (by decide +kernel) (by decide +kernel) rfl rfl t_l0 (Nat.le_of_ble_eq_true rfl) mJ_173 (Nat.le_of_ble_eq_true rfl) rfl (ja_X13_labelAt_ok zs _ _ _ _ t_l0 h3) rfl ?_
  refine nk_p (i := .istore 7) (len := 2) (pc' := 70) mJ_95 (by decide +kernel) (ns_istore (L' := [(7, nk_i r1), (0, nk_r l0), (1, nk_r l1), (2, nk_i l2), (3, nk_i l3), (4, nk_i l4), (5, nk_i l5), (6, nk_i l6)]) rfl rfl (by decide +kernel)) rfl ?_
  refine nk_p (i := .iload 7) (len := 2) (pc' := 72) mJ_95 (by decide +kernel) (ns_iload 0 rfl) rfl ?_
  refine nk_icond (c := .lt) (off := 10) (len := 3) (t := 82) (pc' := 75) mJ_95 (by decide +kernel) (by decide +kernel) rfl (fun hc => ?_) (fun hc => ?_)
  · have hr := nk_ifp (c := r1 < 0) hc hr
    refine nk_sub [1, 4] (L' := [(0, nk_r l0), (3, nk_i l3)]) rfl ?_
    exact ja_X13_catchLine_b82_ok zs _ _ _ _ t_l0 hr
  · have hr := nk_ifn (c := r1 < 0) hc hr
    refine nk_p (i := .iload 7) (len := 2) (pc' := 77) mJ_95 (by decide +kernel) (ns_iload 0 rfl) rfl ?_
    refine nk_p (i := .iload 4) (len := 2) (pc' := 79) mJ_95 (by decide +kernel) (ns_iload 5 rfl) rfl ?_
    refine nk_icmp (c := .lt) (off := 11) (len := 3) (t := 90) (pc' := 82) mJ_95 (by decide +kernel) (by decide +kernel) rfl (fun hc => ?_) (fun hc => ?_)
    · have hr := nk_ifp (c := r1 < l4) hc hr
      refine nk_p (i := .aload_n 0) (len := 1) (pc' := 91) mJ_95 (by decide +kernel) (ns_aload_n 1 rfl rfl) rfl ?_
      refine nk_p (i := .aload_n 1) (len := 1) (pc' := 92) mJ_95 (by decide +kernel) (ns_aload_n 2 rfl rfl) rfl ?_
      refine nk_p (i := .iload_n 3) (len := 1) (pc' := 93) mJ_95 (by decide +kernel) (ns_iload_n 4 rfl rfl) rfl ?_
      refine nk_p (i := .iconst 4) (len := 1) (pc' := 94) mJ_95 (by decide +kernel) (ns_iconst (c := 4) (by decide +kernel)) rfl ?_
      refine nk_p (i := .iadd) (len := 1) (pc' := 95) mJ_95 (by decide +kernel) ns_iadd rfl ?_
      obtain ⟨r4, S5, h6, hr⟩ := nk_bde hr
      refine nk_callV (ci := 13) (n := 2) (x := 286) (len := 3) (j' := 100) (q' := 1) (r := r4) (S' := S5) (L2 := [(0, nk_r l0), (1, nk_r l1), (2, nk_i (nk_w (l3 + 4)))]) (rest := []) (st' := [nk_i r4]) (pc' := 98) mJ_95 (by decide +kernel) (by decide +kernel) rfl rfl t_l0 (Nat.le_of_ble_eq_true rfl) mJ_100 (Nat.le_of_ble_eq_true rfl) rfl (ja_X13_classOfToken_ok zs _ _ _ _ _ t_l0 t_l1 h6) rfl ?_
      refine nk_p (i := .istore 8) (len := 2) (pc' := 100) mJ_95 (by decide +kernel) (ns_istore (L' := [(8, nk_i r4), (7, nk_i r1), (0, nk_r l0), (1, nk_r l1), (2, nk_i l2), (3, nk_i l3), (4, nk_i l4), (5, nk_i l5), (6, nk_i l6)]) rfl rfl (by decide +kernel)) rfl ?_
      refine nk_p (i := .iload 8) (len := 2) (pc' := 102) mJ_95 (by decide +kernel) (ns_iload 0 rfl) rfl ?_
      refine nk_icond (c := .lt) (off := 13) (len := 3) (t := 115) (pc' := 105) mJ_95 (by decide +kernel) (by decide +kernel) rfl (fun hc => ?_) (fun hc => ?_)
      · have hr := nk_ifp (c := r4 < 0) hc hr
        refine nk_sub [2, 5] (L' := [(0, nk_r l0), (3, nk_i l3)]) rfl ?_
        exact ja_X13_catchLine_b115_ok zs _ _ _ _ t_l0 hr
      · have hr := nk_ifn (c := r4 < 0) hc hr
        refine nk_p (i := .aload_n 1) (len := 1) (pc' := 106) mJ_95 (by decide +kernel) (ns_aload_n 3 rfl rfl) rfl ?_
        refine nk_p (i := .iload 8) (len := 2) (pc' := 108) mJ_95 (by decide +kernel) (ns_iload 0 rfl) rfl ?_
        refine nk_p (i := .iconst 1) (len := 1) (pc' := 109) mJ_95 (by decide +kernel) (ns_iconst (c := 1) (by decide +kernel)) rfl ?_
        obtain ⟨r7, S8, h9, hr⟩ := nk_bde hr
        refine nk_callS (ci := 0) (n := 3) (x := 299) (len := 3) (j' := 142) (q' := 1) (r := r7) (S' := S8) (L2 := [(0, nk_r l1), (1, nk_i r4), (2, nk_i 1)]) (rest := []) (st' := [nk_i r7]) (pc' := 112) mJ_95 (by decide +kernel) (by decide +kernel) (Nat.le_of_ble_eq_true rfl) rfl rfl (Nat.le_of_ble_eq_true rfl) mJ_142 (Nat.le_of_ble_eq_true rfl) ja_Tpos rfl (ja_X13_isAtOrBelow_ok zs _ _ _ _ _ t_l1 h9) rfl ?_
        refine nk_icond (c := .ne) (off := 11) (len := 3) (t := 123) (pc' := 115) mJ_95 (by decide +kernel) (by decide +kernel) rfl (fun hc => ?_) (fun hc => ?_)
        · have hr := nk_ifn (c := r7 = 0) hc hr
          refine nk_p (i := .aload_n 1) (len := 1) (pc' := 124) mJ_95 (by decide +kernel) (ns_aload_n 3 rfl rfl) rfl ?_
          refine nk_getC (f := (4, 1, 64)) (x := 397) (len := 3) (ci := 12) (k := 28) (pc' := 127) ja_okT mJ_95 (by decide +kernel) (by decide +kernel) (by decide +kernel) (by decide) t_l1 rfl ?_
          have t10 : nk_ar ja_Tt (ja_c l1 28) = some (1, 64) := nk_ta ja_okT t_l1 (by decide +kernel)
          refine nk_p (i := .aload_n 1) (len := 1) (pc' := 128) mJ_95 (by decide +kernel) (ns_aload_n 3 rfl rfl) rfl ?_
          refine nk_getI (y := (0, 0)) (x := 359) (len := 3) (ci := 12) (k := 5) (pc' := 131) ja_okT mJ_95 (by decide +kernel) (by decide +kernel) (by decide +kernel) t_l1 rfl ?_
          refine nk_p (i := .iload_n 2) (len := 1) (pc' := 132) mJ_95 (by decide +kernel) (ns_iload_n 4 rfl rfl) rfl ?_
          obtain ⟨h11, hr⟩ := nk_cke hr
          obtain ⟨S12, h13, hr⟩ := nk_lte hr
          refine nk_iast (len := 1) (N := 64) (pc' := 133) mJ_95 (by decide +kernel) t10 h11.1 h11.2 rfl rfl h13 ?_
          refine nk_p (i := .aload_n 1) (len := 1) (pc' := 134) mJ_95 (by decide +kernel) (ns_aload_n 3 rfl rfl) rfl ?_
          refine nk_getC (f := (4, 1, 64)) (x := 400) (len := 3) (ci := 12) (k := 29) (pc' := 137) ja_okT mJ_95 (by decide +kernel) (by decide +kernel) (by decide +kernel) (by decide) t_l1 rfl ?_
          have t14 : nk_ar ja_Tt (ja_c l1 29) = some (1, 64) := nk_ta ja_okT t_l1 (by decide +kernel)
          refine nk_p (i := .aload_n 1) (len := 1) (pc' := 138) mJ_95 (by decide +kernel) (ns_aload_n 3 rfl rfl) rfl ?_
          refine nk_getI (y := (0, 0)) (x := 359) (len := 3) (ci := 12) (k := 5) (pc' := 141) ja_okT mJ_95 (by decide +kernel) (by decide +kernel) (by decide +kernel) t_l1 rfl ?_
          refine nk_p (i := .iload 5) (len := 2) (pc' := 143) mJ_95 (by decide +kernel) (ns_iload 7 rfl) rfl ?_
          obtain ⟨h15, hr⟩ := nk_cke hr
          obtain ⟨S16, h17, hr⟩ := nk_lte hr
          refine nk_iast (len := 1) (N := 64) (pc' := 144) mJ_95 (by decide +kernel) t14 h15.1 h15.2 rfl rfl h17 ?_
          refine nk_p (i := .aload_n 1) (len := 1) (pc' := 145) mJ_95 (by decide +kernel) (ns_aload_n 3 rfl rfl) rfl ?_
          refine nk_getC (f := (4, 1, 64)) (x := 403) (len := 3) (ci := 12) (k := 30) (pc' := 148) ja_okT mJ_95 (by decide +kernel) (by decide +kernel) (by decide +kernel) (by decide) t_l1 rfl ?_
          have t18 : nk_ar ja_Tt (ja_c l1 30) = some (1, 64) := nk_ta ja_okT t_l1 (by decide +kernel)
          refine nk_p (i := .aload_n 1) (len := 1) (pc' := 149) mJ_95 (by decide +kernel) (ns_aload_n 3 rfl rfl) rfl ?_
          refine nk_getI (y := (0, 0)) (x := 359) (len := 3) (ci := 12) (k := 5) (pc' := 152) ja_okT mJ_95 (by decide +kernel) (by decide +kernel) (by decide +kernel) t_l1 rfl ?_
          refine nk_p (i := .iload 6) (len := 2) (pc' := 154) mJ_95 (by decide +kernel) (ns_iload 8 rfl) rfl ?_
          obtain ⟨h19, hr⟩ := nk_cke hr
          obtain ⟨S20, h21, hr⟩ := nk_lte hr
          refine nk_iast (len := 1) (N := 64) (pc' := 155) mJ_95 (by decide +kernel) t18 h19.1 h19.2 rfl rfl h21 ?_
          refine nk_p (i := .aload_n 1) (len := 1) (pc' := 156) mJ_95 (by decide +kernel) (ns_aload_n 3 rfl rfl) rfl ?_
          refine nk_getC (f := (4, 1, 64)) (x := 406) (len := 3) (ci := 12) (k := 31) (pc' := 159) ja_okT mJ_95 (by decide +kernel) (by decide +kernel) (by decide +kernel) (by decide) t_l1 rfl ?_
          have t22 : nk_ar ja_Tt (ja_c l1 31) = some (1, 64) := nk_ta ja_okT t_l1 (by decide +kernel)
          refine nk_p (i := .aload_n 1) (len := 1) (pc' := 160) mJ_95 (by decide +kernel) (ns_aload_n 3 rfl rfl) rfl ?_
          refine nk_getI (y := (0, 0)) (x := 359) (len := 3) (ci := 12) (k := 5) (pc' := 163) ja_okT mJ_95 (by decide +kernel) (by decide +kernel) (by decide +kernel) t_l1 rfl ?_
          refine nk_p (i := .iload 7) (len := 2) (pc' := 165) mJ_95 (by decide +kernel) (ns_iload 1 rfl) rfl ?_
          obtain ⟨h23, hr⟩ := nk_cke hr
          obtain ⟨S24, h25, hr⟩ := nk_lte hr
          refine nk_iast (len := 1) (N := 64) (pc' := 166) mJ_95 (by decide +kernel) t22 h23.1 h23.2 rfl rfl h25 ?_
          refine nk_p (i := .aload_n 1) (len := 1) (pc' := 167) mJ_95 (by decide +kernel) (ns_aload_n 3 rfl rfl) rfl ?_
          refine nk_getC (f := (4, 1, 64)) (x := 409) (len := 3) (ci := 12) (k := 32) (pc' := 170) ja_okT mJ_95 (by decide +kernel) (by decide +kernel) (by decide +kernel) (by decide) t_l1 rfl ?_
          have t26 : nk_ar ja_Tt (ja_c l1 32) = some (1, 64) := nk_ta ja_okT t_l1 (by decide +kernel)
          refine nk_p (i := .aload_n 1) (len := 1) (pc' := 171) mJ_95 (by decide +kernel) (ns_aload_n 3 rfl rfl) rfl ?_
          refine nk_getI (y := (0, 0)) (x := 359) (len := 3) (ci := 12) (k := 5) (pc' := 174) ja_okT mJ_95 (by decide +kernel) (by decide +kernel) (by decide +kernel) t_l1 rfl ?_
          refine nk_p (i := .iload 8) (len := 2) (pc' := 176) mJ_95 (by decide +kernel) (ns_iload 0 rfl) rfl ?_
          obtain ⟨h27, hr⟩ := nk_cke hr
          obtain ⟨S28, h29, hr⟩ := nk_lte hr
          refine nk_iast (len := 1) (N := 64) (pc' := 177) mJ_95 (by decide +kernel) t26 h27.1 h27.2 rfl rfl h29 ?_
          refine nk_p (i := .aload_n 1) (len := 1) (pc' := 178) mJ_95 (by decide +kernel) (ns_aload_n 3 rfl rfl) rfl ?_
          refine nk_p (i := .dup) (len := 1) (pc' := 179) mJ_95 (by decide +kernel) (ns_dup rfl) rfl ?_
          refine nk_getI (y := (0, 0)) (x := 359) (len := 3) (ci := 12) (k := 5) (pc' := 182) ja_okT mJ_95 (by decide +kernel) (by decide +kernel) (by decide +kernel) t_l1 rfl ?_
          refine nk_p (i := .iconst 1) (len := 1) (pc' := 183) mJ_95 (by decide +kernel) (ns_iconst (c := 1) (by decide +kernel)) rfl ?_
          refine nk_p (i := .iadd) (len := 1) (pc' := 184) mJ_95 (by decide +kernel) ns_iadd rfl ?_
          obtain ⟨S30, h31, hr⟩ := nk_lte hr
          refine nk_putI (y := (0, 0)) (ty := .int) (x := 359) (len := 3) (ci := 12) (k := 5) (pc' := 187) ja_okT mJ_95 (by decide +kernel) (by decide +kernel) (by decide +kernel) t_l1 (Or.inl rfl) rfl h31 ?_
          refine nk_p (i := .iconst 1) (len := 1) (pc' := 188) mJ_95 (by decide +kernel) (ns_iconst (c := 1) (by decide +kernel)) rfl ?_
          cases hr
          exact nk_iret (ty := .boolean) (len := 1) mJ_95 (by decide +kernel) rfl (nk_nar_z (by decide))
        · have hr := nk_ifp (c := r7 = 0) (Decidable.of_not_not hc) hr
          refine nk_sub [2, 5] (L' := [(0, nk_r l0), (3, nk_i l3)]) rfl ?_
          exact ja_X13_catchLine_b115_ok zs _ _ _ _ t_l0 hr
    · have hr := nk_ifn (c := r1 < l4) hc hr
      refine nk_sub [1, 4] (L' := [(0, nk_r l0), (3, nk_i l3)]) rfl ?_
      exact ja_X13_catchLine_b82_ok zs _ _ _ _ t_l0 hr
noncomputable def ja_X13_catchLine (l0 : Nat) (l1 : Nat) (l2 : Int) (l3 : Int) (l4 : Int) (S : nk_S) : Option (Int × nk_S) :=
  if (S.1 l1 5) = 64 then
    nk_bd (ja_X13_wrong l0 l3 S) fun r15 S16 =>
    if r15 = 0 ∨ r15 = 1 then
    some (r15, S16)
    else none
  else
    nk_bd (ja_X13_labelAt l0 (nk_w (l3 + 1)) S) fun r1 S2 =>
    if 0 ≤ r1 then
      nk_bd (ja_X13_labelAt l0 (nk_w (l3 + 2)) S2) fun r4 S5 =>
      if r1 < r4 then
        ja_X13_catchLine_b61 l0 l1 l2 l3 l4 r1 r4 S5
      else
        nk_bd (ja_X13_wrong l0 (nk_w (l3 + 2)) S5) fun r7 S8 =>
        if r7 = 0 ∨ r7 = 1 then
        some (r7, S8)
        else none
    else
      nk_bd (ja_X13_wrong l0 (nk_w (l3 + 1)) S2) fun r11 S12 =>
      if r11 = 0 ∨ r11 = 1 then
      some (r11, S12)
      else none
theorem ja_X13_catchLine_ok (zs : List Int32) : ∀ (l0 : Nat) (l1 : Nat) (l2 : Int) (l3 : Int) (l4 : Int) (S : nk_S) (R : Int × nk_S), nk_cl ja_Tt l0 = some 13 → nk_cl ja_Tt l1 = some 12 → ja_X13_catchLine l0 l1 l2 l3 l4 S = some R → nk_K ja_Tt mi_Γ (mi_ev zs) 1 95 0 [(0, nk_r l0), (1, nk_r l1), (2, nk_i l2), (3, nk_i l3), (4, nk_i l4)] [] S R := by
  intro l0 l1 l2 l3 l4 S R t_l0 t_l1 hr
  unfold ja_X13_catchLine at hr
  refine nk_p (i := .aload_n 1) (len := 1) (pc' := 1) mJ_95 (by decide +kernel) (ns_aload_n 1 rfl rfl) rfl ?_
  refine nk_getI (y := (0, 0)) (x := 359) (len := 3) (ci := 12) (k := 5) (pc' := 4) ja_okT mJ_95 (by decide +kernel) (by decide +kernel) (by decide +kernel) t_l1 rfl ?_
  refine nk_p (i := .bipush 64) (len := 2) (pc' := 6) mJ_95 (by decide +kernel) (ns_bipush (c := 64) (by decide +kernel)) rfl ?_
  refine nk_icmp (c := .ne) (off := 9) (len := 3) (t := 15) (pc' := 9) mJ_95 (by decide +kernel) (by decide +kernel) rfl (fun hc => ?_) (fun hc => ?_)
  · have hr := nk_ifn (c := (S.1 l1 5) = 64) hc hr
    refine nk_p (i := .aload_n 0) (len := 1) (pc' := 16) mJ_95 (by decide +kernel) (ns_aload_n 0 rfl rfl) rfl ?_
    refine nk_p (i := .iload_n 3) (len := 1) (pc' := 17) mJ_95 (by decide +kernel) (ns_iload_n 3 rfl rfl) rfl ?_
    refine nk_p (i := .iconst 1) (len := 1) (pc' := 18) mJ_95 (by decide +kernel) (ns_iconst (c := 1) (by decide +kernel)) rfl ?_
    refine nk_p (i := .iadd) (len := 1) (pc' := 19) mJ_95 (by decide +kernel) ns_iadd rfl ?_
    obtain ⟨r1, S2, h3, hr⟩ := nk_bde hr
    refine nk_callV (ci := 13) (n := 1) (x := 394) (len := 3) (j' := 173) (q' := 1) (r := r1) (S' := S2) (L2 := [(0, nk_r l0), (1, nk_i (nk_w (l3 + 1)))]) (rest := []) (st' := [nk_i r1]) (pc' := 22) mJ_95 (by decide +kernel) (by decide +kernel) rfl rfl t_l0 (Nat.le_of_ble_eq_true rfl) mJ_173 (Nat.le_of_ble_eq_true rfl) rfl (ja_X13_labelAt_ok zs _ _ _ _ t_l0 h3) rfl ?_
    refine nk_p (i := .istore 5) (len := 2) (pc' := 24) mJ_95 (by decide +kernel) (ns_istore (L' := [(5, nk_i r1), (0, nk_r l0), (1, nk_r l1), (2, nk_i l2), (3, nk_i l3), (4, nk_i l4)]) rfl rfl (by decide +kernel)) rfl ?_
    refine nk_p (i := .iload 5) (len := 2) (pc' := 26) mJ_95 (by decide +kernel) (ns_iload 0 rfl) rfl ?_
    refine nk_icond (c := .ge) (off := 11) (len := 3) (t := 37) (pc' := 29) mJ_95 (by decide +kernel) (by decide +kernel) rfl (fun hc => ?_) (fun hc => ?_)
    · have hr := nk_ifp (c := 0 ≤ r1) hc hr
      refine nk_p (i := .aload_n 0) (len := 1) (pc' := 38) mJ_95 (by decide +kernel) (ns_aload_n 1 rfl rfl) rfl ?_
      refine nk_p (i := .iload_n 3) (len := 1) (pc' := 39) mJ_95 (by decide +kernel) (ns_iload_n 4 rfl rfl) rfl ?_
      refine nk_p (i := .iconst 2) (len := 1) (pc' := 40) mJ_95 (by decide +kernel) (ns_iconst (c := 2) (by decide +kernel)) rfl ?_
      refine nk_p (i := .iadd) (len := 1) (pc' := 41) mJ_95 (by decide +kernel) ns_iadd rfl ?_
      obtain ⟨r4, S5, h6, hr⟩ := nk_bde hr
      refine nk_callV (ci := 13) (n := 1) (x := 394) (len := 3) (j' := 173) (q' := 1) (r := r4) (S' := S5) (L2 := [(0, nk_r l0), (1, nk_i (nk_w (l3 + 2)))]) (rest := []) (st' := [nk_i r4]) (pc' := 44) mJ_95 (by decide +kernel) (by decide +kernel) rfl rfl t_l0 (Nat.le_of_ble_eq_true rfl) mJ_173 (Nat.le_of_ble_eq_true rfl) rfl (ja_X13_labelAt_ok zs _ _ _ _ t_l0 h6) rfl ?_
      refine nk_p (i := .istore 6) (len := 2) (pc' := 46) mJ_95 (by decide +kernel) (ns_istore (L' := [(6, nk_i r4), (5, nk_i r1), (0, nk_r l0), (1, nk_r l1), (2, nk_i l2), (3, nk_i l3), (4, nk_i l4)]) rfl rfl (by decide +kernel)) rfl ?_
      refine nk_p (i := .iload 6) (len := 2) (pc' := 48) mJ_95 (by decide +kernel) (ns_iload 0 rfl) rfl ?_
      refine nk_p (i := .iload 5) (len := 2) (pc' := 50) mJ_95 (by decide +kernel) (ns_iload 1 rfl) rfl ?_
      refine nk_icmp (c := .gt) (off := 11) (len := 3) (t := 61) (pc' := 53) mJ_95 (by decide +kernel) (by decide +kernel) rfl (fun hc => ?_) (fun hc => ?_)
      · have hr := nk_ifp (c := r1 < r4) hc hr
        refine nk_sub [2, 3, 4, 5, 6, 1, 0] (L' := [(0, nk_r l0), (1, nk_r l1), (2, nk_i l2), (3, nk_i l3), (4, nk_i l4), (5, nk_i r1), (6, nk_i r4)]) rfl ?_
        exact ja_X13_catchLine_b61_ok zs _ _ _ _ _ _ _ _ _ t_l0 t_l1 hr
      · have hr := nk_ifn (c := r1 < r4) hc hr
        refine nk_p (i := .aload_n 0) (len := 1) (pc' := 54) mJ_95 (by decide +kernel) (ns_aload_n 2 rfl rfl) rfl ?_
        refine nk_p (i := .iload_n 3) (len := 1) (pc' := 55) mJ_95 (by decide +kernel) (ns_iload_n 5 rfl rfl) rfl ?_
        refine nk_p (i := .iconst 2) (len := 1) (pc' := 56) mJ_95 (by decide +kernel) (ns_iconst (c := 2) (by decide +kernel)) rfl ?_
        refine nk_p (i := .iadd) (len := 1) (pc' := 57) mJ_95 (by decide +kernel) ns_iadd rfl ?_
        obtain ⟨r7, S8, h9, hr⟩ := nk_bde hr
        refine nk_callV (ci := 13) (n := 1) (x := 290) (len := 3) (j' := 246) (q' := 1) (r := r7) (S' := S8) (L2 := [(0, nk_r l0), (1, nk_i (nk_w (l3 + 2)))]) (rest := []) (st' := [nk_i r7]) (pc' := 60) mJ_95 (by decide +kernel) (by decide +kernel) rfl rfl t_l0 (Nat.le_of_ble_eq_true rfl) mJ_246 (Nat.le_of_ble_eq_true rfl) rfl (ja_X13_wrong_ok zs _ _ _ _ t_l0 h9) rfl ?_
        obtain ⟨h10, hr⟩ := nk_cke hr
        cases hr
        exact nk_iret (ty := .boolean) (len := 1) mJ_95 (by decide +kernel) rfl (nk_nar_z h10)
    · have hr := nk_ifn (c := 0 ≤ r1) hc hr
      refine nk_p (i := .aload_n 0) (len := 1) (pc' := 30) mJ_95 (by decide +kernel) (ns_aload_n 1 rfl rfl) rfl ?_
      refine nk_p (i := .iload_n 3) (len := 1) (pc' := 31) mJ_95 (by decide +kernel) (ns_iload_n 4 rfl rfl) rfl ?_
      refine nk_p (i := .iconst 1) (len := 1) (pc' := 32) mJ_95 (by decide +kernel) (ns_iconst (c := 1) (by decide +kernel)) rfl ?_
      refine nk_p (i := .iadd) (len := 1) (pc' := 33) mJ_95 (by decide +kernel) ns_iadd rfl ?_
      obtain ⟨r11, S12, h13, hr⟩ := nk_bde hr
      refine nk_callV (ci := 13) (n := 1) (x := 290) (len := 3) (j' := 246) (q' := 1) (r := r11) (S' := S12) (L2 := [(0, nk_r l0), (1, nk_i (nk_w (l3 + 1)))]) (rest := []) (st' := [nk_i r11]) (pc' := 36) mJ_95 (by decide +kernel) (by decide +kernel) rfl rfl t_l0 (Nat.le_of_ble_eq_true rfl) mJ_246 (Nat.le_of_ble_eq_true rfl) rfl (ja_X13_wrong_ok zs _ _ _ _ t_l0 h13) rfl ?_
      obtain ⟨h14, hr⟩ := nk_cke hr
      cases hr
      exact nk_iret (ty := .boolean) (len := 1) mJ_95 (by decide +kernel) rfl (nk_nar_z h14)
  · have hr := nk_ifp (c := (S.1 l1 5) = 64) (Decidable.of_not_not hc) hr
    refine nk_p (i := .aload_n 0) (len := 1) (pc' := 10) mJ_95 (by decide +kernel) (ns_aload_n 0 rfl rfl) rfl ?_
    refine nk_p (i := .iload_n 3) (len := 1) (pc' := 11) mJ_95 (by decide +kernel) (ns_iload_n 3 rfl rfl) rfl ?_
    obtain ⟨r15, S16, h17, hr⟩ := nk_bde hr
    refine nk_callV (ci := 13) (n := 1) (x := 290) (len := 3) (j' := 246) (q' := 1) (r := r15) (S' := S16) (L2 := [(0, nk_r l0), (1, nk_i l3)]) (rest := []) (st' := [nk_i r15]) (pc' := 14) mJ_95 (by decide +kernel) (by decide +kernel) rfl rfl t_l0 (Nat.le_of_ble_eq_true rfl) mJ_246 (Nat.le_of_ble_eq_true rfl) rfl (ja_X13_wrong_ok zs _ _ _ _ t_l0 h17) rfl ?_
    obtain ⟨h18, hr⟩ := nk_cke hr
    cases hr
    exact nk_iret (ty := .boolean) (len := 1) mJ_95 (by decide +kernel) rfl (nk_nar_z h18)
/-! SafeCodeModel changing (I)V -/
noncomputable def ja_X13_changing_b27 (rec2 : Nat → Int → Int → nk_S → Option (Int × nk_S)) (l0 : Nat) (l1 : Int) (l2 : Int) (S : nk_S) : Option (Int × nk_S) :=
  nk_lt (nk_ixor (nk_ishl 1 l1) (-1)) fun v1 =>
  if 0 ≤ l2 ∧ l2 < 24 then
  nk_lt (nk_wi S (ja_c l0 31) l2.toNat (nk_iand (S.1 (ja_c l0 31) l2.toNat) v1)) fun S5 =>
  nk_lt (nk_wi S5 (ja_c l0 32) l2.toNat (nk_iand (S5.1 (ja_c l0 32) l2.toNat) v1)) fun S8 =>
  nk_lt (nk_wi S8 (ja_c l0 33) l2.toNat (nk_iand (S8.1 (ja_c l0 33) l2.toNat) v1)) fun S11 =>
  nk_lt (nk_wi S11 (ja_c l0 34) l2.toNat (nk_iand (S11.1 (ja_c l0 34) l2.toNat) v1)) fun S14 =>
  nk_lt (nk_w (l2 + 1)) fun v16 =>
  rec2 l0 l1 v16 S14
  else none
theorem ja_X13_changing_b27_ok (zs : List Int32) {rec2 : Nat → Int → Int → nk_S → Option (Int × nk_S)} (hrec2 : ∀ (l0 : Nat) (l1 : Int) (l2 : Int) (S : nk_S) (R : Int × nk_S), nk_cl ja_Tt l0 = some 13 → rec2 l0 l1 l2 S = some R → nk_K ja_Tt mi_Γ (mi_ev zs) 0 96 2 [(0, nk_r l0), (1, nk_i l1), (2, nk_i l2)] [] S R) : ∀ (l0 : Nat) (l1 : Int) (l2 : Int) (S : nk_S) (R : Int × nk_S), nk_cl ja_Tt l0 = some 13 → ja_X13_changing_b27 rec2 l0 l1 l2 S = some R → nk_K ja_Tt mi_Γ (mi_ev zs) 0 96 27 [(0, nk_r l0), (1, nk_i l1), (2, nk_i l2)] [] S R := by
  intro l0 l1 l2 S R t_l0 hr
  unfold ja_X13_changing_b27 at hr
  refine nk_p (i := .iconst 1) (len := 1) (pc' := 28) mJ_96 (by decide +kernel) (ns_iconst (c := 1) (by decide +kernel)) rfl ?_
  refine nk_p (i := .iload_n 1) (len := 1) (pc' := 29) mJ_96 (by decide +kernel) (ns_iload_n 1 rfl rfl) rfl ?_
  refine nk_p (i := .ishl) (len := 1) (pc' := 30) mJ_96 (by decide +kernel) ns_ishl rfl ?_
  refine nk_p (i := .iconst (-1)) (len := 1) (pc' := 31) mJ_96 (by decide +kernel) (ns_iconst (c := (-1)) (by decide +kernel)) rfl ?_
  refine nk_p (i := .ixor) (len := 1) (pc' := 32) mJ_96 (by decide +kernel) ns_ixor rfl ?_
  obtain ⟨v1, h2, hr⟩ := nk_lte hr
  refine nk_p (i := .istore_n 3) (len := 1) (pc' := 33) mJ_96 (by decide +kernel) (ns_istore_n (L' := [(3, nk_i v1), (0, nk_r l0), (1, nk_i l1), (2, nk_i l2)]) h2 rfl rfl (by decide +kernel)) rfl ?_
  refine nk_p (i := .aload_n 0) (len := 1) (pc' := 34) mJ_96 (by decide +kernel) (ns_aload_n 1 rfl rfl) rfl ?_
  refine nk_getC (f := (4, 1, 24)) (x := 87) (len := 3) (ci := 13) (k := 31) (pc' := 37) ja_okT mJ_96 (by decide +kernel) (by decide +kernel) (by decide +kernel) (by decide) t_l0 rfl ?_
  have t3 : nk_ar ja_Tt (ja_c l0 31) = some (1, 24) := nk_ta ja_okT t_l0 (by decide +kernel)
  refine nk_p (i := .iload_n 2) (len := 1) (pc' := 38) mJ_96 (by decide +kernel) (ns_iload_n 3 rfl rfl) rfl ?_
  refine nk_p (i := .dup2) (len := 1) (pc' := 39) mJ_96 (by decide +kernel) (ns_dup2 rfl rfl) rfl ?_
  obtain ⟨h4, hr⟩ := nk_cke hr
  refine nk_iald (len := 1) (N := 24) (pc' := 40) mJ_96 (by decide +kernel) t3 h4.1 h4.2 rfl rfl ?_
  refine nk_p (i := .iload_n 3) (len := 1) (pc' := 41) mJ_96 (by decide +kernel) (ns_iload_n 0 rfl rfl) rfl ?_
  refine nk_p (i := .iand) (len := 1) (pc' := 42) mJ_96 (by decide +kernel) ns_iand rfl ?_
  obtain ⟨S5, h6, hr⟩ := nk_lte hr
  refine nk_iast (len := 1) (N := 24) (pc' := 43) mJ_96 (by decide +kernel) t3 h4.1 h4.2 rfl rfl h6 ?_
  refine nk_p (i := .aload_n 0) (len := 1) (pc' := 44) mJ_96 (by decide +kernel) (ns_aload_n 1 rfl rfl) rfl ?_
  refine nk_getC (f := (4, 1, 24)) (x := 90) (len := 3) (ci := 13) (k := 32) (pc' := 47) ja_okT mJ_96 (by decide +kernel) (by decide +kernel) (by decide +kernel) (by decide) t_l0 rfl ?_
  have t7 : nk_ar ja_Tt (ja_c l0 32) = some (1, 24) := nk_ta ja_okT t_l0 (by decide +kernel)
  refine nk_p (i := .iload_n 2) (len := 1) (pc' := 48) mJ_96 (by decide +kernel) (ns_iload_n 3 rfl rfl) rfl ?_
  refine nk_p (i := .dup2) (len := 1) (pc' := 49) mJ_96 (by decide +kernel) (ns_dup2 rfl rfl) rfl ?_
  refine nk_iald (len := 1) (N := 24) (pc' := 50) mJ_96 (by decide +kernel) t7 h4.1 h4.2 rfl rfl ?_
  refine nk_p (i := .iload_n 3) (len := 1) (pc' := 51) mJ_96 (by decide +kernel) (ns_iload_n 0 rfl rfl) rfl ?_
  refine nk_p (i := .iand) (len := 1) (pc' := 52) mJ_96 (by decide +kernel) ns_iand rfl ?_
  obtain ⟨S8, h9, hr⟩ := nk_lte hr
  refine nk_iast (len := 1) (N := 24) (pc' := 53) mJ_96 (by decide +kernel) t7 h4.1 h4.2 rfl rfl h9 ?_
  refine nk_p (i := .aload_n 0) (len := 1) (pc' := 54) mJ_96 (by decide +kernel) (ns_aload_n 1 rfl rfl) rfl ?_
  refine nk_getC (f := (4, 1, 24)) (x := 93) (len := 3) (ci := 13) (k := 33) (pc' := 57) ja_okT mJ_96 (by decide +kernel) (by decide +kernel) (by decide +kernel) (by decide) t_l0 rfl ?_
  have t10 : nk_ar ja_Tt (ja_c l0 33) = some (1, 24) := nk_ta ja_okT t_l0 (by decide +kernel)
  refine nk_p (i := .iload_n 2) (len := 1) (pc' := 58) mJ_96 (by decide +kernel) (ns_iload_n 3 rfl rfl) rfl ?_
  refine nk_p (i := .dup2) (len := 1) (pc' := 59) mJ_96 (by decide +kernel) (ns_dup2 rfl rfl) rfl ?_
  refine nk_iald (len := 1) (N := 24) (pc' := 60) mJ_96 (by decide +kernel) t10 h4.1 h4.2 rfl rfl ?_
  refine nk_p (i := .iload_n 3) (len := 1) (pc' := 61) mJ_96 (by decide +kernel) (ns_iload_n 0 rfl rfl) rfl ?_
  refine nk_p (i := .iand) (len := 1) (pc' := 62) mJ_96 (by decide +kernel) ns_iand rfl ?_
  obtain ⟨S11, h12, hr⟩ := nk_lte hr
  refine nk_iast (len := 1) (N := 24) (pc' := 63) mJ_96 (by decide +kernel) t10 h4.1 h4.2 rfl rfl h12 ?_
  refine nk_p (i := .aload_n 0) (len := 1) (pc' := 64) mJ_96 (by decide +kernel) (ns_aload_n 1 rfl rfl) rfl ?_
  refine nk_getC (f := (4, 1, 24)) (x := 96) (len := 3) (ci := 13) (k := 34) (pc' := 67) ja_okT mJ_96 (by decide +kernel) (by decide +kernel) (by decide +kernel) (by decide) t_l0 rfl ?_
  have t13 : nk_ar ja_Tt (ja_c l0 34) = some (1, 24) := nk_ta ja_okT t_l0 (by decide +kernel)
  refine nk_p (i := .iload_n 2) (len := 1) (pc' := 68) mJ_96 (by decide +kernel) (ns_iload_n 3 rfl rfl) rfl ?_
  refine nk_p (i := .dup2) (len := 1) (pc' := 69) mJ_96 (by decide +kernel) (ns_dup2 rfl rfl) rfl ?_
  refine nk_iald (len := 1) (N := 24) (pc' := 70) mJ_96 (by decide +kernel) t13 h4.1 h4.2 rfl rfl ?_
  refine nk_p (i := .iload_n 3) (len := 1) (pc' := 71) mJ_96 (by decide +kernel) (ns_iload_n 0 rfl rfl) rfl ?_
  refine nk_p (i := .iand) (len := 1) (pc' := 72) mJ_96 (by decide +kernel) ns_iand rfl ?_
  obtain ⟨S14, h15, hr⟩ := nk_lte hr
  refine nk_iast (len := 1) (N := 24) (pc' := 73) mJ_96 (by decide +kernel) t13 h4.1 h4.2 rfl rfl h15 ?_
  obtain ⟨v16, h17, hr⟩ := nk_lte hr
  refine nk_p (i := .iinc 2 1) (len := 3) (pc' := 76) mJ_96 (by decide +kernel) (ns_iinc (c := 1) (L' := [(2, nk_i v16), (3, nk_i v1), (0, nk_r l0), (1, nk_i l1)]) 3 rfl (by decide +kernel) h17 rfl (by decide +kernel)) rfl ?_
  refine nk_p (i := .goto (-74)) (len := 3) (pc' := 2) mJ_96 (by decide +kernel) (ns_goto (by decide +kernel)) rfl ?_
  refine nk_sub [2, 3, 0] (L' := [(0, nk_r l0), (1, nk_i l1), (2, nk_i v16)]) rfl ?_
  exact hrec2 _ _ _ _ _ t_l0 hr
noncomputable def ja_X13_changing_b2 (rec2 : Nat → Int → Int → nk_S → Option (Int × nk_S)) (l0 : Nat) (l1 : Int) (l2 : Int) (S : nk_S) : Option (Int × nk_S) :=
  if (S.1 l0 25) ≤ l2 then
    some (0, S)
  else
    if 0 ≤ l2 ∧ l2 < 24 then
    if (S.1 (ja_c l0 30) l2.toNat) = l1 then
      nk_lt (nk_wi S (ja_c l0 30) l2.toNat (-1)) fun S3 =>
      ja_X13_changing_b27 rec2 l0 l1 l2 S3
    else
      ja_X13_changing_b27 rec2 l0 l1 l2 S
    else none
theorem ja_X13_changing_b2_ok (zs : List Int32) {rec2 : Nat → Int → Int → nk_S → Option (Int × nk_S)} (hrec2 : ∀ (l0 : Nat) (l1 : Int) (l2 : Int) (S : nk_S) (R : Int × nk_S), nk_cl ja_Tt l0 = some 13 → rec2 l0 l1 l2 S = some R → nk_K ja_Tt mi_Γ (mi_ev zs) 0 96 2 [(0, nk_r l0), (1, nk_i l1), (2, nk_i l2)] [] S R) : ∀ (l0 : Nat) (l1 : Int) (l2 : Int) (S : nk_S) (R : Int × nk_S), nk_cl ja_Tt l0 = some 13 → ja_X13_changing_b2 rec2 l0 l1 l2 S = some R → nk_K ja_Tt mi_Γ (mi_ev zs) 0 96 2 [(0, nk_r l0), (1, nk_i l1), (2, nk_i l2)] [] S R := by
  intro l0 l1 l2 S R t_l0 hr
  unfold ja_X13_changing_b2 at hr
  refine nk_p (i := .iload_n 2) (len := 1) (pc' := 3) mJ_96 (by decide +kernel) (ns_iload_n 2 rfl rfl) rfl ?_
  refine nk_p (i := .aload_n 0) (len := 1) (pc' := 4) mJ_96 (by decide +kernel) (ns_aload_n 0 rfl rfl) rfl ?_
  refine nk_getI (y := (0, 0)) (x := 495) (len := 3) (ci := 13) (k := 25) (pc' := 7) ja_okT mJ_96 (by decide +kernel) (by decide +kernel) (by decide +kernel) t_l0 rfl ?_
  refine nk_icmp (c := .ge) (off := 72) (len := 3) (t := 79) (pc' := 10) mJ_96 (by decide +kernel) (by decide +kernel) rfl (fun hc => ?_) (fun hc => ?_)
  · have hr := nk_ifp (c := (S.1 l0 25) ≤ l2) hc hr
    cases hr
    exact nk_vret (len := 1) mJ_96 (by decide +kernel) rfl
  · have hr := nk_ifn (c := (S.1 l0 25) ≤ l2) hc hr
    refine nk_p (i := .aload_n 0) (len := 1) (pc' := 11) mJ_96 (by decide +kernel) (ns_aload_n 0 rfl rfl) rfl ?_
    refine nk_getC (f := (4, 1, 24)) (x := 84) (len := 3) (ci := 13) (k := 30) (pc' := 14) ja_okT mJ_96 (by decide +kernel) (by decide +kernel) (by decide +kernel) (by decide) t_l0 rfl ?_
    have t1 : nk_ar ja_Tt (ja_c l0 30) = some (1, 24) := nk_ta ja_okT t_l0 (by decide +kernel)
    refine nk_p (i := .iload_n 2) (len := 1) (pc' := 15) mJ_96 (by decide +kernel) (ns_iload_n 2 rfl rfl) rfl ?_
    obtain ⟨h2, hr⟩ := nk_cke hr
    refine nk_iald (len := 1) (N := 24) (pc' := 16) mJ_96 (by decide +kernel) t1 h2.1 h2.2 rfl rfl ?_
    refine nk_p (i := .iload_n 1) (len := 1) (pc' := 17) mJ_96 (by decide +kernel) (ns_iload_n 1 rfl rfl) rfl ?_
    refine nk_icmp (c := .ne) (off := 10) (len := 3) (t := 27) (pc' := 20) mJ_96 (by decide +kernel) (by decide +kernel) rfl (fun hc => ?_) (fun hc => ?_)
    · have hr := nk_ifn (c := (S.1 (ja_c l0 30) l2.toNat) = l1) hc hr
      exact ja_X13_changing_b27_ok zs hrec2 _ _ _ _ _ t_l0 hr
    · have hr := nk_ifp (c := (S.1 (ja_c l0 30) l2.toNat) = l1) (Decidable.of_not_not hc) hr
      refine nk_p (i := .aload_n 0) (len := 1) (pc' := 21) mJ_96 (by decide +kernel) (ns_aload_n 0 rfl rfl) rfl ?_
      refine nk_getC (f := (4, 1, 24)) (x := 84) (len := 3) (ci := 13) (k := 30) (pc' := 24) ja_okT mJ_96 (by decide +kernel) (by decide +kernel) (by decide +kernel) (by decide) t_l0 rfl ?_
      refine nk_p (i := .iload_n 2) (len := 1) (pc' := 25) mJ_96 (by decide +kernel) (ns_iload_n 2 rfl rfl) rfl ?_
      refine nk_p (i := .iconst (-1)) (len := 1) (pc' := 26) mJ_96 (by decide +kernel) (ns_iconst (c := (-1)) (by decide +kernel)) rfl ?_
      obtain ⟨S3, h4, hr⟩ := nk_lte hr
      refine nk_iast (len := 1) (N := 24) (pc' := 27) mJ_96 (by decide +kernel) t1 h2.1 h2.2 rfl rfl h4 ?_
      exact ja_X13_changing_b27_ok zs hrec2 _ _ _ _ _ t_l0 hr
noncomputable def ja_X13_changing_L2 : Nat → Nat → Int → Int → nk_S → Option (Int × nk_S)
  | 0, _, _, _, _ => none
  | n + 1, l0, l1, l2, S => ja_X13_changing_b2 (ja_X13_changing_L2 n) l0 l1 l2 S
theorem ja_X13_changing_L2_ok (zs : List Int32) : ∀ n : Nat, ∀ (l0 : Nat) (l1 : Int) (l2 : Int) (S : nk_S) (R : Int × nk_S), nk_cl ja_Tt l0 = some 13 → ja_X13_changing_L2 n l0 l1 l2 S = some R → nk_K ja_Tt mi_Γ (mi_ev zs) 0 96 2 [(0, nk_r l0), (1, nk_i l1), (2, nk_i l2)] [] S R := by
  intro n
  induction n with
  | zero => intro _ _ _ _ _ _ hr; cases hr
  | succ n ih => intro l0 l1 l2 S R t_l0 hr; exact ja_X13_changing_b2_ok zs ih l0 l1 l2 S R t_l0 hr
noncomputable def ja_X13_changing (l0 : Nat) (l1 : Int) (S : nk_S) : Option (Int × nk_S) :=
  ja_X13_changing_L2 nk_big l0 l1 0 S
theorem ja_X13_changing_ok (zs : List Int32) : ∀ (l0 : Nat) (l1 : Int) (S : nk_S) (R : Int × nk_S), nk_cl ja_Tt l0 = some 13 → ja_X13_changing l0 l1 S = some R → nk_K ja_Tt mi_Γ (mi_ev zs) 0 96 0 [(0, nk_r l0), (1, nk_i l1)] [] S R := by
  intro l0 l1 S R t_l0 hr
  unfold ja_X13_changing at hr
  refine nk_p (i := .iconst 0) (len := 1) (pc' := 1) mJ_96 (by decide +kernel) (ns_iconst (c := 0) (by decide +kernel)) rfl ?_
  refine nk_p (i := .istore_n 2) (len := 1) (pc' := 2) mJ_96 (by decide +kernel) (ns_istore_n (L' := [(2, nk_i 0), (0, nk_r l0), (1, nk_i l1)]) rfl rfl rfl (by decide +kernel)) rfl ?_
  refine nk_sub [1, 2, 0] (L' := [(0, nk_r l0), (1, nk_i l1), (2, nk_i 0)]) rfl ?_
  exact ja_X13_changing_L2_ok zs nk_big _ _ _ _ _ t_l0 hr
/-! SafeCodeModel classNames (LSafeCodeModel$Program;)Z -/
noncomputable def ja_X13_classNames_b73 (l0 : Nat) (l2 : Int) (S : nk_S) : Option (Int × nk_S) :=
  nk_bd (ja_X13_wrong l0 (nk_w (l2 + 1)) S) fun r1 S2 =>
  if r1 = 0 ∨ r1 = 1 then
  some (r1, S2)
  else none
theorem ja_X13_classNames_b73_ok (zs : List Int32) : ∀ (l0 : Nat) (l2 : Int) (S : nk_S) (R : Int × nk_S), nk_cl ja_Tt l0 = some 13 → ja_X13_classNames_b73 l0 l2 S = some R → nk_K ja_Tt mi_Γ (mi_ev zs) 1 98 73 [(0, nk_r l0), (2, nk_i l2)] [] S R := by
  intro l0 l2 S R t_l0 hr
  unfold ja_X13_classNames_b73 at hr
  refine nk_p (i := .aload_n 0) (len := 1) (pc' := 74) mJ_98 (by decide +kernel) (ns_aload_n 0 rfl rfl) rfl ?_
  refine nk_p (i := .iload_n 2) (len := 1) (pc' := 75) mJ_98 (by decide +kernel) (ns_iload_n 1 rfl rfl) rfl ?_
  refine nk_p (i := .iconst 1) (len := 1) (pc' := 76) mJ_98 (by decide +kernel) (ns_iconst (c := 1) (by decide +kernel)) rfl ?_
  refine nk_p (i := .iadd) (len := 1) (pc' := 77) mJ_98 (by decide +kernel) ns_iadd rfl ?_
  obtain ⟨r1, S2, h3, hr⟩ := nk_bde hr
  refine nk_callV (ci := 13) (n := 1) (x := 290) (len := 3) (j' := 246) (q' := 1) (r := r1) (S' := S2) (L2 := [(0, nk_r l0), (1, nk_i (nk_w (l2 + 1)))]) (rest := []) (st' := [nk_i r1]) (pc' := 80) mJ_98 (by decide +kernel) (by decide +kernel) rfl rfl t_l0 (Nat.le_of_ble_eq_true rfl) mJ_246 (Nat.le_of_ble_eq_true rfl) rfl (ja_X13_wrong_ok zs _ _ _ _ t_l0 h3) rfl ?_
  obtain ⟨h4, hr⟩ := nk_cke hr
  cases hr
  exact nk_iret (ty := .boolean) (len := 1) mJ_98 (by decide +kernel) rfl (nk_nar_z h4)
noncomputable def ja_X13_classNames_b45 (rec45 : Nat → Nat → Int → nk_S → Option (Int × nk_S)) (l0 : Nat) (l1 : Nat) (l2 : Int) (S : nk_S) : Option (Int × nk_S) :=
  if (S.1 l0 10) ≤ l2 then
    some (1, S)
  else
    nk_bd (ja_X13_classOfToken l0 l1 (nk_w (l2 + 1)) S) fun r1 S2 =>
    if 0 ≤ r1 then
      ja_X13_classNames_b73 l0 l2 S2
    else
      if (S2.1 l1 0) = 24 then
        ja_X13_classNames_b73 l0 l2 S2
      else
        nk_bd (ja_X13_classOfToken l0 l1 (nk_w (l2 + 3)) S2) fun r4 S5 =>
        if 0 ≤ r4 then
          if 0 ≤ (nk_w (8 + (S5.1 l1 0))) ∧ (nk_w (8 + (S5.1 l1 0))) < 32 then
          nk_lt (nk_wi S5 (ja_c l0 13) (nk_w (8 + (S5.1 l1 0))).toNat (nk_w (l2 + 1))) fun S9 =>
          if 0 ≤ (nk_w (8 + (S9.1 l1 0))) ∧ (nk_w (8 + (S9.1 l1 0))) < 32 then
          nk_lt (nk_wi S9 (ja_c l1 8) (nk_w (8 + (S9.1 l1 0))).toNat r4) fun S13 =>
          nk_lt (nk_wi S13 l1 0 (nk_w ((S13.1 l1 0) + 1))) fun S15 =>
          nk_bd (ja_X13_behind l0 l2 S15) fun r17 S18 =>
          rec45 l0 l1 r17 S18
          else none
          else none
        else
          nk_bd (ja_X13_wrong l0 (nk_w (l2 + 3)) S5) fun r20 S21 =>
          if r20 = 0 ∨ r20 = 1 then
          some (r20, S21)
          else none
theorem ja_X13_classNames_b45_ok (zs : List Int32) {rec45 : Nat → Nat → Int → nk_S → Option (Int × nk_S)} (hrec45 : ∀ (l0 : Nat) (l1 : Nat) (l2 : Int) (S : nk_S) (R : Int × nk_S), nk_cl ja_Tt l0 = some 13 → nk_cl ja_Tt l1 = some 12 → rec45 l0 l1 l2 S = some R → nk_K ja_Tt mi_Γ (mi_ev zs) 1 98 45 [(0, nk_r l0), (1, nk_r l1), (2, nk_i l2)] [] S R) : ∀ (l0 : Nat) (l1 : Nat) (l2 : Int) (S : nk_S) (R : Int × nk_S), nk_cl ja_Tt l0 = some 13 → nk_cl ja_Tt l1 = some 12 → ja_X13_classNames_b45 rec45 l0 l1 l2 S = some R → nk_K ja_Tt mi_Γ (mi_ev zs) 1 98 45 [(0, nk_r l0), (1, nk_r l1), (2, nk_i l2)] [] S R := by
  intro l0 l1 l2 S R t_l0 t_l1 hr
  unfold ja_X13_classNames_b45 at hr
  refine nk_p (i := .iload_n 2) (len := 1) (pc' := 46) mJ_98 (by decide +kernel) (ns_iload_n 2 rfl rfl) rfl ?_
  refine nk_p (i := .aload_n 0) (len := 1) (pc' := 47) mJ_98 (by decide +kernel) (ns_aload_n 0 rfl rfl) rfl ?_
  refine nk_getI (y := (0, 0)) (x := 155) (len := 3) (ci := 13) (k := 10) (pc' := 50) ja_okT mJ_98 (by decide +kernel) (by decide +kernel) (by decide +kernel) t_l0 rfl ?_
  refine nk_icmp (c := .ge) (off := 99) (len := 3) (t := 149) (pc' := 53) mJ_98 (by decide +kernel) (by decide +kernel) rfl (fun hc => ?_) (fun hc => ?_)
  · have hr := nk_ifp (c := (S.1 l0 10) ≤ l2) hc hr
    refine nk_p (i := .iconst 1) (len := 1) (pc' := 150) mJ_98 (by decide +kernel) (ns_iconst (c := 1) (by decide +kernel)) rfl ?_
    cases hr
    exact nk_iret (ty := .boolean) (len := 1) mJ_98 (by decide +kernel) rfl (nk_nar_z (by decide))
  · have hr := nk_ifn (c := (S.1 l0 10) ≤ l2) hc hr
    refine nk_p (i := .aload_n 0) (len := 1) (pc' := 54) mJ_98 (by decide +kernel) (ns_aload_n 0 rfl rfl) rfl ?_
    refine nk_p (i := .aload_n 1) (len := 1) (pc' := 55) mJ_98 (by decide +kernel) (ns_aload_n 1 rfl rfl) rfl ?_
    refine nk_p (i := .iload_n 2) (len := 1) (pc' := 56) mJ_98 (by decide +kernel) (ns_iload_n 2 rfl rfl) rfl ?_
    refine nk_p (i := .iconst 1) (len := 1) (pc' := 57) mJ_98 (by decide +kernel) (ns_iconst (c := 1) (by decide +kernel)) rfl ?_
    refine nk_p (i := .iadd) (len := 1) (pc' := 58) mJ_98 (by decide +kernel) ns_iadd rfl ?_
    obtain ⟨r1, S2, h3, hr⟩ := nk_bde hr
    refine nk_callV (ci := 13) (n := 2) (x := 286) (len := 3) (j' := 100) (q' := 1) (r := r1) (S' := S2) (L2 := [(0, nk_r l0), (1, nk_r l1), (2, nk_i (nk_w (l2 + 1)))]) (rest := []) (st' := [nk_i r1]) (pc' := 61) mJ_98 (by decide +kernel) (by decide +kernel) rfl rfl t_l0 (Nat.le_of_ble_eq_true rfl) mJ_100 (Nat.le_of_ble_eq_true rfl) rfl (ja_X13_classOfToken_ok zs _ _ _ _ _ t_l0 t_l1 h3) rfl ?_
    refine nk_icond (c := .ge) (off := 12) (len := 3) (t := 73) (pc' := 64) mJ_98 (by decide +kernel) (by decide +kernel) rfl (fun hc => ?_) (fun hc => ?_)
    · have hr := nk_ifp (c := 0 ≤ r1) hc hr
      refine nk_sub [0, 2] (L' := [(0, nk_r l0), (2, nk_i l2)]) rfl ?_
      exact ja_X13_classNames_b73_ok zs _ _ _ _ t_l0 hr
    · have hr := nk_ifn (c := 0 ≤ r1) hc hr
      refine nk_p (i := .aload_n 1) (len := 1) (pc' := 65) mJ_98 (by decide +kernel) (ns_aload_n 1 rfl rfl) rfl ?_
      refine nk_getI (y := (0, 0)) (x := 267) (len := 3) (ci := 12) (k := 0) (pc' := 68) ja_okT mJ_98 (by decide +kernel) (by decide +kernel) (by decide +kernel) t_l1 rfl ?_
      refine nk_p (i := .bipush 24) (len := 2) (pc' := 70) mJ_98 (by decide +kernel) (ns_bipush (c := 24) (by decide +kernel)) rfl ?_
      refine nk_icmp (c := .ne) (off := 11) (len := 3) (t := 81) (pc' := 73) mJ_98 (by decide +kernel) (by decide +kernel) rfl (fun hc => ?_) (fun hc => ?_)
      · have hr := nk_ifn (c := (S2.1 l1 0) = 24) hc hr
        refine nk_p (i := .aload_n 0) (len := 1) (pc' := 82) mJ_98 (by decide +kernel) (ns_aload_n 0 rfl rfl) rfl ?_
        refine nk_p (i := .aload_n 1) (len := 1) (pc' := 83) mJ_98 (by decide +kernel) (ns_aload_n 1 rfl rfl) rfl ?_
        refine nk_p (i := .iload_n 2) (len := 1) (pc' := 84) mJ_98 (by decide +kernel) (ns_iload_n 2 rfl rfl) rfl ?_
        refine nk_p (i := .iconst 3) (len := 1) (pc' := 85) mJ_98 (by decide +kernel) (ns_iconst (c := 3) (by decide +kernel)) rfl ?_
        refine nk_p (i := .iadd) (len := 1) (pc' := 86) mJ_98 (by decide +kernel) ns_iadd rfl ?_
        obtain ⟨r4, S5, h6, hr⟩ := nk_bde hr
        refine nk_callV (ci := 13) (n := 2) (x := 286) (len := 3) (j' := 100) (q' := 1) (r := r4) (S' := S5) (L2 := [(0, nk_r l0), (1, nk_r l1), (2, nk_i (nk_w (l2 + 3)))]) (rest := []) (st' := [nk_i r4]) (pc' := 89) mJ_98 (by decide +kernel) (by decide +kernel) rfl rfl t_l0 (Nat.le_of_ble_eq_true rfl) mJ_100 (Nat.le_of_ble_eq_true rfl) rfl (ja_X13_classOfToken_ok zs _ _ _ _ _ t_l0 t_l1 h6) rfl ?_
        refine nk_p (i := .istore_n 3) (len := 1) (pc' := 90) mJ_98 (by decide +kernel) (ns_istore_n (L' := [(3, nk_i r4), (0, nk_r l0), (1, nk_r l1), (2, nk_i l2)]) rfl rfl rfl (by decide +kernel)) rfl ?_
        refine nk_p (i := .iload_n 3) (len := 1) (pc' := 91) mJ_98 (by decide +kernel) (ns_iload_n 0 rfl rfl) rfl ?_
        refine nk_icond (c := .ge) (off := 11) (len := 3) (t := 102) (pc' := 94) mJ_98 (by decide +kernel) (by decide +kernel) rfl (fun hc => ?_) (fun hc => ?_)
        · have hr := nk_ifp (c := 0 ≤ r4) hc hr
          refine nk_p (i := .aload_n 0) (len := 1) (pc' := 103) mJ_98 (by decide +kernel) (ns_aload_n 1 rfl rfl) rfl ?_
          refine nk_getC (f := (4, 1, 32)) (x := 37) (len := 3) (ci := 13) (k := 13) (pc' := 106) ja_okT mJ_98 (by decide +kernel) (by decide +kernel) (by decide +kernel) (by decide) t_l0 rfl ?_
          have t7 : nk_ar ja_Tt (ja_c l0 13) = some (1, 32) := nk_ta ja_okT t_l0 (by decide +kernel)
          refine nk_p (i := .bipush 8) (len := 2) (pc' := 108) mJ_98 (by decide +kernel) (ns_bipush (c := 8) (by decide +kernel)) rfl ?_
          refine nk_p (i := .aload_n 1) (len := 1) (pc' := 109) mJ_98 (by decide +kernel) (ns_aload_n 2 rfl rfl) rfl ?_
          refine nk_getI (y := (0, 0)) (x := 267) (len := 3) (ci := 12) (k := 0) (pc' := 112) ja_okT mJ_98 (by decide +kernel) (by decide +kernel) (by decide +kernel) t_l1 rfl ?_
          refine nk_p (i := .iadd) (len := 1) (pc' := 113) mJ_98 (by decide +kernel) ns_iadd rfl ?_
          refine nk_p (i := .iload_n 2) (len := 1) (pc' := 114) mJ_98 (by decide +kernel) (ns_iload_n 3 rfl rfl) rfl ?_
          refine nk_p (i := .iconst 1) (len := 1) (pc' := 115) mJ_98 (by decide +kernel) (ns_iconst (c := 1) (by decide +kernel)) rfl ?_
          refine nk_p (i := .iadd) (len := 1) (pc' := 116) mJ_98 (by decide +kernel) ns_iadd rfl ?_
          obtain ⟨h8, hr⟩ := nk_cke hr
          obtain ⟨S9, h10, hr⟩ := nk_lte hr
          refine nk_iast (len := 1) (N := 32) (pc' := 117) mJ_98 (by decide +kernel) t7 h8.1 h8.2 rfl rfl h10 ?_
          refine nk_p (i := .aload_n 1) (len := 1) (pc' := 118) mJ_98 (by decide +kernel) (ns_aload_n 2 rfl rfl) rfl ?_
          refine nk_getC (f := (4, 1, 32)) (x := 280) (len := 3) (ci := 12) (k := 8) (pc' := 121) ja_okT mJ_98 (by decide +kernel) (by decide +kernel) (by decide +kernel) (by decide) t_l1 rfl ?_
          have t11 : nk_ar ja_Tt (ja_c l1 8) = some (1, 32) := nk_ta ja_okT t_l1 (by decide +kernel)
          refine nk_p (i := .bipush 8) (len := 2) (pc' := 123) mJ_98 (by decide +kernel) (ns_bipush (c := 8) (by decide +kernel)) rfl ?_
          refine nk_p (i := .aload_n 1) (len := 1) (pc' := 124) mJ_98 (by decide +kernel) (ns_aload_n 2 rfl rfl) rfl ?_
          refine nk_getI (y := (0, 0)) (x := 267) (len := 3) (ci := 12) (k := 0) (pc' := 127) ja_okT mJ_98 (by decide +kernel) (by decide +kernel) (by decide +kernel) t_l1 rfl ?_
          refine nk_p (i := .iadd) (len := 1) (pc' := 128) mJ_98 (by decide +kernel) ns_iadd rfl ?_
          refine nk_p (i := .iload_n 3) (len := 1) (pc' := 129) mJ_98 (by decide +kernel) (ns_iload_n 0 rfl rfl) rfl ?_
          obtain ⟨h12, hr⟩ := nk_cke hr
          obtain ⟨S13, h14, hr⟩ := nk_lte hr
          refine nk_iast (len := 1) (N := 32) (pc' := 130) mJ_98 (by decide +kernel) t11 h12.1 h12.2 rfl rfl h14 ?_
          refine nk_p (i := .aload_n 1) (len := 1) (pc' := 131) mJ_98 (by decide +kernel) (ns_aload_n 2 rfl rfl) rfl ?_
          refine nk_p (i := .dup) (len := 1) (pc' := 132) mJ_98 (by decide +kernel) (ns_dup rfl) rfl ?_
          refine nk_getI (y := (0, 0)) (x := 267) (len := 3) (ci := 12) (k := 0) (pc' := 135) ja_okT mJ_98 (by decide +kernel) (by decide +kernel) (by decide +kernel) t_l1 rfl ?_
          refine nk_p (i := .iconst 1) (len := 1) (pc' := 136) mJ_98 (by decide +kernel) (ns_iconst (c := 1) (by decide +kernel)) rfl ?_
          refine nk_p (i := .iadd) (len := 1) (pc' := 137) mJ_98 (by decide +kernel) ns_iadd rfl ?_
          obtain ⟨S15, h16, hr⟩ := nk_lte hr
          refine nk_putI (y := (0, 0)) (ty := .int) (x := 267) (len := 3) (ci := 12) (k := 0) (pc' := 140) ja_okT mJ_98 (by decide +kernel) (by decide +kernel) (by decide +kernel) t_l1 (Or.inl rfl) rfl h16 ?_
          refine nk_p (i := .aload_n 0) (len := 1) (pc' := 141) mJ_98 (by decide +kernel) (ns_aload_n 1 rfl rfl) rfl ?_
          refine nk_p (i := .iload_n 2) (len := 1) (pc' := 142) mJ_98 (by decide +kernel) (ns_iload_n 3 rfl rfl) rfl ?_
          obtain ⟨r17, S18, h19, hr⟩ := nk_bde hr
          refine nk_callV (ci := 13) (n := 1) (x := 283) (len := 3) (j' := 87) (q' := 1) (r := r17) (S' := S18) (L2 := [(0, nk_r l0), (1, nk_i l2)]) (rest := []) (st' := [nk_i r17]) (pc' := 145) mJ_98 (by decide +kernel) (by decide +kernel) rfl rfl t_l0 (Nat.le_of_ble_eq_true rfl) mJ_87 (Nat.le_of_ble_eq_true rfl) rfl (ja_X13_behind_ok zs _ _ _ _ t_l0 h19) rfl ?_
          refine nk_p (i := .istore_n 2) (len := 1) (pc' := 146) mJ_98 (by decide +kernel) (ns_istore_n (L' := [(2, nk_i r17), (3, nk_i r4), (0, nk_r l0), (1, nk_r l1)]) rfl rfl rfl (by decide +kernel)) rfl ?_
          refine nk_p (i := .goto (-101)) (len := 3) (pc' := 45) mJ_98 (by decide +kernel) (ns_goto (by decide +kernel)) rfl ?_
          refine nk_sub [2, 3, 0] (L' := [(0, nk_r l0), (1, nk_r l1), (2, nk_i r17)]) rfl ?_
          exact hrec45 _ _ _ _ _ t_l0 t_l1 hr
        · have hr := nk_ifn (c := 0 ≤ r4) hc hr
          refine nk_p (i := .aload_n 0) (len := 1) (pc' := 95) mJ_98 (by decide +kernel) (ns_aload_n 1 rfl rfl) rfl ?_
          refine nk_p (i := .iload_n 2) (len := 1) (pc' := 96) mJ_98 (by decide +kernel) (ns_iload_n 3 rfl rfl) rfl ?_
          refine nk_p (i := .iconst 3) (len := 1) (pc' := 97) mJ_98 (by decide +kernel) (ns_iconst (c := 3) (by decide +kernel)) rfl ?_
          refine nk_p (i := .iadd) (len := 1) (pc' := 98) mJ_98 (by decide +kernel) ns_iadd rfl ?_
          obtain ⟨r20, S21, h22, hr⟩ := nk_bde hr
          refine nk_callV (ci := 13) (n := 1) (x := 290) (len := 3) (j' := 246) (q' := 1) (r := r20) (S' := S21) (L2 := [(0, nk_r l0), (1, nk_i (nk_w (l2 + 3)))]) (rest := []) (st' := [nk_i r20]) (pc' := 101) mJ_98 (by decide +kernel) (by decide +kernel) rfl rfl t_l0 (Nat.le_of_ble_eq_true rfl) mJ_246 (Nat.le_of_ble_eq_true rfl) rfl (ja_X13_wrong_ok zs _ _ _ _ t_l0 h22) rfl ?_
          obtain ⟨h23, hr⟩ := nk_cke hr
          cases hr
          exact nk_iret (ty := .boolean) (len := 1) mJ_98 (by decide +kernel) rfl (nk_nar_z h23)
      · have hr := nk_ifp (c := (S2.1 l1 0) = 24) (Decidable.of_not_not hc) hr
        refine nk_sub [0, 2] (L' := [(0, nk_r l0), (2, nk_i l2)]) rfl ?_
        exact ja_X13_classNames_b73_ok zs _ _ _ _ t_l0 hr
noncomputable def ja_X13_classNames_L45 : Nat → Nat → Nat → Int → nk_S → Option (Int × nk_S)
  | 0, _, _, _, _ => none
  | n + 1, l0, l1, l2, S => ja_X13_classNames_b45 (ja_X13_classNames_L45 n) l0 l1 l2 S
theorem ja_X13_classNames_L45_ok (zs : List Int32) : ∀ n : Nat, ∀ (l0 : Nat) (l1 : Nat) (l2 : Int) (S : nk_S) (R : Int × nk_S), nk_cl ja_Tt l0 = some 13 → nk_cl ja_Tt l1 = some 12 → ja_X13_classNames_L45 n l0 l1 l2 S = some R → nk_K ja_Tt mi_Γ (mi_ev zs) 1 98 45 [(0, nk_r l0), (1, nk_r l1), (2, nk_i l2)] [] S R := by
  intro n
  induction n with
  | zero => intro _ _ _ _ _ _ _ hr; cases hr
  | succ n ih => intro l0 l1 l2 S R t_l0 t_l1 hr; exact ja_X13_classNames_b45_ok zs ih l0 l1 l2 S R t_l0 t_l1 hr
noncomputable def ja_X13_classNames_b7 (rec7 : Nat → Nat → Int → nk_S → Option (Int × nk_S)) (l0 : Nat) (l1 : Nat) (l2 : Int) (S : nk_S) : Option (Int × nk_S) :=
  if 8 ≤ l2 then
    ja_X13_classNames_L45 nk_big l0 l1 0 S
  else
    if l2 = 0 then
      if 0 ≤ l2 ∧ l2 < 32 then
      nk_lt (nk_wi S (ja_c l1 8) l2.toNat (-1)) fun S13 =>
      nk_lt (nk_w (l2 + 1)) fun v15 =>
      rec7 l0 l1 v15 S13
      else none
    else
      if l2 = 1 then
        if 0 ≤ l2 ∧ l2 < 32 then
        nk_lt (nk_wi S (ja_c l1 8) l2.toNat 0) fun S8 =>
        nk_lt (nk_w (l2 + 1)) fun v10 =>
        rec7 l0 l1 v10 S8
        else none
      else
        if 0 ≤ l2 ∧ l2 < 32 then
        nk_lt (nk_wi S (ja_c l1 8) l2.toNat 1) fun S3 =>
        nk_lt (nk_w (l2 + 1)) fun v5 =>
        rec7 l0 l1 v5 S3
        else none
theorem ja_X13_classNames_b7_ok (zs : List Int32) {rec7 : Nat → Nat → Int → nk_S → Option (Int × nk_S)} (hrec7 : ∀ (l0 : Nat) (l1 : Nat) (l2 : Int) (S : nk_S) (R : Int × nk_S), nk_cl ja_Tt l0 = some 13 → nk_cl ja_Tt l1 = some 12 → rec7 l0 l1 l2 S = some R → nk_K ja_Tt mi_Γ (mi_ev zs) 1 98 7 [(0, nk_r l0), (1, nk_r l1), (2, nk_i l2)] [] S R) : ∀ (l0 : Nat) (l1 : Nat) (l2 : Int) (S : nk_S) (R : Int × nk_S), nk_cl ja_Tt l0 = some 13 → nk_cl ja_Tt l1 = some 12 → ja_X13_classNames_b7 rec7 l0 l1 l2 S = some R → nk_K ja_Tt mi_Γ (mi_ev zs) 1 98 7 [(0, nk_r l0), (1, nk_r l1), (2, nk_i l2)] [] S R := by
  intro l0 l1 l2 S R t_l0 t_l1 hr
  unfold ja_X13_classNames_b7 at hr
  refine nk_p (i := .iload_n 2) (len := 1) (pc' := 8) mJ_98 (by decide +kernel) (ns_iload_n 2 rfl rfl) rfl ?_
  refine nk_p (i := .bipush 8) (len := 2) (pc' := 10) mJ_98 (by decide +kernel) (ns_bipush (c := 8) (by decide +kernel)) rfl ?_
  refine nk_icmp (c := .ge) (off := 33) (len := 3) (t := 43) (pc' := 13) mJ_98 (by decide +kernel) (by decide +kernel) rfl (fun hc => ?_) (fun hc => ?_)
  · have hr := nk_ifp (c := 8 ≤ l2) hc hr
    refine nk_p (i := .iconst 0) (len := 1) (pc' := 44) mJ_98 (by decide +kernel) (ns_iconst (c := 0) (by decide +kernel)) rfl ?_
    refine nk_p (i := .istore_n 2) (len := 1) (pc' := 45) mJ_98 (by decide +kernel) (ns_istore_n (L' := [(2, nk_i 0), (0, nk_r l0), (1, nk_r l1)]) rfl rfl rfl (by decide +kernel)) rfl ?_
    refine nk_sub [1, 2, 0] (L' := [(0, nk_r l0), (1, nk_r l1), (2, nk_i 0)]) rfl ?_
    exact ja_X13_classNames_L45_ok zs nk_big _ _ _ _ _ t_l0 t_l1 hr
  · have hr := nk_ifn (c := 8 ≤ l2) hc hr
    refine nk_p (i := .aload_n 1) (len := 1) (pc' := 14) mJ_98 (by decide +kernel) (ns_aload_n 1 rfl rfl) rfl ?_
    refine nk_getC (f := (4, 1, 32)) (x := 280) (len := 3) (ci := 12) (k := 8) (pc' := 17) ja_okT mJ_98 (by decide +kernel) (by decide +kernel) (by decide +kernel) (by decide) t_l1 rfl ?_
    have t1 : nk_ar ja_Tt (ja_c l1 8) = some (1, 32) := nk_ta ja_okT t_l1 (by decide +kernel)
    refine nk_p (i := .iload_n 2) (len := 1) (pc' := 18) mJ_98 (by decide +kernel) (ns_iload_n 2 rfl rfl) rfl ?_
    refine nk_p (i := .iload_n 2) (len := 1) (pc' := 19) mJ_98 (by decide +kernel) (ns_iload_n 2 rfl rfl) rfl ?_
    refine nk_icond (c := .ne) (off := 7) (len := 3) (t := 26) (pc' := 22) mJ_98 (by decide +kernel) (by decide +kernel) rfl (fun hc => ?_) (fun hc => ?_)
    · have hr := nk_ifn (c := l2 = 0) hc hr
      refine nk_p (i := .iload_n 2) (len := 1) (pc' := 27) mJ_98 (by decide +kernel) (ns_iload_n 2 rfl rfl) rfl ?_
      refine nk_p (i := .iconst 1) (len := 1) (pc' := 28) mJ_98 (by decide +kernel) (ns_iconst (c := 1) (by decide +kernel)) rfl ?_
      refine nk_icmp (c := .ne) (off := 7) (len := 3) (t := 35) (pc' := 31) mJ_98 (by decide +kernel) (by decide +kernel) rfl (fun hc => ?_) (fun hc => ?_)
      · have hr := nk_ifn (c := l2 = 1) hc hr
        refine nk_p (i := .iconst 1) (len := 1) (pc' := 36) mJ_98 (by decide +kernel) (ns_iconst (c := 1) (by decide +kernel)) rfl ?_
        obtain ⟨h2, hr⟩ := nk_cke hr
        obtain ⟨S3, h4, hr⟩ := nk_lte hr
        refine nk_iast (len := 1) (N := 32) (pc' := 37) mJ_98 (by decide +kernel) t1 h2.1 h2.2 rfl rfl h4 ?_
        obtain ⟨v5, h6, hr⟩ := nk_lte hr
        refine nk_p (i := .iinc 2 1) (len := 3) (pc' := 40) mJ_98 (by decide +kernel) (ns_iinc (c := 1) (L' := [(2, nk_i v5), (0, nk_r l0), (1, nk_r l1)]) 2 rfl (by decide +kernel) h6 rfl (by decide +kernel)) rfl ?_
        refine nk_p (i := .goto (-33)) (len := 3) (pc' := 7) mJ_98 (by decide +kernel) (ns_goto (by decide +kernel)) rfl ?_
        refine nk_sub [1, 2, 0] (L' := [(0, nk_r l0), (1, nk_r l1), (2, nk_i v5)]) rfl ?_
        exact hrec7 _ _ _ _ _ t_l0 t_l1 hr
      · have hr := nk_ifp (c := l2 = 1) (Decidable.of_not_not hc) hr
        refine nk_p (i := .iconst 0) (len := 1) (pc' := 32) mJ_98 (by decide +kernel) (ns_iconst (c := 0) (by decide +kernel)) rfl ?_
        refine nk_p (i := .goto 4) (len := 3) (pc' := 36) mJ_98 (by decide +kernel) (ns_goto (by decide +kernel)) rfl ?_
        obtain ⟨h7, hr⟩ := nk_cke hr
        obtain ⟨S8, h9, hr⟩ := nk_lte hr
        refine nk_iast (len := 1) (N := 32) (pc' := 37) mJ_98 (by decide +kernel) t1 h7.1 h7.2 rfl rfl h9 ?_
        obtain ⟨v10, h11, hr⟩ := nk_lte hr
        refine nk_p (i := .iinc 2 1) (len := 3) (pc' := 40) mJ_98 (by decide +kernel) (ns_iinc (c := 1) (L' := [(2, nk_i v10), (0, nk_r l0), (1, nk_r l1)]) 2 rfl (by decide +kernel) h11 rfl (by decide +kernel)) rfl ?_
        refine nk_p (i := .goto (-33)) (len := 3) (pc' := 7) mJ_98 (by decide +kernel) (ns_goto (by decide +kernel)) rfl ?_
        refine nk_sub [1, 2, 0] (L' := [(0, nk_r l0), (1, nk_r l1), (2, nk_i v10)]) rfl ?_
        exact hrec7 _ _ _ _ _ t_l0 t_l1 hr
    · have hr := nk_ifp (c := l2 = 0) (Decidable.of_not_not hc) hr
      refine nk_p (i := .iconst (-1)) (len := 1) (pc' := 23) mJ_98 (by decide +kernel) (ns_iconst (c := (-1)) (by decide +kernel)) rfl ?_
      refine nk_p (i := .goto 13) (len := 3) (pc' := 36) mJ_98 (by decide +kernel) (ns_goto (by decide +kernel)) rfl ?_
      obtain ⟨h12, hr⟩ := nk_cke hr
      obtain ⟨S13, h14, hr⟩ := nk_lte hr
      refine nk_iast (len := 1) (N := 32) (pc' := 37) mJ_98 (by decide +kernel) t1 h12.1 h12.2 rfl rfl h14 ?_
      obtain ⟨v15, h16, hr⟩ := nk_lte hr
      refine nk_p (i := .iinc 2 1) (len := 3) (pc' := 40) mJ_98 (by decide +kernel) (ns_iinc (c := 1) (L' := [(2, nk_i v15), (0, nk_r l0), (1, nk_r l1)]) 2 rfl (by decide +kernel) h16 rfl (by decide +kernel)) rfl ?_
      refine nk_p (i := .goto (-33)) (len := 3) (pc' := 7) mJ_98 (by decide +kernel) (ns_goto (by decide +kernel)) rfl ?_
      refine nk_sub [1, 2, 0] (L' := [(0, nk_r l0), (1, nk_r l1), (2, nk_i v15)]) rfl ?_
      exact hrec7 _ _ _ _ _ t_l0 t_l1 hr
noncomputable def ja_X13_classNames_L7 : Nat → Nat → Nat → Int → nk_S → Option (Int × nk_S)
  | 0, _, _, _, _ => none
  | n + 1, l0, l1, l2, S => ja_X13_classNames_b7 (ja_X13_classNames_L7 n) l0 l1 l2 S
theorem ja_X13_classNames_L7_ok (zs : List Int32) : ∀ n : Nat, ∀ (l0 : Nat) (l1 : Nat) (l2 : Int) (S : nk_S) (R : Int × nk_S), nk_cl ja_Tt l0 = some 13 → nk_cl ja_Tt l1 = some 12 → ja_X13_classNames_L7 n l0 l1 l2 S = some R → nk_K ja_Tt mi_Γ (mi_ev zs) 1 98 7 [(0, nk_r l0), (1, nk_r l1), (2, nk_i l2)] [] S R := by
  intro n
  induction n with
  | zero => intro _ _ _ _ _ _ _ hr; cases hr
  | succ n ih => intro l0 l1 l2 S R t_l0 t_l1 hr; exact ja_X13_classNames_b7_ok zs ih l0 l1 l2 S R t_l0 t_l1 hr
noncomputable def ja_X13_classNames (l0 : Nat) (l1 : Nat) (S : nk_S) : Option (Int × nk_S) :=
  nk_lt (nk_wi S l1 0 0) fun S1 =>
  ja_X13_classNames_L7 nk_big l0 l1 0 S1
theorem ja_X13_classNames_ok (zs : List Int32) : ∀ (l0 : Nat) (l1 : Nat) (S : nk_S) (R : Int × nk_S), nk_cl ja_Tt l0 = some 13 → nk_cl ja_Tt l1 = some 12 → ja_X13_classNames l0 l1 S = some R → nk_K ja_Tt mi_Γ (mi_ev zs) 1 98 0 [(0, nk_r l0), (1, nk_r l1)] [] S R := by
  intro l0 l1 S R t_l0 t_l1 hr
  unfold ja_X13_classNames at hr
  refine nk_p (i := .aload_n 1) (len := 1) (pc' := 1) mJ_98 (by decide +kernel) (ns_aload_n 1 rfl rfl) rfl ?_
  refine nk_p (i := .iconst 0) (len := 1) (pc' := 2) mJ_98 (by decide +kernel) (ns_iconst (c := 0) (by decide +kernel)) rfl ?_
  obtain ⟨S1, h2, hr⟩ := nk_lte hr
  refine nk_putI (y := (0, 0)) (ty := .int) (x := 267) (len := 3) (ci := 12) (k := 0) (pc' := 5) ja_okT mJ_98 (by decide +kernel) (by decide +kernel) (by decide +kernel) t_l1 (Or.inl rfl) rfl h2 ?_
  refine nk_p (i := .iconst 0) (len := 1) (pc' := 6) mJ_98 (by decide +kernel) (ns_iconst (c := 0) (by decide +kernel)) rfl ?_
  refine nk_p (i := .istore_n 2) (len := 1) (pc' := 7) mJ_98 (by decide +kernel) (ns_istore_n (L' := [(2, nk_i 0), (0, nk_r l0), (1, nk_r l1)]) rfl rfl rfl (by decide +kernel)) rfl ?_
  refine nk_sub [1, 2, 0] (L' := [(0, nk_r l0), (1, nk_r l1), (2, nk_i 0)]) rfl ?_
  exact ja_X13_classNames_L7_ok zs nk_big _ _ _ _ _ t_l0 t_l1 hr
/-! SafeCodeModel opOf (I)I -/
noncomputable def ja_X13_opOf (l0 : Nat) (l1 : Int) (S : nk_S) : Option (Int × nk_S) :=
  if 0 ≤ l1 ∧ l1 < 16002 then
  nk_bd (ja_X13_among l0 (S.1 (ja_c l0 8) l1.toNat) (S.1 (ja_c l0 9) l1.toNat) 31 S) fun r4 S5 =>
  some (r4, S5)
  else none
theorem ja_X13_opOf_ok (zs : List Int32) : ∀ (l0 : Nat) (l1 : Int) (S : nk_S) (R : Int × nk_S), nk_cl ja_Tt l0 = some 13 → ja_X13_opOf l0 l1 S = some R → nk_K ja_Tt mi_Γ (mi_ev zs) 1 203 0 [(0, nk_r l0), (1, nk_i l1)] [] S R := by
  intro l0 l1 S R t_l0 hr
  unfold ja_X13_opOf at hr
  refine nk_p (i := .aload_n 0) (len := 1) (pc' := 1) mJ_203 (by decide +kernel) (ns_aload_n 0 rfl rfl) rfl ?_
  refine nk_p (i := .aload_n 0) (len := 1) (pc' := 2) mJ_203 (by decide +kernel) (ns_aload_n 0 rfl rfl) rfl ?_
  refine nk_getC (f := (4, 1, 16002)) (x := 26) (len := 3) (ci := 13) (k := 8) (pc' := 5) ja_okT mJ_203 (by decide +kernel) (by decide +kernel) (by decide +kernel) (by decide) t_l0 rfl ?_
  have t1 : nk_ar ja_Tt (ja_c l0 8) = some (1, 16002) := nk_ta ja_okT t_l0 (by decide +kernel)
  refine nk_p (i := .iload_n 1) (len := 1) (pc' := 6) mJ_203 (by decide +kernel) (ns_iload_n 1 rfl rfl) rfl ?_
  obtain ⟨h2, hr⟩ := nk_cke hr
  refine nk_iald (len := 1) (N := 16002) (pc' := 7) mJ_203 (by decide +kernel) t1 h2.1 h2.2 rfl rfl ?_
  refine nk_p (i := .aload_n 0) (len := 1) (pc' := 8) mJ_203 (by decide +kernel) (ns_aload_n 0 rfl rfl) rfl ?_
  refine nk_getC (f := (4, 1, 16002)) (x := 30) (len := 3) (ci := 13) (k := 9) (pc' := 11) ja_okT mJ_203 (by decide +kernel) (by decide +kernel) (by decide +kernel) (by decide) t_l0 rfl ?_
  have t3 : nk_ar ja_Tt (ja_c l0 9) = some (1, 16002) := nk_ta ja_okT t_l0 (by decide +kernel)
  refine nk_p (i := .iload_n 1) (len := 1) (pc' := 12) mJ_203 (by decide +kernel) (ns_iload_n 1 rfl rfl) rfl ?_
  refine nk_iald (len := 1) (N := 16002) (pc' := 13) mJ_203 (by decide +kernel) t3 h2.1 h2.2 rfl rfl ?_
  refine nk_ldct (x := 246) (len := 2) (k := 31) (s := " push null load store inc dup pop swap add sub mul div rem and or xor shl shr neg goto eq ne lt le gt ge isnull notnull same other new array length aload astore get put cast is call send throw give back read write ") (pc' := 15) mJ_203 (by decide +kernel) (by decide +kernel) (by decide +kernel) rfl ?_
  obtain ⟨r4, S5, h6, hr⟩ := nk_bde hr
  refine nk_callV (ci := 13) (n := 3) (x := 248) (len := 3) (j' := 83) (q' := 1) (r := r4) (S' := S5) (L2 := [(0, nk_r l0), (1, nk_i (S.1 (ja_c l0 8) l1.toNat)), (2, nk_i (S.1 (ja_c l0 9) l1.toNat)), (3, nk_o 31)]) (rest := []) (st' := [nk_i r4]) (pc' := 18) mJ_203 (by decide +kernel) (by decide +kernel) rfl rfl t_l0 (Nat.le_of_ble_eq_true rfl) mJ_83 (Nat.le_of_ble_eq_true rfl) rfl (ja_X13_among_ok zs _ _ _ _ _ _ t_l0 (ja_tx31 zs) h6) rfl ?_
  cases hr
  exact nk_iret (ty := .int) (len := 1) mJ_203 (by decide +kernel) rfl (nk_nar_i _)
/-! SafeCodeModel threshold (LSafeCodeModel$Program;J)V -/
noncomputable def ja_X13_threshold_b76 (rec76 : Nat → Int → Int → Int → nk_S → Option (Int × nk_S)) (l1 : Nat) (l2 : Int) (l4 : Int) (l5 : Int) (S : nk_S) : Option (Int × nk_S) :=
  if l5 ≤ l4 then
    if 0 ≤ l4 ∧ l4 < 3079 then
    nk_lt (nk_wi S (ja_c l1 33) l4.toNat (nk_w l2)) fun S3 =>
    nk_lt (nk_wi S3 l1 7 (nk_w ((S3.1 l1 7) + 1))) fun S5 =>
    some (0, S5)
    else none
  else
    if 0 ≤ (nk_w (l5 - 1)) ∧ (nk_w (l5 - 1)) < 3079 then
    if 0 ≤ l5 ∧ l5 < 3079 then
    nk_lt (nk_wi S (ja_c l1 33) l5.toNat (S.1 (ja_c l1 33) (nk_w (l5 - 1)).toNat)) fun S10 =>
    nk_lt (nk_w (l5 + (-1))) fun v12 =>
    rec76 l1 l2 l4 v12 S10
    else none
    else none
theorem ja_X13_threshold_b76_ok (zs : List Int32) {rec76 : Nat → Int → Int → Int → nk_S → Option (Int × nk_S)} (hrec76 : ∀ (l1 : Nat) (l2 : Int) (l4 : Int) (l5 : Int) (S : nk_S) (R : Int × nk_S), nk_cl ja_Tt l1 = some 12 → rec76 l1 l2 l4 l5 S = some R → nk_K ja_Tt mi_Γ (mi_ev zs) 0 232 76 [(1, nk_r l1), (2, nk_l l2), (4, nk_i l4), (5, nk_i l5)] [] S R) : ∀ (l1 : Nat) (l2 : Int) (l4 : Int) (l5 : Int) (S : nk_S) (R : Int × nk_S), nk_cl ja_Tt l1 = some 12 → ja_X13_threshold_b76 rec76 l1 l2 l4 l5 S = some R → nk_K ja_Tt mi_Γ (mi_ev zs) 0 232 76 [(1, nk_r l1), (2, nk_l l2), (4, nk_i l4), (5, nk_i l5)] [] S R := by
  intro l1 l2 l4 l5 S R t_l1 hr
  unfold ja_X13_threshold_b76 at hr
  refine nk_p (i := .iload 5) (len := 2) (pc' := 78) mJ_232 (by decide +kernel) (ns_iload 3 rfl) rfl ?_
  refine nk_p (i := .iload 4) (len := 2) (pc' := 80) mJ_232 (by decide +kernel) (ns_iload 2 rfl) rfl ?_
  refine nk_icmp (c := .le) (off := 25) (len := 3) (t := 105) (pc' := 83) mJ_232 (by decide +kernel) (by decide +kernel) rfl (fun hc => ?_) (fun hc => ?_)
  · have hr := nk_ifp (c := l5 ≤ l4) hc hr
    refine nk_p (i := .aload_n 1) (len := 1) (pc' := 106) mJ_232 (by decide +kernel) (ns_aload_n 0 rfl rfl) rfl ?_
    refine nk_getC (f := (4, 1, 3079)) (x := 438) (len := 3) (ci := 12) (k := 33) (pc' := 109) ja_okT mJ_232 (by decide +kernel) (by decide +kernel) (by decide +kernel) (by decide) t_l1 rfl ?_
    have t1 : nk_ar ja_Tt (ja_c l1 33) = some (1, 3079) := nk_ta ja_okT t_l1 (by decide +kernel)
    refine nk_p (i := .iload 4) (len := 2) (pc' := 111) mJ_232 (by decide +kernel) (ns_iload 2 rfl) rfl ?_
    refine nk_p (i := .lload_n 2) (len := 1) (pc' := 112) mJ_232 (by decide +kernel) (ns_lload_n 1 rfl rfl) rfl ?_
    refine nk_p (i := .l2i) (len := 1) (pc' := 113) mJ_232 (by decide +kernel) ns_l2i rfl ?_
    obtain ⟨h2, hr⟩ := nk_cke hr
    obtain ⟨S3, h4, hr⟩ := nk_lte hr
    refine nk_iast (len := 1) (N := 3079) (pc' := 114) mJ_232 (by decide +kernel) t1 h2.1 h2.2 rfl rfl h4 ?_
    refine nk_p (i := .aload_n 1) (len := 1) (pc' := 115) mJ_232 (by decide +kernel) (ns_aload_n 0 rfl rfl) rfl ?_
    refine nk_p (i := .dup) (len := 1) (pc' := 116) mJ_232 (by decide +kernel) (ns_dup rfl) rfl ?_
    refine nk_getI (y := (0, 0)) (x := 362) (len := 3) (ci := 12) (k := 7) (pc' := 119) ja_okT mJ_232 (by decide +kernel) (by decide +kernel) (by decide +kernel) t_l1 rfl ?_
    refine nk_p (i := .iconst 1) (len := 1) (pc' := 120) mJ_232 (by decide +kernel) (ns_iconst (c := 1) (by decide +kernel)) rfl ?_
    refine nk_p (i := .iadd) (len := 1) (pc' := 121) mJ_232 (by decide +kernel) ns_iadd rfl ?_
    obtain ⟨S5, h6, hr⟩ := nk_lte hr
    refine nk_putI (y := (0, 0)) (ty := .int) (x := 362) (len := 3) (ci := 12) (k := 7) (pc' := 124) ja_okT mJ_232 (by decide +kernel) (by decide +kernel) (by decide +kernel) t_l1 (Or.inl rfl) rfl h6 ?_
    cases hr
    exact nk_vret (len := 1) mJ_232 (by decide +kernel) rfl
  · have hr := nk_ifn (c := l5 ≤ l4) hc hr
    refine nk_p (i := .aload_n 1) (len := 1) (pc' := 84) mJ_232 (by decide +kernel) (ns_aload_n 0 rfl rfl) rfl ?_
    refine nk_getC (f := (4, 1, 3079)) (x := 438) (len := 3) (ci := 12) (k := 33) (pc' := 87) ja_okT mJ_232 (by decide +kernel) (by decide +kernel) (by decide +kernel) (by decide) t_l1 rfl ?_
    have t7 : nk_ar ja_Tt (ja_c l1 33) = some (1, 3079) := nk_ta ja_okT t_l1 (by decide +kernel)
    refine nk_p (i := .iload 5) (len := 2) (pc' := 89) mJ_232 (by decide +kernel) (ns_iload 3 rfl) rfl ?_
    refine nk_p (i := .aload_n 1) (len := 1) (pc' := 90) mJ_232 (by decide +kernel) (ns_aload_n 0 rfl rfl) rfl ?_
    refine nk_getC (f := (4, 1, 3079)) (x := 438) (len := 3) (ci := 12) (k := 33) (pc' := 93) ja_okT mJ_232 (by decide +kernel) (by decide +kernel) (by decide +kernel) (by decide) t_l1 rfl ?_
    refine nk_p (i := .iload 5) (len := 2) (pc' := 95) mJ_232 (by decide +kernel) (ns_iload 3 rfl) rfl ?_
    refine nk_p (i := .iconst 1) (len := 1) (pc' := 96) mJ_232 (by decide +kernel) (ns_iconst (c := 1) (by decide +kernel)) rfl ?_
    refine nk_p (i := .isub) (len := 1) (pc' := 97) mJ_232 (by decide +kernel) ns_isub rfl ?_
    obtain ⟨h8, hr⟩ := nk_cke hr
    refine nk_iald (len := 1) (N := 3079) (pc' := 98) mJ_232 (by decide +kernel) t7 h8.1 h8.2 rfl rfl ?_
    obtain ⟨h9, hr⟩ := nk_cke hr
    obtain ⟨S10, h11, hr⟩ := nk_lte hr
    refine nk_iast (len := 1) (N := 3079) (pc' := 99) mJ_232 (by decide +kernel) t7 h9.1 h9.2 rfl rfl h11 ?_
    obtain ⟨v12, h13, hr⟩ := nk_lte hr
    refine nk_p (i := .iinc 5 (-1)) (len := 3) (pc' := 102) mJ_232 (by decide +kernel) (ns_iinc (c := (-1)) (L' := [(5, nk_i v12), (1, nk_r l1), (2, nk_l l2), (4, nk_i l4)]) 3 rfl (by decide +kernel) h13 rfl (by decide +kernel)) rfl ?_
    refine nk_p (i := .goto (-26)) (len := 3) (pc' := 76) mJ_232 (by decide +kernel) (ns_goto (by decide +kernel)) rfl ?_
    refine nk_sub [1, 2, 3, 0] (L' := [(1, nk_r l1), (2, nk_l l2), (4, nk_i l4), (5, nk_i v12)]) rfl ?_
    exact hrec76 _ _ _ _ _ _ t_l1 hr
noncomputable def ja_X13_threshold_L76 : Nat → Nat → Int → Int → Int → nk_S → Option (Int × nk_S)
  | 0, _, _, _, _, _ => none
  | n + 1, l1, l2, l4, l5, S => ja_X13_threshold_b76 (ja_X13_threshold_L76 n) l1 l2 l4 l5 S
theorem ja_X13_threshold_L76_ok (zs : List Int32) : ∀ n : Nat, ∀ (l1 : Nat) (l2 : Int) (l4 : Int) (l5 : Int) (S : nk_S) (R : Int × nk_S), nk_cl ja_Tt l1 = some 12 → ja_X13_threshold_L76 n l1 l2 l4 l5 S = some R → nk_K ja_Tt mi_Γ (mi_ev zs) 0 232 76 [(1, nk_r l1), (2, nk_l l2), (4, nk_i l4), (5, nk_i l5)] [] S R := by
  intro n
  induction n with
  | zero => intro _ _ _ _ _ _ _ hr; cases hr
  | succ n ih => intro l1 l2 l4 l5 S R t_l1 hr; exact ja_X13_threshold_b76_ok zs ih l1 l2 l4 l5 S R t_l1 hr
noncomputable def ja_X13_threshold_b49 (l1 : Nat) (l2 : Int) (l4 : Int) (S : nk_S) : Option (Int × nk_S) :=
  if l4 ≤ 0 then
    nk_lt (S.1 l1 7) fun v1 =>
    ja_X13_threshold_L76 nk_big l1 l2 l4 v1 S
  else
    if 0 ≤ (nk_w (l4 - 1)) ∧ (nk_w (l4 - 1)) < 3079 then
    if (S.1 (ja_c l1 33) (nk_w (l4 - 1)).toNat) = l2 then
      some (0, S)
    else
      nk_lt (S.1 l1 7) fun v5 =>
      ja_X13_threshold_L76 nk_big l1 l2 l4 v5 S
    else none
theorem ja_X13_threshold_b49_ok (zs : List Int32) : ∀ (l1 : Nat) (l2 : Int) (l4 : Int) (S : nk_S) (R : Int × nk_S), nk_cl ja_Tt l1 = some 12 → ja_X13_threshold_b49 l1 l2 l4 S = some R → nk_K ja_Tt mi_Γ (mi_ev zs) 0 232 49 [(1, nk_r l1), (2, nk_l l2), (4, nk_i l4)] [] S R := by
  intro l1 l2 l4 S R t_l1 hr
  unfold ja_X13_threshold_b49 at hr
  refine nk_p (i := .iload 4) (len := 2) (pc' := 51) mJ_232 (by decide +kernel) (ns_iload 2 rfl) rfl ?_
  refine nk_icond (c := .le) (off := 19) (len := 3) (t := 70) (pc' := 54) mJ_232 (by decide +kernel) (by decide +kernel) rfl (fun hc => ?_) (fun hc => ?_)
  · have hr := nk_ifp (c := l4 ≤ 0) hc hr
    refine nk_p (i := .aload_n 1) (len := 1) (pc' := 71) mJ_232 (by decide +kernel) (ns_aload_n 0 rfl rfl) rfl ?_
    refine nk_getI (y := (0, 0)) (x := 362) (len := 3) (ci := 12) (k := 7) (pc' := 74) ja_okT mJ_232 (by decide +kernel) (by decide +kernel) (by decide +kernel) t_l1 rfl ?_
    obtain ⟨v1, h2, hr⟩ := nk_lte hr
    refine nk_p (i := .istore 5) (len := 2) (pc' := 76) mJ_232 (by decide +kernel) (ns_istore (L' := [(5, nk_i v1), (1, nk_r l1), (2, nk_l l2), (4, nk_i l4)]) h2 rfl (by decide +kernel)) rfl ?_
    refine nk_sub [1, 2, 3, 0] (L' := [(1, nk_r l1), (2, nk_l l2), (4, nk_i l4), (5, nk_i v1)]) rfl ?_
    exact ja_X13_threshold_L76_ok zs nk_big _ _ _ _ _ _ t_l1 hr
  · have hr := nk_ifn (c := l4 ≤ 0) hc hr
    refine nk_p (i := .aload_n 1) (len := 1) (pc' := 55) mJ_232 (by decide +kernel) (ns_aload_n 0 rfl rfl) rfl ?_
    refine nk_getC (f := (4, 1, 3079)) (x := 438) (len := 3) (ci := 12) (k := 33) (pc' := 58) ja_okT mJ_232 (by decide +kernel) (by decide +kernel) (by decide +kernel) (by decide) t_l1 rfl ?_
    have t3 : nk_ar ja_Tt (ja_c l1 33) = some (1, 3079) := nk_ta ja_okT t_l1 (by decide +kernel)
    refine nk_p (i := .iload 4) (len := 2) (pc' := 60) mJ_232 (by decide +kernel) (ns_iload 2 rfl) rfl ?_
    refine nk_p (i := .iconst 1) (len := 1) (pc' := 61) mJ_232 (by decide +kernel) (ns_iconst (c := 1) (by decide +kernel)) rfl ?_
    refine nk_p (i := .isub) (len := 1) (pc' := 62) mJ_232 (by decide +kernel) ns_isub rfl ?_
    obtain ⟨h4, hr⟩ := nk_cke hr
    refine nk_iald (len := 1) (N := 3079) (pc' := 63) mJ_232 (by decide +kernel) t3 h4.1 h4.2 rfl rfl ?_
    refine nk_p (i := .i2l) (len := 1) (pc' := 64) mJ_232 (by decide +kernel) ns_i2l rfl ?_
    refine nk_p (i := .lload_n 2) (len := 1) (pc' := 65) mJ_232 (by decide +kernel) (ns_lload_n 1 rfl rfl) rfl ?_
    refine nk_p (i := .lcmp) (len := 1) (pc' := 66) mJ_232 (by decide +kernel) ns_lcmp rfl ?_
    refine nk_lcond (c := .ne) (off := 4) (len := 3) (t := 70) (pc' := 69) mJ_232 (by decide +kernel) (by decide +kernel) rfl (fun hc => ?_) (fun hc => ?_)
    · have hr := nk_ifn (c := (S.1 (ja_c l1 33) (nk_w (l4 - 1)).toNat) = l2) hc hr
      refine nk_p (i := .aload_n 1) (len := 1) (pc' := 71) mJ_232 (by decide +kernel) (ns_aload_n 0 rfl rfl) rfl ?_
      refine nk_getI (y := (0, 0)) (x := 362) (len := 3) (ci := 12) (k := 7) (pc' := 74) ja_okT mJ_232 (by decide +kernel) (by decide +kernel) (by decide +kernel) t_l1 rfl ?_
      obtain ⟨v5, h6, hr⟩ := nk_lte hr
      refine nk_p (i := .istore 5) (len := 2) (pc' := 76) mJ_232 (by decide +kernel) (ns_istore (L' := [(5, nk_i v5), (1, nk_r l1), (2, nk_l l2), (4, nk_i l4)]) h6 rfl (by decide +kernel)) rfl ?_
      refine nk_sub [1, 2, 3, 0] (L' := [(1, nk_r l1), (2, nk_l l2), (4, nk_i l4), (5, nk_i v5)]) rfl ?_
      exact ja_X13_threshold_L76_ok zs nk_big _ _ _ _ _ _ t_l1 hr
    · have hr := nk_ifp (c := (S.1 (ja_c l1 33) (nk_w (l4 - 1)).toNat) = l2) (Decidable.of_not_not hc) hr
      cases hr
      exact nk_vret (len := 1) mJ_232 (by decide +kernel) rfl
noncomputable def ja_X13_threshold_b23 (rec23 : Nat → Int → Int → nk_S → Option (Int × nk_S)) (l1 : Nat) (l2 : Int) (l4 : Int) (S : nk_S) : Option (Int × nk_S) :=
  if l4 ≤ 0 then
    ja_X13_threshold_b49 l1 l2 l4 S
  else
    if 0 ≤ (nk_w (l4 - 1)) ∧ (nk_w (l4 - 1)) < 3079 then
    if (S.1 (ja_c l1 33) (nk_w (l4 - 1)).toNat) ≤ l2 then
      ja_X13_threshold_b49 l1 l2 l4 S
    else
      nk_lt (nk_w (l4 + (-1))) fun v3 =>
      rec23 l1 l2 v3 S
    else none
theorem ja_X13_threshold_b23_ok (zs : List Int32) {rec23 : Nat → Int → Int → nk_S → Option (Int × nk_S)} (hrec23 : ∀ (l1 : Nat) (l2 : Int) (l4 : Int) (S : nk_S) (R : Int × nk_S), nk_cl ja_Tt l1 = some 12 → rec23 l1 l2 l4 S = some R → nk_K ja_Tt mi_Γ (mi_ev zs) 0 232 23 [(1, nk_r l1), (2, nk_l l2), (4, nk_i l4)] [] S R) : ∀ (l1 : Nat) (l2 : Int) (l4 : Int) (S : nk_S) (R : Int × nk_S), nk_cl ja_Tt l1 = some 12 → ja_X13_threshold_b23 rec23 l1 l2 l4 S = some R → nk_K ja_Tt mi_Γ (mi_ev zs) 0 232 23 [(1, nk_r l1), (2, nk_l l2), (4, nk_i l4)] [] S R := by
  intro l1 l2 l4 S R t_l1 hr
  unfold ja_X13_threshold_b23 at hr
  refine nk_p (i := .iload 4) (len := 2) (pc' := 25) mJ_232 (by decide +kernel) (ns_iload 2 rfl) rfl ?_
  refine nk_icond (c := .le) (off := 24) (len := 3) (t := 49) (pc' := 28) mJ_232 (by decide +kernel) (by decide +kernel) rfl (fun hc => ?_) (fun hc => ?_)
  · have hr := nk_ifp (c := l4 ≤ 0) hc hr
    exact ja_X13_threshold_b49_ok zs _ _ _ _ _ t_l1 hr
  · have hr := nk_ifn (c := l4 ≤ 0) hc hr
    refine nk_p (i := .aload_n 1) (len := 1) (pc' := 29) mJ_232 (by decide +kernel) (ns_aload_n 0 rfl rfl) rfl ?_
    refine nk_getC (f := (4, 1, 3079)) (x := 438) (len := 3) (ci := 12) (k := 33) (pc' := 32) ja_okT mJ_232 (by decide +kernel) (by decide +kernel) (by decide +kernel) (by decide) t_l1 rfl ?_
    have t1 : nk_ar ja_Tt (ja_c l1 33) = some (1, 3079) := nk_ta ja_okT t_l1 (by decide +kernel)
    refine nk_p (i := .iload 4) (len := 2) (pc' := 34) mJ_232 (by decide +kernel) (ns_iload 2 rfl) rfl ?_
    refine nk_p (i := .iconst 1) (len := 1) (pc' := 35) mJ_232 (by decide +kernel) (ns_iconst (c := 1) (by decide +kernel)) rfl ?_
    refine nk_p (i := .isub) (len := 1) (pc' := 36) mJ_232 (by decide +kernel) ns_isub rfl ?_
    obtain ⟨h2, hr⟩ := nk_cke hr
    refine nk_iald (len := 1) (N := 3079) (pc' := 37) mJ_232 (by decide +kernel) t1 h2.1 h2.2 rfl rfl ?_
    refine nk_p (i := .i2l) (len := 1) (pc' := 38) mJ_232 (by decide +kernel) ns_i2l rfl ?_
    refine nk_p (i := .lload_n 2) (len := 1) (pc' := 39) mJ_232 (by decide +kernel) (ns_lload_n 1 rfl rfl) rfl ?_
    refine nk_p (i := .lcmp) (len := 1) (pc' := 40) mJ_232 (by decide +kernel) ns_lcmp rfl ?_
    refine nk_lcond (c := .le) (off := 9) (len := 3) (t := 49) (pc' := 43) mJ_232 (by decide +kernel) (by decide +kernel) rfl (fun hc => ?_) (fun hc => ?_)
    · have hr := nk_ifp (c := (S.1 (ja_c l1 33) (nk_w (l4 - 1)).toNat) ≤ l2) hc hr
      exact ja_X13_threshold_b49_ok zs _ _ _ _ _ t_l1 hr
    · have hr := nk_ifn (c := (S.1 (ja_c l1 33) (nk_w (l4 - 1)).toNat) ≤ l2) hc hr
      obtain ⟨v3, h4, hr⟩ := nk_lte hr
      refine nk_p (i := .iinc 4 (-1)) (len := 3) (pc' := 46) mJ_232 (by decide +kernel) (ns_iinc (c := (-1)) (L' := [(4, nk_i v3), (1, nk_r l1), (2, nk_l l2)]) 2 rfl (by decide +kernel) h4 rfl (by decide +kernel)) rfl ?_
      refine nk_p (i := .goto (-23)) (len := 3) (pc' := 23) mJ_232 (by decide +kernel) (ns_goto (by decide +kernel)) rfl ?_
      refine nk_sub [1, 2, 0] (L' := [(1, nk_r l1), (2, nk_l l2), (4, nk_i v3)]) rfl ?_
      exact hrec23 _ _ _ _ _ t_l1 hr
noncomputable def ja_X13_threshold_L23 : Nat → Nat → Int → Int → nk_S → Option (Int × nk_S)
  | 0, _, _, _, _ => none
  | n + 1, l1, l2, l4, S => ja_X13_threshold_b23 (ja_X13_threshold_L23 n) l1 l2 l4 S
theorem ja_X13_threshold_L23_ok (zs : List Int32) : ∀ n : Nat, ∀ (l1 : Nat) (l2 : Int) (l4 : Int) (S : nk_S) (R : Int × nk_S), nk_cl ja_Tt l1 = some 12 → ja_X13_threshold_L23 n l1 l2 l4 S = some R → nk_K ja_Tt mi_Γ (mi_ev zs) 0 232 23 [(1, nk_r l1), (2, nk_l l2), (4, nk_i l4)] [] S R := by
  intro n
  induction n with
  | zero => intro _ _ _ _ _ _ hr; cases hr
  | succ n ih => intro l1 l2 l4 S R t_l1 hr; exact ja_X13_threshold_b23_ok zs ih l1 l2 l4 S R t_l1 hr
noncomputable def ja_X13_threshold (l0 : Nat) (l1 : Nat) (l2 : Int) (S : nk_S) : Option (Int × nk_S) :=
  if l2 < (-2147483648) then
    some (0, S)
  else
    if l2 ≤ 2147483647 then
      nk_lt (S.1 l1 7) fun v1 =>
      ja_X13_threshold_L23 nk_big l1 l2 v1 S
    else
      some (0, S)
theorem ja_X13_threshold_ok (zs : List Int32) : ∀ (l0 : Nat) (l1 : Nat) (l2 : Int) (S : nk_S) (R : Int × nk_S), nk_cl ja_Tt l0 = some 13 → nk_cl ja_Tt l1 = some 12 → ja_X13_threshold l0 l1 l2 S = some R → nk_K ja_Tt mi_Γ (mi_ev zs) 0 232 0 [(0, nk_r l0), (1, nk_r l1), (2, nk_l l2)] [] S R := by
  intro l0 l1 l2 S R t_l0 t_l1 hr
  unfold ja_X13_threshold at hr
  refine nk_p (i := .lload_n 2) (len := 1) (pc' := 1) mJ_232 (by decide +kernel) (ns_lload_n 2 rfl rfl) rfl ?_
  refine nk_ldc2 (x := 186) (len := 3) (X := (-2147483648)) (v := (-2147483648)) (pc' := 4) mJ_232 (by decide +kernel) (by decide +kernel) (by decide +kernel) rfl ?_
  refine nk_p (i := .lcmp) (len := 1) (pc' := 5) mJ_232 (by decide +kernel) ns_lcmp rfl ?_
  refine nk_lcond (c := .lt) (off := 11) (len := 3) (t := 16) (pc' := 8) mJ_232 (by decide +kernel) (by decide +kernel) rfl (fun hc => ?_) (fun hc => ?_)
  · have hr := nk_ifp (c := l2 < (-2147483648)) hc hr
    cases hr
    exact nk_vret (len := 1) mJ_232 (by decide +kernel) rfl
  · have hr := nk_ifn (c := l2 < (-2147483648)) hc hr
    refine nk_p (i := .lload_n 2) (len := 1) (pc' := 9) mJ_232 (by decide +kernel) (ns_lload_n 2 rfl rfl) rfl ?_
    refine nk_ldc2 (x := 188) (len := 3) (X := 2147483647) (v := 2147483647) (pc' := 12) mJ_232 (by decide +kernel) (by decide +kernel) (by decide +kernel) rfl ?_
    refine nk_p (i := .lcmp) (len := 1) (pc' := 13) mJ_232 (by decide +kernel) ns_lcmp rfl ?_
    refine nk_lcond (c := .le) (off := 4) (len := 3) (t := 17) (pc' := 16) mJ_232 (by decide +kernel) (by decide +kernel) rfl (fun hc => ?_) (fun hc => ?_)
    · have hr := nk_ifp (c := l2 ≤ 2147483647) hc hr
      refine nk_p (i := .aload_n 1) (len := 1) (pc' := 18) mJ_232 (by decide +kernel) (ns_aload_n 1 rfl rfl) rfl ?_
      refine nk_getI (y := (0, 0)) (x := 362) (len := 3) (ci := 12) (k := 7) (pc' := 21) ja_okT mJ_232 (by decide +kernel) (by decide +kernel) (by decide +kernel) t_l1 rfl ?_
      obtain ⟨v1, h2, hr⟩ := nk_lte hr
      refine nk_p (i := .istore 4) (len := 2) (pc' := 23) mJ_232 (by decide +kernel) (ns_istore (L' := [(4, nk_i v1), (0, nk_r l0), (1, nk_r l1), (2, nk_l l2)]) h2 rfl (by decide +kernel)) rfl ?_
      refine nk_sub [2, 3, 0] (L' := [(1, nk_r l1), (2, nk_l l2), (4, nk_i v1)]) rfl ?_
      exact ja_X13_threshold_L23_ok zs nk_big _ _ _ _ _ t_l1 hr
    · have hr := nk_ifn (c := l2 ≤ 2147483647) hc hr
      cases hr
      exact nk_vret (len := 1) mJ_232 (by decide +kernel) rfl
/-! SafeCodeModel thresholds (LSafeCodeModel$Program;J)V -/
noncomputable def ja_X13_thresholds_b5 (rec5 : Nat → Nat → Int → Int → nk_S → Option (Int × nk_S)) (l0 : Nat) (l1 : Nat) (l2 : Int) (l4 : Int) (S : nk_S) : Option (Int × nk_S) :=
  if (nk_W (l2 + 1)) < l4 then
    some (0, S)
  else
    nk_bd (ja_X13_threshold l0 l1 l4 S) fun r1 S2 =>
    nk_lt (nk_W (l4 + 1)) fun v4 =>
    rec5 l0 l1 l2 v4 S2
theorem ja_X13_thresholds_b5_ok (zs : List Int32) {rec5 : Nat → Nat → Int → Int → nk_S → Option (Int × nk_S)} (hrec5 : ∀ (l0 : Nat) (l1 : Nat) (l2 : Int) (l4 : Int) (S : nk_S) (R : Int × nk_S), nk_cl ja_Tt l0 = some 13 → nk_cl ja_Tt l1 = some 12 → rec5 l0 l1 l2 l4 S = some R → nk_K ja_Tt mi_Γ (mi_ev zs) 0 233 5 [(0, nk_r l0), (1, nk_r l1), (2, nk_l l2), (4, nk_l l4)] [] S R) : ∀ (l0 : Nat) (l1 : Nat) (l2 : Int) (l4 : Int) (S : nk_S) (R : Int × nk_S), nk_cl ja_Tt l0 = some 13 → nk_cl ja_Tt l1 = some 12 → ja_X13_thresholds_b5 rec5 l0 l1 l2 l4 S = some R → nk_K ja_Tt mi_Γ (mi_ev zs) 0 233 5 [(0, nk_r l0), (1, nk_r l1), (2, nk_l l2), (4, nk_l l4)] [] S R := by
  intro l0 l1 l2 l4 S R t_l0 t_l1 hr
  unfold ja_X13_thresholds_b5 at hr
  refine nk_p (i := .lload 4) (len := 2) (pc' := 7) mJ_233 (by decide +kernel) (ns_lload 3 rfl) rfl ?_
  refine nk_p (i := .lload_n 2) (len := 1) (pc' := 8) mJ_233 (by decide +kernel) (ns_lload_n 2 rfl rfl) rfl ?_
  refine nk_p (i := .lconst 1) (len := 1) (pc' := 9) mJ_233 (by decide +kernel) (ns_lconst (c := 1) (by decide +kernel)) rfl ?_
  refine nk_p (i := .ladd) (len := 1) (pc' := 10) mJ_233 (by decide +kernel) ns_ladd rfl ?_
  refine nk_p (i := .lcmp) (len := 1) (pc' := 11) mJ_233 (by decide +kernel) ns_lcmp rfl ?_
  refine nk_lcond (c := .gt) (off := 19) (len := 3) (t := 30) (pc' := 14) mJ_233 (by decide +kernel) (by decide +kernel) rfl (fun hc => ?_) (fun hc => ?_)
  · have hr := nk_ifp (c := (nk_W (l2 + 1)) < l4) hc hr
    cases hr
    exact nk_vret (len := 1) mJ_233 (by decide +kernel) rfl
  · have hr := nk_ifn (c := (nk_W (l2 + 1)) < l4) hc hr
    refine nk_p (i := .aload_n 0) (len := 1) (pc' := 15) mJ_233 (by decide +kernel) (ns_aload_n 0 rfl rfl) rfl ?_
    refine nk_p (i := .aload_n 1) (len := 1) (pc' := 16) mJ_233 (by decide +kernel) (ns_aload_n 1 rfl rfl) rfl ?_
    refine nk_p (i := .lload 4) (len := 2) (pc' := 18) mJ_233 (by decide +kernel) (ns_lload 3 rfl) rfl ?_
    obtain ⟨r1, S2, h3, hr⟩ := nk_bde hr
    refine nk_callV (ci := 13) (n := 2) (x := 435) (len := 3) (j' := 232) (q' := 0) (r := r1) (S' := S2) (L2 := [(0, nk_r l0), (1, nk_r l1), (2, nk_l l4)]) (rest := []) (st' := []) (pc' := 21) mJ_233 (by decide +kernel) (by decide +kernel) rfl rfl t_l0 (Nat.le_of_ble_eq_true rfl) mJ_232 (Nat.le_of_ble_eq_true rfl) rfl (ja_X13_threshold_ok zs _ _ _ _ _ t_l0 t_l1 h3) rfl ?_
    refine nk_p (i := .lload 4) (len := 2) (pc' := 23) mJ_233 (by decide +kernel) (ns_lload 3 rfl) rfl ?_
    refine nk_p (i := .lconst 1) (len := 1) (pc' := 24) mJ_233 (by decide +kernel) (ns_lconst (c := 1) (by decide +kernel)) rfl ?_
    refine nk_p (i := .ladd) (len := 1) (pc' := 25) mJ_233 (by decide +kernel) ns_ladd rfl ?_
    obtain ⟨v4, h5, hr⟩ := nk_lte hr
    refine nk_p (i := .lstore 4) (len := 2) (pc' := 27) mJ_233 (by decide +kernel) (ns_lstore (L' := [(4, nk_l v4), (0, nk_r l0), (1, nk_r l1), (2, nk_l l2)]) h5 rfl (by decide +kernel)) rfl ?_
    refine nk_p (i := .goto (-22)) (len := 3) (pc' := 5) mJ_233 (by decide +kernel) (ns_goto (by decide +kernel)) rfl ?_
    refine nk_sub [1, 2, 3, 0] (L' := [(0, nk_r l0), (1, nk_r l1), (2, nk_l l2), (4, nk_l v4)]) rfl ?_
    exact hrec5 _ _ _ _ _ _ t_l0 t_l1 hr
noncomputable def ja_X13_thresholds_L5 : Nat → Nat → Nat → Int → Int → nk_S → Option (Int × nk_S)
  | 0, _, _, _, _, _ => none
  | n + 1, l0, l1, l2, l4, S => ja_X13_thresholds_b5 (ja_X13_thresholds_L5 n) l0 l1 l2 l4 S
theorem ja_X13_thresholds_L5_ok (zs : List Int32) : ∀ n : Nat, ∀ (l0 : Nat) (l1 : Nat) (l2 : Int) (l4 : Int) (S : nk_S) (R : Int × nk_S), nk_cl ja_Tt l0 = some 13 → nk_cl ja_Tt l1 = some 12 → ja_X13_thresholds_L5 n l0 l1 l2 l4 S = some R → nk_K ja_Tt mi_Γ (mi_ev zs) 0 233 5 [(0, nk_r l0), (1, nk_r l1), (2, nk_l l2), (4, nk_l l4)] [] S R := by
  intro n
  induction n with
  | zero => intro _ _ _ _ _ _ _ _ hr; cases hr
  | succ n ih => intro l0 l1 l2 l4 S R t_l0 t_l1 hr; exact ja_X13_thresholds_b5_ok zs ih l0 l1 l2 l4 S R t_l0 t_l1 hr
noncomputable def ja_X13_thresholds (l0 : Nat) (l1 : Nat) (l2 : Int) (S : nk_S) : Option (Int × nk_S) :=
  nk_lt (nk_W (l2 - 1)) fun v1 =>
  ja_X13_thresholds_L5 nk_big l0 l1 l2 v1 S
theorem ja_X13_thresholds_ok (zs : List Int32) : ∀ (l0 : Nat) (l1 : Nat) (l2 : Int) (S : nk_S) (R : Int × nk_S), nk_cl ja_Tt l0 = some 13 → nk_cl ja_Tt l1 = some 12 → ja_X13_thresholds l0 l1 l2 S = some R → nk_K ja_Tt mi_Γ (mi_ev zs) 0 233 0 [(0, nk_r l0), (1, nk_r l1), (2, nk_l l2)] [] S R := by
  intro l0 l1 l2 S R t_l0 t_l1 hr
  unfold ja_X13_thresholds at hr
  refine nk_p (i := .lload_n 2) (len := 1) (pc' := 1) mJ_233 (by decide +kernel) (ns_lload_n 2 rfl rfl) rfl ?_
  refine nk_p (i := .lconst 1) (len := 1) (pc' := 2) mJ_233 (by decide +kernel) (ns_lconst (c := 1) (by decide +kernel)) rfl ?_
  refine nk_p (i := .lsub) (len := 1) (pc' := 3) mJ_233 (by decide +kernel) ns_lsub rfl ?_
  obtain ⟨v1, h2, hr⟩ := nk_lte hr
  refine nk_p (i := .lstore 4) (len := 2) (pc' := 5) mJ_233 (by decide +kernel) (ns_lstore (L' := [(4, nk_l v1), (0, nk_r l0), (1, nk_r l1), (2, nk_l l2)]) h2 rfl (by decide +kernel)) rfl ?_
  refine nk_sub [1, 2, 3, 0] (L' := [(0, nk_r l0), (1, nk_r l1), (2, nk_l l2), (4, nk_l v1)]) rfl ?_
  exact ja_X13_thresholds_L5_ok zs nk_big _ _ _ _ _ _ t_l0 t_l1 hr
/-! SafeCodeModel localStep (LSafeCodeModel$Program;III)Z -/
noncomputable def ja_X13_localStep_b28 (l0 : Nat) (l4 : Int) (S : nk_S) : Option (Int × nk_S) :=
  nk_bd (ja_X13_wrong l0 l4 S) fun r1 S2 =>
  if r1 = 0 ∨ r1 = 1 then
  some (r1, S2)
  else none
theorem ja_X13_localStep_b28_ok (zs : List Int32) : ∀ (l0 : Nat) (l4 : Int) (S : nk_S) (R : Int × nk_S), nk_cl ja_Tt l0 = some 13 → ja_X13_localStep_b28 l0 l4 S = some R → nk_K ja_Tt mi_Γ (mi_ev zs) 1 186 28 [(0, nk_r l0), (4, nk_i l4)] [] S R := by
  intro l0 l4 S R t_l0 hr
  unfold ja_X13_localStep_b28 at hr
  refine nk_p (i := .aload_n 0) (len := 1) (pc' := 29) mJ_186 (by decide +kernel) (ns_aload_n 0 rfl rfl) rfl ?_
  refine nk_p (i := .iload 4) (len := 2) (pc' := 31) mJ_186 (by decide +kernel) (ns_iload 1 rfl) rfl ?_
  obtain ⟨r1, S2, h3, hr⟩ := nk_bde hr
  refine nk_callV (ci := 13) (n := 1) (x := 290) (len := 3) (j' := 246) (q' := 1) (r := r1) (S' := S2) (L2 := [(0, nk_r l0), (1, nk_i l4)]) (rest := []) (st' := [nk_i r1]) (pc' := 34) mJ_186 (by decide +kernel) (by decide +kernel) rfl rfl t_l0 (Nat.le_of_ble_eq_true rfl) mJ_246 (Nat.le_of_ble_eq_true rfl) rfl (ja_X13_wrong_ok zs _ _ _ _ t_l0 h3) rfl ?_
  obtain ⟨h4, hr⟩ := nk_cke hr
  cases hr
  exact nk_iret (ty := .boolean) (len := 1) mJ_186 (by decide +kernel) rfl (nk_nar_z h4)
noncomputable def ja_X13_localStep (l0 : Nat) (l1 : Nat) (l2 : Int) (l3 : Int) (l4 : Int) (S : nk_S) : Option (Int × nk_S) :=
  nk_bd (ja_X13_number l0 l4 S) fun r1 S2 =>
  if r1 < 0 then
    ja_X13_localStep_b28 l0 l4 S2
  else
    if 0 ≤ l2 ∧ l2 < 48 then
    if r1 < (S2.1 (ja_c l1 18) l2.toNat) then
      if 0 ≤ l3 ∧ l3 < 1024 then
      nk_lt (nk_wi S2 (ja_c l1 23) l3.toNat (nk_w r1)) fun S8 =>
      some (1, S8)
      else none
    else
      ja_X13_localStep_b28 l0 l4 S2
    else none
theorem ja_X13_localStep_ok (zs : List Int32) : ∀ (l0 : Nat) (l1 : Nat) (l2 : Int) (l3 : Int) (l4 : Int) (S : nk_S) (R : Int × nk_S), nk_cl ja_Tt l0 = some 13 → nk_cl ja_Tt l1 = some 12 → ja_X13_localStep l0 l1 l2 l3 l4 S = some R → nk_K ja_Tt mi_Γ (mi_ev zs) 1 186 0 [(0, nk_r l0), (1, nk_r l1), (2, nk_i l2), (3, nk_i l3), (4, nk_i l4)] [] S R := by
  intro l0 l1 l2 l3 l4 S R t_l0 t_l1 hr
  unfold ja_X13_localStep at hr
  refine nk_p (i := .aload_n 0) (len := 1) (pc' := 1) mJ_186 (by decide +kernel) (ns_aload_n 0 rfl rfl) rfl ?_
  refine nk_p (i := .iload 4) (len := 2) (pc' := 3) mJ_186 (by decide +kernel) (ns_iload 4 rfl) rfl ?_
  obtain ⟨r1, S2, h3, hr⟩ := nk_bde hr
  refine nk_callV (ci := 13) (n := 1) (x := 182) (len := 3) (j' := 197) (q' := 2) (r := r1) (S' := S2) (L2 := [(0, nk_r l0), (1, nk_i l4)]) (rest := []) (st' := [nk_l r1]) (pc' := 6) mJ_186 (by decide +kernel) (by decide +kernel) rfl rfl t_l0 (Nat.le_of_ble_eq_true rfl) mJ_197 (Nat.le_of_ble_eq_true rfl) rfl (ja_X13_number_ok zs _ _ _ _ t_l0 h3) rfl ?_
  refine nk_p (i := .lstore 5) (len := 2) (pc' := 8) mJ_186 (by decide +kernel) (ns_lstore (L' := [(5, nk_l r1), (0, nk_r l0), (1, nk_r l1), (2, nk_i l2), (3, nk_i l3), (4, nk_i l4)]) rfl rfl (by decide +kernel)) rfl ?_
  refine nk_p (i := .lload 5) (len := 2) (pc' := 10) mJ_186 (by decide +kernel) (ns_lload 0 rfl) rfl ?_
  refine nk_p (i := .lconst 0) (len := 1) (pc' := 11) mJ_186 (by decide +kernel) (ns_lconst (c := 0) (by decide +kernel)) rfl ?_
  refine nk_p (i := .lcmp) (len := 1) (pc' := 12) mJ_186 (by decide +kernel) ns_lcmp rfl ?_
  refine nk_lcond (c := .lt) (off := 16) (len := 3) (t := 28) (pc' := 15) mJ_186 (by decide +kernel) (by decide +kernel) rfl (fun hc => ?_) (fun hc => ?_)
  · have hr := nk_ifp (c := r1 < 0) hc hr
    refine nk_sub [1, 5] (L' := [(0, nk_r l0), (4, nk_i l4)]) rfl ?_
    exact ja_X13_localStep_b28_ok zs _ _ _ _ t_l0 hr
  · have hr := nk_ifn (c := r1 < 0) hc hr
    refine nk_p (i := .lload 5) (len := 2) (pc' := 17) mJ_186 (by decide +kernel) (ns_lload 0 rfl) rfl ?_
    refine nk_p (i := .aload_n 1) (len := 1) (pc' := 18) mJ_186 (by decide +kernel) (ns_aload_n 2 rfl rfl) rfl ?_
    refine nk_getC (f := (4, 1, 48)) (x := 351) (len := 3) (ci := 12) (k := 18) (pc' := 21) ja_okT mJ_186 (by decide +kernel) (by decide +kernel) (by decide +kernel) (by decide) t_l1 rfl ?_
    have t4 : nk_ar ja_Tt (ja_c l1 18) = some (1, 48) := nk_ta ja_okT t_l1 (by decide +kernel)
    refine nk_p (i := .iload_n 2) (len := 1) (pc' := 22) mJ_186 (by decide +kernel) (ns_iload_n 3 rfl rfl) rfl ?_
    obtain ⟨h5, hr⟩ := nk_cke hr
    refine nk_iald (len := 1) (N := 48) (pc' := 23) mJ_186 (by decide +kernel) t4 h5.1 h5.2 rfl rfl ?_
    refine nk_p (i := .i2l) (len := 1) (pc' := 24) mJ_186 (by decide +kernel) ns_i2l rfl ?_
    refine nk_p (i := .lcmp) (len := 1) (pc' := 25) mJ_186 (by decide +kernel) ns_lcmp rfl ?_
    refine nk_lcond (c := .lt) (off := 10) (len := 3) (t := 35) (pc' := 28) mJ_186 (by decide +kernel) (by decide +kernel) rfl (fun hc => ?_) (fun hc => ?_)
    · have hr := nk_ifp (c := r1 < (S2.1 (ja_c l1 18) l2.toNat)) hc hr
      refine nk_p (i := .aload_n 1) (len := 1) (pc' := 36) mJ_186 (by decide +kernel) (ns_aload_n 2 rfl rfl) rfl ?_
      refine nk_getC (f := (4, 1, 1024)) (x := 414) (len := 3) (ci := 12) (k := 23) (pc' := 39) ja_okT mJ_186 (by decide +kernel) (by decide +kernel) (by decide +kernel) (by decide) t_l1 rfl ?_
      have t6 : nk_ar ja_Tt (ja_c l1 23) = some (1, 1024) := nk_ta ja_okT t_l1 (by decide +kernel)
      refine nk_p (i := .iload_n 3) (len := 1) (pc' := 40) mJ_186 (by decide +kernel) (ns_iload_n 4 rfl rfl) rfl ?_
      refine nk_p (i := .lload 5) (len := 2) (pc' := 42) mJ_186 (by decide +kernel) (ns_lload 0 rfl) rfl ?_
      refine nk_p (i := .l2i) (len := 1) (pc' := 43) mJ_186 (by decide +kernel) ns_l2i rfl ?_
      obtain ⟨h7, hr⟩ := nk_cke hr
      obtain ⟨S8, h9, hr⟩ := nk_lte hr
      refine nk_iast (len := 1) (N := 1024) (pc' := 44) mJ_186 (by decide +kernel) t6 h7.1 h7.2 rfl rfl h9 ?_
      refine nk_p (i := .iconst 1) (len := 1) (pc' := 45) mJ_186 (by decide +kernel) (ns_iconst (c := 1) (by decide +kernel)) rfl ?_
      cases hr
      exact nk_iret (ty := .boolean) (len := 1) mJ_186 (by decide +kernel) rfl (nk_nar_z (by decide))
    · have hr := nk_ifn (c := r1 < (S2.1 (ja_c l1 18) l2.toNat)) hc hr
      refine nk_sub [1, 5] (L' := [(0, nk_r l0), (4, nk_i l4)]) rfl ?_
      exact ja_X13_localStep_b28_ok zs _ _ _ _ t_l0 hr
/-! SafeCodeModel madeStep (LSafeCodeModel$Program;III)Z -/
noncomputable def ja_X13_madeStep_b86 (l1 : Nat) (l2 : Int) (s0 : Nat) (s1 : Int) (s2 : Int) (S : nk_S) : Option (Int × nk_S) :=
  if 0 ≤ s1 ∧ s1 < 54 then
  nk_lt (nk_wi S s0 s1.toNat s2) fun S2 =>
  if 0 ≤ l2 ∧ l2 < 1024 then
  nk_lt (nk_wi S2 (ja_c l1 23) l2.toNat (S2.1 l1 4)) fun S6 =>
  nk_lt (nk_wi S6 l1 4 (nk_w ((S6.1 l1 4) + 1))) fun S8 =>
  some (1, S8)
  else none
  else none
theorem ja_X13_madeStep_b86_ok (zs : List Int32) : ∀ (l1 : Nat) (l2 : Int) (s0 : Nat) (s1 : Int) (s2 : Int) (S : nk_S) (R : Int × nk_S), nk_cl ja_Tt l1 = some 12 → nk_ar ja_Tt s0 = some (1, 54) → ja_X13_madeStep_b86 l1 l2 s0 s1 s2 S = some R → nk_K ja_Tt mi_Γ (mi_ev zs) 1 191 86 [(1, nk_r l1), (2, nk_i l2)] [nk_i s2, nk_i s1, nk_r s0] S R := by
  intro l1 l2 s0 s1 s2 S R t_l1 t_s0 hr
  unfold ja_X13_madeStep_b86 at hr
  obtain ⟨h1, hr⟩ := nk_cke hr
  obtain ⟨S2, h3, hr⟩ := nk_lte hr
  refine nk_iast (len := 1) (N := 54) (pc' := 87) mJ_191 (by decide +kernel) t_s0 h1.1 h1.2 rfl rfl h3 ?_
  refine nk_p (i := .aload_n 1) (len := 1) (pc' := 88) mJ_191 (by decide +kernel) (ns_aload_n 0 rfl rfl) rfl ?_
  refine nk_getC (f := (4, 1, 1024)) (x := 414) (len := 3) (ci := 12) (k := 23) (pc' := 91) ja_okT mJ_191 (by decide +kernel) (by decide +kernel) (by decide +kernel) (by decide) t_l1 rfl ?_
  have t4 : nk_ar ja_Tt (ja_c l1 23) = some (1, 1024) := nk_ta ja_okT t_l1 (by decide +kernel)
  refine nk_p (i := .iload_n 2) (len := 1) (pc' := 92) mJ_191 (by decide +kernel) (ns_iload_n 1 rfl rfl) rfl ?_
  refine nk_p (i := .aload_n 1) (len := 1) (pc' := 93) mJ_191 (by decide +kernel) (ns_aload_n 0 rfl rfl) rfl ?_
  refine nk_getI (y := (0, 0)) (x := 356) (len := 3) (ci := 12) (k := 4) (pc' := 96) ja_okT mJ_191 (by decide +kernel) (by decide +kernel) (by decide +kernel) t_l1 rfl ?_
  obtain ⟨h5, hr⟩ := nk_cke hr
  obtain ⟨S6, h7, hr⟩ := nk_lte hr
  refine nk_iast (len := 1) (N := 1024) (pc' := 97) mJ_191 (by decide +kernel) t4 h5.1 h5.2 rfl rfl h7 ?_
  refine nk_p (i := .aload_n 1) (len := 1) (pc' := 98) mJ_191 (by decide +kernel) (ns_aload_n 0 rfl rfl) rfl ?_
  refine nk_p (i := .dup) (len := 1) (pc' := 99) mJ_191 (by decide +kernel) (ns_dup rfl) rfl ?_
  refine nk_getI (y := (0, 0)) (x := 356) (len := 3) (ci := 12) (k := 4) (pc' := 102) ja_okT mJ_191 (by decide +kernel) (by decide +kernel) (by decide +kernel) t_l1 rfl ?_
  refine nk_p (i := .iconst 1) (len := 1) (pc' := 103) mJ_191 (by decide +kernel) (ns_iconst (c := 1) (by decide +kernel)) rfl ?_
  refine nk_p (i := .iadd) (len := 1) (pc' := 104) mJ_191 (by decide +kernel) ns_iadd rfl ?_
  obtain ⟨S8, h9, hr⟩ := nk_lte hr
  refine nk_putI (y := (0, 0)) (ty := .int) (x := 356) (len := 3) (ci := 12) (k := 4) (pc' := 107) ja_okT mJ_191 (by decide +kernel) (by decide +kernel) (by decide +kernel) t_l1 (Or.inl rfl) rfl h9 ?_
  refine nk_p (i := .iconst 1) (len := 1) (pc' := 108) mJ_191 (by decide +kernel) (ns_iconst (c := 1) (by decide +kernel)) rfl ?_
  cases hr
  exact nk_iret (ty := .boolean) (len := 1) mJ_191 (by decide +kernel) rfl (nk_nar_z (by decide))
noncomputable def ja_X13_madeStep_b49 (l1 : Nat) (l2 : Int) (l3 : Int) (l5 : Int) (S : nk_S) : Option (Int × nk_S) :=
  if l3 = 30 then
    ja_X13_madeStep_b86 l1 l2 (ja_c l1 27) (S.1 l1 4) (nk_w (8 + l5)) S
  else
    if 0 ≤ l5 then
      ja_X13_madeStep_b86 l1 l2 (ja_c l1 27) (S.1 l1 4) (nk_w (48 + l5)) S
    else
      ja_X13_madeStep_b86 l1 l2 (ja_c l1 27) (S.1 l1 4) 40 S
theorem ja_X13_madeStep_b49_ok (zs : List Int32) : ∀ (l1 : Nat) (l2 : Int) (l3 : Int) (l5 : Int) (S : nk_S) (R : Int × nk_S), nk_cl ja_Tt l1 = some 12 → ja_X13_madeStep_b49 l1 l2 l3 l5 S = some R → nk_K ja_Tt mi_Γ (mi_ev zs) 1 191 49 [(1, nk_r l1), (2, nk_i l2), (3, nk_i l3), (5, nk_i l5)] [] S R := by
  intro l1 l2 l3 l5 S R t_l1 hr
  unfold ja_X13_madeStep_b49 at hr
  refine nk_p (i := .aload_n 1) (len := 1) (pc' := 50) mJ_191 (by decide +kernel) (ns_aload_n 0 rfl rfl) rfl ?_
  refine nk_getC (f := (4, 1, 54)) (x := 432) (len := 3) (ci := 12) (k := 27) (pc' := 53) ja_okT mJ_191 (by decide +kernel) (by decide +kernel) (by decide +kernel) (by decide) t_l1 rfl ?_
  have t1 : nk_ar ja_Tt (ja_c l1 27) = some (1, 54) := nk_ta ja_okT t_l1 (by decide +kernel)
  refine nk_p (i := .aload_n 1) (len := 1) (pc' := 54) mJ_191 (by decide +kernel) (ns_aload_n 0 rfl rfl) rfl ?_
  refine nk_getI (y := (0, 0)) (x := 356) (len := 3) (ci := 12) (k := 4) (pc' := 57) ja_okT mJ_191 (by decide +kernel) (by decide +kernel) (by decide +kernel) t_l1 rfl ?_
  refine nk_p (i := .iload_n 3) (len := 1) (pc' := 58) mJ_191 (by decide +kernel) (ns_iload_n 2 rfl rfl) rfl ?_
  refine nk_p (i := .bipush 30) (len := 2) (pc' := 60) mJ_191 (by decide +kernel) (ns_bipush (c := 30) (by decide +kernel)) rfl ?_
  refine nk_icmp (c := .ne) (off := 11) (len := 3) (t := 71) (pc' := 63) mJ_191 (by decide +kernel) (by decide +kernel) rfl (fun hc => ?_) (fun hc => ?_)
  · have hr := nk_ifn (c := l3 = 30) hc hr
    refine nk_p (i := .iload 5) (len := 2) (pc' := 73) mJ_191 (by decide +kernel) (ns_iload 3 rfl) rfl ?_
    refine nk_icond (c := .ge) (off := 8) (len := 3) (t := 81) (pc' := 76) mJ_191 (by decide +kernel) (by decide +kernel) rfl (fun hc => ?_) (fun hc => ?_)
    · have hr := nk_ifp (c := 0 ≤ l5) hc hr
      refine nk_p (i := .bipush 48) (len := 2) (pc' := 83) mJ_191 (by decide +kernel) (ns_bipush (c := 48) (by decide +kernel)) rfl ?_
      refine nk_p (i := .iload 5) (len := 2) (pc' := 85) mJ_191 (by decide +kernel) (ns_iload 3 rfl) rfl ?_
      refine nk_p (i := .iadd) (len := 1) (pc' := 86) mJ_191 (by decide +kernel) ns_iadd rfl ?_
      refine nk_sub [0, 1] (L' := [(1, nk_r l1), (2, nk_i l2)]) rfl ?_
      exact ja_X13_madeStep_b86_ok zs _ _ _ _ _ _ _ t_l1 t1 hr
    · have hr := nk_ifn (c := 0 ≤ l5) hc hr
      refine nk_p (i := .bipush 40) (len := 2) (pc' := 78) mJ_191 (by decide +kernel) (ns_bipush (c := 40) (by decide +kernel)) rfl ?_
      refine nk_p (i := .goto 8) (len := 3) (pc' := 86) mJ_191 (by decide +kernel) (ns_goto (by decide +kernel)) rfl ?_
      refine nk_sub [0, 1] (L' := [(1, nk_r l1), (2, nk_i l2)]) rfl ?_
      exact ja_X13_madeStep_b86_ok zs _ _ _ _ _ _ _ t_l1 t1 hr
  · have hr := nk_ifp (c := l3 = 30) (Decidable.of_not_not hc) hr
    refine nk_p (i := .bipush 8) (len := 2) (pc' := 65) mJ_191 (by decide +kernel) (ns_bipush (c := 8) (by decide +kernel)) rfl ?_
    refine nk_p (i := .iload 5) (len := 2) (pc' := 67) mJ_191 (by decide +kernel) (ns_iload 3 rfl) rfl ?_
    refine nk_p (i := .iadd) (len := 1) (pc' := 68) mJ_191 (by decide +kernel) ns_iadd rfl ?_
    refine nk_p (i := .goto 18) (len := 3) (pc' := 86) mJ_191 (by decide +kernel) (ns_goto (by decide +kernel)) rfl ?_
    refine nk_sub [0, 1] (L' := [(1, nk_r l1), (2, nk_i l2)]) rfl ?_
    exact ja_X13_madeStep_b86_ok zs _ _ _ _ _ _ _ t_l1 t1 hr
noncomputable def ja_X13_madeStep_b23 (l0 : Nat) (l1 : Nat) (l2 : Int) (l3 : Int) (l4 : Int) (s0 : Int) (S : nk_S) : Option (Int × nk_S) :=
  if 0 ≤ s0 then
    ja_X13_madeStep_b49 l1 l2 l3 s0 S
  else
    nk_bd (ja_X13_is l0 l4 35 S) fun r1 S2 =>
    if r1 = 0 then
      nk_bd (ja_X13_wrong l0 l4 S2) fun r4 S5 =>
      if r4 = 0 ∨ r4 = 1 then
      some (r4, S5)
      else none
    else
      ja_X13_madeStep_b49 l1 l2 l3 s0 S2
theorem ja_X13_madeStep_b23_ok (zs : List Int32) : ∀ (l0 : Nat) (l1 : Nat) (l2 : Int) (l3 : Int) (l4 : Int) (s0 : Int) (S : nk_S) (R : Int × nk_S), nk_cl ja_Tt l0 = some 13 → nk_cl ja_Tt l1 = some 12 → ja_X13_madeStep_b23 l0 l1 l2 l3 l4 s0 S = some R → nk_K ja_Tt mi_Γ (mi_ev zs) 1 191 23 [(0, nk_r l0), (1, nk_r l1), (2, nk_i l2), (3, nk_i l3), (4, nk_i l4)] [nk_i s0] S R := by
  intro l0 l1 l2 l3 l4 s0 S R t_l0 t_l1 hr
  unfold ja_X13_madeStep_b23 at hr
  refine nk_p (i := .istore 5) (len := 2) (pc' := 25) mJ_191 (by decide +kernel) (ns_istore (L' := [(5, nk_i s0), (0, nk_r l0), (1, nk_r l1), (2, nk_i l2), (3, nk_i l3), (4, nk_i l4)]) rfl rfl (by decide +kernel)) rfl ?_
  refine nk_p (i := .iload 5) (len := 2) (pc' := 27) mJ_191 (by decide +kernel) (ns_iload 0 rfl) rfl ?_
  refine nk_icond (c := .ge) (off := 22) (len := 3) (t := 49) (pc' := 30) mJ_191 (by decide +kernel) (by decide +kernel) rfl (fun hc => ?_) (fun hc => ?_)
  · have hr := nk_ifp (c := 0 ≤ s0) hc hr
    refine nk_sub [2, 3, 4, 0] (L' := [(1, nk_r l1), (2, nk_i l2), (3, nk_i l3), (5, nk_i s0)]) rfl ?_
    exact ja_X13_madeStep_b49_ok zs _ _ _ _ _ _ t_l1 hr
  · have hr := nk_ifn (c := 0 ≤ s0) hc hr
    refine nk_p (i := .aload_n 0) (len := 1) (pc' := 31) mJ_191 (by decide +kernel) (ns_aload_n 1 rfl rfl) rfl ?_
    refine nk_p (i := .iload 4) (len := 2) (pc' := 33) mJ_191 (by decide +kernel) (ns_iload 5 rfl) rfl ?_
    refine nk_ldwt (x := 262) (len := 3) (k := 35) (s := "int") (pc' := 36) mJ_191 (by decide +kernel) (by decide +kernel) (by decide +kernel) rfl ?_
    obtain ⟨r1, S2, h3, hr⟩ := nk_bde hr
    refine nk_callV (ci := 13) (n := 2) (x := 199) (len := 3) (j' := 138) (q' := 1) (r := r1) (S' := S2) (L2 := [(0, nk_r l0), (1, nk_i l4), (2, nk_o 35)]) (rest := []) (st' := [nk_i r1]) (pc' := 39) mJ_191 (by decide +kernel) (by decide +kernel) rfl rfl t_l0 (Nat.le_of_ble_eq_true rfl) mJ_138 (Nat.le_of_ble_eq_true rfl) rfl (ja_X13_is_ok zs _ _ _ _ _ t_l0 (ja_tx35 zs) h3) rfl ?_
    refine nk_icond (c := .ne) (off := 10) (len := 3) (t := 49) (pc' := 42) mJ_191 (by decide +kernel) (by decide +kernel) rfl (fun hc => ?_) (fun hc => ?_)
    · have hr := nk_ifn (c := r1 = 0) hc hr
      refine nk_sub [2, 3, 4, 0] (L' := [(1, nk_r l1), (2, nk_i l2), (3, nk_i l3), (5, nk_i s0)]) rfl ?_
      exact ja_X13_madeStep_b49_ok zs _ _ _ _ _ _ t_l1 hr
    · have hr := nk_ifp (c := r1 = 0) (Decidable.of_not_not hc) hr
      refine nk_p (i := .aload_n 0) (len := 1) (pc' := 43) mJ_191 (by decide +kernel) (ns_aload_n 1 rfl rfl) rfl ?_
      refine nk_p (i := .iload 4) (len := 2) (pc' := 45) mJ_191 (by decide +kernel) (ns_iload 5 rfl) rfl ?_
      obtain ⟨r4, S5, h6, hr⟩ := nk_bde hr
      refine nk_callV (ci := 13) (n := 1) (x := 290) (len := 3) (j' := 246) (q' := 1) (r := r4) (S' := S5) (L2 := [(0, nk_r l0), (1, nk_i l4)]) (rest := []) (st' := [nk_i r4]) (pc' := 48) mJ_191 (by decide +kernel) (by decide +kernel) rfl rfl t_l0 (Nat.le_of_ble_eq_true rfl) mJ_246 (Nat.le_of_ble_eq_true rfl) rfl (ja_X13_wrong_ok zs _ _ _ _ t_l0 h6) rfl ?_
      obtain ⟨h7, hr⟩ := nk_cke hr
      cases hr
      exact nk_iret (ty := .boolean) (len := 1) mJ_191 (by decide +kernel) rfl (nk_nar_z h7)
noncomputable def ja_X13_madeStep (l0 : Nat) (l1 : Nat) (l2 : Int) (l3 : Int) (l4 : Int) (S : nk_S) : Option (Int × nk_S) :=
  nk_bd (ja_X13_is l0 l4 35 S) fun r1 S2 =>
  if r1 = 0 then
    nk_bd (ja_X13_classOfToken l0 l1 l4 S2) fun r4 S5 =>
    ja_X13_madeStep_b23 l0 l1 l2 l3 l4 r4 S5
  else
    ja_X13_madeStep_b23 l0 l1 l2 l3 l4 (-1) S2
theorem ja_X13_madeStep_ok (zs : List Int32) : ∀ (l0 : Nat) (l1 : Nat) (l2 : Int) (l3 : Int) (l4 : Int) (S : nk_S) (R : Int × nk_S), nk_cl ja_Tt l0 = some 13 → nk_cl ja_Tt l1 = some 12 → ja_X13_madeStep l0 l1 l2 l3 l4 S = some R → nk_K ja_Tt mi_Γ (mi_ev zs) 1 191 0 [(0, nk_r l0), (1, nk_r l1), (2, nk_i l2), (3, nk_i l3), (4, nk_i l4)] [] S R := by
  intro l0 l1 l2 l3 l4 S R t_l0 t_l1 hr
  unfold ja_X13_madeStep at hr
  refine nk_p (i := .aload_n 0) (len := 1) (pc' := 1) mJ_191 (by decide +kernel) (ns_aload_n 0 rfl rfl) rfl ?_
  refine nk_p (i := .iload 4) (len := 2) (pc' := 3) mJ_191 (by decide +kernel) (ns_iload 4 rfl) rfl ?_
  refine nk_ldwt (x := 262) (len := 3) (k := 35) (s := "int") (pc' := 6) mJ_191 (by decide +kernel) (by decide +kernel) (by decide +kernel) rfl ?_
  obtain ⟨r1, S2, h3, hr⟩ := nk_bde hr
  refine nk_callV (ci := 13) (n := 2) (x := 199) (len := 3) (j' := 138) (q' := 1) (r := r1) (S' := S2) (L2 := [(0, nk_r l0), (1, nk_i l4), (2, nk_o 35)]) (rest := []) (st' := [nk_i r1]) (pc' := 9) mJ_191 (by decide +kernel) (by decide +kernel) rfl rfl t_l0 (Nat.le_of_ble_eq_true rfl) mJ_138 (Nat.le_of_ble_eq_true rfl) rfl (ja_X13_is_ok zs _ _ _ _ _ t_l0 (ja_tx35 zs) h3) rfl ?_
  refine nk_icond (c := .eq) (off := 7) (len := 3) (t := 16) (pc' := 12) mJ_191 (by decide +kernel) (by decide +kernel) rfl (fun hc => ?_) (fun hc => ?_)
  · have hr := nk_ifp (c := r1 = 0) hc hr
    refine nk_p (i := .aload_n 0) (len := 1) (pc' := 17) mJ_191 (by decide +kernel) (ns_aload_n 0 rfl rfl) rfl ?_
    refine nk_p (i := .aload_n 1) (len := 1) (pc' := 18) mJ_191 (by decide +kernel) (ns_aload_n 1 rfl rfl) rfl ?_
    refine nk_p (i := .iload 4) (len := 2) (pc' := 20) mJ_191 (by decide +kernel) (ns_iload 4 rfl) rfl ?_
    obtain ⟨r4, S5, h6, hr⟩ := nk_bde hr
    refine nk_callV (ci := 13) (n := 2) (x := 286) (len := 3) (j' := 100) (q' := 1) (r := r4) (S' := S5) (L2 := [(0, nk_r l0), (1, nk_r l1), (2, nk_i l4)]) (rest := []) (st' := [nk_i r4]) (pc' := 23) mJ_191 (by decide +kernel) (by decide +kernel) rfl rfl t_l0 (Nat.le_of_ble_eq_true rfl) mJ_100 (Nat.le_of_ble_eq_true rfl) rfl (ja_X13_classOfToken_ok zs _ _ _ _ _ t_l0 t_l1 h6) rfl ?_
    exact ja_X13_madeStep_b23_ok zs _ _ _ _ _ _ _ _ t_l0 t_l1 hr
  · have hr := nk_ifn (c := r1 = 0) hc hr
    refine nk_p (i := .iconst (-1)) (len := 1) (pc' := 13) mJ_191 (by decide +kernel) (ns_iconst (c := (-1)) (by decide +kernel)) rfl ?_
    refine nk_p (i := .goto 10) (len := 3) (pc' := 23) mJ_191 (by decide +kernel) (ns_goto (by decide +kernel)) rfl ?_
    exact ja_X13_madeStep_b23_ok zs _ _ _ _ _ _ _ _ t_l0 t_l1 hr
/-! SafeCodeModel point (I)I -/
noncomputable def ja_X13_point_b7 (rec7 : Nat → Int → Int → nk_S → Option (Int × nk_S)) (l0 : Nat) (l1 : Int) (l2 : Int) (S : nk_S) : Option (Int × nk_S) :=
  if 0 ≤ l1 ∧ l1 < 16002 then
  if (S.1 (ja_c l0 9) l1.toNat) ≤ l2 then
    some (l2, S)
  else
    if 0 ≤ l2 ∧ l2 < 16000 then
    if (S.1 (ja_c l0 6) l2.toNat) = 46 then
      some (l2, S)
    else
      nk_lt (nk_w (l2 + 1)) fun v5 =>
      rec7 l0 l1 v5 S
    else none
  else none
theorem ja_X13_point_b7_ok (zs : List Int32) {rec7 : Nat → Int → Int → nk_S → Option (Int × nk_S)} (hrec7 : ∀ (l0 : Nat) (l1 : Int) (l2 : Int) (S : nk_S) (R : Int × nk_S), nk_cl ja_Tt l0 = some 13 → rec7 l0 l1 l2 S = some R → nk_K ja_Tt mi_Γ (mi_ev zs) 1 207 7 [(0, nk_r l0), (1, nk_i l1), (2, nk_i l2)] [] S R) : ∀ (l0 : Nat) (l1 : Int) (l2 : Int) (S : nk_S) (R : Int × nk_S), nk_cl ja_Tt l0 = some 13 → ja_X13_point_b7 rec7 l0 l1 l2 S = some R → nk_K ja_Tt mi_Γ (mi_ev zs) 1 207 7 [(0, nk_r l0), (1, nk_i l1), (2, nk_i l2)] [] S R := by
  intro l0 l1 l2 S R t_l0 hr
  unfold ja_X13_point_b7 at hr
  refine nk_p (i := .iload_n 2) (len := 1) (pc' := 8) mJ_207 (by decide +kernel) (ns_iload_n 2 rfl rfl) rfl ?_
  refine nk_p (i := .aload_n 0) (len := 1) (pc' := 9) mJ_207 (by decide +kernel) (ns_aload_n 0 rfl rfl) rfl ?_
  refine nk_getC (f := (4, 1, 16002)) (x := 30) (len := 3) (ci := 13) (k := 9) (pc' := 12) ja_okT mJ_207 (by decide +kernel) (by decide +kernel) (by decide +kernel) (by decide) t_l0 rfl ?_
  have t1 : nk_ar ja_Tt (ja_c l0 9) = some (1, 16002) := nk_ta ja_okT t_l0 (by decide +kernel)
  refine nk_p (i := .iload_n 1) (len := 1) (pc' := 13) mJ_207 (by decide +kernel) (ns_iload_n 1 rfl rfl) rfl ?_
  obtain ⟨h2, hr⟩ := nk_cke hr
  refine nk_iald (len := 1) (N := 16002) (pc' := 14) mJ_207 (by decide +kernel) t1 h2.1 h2.2 rfl rfl ?_
  refine nk_icmp (c := .ge) (off := 20) (len := 3) (t := 34) (pc' := 17) mJ_207 (by decide +kernel) (by decide +kernel) rfl (fun hc => ?_) (fun hc => ?_)
  · have hr := nk_ifp (c := (S.1 (ja_c l0 9) l1.toNat) ≤ l2) hc hr
    refine nk_p (i := .iload_n 2) (len := 1) (pc' := 35) mJ_207 (by decide +kernel) (ns_iload_n 2 rfl rfl) rfl ?_
    cases hr
    exact nk_iret (ty := .int) (len := 1) mJ_207 (by decide +kernel) rfl (nk_nar_i _)
  · have hr := nk_ifn (c := (S.1 (ja_c l0 9) l1.toNat) ≤ l2) hc hr
    refine nk_p (i := .aload_n 0) (len := 1) (pc' := 18) mJ_207 (by decide +kernel) (ns_aload_n 0 rfl rfl) rfl ?_
    refine nk_getC (f := (4, 0, 16000)) (x := 23) (len := 3) (ci := 13) (k := 6) (pc' := 21) ja_okT mJ_207 (by decide +kernel) (by decide +kernel) (by decide +kernel) (by decide) t_l0 rfl ?_
    have t3 : nk_ar ja_Tt (ja_c l0 6) = some (0, 16000) := nk_ta ja_okT t_l0 (by decide +kernel)
    refine nk_p (i := .iload_n 2) (len := 1) (pc' := 22) mJ_207 (by decide +kernel) (ns_iload_n 2 rfl rfl) rfl ?_
    obtain ⟨h4, hr⟩ := nk_cke hr
    refine nk_bald (t := 0) (len := 1) (N := 16000) (pc' := 23) mJ_207 (by decide +kernel) t3 (by decide) h4.1 h4.2 rfl rfl ?_
    refine nk_p (i := .bipush 46) (len := 2) (pc' := 25) mJ_207 (by decide +kernel) (ns_bipush (c := 46) (by decide +kernel)) rfl ?_
    refine nk_icmp (c := .eq) (off := 9) (len := 3) (t := 34) (pc' := 28) mJ_207 (by decide +kernel) (by decide +kernel) rfl (fun hc => ?_) (fun hc => ?_)
    · have hr := nk_ifp (c := (S.1 (ja_c l0 6) l2.toNat) = 46) hc hr
      refine nk_p (i := .iload_n 2) (len := 1) (pc' := 35) mJ_207 (by decide +kernel) (ns_iload_n 2 rfl rfl) rfl ?_
      cases hr
      exact nk_iret (ty := .int) (len := 1) mJ_207 (by decide +kernel) rfl (nk_nar_i _)
    · have hr := nk_ifn (c := (S.1 (ja_c l0 6) l2.toNat) = 46) hc hr
      obtain ⟨v5, h6, hr⟩ := nk_lte hr
      refine nk_p (i := .iinc 2 1) (len := 3) (pc' := 31) mJ_207 (by decide +kernel) (ns_iinc (c := 1) (L' := [(2, nk_i v5), (0, nk_r l0), (1, nk_i l1)]) 2 rfl (by decide +kernel) h6 rfl (by decide +kernel)) rfl ?_
      refine nk_p (i := .goto (-24)) (len := 3) (pc' := 7) mJ_207 (by decide +kernel) (ns_goto (by decide +kernel)) rfl ?_
      refine nk_sub [1, 2, 0] (L' := [(0, nk_r l0), (1, nk_i l1), (2, nk_i v5)]) rfl ?_
      exact hrec7 _ _ _ _ _ t_l0 hr
noncomputable def ja_X13_point_L7 : Nat → Nat → Int → Int → nk_S → Option (Int × nk_S)
  | 0, _, _, _, _ => none
  | n + 1, l0, l1, l2, S => ja_X13_point_b7 (ja_X13_point_L7 n) l0 l1 l2 S
theorem ja_X13_point_L7_ok (zs : List Int32) : ∀ n : Nat, ∀ (l0 : Nat) (l1 : Int) (l2 : Int) (S : nk_S) (R : Int × nk_S), nk_cl ja_Tt l0 = some 13 → ja_X13_point_L7 n l0 l1 l2 S = some R → nk_K ja_Tt mi_Γ (mi_ev zs) 1 207 7 [(0, nk_r l0), (1, nk_i l1), (2, nk_i l2)] [] S R := by
  intro n
  induction n with
  | zero => intro _ _ _ _ _ _ hr; cases hr
  | succ n ih => intro l0 l1 l2 S R t_l0 hr; exact ja_X13_point_b7_ok zs ih l0 l1 l2 S R t_l0 hr
noncomputable def ja_X13_point (l0 : Nat) (l1 : Int) (S : nk_S) : Option (Int × nk_S) :=
  if 0 ≤ l1 ∧ l1 < 16002 then
  nk_lt (S.1 (ja_c l0 8) l1.toNat) fun v3 =>
  ja_X13_point_L7 nk_big l0 l1 v3 S
  else none
theorem ja_X13_point_ok (zs : List Int32) : ∀ (l0 : Nat) (l1 : Int) (S : nk_S) (R : Int × nk_S), nk_cl ja_Tt l0 = some 13 → ja_X13_point l0 l1 S = some R → nk_K ja_Tt mi_Γ (mi_ev zs) 1 207 0 [(0, nk_r l0), (1, nk_i l1)] [] S R := by
  intro l0 l1 S R t_l0 hr
  unfold ja_X13_point at hr
  refine nk_p (i := .aload_n 0) (len := 1) (pc' := 1) mJ_207 (by decide +kernel) (ns_aload_n 0 rfl rfl) rfl ?_
  refine nk_getC (f := (4, 1, 16002)) (x := 26) (len := 3) (ci := 13) (k := 8) (pc' := 4) ja_okT mJ_207 (by decide +kernel) (by decide +kernel) (by decide +kernel) (by decide) t_l0 rfl ?_
  have t1 : nk_ar ja_Tt (ja_c l0 8) = some (1, 16002) := nk_ta ja_okT t_l0 (by decide +kernel)
  refine nk_p (i := .iload_n 1) (len := 1) (pc' := 5) mJ_207 (by decide +kernel) (ns_iload_n 1 rfl rfl) rfl ?_
  obtain ⟨h2, hr⟩ := nk_cke hr
  refine nk_iald (len := 1) (N := 16002) (pc' := 6) mJ_207 (by decide +kernel) t1 h2.1 h2.2 rfl rfl ?_
  obtain ⟨v3, h4, hr⟩ := nk_lte hr
  refine nk_p (i := .istore_n 2) (len := 1) (pc' := 7) mJ_207 (by decide +kernel) (ns_istore_n (L' := [(2, nk_i v3), (0, nk_r l0), (1, nk_i l1)]) h4 rfl rfl (by decide +kernel)) rfl ?_
  refine nk_sub [1, 2, 0] (L' := [(0, nk_r l0), (1, nk_i l1), (2, nk_i v3)]) rfl ?_
  exact ja_X13_point_L7_ok zs nk_big _ _ _ _ _ t_l0 hr
