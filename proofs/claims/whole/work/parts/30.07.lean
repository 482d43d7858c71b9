/-! SafeCode$Proof raise (I)V -/
noncomputable def ja_X4_raise (l0 : Nat) (l1 : Int) (S : nk_S) : Option (Int × nk_S) :=
  nk_lt (nk_wi S l0 9 (nk_ior (S.1 l0 9) (nk_ishl 1 l1))) fun S1 =>
  nk_lt (nk_wi S1 l0 10 (nk_lor (S1.1 l0 10) (nk_lshl 1 (nk_w (48 + l1))))) fun S3 =>
  some (0, S3)
theorem ja_X4_raise_ok (zs : List Int32) : ∀ (l0 : Nat) (l1 : Int) (S : nk_S) (R : Int × nk_S), nk_cl ja_Tt l0 = some 4 → ja_X4_raise l0 l1 S = some R → nk_K ja_Tt mi_Γ (mi_ev zs) 0 338 0 [(0, nk_r l0), (1, nk_i l1)] [] S R := by
  intro l0 l1 S R t_l0 hr
  unfold ja_X4_raise at hr
  refine nk_p (i := .aload_n 0) (len := 1) (pc' := 1) mJ_338 (by decide +kernel) (ns_aload_n 0 rfl rfl) rfl ?_
  refine nk_p (i := .dup) (len := 1) (pc' := 2) mJ_338 (by decide +kernel) (ns_dup rfl) rfl ?_
  refine nk_getI (y := (0, 0)) (x := 185) (len := 3) (ci := 4) (k := 9) (pc' := 5) ja_okT mJ_338 (by decide +kernel) (by decide +kernel) (by decide +kernel) t_l0 rfl ?_
  refine nk_p (i := .iconst 1) (len := 1) (pc' := 6) mJ_338 (by decide +kernel) (ns_iconst (c := 1) (by decide +kernel)) rfl ?_
  refine nk_p (i := .iload_n 1) (len := 1) (pc' := 7) mJ_338 (by decide +kernel) (ns_iload_n 1 rfl rfl) rfl ?_
  refine nk_p (i := .ishl) (len := 1) (pc' := 8) mJ_338 (by decide +kernel) ns_ishl rfl ?_
  refine nk_p (i := .ior) (len := 1) (pc' := 9) mJ_338 (by decide +kernel) ns_ior rfl ?_
  obtain ⟨S1, h2, hr⟩ := nk_lte hr
  refine nk_putI (y := (0, 0)) (ty := .int) (x := 185) (len := 3) (ci := 4) (k := 9) (pc' := 12) ja_okT mJ_338 (by decide +kernel) (by decide +kernel) (by decide +kernel) t_l0 (Or.inl rfl) rfl h2 ?_
  refine nk_p (i := .aload_n 0) (len := 1) (pc' := 13) mJ_338 (by decide +kernel) (ns_aload_n 0 rfl rfl) rfl ?_
  refine nk_p (i := .dup) (len := 1) (pc' := 14) mJ_338 (by decide +kernel) (ns_dup rfl) rfl ?_
  refine nk_getL (y := (0, 0)) (x := 188) (len := 3) (ci := 4) (k := 10) (pc' := 17) ja_okT mJ_338 (by decide +kernel) (by decide +kernel) (by decide +kernel) t_l0 rfl ?_
  refine nk_p (i := .lconst 1) (len := 1) (pc' := 18) mJ_338 (by decide +kernel) (ns_lconst (c := 1) (by decide +kernel)) rfl ?_
  refine nk_p (i := .bipush 48) (len := 2) (pc' := 20) mJ_338 (by decide +kernel) (ns_bipush (c := 48) (by decide +kernel)) rfl ?_
  refine nk_p (i := .iload_n 1) (len := 1) (pc' := 21) mJ_338 (by decide +kernel) (ns_iload_n 1 rfl rfl) rfl ?_
  refine nk_p (i := .iadd) (len := 1) (pc' := 22) mJ_338 (by decide +kernel) ns_iadd rfl ?_
  refine nk_p (i := .lshl) (len := 1) (pc' := 23) mJ_338 (by decide +kernel) ns_lshl rfl ?_
  refine nk_p (i := .lor) (len := 1) (pc' := 24) mJ_338 (by decide +kernel) ns_lor rfl ?_
  obtain ⟨S3, h4, hr⟩ := nk_lte hr
  refine nk_putL (y := (0, 0)) (x := 188) (len := 3) (ci := 4) (k := 10) (pc' := 27) ja_okT mJ_338 (by decide +kernel) (by decide +kernel) (by decide +kernel) t_l0 rfl h4 ?_
  cases hr
  exact nk_vret (len := 1) mJ_338 (by decide +kernel) rfl
/-! SafeCode$Proof dereference (I)Z -/
noncomputable def ja_X4_dereference_b25 (l0 : Nat) (l1 : Int) (l2 : Int) (S : nk_S) : Option (Int × nk_S) :=
  if (nk_land l2 18014398509481983) = 0 then
    some (0, S)
  else
    nk_bd (ja_X7_keepSites (ja_c l0 2) l1 18014398509481983 S) fun r2 S3 =>
    if r2 = 0 then
      some (0, S3)
    else
      some (1, S3)
theorem ja_X4_dereference_b25_ok (zs : List Int32) : ∀ (l0 : Nat) (l1 : Int) (l2 : Int) (S : nk_S) (R : Int × nk_S), nk_cl ja_Tt l0 = some 4 → ja_X4_dereference_b25 l0 l1 l2 S = some R → nk_K ja_Tt mi_Γ (mi_ev zs) 1 316 25 [(0, nk_r l0), (1, nk_i l1), (2, nk_l l2)] [] S R := by
  intro l0 l1 l2 S R t_l0 hr
  unfold ja_X4_dereference_b25 at hr
  refine nk_p (i := .lload_n 2) (len := 1) (pc' := 26) mJ_316 (by decide +kernel) (ns_lload_n 2 rfl rfl) rfl ?_
  refine nk_ldc2 (x := 346) (len := 3) (X := 18014398509481983) (v := 18014398509481983) (pc' := 29) mJ_316 (by decide +kernel) (by decide +kernel) (by decide +kernel) rfl ?_
  refine nk_p (i := .land) (len := 1) (pc' := 30) mJ_316 (by decide +kernel) ns_land rfl ?_
  refine nk_p (i := .lconst 0) (len := 1) (pc' := 31) mJ_316 (by decide +kernel) (ns_lconst (c := 0) (by decide +kernel)) rfl ?_
  refine nk_p (i := .lcmp) (len := 1) (pc' := 32) mJ_316 (by decide +kernel) ns_lcmp rfl ?_
  refine nk_lcond (c := .eq) (off := 21) (len := 3) (t := 53) (pc' := 35) mJ_316 (by decide +kernel) (by decide +kernel) rfl (fun hc => ?_) (fun hc => ?_)
  · have hr := nk_ifp (c := (nk_land l2 18014398509481983) = 0) hc hr
    refine nk_p (i := .iconst 0) (len := 1) (pc' := 54) mJ_316 (by decide +kernel) (ns_iconst (c := 0) (by decide +kernel)) rfl ?_
    cases hr
    exact nk_iret (ty := .boolean) (len := 1) mJ_316 (by decide +kernel) rfl (nk_nar_z (by decide))
  · have hr := nk_ifn (c := (nk_land l2 18014398509481983) = 0) hc hr
    refine nk_p (i := .aload_n 0) (len := 1) (pc' := 36) mJ_316 (by decide +kernel) (ns_aload_n 0 rfl rfl) rfl ?_
    refine nk_getC (f := (2, 7, 0)) (x := 12) (len := 3) (ci := 4) (k := 2) (pc' := 39) ja_okT mJ_316 (by decide +kernel) (by decide +kernel) (by decide +kernel) (by decide) t_l0 rfl ?_
    have t1 : nk_cl ja_Tt (ja_c l0 2) = some 7 := nk_tc (y := 0) ja_okT t_l0 (by decide +kernel)
    refine nk_p (i := .iload_n 1) (len := 1) (pc' := 40) mJ_316 (by decide +kernel) (ns_iload_n 1 rfl rfl) rfl ?_
    refine nk_ldc2 (x := 346) (len := 3) (X := 18014398509481983) (v := 18014398509481983) (pc' := 43) mJ_316 (by decide +kernel) (by decide +kernel) (by decide +kernel) rfl ?_
    obtain ⟨r2, S3, h4, hr⟩ := nk_bde hr
    refine nk_callV (ci := 7) (n := 2) (x := 348) (len := 3) (j' := 406) (q' := 1) (r := r2) (S' := S3) (L2 := [(0, nk_r (ja_c l0 2)), (1, nk_i l1), (2, nk_l 18014398509481983)]) (rest := []) (st' := [nk_i r2]) (pc' := 46) mJ_316 (by decide +kernel) (by decide +kernel) rfl rfl t1 (Nat.le_of_ble_eq_true rfl) mJ_406 (Nat.le_of_ble_eq_true rfl) rfl (ja_X7_keepSites_ok zs _ _ _ _ _ t1 h4) rfl ?_
    refine nk_icond (c := .eq) (off := 7) (len := 3) (t := 53) (pc' := 49) mJ_316 (by decide +kernel) (by decide +kernel) rfl (fun hc => ?_) (fun hc => ?_)
    · have hr := nk_ifp (c := r2 = 0) hc hr
      refine nk_p (i := .iconst 0) (len := 1) (pc' := 54) mJ_316 (by decide +kernel) (ns_iconst (c := 0) (by decide +kernel)) rfl ?_
      cases hr
      exact nk_iret (ty := .boolean) (len := 1) mJ_316 (by decide +kernel) rfl (nk_nar_z (by decide))
    · have hr := nk_ifn (c := r2 = 0) hc hr
      refine nk_p (i := .iconst 1) (len := 1) (pc' := 50) mJ_316 (by decide +kernel) (ns_iconst (c := 1) (by decide +kernel)) rfl ?_
      refine nk_p (i := .goto 4) (len := 3) (pc' := 54) mJ_316 (by decide +kernel) (ns_goto (by decide +kernel)) rfl ?_
      cases hr
      exact nk_iret (ty := .boolean) (len := 1) mJ_316 (by decide +kernel) rfl (nk_nar_z (by decide))
noncomputable def ja_X4_dereference (l0 : Nat) (l1 : Int) (S : nk_S) : Option (Int × nk_S) :=
  if 0 ≤ l1 ∧ l1 < 20 then
  nk_lt (S.1 (ja_c (ja_c l0 2) 4) l1.toNat) fun v4 =>
  if (nk_land v4 4611686018427387904) = 0 then
    ja_X4_dereference_b25 l0 l1 v4 S
  else
    nk_bd (ja_X4_raise l0 0 S) fun r6 S7 =>
    ja_X4_dereference_b25 l0 l1 v4 S7
  else none
theorem ja_X4_dereference_ok (zs : List Int32) : ∀ (l0 : Nat) (l1 : Int) (S : nk_S) (R : Int × nk_S), nk_cl ja_Tt l0 = some 4 → ja_X4_dereference l0 l1 S = some R → nk_K ja_Tt mi_Γ (mi_ev zs) 1 316 0 [(0, nk_r l0), (1, nk_i l1)] [] S R := by
  intro l0 l1 S R t_l0 hr
  unfold ja_X4_dereference at hr
  refine nk_p (i := .aload_n 0) (len := 1) (pc' := 1) mJ_316 (by decide +kernel) (ns_aload_n 0 rfl rfl) rfl ?_
  refine nk_getC (f := (2, 7, 0)) (x := 12) (len := 3) (ci := 4) (k := 2) (pc' := 4) ja_okT mJ_316 (by decide +kernel) (by decide +kernel) (by decide +kernel) (by decide) t_l0 rfl ?_
  have t1 : nk_cl ja_Tt (ja_c l0 2) = some 7 := nk_tc (y := 0) ja_okT t_l0 (by decide +kernel)
  refine nk_getC (f := (4, 2, 20)) (x := 299) (len := 3) (ci := 7) (k := 4) (pc' := 7) ja_okT mJ_316 (by decide +kernel) (by decide +kernel) (by decide +kernel) (by decide) t1 rfl ?_
  have t2 : nk_ar ja_Tt (ja_c (ja_c l0 2) 4) = some (2, 20) := nk_ta ja_okT t1 (by decide +kernel)
  refine nk_p (i := .iload_n 1) (len := 1) (pc' := 8) mJ_316 (by decide +kernel) (ns_iload_n 1 rfl rfl) rfl ?_
  obtain ⟨h3, hr⟩ := nk_cke hr
  refine nk_lald (len := 1) (N := 20) (pc' := 9) mJ_316 (by decide +kernel) t2 h3.1 h3.2 rfl rfl ?_
  obtain ⟨v4, h5, hr⟩ := nk_lte hr
  refine nk_p (i := .lstore_n 2) (len := 1) (pc' := 10) mJ_316 (by decide +kernel) (ns_lstore_n (L' := [(2, nk_l v4), (0, nk_r l0), (1, nk_i l1)]) h5 rfl rfl (by decide +kernel)) rfl ?_
  refine nk_p (i := .lload_n 2) (len := 1) (pc' := 11) mJ_316 (by decide +kernel) (ns_lload_n 0 rfl rfl) rfl ?_
  refine nk_ldc2 (x := 297) (len := 3) (X := 4611686018427387904) (v := 4611686018427387904) (pc' := 14) mJ_316 (by decide +kernel) (by decide +kernel) (by decide +kernel) rfl ?_
  refine nk_p (i := .land) (len := 1) (pc' := 15) mJ_316 (by decide +kernel) ns_land rfl ?_
  refine nk_p (i := .lconst 0) (len := 1) (pc' := 16) mJ_316 (by decide +kernel) (ns_lconst (c := 0) (by decide +kernel)) rfl ?_
  refine nk_p (i := .lcmp) (len := 1) (pc' := 17) mJ_316 (by decide +kernel) ns_lcmp rfl ?_
  refine nk_lcond (c := .eq) (off := 8) (len := 3) (t := 25) (pc' := 20) mJ_316 (by decide +kernel) (by decide +kernel) rfl (fun hc => ?_) (fun hc => ?_)
  · have hr := nk_ifp (c := (nk_land v4 4611686018427387904) = 0) hc hr
    refine nk_sub [1, 2, 0] (L' := [(0, nk_r l0), (1, nk_i l1), (2, nk_l v4)]) rfl ?_
    exact ja_X4_dereference_b25_ok zs _ _ _ _ _ t_l0 hr
  · have hr := nk_ifn (c := (nk_land v4 4611686018427387904) = 0) hc hr
    refine nk_p (i := .aload_n 0) (len := 1) (pc' := 21) mJ_316 (by decide +kernel) (ns_aload_n 1 rfl rfl) rfl ?_
    refine nk_p (i := .iconst 0) (len := 1) (pc' := 22) mJ_316 (by decide +kernel) (ns_iconst (c := 0) (by decide +kernel)) rfl ?_
    obtain ⟨r6, S7, h8, hr⟩ := nk_bde hr
    refine nk_callV (ci := 4) (n := 1) (x := 335) (len := 3) (j' := 338) (q' := 0) (r := r6) (S' := S7) (L2 := [(0, nk_r l0), (1, nk_i 0)]) (rest := []) (st' := []) (pc' := 25) mJ_316 (by decide +kernel) (by decide +kernel) rfl rfl t_l0 (Nat.le_of_ble_eq_true rfl) mJ_338 (Nat.le_of_ble_eq_true rfl) rfl (ja_X4_raise_ok zs _ _ _ _ t_l0 h8) rfl ?_
    refine nk_sub [1, 2, 0] (L' := [(0, nk_r l0), (1, nk_i l1), (2, nk_l v4)]) rfl ?_
    exact ja_X4_dereference_b25_ok zs _ _ _ _ _ t_l0 hr
/-! SafeCode$States push (JJ)V -/
noncomputable def ja_X7_push (l0 : Nat) (l1 : Int) (l3 : Int) (S : nk_S) : Option (Int × nk_S) :=
  if 8 ≤ (S.1 l0 7) then
    some (0, S)
  else
    if 0 ≤ (nk_w (12 + (S.1 l0 7))) ∧ (nk_w (12 + (S.1 l0 7))) < 20 then
    nk_lt (nk_wi S (ja_c l0 4) (nk_w (12 + (S.1 l0 7))).toNat l1) fun S3 =>
    if 0 ≤ (nk_w (12 + (S3.1 l0 7))) ∧ (nk_w (12 + (S3.1 l0 7))) < 20 then
    nk_lt (nk_wi S3 (ja_c l0 5) (nk_w (12 + (S3.1 l0 7))).toNat l3) fun S7 =>
    nk_lt (nk_wi S7 l0 7 (nk_w ((S7.1 l0 7) + 1))) fun S9 =>
    some (0, S9)
    else none
    else none
theorem ja_X7_push_ok (zs : List Int32) : ∀ (l0 : Nat) (l1 : Int) (l3 : Int) (S : nk_S) (R : Int × nk_S), nk_cl ja_Tt l0 = some 7 → ja_X7_push l0 l1 l3 S = some R → nk_K ja_Tt mi_Γ (mi_ev zs) 0 408 0 [(0, nk_r l0), (1, nk_l l1), (3, nk_l l3)] [] S R := by
  intro l0 l1 l3 S R t_l0 hr
  unfold ja_X7_push at hr
  refine nk_p (i := .aload_n 0) (len := 1) (pc' := 1) mJ_408 (by decide +kernel) (ns_aload_n 0 rfl rfl) rfl ?_
  refine nk_getI (y := (0, 0)) (x := 55) (len := 3) (ci := 7) (k := 7) (pc' := 4) ja_okT mJ_408 (by decide +kernel) (by decide +kernel) (by decide +kernel) t_l0 rfl ?_
  refine nk_p (i := .bipush 8) (len := 2) (pc' := 6) mJ_408 (by decide +kernel) (ns_bipush (c := 8) (by decide +kernel)) rfl ?_
  refine nk_icmp (c := .ge) (off := 39) (len := 3) (t := 45) (pc' := 9) mJ_408 (by decide +kernel) (by decide +kernel) rfl (fun hc => ?_) (fun hc => ?_)
  · have hr := nk_ifp (c := 8 ≤ (S.1 l0 7)) hc hr
    cases hr
    exact nk_vret (len := 1) mJ_408 (by decide +kernel) rfl
  · have hr := nk_ifn (c := 8 ≤ (S.1 l0 7)) hc hr
    refine nk_p (i := .aload_n 0) (len := 1) (pc' := 10) mJ_408 (by decide +kernel) (ns_aload_n 0 rfl rfl) rfl ?_
    refine nk_getC (f := (4, 2, 20)) (x := 25) (len := 3) (ci := 7) (k := 4) (pc' := 13) ja_okT mJ_408 (by decide +kernel) (by decide +kernel) (by decide +kernel) (by decide) t_l0 rfl ?_
    have t1 : nk_ar ja_Tt (ja_c l0 4) = some (2, 20) := nk_ta ja_okT t_l0 (by decide +kernel)
    refine nk_p (i := .bipush 12) (len := 2) (pc' := 15) mJ_408 (by decide +kernel) (ns_bipush (c := 12) (by decide +kernel)) rfl ?_
    refine nk_p (i := .aload_n 0) (len := 1) (pc' := 16) mJ_408 (by decide +kernel) (ns_aload_n 0 rfl rfl) rfl ?_
    refine nk_getI (y := (0, 0)) (x := 55) (len := 3) (ci := 7) (k := 7) (pc' := 19) ja_okT mJ_408 (by decide +kernel) (by decide +kernel) (by decide +kernel) t_l0 rfl ?_
    refine nk_p (i := .iadd) (len := 1) (pc' := 20) mJ_408 (by decide +kernel) ns_iadd rfl ?_
    refine nk_p (i := .lload_n 1) (len := 1) (pc' := 21) mJ_408 (by decide +kernel) (ns_lload_n 1 rfl rfl) rfl ?_
    obtain ⟨h2, hr⟩ := nk_cke hr
    obtain ⟨S3, h4, hr⟩ := nk_lte hr
    refine nk_last (len := 1) (N := 20) (pc' := 22) mJ_408 (by decide +kernel) t1 h2.1 h2.2 rfl rfl h4 ?_
    refine nk_p (i := .aload_n 0) (len := 1) (pc' := 23) mJ_408 (by decide +kernel) (ns_aload_n 0 rfl rfl) rfl ?_
    refine nk_getC (f := (4, 2, 20)) (x := 28) (len := 3) (ci := 7) (k := 5) (pc' := 26) ja_okT mJ_408 (by decide +kernel) (by decide +kernel) (by decide +kernel) (by decide) t_l0 rfl ?_
    have t5 : nk_ar ja_Tt (ja_c l0 5) = some (2, 20) := nk_ta ja_okT t_l0 (by decide +kernel)
    refine nk_p (i := .bipush 12) (len := 2) (pc' := 28) mJ_408 (by decide +kernel) (ns_bipush (c := 12) (by decide +kernel)) rfl ?_
    refine nk_p (i := .aload_n 0) (len := 1) (pc' := 29) mJ_408 (by decide +kernel) (ns_aload_n 0 rfl rfl) rfl ?_
    refine nk_getI (y := (0, 0)) (x := 55) (len := 3) (ci := 7) (k := 7) (pc' := 32) ja_okT mJ_408 (by decide +kernel) (by decide +kernel) (by decide +kernel) t_l0 rfl ?_
    refine nk_p (i := .iadd) (len := 1) (pc' := 33) mJ_408 (by decide +kernel) ns_iadd rfl ?_
    refine nk_p (i := .lload_n 3) (len := 1) (pc' := 34) mJ_408 (by decide +kernel) (ns_lload_n 2 rfl rfl) rfl ?_
    obtain ⟨h6, hr⟩ := nk_cke hr
    obtain ⟨S7, h8, hr⟩ := nk_lte hr
    refine nk_last (len := 1) (N := 20) (pc' := 35) mJ_408 (by decide +kernel) t5 h6.1 h6.2 rfl rfl h8 ?_
    refine nk_p (i := .aload_n 0) (len := 1) (pc' := 36) mJ_408 (by decide +kernel) (ns_aload_n 0 rfl rfl) rfl ?_
    refine nk_p (i := .dup) (len := 1) (pc' := 37) mJ_408 (by decide +kernel) (ns_dup rfl) rfl ?_
    refine nk_getI (y := (0, 0)) (x := 55) (len := 3) (ci := 7) (k := 7) (pc' := 40) ja_okT mJ_408 (by decide +kernel) (by decide +kernel) (by decide +kernel) t_l0 rfl ?_
    refine nk_p (i := .iconst 1) (len := 1) (pc' := 41) mJ_408 (by decide +kernel) (ns_iconst (c := 1) (by decide +kernel)) rfl ?_
    refine nk_p (i := .iadd) (len := 1) (pc' := 42) mJ_408 (by decide +kernel) ns_iadd rfl ?_
    obtain ⟨S9, h10, hr⟩ := nk_lte hr
    refine nk_putI (y := (0, 0)) (ty := .int) (x := 55) (len := 3) (ci := 7) (k := 7) (pc' := 45) ja_okT mJ_408 (by decide +kernel) (by decide +kernel) (by decide +kernel) t_l0 (Or.inl rfl) rfl h10 ?_
    cases hr
    exact nk_vret (len := 1) mJ_408 (by decide +kernel) rfl
/-! SafeCode$Proof calls (II)Z -/
noncomputable def ja_X4_calls_b245 (l0 : Nat) (s0 : Nat) (s1 : Int) (s2 : Int) (S : nk_S) : Option (Int × nk_S) :=
  nk_bd (ja_X7_push s0 s1 s2 S) fun r1 S2 =>
  if (S2.1 l0 13) = 0 ∨ (S2.1 l0 13) = 1 then
  some ((S2.1 l0 13), S2)
  else none
theorem ja_X4_calls_b245_ok (zs : List Int32) : ∀ (l0 : Nat) (s0 : Nat) (s1 : Int) (s2 : Int) (S : nk_S) (R : Int × nk_S), nk_cl ja_Tt l0 = some 4 → nk_cl ja_Tt s0 = some 7 → ja_X4_calls_b245 l0 s0 s1 s2 S = some R → nk_K ja_Tt mi_Γ (mi_ev zs) 1 313 245 [(0, nk_r l0)] [nk_l s2, nk_l s1, nk_r s0] S R := by
  intro l0 s0 s1 s2 S R t_l0 t_s0 hr
  unfold ja_X4_calls_b245 at hr
  obtain ⟨r1, S2, h3, hr⟩ := nk_bde hr
  refine nk_callV (ci := 7) (n := 2) (x := 258) (len := 3) (j' := 408) (q' := 0) (r := r1) (S' := S2) (L2 := [(0, nk_r s0), (1, nk_l s1), (3, nk_l s2)]) (rest := []) (st' := []) (pc' := 248) mJ_313 (by decide +kernel) (by decide +kernel) rfl rfl t_s0 (Nat.le_of_ble_eq_true rfl) mJ_408 (Nat.le_of_ble_eq_true rfl) rfl (ja_X7_push_ok zs _ _ _ _ _ t_s0 h3) rfl ?_
  refine nk_p (i := .aload_n 0) (len := 1) (pc' := 249) mJ_313 (by decide +kernel) (ns_aload_n 0 rfl rfl) rfl ?_
  refine nk_getI (y := (0, 0)) (x := 482) (len := 3) (ci := 4) (k := 13) (pc' := 252) ja_okT mJ_313 (by decide +kernel) (by decide +kernel) (by decide +kernel) t_l0 rfl ?_
  obtain ⟨h4, hr⟩ := nk_cke hr
  cases hr
  exact nk_iret (ty := .boolean) (len := 1) mJ_313 (by decide +kernel) rfl (nk_nar_z h4)
noncomputable def ja_X4_calls_b207 (l0 : Nat) (l4 : Int) (l6 : Int) (S : nk_S) : Option (Int × nk_S) :=
  nk_bd (ja_X7_drop (ja_c l0 2) l4 S) fun r2 S3 =>
  if l6 = (-1) then
    if (S3.1 l0 13) = 0 ∨ (S3.1 l0 13) = 1 then
    some ((S3.1 l0 13), S3)
    else none
  else
    if l6 = 1 then
      ja_X4_calls_b245 l0 (ja_c l0 2) (S3.1 l0 12) 4503599627370496 S3
    else
      ja_X4_calls_b245 l0 (ja_c l0 2) (S3.1 l0 12) 9007199254740992 S3
theorem ja_X4_calls_b207_ok (zs : List Int32) : ∀ (l0 : Nat) (l4 : Int) (l6 : Int) (S : nk_S) (R : Int × nk_S), nk_cl ja_Tt l0 = some 4 → ja_X4_calls_b207 l0 l4 l6 S = some R → nk_K ja_Tt mi_Γ (mi_ev zs) 1 313 207 [(0, nk_r l0), (4, nk_i l4), (6, nk_i l6)] [] S R := by
  intro l0 l4 l6 S R t_l0 hr
  unfold ja_X4_calls_b207 at hr
  refine nk_p (i := .aload_n 0) (len := 1) (pc' := 208) mJ_313 (by decide +kernel) (ns_aload_n 0 rfl rfl) rfl ?_
  refine nk_getC (f := (2, 7, 0)) (x := 12) (len := 3) (ci := 4) (k := 2) (pc' := 211) ja_okT mJ_313 (by decide +kernel) (by decide +kernel) (by decide +kernel) (by decide) t_l0 rfl ?_
  have t1 : nk_cl ja_Tt (ja_c l0 2) = some 7 := nk_tc (y := 0) ja_okT t_l0 (by decide +kernel)
  refine nk_p (i := .iload 4) (len := 2) (pc' := 213) mJ_313 (by decide +kernel) (ns_iload 1 rfl) rfl ?_
  obtain ⟨r2, S3, h4, hr⟩ := nk_bde hr
  refine nk_callV (ci := 7) (n := 1) (x := 321) (len := 3) (j' := 401) (q' := 0) (r := r2) (S' := S3) (L2 := [(0, nk_r (ja_c l0 2)), (1, nk_i l4)]) (rest := []) (st' := []) (pc' := 216) mJ_313 (by decide +kernel) (by decide +kernel) rfl rfl t1 (Nat.le_of_ble_eq_true rfl) mJ_401 (Nat.le_of_ble_eq_true rfl) rfl (ja_X7_drop_ok zs _ _ _ _ t1 h4) rfl ?_
  refine nk_p (i := .iload 6) (len := 2) (pc' := 218) mJ_313 (by decide +kernel) (ns_iload 2 rfl) rfl ?_
  refine nk_p (i := .iconst (-1)) (len := 1) (pc' := 219) mJ_313 (by decide +kernel) (ns_iconst (c := (-1)) (by decide +kernel)) rfl ?_
  refine nk_icmp (c := .eq) (off := 29) (len := 3) (t := 248) (pc' := 222) mJ_313 (by decide +kernel) (by decide +kernel) rfl (fun hc => ?_) (fun hc => ?_)
  · have hr := nk_ifp (c := l6 = (-1)) hc hr
    refine nk_p (i := .aload_n 0) (len := 1) (pc' := 249) mJ_313 (by decide +kernel) (ns_aload_n 0 rfl rfl) rfl ?_
    refine nk_getI (y := (0, 0)) (x := 482) (len := 3) (ci := 4) (k := 13) (pc' := 252) ja_okT mJ_313 (by decide +kernel) (by decide +kernel) (by decide +kernel) t_l0 rfl ?_
    obtain ⟨h5, hr⟩ := nk_cke hr
    cases hr
    exact nk_iret (ty := .boolean) (len := 1) mJ_313 (by decide +kernel) rfl (nk_nar_z h5)
  · have hr := nk_ifn (c := l6 = (-1)) hc hr
    refine nk_p (i := .aload_n 0) (len := 1) (pc' := 223) mJ_313 (by decide +kernel) (ns_aload_n 0 rfl rfl) rfl ?_
    refine nk_getC (f := (2, 7, 0)) (x := 12) (len := 3) (ci := 4) (k := 2) (pc' := 226) ja_okT mJ_313 (by decide +kernel) (by decide +kernel) (by decide +kernel) (by decide) t_l0 rfl ?_
    refine nk_p (i := .aload_n 0) (len := 1) (pc' := 227) mJ_313 (by decide +kernel) (ns_aload_n 0 rfl rfl) rfl ?_
    refine nk_getL (y := (0, 0)) (x := 480) (len := 3) (ci := 4) (k := 12) (pc' := 230) ja_okT mJ_313 (by decide +kernel) (by decide +kernel) (by decide +kernel) t_l0 rfl ?_
    refine nk_p (i := .iload 6) (len := 2) (pc' := 232) mJ_313 (by decide +kernel) (ns_iload 2 rfl) rfl ?_
    refine nk_p (i := .iconst 1) (len := 1) (pc' := 233) mJ_313 (by decide +kernel) (ns_iconst (c := 1) (by decide +kernel)) rfl ?_
    refine nk_icmp (c := .ne) (off := 9) (len := 3) (t := 242) (pc' := 236) mJ_313 (by decide +kernel) (by decide +kernel) rfl (fun hc => ?_) (fun hc => ?_)
    · have hr := nk_ifn (c := l6 = 1) hc hr
      refine nk_ldc2 (x := 279) (len := 3) (X := 9007199254740992) (v := 9007199254740992) (pc' := 245) mJ_313 (by decide +kernel) (by decide +kernel) (by decide +kernel) rfl ?_
      refine nk_sub [0] (L' := [(0, nk_r l0)]) rfl ?_
      exact ja_X4_calls_b245_ok zs _ _ _ _ _ _ t_l0 t1 hr
    · have hr := nk_ifp (c := l6 = 1) (Decidable.of_not_not hc) hr
      refine nk_ldc2 (x := 256) (len := 3) (X := 4503599627370496) (v := 4503599627370496) (pc' := 239) mJ_313 (by decide +kernel) (by decide +kernel) (by decide +kernel) rfl ?_
      refine nk_p (i := .goto 6) (len := 3) (pc' := 245) mJ_313 (by decide +kernel) (ns_goto (by decide +kernel)) rfl ?_
      refine nk_sub [0] (L' := [(0, nk_r l0)]) rfl ?_
      exact ja_X4_calls_b245_ok zs _ _ _ _ _ _ t_l0 t1 hr
noncomputable def ja_X4_calls_b198 (rec128 : Nat → Int → Int → Int → Int → Int → Int → nk_S → Option (Int × nk_S)) (l0 : Nat) (l3 : Int) (l4 : Int) (l5 : Int) (l6 : Int) (l7 : Int) (l9 : Int) (s0 : Nat) (s1 : Int) (s2 : Int) (s3 : Int) (s4 : Int) (S : nk_S) : Option (Int × nk_S) :=
  nk_bd (ja_X4_enterBody s0 s1 s2 s3 s4 S) fun r1 S2 =>
  nk_lt (nk_w (l9 + 1)) fun v4 =>
  rec128 l0 l3 l4 l5 l6 l7 v4 S2
theorem ja_X4_calls_b198_ok (zs : List Int32) {rec128 : Nat → Int → Int → Int → Int → Int → Int → nk_S → Option (Int × nk_S)} (hrec128 : ∀ (l0 : Nat) (l3 : Int) (l4 : Int) (l5 : Int) (l6 : Int) (l7 : Int) (l9 : Int) (S : nk_S) (R : Int × nk_S), nk_cl ja_Tt l0 = some 4 → rec128 l0 l3 l4 l5 l6 l7 l9 S = some R → nk_K ja_Tt mi_Γ (mi_ev zs) 1 313 128 [(0, nk_r l0), (3, nk_i l3), (4, nk_i l4), (5, nk_i l5), (6, nk_i l6), (7, nk_l l7), (9, nk_i l9)] [] S R) : ∀ (l0 : Nat) (l3 : Int) (l4 : Int) (l5 : Int) (l6 : Int) (l7 : Int) (l9 : Int) (s0 : Nat) (s1 : Int) (s2 : Int) (s3 : Int) (s4 : Int) (S : nk_S) (R : Int × nk_S), nk_cl ja_Tt l0 = some 4 → nk_cl ja_Tt s0 = some 4 → ja_X4_calls_b198 rec128 l0 l3 l4 l5 l6 l7 l9 s0 s1 s2 s3 s4 S = some R → nk_K ja_Tt mi_Γ (mi_ev zs) 1 313 198 [(0, nk_r l0), (3, nk_i l3), (4, nk_i l4), (5, nk_i l5), (6, nk_i l6), (7, nk_l l7), (9, nk_i l9)] [nk_i s4, nk_l s3, nk_i s2, nk_i s1, nk_r s0] S R := by
  intro l0 l3 l4 l5 l6 l7 l9 s0 s1 s2 s3 s4 S R t_l0 t_s0 hr
  unfold ja_X4_calls_b198 at hr
  obtain ⟨r1, S2, h3, hr⟩ := nk_bde hr
  refine nk_callV (ci := 4) (n := 4) (x := 485) (len := 3) (j' := 318) (q' := 0) (r := r1) (S' := S2) (L2 := [(0, nk_r s0), (1, nk_i s1), (2, nk_i s2), (3, nk_l s3), (5, nk_i s4)]) (rest := []) (st' := []) (pc' := 201) mJ_313 (by decide +kernel) (by decide +kernel) rfl rfl t_s0 (Nat.le_of_ble_eq_true rfl) mJ_318 (Nat.le_of_ble_eq_true rfl) rfl (ja_X4_enterBody_ok zs _ _ _ _ _ _ _ t_s0 h3) rfl ?_
  obtain ⟨v4, h5, hr⟩ := nk_lte hr
  refine nk_p (i := .iinc 9 1) (len := 3) (pc' := 204) mJ_313 (by decide +kernel) (ns_iinc (c := 1) (L' := [(9, nk_i v4), (0, nk_r l0), (3, nk_i l3), (4, nk_i l4), (5, nk_i l5), (6, nk_i l6), (7, nk_l l7)]) 6 rfl (by decide +kernel) h5 rfl (by decide +kernel)) rfl ?_
  refine nk_p (i := .goto (-76)) (len := 3) (pc' := 128) mJ_313 (by decide +kernel) (ns_goto (by decide +kernel)) rfl ?_
  refine nk_sub [1, 2, 3, 4, 5, 6, 0] (L' := [(0, nk_r l0), (3, nk_i l3), (4, nk_i l4), (5, nk_i l5), (6, nk_i l6), (7, nk_l l7), (9, nk_i v4)]) rfl ?_
  exact hrec128 _ _ _ _ _ _ _ _ _ t_l0 hr
noncomputable def ja_X4_calls_b128 (rec128 : Nat → Int → Int → Int → Int → Int → Int → nk_S → Option (Int × nk_S)) (l0 : Nat) (l3 : Int) (l4 : Int) (l5 : Int) (l6 : Int) (l7 : Int) (l9 : Int) (S : nk_S) : Option (Int × nk_S) :=
  if (S.1 (S.2 l0 0) 10) ≤ l9 then
    ja_X4_calls_b207 l0 l4 l6 S
  else
    if (nk_land (nk_lushr l7 l9) 1) = 0 then
      nk_lt (nk_w (l9 + 1)) fun v2 =>
      rec128 l0 l3 l4 l5 l6 l7 v2 S
    else
      if 0 ≤ l9 ∧ l9 < 54 then
      nk_bd (ja_X1_classOf (S.1 (ja_c (S.2 l0 0) 11) l9.toNat) S) fun r9 S10 =>
      nk_bd (ja_X0_running (ja_c (S.2 l0 0) 1) r9 l3 S10) fun r12 S13 =>
      if l6 = 1 then
        ja_X4_calls_b198 rec128 l0 l3 l4 l5 l6 l7 l9 l0 r12 l5 (nk_lshl 1 l9) 1 S13
      else
        ja_X4_calls_b198 rec128 l0 l3 l4 l5 l6 l7 l9 l0 r12 l5 (nk_lshl 1 l9) 0 S13
      else none
theorem ja_X4_calls_b128_ok (zs : List Int32) {rec128 : Nat → Int → Int → Int → Int → Int → Int → nk_S → Option (Int × nk_S)} (hrec128 : ∀ (l0 : Nat) (l3 : Int) (l4 : Int) (l5 : Int) (l6 : Int) (l7 : Int) (l9 : Int) (S : nk_S) (R : Int × nk_S), nk_cl ja_Tt l0 = some 4 → rec128 l0 l3 l4 l5 l6 l7 l9 S = some R → nk_K ja_Tt mi_Γ (mi_ev zs) 1 313 128 [(0, nk_r l0), (3, nk_i l3), (4, nk_i l4), (5, nk_i l5), (6, nk_i l6), (7, nk_l l7), (9, nk_i l9)] [] S R) : ∀ (l0 : Nat) (l3 : Int) (l4 : Int) (l5 : Int) (l6 : Int) (l7 : Int) (l9 : Int) (S : nk_S) (R : Int × nk_S), nk_cl ja_Tt l0 = some 4 → ja_X4_calls_b128 rec128 l0 l3 l4 l5 l6 l7 l9 S = some R → nk_K ja_Tt mi_Γ (mi_ev zs) 1 313 128 [(0, nk_r l0), (3, nk_i l3), (4, nk_i l4), (5, nk_i l5), (6, nk_i l6), (7, nk_l l7), (9, nk_i l9)] [] S R := by
  intro l0 l3 l4 l5 l6 l7 l9 S R t_l0 hr
  unfold ja_X4_calls_b128 at hr
  refine nk_p (i := .iload 9) (len := 2) (pc' := 130) mJ_313 (by decide +kernel) (ns_iload 6 rfl) rfl ?_
  refine nk_p (i := .aload_n 0) (len := 1) (pc' := 131) mJ_313 (by decide +kernel) (ns_aload_n 0 rfl rfl) rfl ?_
  refine nk_getM (cj := 3) (z := 0) (x := 42) (len := 3) (ci := 4) (k := 0) (pc' := 134) ja_okT mJ_313 (by decide +kernel) (by decide +kernel) (by decide +kernel) t_l0 rfl (fun t1 => ?_)
  refine nk_getI (y := (0, 0)) (x := 129) (len := 3) (ci := 3) (k := 10) (pc' := 137) ja_okT mJ_313 (by decide +kernel) (by decide +kernel) (by decide +kernel) t1 rfl ?_
  refine nk_icmp (c := .ge) (off := 70) (len := 3) (t := 207) (pc' := 140) mJ_313 (by decide +kernel) (by decide +kernel) rfl (fun hc => ?_) (fun hc => ?_)
  · have hr := nk_ifp (c := (S.1 (S.2 l0 0) 10) ≤ l9) hc hr
    refine nk_sub [0, 2, 4] (L' := [(0, nk_r l0), (4, nk_i l4), (6, nk_i l6)]) rfl ?_
    exact ja_X4_calls_b207_ok zs _ _ _ _ _ t_l0 hr
  · have hr := nk_ifn (c := (S.1 (S.2 l0 0) 10) ≤ l9) hc hr
    refine nk_p (i := .lload 7) (len := 2) (pc' := 142) mJ_313 (by decide +kernel) (ns_lload 5 rfl) rfl ?_
    refine nk_p (i := .iload 9) (len := 2) (pc' := 144) mJ_313 (by decide +kernel) (ns_iload 6 rfl) rfl ?_
    refine nk_p (i := .lushr) (len := 1) (pc' := 145) mJ_313 (by decide +kernel) ns_lushr rfl ?_
    refine nk_p (i := .lconst 1) (len := 1) (pc' := 146) mJ_313 (by decide +kernel) (ns_lconst (c := 1) (by decide +kernel)) rfl ?_
    refine nk_p (i := .land) (len := 1) (pc' := 147) mJ_313 (by decide +kernel) ns_land rfl ?_
    refine nk_p (i := .lconst 0) (len := 1) (pc' := 148) mJ_313 (by decide +kernel) (ns_lconst (c := 0) (by decide +kernel)) rfl ?_
    refine nk_p (i := .lcmp) (len := 1) (pc' := 149) mJ_313 (by decide +kernel) ns_lcmp rfl ?_
    refine nk_lcond (c := .eq) (off := 52) (len := 3) (t := 201) (pc' := 152) mJ_313 (by decide +kernel) (by decide +kernel) rfl (fun hc => ?_) (fun hc => ?_)
    · have hr := nk_ifp (c := (nk_land (nk_lushr l7 l9) 1) = 0) hc hr
      obtain ⟨v2, h3, hr⟩ := nk_lte hr
      refine nk_p (i := .iinc 9 1) (len := 3) (pc' := 204) mJ_313 (by decide +kernel) (ns_iinc (c := 1) (L' := [(9, nk_i v2), (0, nk_r l0), (3, nk_i l3), (4, nk_i l4), (5, nk_i l5), (6, nk_i l6), (7, nk_l l7)]) 6 rfl (by decide +kernel) h3 rfl (by decide +kernel)) rfl ?_
      refine nk_p (i := .goto (-76)) (len := 3) (pc' := 128) mJ_313 (by decide +kernel) (ns_goto (by decide +kernel)) rfl ?_
      refine nk_sub [1, 2, 3, 4, 5, 6, 0] (L' := [(0, nk_r l0), (3, nk_i l3), (4, nk_i l4), (5, nk_i l5), (6, nk_i l6), (7, nk_l l7), (9, nk_i v2)]) rfl ?_
      exact hrec128 _ _ _ _ _ _ _ _ _ t_l0 hr
    · have hr := nk_ifn (c := (nk_land (nk_lushr l7 l9) 1) = 0) hc hr
      refine nk_p (i := .aload_n 0) (len := 1) (pc' := 153) mJ_313 (by decide +kernel) (ns_aload_n 0 rfl rfl) rfl ?_
      refine nk_getM (cj := 3) (z := 0) (x := 42) (len := 3) (ci := 4) (k := 0) (pc' := 156) ja_okT mJ_313 (by decide +kernel) (by decide +kernel) (by decide +kernel) t_l0 rfl (fun t4 => ?_)
      refine nk_getC (f := (2, 0, 0)) (x := 71) (len := 3) (ci := 3) (k := 1) (pc' := 159) ja_okT mJ_313 (by decide +kernel) (by decide +kernel) (by decide +kernel) (by decide) t4 rfl ?_
      have t5 : nk_cl ja_Tt (ja_c (S.2 l0 0) 1) = some 0 := nk_tc (y := 0) ja_okT t4 (by decide +kernel)
      refine nk_p (i := .aload_n 0) (len := 1) (pc' := 160) mJ_313 (by decide +kernel) (ns_aload_n 0 rfl rfl) rfl ?_
      refine nk_getM (cj := 3) (z := 0) (x := 42) (len := 3) (ci := 4) (k := 0) (pc' := 163) ja_okT mJ_313 (by decide +kernel) (by decide +kernel) (by decide +kernel) t_l0 rfl (fun t6 => ?_)
      refine nk_getC (f := (4, 1, 54)) (x := 132) (len := 3) (ci := 3) (k := 11) (pc' := 166) ja_okT mJ_313 (by decide +kernel) (by decide +kernel) (by decide +kernel) (by decide) t6 rfl ?_
      have t7 : nk_ar ja_Tt (ja_c (S.2 l0 0) 11) = some (1, 54) := nk_ta ja_okT t6 (by decide +kernel)
      refine nk_p (i := .iload 9) (len := 2) (pc' := 168) mJ_313 (by decide +kernel) (ns_iload 6 rfl) rfl ?_
      obtain ⟨h8, hr⟩ := nk_cke hr
      refine nk_iald (len := 1) (N := 54) (pc' := 169) mJ_313 (by decide +kernel) t7 h8.1 h8.2 rfl rfl ?_
      obtain ⟨r9, S10, h11, hr⟩ := nk_bde hr
      refine nk_callS (ci := 0) (n := 1) (x := 488) (len := 3) (j' := 249) (q' := 1) (r := r9) (S' := S10) (L2 := [(0, nk_i (S.1 (ja_c (S.2 l0 0) 11) l9.toNat))]) (rest := [nk_r (ja_c (S.2 l0 0) 1)]) (st' := [nk_i r9, nk_r (ja_c (S.2 l0 0) 1)]) (pc' := 172) mJ_313 (by decide +kernel) (by decide +kernel) (Nat.le_of_ble_eq_true rfl) rfl rfl (Nat.le_of_ble_eq_true rfl) mJ_249 (Nat.le_of_ble_eq_true rfl) ja_Tpos rfl (ja_X1_classOf_ok zs _ _ _ h11) rfl ?_
      refine nk_p (i := .iload_n 3) (len := 1) (pc' := 173) mJ_313 (by decide +kernel) (ns_iload_n 1 rfl rfl) rfl ?_
      obtain ⟨r12, S13, h14, hr⟩ := nk_bde hr
      refine nk_callV (ci := 0) (n := 2) (x := 143) (len := 3) (j' := 30) (q' := 1) (r := r12) (S' := S13) (L2 := [(0, nk_r (ja_c (S.2 l0 0) 1)), (1, nk_i r9), (2, nk_i l3)]) (rest := []) (st' := [nk_i r12]) (pc' := 176) mJ_313 (by decide +kernel) (by decide +kernel) rfl rfl t5 (Nat.le_of_ble_eq_true rfl) mJ_30 (Nat.le_of_ble_eq_true rfl) rfl (ja_X0_running_ok zs _ _ _ _ _ t5 h14) rfl ?_
      refine nk_p (i := .istore 10) (len := 2) (pc' := 178) mJ_313 (by decide +kernel) (ns_istore (L' := [(10, nk_i r12), (0, nk_r l0), (3, nk_i l3), (4, nk_i l4), (5, nk_i l5), (6, nk_i l6), (7, nk_l l7), (9, nk_i l9)]) rfl rfl (by decide +kernel)) rfl ?_
      refine nk_p (i := .aload_n 0) (len := 1) (pc' := 179) mJ_313 (by decide +kernel) (ns_aload_n 1 rfl rfl) rfl ?_
      refine nk_p (i := .iload 10) (len := 2) (pc' := 181) mJ_313 (by decide +kernel) (ns_iload 0 rfl) rfl ?_
      refine nk_p (i := .iload 5) (len := 2) (pc' := 183) mJ_313 (by decide +kernel) (ns_iload 4 rfl) rfl ?_
      refine nk_p (i := .lconst 1) (len := 1) (pc' := 184) mJ_313 (by decide +kernel) (ns_lconst (c := 1) (by decide +kernel)) rfl ?_
      refine nk_p (i := .iload 9) (len := 2) (pc' := 186) mJ_313 (by decide +kernel) (ns_iload 7 rfl) rfl ?_
      refine nk_p (i := .lshl) (len := 1) (pc' := 187) mJ_313 (by decide +kernel) ns_lshl rfl ?_
      refine nk_p (i := .iload 6) (len := 2) (pc' := 189) mJ_313 (by decide +kernel) (ns_iload 5 rfl) rfl ?_
      refine nk_p (i := .iconst 1) (len := 1) (pc' := 190) mJ_313 (by decide +kernel) (ns_iconst (c := 1) (by decide +kernel)) rfl ?_
      refine nk_icmp (c := .ne) (off := 7) (len := 3) (t := 197) (pc' := 193) mJ_313 (by decide +kernel) (by decide +kernel) rfl (fun hc => ?_) (fun hc => ?_)
      · have hr := nk_ifn (c := l6 = 1) hc hr
        refine nk_p (i := .iconst 0) (len := 1) (pc' := 198) mJ_313 (by decide +kernel) (ns_iconst (c := 0) (by decide +kernel)) rfl ?_
        refine nk_sub [1, 2, 3, 4, 5, 6, 7] (L' := [(0, nk_r l0), (3, nk_i l3), (4, nk_i l4), (5, nk_i l5), (6, nk_i l6), (7, nk_l l7), (9, nk_i l9)]) rfl ?_
        exact ja_X4_calls_b198_ok zs hrec128 _ _ _ _ _ _ _ _ _ _ _ _ _ _ t_l0 t_l0 hr
      · have hr := nk_ifp (c := l6 = 1) (Decidable.of_not_not hc) hr
        refine nk_p (i := .iconst 1) (len := 1) (pc' := 194) mJ_313 (by decide +kernel) (ns_iconst (c := 1) (by decide +kernel)) rfl ?_
        refine nk_p (i := .goto 4) (len := 3) (pc' := 198) mJ_313 (by decide +kernel) (ns_goto (by decide +kernel)) rfl ?_
        refine nk_sub [1, 2, 3, 4, 5, 6, 7] (L' := [(0, nk_r l0), (3, nk_i l3), (4, nk_i l4), (5, nk_i l5), (6, nk_i l6), (7, nk_l l7), (9, nk_i l9)]) rfl ?_
        exact ja_X4_calls_b198_ok zs hrec128 _ _ _ _ _ _ _ _ _ _ _ _ _ _ t_l0 t_l0 hr
noncomputable def ja_X4_calls_L128 : Nat → Nat → Int → Int → Int → Int → Int → Int → nk_S → Option (Int × nk_S)
  | 0, _, _, _, _, _, _, _, _ => none
  | n + 1, l0, l3, l4, l5, l6, l7, l9, S => ja_X4_calls_b128 (ja_X4_calls_L128 n) l0 l3 l4 l5 l6 l7 l9 S
theorem ja_X4_calls_L128_ok (zs : List Int32) : ∀ n : Nat, ∀ (l0 : Nat) (l3 : Int) (l4 : Int) (l5 : Int) (l6 : Int) (l7 : Int) (l9 : Int) (S : nk_S) (R : Int × nk_S), nk_cl ja_Tt l0 = some 4 → ja_X4_calls_L128 n l0 l3 l4 l5 l6 l7 l9 S = some R → nk_K ja_Tt mi_Γ (mi_ev zs) 1 313 128 [(0, nk_r l0), (3, nk_i l3), (4, nk_i l4), (5, nk_i l5), (6, nk_i l6), (7, nk_l l7), (9, nk_i l9)] [] S R := by
  intro n
  induction n with
  | zero => intro _ _ _ _ _ _ _ _ _ _ hr; cases hr
  | succ n ih => intro l0 l3 l4 l5 l6 l7 l9 S R t_l0 hr; exact ja_X4_calls_b128_ok zs ih l0 l3 l4 l5 l6 l7 l9 S R t_l0 hr
noncomputable def ja_X4_calls_b98 (l0 : Nat) (l4 : Int) (l6 : Int) (s0 : Nat) (s1 : Int) (s2 : Int) (s3 : Int) (s4 : Int) (S : nk_S) : Option (Int × nk_S) :=
  nk_bd (ja_X4_enterBody s0 s1 s2 s3 s4 S) fun r1 S2 =>
  ja_X4_calls_b207 l0 l4 l6 S2
theorem ja_X4_calls_b98_ok (zs : List Int32) : ∀ (l0 : Nat) (l4 : Int) (l6 : Int) (s0 : Nat) (s1 : Int) (s2 : Int) (s3 : Int) (s4 : Int) (S : nk_S) (R : Int × nk_S), nk_cl ja_Tt l0 = some 4 → nk_cl ja_Tt s0 = some 4 → ja_X4_calls_b98 l0 l4 l6 s0 s1 s2 s3 s4 S = some R → nk_K ja_Tt mi_Γ (mi_ev zs) 1 313 98 [(0, nk_r l0), (4, nk_i l4), (6, nk_i l6)] [nk_i s4, nk_l s3, nk_i s2, nk_i s1, nk_r s0] S R := by
  intro l0 l4 l6 s0 s1 s2 s3 s4 S R t_l0 t_s0 hr
  unfold ja_X4_calls_b98 at hr
  obtain ⟨r1, S2, h3, hr⟩ := nk_bde hr
  refine nk_callV (ci := 4) (n := 4) (x := 485) (len := 3) (j' := 318) (q' := 0) (r := r1) (S' := S2) (L2 := [(0, nk_r s0), (1, nk_i s1), (2, nk_i s2), (3, nk_l s3), (5, nk_i s4)]) (rest := []) (st' := []) (pc' := 101) mJ_313 (by decide +kernel) (by decide +kernel) rfl rfl t_s0 (Nat.le_of_ble_eq_true rfl) mJ_318 (Nat.le_of_ble_eq_true rfl) rfl (ja_X4_enterBody_ok zs _ _ _ _ _ _ _ t_s0 h3) rfl ?_
  refine nk_p (i := .goto 106) (len := 3) (pc' := 207) mJ_313 (by decide +kernel) (ns_goto (by decide +kernel)) rfl ?_
  exact ja_X4_calls_b207_ok zs _ _ _ _ _ t_l0 hr
noncomputable def ja_X4_calls_b65 (l0 : Nat) (l2 : Int) (l3 : Int) (l4 : Int) (l5 : Int) (l6 : Int) (s0 : Nat) (s1 : Int) (S : nk_S) : Option (Int × nk_S) :=
  nk_bd (ja_X8_nothing s1 S) fun r1 S2 =>
  nk_lt (nk_wi S2 s0 12 r1) fun S4 =>
  nk_lt (nk_wi S4 l0 13 0) fun S6 =>
  if l2 = 39 then
    if l6 = 1 then
      ja_X4_calls_b98 l0 l4 l6 l0 l3 l5 0 1 S6
    else
      ja_X4_calls_b98 l0 l4 l6 l0 l3 l5 0 0 S6
  else
    nk_bd (ja_X4_dereference l0 l5 S6) fun r8 S9 =>
    if r8 = 0 then
      ja_X4_calls_b207 l0 l4 l6 S9
    else
      if 0 ≤ l5 ∧ l5 < 20 then
      nk_lt (S9.1 (ja_c (ja_c l0 2) 4) l5.toNat) fun v14 =>
      ja_X4_calls_L128 nk_big l0 l3 l4 l5 l6 v14 0 S9
      else none
theorem ja_X4_calls_b65_ok (zs : List Int32) : ∀ (l0 : Nat) (l2 : Int) (l3 : Int) (l4 : Int) (l5 : Int) (l6 : Int) (s0 : Nat) (s1 : Int) (S : nk_S) (R : Int × nk_S), nk_cl ja_Tt l0 = some 4 → nk_cl ja_Tt s0 = some 4 → ja_X4_calls_b65 l0 l2 l3 l4 l5 l6 s0 s1 S = some R → nk_K ja_Tt mi_Γ (mi_ev zs) 1 313 65 [(0, nk_r l0), (2, nk_i l2), (3, nk_i l3), (4, nk_i l4), (5, nk_i l5), (6, nk_i l6)] [nk_i s1, nk_r s0] S R := by
  intro l0 l2 l3 l4 l5 l6 s0 s1 S R t_l0 t_s0 hr
  unfold ja_X4_calls_b65 at hr
  obtain ⟨r1, S2, h3, hr⟩ := nk_bde hr
  refine nk_callS (ci := 0) (n := 1) (x := 454) (len := 3) (j' := 421) (q' := 2) (r := r1) (S' := S2) (L2 := [(0, nk_i s1)]) (rest := [nk_r s0]) (st' := [nk_l r1, nk_r s0]) (pc' := 68) mJ_313 (by decide +kernel) (by decide +kernel) (Nat.le_of_ble_eq_true rfl) rfl rfl (Nat.le_of_ble_eq_true rfl) mJ_421 (Nat.le_of_ble_eq_true rfl) ja_Tpos rfl (ja_X8_nothing_ok zs _ _ _ h3) rfl ?_
  obtain ⟨S4, h5, hr⟩ := nk_lte hr
  refine nk_putL (y := (0, 0)) (x := 480) (len := 3) (ci := 4) (k := 12) (pc' := 71) ja_okT mJ_313 (by decide +kernel) (by decide +kernel) (by decide +kernel) t_s0 rfl h5 ?_
  refine nk_p (i := .aload_n 0) (len := 1) (pc' := 72) mJ_313 (by decide +kernel) (ns_aload_n 0 rfl rfl) rfl ?_
  refine nk_p (i := .iconst 0) (len := 1) (pc' := 73) mJ_313 (by decide +kernel) (ns_iconst (c := 0) (by decide +kernel)) rfl ?_
  obtain ⟨S6, h7, hr⟩ := nk_lte hr
  refine nk_putI (y := (0, 0)) (ty := .boolean) (x := 482) (len := 3) (ci := 4) (k := 13) (pc' := 76) ja_okT mJ_313 (by decide +kernel) (by decide +kernel) (by decide +kernel) t_l0 (Or.inr ⟨rfl, by decide⟩) rfl h7 ?_
  refine nk_p (i := .iload_n 2) (len := 1) (pc' := 77) mJ_313 (by decide +kernel) (ns_iload_n 1 rfl rfl) rfl ?_
  refine nk_p (i := .bipush 39) (len := 2) (pc' := 79) mJ_313 (by decide +kernel) (ns_bipush (c := 39) (by decide +kernel)) rfl ?_
  refine nk_icmp (c := .ne) (off := 25) (len := 3) (t := 104) (pc' := 82) mJ_313 (by decide +kernel) (by decide +kernel) rfl (fun hc => ?_) (fun hc => ?_)
  · have hr := nk_ifn (c := l2 = 39) hc hr
    refine nk_p (i := .aload_n 0) (len := 1) (pc' := 105) mJ_313 (by decide +kernel) (ns_aload_n 0 rfl rfl) rfl ?_
    refine nk_p (i := .iload 5) (len := 2) (pc' := 107) mJ_313 (by decide +kernel) (ns_iload 4 rfl) rfl ?_
    obtain ⟨r8, S9, h10, hr⟩ := nk_bde hr
    refine nk_callV (ci := 4) (n := 1) (x := 431) (len := 3) (j' := 316) (q' := 1) (r := r8) (S' := S9) (L2 := [(0, nk_r l0), (1, nk_i l5)]) (rest := []) (st' := [nk_i r8]) (pc' := 110) mJ_313 (by decide +kernel) (by decide +kernel) rfl rfl t_l0 (Nat.le_of_ble_eq_true rfl) mJ_316 (Nat.le_of_ble_eq_true rfl) rfl (ja_X4_dereference_ok zs _ _ _ _ t_l0 h10) rfl ?_
    refine nk_icond (c := .eq) (off := 97) (len := 3) (t := 207) (pc' := 113) mJ_313 (by decide +kernel) (by decide +kernel) rfl (fun hc => ?_) (fun hc => ?_)
    · have hr := nk_ifp (c := r8 = 0) hc hr
      refine nk_sub [0, 3, 5] (L' := [(0, nk_r l0), (4, nk_i l4), (6, nk_i l6)]) rfl ?_
      exact ja_X4_calls_b207_ok zs _ _ _ _ _ t_l0 hr
    · have hr := nk_ifn (c := r8 = 0) hc hr
      refine nk_p (i := .aload_n 0) (len := 1) (pc' := 114) mJ_313 (by decide +kernel) (ns_aload_n 0 rfl rfl) rfl ?_
      refine nk_getC (f := (2, 7, 0)) (x := 12) (len := 3) (ci := 4) (k := 2) (pc' := 117) ja_okT mJ_313 (by decide +kernel) (by decide +kernel) (by decide +kernel) (by decide) t_l0 rfl ?_
      have t11 : nk_cl ja_Tt (ja_c l0 2) = some 7 := nk_tc (y := 0) ja_okT t_l0 (by decide +kernel)
      refine nk_getC (f := (4, 2, 20)) (x := 299) (len := 3) (ci := 7) (k := 4) (pc' := 120) ja_okT mJ_313 (by decide +kernel) (by decide +kernel) (by decide +kernel) (by decide) t11 rfl ?_
      have t12 : nk_ar ja_Tt (ja_c (ja_c l0 2) 4) = some (2, 20) := nk_ta ja_okT t11 (by decide +kernel)
      refine nk_p (i := .iload 5) (len := 2) (pc' := 122) mJ_313 (by decide +kernel) (ns_iload 4 rfl) rfl ?_
      obtain ⟨h13, hr⟩ := nk_cke hr
      refine nk_lald (len := 1) (N := 20) (pc' := 123) mJ_313 (by decide +kernel) t12 h13.1 h13.2 rfl rfl ?_
      obtain ⟨v14, h15, hr⟩ := nk_lte hr
      refine nk_p (i := .lstore 7) (len := 2) (pc' := 125) mJ_313 (by decide +kernel) (ns_lstore (L' := [(7, nk_l v14), (0, nk_r l0), (2, nk_i l2), (3, nk_i l3), (4, nk_i l4), (5, nk_i l5), (6, nk_i l6)]) h15 rfl (by decide +kernel)) rfl ?_
      refine nk_p (i := .iconst 0) (len := 1) (pc' := 126) mJ_313 (by decide +kernel) (ns_iconst (c := 0) (by decide +kernel)) rfl ?_
      refine nk_p (i := .istore 9) (len := 2) (pc' := 128) mJ_313 (by decide +kernel) (ns_istore (L' := [(9, nk_i 0), (7, nk_l v14), (0, nk_r l0), (2, nk_i l2), (3, nk_i l3), (4, nk_i l4), (5, nk_i l5), (6, nk_i l6)]) rfl rfl (by decide +kernel)) rfl ?_
      refine nk_sub [2, 4, 5, 6, 7, 1, 0] (L' := [(0, nk_r l0), (3, nk_i l3), (4, nk_i l4), (5, nk_i l5), (6, nk_i l6), (7, nk_l v14), (9, nk_i 0)]) rfl ?_
      exact ja_X4_calls_L128_ok zs nk_big _ _ _ _ _ _ _ _ _ t_l0 hr
  · have hr := nk_ifp (c := l2 = 39) (Decidable.of_not_not hc) hr
    refine nk_p (i := .aload_n 0) (len := 1) (pc' := 83) mJ_313 (by decide +kernel) (ns_aload_n 0 rfl rfl) rfl ?_
    refine nk_p (i := .iload_n 3) (len := 1) (pc' := 84) mJ_313 (by decide +kernel) (ns_iload_n 2 rfl rfl) rfl ?_
    refine nk_p (i := .iload 5) (len := 2) (pc' := 86) mJ_313 (by decide +kernel) (ns_iload 4 rfl) rfl ?_
    refine nk_p (i := .lconst 0) (len := 1) (pc' := 87) mJ_313 (by decide +kernel) (ns_lconst (c := 0) (by decide +kernel)) rfl ?_
    refine nk_p (i := .iload 6) (len := 2) (pc' := 89) mJ_313 (by decide +kernel) (ns_iload 5 rfl) rfl ?_
    refine nk_p (i := .iconst 1) (len := 1) (pc' := 90) mJ_313 (by decide +kernel) (ns_iconst (c := 1) (by decide +kernel)) rfl ?_
    refine nk_icmp (c := .ne) (off := 7) (len := 3) (t := 97) (pc' := 93) mJ_313 (by decide +kernel) (by decide +kernel) rfl (fun hc => ?_) (fun hc => ?_)
    · have hr := nk_ifn (c := l6 = 1) hc hr
      refine nk_p (i := .iconst 0) (len := 1) (pc' := 98) mJ_313 (by decide +kernel) (ns_iconst (c := 0) (by decide +kernel)) rfl ?_
      refine nk_sub [0, 3, 5] (L' := [(0, nk_r l0), (4, nk_i l4), (6, nk_i l6)]) rfl ?_
      exact ja_X4_calls_b98_ok zs _ _ _ _ _ _ _ _ _ _ t_l0 t_l0 hr
    · have hr := nk_ifp (c := l6 = 1) (Decidable.of_not_not hc) hr
      refine nk_p (i := .iconst 1) (len := 1) (pc' := 94) mJ_313 (by decide +kernel) (ns_iconst (c := 1) (by decide +kernel)) rfl ?_
      refine nk_p (i := .goto 4) (len := 3) (pc' := 98) mJ_313 (by decide +kernel) (ns_goto (by decide +kernel)) rfl ?_
      refine nk_sub [0, 3, 5] (L' := [(0, nk_r l0), (4, nk_i l4), (6, nk_i l6)]) rfl ?_
      exact ja_X4_calls_b98_ok zs _ _ _ _ _ _ _ _ _ _ t_l0 t_l0 hr
noncomputable def ja_X4_calls (l0 : Nat) (l1 : Int) (l2 : Int) (S : nk_S) : Option (Int × nk_S) :=
  if 0 ≤ l1 ∧ l1 < 1024 then
  nk_lt (S.1 (ja_c (S.2 l0 0) 5) l1.toNat) fun v4 =>
  if 0 ≤ v4 ∧ v4 < 48 then
  nk_lt (S.1 (ja_c (ja_c (S.2 l0 0) 1) 5) v4.toNat) fun v10 =>
  nk_lt (nk_w ((nk_w (12 + (S.1 (ja_c l0 2) 7))) - v10)) fun v13 =>
  nk_lt (S.1 (ja_c (ja_c (S.2 l0 0) 1) 7) v4.toNat) fun v17 =>
  if v17 = 1 then
    ja_X4_calls_b65 l0 l2 v4 v10 v13 v17 l0 1 S
  else
    ja_X4_calls_b65 l0 l2 v4 v10 v13 v17 l0 0 S
  else none
  else none
theorem ja_X4_calls_ok (zs : List Int32) : ∀ (l0 : Nat) (l1 : Int) (l2 : Int) (S : nk_S) (R : Int × nk_S), nk_cl ja_Tt l0 = some 4 → ja_X4_calls l0 l1 l2 S = some R → nk_K ja_Tt mi_Γ (mi_ev zs) 1 313 0 [(0, nk_r l0), (1, nk_i l1), (2, nk_i l2)] [] S R := by
  intro l0 l1 l2 S R t_l0 hr
  unfold ja_X4_calls at hr
  refine nk_p (i := .aload_n 0) (len := 1) (pc' := 1) mJ_313 (by decide +kernel) (ns_aload_n 0 rfl rfl) rfl ?_
  refine nk_getM (cj := 3) (z := 0) (x := 42) (len := 3) (ci := 4) (k := 0) (pc' := 4) ja_okT mJ_313 (by decide +kernel) (by decide +kernel) (by decide +kernel) t_l0 rfl (fun t1 => ?_)
  refine nk_getC (f := (4, 1, 1024)) (x := 113) (len := 3) (ci := 3) (k := 5) (pc' := 7) ja_okT mJ_313 (by decide +kernel) (by decide +kernel) (by decide +kernel) (by decide) t1 rfl ?_
  have t2 : nk_ar ja_Tt (ja_c (S.2 l0 0) 5) = some (1, 1024) := nk_ta ja_okT t1 (by decide +kernel)
  refine nk_p (i := .iload_n 1) (len := 1) (pc' := 8) mJ_313 (by decide +kernel) (ns_iload_n 1 rfl rfl) rfl ?_
  obtain ⟨h3, hr⟩ := nk_cke hr
  refine nk_iald (len := 1) (N := 1024) (pc' := 9) mJ_313 (by decide +kernel) t2 h3.1 h3.2 rfl rfl ?_
  obtain ⟨v4, h5, hr⟩ := nk_lte hr
  refine nk_p (i := .istore_n 3) (len := 1) (pc' := 10) mJ_313 (by decide +kernel) (ns_istore_n (L' := [(3, nk_i v4), (0, nk_r l0), (1, nk_i l1), (2, nk_i l2)]) h5 rfl rfl (by decide +kernel)) rfl ?_
  refine nk_p (i := .aload_n 0) (len := 1) (pc' := 11) mJ_313 (by decide +kernel) (ns_aload_n 1 rfl rfl) rfl ?_
  refine nk_getM (cj := 3) (z := 0) (x := 42) (len := 3) (ci := 4) (k := 0) (pc' := 14) ja_okT mJ_313 (by decide +kernel) (by decide +kernel) (by decide +kernel) t_l0 rfl (fun t6 => ?_)
  refine nk_getC (f := (2, 0, 0)) (x := 71) (len := 3) (ci := 3) (k := 1) (pc' := 17) ja_okT mJ_313 (by decide +kernel) (by decide +kernel) (by decide +kernel) (by decide) t6 rfl ?_
  have t7 : nk_cl ja_Tt (ja_c (S.2 l0 0) 1) = some 0 := nk_tc (y := 0) ja_okT t6 (by decide +kernel)
  refine nk_getC (f := (4, 1, 48)) (x := 477) (len := 3) (ci := 0) (k := 5) (pc' := 20) ja_okT mJ_313 (by decide +kernel) (by decide +kernel) (by decide +kernel) (by decide) t7 rfl ?_
  have t8 : nk_ar ja_Tt (ja_c (ja_c (S.2 l0 0) 1) 5) = some (1, 48) := nk_ta ja_okT t7 (by decide +kernel)
  refine nk_p (i := .iload_n 3) (len := 1) (pc' := 21) mJ_313 (by decide +kernel) (ns_iload_n 0 rfl rfl) rfl ?_
  obtain ⟨h9, hr⟩ := nk_cke hr
  refine nk_iald (len := 1) (N := 48) (pc' := 22) mJ_313 (by decide +kernel) t8 h9.1 h9.2 rfl rfl ?_
  obtain ⟨v10, h11, hr⟩ := nk_lte hr
  refine nk_p (i := .istore 4) (len := 2) (pc' := 24) mJ_313 (by decide +kernel) (ns_istore (L' := [(4, nk_i v10), (3, nk_i v4), (0, nk_r l0), (1, nk_i l1), (2, nk_i l2)]) h11 rfl (by decide +kernel)) rfl ?_
  refine nk_p (i := .bipush 12) (len := 2) (pc' := 26) mJ_313 (by decide +kernel) (ns_bipush (c := 12) (by decide +kernel)) rfl ?_
  refine nk_p (i := .aload_n 0) (len := 1) (pc' := 27) mJ_313 (by decide +kernel) (ns_aload_n 2 rfl rfl) rfl ?_
  refine nk_getC (f := (2, 7, 0)) (x := 12) (len := 3) (ci := 4) (k := 2) (pc' := 30) ja_okT mJ_313 (by decide +kernel) (by decide +kernel) (by decide +kernel) (by decide) t_l0 rfl ?_
  have t12 : nk_cl ja_Tt (ja_c l0 2) = some 7 := nk_tc (y := 0) ja_okT t_l0 (by decide +kernel)
  refine nk_getI (y := (0, 0)) (x := 277) (len := 3) (ci := 7) (k := 7) (pc' := 33) ja_okT mJ_313 (by decide +kernel) (by decide +kernel) (by decide +kernel) t12 rfl ?_
  refine nk_p (i := .iadd) (len := 1) (pc' := 34) mJ_313 (by decide +kernel) ns_iadd rfl ?_
  refine nk_p (i := .iload 4) (len := 2) (pc' := 36) mJ_313 (by decide +kernel) (ns_iload 0 rfl) rfl ?_
  refine nk_p (i := .isub) (len := 1) (pc' := 37) mJ_313 (by decide +kernel) ns_isub rfl ?_
  obtain ⟨v13, h14, hr⟩ := nk_lte hr
  refine nk_p (i := .istore 5) (len := 2) (pc' := 39) mJ_313 (by decide +kernel) (ns_istore (L' := [(5, nk_i v13), (4, nk_i v10), (3, nk_i v4), (0, nk_r l0), (1, nk_i l1), (2, nk_i l2)]) h14 rfl (by decide +kernel)) rfl ?_
  refine nk_p (i := .aload_n 0) (len := 1) (pc' := 40) mJ_313 (by decide +kernel) (ns_aload_n 3 rfl rfl) rfl ?_
  refine nk_getM (cj := 3) (z := 0) (x := 42) (len := 3) (ci := 4) (k := 0) (pc' := 43) ja_okT mJ_313 (by decide +kernel) (by decide +kernel) (by decide +kernel) t_l0 rfl (fun t15 => ?_)
  refine nk_getC (f := (2, 0, 0)) (x := 71) (len := 3) (ci := 3) (k := 1) (pc' := 46) ja_okT mJ_313 (by decide +kernel) (by decide +kernel) (by decide +kernel) (by decide) t15 rfl ?_
  refine nk_getC (f := (4, 1, 48)) (x := 471) (len := 3) (ci := 0) (k := 7) (pc' := 49) ja_okT mJ_313 (by decide +kernel) (by decide +kernel) (by decide +kernel) (by decide) t7 rfl ?_
  have t16 : nk_ar ja_Tt (ja_c (ja_c (S.2 l0 0) 1) 7) = some (1, 48) := nk_ta ja_okT t7 (by decide +kernel)
  refine nk_p (i := .iload_n 3) (len := 1) (pc' := 50) mJ_313 (by decide +kernel) (ns_iload_n 2 rfl rfl) rfl ?_
  refine nk_iald (len := 1) (N := 48) (pc' := 51) mJ_313 (by decide +kernel) t16 h9.1 h9.2 rfl rfl ?_
  obtain ⟨v17, h18, hr⟩ := nk_lte hr
  refine nk_p (i := .istore 6) (len := 2) (pc' := 53) mJ_313 (by decide +kernel) (ns_istore (L' := [(6, nk_i v17), (5, nk_i v13), (4, nk_i v10), (3, nk_i v4), (0, nk_r l0), (1, nk_i l1), (2, nk_i l2)]) h18 rfl (by decide +kernel)) rfl ?_
  refine nk_p (i := .aload_n 0) (len := 1) (pc' := 54) mJ_313 (by decide +kernel) (ns_aload_n 4 rfl rfl) rfl ?_
  refine nk_p (i := .iload 6) (len := 2) (pc' := 56) mJ_313 (by decide +kernel) (ns_iload 0 rfl) rfl ?_
  refine nk_p (i := .iconst 1) (len := 1) (pc' := 57) mJ_313 (by decide +kernel) (ns_iconst (c := 1) (by decide +kernel)) rfl ?_
  refine nk_icmp (c := .ne) (off := 7) (len := 3) (t := 64) (pc' := 60) mJ_313 (by decide +kernel) (by decide +kernel) rfl (fun hc => ?_) (fun hc => ?_)
  · have hr := nk_ifn (c := v17 = 1) hc hr
    refine nk_p (i := .iconst 0) (len := 1) (pc' := 65) mJ_313 (by decide +kernel) (ns_iconst (c := 0) (by decide +kernel)) rfl ?_
    refine nk_sub [4, 6, 3, 2, 1, 0] (L' := [(0, nk_r l0), (2, nk_i l2), (3, nk_i v4), (4, nk_i v10), (5, nk_i v13), (6, nk_i v17)]) rfl ?_
    exact ja_X4_calls_b65_ok zs _ _ _ _ _ _ _ _ _ _ t_l0 t_l0 hr
  · have hr := nk_ifp (c := v17 = 1) (Decidable.of_not_not hc) hr
    refine nk_p (i := .iconst 1) (len := 1) (pc' := 61) mJ_313 (by decide +kernel) (ns_iconst (c := 1) (by decide +kernel)) rfl ?_
    refine nk_p (i := .goto 4) (len := 3) (pc' := 65) mJ_313 (by decide +kernel) (ns_goto (by decide +kernel)) rfl ?_
    refine nk_sub [4, 6, 3, 2, 1, 0] (L' := [(0, nk_r l0), (2, nk_i l2), (3, nk_i v4), (4, nk_i v10), (5, nk_i v13), (6, nk_i v17)]) rfl ?_
    exact ja_X4_calls_b65_ok zs _ _ _ _ _ _ _ _ _ _ t_l0 t_l0 hr
/-! SafeCode$Ranges negative (J)J -/
noncomputable def ja_X5_negative (l0 : Nat) (l1 : Int) (S : nk_S) : Option (Int × nk_S) :=
  nk_bd (ja_X5_highest l1 S) fun r1 S2 =>
  nk_bd (ja_X5_lowest l1 S2) fun r4 S5 =>
  nk_bd (ja_X5_around l0 (nk_W (-r1)) (nk_W (-r4)) S5) fun r7 S8 =>
  some (r7, S8)
theorem ja_X5_negative_ok (zs : List Int32) : ∀ (l0 : Nat) (l1 : Int) (S : nk_S) (R : Int × nk_S), nk_cl ja_Tt l0 = some 5 → ja_X5_negative l0 l1 S = some R → nk_K ja_Tt mi_Γ (mi_ev zs) 2 364 0 [(0, nk_r l0), (1, nk_l l1)] [] S R := by
  intro l0 l1 S R t_l0 hr
  unfold ja_X5_negative at hr
  refine nk_p (i := .aload_n 0) (len := 1) (pc' := 1) mJ_364 (by decide +kernel) (ns_aload_n 0 rfl rfl) rfl ?_
  refine nk_p (i := .lload_n 1) (len := 1) (pc' := 2) mJ_364 (by decide +kernel) (ns_lload_n 1 rfl rfl) rfl ?_
  obtain ⟨r1, S2, h3, hr⟩ := nk_bde hr
  refine nk_callS (ci := 0) (n := 1) (x := 29) (len := 3) (j' := 356) (q' := 1) (r := r1) (S' := S2) (L2 := [(0, nk_l l1)]) (rest := [nk_r l0]) (st' := [nk_i r1, nk_r l0]) (pc' := 5) mJ_364 (by decide +kernel) (by decide +kernel) (Nat.le_of_ble_eq_true rfl) rfl rfl (Nat.le_of_ble_eq_true rfl) mJ_356 (Nat.le_of_ble_eq_true rfl) ja_Tpos rfl (ja_X5_highest_ok zs _ _ _ h3) rfl ?_
  refine nk_p (i := .i2l) (len := 1) (pc' := 6) mJ_364 (by decide +kernel) ns_i2l rfl ?_
  refine nk_p (i := .lneg) (len := 1) (pc' := 7) mJ_364 (by decide +kernel) ns_lneg rfl ?_
  refine nk_p (i := .lload_n 1) (len := 1) (pc' := 8) mJ_364 (by decide +kernel) (ns_lload_n 1 rfl rfl) rfl ?_
  obtain ⟨r4, S5, h6, hr⟩ := nk_bde hr
  refine nk_callS (ci := 0) (n := 1) (x := 19) (len := 3) (j' := 363) (q' := 1) (r := r4) (S' := S5) (L2 := [(0, nk_l l1)]) (rest := [nk_l (nk_W (-r1)), nk_r l0]) (st' := [nk_i r4, nk_l (nk_W (-r1)), nk_r l0]) (pc' := 11) mJ_364 (by decide +kernel) (by decide +kernel) (Nat.le_of_ble_eq_true rfl) rfl rfl (Nat.le_of_ble_eq_true rfl) mJ_363 (Nat.le_of_ble_eq_true rfl) ja_Tpos rfl (ja_X5_lowest_ok zs _ _ _ h6) rfl ?_
  refine nk_p (i := .i2l) (len := 1) (pc' := 12) mJ_364 (by decide +kernel) ns_i2l rfl ?_
  refine nk_p (i := .lneg) (len := 1) (pc' := 13) mJ_364 (by decide +kernel) ns_lneg rfl ?_
  obtain ⟨r7, S8, h9, hr⟩ := nk_bde hr
  refine nk_callV (ci := 5) (n := 2) (x := 77) (len := 3) (j' := 349) (q' := 2) (r := r7) (S' := S8) (L2 := [(0, nk_r l0), (1, nk_l (nk_W (-r1))), (3, nk_l (nk_W (-r4)))]) (rest := []) (st' := [nk_l r7]) (pc' := 16) mJ_364 (by decide +kernel) (by decide +kernel) rfl rfl t_l0 (Nat.le_of_ble_eq_true rfl) mJ_349 (Nat.le_of_ble_eq_true rfl) rfl (ja_X5_around_ok zs _ _ _ _ _ t_l0 h9) rfl ?_
  cases hr
  exact nk_lret (len := 1) mJ_364 (by decide +kernel) rfl
/-! SafeCode$Ranges product (JJJ)J -/
noncomputable def ja_X5_product (l0 : Nat) (l1 : Int) (l3 : Int) (l5 : Int) (S : nk_S) : Option (Int × nk_S) :=
  nk_bd (ja_X5_lowest l1 S) fun r1 S2 =>
  nk_lt (nk_W (r1 * l3)) fun v4 =>
  nk_bd (ja_X5_lowest l1 S2) fun r6 S7 =>
  nk_lt (nk_W (r6 * l5)) fun v9 =>
  nk_bd (ja_X5_highest l1 S7) fun r11 S12 =>
  nk_lt (nk_W (r11 * l3)) fun v14 =>
  nk_bd (ja_X5_highest l1 S12) fun r16 S17 =>
  nk_lt (nk_W (r16 * l5)) fun v19 =>
  nk_bd (ja_J9_min_f86c9 v4 v9 S17) fun r21 S22 =>
  nk_bd (ja_J9_min_f86c9 v14 v19 S22) fun r24 S25 =>
  nk_bd (ja_J9_min_f86c9 r21 r24 S25) fun r27 S28 =>
  nk_bd (ja_J9_max_f86c9 v4 v9 S28) fun r30 S31 =>
  nk_bd (ja_J9_max_f86c9 v14 v19 S31) fun r33 S34 =>
  nk_bd (ja_J9_max_f86c9 r30 r33 S34) fun r36 S37 =>
  nk_bd (ja_X5_around l0 r27 r36 S37) fun r39 S40 =>
  some (r39, S40)
theorem ja_X5_product_ok (zs : List Int32) : ∀ (l0 : Nat) (l1 : Int) (l3 : Int) (l5 : Int) (S : nk_S) (R : Int × nk_S), nk_cl ja_Tt l0 = some 5 → ja_X5_product l0 l1 l3 l5 S = some R → nk_K ja_Tt mi_Γ (mi_ev zs) 2 368 0 [(0, nk_r l0), (1, nk_l l1), (3, nk_l l3), (5, nk_l l5)] [] S R := by
  intro l0 l1 l3 l5 S R t_l0 hr
  unfold ja_X5_product at hr
  refine nk_p (i := .lload_n 1) (len := 1) (pc' := 1) mJ_368 (by decide +kernel) (ns_lload_n 1 rfl rfl) rfl ?_
  obtain ⟨r1, S2, h3, hr⟩ := nk_bde hr
  refine nk_callS (ci := 0) (n := 1) (x := 19) (len := 3) (j' := 363) (q' := 1) (r := r1) (S' := S2) (L2 := [(0, nk_l l1)]) (rest := []) (st' := [nk_i r1]) (pc' := 4) mJ_368 (by decide +kernel) (by decide +kernel) (Nat.le_of_ble_eq_true rfl) rfl rfl (Nat.le_of_ble_eq_true rfl) mJ_363 (Nat.le_of_ble_eq_true rfl) ja_Tpos rfl (ja_X5_lowest_ok zs _ _ _ h3) rfl ?_
  refine nk_p (i := .i2l) (len := 1) (pc' := 5) mJ_368 (by decide +kernel) ns_i2l rfl ?_
  refine nk_p (i := .lload_n 3) (len := 1) (pc' := 6) mJ_368 (by decide +kernel) (ns_lload_n 2 rfl rfl) rfl ?_
  refine nk_p (i := .lmul) (len := 1) (pc' := 7) mJ_368 (by decide +kernel) ns_lmul rfl ?_
  obtain ⟨v4, h5, hr⟩ := nk_lte hr
  refine nk_p (i := .lstore 7) (len := 2) (pc' := 9) mJ_368 (by decide +kernel) (ns_lstore (L' := [(7, nk_l v4), (0, nk_r l0), (1, nk_l l1), (3, nk_l l3), (5, nk_l l5)]) h5 rfl (by decide +kernel)) rfl ?_
  refine nk_p (i := .lload_n 1) (len := 1) (pc' := 10) mJ_368 (by decide +kernel) (ns_lload_n 2 rfl rfl) rfl ?_
  obtain ⟨r6, S7, h8, hr⟩ := nk_bde hr
  refine nk_callS (ci := 0) (n := 1) (x := 19) (len := 3) (j' := 363) (q' := 1) (r := r6) (S' := S7) (L2 := [(0, nk_l l1)]) (rest := []) (st' := [nk_i r6]) (pc' := 13) mJ_368 (by decide +kernel) (by decide +kernel) (Nat.le_of_ble_eq_true rfl) rfl rfl (Nat.le_of_ble_eq_true rfl) mJ_363 (Nat.le_of_ble_eq_true rfl) ja_Tpos rfl (ja_X5_lowest_ok zs _ _ _ h8) rfl ?_
  refine nk_p (i := .i2l) (len := 1) (pc' := 14) mJ_368 (by decide +kernel) ns_i2l rfl ?_
  refine nk_p (i := .lload 5) (len := 2) (pc' := 16) mJ_368 (by decide +kernel) (ns_lload 4 rfl) rfl ?_
  refine nk_p (i := .lmul) (len := 1) (pc' := 17) mJ_368 (by decide +kernel) ns_lmul rfl ?_
  obtain ⟨v9, h10, hr⟩ := nk_lte hr
  refine nk_p (i := .lstore 9) (len := 2) (pc' := 19) mJ_368 (by decide +kernel) (ns_lstore (L' := [(9, nk_l v9), (7, nk_l v4), (0, nk_r l0), (1, nk_l l1), (3, nk_l l3), (5, nk_l l5)]) h10 rfl (by decide +kernel)) rfl ?_
  refine nk_p (i := .lload_n 1) (len := 1) (pc' := 20) mJ_368 (by decide +kernel) (ns_lload_n 3 rfl rfl) rfl ?_
  obtain ⟨r11, S12, h13, hr⟩ := nk_bde hr
  refine nk_callS (ci := 0) (n := 1) (x := 29) (len := 3) (j' := 356) (q' := 1) (r := r11) (S' := S12) (L2 := [(0, nk_l l1)]) (rest := []) (st' := [nk_i r11]) (pc' := 23) mJ_368 (by decide +kernel) (by decide +kernel) (Nat.le_of_ble_eq_true rfl) rfl rfl (Nat.le_of_ble_eq_true rfl) mJ_356 (Nat.le_of_ble_eq_true rfl) ja_Tpos rfl (ja_X5_highest_ok zs _ _ _ h13) rfl ?_
  refine nk_p (i := .i2l) (len := 1) (pc' := 24) mJ_368 (by decide +kernel) ns_i2l rfl ?_
  refine nk_p (i := .lload_n 3) (len := 1) (pc' := 25) mJ_368 (by decide +kernel) (ns_lload_n 4 rfl rfl) rfl ?_
  refine nk_p (i := .lmul) (len := 1) (pc' := 26) mJ_368 (by decide +kernel) ns_lmul rfl ?_
  obtain ⟨v14, h15, hr⟩ := nk_lte hr
  refine nk_p (i := .lstore 11) (len := 2) (pc' := 28) mJ_368 (by decide +kernel) (ns_lstore (L' := [(11, nk_l v14), (9, nk_l v9), (7, nk_l v4), (0, nk_r l0), (1, nk_l l1), (3, nk_l l3), (5, nk_l l5)]) h15 rfl (by decide +kernel)) rfl ?_
  refine nk_p (i := .lload_n 1) (len := 1) (pc' := 29) mJ_368 (by decide +kernel) (ns_lload_n 4 rfl rfl) rfl ?_
  obtain ⟨r16, S17, h18, hr⟩ := nk_bde hr
  refine nk_callS (ci := 0) (n := 1) (x := 29) (len := 3) (j' := 356) (q' := 1) (r := r16) (S' := S17) (L2 := [(0, nk_l l1)]) (rest := []) (st' := [nk_i r16]) (pc' := 32) mJ_368 (by decide +kernel) (by decide +kernel) (Nat.le_of_ble_eq_true rfl) rfl rfl (Nat.le_of_ble_eq_true rfl) mJ_356 (Nat.le_of_ble_eq_true rfl) ja_Tpos rfl (ja_X5_highest_ok zs _ _ _ h18) rfl ?_
  refine nk_p (i := .i2l) (len := 1) (pc' := 33) mJ_368 (by decide +kernel) ns_i2l rfl ?_
  refine nk_p (i := .lload 5) (len := 2) (pc' := 35) mJ_368 (by decide +kernel) (ns_lload 6 rfl) rfl ?_
  refine nk_p (i := .lmul) (len := 1) (pc' := 36) mJ_368 (by decide +kernel) ns_lmul rfl ?_
  obtain ⟨v19, h20, hr⟩ := nk_lte hr
  refine nk_p (i := .lstore 13) (len := 2) (pc' := 38) mJ_368 (by decide +kernel) (ns_lstore (L' := [(13, nk_l v19), (11, nk_l v14), (9, nk_l v9), (7, nk_l v4), (0, nk_r l0), (1, nk_l l1), (3, nk_l l3), (5, nk_l l5)]) h20 rfl (by decide +kernel)) rfl ?_
  refine nk_p (i := .aload_n 0) (len := 1) (pc' := 39) mJ_368 (by decide +kernel) (ns_aload_n 4 rfl rfl) rfl ?_
  refine nk_p (i := .lload 7) (len := 2) (pc' := 41) mJ_368 (by decide +kernel) (ns_lload 3 rfl) rfl ?_
  refine nk_p (i := .lload 9) (len := 2) (pc' := 43) mJ_368 (by decide +kernel) (ns_lload 2 rfl) rfl ?_
  obtain ⟨r21, S22, h23, hr⟩ := nk_bde hr
  refine nk_callS (ci := 0) (n := 2) (x := 75) (len := 3) (j' := 19) (q' := 2) (r := r21) (S' := S22) (L2 := [(0, nk_l v4), (2, nk_l v9)]) (rest := [nk_r l0]) (st' := [nk_l r21, nk_r l0]) (pc' := 46) mJ_368 (by decide +kernel) (by decide +kernel) (Nat.le_of_ble_eq_true rfl) rfl rfl (Nat.le_of_ble_eq_true rfl) mJ_19 (Nat.le_of_ble_eq_true rfl) ja_Tpos rfl (ja_J9_min_f86c9_ok zs _ _ _ _ h23) rfl ?_
  refine nk_p (i := .lload 11) (len := 2) (pc' := 48) mJ_368 (by decide +kernel) (ns_lload 1 rfl) rfl ?_
  refine nk_p (i := .lload 13) (len := 2) (pc' := 50) mJ_368 (by decide +kernel) (ns_lload 0 rfl) rfl ?_
  obtain ⟨r24, S25, h26, hr⟩ := nk_bde hr
  refine nk_callS (ci := 0) (n := 2) (x := 75) (len := 3) (j' := 19) (q' := 2) (r := r24) (S' := S25) (L2 := [(0, nk_l v14), (2, nk_l v19)]) (rest := [nk_l r21, nk_r l0]) (st' := [nk_l r24, nk_l r21, nk_r l0]) (pc' := 53) mJ_368 (by decide +kernel) (by decide +kernel) (Nat.le_of_ble_eq_true rfl) rfl rfl (Nat.le_of_ble_eq_true rfl) mJ_19 (Nat.le_of_ble_eq_true rfl) ja_Tpos rfl (ja_J9_min_f86c9_ok zs _ _ _ _ h26) rfl ?_
  obtain ⟨r27, S28, h29, hr⟩ := nk_bde hr
  refine nk_callS (ci := 0) (n := 2) (x := 75) (len := 3) (j' := 19) (q' := 2) (r := r27) (S' := S28) (L2 := [(0, nk_l r21), (2, nk_l r24)]) (rest := [nk_r l0]) (st' := [nk_l r27, nk_r l0]) (pc' := 56) mJ_368 (by decide +kernel) (by decide +kernel) (Nat.le_of_ble_eq_true rfl) rfl rfl (Nat.le_of_ble_eq_true rfl) mJ_19 (Nat.le_of_ble_eq_true rfl) ja_Tpos rfl (ja_J9_min_f86c9_ok zs _ _ _ _ h29) rfl ?_
  refine nk_p (i := .lload 7) (len := 2) (pc' := 58) mJ_368 (by decide +kernel) (ns_lload 3 rfl) rfl ?_
  refine nk_p (i := .lload 9) (len := 2) (pc' := 60) mJ_368 (by decide +kernel) (ns_lload 2 rfl) rfl ?_
  obtain ⟨r30, S31, h32, hr⟩ := nk_bde hr
  refine nk_callS (ci := 0) (n := 2) (x := 72) (len := 3) (j' := 17) (q' := 2) (r := r30) (S' := S31) (L2 := [(0, nk_l v4), (2, nk_l v9)]) (rest := [nk_l r27, nk_r l0]) (st' := [nk_l r30, nk_l r27, nk_r l0]) (pc' := 63) mJ_368 (by decide +kernel) (by decide +kernel) (Nat.le_of_ble_eq_true rfl) rfl rfl (Nat.le_of_ble_eq_true rfl) mJ_17 (Nat.le_of_ble_eq_true rfl) ja_Tpos rfl (ja_J9_max_f86c9_ok zs _ _ _ _ h32) rfl ?_
  refine nk_p (i := .lload 11) (len := 2) (pc' := 65) mJ_368 (by decide +kernel) (ns_lload 1 rfl) rfl ?_
  refine nk_p (i := .lload 13) (len := 2) (pc' := 67) mJ_368 (by decide +kernel) (ns_lload 0 rfl) rfl ?_
  obtain ⟨r33, S34, h35, hr⟩ := nk_bde hr
  refine nk_callS (ci := 0) (n := 2) (x := 72) (len := 3) (j' := 17) (q' := 2) (r := r33) (S' := S34) (L2 := [(0, nk_l v14), (2, nk_l v19)]) (rest := [nk_l r30, nk_l r27, nk_r l0]) (st' := [nk_l r33, nk_l r30, nk_l r27, nk_r l0]) (pc' := 70) mJ_368 (by decide +kernel) (by decide +kernel) (Nat.le_of_ble_eq_true rfl) rfl rfl (Nat.le_of_ble_eq_true rfl) mJ_17 (Nat.le_of_ble_eq_true rfl) ja_Tpos rfl (ja_J9_max_f86c9_ok zs _ _ _ _ h35) rfl ?_
  obtain ⟨r36, S37, h38, hr⟩ := nk_bde hr
  refine nk_callS (ci := 0) (n := 2) (x := 72) (len := 3) (j' := 17) (q' := 2) (r := r36) (S' := S37) (L2 := [(0, nk_l r30), (2, nk_l r33)]) (rest := [nk_l r27, nk_r l0]) (st' := [nk_l r36, nk_l r27, nk_r l0]) (pc' := 73) mJ_368 (by decide +kernel) (by decide +kernel) (Nat.le_of_ble_eq_true rfl) rfl rfl (Nat.le_of_ble_eq_true rfl) mJ_17 (Nat.le_of_ble_eq_true rfl) ja_Tpos rfl (ja_J9_max_f86c9_ok zs _ _ _ _ h38) rfl ?_
  obtain ⟨r39, S40, h41, hr⟩ := nk_bde hr
  refine nk_callV (ci := 5) (n := 2) (x := 77) (len := 3) (j' := 349) (q' := 2) (r := r39) (S' := S40) (L2 := [(0, nk_r l0), (1, nk_l r27), (3, nk_l r36)]) (rest := []) (st' := [nk_l r39]) (pc' := 76) mJ_368 (by decide +kernel) (by decide +kernel) rfl rfl t_l0 (Nat.le_of_ble_eq_true rfl) mJ_349 (Nat.le_of_ble_eq_true rfl) rfl (ja_X5_around_ok zs _ _ _ _ _ t_l0 h41) rfl ?_
  cases hr
  exact nk_lret (len := 1) mJ_368 (by decide +kernel) rfl
/-! SafeCode$Ranges quotient (JJ)J -/
noncomputable def ja_X5_quotient_b59 (rec13 : Nat → Int → Int → Int → Int → Int → nk_S → Option (Int × nk_S)) (l0 : Nat) (l1 : Int) (l3 : Int) (l5 : Int) (l7 : Int) (l9 : Int) (s0 : Int) (S : nk_S) : Option (Int × nk_S) :=
  if s0 = 0 then
    nk_lt (nk_w (l9 + 1)) fun v1 =>
    rec13 l0 l1 l3 l5 l7 v1 S
  else
    nk_bd (ja_X5_lowest l3 S) fun r3 S4 =>
    if s0 < r3 then
      nk_lt (nk_w (l9 + 1)) fun v6 =>
      rec13 l0 l1 l3 l5 l7 v6 S4
    else
      nk_bd (ja_X5_highest l3 S4) fun r8 S9 =>
      if r8 < s0 then
        nk_lt (nk_w (l9 + 1)) fun v11 =>
        rec13 l0 l1 l3 l5 l7 v11 S9
      else
        nk_bd (ja_X5_lowest l1 S9) fun r13 S14 =>
        if ¬ s0 = 0 then
        nk_lt (nk_ldiv r13 s0) fun v17 =>
        nk_bd (ja_X5_highest l1 S14) fun r19 S20 =>
        if ¬ s0 = 0 then
        nk_lt (nk_ldiv r19 s0) fun v23 =>
        nk_bd (ja_J9_min_f86c9 v17 v23 S20) fun r25 S26 =>
        nk_bd (ja_J9_min_f86c9 l5 r25 S26) fun r28 S29 =>
        nk_bd (ja_J9_max_f86c9 v17 v23 S29) fun r31 S32 =>
        nk_bd (ja_J9_max_f86c9 l7 r31 S32) fun r34 S35 =>
        nk_lt (nk_w (l9 + 1)) fun v37 =>
        rec13 l0 l1 l3 r28 r34 v37 S35
        else none
        else none
theorem ja_X5_quotient_b59_ok (zs : List Int32) {rec13 : Nat → Int → Int → Int → Int → Int → nk_S → Option (Int × nk_S)} (hrec13 : ∀ (l0 : Nat) (l1 : Int) (l3 : Int) (l5 : Int) (l7 : Int) (l9 : Int) (S : nk_S) (R : Int × nk_S), nk_cl ja_Tt l0 = some 5 → rec13 l0 l1 l3 l5 l7 l9 S = some R → nk_K ja_Tt mi_Γ (mi_ev zs) 2 369 13 [(0, nk_r l0), (1, nk_l l1), (3, nk_l l3), (5, nk_l l5), (7, nk_l l7), (9, nk_i l9)] [] S R) : ∀ (l0 : Nat) (l1 : Int) (l3 : Int) (l5 : Int) (l7 : Int) (l9 : Int) (s0 : Int) (S : nk_S) (R : Int × nk_S), nk_cl ja_Tt l0 = some 5 → ja_X5_quotient_b59 rec13 l0 l1 l3 l5 l7 l9 s0 S = some R → nk_K ja_Tt mi_Γ (mi_ev zs) 2 369 59 [(0, nk_r l0), (1, nk_l l1), (3, nk_l l3), (5, nk_l l5), (7, nk_l l7), (9, nk_i l9)] [nk_l s0] S R := by
  intro l0 l1 l3 l5 l7 l9 s0 S R t_l0 hr
  unfold ja_X5_quotient_b59 at hr
  refine nk_p (i := .lstore 10) (len := 2) (pc' := 61) mJ_369 (by decide +kernel) (ns_lstore (L' := [(10, nk_l s0), (0, nk_r l0), (1, nk_l l1), (3, nk_l l3), (5, nk_l l5), (7, nk_l l7), (9, nk_i l9)]) rfl rfl (by decide +kernel)) rfl ?_
  refine nk_p (i := .lload 10) (len := 2) (pc' := 63) mJ_369 (by decide +kernel) (ns_lload 0 rfl) rfl ?_
  refine nk_p (i := .lconst 0) (len := 1) (pc' := 64) mJ_369 (by decide +kernel) (ns_lconst (c := 0) (by decide +kernel)) rfl ?_
  refine nk_p (i := .lcmp) (len := 1) (pc' := 65) mJ_369 (by decide +kernel) ns_lcmp rfl ?_
  refine nk_lcond (c := .eq) (off := 73) (len := 3) (t := 138) (pc' := 68) mJ_369 (by decide +kernel) (by decide +kernel) rfl (fun hc => ?_) (fun hc => ?_)
  · have hr := nk_ifp (c := s0 = 0) hc hr
    obtain ⟨v1, h2, hr⟩ := nk_lte hr
    refine nk_p (i := .iinc 9 1) (len := 3) (pc' := 141) mJ_369 (by decide +kernel) (ns_iinc (c := 1) (L' := [(9, nk_i v1), (10, nk_l s0), (0, nk_r l0), (1, nk_l l1), (3, nk_l l3), (5, nk_l l5), (7, nk_l l7)]) 6 rfl (by decide +kernel) h2 rfl (by decide +kernel)) rfl ?_
    refine nk_p (i := .goto (-128)) (len := 3) (pc' := 13) mJ_369 (by decide +kernel) (ns_goto (by decide +kernel)) rfl ?_
    refine nk_sub [2, 3, 4, 5, 6, 0] (L' := [(0, nk_r l0), (1, nk_l l1), (3, nk_l l3), (5, nk_l l5), (7, nk_l l7), (9, nk_i v1)]) rfl ?_
    exact hrec13 _ _ _ _ _ _ _ _ t_l0 hr
  · have hr := nk_ifn (c := s0 = 0) hc hr
    refine nk_p (i := .lload 10) (len := 2) (pc' := 70) mJ_369 (by decide +kernel) (ns_lload 0 rfl) rfl ?_
    refine nk_p (i := .lload_n 3) (len := 1) (pc' := 71) mJ_369 (by decide +kernel) (ns_lload_n 3 rfl rfl) rfl ?_
    obtain ⟨r3, S4, h5, hr⟩ := nk_bde hr
    refine nk_callS (ci := 0) (n := 1) (x := 19) (len := 3) (j' := 363) (q' := 1) (r := r3) (S' := S4) (L2 := [(0, nk_l l3)]) (rest := [nk_l s0]) (st' := [nk_i r3, nk_l s0]) (pc' := 74) mJ_369 (by decide +kernel) (by decide +kernel) (Nat.le_of_ble_eq_true rfl) rfl rfl (Nat.le_of_ble_eq_true rfl) mJ_363 (Nat.le_of_ble_eq_true rfl) ja_Tpos rfl (ja_X5_lowest_ok zs _ _ _ h5) rfl ?_
    refine nk_p (i := .i2l) (len := 1) (pc' := 75) mJ_369 (by decide +kernel) ns_i2l rfl ?_
    refine nk_p (i := .lcmp) (len := 1) (pc' := 76) mJ_369 (by decide +kernel) ns_lcmp rfl ?_
    refine nk_lcond (c := .lt) (off := 62) (len := 3) (t := 138) (pc' := 79) mJ_369 (by decide +kernel) (by decide +kernel) rfl (fun hc => ?_) (fun hc => ?_)
    · have hr := nk_ifp (c := s0 < r3) hc hr
      obtain ⟨v6, h7, hr⟩ := nk_lte hr
      refine nk_p (i := .iinc 9 1) (len := 3) (pc' := 141) mJ_369 (by decide +kernel) (ns_iinc (c := 1) (L' := [(9, nk_i v6), (10, nk_l s0), (0, nk_r l0), (1, nk_l l1), (3, nk_l l3), (5, nk_l l5), (7, nk_l l7)]) 6 rfl (by decide +kernel) h7 rfl (by decide +kernel)) rfl ?_
      refine nk_p (i := .goto (-128)) (len := 3) (pc' := 13) mJ_369 (by decide +kernel) (ns_goto (by decide +kernel)) rfl ?_
      refine nk_sub [2, 3, 4, 5, 6, 0] (L' := [(0, nk_r l0), (1, nk_l l1), (3, nk_l l3), (5, nk_l l5), (7, nk_l l7), (9, nk_i v6)]) rfl ?_
      exact hrec13 _ _ _ _ _ _ _ _ t_l0 hr
    · have hr := nk_ifn (c := s0 < r3) hc hr
      refine nk_p (i := .lload 10) (len := 2) (pc' := 81) mJ_369 (by decide +kernel) (ns_lload 0 rfl) rfl ?_
      refine nk_p (i := .lload_n 3) (len := 1) (pc' := 82) mJ_369 (by decide +kernel) (ns_lload_n 3 rfl rfl) rfl ?_
      obtain ⟨r8, S9, h10, hr⟩ := nk_bde hr
      refine nk_callS (ci := 0) (n := 1) (x := 29) (len := 3) (j' := 356) (q' := 1) (r := r8) (S' := S9) (L2 := [(0, nk_l l3)]) (rest := [nk_l s0]) (st' := [nk_i r8, nk_l s0]) (pc' := 85) mJ_369 (by decide +kernel) (by decide +kernel) (Nat.le_of_ble_eq_true rfl) rfl rfl (Nat.le_of_ble_eq_true rfl) mJ_356 (Nat.le_of_ble_eq_true rfl) ja_Tpos rfl (ja_X5_highest_ok zs _ _ _ h10) rfl ?_
      refine nk_p (i := .i2l) (len := 1) (pc' := 86) mJ_369 (by decide +kernel) ns_i2l rfl ?_
      refine nk_p (i := .lcmp) (len := 1) (pc' := 87) mJ_369 (by decide +kernel) ns_lcmp rfl ?_
      refine nk_lcond (c := .gt) (off := 51) (len := 3) (t := 138) (pc' := 90) mJ_369 (by decide +kernel) (by decide +kernel) rfl (fun hc => ?_) (fun hc => ?_)
      · have hr := nk_ifp (c := r8 < s0) hc hr
        obtain ⟨v11, h12, hr⟩ := nk_lte hr
        refine nk_p (i := .iinc 9 1) (len := 3) (pc' := 141) mJ_369 (by decide +kernel) (ns_iinc (c := 1) (L' := [(9, nk_i v11), (10, nk_l s0), (0, nk_r l0), (1, nk_l l1), (3, nk_l l3), (5, nk_l l5), (7, nk_l l7)]) 6 rfl (by decide +kernel) h12 rfl (by decide +kernel)) rfl ?_
        refine nk_p (i := .goto (-128)) (len := 3) (pc' := 13) mJ_369 (by decide +kernel) (ns_goto (by decide +kernel)) rfl ?_
        refine nk_sub [2, 3, 4, 5, 6, 0] (L' := [(0, nk_r l0), (1, nk_l l1), (3, nk_l l3), (5, nk_l l5), (7, nk_l l7), (9, nk_i v11)]) rfl ?_
        exact hrec13 _ _ _ _ _ _ _ _ t_l0 hr
      · have hr := nk_ifn (c := r8 < s0) hc hr
        refine nk_p (i := .lload_n 1) (len := 1) (pc' := 91) mJ_369 (by decide +kernel) (ns_lload_n 2 rfl rfl) rfl ?_
        obtain ⟨r13, S14, h15, hr⟩ := nk_bde hr
        refine nk_callS (ci := 0) (n := 1) (x := 19) (len := 3) (j' := 363) (q' := 1) (r := r13) (S' := S14) (L2 := [(0, nk_l l1)]) (rest := []) (st' := [nk_i r13]) (pc' := 94) mJ_369 (by decide +kernel) (by decide +kernel) (Nat.le_of_ble_eq_true rfl) rfl rfl (Nat.le_of_ble_eq_true rfl) mJ_363 (Nat.le_of_ble_eq_true rfl) ja_Tpos rfl (ja_X5_lowest_ok zs _ _ _ h15) rfl ?_
        refine nk_p (i := .i2l) (len := 1) (pc' := 95) mJ_369 (by decide +kernel) ns_i2l rfl ?_
        refine nk_p (i := .lload 10) (len := 2) (pc' := 97) mJ_369 (by decide +kernel) (ns_lload 0 rfl) rfl ?_
        obtain ⟨h16, hr⟩ := nk_cke hr
        refine nk_p (i := .ldiv) (len := 1) (pc' := 98) mJ_369 (by decide +kernel) (ns_ldiv h16) rfl ?_
        obtain ⟨v17, h18, hr⟩ := nk_lte hr
        refine nk_p (i := .lstore 12) (len := 2) (pc' := 100) mJ_369 (by decide +kernel) (ns_lstore (L' := [(12, nk_l v17), (10, nk_l s0), (0, nk_r l0), (1, nk_l l1), (3, nk_l l3), (5, nk_l l5), (7, nk_l l7), (9, nk_i l9)]) h18 rfl (by decide +kernel)) rfl ?_
        refine nk_p (i := .lload_n 1) (len := 1) (pc' := 101) mJ_369 (by decide +kernel) (ns_lload_n 3 rfl rfl) rfl ?_
        obtain ⟨r19, S20, h21, hr⟩ := nk_bde hr
        refine nk_callS (ci := 0) (n := 1) (x := 29) (len := 3) (j' := 356) (q' := 1) (r := r19) (S' := S20) (L2 := [(0, nk_l l1)]) (rest := []) (st' := [nk_i r19]) (pc' := 104) mJ_369 (by decide +kernel) (by decide +kernel) (Nat.le_of_ble_eq_true rfl) rfl rfl (Nat.le_of_ble_eq_true rfl) mJ_356 (Nat.le_of_ble_eq_true rfl) ja_Tpos rfl (ja_X5_highest_ok zs _ _ _ h21) rfl ?_
        refine nk_p (i := .i2l) (len := 1) (pc' := 105) mJ_369 (by decide +kernel) ns_i2l rfl ?_
        refine nk_p (i := .lload 10) (len := 2) (pc' := 107) mJ_369 (by decide +kernel) (ns_lload 1 rfl) rfl ?_
        obtain ⟨h22, hr⟩ := nk_cke hr
        refine nk_p (i := .ldiv) (len := 1) (pc' := 108) mJ_369 (by decide +kernel) (ns_ldiv h22) rfl ?_
        obtain ⟨v23, h24, hr⟩ := nk_lte hr
        refine nk_p (i := .lstore 14) (len := 2) (pc' := 110) mJ_369 (by decide +kernel) (ns_lstore (L' := [(14, nk_l v23), (12, nk_l v17), (10, nk_l s0), (0, nk_r l0), (1, nk_l l1), (3, nk_l l3), (5, nk_l l5), (7, nk_l l7), (9, nk_i l9)]) h24 rfl (by decide +kernel)) rfl ?_
        refine nk_p (i := .lload 5) (len := 2) (pc' := 112) mJ_369 (by decide +kernel) (ns_lload 6 rfl) rfl ?_
        refine nk_p (i := .lload 12) (len := 2) (pc' := 114) mJ_369 (by decide +kernel) (ns_lload 1 rfl) rfl ?_
        refine nk_p (i := .lload 14) (len := 2) (pc' := 116) mJ_369 (by decide +kernel) (ns_lload 0 rfl) rfl ?_
        obtain ⟨r25, S26, h27, hr⟩ := nk_bde hr
        refine nk_callS (ci := 0) (n := 2) (x := 75) (len := 3) (j' := 19) (q' := 2) (r := r25) (S' := S26) (L2 := [(0, nk_l v17), (2, nk_l v23)]) (rest := [nk_l l5]) (st' := [nk_l r25, nk_l l5]) (pc' := 119) mJ_369 (by decide +kernel) (by decide +kernel) (Nat.le_of_ble_eq_true rfl) rfl rfl (Nat.le_of_ble_eq_true rfl) mJ_19 (Nat.le_of_ble_eq_true rfl) ja_Tpos rfl (ja_J9_min_f86c9_ok zs _ _ _ _ h27) rfl ?_
        obtain ⟨r28, S29, h30, hr⟩ := nk_bde hr
        refine nk_callS (ci := 0) (n := 2) (x := 75) (len := 3) (j' := 19) (q' := 2) (r := r28) (S' := S29) (L2 := [(0, nk_l l5), (2, nk_l r25)]) (rest := []) (st' := [nk_l r28]) (pc' := 122) mJ_369 (by decide +kernel) (by decide +kernel) (Nat.le_of_ble_eq_true rfl) rfl rfl (Nat.le_of_ble_eq_true rfl) mJ_19 (Nat.le_of_ble_eq_true rfl) ja_Tpos rfl (ja_J9_min_f86c9_ok zs _ _ _ _ h30) rfl ?_
        refine nk_p (i := .lstore 5) (len := 2) (pc' := 124) mJ_369 (by decide +kernel) (ns_lstore (L' := [(5, nk_l r28), (14, nk_l v23), (12, nk_l v17), (10, nk_l s0), (0, nk_r l0), (1, nk_l l1), (3, nk_l l3), (7, nk_l l7), (9, nk_i l9)]) rfl rfl (by decide +kernel)) rfl ?_
        refine nk_p (i := .lload 7) (len := 2) (pc' := 126) mJ_369 (by decide +kernel) (ns_lload 7 rfl) rfl ?_
        refine nk_p (i := .lload 12) (len := 2) (pc' := 128) mJ_369 (by decide +kernel) (ns_lload 2 rfl) rfl ?_
        refine nk_p (i := .lload 14) (len := 2) (pc' := 130) mJ_369 (by decide +kernel) (ns_lload 1 rfl) rfl ?_
        obtain ⟨r31, S32, h33, hr⟩ := nk_bde hr
        refine nk_callS (ci := 0) (n := 2) (x := 72) (len := 3) (j' := 17) (q' := 2) (r := r31) (S' := S32) (L2 := [(0, nk_l v17), (2, nk_l v23)]) (rest := [nk_l l7]) (st' := [nk_l r31, nk_l l7]) (pc' := 133) mJ_369 (by decide +kernel) (by decide +kernel) (Nat.le_of_ble_eq_true rfl) rfl rfl (Nat.le_of_ble_eq_true rfl) mJ_17 (Nat.le_of_ble_eq_true rfl) ja_Tpos rfl (ja_J9_max_f86c9_ok zs _ _ _ _ h33) rfl ?_
        obtain ⟨r34, S35, h36, hr⟩ := nk_bde hr
        refine nk_callS (ci := 0) (n := 2) (x := 72) (len := 3) (j' := 17) (q' := 2) (r := r34) (S' := S35) (L2 := [(0, nk_l l7), (2, nk_l r31)]) (rest := []) (st' := [nk_l r34]) (pc' := 136) mJ_369 (by decide +kernel) (by decide +kernel) (Nat.le_of_ble_eq_true rfl) rfl rfl (Nat.le_of_ble_eq_true rfl) mJ_17 (Nat.le_of_ble_eq_true rfl) ja_Tpos rfl (ja_J9_max_f86c9_ok zs _ _ _ _ h36) rfl ?_
        refine nk_p (i := .lstore 7) (len := 2) (pc' := 138) mJ_369 (by decide +kernel) (ns_lstore (L' := [(7, nk_l r34), (5, nk_l r28), (14, nk_l v23), (12, nk_l v17), (10, nk_l s0), (0, nk_r l0), (1, nk_l l1), (3, nk_l l3), (9, nk_i l9)]) rfl rfl (by decide +kernel)) rfl ?_
        obtain ⟨v37, h38, hr⟩ := nk_lte hr
        refine nk_p (i := .iinc 9 1) (len := 3) (pc' := 141) mJ_369 (by decide +kernel) (ns_iinc (c := 1) (L' := [(9, nk_i v37), (7, nk_l r34), (5, nk_l r28), (14, nk_l v23), (12, nk_l v17), (10, nk_l s0), (0, nk_r l0), (1, nk_l l1), (3, nk_l l3)]) 8 rfl (by decide +kernel) h38 rfl (by decide +kernel)) rfl ?_
        refine nk_p (i := .goto (-128)) (len := 3) (pc' := 13) mJ_369 (by decide +kernel) (ns_goto (by decide +kernel)) rfl ?_
        refine nk_sub [6, 7, 8, 2, 1, 0] (L' := [(0, nk_r l0), (1, nk_l l1), (3, nk_l l3), (5, nk_l r28), (7, nk_l r34), (9, nk_i v37)]) rfl ?_
        exact hrec13 _ _ _ _ _ _ _ _ t_l0 hr
noncomputable def ja_X5_quotient_b13 (rec13 : Nat → Int → Int → Int → Int → Int → nk_S → Option (Int × nk_S)) (l0 : Nat) (l1 : Int) (l3 : Int) (l5 : Int) (l7 : Int) (l9 : Int) (S : nk_S) : Option (Int × nk_S) :=
  if 4 ≤ l9 then
    if l5 ≤ l7 then
      nk_bd (ja_X5_around l0 l5 l7 S) fun r1 S2 =>
      some (r1, S2)
    else
      some (9223372034707292160, S)
  else
    if l9 = 0 then
      ja_X5_quotient_b59 rec13 l0 l1 l3 l5 l7 l9 (-1) S
    else
      if l9 = 1 then
        ja_X5_quotient_b59 rec13 l0 l1 l3 l5 l7 l9 1 S
      else
        if l9 = 2 then
          nk_bd (ja_X5_lowest l3 S) fun r7 S8 =>
          ja_X5_quotient_b59 rec13 l0 l1 l3 l5 l7 l9 r7 S8
        else
          nk_bd (ja_X5_highest l3 S) fun r4 S5 =>
          ja_X5_quotient_b59 rec13 l0 l1 l3 l5 l7 l9 r4 S5
theorem ja_X5_quotient_b13_ok (zs : List Int32) {rec13 : Nat → Int → Int → Int → Int → Int → nk_S → Option (Int × nk_S)} (hrec13 : ∀ (l0 : Nat) (l1 : Int) (l3 : Int) (l5 : Int) (l7 : Int) (l9 : Int) (S : nk_S) (R : Int × nk_S), nk_cl ja_Tt l0 = some 5 → rec13 l0 l1 l3 l5 l7 l9 S = some R → nk_K ja_Tt mi_Γ (mi_ev zs) 2 369 13 [(0, nk_r l0), (1, nk_l l1), (3, nk_l l3), (5, nk_l l5), (7, nk_l l7), (9, nk_i l9)] [] S R) : ∀ (l0 : Nat) (l1 : Int) (l3 : Int) (l5 : Int) (l7 : Int) (l9 : Int) (S : nk_S) (R : Int × nk_S), nk_cl ja_Tt l0 = some 5 → ja_X5_quotient_b13 rec13 l0 l1 l3 l5 l7 l9 S = some R → nk_K ja_Tt mi_Γ (mi_ev zs) 2 369 13 [(0, nk_r l0), (1, nk_l l1), (3, nk_l l3), (5, nk_l l5), (7, nk_l l7), (9, nk_i l9)] [] S R := by
  intro l0 l1 l3 l5 l7 l9 S R t_l0 hr
  unfold ja_X5_quotient_b13 at hr
  refine nk_p (i := .iload 9) (len := 2) (pc' := 15) mJ_369 (by decide +kernel) (ns_iload 5 rfl) rfl ?_
  refine nk_p (i := .iconst 4) (len := 1) (pc' := 16) mJ_369 (by decide +kernel) (ns_iconst (c := 4) (by decide +kernel)) rfl ?_
  refine nk_icmp (c := .ge) (off := 128) (len := 3) (t := 144) (pc' := 19) mJ_369 (by decide +kernel) (by decide +kernel) rfl (fun hc => ?_) (fun hc => ?_)
  · have hr := nk_ifp (c := 4 ≤ l9) hc hr
    refine nk_p (i := .lload 5) (len := 2) (pc' := 146) mJ_369 (by decide +kernel) (ns_lload 3 rfl) rfl ?_
    refine nk_p (i := .lload 7) (len := 2) (pc' := 148) mJ_369 (by decide +kernel) (ns_lload 4 rfl) rfl ?_
    refine nk_p (i := .lcmp) (len := 1) (pc' := 149) mJ_369 (by decide +kernel) ns_lcmp rfl ?_
    refine nk_lcond (c := .le) (off := 9) (len := 3) (t := 158) (pc' := 152) mJ_369 (by decide +kernel) (by decide +kernel) rfl (fun hc => ?_) (fun hc => ?_)
    · have hr := nk_ifp (c := l5 ≤ l7) hc hr
      refine nk_p (i := .aload_n 0) (len := 1) (pc' := 159) mJ_369 (by decide +kernel) (ns_aload_n 0 rfl rfl) rfl ?_
      refine nk_p (i := .lload 5) (len := 2) (pc' := 161) mJ_369 (by decide +kernel) (ns_lload 3 rfl) rfl ?_
      refine nk_p (i := .lload 7) (len := 2) (pc' := 163) mJ_369 (by decide +kernel) (ns_lload 4 rfl) rfl ?_
      obtain ⟨r1, S2, h3, hr⟩ := nk_bde hr
      refine nk_callV (ci := 5) (n := 2) (x := 77) (len := 3) (j' := 349) (q' := 2) (r := r1) (S' := S2) (L2 := [(0, nk_r l0), (1, nk_l l5), (3, nk_l l7)]) (rest := []) (st' := [nk_l r1]) (pc' := 166) mJ_369 (by decide +kernel) (by decide +kernel) rfl rfl t_l0 (Nat.le_of_ble_eq_true rfl) mJ_349 (Nat.le_of_ble_eq_true rfl) rfl (ja_X5_around_ok zs _ _ _ _ _ t_l0 h3) rfl ?_
      cases hr
      exact nk_lret (len := 1) mJ_369 (by decide +kernel) rfl
    · have hr := nk_ifn (c := l5 ≤ l7) hc hr
      refine nk_ldc2 (x := 35) (len := 3) (X := 9223372034707292160) (v := 9223372034707292160) (pc' := 155) mJ_369 (by decide +kernel) (by decide +kernel) (by decide +kernel) rfl ?_
      refine nk_p (i := .goto 11) (len := 3) (pc' := 166) mJ_369 (by decide +kernel) (ns_goto (by decide +kernel)) rfl ?_
      cases hr
      exact nk_lret (len := 1) mJ_369 (by decide +kernel) rfl
  · have hr := nk_ifn (c := 4 ≤ l9) hc hr
    refine nk_p (i := .iload 9) (len := 2) (pc' := 21) mJ_369 (by decide +kernel) (ns_iload 5 rfl) rfl ?_
    refine nk_icond (c := .ne) (off := 9) (len := 3) (t := 30) (pc' := 24) mJ_369 (by decide +kernel) (by decide +kernel) rfl (fun hc => ?_) (fun hc => ?_)
    · have hr := nk_ifn (c := l9 = 0) hc hr
      refine nk_p (i := .iload 9) (len := 2) (pc' := 32) mJ_369 (by decide +kernel) (ns_iload 5 rfl) rfl ?_
      refine nk_p (i := .iconst 1) (len := 1) (pc' := 33) mJ_369 (by decide +kernel) (ns_iconst (c := 1) (by decide +kernel)) rfl ?_
      refine nk_icmp (c := .ne) (off := 7) (len := 3) (t := 40) (pc' := 36) mJ_369 (by decide +kernel) (by decide +kernel) rfl (fun hc => ?_) (fun hc => ?_)
      · have hr := nk_ifn (c := l9 = 1) hc hr
        refine nk_p (i := .iload 9) (len := 2) (pc' := 42) mJ_369 (by decide +kernel) (ns_iload 5 rfl) rfl ?_
        refine nk_p (i := .iconst 2) (len := 1) (pc' := 43) mJ_369 (by decide +kernel) (ns_iconst (c := 2) (by decide +kernel)) rfl ?_
        refine nk_icmp (c := .ne) (off := 11) (len := 3) (t := 54) (pc' := 46) mJ_369 (by decide +kernel) (by decide +kernel) rfl (fun hc => ?_) (fun hc => ?_)
        · have hr := nk_ifn (c := l9 = 2) hc hr
          refine nk_p (i := .lload_n 3) (len := 1) (pc' := 55) mJ_369 (by decide +kernel) (ns_lload_n 2 rfl rfl) rfl ?_
          obtain ⟨r4, S5, h6, hr⟩ := nk_bde hr
          refine nk_callS (ci := 0) (n := 1) (x := 29) (len := 3) (j' := 356) (q' := 1) (r := r4) (S' := S5) (L2 := [(0, nk_l l3)]) (rest := []) (st' := [nk_i r4]) (pc' := 58) mJ_369 (by decide +kernel) (by decide +kernel) (Nat.le_of_ble_eq_true rfl) rfl rfl (Nat.le_of_ble_eq_true rfl) mJ_356 (Nat.le_of_ble_eq_true rfl) ja_Tpos rfl (ja_X5_highest_ok zs _ _ _ h6) rfl ?_
          refine nk_p (i := .i2l) (len := 1) (pc' := 59) mJ_369 (by decide +kernel) ns_i2l rfl ?_
          exact ja_X5_quotient_b59_ok zs hrec13 _ _ _ _ _ _ _ _ _ t_l0 hr
        · have hr := nk_ifp (c := l9 = 2) (Decidable.of_not_not hc) hr
          refine nk_p (i := .lload_n 3) (len := 1) (pc' := 47) mJ_369 (by decide +kernel) (ns_lload_n 2 rfl rfl) rfl ?_
          obtain ⟨r7, S8, h9, hr⟩ := nk_bde hr
          refine nk_callS (ci := 0) (n := 1) (x := 19) (len := 3) (j' := 363) (q' := 1) (r := r7) (S' := S8) (L2 := [(0, nk_l l3)]) (rest := []) (st' := [nk_i r7]) (pc' := 50) mJ_369 (by decide +kernel) (by decide +kernel) (Nat.le_of_ble_eq_true rfl) rfl rfl (Nat.le_of_ble_eq_true rfl) mJ_363 (Nat.le_of_ble_eq_true rfl) ja_Tpos rfl (ja_X5_lowest_ok zs _ _ _ h9) rfl ?_
          refine nk_p (i := .i2l) (len := 1) (pc' := 51) mJ_369 (by decide +kernel) ns_i2l rfl ?_
          refine nk_p (i := .goto 8) (len := 3) (pc' := 59) mJ_369 (by decide +kernel) (ns_goto (by decide +kernel)) rfl ?_
          exact ja_X5_quotient_b59_ok zs hrec13 _ _ _ _ _ _ _ _ _ t_l0 hr
      · have hr := nk_ifp (c := l9 = 1) (Decidable.of_not_not hc) hr
        refine nk_p (i := .lconst 1) (len := 1) (pc' := 37) mJ_369 (by decide +kernel) (ns_lconst (c := 1) (by decide +kernel)) rfl ?_
        refine nk_p (i := .goto 22) (len := 3) (pc' := 59) mJ_369 (by decide +kernel) (ns_goto (by decide +kernel)) rfl ?_
        exact ja_X5_quotient_b59_ok zs hrec13 _ _ _ _ _ _ _ _ _ t_l0 hr
    · have hr := nk_ifp (c := l9 = 0) (Decidable.of_not_not hc) hr
      refine nk_ldc2 (x := 109) (len := 3) (X := (-1)) (v := (-1)) (pc' := 27) mJ_369 (by decide +kernel) (by decide +kernel) (by decide +kernel) rfl ?_
      refine nk_p (i := .goto 32) (len := 3) (pc' := 59) mJ_369 (by decide +kernel) (ns_goto (by decide +kernel)) rfl ?_
      exact ja_X5_quotient_b59_ok zs hrec13 _ _ _ _ _ _ _ _ _ t_l0 hr
noncomputable def ja_X5_quotient_L13 : Nat → Nat → Int → Int → Int → Int → Int → nk_S → Option (Int × nk_S)
  | 0, _, _, _, _, _, _, _ => none
  | n + 1, l0, l1, l3, l5, l7, l9, S => ja_X5_quotient_b13 (ja_X5_quotient_L13 n) l0 l1 l3 l5 l7 l9 S
theorem ja_X5_quotient_L13_ok (zs : List Int32) : ∀ n : Nat, ∀ (l0 : Nat) (l1 : Int) (l3 : Int) (l5 : Int) (l7 : Int) (l9 : Int) (S : nk_S) (R : Int × nk_S), nk_cl ja_Tt l0 = some 5 → ja_X5_quotient_L13 n l0 l1 l3 l5 l7 l9 S = some R → nk_K ja_Tt mi_Γ (mi_ev zs) 2 369 13 [(0, nk_r l0), (1, nk_l l1), (3, nk_l l3), (5, nk_l l5), (7, nk_l l7), (9, nk_i l9)] [] S R := by
  intro n
  induction n with
  | zero => intro _ _ _ _ _ _ _ _ _ hr; cases hr
  | succ n ih => intro l0 l1 l3 l5 l7 l9 S R t_l0 hr; exact ja_X5_quotient_b13_ok zs ih l0 l1 l3 l5 l7 l9 S R t_l0 hr
noncomputable def ja_X5_quotient (l0 : Nat) (l1 : Int) (l3 : Int) (S : nk_S) : Option (Int × nk_S) :=
  ja_X5_quotient_L13 nk_big l0 l1 l3 9223372036854775807 (-9223372036854775808) 0 S
theorem ja_X5_quotient_ok (zs : List Int32) : ∀ (l0 : Nat) (l1 : Int) (l3 : Int) (S : nk_S) (R : Int × nk_S), nk_cl ja_Tt l0 = some 5 → ja_X5_quotient l0 l1 l3 S = some R → nk_K ja_Tt mi_Γ (mi_ev zs) 2 369 0 [(0, nk_r l0), (1, nk_l l1), (3, nk_l l3)] [] S R := by
  intro l0 l1 l3 S R t_l0 hr
  unfold ja_X5_quotient at hr
  refine nk_ldc2 (x := 105) (len := 3) (X := 9223372036854775807) (v := 9223372036854775807) (pc' := 3) mJ_369 (by decide +kernel) (by decide +kernel) (by decide +kernel) rfl ?_
  refine nk_p (i := .lstore 5) (len := 2) (pc' := 5) mJ_369 (by decide +kernel) (ns_lstore (L' := [(5, nk_l 9223372036854775807), (0, nk_r l0), (1, nk_l l1), (3, nk_l l3)]) rfl rfl (by decide +kernel)) rfl ?_
  refine nk_ldc2 (x := 107) (len := 3) (X := (-9223372036854775808)) (v := (-9223372036854775808)) (pc' := 8) mJ_369 (by decide +kernel) (by decide +kernel) (by decide +kernel) rfl ?_
  refine nk_p (i := .lstore 7) (len := 2) (pc' := 10) mJ_369 (by decide +kernel) (ns_lstore (L' := [(7, nk_l (-9223372036854775808)), (5, nk_l 9223372036854775807), (0, nk_r l0), (1, nk_l l1), (3, nk_l l3)]) rfl rfl (by decide +kernel)) rfl ?_
  refine nk_p (i := .iconst 0) (len := 1) (pc' := 11) mJ_369 (by decide +kernel) (ns_iconst (c := 0) (by decide +kernel)) rfl ?_
  refine nk_p (i := .istore 9) (len := 2) (pc' := 13) mJ_369 (by decide +kernel) (ns_istore (L' := [(9, nk_i 0), (7, nk_l (-9223372036854775808)), (5, nk_l 9223372036854775807), (0, nk_r l0), (1, nk_l l1), (3, nk_l l3)]) rfl rfl (by decide +kernel)) rfl ?_
  refine nk_sub [3, 4, 5, 2, 1, 0] (L' := [(0, nk_r l0), (1, nk_l l1), (3, nk_l l3), (5, nk_l 9223372036854775807), (7, nk_l (-9223372036854775808)), (9, nk_i 0)]) rfl ?_
  exact ja_X5_quotient_L13_ok zs nk_big _ _ _ _ _ _ _ _ t_l0 hr
/-! SafeCode$Ranges remainder (JJ)J -/
noncomputable def ja_X5_remainder_b95 (s0 : Nat) (s1 : Int) (s2 : Int) (S : nk_S) : Option (Int × nk_S) :=
  nk_bd (ja_X5_around s0 s1 s2 S) fun r1 S2 =>
  some (r1, S2)
theorem ja_X5_remainder_b95_ok (zs : List Int32) : ∀ (s0 : Nat) (s1 : Int) (s2 : Int) (S : nk_S) (R : Int × nk_S), nk_cl ja_Tt s0 = some 5 → ja_X5_remainder_b95 s0 s1 s2 S = some R → nk_K ja_Tt mi_Γ (mi_ev zs) 2 370 95 [] [nk_l s2, nk_l s1, nk_r s0] S R := by
  intro s0 s1 s2 S R t_s0 hr
  unfold ja_X5_remainder_b95 at hr
  obtain ⟨r1, S2, h3, hr⟩ := nk_bde hr
  refine nk_callV (ci := 5) (n := 2) (x := 77) (len := 3) (j' := 349) (q' := 2) (r := r1) (S' := S2) (L2 := [(0, nk_r s0), (1, nk_l s1), (3, nk_l s2)]) (rest := []) (st' := [nk_l r1]) (pc' := 98) mJ_370 (by decide +kernel) (by decide +kernel) rfl rfl t_s0 (Nat.le_of_ble_eq_true rfl) mJ_349 (Nat.le_of_ble_eq_true rfl) rfl (ja_X5_around_ok zs _ _ _ _ _ t_s0 h3) rfl ?_
  cases hr
  exact nk_lret (len := 1) mJ_370 (by decide +kernel) rfl
noncomputable def ja_X5_remainder (l0 : Nat) (l1 : Int) (l3 : Int) (S : nk_S) : Option (Int × nk_S) :=
  nk_bd (ja_X5_lowest l1 S) fun r1 S2 =>
  nk_bd (ja_X5_highest l1 S2) fun r4 S5 =>
  nk_bd (ja_X5_lowest l3 S5) fun r7 S8 =>
  nk_bd (ja_J9_abs_067f4 r7 S8) fun r10 S11 =>
  nk_bd (ja_X5_highest l3 S11) fun r13 S14 =>
  nk_bd (ja_J9_abs_067f4 r13 S14) fun r16 S17 =>
  nk_bd (ja_J9_max_f86c9 r10 r16 S17) fun r19 S20 =>
  nk_lt (nk_W (r19 - 1)) fun v22 =>
  if 0 ≤ v22 then
    if r1 < 0 then
      nk_bd (ja_J9_max_f86c9 r1 (nk_W (-v22)) S20) fun r24 S25 =>
      if 0 < r4 then
        nk_bd (ja_J9_min_f86c9 r4 v22 S25) fun r27 S28 =>
        ja_X5_remainder_b95 l0 r24 r27 S28
      else
        ja_X5_remainder_b95 l0 r24 0 S25
    else
      nk_bd (ja_J9_min_f86c9 r4 v22 S20) fun r30 S31 =>
      nk_bd (ja_X5_around l0 0 r30 S31) fun r33 S34 =>
      some (r33, S34)
  else
    some (9223372034707292160, S20)
theorem ja_X5_remainder_ok (zs : List Int32) : ∀ (l0 : Nat) (l1 : Int) (l3 : Int) (S : nk_S) (R : Int × nk_S), nk_cl ja_Tt l0 = some 5 → ja_X5_remainder l0 l1 l3 S = some R → nk_K ja_Tt mi_Γ (mi_ev zs) 2 370 0 [(0, nk_r l0), (1, nk_l l1), (3, nk_l l3)] [] S R := by
  intro l0 l1 l3 S R t_l0 hr
  unfold ja_X5_remainder at hr
  refine nk_p (i := .lload_n 1) (len := 1) (pc' := 1) mJ_370 (by decide +kernel) (ns_lload_n 1 rfl rfl) rfl ?_
  obtain ⟨r1, S2, h3, hr⟩ := nk_bde hr
  refine nk_callS (ci := 0) (n := 1) (x := 19) (len := 3) (j' := 363) (q' := 1) (r := r1) (S' := S2) (L2 := [(0, nk_l l1)]) (rest := []) (st' := [nk_i r1]) (pc' := 4) mJ_370 (by decide +kernel) (by decide +kernel) (Nat.le_of_ble_eq_true rfl) rfl rfl (Nat.le_of_ble_eq_true rfl) mJ_363 (Nat.le_of_ble_eq_true rfl) ja_Tpos rfl (ja_X5_lowest_ok zs _ _ _ h3) rfl ?_
  refine nk_p (i := .i2l) (len := 1) (pc' := 5) mJ_370 (by decide +kernel) ns_i2l rfl ?_
  refine nk_p (i := .lstore 5) (len := 2) (pc' := 7) mJ_370 (by decide +kernel) (ns_lstore (L' := [(5, nk_l r1), (0, nk_r l0), (1, nk_l l1), (3, nk_l l3)]) rfl rfl (by decide +kernel)) rfl ?_
  refine nk_p (i := .lload_n 1) (len := 1) (pc' := 8) mJ_370 (by decide +kernel) (ns_lload_n 2 rfl rfl) rfl ?_
  obtain ⟨r4, S5, h6, hr⟩ := nk_bde hr
  refine nk_callS (ci := 0) (n := 1) (x := 29) (len := 3) (j' := 356) (q' := 1) (r := r4) (S' := S5) (L2 := [(0, nk_l l1)]) (rest := []) (st' := [nk_i r4]) (pc' := 11) mJ_370 (by decide +kernel) (by decide +kernel) (Nat.le_of_ble_eq_true rfl) rfl rfl (Nat.le_of_ble_eq_true rfl) mJ_356 (Nat.le_of_ble_eq_true rfl) ja_Tpos rfl (ja_X5_highest_ok zs _ _ _ h6) rfl ?_
  refine nk_p (i := .i2l) (len := 1) (pc' := 12) mJ_370 (by decide +kernel) ns_i2l rfl ?_
  refine nk_p (i := .lstore 7) (len := 2) (pc' := 14) mJ_370 (by decide +kernel) (ns_lstore (L' := [(7, nk_l r4), (5, nk_l r1), (0, nk_r l0), (1, nk_l l1), (3, nk_l l3)]) rfl rfl (by decide +kernel)) rfl ?_
  refine nk_p (i := .lload_n 3) (len := 1) (pc' := 15) mJ_370 (by decide +kernel) (ns_lload_n 4 rfl rfl) rfl ?_
  obtain ⟨r7, S8, h9, hr⟩ := nk_bde hr
  refine nk_callS (ci := 0) (n := 1) (x := 19) (len := 3) (j' := 363) (q' := 1) (r := r7) (S' := S8) (L2 := [(0, nk_l l3)]) (rest := []) (st' := [nk_i r7]) (pc' := 18) mJ_370 (by decide +kernel) (by decide +kernel) (Nat.le_of_ble_eq_true rfl) rfl rfl (Nat.le_of_ble_eq_true rfl) mJ_363 (Nat.le_of_ble_eq_true rfl) ja_Tpos rfl (ja_X5_lowest_ok zs _ _ _ h9) rfl ?_
  refine nk_p (i := .i2l) (len := 1) (pc' := 19) mJ_370 (by decide +kernel) ns_i2l rfl ?_
  obtain ⟨r10, S11, h12, hr⟩ := nk_bde hr
  refine nk_callS (ci := 0) (n := 1) (x := 111) (len := 3) (j' := 15) (q' := 2) (r := r10) (S' := S11) (L2 := [(0, nk_l r7)]) (rest := []) (st' := [nk_l r10]) (pc' := 22) mJ_370 (by decide +kernel) (by decide +kernel) (Nat.le_of_ble_eq_true rfl) rfl rfl (Nat.le_of_ble_eq_true rfl) mJ_15 (Nat.le_of_ble_eq_true rfl) ja_Tpos rfl (ja_J9_abs_067f4_ok zs _ _ _ h12) rfl ?_
  refine nk_p (i := .lload_n 3) (len := 1) (pc' := 23) mJ_370 (by decide +kernel) (ns_lload_n 4 rfl rfl) rfl ?_
  obtain ⟨r13, S14, h15, hr⟩ := nk_bde hr
  refine nk_callS (ci := 0) (n := 1) (x := 29) (len := 3) (j' := 356) (q' := 1) (r := r13) (S' := S14) (L2 := [(0, nk_l l3)]) (rest := [nk_l r10]) (st' := [nk_i r13, nk_l r10]) (pc' := 26) mJ_370 (by decide +kernel) (by decide +kernel) (Nat.le_of_ble_eq_true rfl) rfl rfl (Nat.le_of_ble_eq_true rfl) mJ_356 (Nat.le_of_ble_eq_true rfl) ja_Tpos rfl (ja_X5_highest_ok zs _ _ _ h15) rfl ?_
  refine nk_p (i := .i2l) (len := 1) (pc' := 27) mJ_370 (by decide +kernel) ns_i2l rfl ?_
  obtain ⟨r16, S17, h18, hr⟩ := nk_bde hr
  refine nk_callS (ci := 0) (n := 1) (x := 111) (len := 3) (j' := 15) (q' := 2) (r := r16) (S' := S17) (L2 := [(0, nk_l r13)]) (rest := [nk_l r10]) (st' := [nk_l r16, nk_l r10]) (pc' := 30) mJ_370 (by decide +kernel) (by decide +kernel) (Nat.le_of_ble_eq_true rfl) rfl rfl (Nat.le_of_ble_eq_true rfl) mJ_15 (Nat.le_of_ble_eq_true rfl) ja_Tpos rfl (ja_J9_abs_067f4_ok zs _ _ _ h18) rfl ?_
  obtain ⟨r19, S20, h21, hr⟩ := nk_bde hr
  refine nk_callS (ci := 0) (n := 2) (x := 72) (len := 3) (j' := 17) (q' := 2) (r := r19) (S' := S20) (L2 := [(0, nk_l r10), (2, nk_l r16)]) (rest := []) (st' := [nk_l r19]) (pc' := 33) mJ_370 (by decide +kernel) (by decide +kernel) (Nat.le_of_ble_eq_true rfl) rfl rfl (Nat.le_of_ble_eq_true rfl) mJ_17 (Nat.le_of_ble_eq_true rfl) ja_Tpos rfl (ja_J9_max_f86c9_ok zs _ _ _ _ h21) rfl ?_
  refine nk_p (i := .lconst 1) (len := 1) (pc' := 34) mJ_370 (by decide +kernel) (ns_lconst (c := 1) (by decide +kernel)) rfl ?_
  refine nk_p (i := .lsub) (len := 1) (pc' := 35) mJ_370 (by decide +kernel) ns_lsub rfl ?_
  obtain ⟨v22, h23, hr⟩ := nk_lte hr
  refine nk_p (i := .lstore 9) (len := 2) (pc' := 37) mJ_370 (by decide +kernel) (ns_lstore (L' := [(9, nk_l v22), (7, nk_l r4), (5, nk_l r1), (0, nk_r l0), (1, nk_l l1), (3, nk_l l3)]) h23 rfl (by decide +kernel)) rfl ?_
  refine nk_p (i := .lload 9) (len := 2) (pc' := 39) mJ_370 (by decide +kernel) (ns_lload 0 rfl) rfl ?_
  refine nk_p (i := .lconst 0) (len := 1) (pc' := 40) mJ_370 (by decide +kernel) (ns_lconst (c := 0) (by decide +kernel)) rfl ?_
  refine nk_p (i := .lcmp) (len := 1) (pc' := 41) mJ_370 (by decide +kernel) ns_lcmp rfl ?_
  refine nk_lcond (c := .ge) (off := 7) (len := 3) (t := 48) (pc' := 44) mJ_370 (by decide +kernel) (by decide +kernel) rfl (fun hc => ?_) (fun hc => ?_)
  · have hr := nk_ifp (c := 0 ≤ v22) hc hr
    refine nk_p (i := .lload 5) (len := 2) (pc' := 50) mJ_370 (by decide +kernel) (ns_lload 2 rfl) rfl ?_
    refine nk_p (i := .lconst 0) (len := 1) (pc' := 51) mJ_370 (by decide +kernel) (ns_lconst (c := 0) (by decide +kernel)) rfl ?_
    refine nk_p (i := .lcmp) (len := 1) (pc' := 52) mJ_370 (by decide +kernel) ns_lcmp rfl ?_
    refine nk_lcond (c := .lt) (off := 16) (len := 3) (t := 68) (pc' := 55) mJ_370 (by decide +kernel) (by decide +kernel) rfl (fun hc => ?_) (fun hc => ?_)
    · have hr := nk_ifp (c := r1 < 0) hc hr
      refine nk_p (i := .aload_n 0) (len := 1) (pc' := 69) mJ_370 (by decide +kernel) (ns_aload_n 3 rfl rfl) rfl ?_
      refine nk_p (i := .lload 5) (len := 2) (pc' := 71) mJ_370 (by decide +kernel) (ns_lload 2 rfl) rfl ?_
      refine nk_p (i := .lload 9) (len := 2) (pc' := 73) mJ_370 (by decide +kernel) (ns_lload 0 rfl) rfl ?_
      refine nk_p (i := .lneg) (len := 1) (pc' := 74) mJ_370 (by decide +kernel) ns_lneg rfl ?_
      obtain ⟨r24, S25, h26, hr⟩ := nk_bde hr
      refine nk_callS (ci := 0) (n := 2) (x := 72) (len := 3) (j' := 17) (q' := 2) (r := r24) (S' := S25) (L2 := [(0, nk_l r1), (2, nk_l (nk_W (-v22)))]) (rest := [nk_r l0]) (st' := [nk_l r24, nk_r l0]) (pc' := 77) mJ_370 (by decide +kernel) (by decide +kernel) (Nat.le_of_ble_eq_true rfl) rfl rfl (Nat.le_of_ble_eq_true rfl) mJ_17 (Nat.le_of_ble_eq_true rfl) ja_Tpos rfl (ja_J9_max_f86c9_ok zs _ _ _ _ h26) rfl ?_
      refine nk_p (i := .lload 7) (len := 2) (pc' := 79) mJ_370 (by decide +kernel) (ns_lload 1 rfl) rfl ?_
      refine nk_p (i := .lconst 0) (len := 1) (pc' := 80) mJ_370 (by decide +kernel) (ns_lconst (c := 0) (by decide +kernel)) rfl ?_
      refine nk_p (i := .lcmp) (len := 1) (pc' := 81) mJ_370 (by decide +kernel) ns_lcmp rfl ?_
      refine nk_lcond (c := .gt) (off := 7) (len := 3) (t := 88) (pc' := 84) mJ_370 (by decide +kernel) (by decide +kernel) rfl (fun hc => ?_) (fun hc => ?_)
      · have hr := nk_ifp (c := 0 < r4) hc hr
        refine nk_p (i := .lload 7) (len := 2) (pc' := 90) mJ_370 (by decide +kernel) (ns_lload 1 rfl) rfl ?_
        refine nk_p (i := .lload 9) (len := 2) (pc' := 92) mJ_370 (by decide +kernel) (ns_lload 0 rfl) rfl ?_
        obtain ⟨r27, S28, h29, hr⟩ := nk_bde hr
        refine nk_callS (ci := 0) (n := 2) (x := 75) (len := 3) (j' := 19) (q' := 2) (r := r27) (S' := S28) (L2 := [(0, nk_l r4), (2, nk_l v22)]) (rest := [nk_l r24, nk_r l0]) (st' := [nk_l r27, nk_l r24, nk_r l0]) (pc' := 95) mJ_370 (by decide +kernel) (by decide +kernel) (Nat.le_of_ble_eq_true rfl) rfl rfl (Nat.le_of_ble_eq_true rfl) mJ_19 (Nat.le_of_ble_eq_true rfl) ja_Tpos rfl (ja_J9_min_f86c9_ok zs _ _ _ _ h29) rfl ?_
        refine nk_sub [] (L' := []) rfl ?_
        exact ja_X5_remainder_b95_ok zs _ _ _ _ _ t_l0 hr
      · have hr := nk_ifn (c := 0 < r4) hc hr
        refine nk_p (i := .lconst 0) (len := 1) (pc' := 85) mJ_370 (by decide +kernel) (ns_lconst (c := 0) (by decide +kernel)) rfl ?_
        refine nk_p (i := .goto 10) (len := 3) (pc' := 95) mJ_370 (by decide +kernel) (ns_goto (by decide +kernel)) rfl ?_
        refine nk_sub [] (L' := []) rfl ?_
        exact ja_X5_remainder_b95_ok zs _ _ _ _ _ t_l0 hr
    · have hr := nk_ifn (c := r1 < 0) hc hr
      refine nk_p (i := .aload_n 0) (len := 1) (pc' := 56) mJ_370 (by decide +kernel) (ns_aload_n 3 rfl rfl) rfl ?_
      refine nk_p (i := .lconst 0) (len := 1) (pc' := 57) mJ_370 (by decide +kernel) (ns_lconst (c := 0) (by decide +kernel)) rfl ?_
      refine nk_p (i := .lload 7) (len := 2) (pc' := 59) mJ_370 (by decide +kernel) (ns_lload 1 rfl) rfl ?_
      refine nk_p (i := .lload 9) (len := 2) (pc' := 61) mJ_370 (by decide +kernel) (ns_lload 0 rfl) rfl ?_
      obtain ⟨r30, S31, h32, hr⟩ := nk_bde hr
      refine nk_callS (ci := 0) (n := 2) (x := 75) (len := 3) (j' := 19) (q' := 2) (r := r30) (S' := S31) (L2 := [(0, nk_l r4), (2, nk_l v22)]) (rest := [nk_l 0, nk_r l0]) (st' := [nk_l r30, nk_l 0, nk_r l0]) (pc' := 64) mJ_370 (by decide +kernel) (by decide +kernel) (Nat.le_of_ble_eq_true rfl) rfl rfl (Nat.le_of_ble_eq_true rfl) mJ_19 (Nat.le_of_ble_eq_true rfl) ja_Tpos rfl (ja_J9_min_f86c9_ok zs _ _ _ _ h32) rfl ?_
      obtain ⟨r33, S34, h35, hr⟩ := nk_bde hr
      refine nk_callV (ci := 5) (n := 2) (x := 77) (len := 3) (j' := 349) (q' := 2) (r := r33) (S' := S34) (L2 := [(0, nk_r l0), (1, nk_l 0), (3, nk_l r30)]) (rest := []) (st' := [nk_l r33]) (pc' := 67) mJ_370 (by decide +kernel) (by decide +kernel) rfl rfl t_l0 (Nat.le_of_ble_eq_true rfl) mJ_349 (Nat.le_of_ble_eq_true rfl) rfl (ja_X5_around_ok zs _ _ _ _ _ t_l0 h35) rfl ?_
      cases hr
      exact nk_lret (len := 1) mJ_370 (by decide +kernel) rfl
  · have hr := nk_ifn (c := 0 ≤ v22) hc hr
    refine nk_ldc2 (x := 35) (len := 3) (X := 9223372034707292160) (v := 9223372034707292160) (pc' := 47) mJ_370 (by decide +kernel) (by decide +kernel) (by decide +kernel) rfl ?_
    cases hr
    exact nk_lret (len := 1) mJ_370 (by decide +kernel) rfl
/-! SafeCode$Ranges conjunction (JJ)J -/
noncomputable def ja_X5_conjunction_b56 (l0 : Nat) (l1 : Int) (l3 : Int) (l5 : Int) (l6 : Int) (S : nk_S) : Option (Int × nk_S) :=
  if l5 = 0 then
    if l6 = 0 then
      some ((-9223372034707292161), S)
    else
      nk_bd (ja_X5_highest l3 S) fun r1 S2 =>
      nk_bd (ja_X5_around l0 0 r1 S2) fun r4 S5 =>
      some (r4, S5)
  else
    nk_bd (ja_X5_highest l1 S) fun r7 S8 =>
    nk_bd (ja_X5_around l0 0 r7 S8) fun r10 S11 =>
    some (r10, S11)
theorem ja_X5_conjunction_b56_ok (zs : List Int32) : ∀ (l0 : Nat) (l1 : Int) (l3 : Int) (l5 : Int) (l6 : Int) (S : nk_S) (R : Int × nk_S), nk_cl ja_Tt l0 = some 5 → ja_X5_conjunction_b56 l0 l1 l3 l5 l6 S = some R → nk_K ja_Tt mi_Γ (mi_ev zs) 2 353 56 [(0, nk_r l0), (1, nk_l l1), (3, nk_l l3), (5, nk_i l5), (6, nk_i l6)] [] S R := by
  intro l0 l1 l3 l5 l6 S R t_l0 hr
  unfold ja_X5_conjunction_b56 at hr
  refine nk_p (i := .iload 5) (len := 2) (pc' := 58) mJ_353 (by decide +kernel) (ns_iload 3 rfl) rfl ?_
  refine nk_icond (c := .eq) (off := 16) (len := 3) (t := 74) (pc' := 61) mJ_353 (by decide +kernel) (by decide +kernel) rfl (fun hc => ?_) (fun hc => ?_)
  · have hr := nk_ifp (c := l5 = 0) hc hr
    refine nk_p (i := .iload 6) (len := 2) (pc' := 76) mJ_353 (by decide +kernel) (ns_iload 4 rfl) rfl ?_
    refine nk_icond (c := .eq) (off := 16) (len := 3) (t := 92) (pc' := 79) mJ_353 (by decide +kernel) (by decide +kernel) rfl (fun hc => ?_) (fun hc => ?_)
    · have hr := nk_ifp (c := l6 = 0) hc hr
      refine nk_ldc2 (x := 70) (len := 3) (X := (-9223372034707292161)) (v := (-9223372034707292161)) (pc' := 95) mJ_353 (by decide +kernel) (by decide +kernel) (by decide +kernel) rfl ?_
      cases hr
      exact nk_lret (len := 1) mJ_353 (by decide +kernel) rfl
    · have hr := nk_ifn (c := l6 = 0) hc hr
      refine nk_p (i := .aload_n 0) (len := 1) (pc' := 80) mJ_353 (by decide +kernel) (ns_aload_n 0 rfl rfl) rfl ?_
      refine nk_p (i := .lconst 0) (len := 1) (pc' := 81) mJ_353 (by decide +kernel) (ns_lconst (c := 0) (by decide +kernel)) rfl ?_
      refine nk_p (i := .lload_n 3) (len := 1) (pc' := 82) mJ_353 (by decide +kernel) (ns_lload_n 2 rfl rfl) rfl ?_
      obtain ⟨r1, S2, h3, hr⟩ := nk_bde hr
      refine nk_callS (ci := 0) (n := 1) (x := 29) (len := 3) (j' := 356) (q' := 1) (r := r1) (S' := S2) (L2 := [(0, nk_l l3)]) (rest := [nk_l 0, nk_r l0]) (st' := [nk_i r1, nk_l 0, nk_r l0]) (pc' := 85) mJ_353 (by decide +kernel) (by decide +kernel) (Nat.le_of_ble_eq_true rfl) rfl rfl (Nat.le_of_ble_eq_true rfl) mJ_356 (Nat.le_of_ble_eq_true rfl) ja_Tpos rfl (ja_X5_highest_ok zs _ _ _ h3) rfl ?_
      refine nk_p (i := .i2l) (len := 1) (pc' := 86) mJ_353 (by decide +kernel) ns_i2l rfl ?_
      obtain ⟨r4, S5, h6, hr⟩ := nk_bde hr
      refine nk_callV (ci := 5) (n := 2) (x := 77) (len := 3) (j' := 349) (q' := 2) (r := r4) (S' := S5) (L2 := [(0, nk_r l0), (1, nk_l 0), (3, nk_l r1)]) (rest := []) (st' := [nk_l r4]) (pc' := 89) mJ_353 (by decide +kernel) (by decide +kernel) rfl rfl t_l0 (Nat.le_of_ble_eq_true rfl) mJ_349 (Nat.le_of_ble_eq_true rfl) rfl (ja_X5_around_ok zs _ _ _ _ _ t_l0 h6) rfl ?_
      refine nk_p (i := .goto 6) (len := 3) (pc' := 95) mJ_353 (by decide +kernel) (ns_goto (by decide +kernel)) rfl ?_
      cases hr
      exact nk_lret (len := 1) mJ_353 (by decide +kernel) rfl
  · have hr := nk_ifn (c := l5 = 0) hc hr
    refine nk_p (i := .aload_n 0) (len := 1) (pc' := 62) mJ_353 (by decide +kernel) (ns_aload_n 0 rfl rfl) rfl ?_
    refine nk_p (i := .lconst 0) (len := 1) (pc' := 63) mJ_353 (by decide +kernel) (ns_lconst (c := 0) (by decide +kernel)) rfl ?_
    refine nk_p (i := .lload_n 1) (len := 1) (pc' := 64) mJ_353 (by decide +kernel) (ns_lload_n 1 rfl rfl) rfl ?_
    obtain ⟨r7, S8, h9, hr⟩ := nk_bde hr
    refine nk_callS (ci := 0) (n := 1) (x := 29) (len := 3) (j' := 356) (q' := 1) (r := r7) (S' := S8) (L2 := [(0, nk_l l1)]) (rest := [nk_l 0, nk_r l0]) (st' := [nk_i r7, nk_l 0, nk_r l0]) (pc' := 67) mJ_353 (by decide +kernel) (by decide +kernel) (Nat.le_of_ble_eq_true rfl) rfl rfl (Nat.le_of_ble_eq_true rfl) mJ_356 (Nat.le_of_ble_eq_true rfl) ja_Tpos rfl (ja_X5_highest_ok zs _ _ _ h9) rfl ?_
    refine nk_p (i := .i2l) (len := 1) (pc' := 68) mJ_353 (by decide +kernel) ns_i2l rfl ?_
    obtain ⟨r10, S11, h12, hr⟩ := nk_bde hr
    refine nk_callV (ci := 5) (n := 2) (x := 77) (len := 3) (j' := 349) (q' := 2) (r := r10) (S' := S11) (L2 := [(0, nk_r l0), (1, nk_l 0), (3, nk_l r7)]) (rest := []) (st' := [nk_l r10]) (pc' := 71) mJ_353 (by decide +kernel) (by decide +kernel) rfl rfl t_l0 (Nat.le_of_ble_eq_true rfl) mJ_349 (Nat.le_of_ble_eq_true rfl) rfl (ja_X5_around_ok zs _ _ _ _ _ t_l0 h12) rfl ?_
    refine nk_p (i := .goto 24) (len := 3) (pc' := 95) mJ_353 (by decide +kernel) (ns_goto (by decide +kernel)) rfl ?_
    cases hr
    exact nk_lret (len := 1) mJ_353 (by decide +kernel) rfl
noncomputable def ja_X5_conjunction_b26 (l0 : Nat) (l1 : Int) (l3 : Int) (l5 : Int) (s0 : Int) (S : nk_S) : Option (Int × nk_S) :=
  if l5 = 0 then
    ja_X5_conjunction_b56 l0 l1 l3 l5 s0 S
  else
    if s0 = 0 then
      ja_X5_conjunction_b56 l0 l1 l3 l5 s0 S
    else
      nk_bd (ja_X5_highest l1 S) fun r1 S2 =>
      nk_bd (ja_X5_highest l3 S2) fun r4 S5 =>
      nk_bd (ja_J9_min_7cf53 r1 r4 S5) fun r7 S8 =>
      nk_bd (ja_X5_around l0 0 r7 S8) fun r10 S11 =>
      some (r10, S11)
theorem ja_X5_conjunction_b26_ok (zs : List Int32) : ∀ (l0 : Nat) (l1 : Int) (l3 : Int) (l5 : Int) (s0 : Int) (S : nk_S) (R : Int × nk_S), nk_cl ja_Tt l0 = some 5 → ja_X5_conjunction_b26 l0 l1 l3 l5 s0 S = some R → nk_K ja_Tt mi_Γ (mi_ev zs) 2 353 26 [(0, nk_r l0), (1, nk_l l1), (3, nk_l l3), (5, nk_i l5)] [nk_i s0] S R := by
  intro l0 l1 l3 l5 s0 S R t_l0 hr
  unfold ja_X5_conjunction_b26 at hr
  refine nk_p (i := .istore 6) (len := 2) (pc' := 28) mJ_353 (by decide +kernel) (ns_istore (L' := [(6, nk_i s0), (0, nk_r l0), (1, nk_l l1), (3, nk_l l3), (5, nk_i l5)]) rfl rfl (by decide +kernel)) rfl ?_
  refine nk_p (i := .iload 5) (len := 2) (pc' := 30) mJ_353 (by decide +kernel) (ns_iload 4 rfl) rfl ?_
  refine nk_icond (c := .eq) (off := 26) (len := 3) (t := 56) (pc' := 33) mJ_353 (by decide +kernel) (by decide +kernel) rfl (fun hc => ?_) (fun hc => ?_)
  · have hr := nk_ifp (c := l5 = 0) hc hr
    refine nk_sub [1, 2, 3, 4, 0] (L' := [(0, nk_r l0), (1, nk_l l1), (3, nk_l l3), (5, nk_i l5), (6, nk_i s0)]) rfl ?_
    exact ja_X5_conjunction_b56_ok zs _ _ _ _ _ _ _ t_l0 hr
  · have hr := nk_ifn (c := l5 = 0) hc hr
    refine nk_p (i := .iload 6) (len := 2) (pc' := 35) mJ_353 (by decide +kernel) (ns_iload 0 rfl) rfl ?_
    refine nk_icond (c := .eq) (off := 21) (len := 3) (t := 56) (pc' := 38) mJ_353 (by decide +kernel) (by decide +kernel) rfl (fun hc => ?_) (fun hc => ?_)
    · have hr := nk_ifp (c := s0 = 0) hc hr
      refine nk_sub [1, 2, 3, 4, 0] (L' := [(0, nk_r l0), (1, nk_l l1), (3, nk_l l3), (5, nk_i l5), (6, nk_i s0)]) rfl ?_
      exact ja_X5_conjunction_b56_ok zs _ _ _ _ _ _ _ t_l0 hr
    · have hr := nk_ifn (c := s0 = 0) hc hr
      refine nk_p (i := .aload_n 0) (len := 1) (pc' := 39) mJ_353 (by decide +kernel) (ns_aload_n 1 rfl rfl) rfl ?_
      refine nk_p (i := .lconst 0) (len := 1) (pc' := 40) mJ_353 (by decide +kernel) (ns_lconst (c := 0) (by decide +kernel)) rfl ?_
      refine nk_p (i := .lload_n 1) (len := 1) (pc' := 41) mJ_353 (by decide +kernel) (ns_lload_n 2 rfl rfl) rfl ?_
      obtain ⟨r1, S2, h3, hr⟩ := nk_bde hr
      refine nk_callS (ci := 0) (n := 1) (x := 29) (len := 3) (j' := 356) (q' := 1) (r := r1) (S' := S2) (L2 := [(0, nk_l l1)]) (rest := [nk_l 0, nk_r l0]) (st' := [nk_i r1, nk_l 0, nk_r l0]) (pc' := 44) mJ_353 (by decide +kernel) (by decide +kernel) (Nat.le_of_ble_eq_true rfl) rfl rfl (Nat.le_of_ble_eq_true rfl) mJ_356 (Nat.le_of_ble_eq_true rfl) ja_Tpos rfl (ja_X5_highest_ok zs _ _ _ h3) rfl ?_
      refine nk_p (i := .lload_n 3) (len := 1) (pc' := 45) mJ_353 (by decide +kernel) (ns_lload_n 3 rfl rfl) rfl ?_
      obtain ⟨r4, S5, h6, hr⟩ := nk_bde hr
      refine nk_callS (ci := 0) (n := 1) (x := 29) (len := 3) (j' := 356) (q' := 1) (r := r4) (S' := S5) (L2 := [(0, nk_l l3)]) (rest := [nk_i r1, nk_l 0, nk_r l0]) (st' := [nk_i r4, nk_i r1, nk_l 0, nk_r l0]) (pc' := 48) mJ_353 (by decide +kernel) (by decide +kernel) (Nat.le_of_ble_eq_true rfl) rfl rfl (Nat.le_of_ble_eq_true rfl) mJ_356 (Nat.le_of_ble_eq_true rfl) ja_Tpos rfl (ja_X5_highest_ok zs _ _ _ h6) rfl ?_
      obtain ⟨r7, S8, h9, hr⟩ := nk_bde hr
      refine nk_callS (ci := 0) (n := 2) (x := 32) (len := 3) (j' := 18) (q' := 1) (r := r7) (S' := S8) (L2 := [(0, nk_i r1), (1, nk_i r4)]) (rest := [nk_l 0, nk_r l0]) (st' := [nk_i r7, nk_l 0, nk_r l0]) (pc' := 51) mJ_353 (by decide +kernel) (by decide +kernel) (Nat.le_of_ble_eq_true rfl) rfl rfl (Nat.le_of_ble_eq_true rfl) mJ_18 (Nat.le_of_ble_eq_true rfl) ja_Tpos rfl (ja_J9_min_7cf53_ok zs _ _ _ _ h9) rfl ?_
      refine nk_p (i := .i2l) (len := 1) (pc' := 52) mJ_353 (by decide +kernel) ns_i2l rfl ?_
      obtain ⟨r10, S11, h12, hr⟩ := nk_bde hr
      refine nk_callV (ci := 5) (n := 2) (x := 77) (len := 3) (j' := 349) (q' := 2) (r := r10) (S' := S11) (L2 := [(0, nk_r l0), (1, nk_l 0), (3, nk_l r7)]) (rest := []) (st' := [nk_l r10]) (pc' := 55) mJ_353 (by decide +kernel) (by decide +kernel) rfl rfl t_l0 (Nat.le_of_ble_eq_true rfl) mJ_349 (Nat.le_of_ble_eq_true rfl) rfl (ja_X5_around_ok zs _ _ _ _ _ t_l0 h12) rfl ?_
      cases hr
      exact nk_lret (len := 1) mJ_353 (by decide +kernel) rfl
noncomputable def ja_X5_conjunction_b12 (l0 : Nat) (l1 : Int) (l3 : Int) (s0 : Int) (S : nk_S) : Option (Int × nk_S) :=
  nk_bd (ja_X5_lowest l3 S) fun r1 S2 =>
  if r1 < 0 then
    ja_X5_conjunction_b26 l0 l1 l3 s0 0 S2
  else
    ja_X5_conjunction_b26 l0 l1 l3 s0 1 S2
theorem ja_X5_conjunction_b12_ok (zs : List Int32) : ∀ (l0 : Nat) (l1 : Int) (l3 : Int) (s0 : Int) (S : nk_S) (R : Int × nk_S), nk_cl ja_Tt l0 = some 5 → ja_X5_conjunction_b12 l0 l1 l3 s0 S = some R → nk_K ja_Tt mi_Γ (mi_ev zs) 2 353 12 [(0, nk_r l0), (1, nk_l l1), (3, nk_l l3)] [nk_i s0] S R := by
  intro l0 l1 l3 s0 S R t_l0 hr
  unfold ja_X5_conjunction_b12 at hr
  refine nk_p (i := .istore 5) (len := 2) (pc' := 14) mJ_353 (by decide +kernel) (ns_istore (L' := [(5, nk_i s0), (0, nk_r l0), (1, nk_l l1), (3, nk_l l3)]) rfl rfl (by decide +kernel)) rfl ?_
  refine nk_p (i := .lload_n 3) (len := 1) (pc' := 15) mJ_353 (by decide +kernel) (ns_lload_n 3 rfl rfl) rfl ?_
  obtain ⟨r1, S2, h3, hr⟩ := nk_bde hr
  refine nk_callS (ci := 0) (n := 1) (x := 19) (len := 3) (j' := 363) (q' := 1) (r := r1) (S' := S2) (L2 := [(0, nk_l l3)]) (rest := []) (st' := [nk_i r1]) (pc' := 18) mJ_353 (by decide +kernel) (by decide +kernel) (Nat.le_of_ble_eq_true rfl) rfl rfl (Nat.le_of_ble_eq_true rfl) mJ_363 (Nat.le_of_ble_eq_true rfl) ja_Tpos rfl (ja_X5_lowest_ok zs _ _ _ h3) rfl ?_
  refine nk_icond (c := .lt) (off := 7) (len := 3) (t := 25) (pc' := 21) mJ_353 (by decide +kernel) (by decide +kernel) rfl (fun hc => ?_) (fun hc => ?_)
  · have hr := nk_ifp (c := r1 < 0) hc hr
    refine nk_p (i := .iconst 0) (len := 1) (pc' := 26) mJ_353 (by decide +kernel) (ns_iconst (c := 0) (by decide +kernel)) rfl ?_
    refine nk_sub [1, 2, 3, 0] (L' := [(0, nk_r l0), (1, nk_l l1), (3, nk_l l3), (5, nk_i s0)]) rfl ?_
    exact ja_X5_conjunction_b26_ok zs _ _ _ _ _ _ _ t_l0 hr
  · have hr := nk_ifn (c := r1 < 0) hc hr
    refine nk_p (i := .iconst 1) (len := 1) (pc' := 22) mJ_353 (by decide +kernel) (ns_iconst (c := 1) (by decide +kernel)) rfl ?_
    refine nk_p (i := .goto 4) (len := 3) (pc' := 26) mJ_353 (by decide +kernel) (ns_goto (by decide +kernel)) rfl ?_
    refine nk_sub [1, 2, 3, 0] (L' := [(0, nk_r l0), (1, nk_l l1), (3, nk_l l3), (5, nk_i s0)]) rfl ?_
    exact ja_X5_conjunction_b26_ok zs _ _ _ _ _ _ _ t_l0 hr
noncomputable def ja_X5_conjunction (l0 : Nat) (l1 : Int) (l3 : Int) (S : nk_S) : Option (Int × nk_S) :=
  nk_bd (ja_X5_lowest l1 S) fun r1 S2 =>
  if r1 < 0 then
    ja_X5_conjunction_b12 l0 l1 l3 0 S2
  else
    ja_X5_conjunction_b12 l0 l1 l3 1 S2
theorem ja_X5_conjunction_ok (zs : List Int32) : ∀ (l0 : Nat) (l1 : Int) (l3 : Int) (S : nk_S) (R : Int × nk_S), nk_cl ja_Tt l0 = some 5 → ja_X5_conjunction l0 l1 l3 S = some R → nk_K ja_Tt mi_Γ (mi_ev zs) 2 353 0 [(0, nk_r l0), (1, nk_l l1), (3, nk_l l3)] [] S R := by
  intro l0 l1 l3 S R t_l0 hr
  unfold ja_X5_conjunction at hr
  refine nk_p (i := .lload_n 1) (len := 1) (pc' := 1) mJ_353 (by decide +kernel) (ns_lload_n 1 rfl rfl) rfl ?_
  obtain ⟨r1, S2, h3, hr⟩ := nk_bde hr
  refine nk_callS (ci := 0) (n := 1) (x := 19) (len := 3) (j' := 363) (q' := 1) (r := r1) (S' := S2) (L2 := [(0, nk_l l1)]) (rest := []) (st' := [nk_i r1]) (pc' := 4) mJ_353 (by decide +kernel) (by decide +kernel) (Nat.le_of_ble_eq_true rfl) rfl rfl (Nat.le_of_ble_eq_true rfl) mJ_363 (Nat.le_of_ble_eq_true rfl) ja_Tpos rfl (ja_X5_lowest_ok zs _ _ _ h3) rfl ?_
  refine nk_icond (c := .lt) (off := 7) (len := 3) (t := 11) (pc' := 7) mJ_353 (by decide +kernel) (by decide +kernel) rfl (fun hc => ?_) (fun hc => ?_)
  · have hr := nk_ifp (c := r1 < 0) hc hr
    refine nk_p (i := .iconst 0) (len := 1) (pc' := 12) mJ_353 (by decide +kernel) (ns_iconst (c := 0) (by decide +kernel)) rfl ?_
    exact ja_X5_conjunction_b12_ok zs _ _ _ _ _ _ t_l0 hr
  · have hr := nk_ifn (c := r1 < 0) hc hr
    refine nk_p (i := .iconst 1) (len := 1) (pc' := 8) mJ_353 (by decide +kernel) (ns_iconst (c := 1) (by decide +kernel)) rfl ?_
    refine nk_p (i := .goto 4) (len := 3) (pc' := 12) mJ_353 (by decide +kernel) (ns_goto (by decide +kernel)) rfl ?_
    exact ja_X5_conjunction_b12_ok zs _ _ _ _ _ _ t_l0 hr
/-! SafeCode$Ranges disjunction (JJ)J -/
noncomputable def ja_X5_disjunction (l0 : Nat) (l1 : Int) (l3 : Int) (S : nk_S) : Option (Int × nk_S) :=
  nk_bd (ja_X5_lowest l1 S) fun r1 S2 =>
  if r1 < 0 then
    some ((-9223372034707292161), S2)
  else
    nk_bd (ja_X5_lowest l3 S2) fun r4 S5 =>
    if 0 ≤ r4 then
      nk_bd (ja_X5_highest l1 S5) fun r7 S8 =>
      nk_bd (ja_X5_highest l3 S8) fun r10 S11 =>
      nk_bd (ja_J9_max_7cf53 r7 r10 S11) fun r13 S14 =>
      nk_bd (ja_J6_numberOfLeadingZeros_0f7a4 r13 S14) fun r16 S17 =>
      nk_bd (ja_X5_around l0 0 (nk_W ((nk_lshl 1 (nk_w (32 - r16))) - 1)) S17) fun r19 S20 =>
      some (r19, S20)
    else
      some ((-9223372034707292161), S5)
theorem ja_X5_disjunction_ok (zs : List Int32) : ∀ (l0 : Nat) (l1 : Int) (l3 : Int) (S : nk_S) (R : Int × nk_S), nk_cl ja_Tt l0 = some 5 → ja_X5_disjunction l0 l1 l3 S = some R → nk_K ja_Tt mi_Γ (mi_ev zs) 2 355 0 [(0, nk_r l0), (1, nk_l l1), (3, nk_l l3)] [] S R := by
  intro l0 l1 l3 S R t_l0 hr
  unfold ja_X5_disjunction at hr
  refine nk_p (i := .lload_n 1) (len := 1) (pc' := 1) mJ_355 (by decide +kernel) (ns_lload_n 1 rfl rfl) rfl ?_
  obtain ⟨r1, S2, h3, hr⟩ := nk_bde hr
  refine nk_callS (ci := 0) (n := 1) (x := 19) (len := 3) (j' := 363) (q' := 1) (r := r1) (S' := S2) (L2 := [(0, nk_l l1)]) (rest := []) (st' := [nk_i r1]) (pc' := 4) mJ_355 (by decide +kernel) (by decide +kernel) (Nat.le_of_ble_eq_true rfl) rfl rfl (Nat.le_of_ble_eq_true rfl) mJ_363 (Nat.le_of_ble_eq_true rfl) ja_Tpos rfl (ja_X5_lowest_ok zs _ _ _ h3) rfl ?_
  refine nk_icond (c := .lt) (off := 10) (len := 3) (t := 14) (pc' := 7) mJ_355 (by decide +kernel) (by decide +kernel) rfl (fun hc => ?_) (fun hc => ?_)
  · have hr := nk_ifp (c := r1 < 0) hc hr
    refine nk_ldc2 (x := 70) (len := 3) (X := (-9223372034707292161)) (v := (-9223372034707292161)) (pc' := 17) mJ_355 (by decide +kernel) (by decide +kernel) (by decide +kernel) rfl ?_
    cases hr
    exact nk_lret (len := 1) mJ_355 (by decide +kernel) rfl
  · have hr := nk_ifn (c := r1 < 0) hc hr
    refine nk_p (i := .lload_n 3) (len := 1) (pc' := 8) mJ_355 (by decide +kernel) (ns_lload_n 2 rfl rfl) rfl ?_
    obtain ⟨r4, S5, h6, hr⟩ := nk_bde hr
    refine nk_callS (ci := 0) (n := 1) (x := 19) (len := 3) (j' := 363) (q' := 1) (r := r4) (S' := S5) (L2 := [(0, nk_l l3)]) (rest := []) (st' := [nk_i r4]) (pc' := 11) mJ_355 (by decide +kernel) (by decide +kernel) (Nat.le_of_ble_eq_true rfl) rfl rfl (Nat.le_of_ble_eq_true rfl) mJ_363 (Nat.le_of_ble_eq_true rfl) ja_Tpos rfl (ja_X5_lowest_ok zs _ _ _ h6) rfl ?_
    refine nk_icond (c := .ge) (off := 7) (len := 3) (t := 18) (pc' := 14) mJ_355 (by decide +kernel) (by decide +kernel) rfl (fun hc => ?_) (fun hc => ?_)
    · have hr := nk_ifp (c := 0 ≤ r4) hc hr
      refine nk_p (i := .lload_n 1) (len := 1) (pc' := 19) mJ_355 (by decide +kernel) (ns_lload_n 1 rfl rfl) rfl ?_
      obtain ⟨r7, S8, h9, hr⟩ := nk_bde hr
      refine nk_callS (ci := 0) (n := 1) (x := 29) (len := 3) (j' := 356) (q' := 1) (r := r7) (S' := S8) (L2 := [(0, nk_l l1)]) (rest := []) (st' := [nk_i r7]) (pc' := 22) mJ_355 (by decide +kernel) (by decide +kernel) (Nat.le_of_ble_eq_true rfl) rfl rfl (Nat.le_of_ble_eq_true rfl) mJ_356 (Nat.le_of_ble_eq_true rfl) ja_Tpos rfl (ja_X5_highest_ok zs _ _ _ h9) rfl ?_
      refine nk_p (i := .lload_n 3) (len := 1) (pc' := 23) mJ_355 (by decide +kernel) (ns_lload_n 2 rfl rfl) rfl ?_
      obtain ⟨r10, S11, h12, hr⟩ := nk_bde hr
      refine nk_callS (ci := 0) (n := 1) (x := 29) (len := 3) (j' := 356) (q' := 1) (r := r10) (S' := S11) (L2 := [(0, nk_l l3)]) (rest := [nk_i r7]) (st' := [nk_i r10, nk_i r7]) (pc' := 26) mJ_355 (by decide +kernel) (by decide +kernel) (Nat.le_of_ble_eq_true rfl) rfl rfl (Nat.le_of_ble_eq_true rfl) mJ_356 (Nat.le_of_ble_eq_true rfl) ja_Tpos rfl (ja_X5_highest_ok zs _ _ _ h12) rfl ?_
      obtain ⟨r13, S14, h15, hr⟩ := nk_bde hr
      refine nk_callS (ci := 0) (n := 2) (x := 23) (len := 3) (j' := 16) (q' := 1) (r := r13) (S' := S14) (L2 := [(0, nk_i r7), (1, nk_i r10)]) (rest := []) (st' := [nk_i r13]) (pc' := 29) mJ_355 (by decide +kernel) (by decide +kernel) (Nat.le_of_ble_eq_true rfl) rfl rfl (Nat.le_of_ble_eq_true rfl) mJ_16 (Nat.le_of_ble_eq_true rfl) ja_Tpos rfl (ja_J9_max_7cf53_ok zs _ _ _ _ h15) rfl ?_
      refine nk_p (i := .istore 5) (len := 2) (pc' := 31) mJ_355 (by decide +kernel) (ns_istore (L' := [(5, nk_i r13), (0, nk_r l0), (1, nk_l l1), (3, nk_l l3)]) rfl rfl (by decide +kernel)) rfl ?_
      refine nk_p (i := .aload_n 0) (len := 1) (pc' := 32) mJ_355 (by decide +kernel) (ns_aload_n 1 rfl rfl) rfl ?_
      refine nk_p (i := .lconst 0) (len := 1) (pc' := 33) mJ_355 (by decide +kernel) (ns_lconst (c := 0) (by decide +kernel)) rfl ?_
      refine nk_p (i := .lconst 1) (len := 1) (pc' := 34) mJ_355 (by decide +kernel) (ns_lconst (c := 1) (by decide +kernel)) rfl ?_
      refine nk_p (i := .bipush 32) (len := 2) (pc' := 36) mJ_355 (by decide +kernel) (ns_bipush (c := 32) (by decide +kernel)) rfl ?_
      refine nk_p (i := .iload 5) (len := 2) (pc' := 38) mJ_355 (by decide +kernel) (ns_iload 0 rfl) rfl ?_
      obtain ⟨r16, S17, h18, hr⟩ := nk_bde hr
      refine nk_callS (ci := 0) (n := 1) (x := 115) (len := 3) (j' := 11) (q' := 1) (r := r16) (S' := S17) (L2 := [(0, nk_i r13)]) (rest := [nk_i 32, nk_l 1, nk_l 0, nk_r l0]) (st' := [nk_i r16, nk_i 32, nk_l 1, nk_l 0, nk_r l0]) (pc' := 41) mJ_355 (by decide +kernel) (by decide +kernel) (Nat.le_of_ble_eq_true rfl) rfl rfl (Nat.le_of_ble_eq_true rfl) mJ_11 (Nat.le_of_ble_eq_true rfl) ja_Tpos rfl (ja_J6_numberOfLeadingZeros_0f7a4_ok zs _ _ _ h18) rfl ?_
      refine nk_p (i := .isub) (len := 1) (pc' := 42) mJ_355 (by decide +kernel) ns_isub rfl ?_
      refine nk_p (i := .lshl) (len := 1) (pc' := 43) mJ_355 (by decide +kernel) ns_lshl rfl ?_
      refine nk_p (i := .lconst 1) (len := 1) (pc' := 44) mJ_355 (by decide +kernel) (ns_lconst (c := 1) (by decide +kernel)) rfl ?_
      refine nk_p (i := .lsub) (len := 1) (pc' := 45) mJ_355 (by decide +kernel) ns_lsub rfl ?_
      obtain ⟨r19, S20, h21, hr⟩ := nk_bde hr
      refine nk_callV (ci := 5) (n := 2) (x := 77) (len := 3) (j' := 349) (q' := 2) (r := r19) (S' := S20) (L2 := [(0, nk_r l0), (1, nk_l 0), (3, nk_l (nk_W ((nk_lshl 1 (nk_w (32 - r16))) - 1)))]) (rest := []) (st' := [nk_l r19]) (pc' := 48) mJ_355 (by decide +kernel) (by decide +kernel) rfl rfl t_l0 (Nat.le_of_ble_eq_true rfl) mJ_349 (Nat.le_of_ble_eq_true rfl) rfl (ja_X5_around_ok zs _ _ _ _ _ t_l0 h21) rfl ?_
      cases hr
      exact nk_lret (len := 1) mJ_355 (by decide +kernel) rfl
    · have hr := nk_ifn (c := 0 ≤ r4) hc hr
      refine nk_ldc2 (x := 70) (len := 3) (X := (-9223372034707292161)) (v := (-9223372034707292161)) (pc' := 17) mJ_355 (by decide +kernel) (by decide +kernel) (by decide +kernel) rfl ?_
      cases hr
      exact nk_lret (len := 1) mJ_355 (by decide +kernel) rfl
/-! SafeCode$Ranges shifted (JJ)J -/
noncomputable def ja_X5_shifted (l0 : Nat) (l1 : Int) (l3 : Int) (S : nk_S) : Option (Int × nk_S) :=
  nk_bd (ja_X5_isSingle l3 S) fun r1 S2 =>
  if r1 = 0 then
    nk_bd (ja_X5_lowest l1 S2) fun r4 S5 =>
    nk_bd (ja_J9_min_7cf53 r4 0 S5) fun r7 S8 =>
    nk_bd (ja_X5_highest l1 S8) fun r10 S11 =>
    nk_bd (ja_J9_max_7cf53 r10 (-1) S11) fun r13 S14 =>
    nk_bd (ja_X5_around l0 r7 r13 S14) fun r16 S17 =>
    some (r16, S17)
  else
    nk_bd (ja_X5_lowest l1 S2) fun r19 S20 =>
    nk_bd (ja_X5_lowest l3 S20) fun r22 S23 =>
    nk_bd (ja_X5_highest l1 S23) fun r25 S26 =>
    nk_bd (ja_X5_lowest l3 S26) fun r28 S29 =>
    nk_bd (ja_X5_around l0 (nk_ishr r19 (nk_iand r22 31)) (nk_ishr r25 (nk_iand r28 31)) S29) fun r31 S32 =>
    some (r31, S32)
theorem ja_X5_shifted_ok (zs : List Int32) : ∀ (l0 : Nat) (l1 : Int) (l3 : Int) (S : nk_S) (R : Int × nk_S), nk_cl ja_Tt l0 = some 5 → ja_X5_shifted l0 l1 l3 S = some R → nk_K ja_Tt mi_Γ (mi_ev zs) 2 371 0 [(0, nk_r l0), (1, nk_l l1), (3, nk_l l3)] [] S R := by
  intro l0 l1 l3 S R t_l0 hr
  unfold ja_X5_shifted at hr
  refine nk_p (i := .lload_n 3) (len := 1) (pc' := 1) mJ_371 (by decide +kernel) (ns_lload_n 2 rfl rfl) rfl ?_
  obtain ⟨r1, S2, h3, hr⟩ := nk_bde hr
  refine nk_callS (ci := 0) (n := 1) (x := 80) (len := 3) (j' := 361) (q' := 1) (r := r1) (S' := S2) (L2 := [(0, nk_l l3)]) (rest := []) (st' := [nk_i r1]) (pc' := 4) mJ_371 (by decide +kernel) (by decide +kernel) (Nat.le_of_ble_eq_true rfl) rfl rfl (Nat.le_of_ble_eq_true rfl) mJ_361 (Nat.le_of_ble_eq_true rfl) ja_Tpos rfl (ja_X5_isSingle_ok zs _ _ _ h3) rfl ?_
  refine nk_icond (c := .eq) (off := 34) (len := 3) (t := 38) (pc' := 7) mJ_371 (by decide +kernel) (by decide +kernel) rfl (fun hc => ?_) (fun hc => ?_)
  · have hr := nk_ifp (c := r1 = 0) hc hr
    refine nk_p (i := .aload_n 0) (len := 1) (pc' := 39) mJ_371 (by decide +kernel) (ns_aload_n 0 rfl rfl) rfl ?_
    refine nk_p (i := .lload_n 1) (len := 1) (pc' := 40) mJ_371 (by decide +kernel) (ns_lload_n 1 rfl rfl) rfl ?_
    obtain ⟨r4, S5, h6, hr⟩ := nk_bde hr
    refine nk_callS (ci := 0) (n := 1) (x := 19) (len := 3) (j' := 363) (q' := 1) (r := r4) (S' := S5) (L2 := [(0, nk_l l1)]) (rest := [nk_r l0]) (st' := [nk_i r4, nk_r l0]) (pc' := 43) mJ_371 (by decide +kernel) (by decide +kernel) (Nat.le_of_ble_eq_true rfl) rfl rfl (Nat.le_of_ble_eq_true rfl) mJ_363 (Nat.le_of_ble_eq_true rfl) ja_Tpos rfl (ja_X5_lowest_ok zs _ _ _ h6) rfl ?_
    refine nk_p (i := .iconst 0) (len := 1) (pc' := 44) mJ_371 (by decide +kernel) (ns_iconst (c := 0) (by decide +kernel)) rfl ?_
    obtain ⟨r7, S8, h9, hr⟩ := nk_bde hr
    refine nk_callS (ci := 0) (n := 2) (x := 32) (len := 3) (j' := 18) (q' := 1) (r := r7) (S' := S8) (L2 := [(0, nk_i r4), (1, nk_i 0)]) (rest := [nk_r l0]) (st' := [nk_i r7, nk_r l0]) (pc' := 47) mJ_371 (by decide +kernel) (by decide +kernel) (Nat.le_of_ble_eq_true rfl) rfl rfl (Nat.le_of_ble_eq_true rfl) mJ_18 (Nat.le_of_ble_eq_true rfl) ja_Tpos rfl (ja_J9_min_7cf53_ok zs _ _ _ _ h9) rfl ?_
    refine nk_p (i := .i2l) (len := 1) (pc' := 48) mJ_371 (by decide +kernel) ns_i2l rfl ?_
    refine nk_p (i := .lload_n 1) (len := 1) (pc' := 49) mJ_371 (by decide +kernel) (ns_lload_n 1 rfl rfl) rfl ?_
    obtain ⟨r10, S11, h12, hr⟩ := nk_bde hr
    refine nk_callS (ci := 0) (n := 1) (x := 29) (len := 3) (j' := 356) (q' := 1) (r := r10) (S' := S11) (L2 := [(0, nk_l l1)]) (rest := [nk_l r7, nk_r l0]) (st' := [nk_i r10, nk_l r7, nk_r l0]) (pc' := 52) mJ_371 (by decide +kernel) (by decide +kernel) (Nat.le_of_ble_eq_true rfl) rfl rfl (Nat.le_of_ble_eq_true rfl) mJ_356 (Nat.le_of_ble_eq_true rfl) ja_Tpos rfl (ja_X5_highest_ok zs _ _ _ h12) rfl ?_
    refine nk_p (i := .iconst (-1)) (len := 1) (pc' := 53) mJ_371 (by decide +kernel) (ns_iconst (c := (-1)) (by decide +kernel)) rfl ?_
    obtain ⟨r13, S14, h15, hr⟩ := nk_bde hr
    refine nk_callS (ci := 0) (n := 2) (x := 23) (len := 3) (j' := 16) (q' := 1) (r := r13) (S' := S14) (L2 := [(0, nk_i r10), (1, nk_i (-1))]) (rest := [nk_l r7, nk_r l0]) (st' := [nk_i r13, nk_l r7, nk_r l0]) (pc' := 56) mJ_371 (by decide +kernel) (by decide +kernel) (Nat.le_of_ble_eq_true rfl) rfl rfl (Nat.le_of_ble_eq_true rfl) mJ_16 (Nat.le_of_ble_eq_true rfl) ja_Tpos rfl (ja_J9_max_7cf53_ok zs _ _ _ _ h15) rfl ?_
    refine nk_p (i := .i2l) (len := 1) (pc' := 57) mJ_371 (by decide +kernel) ns_i2l rfl ?_
    obtain ⟨r16, S17, h18, hr⟩ := nk_bde hr
    refine nk_callV (ci := 5) (n := 2) (x := 77) (len := 3) (j' := 349) (q' := 2) (r := r16) (S' := S17) (L2 := [(0, nk_r l0), (1, nk_l r7), (3, nk_l r13)]) (rest := []) (st' := [nk_l r16]) (pc' := 60) mJ_371 (by decide +kernel) (by decide +kernel) rfl rfl t_l0 (Nat.le_of_ble_eq_true rfl) mJ_349 (Nat.le_of_ble_eq_true rfl) rfl (ja_X5_around_ok zs _ _ _ _ _ t_l0 h18) rfl ?_
    cases hr
    exact nk_lret (len := 1) mJ_371 (by decide +kernel) rfl
  · have hr := nk_ifn (c := r1 = 0) hc hr
    refine nk_p (i := .aload_n 0) (len := 1) (pc' := 8) mJ_371 (by decide +kernel) (ns_aload_n 0 rfl rfl) rfl ?_
    refine nk_p (i := .lload_n 1) (len := 1) (pc' := 9) mJ_371 (by decide +kernel) (ns_lload_n 1 rfl rfl) rfl ?_
    obtain ⟨r19, S20, h21, hr⟩ := nk_bde hr
    refine nk_callS (ci := 0) (n := 1) (x := 19) (len := 3) (j' := 363) (q' := 1) (r := r19) (S' := S20) (L2 := [(0, nk_l l1)]) (rest := [nk_r l0]) (st' := [nk_i r19, nk_r l0]) (pc' := 12) mJ_371 (by decide +kernel) (by decide +kernel) (Nat.le_of_ble_eq_true rfl) rfl rfl (Nat.le_of_ble_eq_true rfl) mJ_363 (Nat.le_of_ble_eq_true rfl) ja_Tpos rfl (ja_X5_lowest_ok zs _ _ _ h21) rfl ?_
    refine nk_p (i := .lload_n 3) (len := 1) (pc' := 13) mJ_371 (by decide +kernel) (ns_lload_n 2 rfl rfl) rfl ?_
    obtain ⟨r22, S23, h24, hr⟩ := nk_bde hr
    refine nk_callS (ci := 0) (n := 1) (x := 19) (len := 3) (j' := 363) (q' := 1) (r := r22) (S' := S23) (L2 := [(0, nk_l l3)]) (rest := [nk_i r19, nk_r l0]) (st' := [nk_i r22, nk_i r19, nk_r l0]) (pc' := 16) mJ_371 (by decide +kernel) (by decide +kernel) (Nat.le_of_ble_eq_true rfl) rfl rfl (Nat.le_of_ble_eq_true rfl) mJ_363 (Nat.le_of_ble_eq_true rfl) ja_Tpos rfl (ja_X5_lowest_ok zs _ _ _ h24) rfl ?_
    refine nk_p (i := .bipush 31) (len := 2) (pc' := 18) mJ_371 (by decide +kernel) (ns_bipush (c := 31) (by decide +kernel)) rfl ?_
    refine nk_p (i := .iand) (len := 1) (pc' := 19) mJ_371 (by decide +kernel) ns_iand rfl ?_
    refine nk_p (i := .ishr) (len := 1) (pc' := 20) mJ_371 (by decide +kernel) ns_ishr rfl ?_
    refine nk_p (i := .i2l) (len := 1) (pc' := 21) mJ_371 (by decide +kernel) ns_i2l rfl ?_
    refine nk_p (i := .lload_n 1) (len := 1) (pc' := 22) mJ_371 (by decide +kernel) (ns_lload_n 1 rfl rfl) rfl ?_
    obtain ⟨r25, S26, h27, hr⟩ := nk_bde hr
    refine nk_callS (ci := 0) (n := 1) (x := 29) (len := 3) (j' := 356) (q' := 1) (r := r25) (S' := S26) (L2 := [(0, nk_l l1)]) (rest := [nk_l (nk_ishr r19 (nk_iand r22 31)), nk_r l0]) (st' := [nk_i r25, nk_l (nk_ishr r19 (nk_iand r22 31)), nk_r l0]) (pc' := 25) mJ_371 (by decide +kernel) (by decide +kernel) (Nat.le_of_ble_eq_true rfl) rfl rfl (Nat.le_of_ble_eq_true rfl) mJ_356 (Nat.le_of_ble_eq_true rfl) ja_Tpos rfl (ja_X5_highest_ok zs _ _ _ h27) rfl ?_
    refine nk_p (i := .lload_n 3) (len := 1) (pc' := 26) mJ_371 (by decide +kernel) (ns_lload_n 2 rfl rfl) rfl ?_
    obtain ⟨r28, S29, h30, hr⟩ := nk_bde hr
    refine nk_callS (ci := 0) (n := 1) (x := 19) (len := 3) (j' := 363) (q' := 1) (r := r28) (S' := S29) (L2 := [(0, nk_l l3)]) (rest := [nk_i r25, nk_l (nk_ishr r19 (nk_iand r22 31)), nk_r l0]) (st' := [nk_i r28, nk_i r25, nk_l (nk_ishr r19 (nk_iand r22 31)), nk_r l0]) (pc' := 29) mJ_371 (by decide +kernel) (by decide +kernel) (Nat.le_of_ble_eq_true rfl) rfl rfl (Nat.le_of_ble_eq_true rfl) mJ_363 (Nat.le_of_ble_eq_true rfl) ja_Tpos rfl (ja_X5_lowest_ok zs _ _ _ h30) rfl ?_
    refine nk_p (i := .bipush 31) (len := 2) (pc' := 31) mJ_371 (by decide +kernel) (ns_bipush (c := 31) (by decide +kernel)) rfl ?_
    refine nk_p (i := .iand) (len := 1) (pc' := 32) mJ_371 (by decide +kernel) ns_iand rfl ?_
    refine nk_p (i := .ishr) (len := 1) (pc' := 33) mJ_371 (by decide +kernel) ns_ishr rfl ?_
    refine nk_p (i := .i2l) (len := 1) (pc' := 34) mJ_371 (by decide +kernel) ns_i2l rfl ?_
    obtain ⟨r31, S32, h33, hr⟩ := nk_bde hr
    refine nk_callV (ci := 5) (n := 2) (x := 77) (len := 3) (j' := 349) (q' := 2) (r := r31) (S' := S32) (L2 := [(0, nk_r l0), (1, nk_l (nk_ishr r19 (nk_iand r22 31))), (3, nk_l (nk_ishr r25 (nk_iand r28 31)))]) (rest := []) (st' := [nk_l r31]) (pc' := 37) mJ_371 (by decide +kernel) (by decide +kernel) rfl rfl t_l0 (Nat.le_of_ble_eq_true rfl) mJ_349 (Nat.le_of_ble_eq_true rfl) rfl (ja_X5_around_ok zs _ _ _ _ _ t_l0 h33) rfl ?_
    cases hr
    exact nk_lret (len := 1) mJ_371 (by decide +kernel) rfl
/-! SafeCode$Ranges calculate (IJJ)J -/
noncomputable def ja_X5_calculate_b152 (l0 : Nat) (l2 : Int) (l4 : Int) (S : nk_S) : Option (Int × nk_S) :=
  nk_bd (ja_X5_disjunction l0 l2 l4 S) fun r1 S2 =>
  some (r1, S2)
theorem ja_X5_calculate_b152_ok (zs : List Int32) : ∀ (l0 : Nat) (l2 : Int) (l4 : Int) (S : nk_S) (R : Int × nk_S), nk_cl ja_Tt l0 = some 5 → ja_X5_calculate_b152 l0 l2 l4 S = some R → nk_K ja_Tt mi_Γ (mi_ev zs) 2 350 152 [(0, nk_r l0), (2, nk_l l2), (4, nk_l l4)] [] S R := by
  intro l0 l2 l4 S R t_l0 hr
  unfold ja_X5_calculate_b152 at hr
  refine nk_p (i := .aload_n 0) (len := 1) (pc' := 153) mJ_350 (by decide +kernel) (ns_aload_n 0 rfl rfl) rfl ?_
  refine nk_p (i := .lload_n 2) (len := 1) (pc' := 154) mJ_350 (by decide +kernel) (ns_lload_n 1 rfl rfl) rfl ?_
  refine nk_p (i := .lload 4) (len := 2) (pc' := 156) mJ_350 (by decide +kernel) (ns_lload 2 rfl) rfl ?_
  obtain ⟨r1, S2, h3, hr⟩ := nk_bde hr
  refine nk_callV (ci := 5) (n := 2) (x := 97) (len := 3) (j' := 355) (q' := 2) (r := r1) (S' := S2) (L2 := [(0, nk_r l0), (1, nk_l l2), (3, nk_l l4)]) (rest := []) (st' := [nk_l r1]) (pc' := 159) mJ_350 (by decide +kernel) (by decide +kernel) rfl rfl t_l0 (Nat.le_of_ble_eq_true rfl) mJ_355 (Nat.le_of_ble_eq_true rfl) rfl (ja_X5_disjunction_ok zs _ _ _ _ _ t_l0 h3) rfl ?_
  cases hr
  exact nk_lret (len := 1) mJ_350 (by decide +kernel) rfl
noncomputable def ja_X5_calculate (l0 : Nat) (l1 : Int) (l2 : Int) (l4 : Int) (S : nk_S) : Option (Int × nk_S) :=
  if l1 = 8 then
    nk_bd (ja_X5_lowest l2 S) fun r1 S2 =>
    nk_bd (ja_X5_lowest l4 S2) fun r4 S5 =>
    nk_bd (ja_X5_highest l2 S5) fun r7 S8 =>
    nk_bd (ja_X5_highest l4 S8) fun r10 S11 =>
    nk_bd (ja_X5_around l0 (nk_W (r1 + r4)) (nk_W (r7 + r10)) S11) fun r13 S14 =>
    some (r13, S14)
  else
  if l1 = 9 then
    nk_bd (ja_X5_lowest l2 S) fun r16 S17 =>
    nk_bd (ja_X5_highest l4 S17) fun r19 S20 =>
    nk_bd (ja_X5_highest l2 S20) fun r22 S23 =>
    nk_bd (ja_X5_lowest l4 S23) fun r25 S26 =>
    nk_bd (ja_X5_around l0 (nk_W (r16 - r19)) (nk_W (r22 - r25)) S26) fun r28 S29 =>
    some (r28, S29)
  else
  if l1 = 10 then
    nk_bd (ja_X5_lowest l4 S) fun r31 S32 =>
    nk_bd (ja_X5_highest l4 S32) fun r34 S35 =>
    nk_bd (ja_X5_product l0 l2 r31 r34 S35) fun r37 S38 =>
    some (r37, S38)
  else
  if l1 = 11 then
    nk_bd (ja_X5_quotient l0 l2 l4 S) fun r40 S41 =>
    some (r40, S41)
  else
  if l1 = 12 then
    nk_bd (ja_X5_remainder l0 l2 l4 S) fun r43 S44 =>
    some (r43, S44)
  else
  if l1 = 13 then
    nk_bd (ja_X5_conjunction l0 l2 l4 S) fun r46 S47 =>
    some (r46, S47)
  else
  if l1 = 14 then
    ja_X5_calculate_b152 l0 l2 l4 S
  else
  if l1 = 15 then
    ja_X5_calculate_b152 l0 l2 l4 S
  else
  if l1 = 16 then
    nk_bd (ja_X5_isSingle l4 S) fun r49 S50 =>
    if r49 = 0 then
      some ((-9223372034707292161), S50)
    else
      nk_bd (ja_X5_lowest l4 S50) fun r52 S53 =>
      nk_bd (ja_X5_lowest l4 S53) fun r55 S56 =>
      nk_bd (ja_X5_product l0 l2 (nk_lshl 1 (nk_iand r52 31)) (nk_lshl 1 (nk_iand r55 31)) S56) fun r58 S59 =>
      some (r58, S59)
  else
  nk_bd (ja_X5_shifted l0 l2 l4 S) fun r61 S62 =>
  some (r61, S62)
theorem ja_X5_calculate_ok (zs : List Int32) : ∀ (l0 : Nat) (l1 : Int) (l2 : Int) (l4 : Int) (S : nk_S) (R : Int × nk_S), nk_cl ja_Tt l0 = some 5 → ja_X5_calculate l0 l1 l2 l4 S = some R → nk_K ja_Tt mi_Γ (mi_ev zs) 2 350 0 [(0, nk_r l0), (1, nk_i l1), (2, nk_l l2), (4, nk_l l4)] [] S R := by
  intro l0 l1 l2 l4 S R t_l0 hr
  unfold ja_X5_calculate at hr
  refine nk_p (i := .iload_n 1) (len := 1) (pc' := 1) mJ_350 (by decide +kernel) (ns_iload_n 1 rfl rfl) rfl ?_
  by_cases hc0 : l1 = 8
  · have hr := nk_ifp hc0 hr
    refine nk_p (i := .tableswitch 199 8 16 #[51, 80, 109, 127, 135, 143, 151, 151, 159]) (len := 51) (pc' := 52) mJ_350 (by decide +kernel) (ns_tsw (V := 8) hc0 (by decide +kernel)) rfl ?_
    refine nk_p (i := .aload_n 0) (len := 1) (pc' := 53) mJ_350 (by decide +kernel) (ns_aload_n 0 rfl rfl) rfl ?_
    refine nk_p (i := .lload_n 2) (len := 1) (pc' := 54) mJ_350 (by decide +kernel) (ns_lload_n 2 rfl rfl) rfl ?_
    obtain ⟨r1, S2, h3, hr⟩ := nk_bde hr
    refine nk_callS (ci := 0) (n := 1) (x := 19) (len := 3) (j' := 363) (q' := 1) (r := r1) (S' := S2) (L2 := [(0, nk_l l2)]) (rest := [nk_r l0]) (st' := [nk_i r1, nk_r l0]) (pc' := 57) mJ_350 (by decide +kernel) (by decide +kernel) (Nat.le_of_ble_eq_true rfl) rfl rfl (Nat.le_of_ble_eq_true rfl) mJ_363 (Nat.le_of_ble_eq_true rfl) ja_Tpos rfl (ja_X5_lowest_ok zs _ _ _ h3) rfl ?_
    refine nk_p (i := .i2l) (len := 1) (pc' := 58) mJ_350 (by decide +kernel) ns_i2l rfl ?_
    refine nk_p (i := .lload 4) (len := 2) (pc' := 60) mJ_350 (by decide +kernel) (ns_lload 3 rfl) rfl ?_
    obtain ⟨r4, S5, h6, hr⟩ := nk_bde hr
    refine nk_callS (ci := 0) (n := 1) (x := 19) (len := 3) (j' := 363) (q' := 1) (r := r4) (S' := S5) (L2 := [(0, nk_l l4)]) (rest := [nk_l r1, nk_r l0]) (st' := [nk_i r4, nk_l r1, nk_r l0]) (pc' := 63) mJ_350 (by decide +kernel) (by decide +kernel) (Nat.le_of_ble_eq_true rfl) rfl rfl (Nat.le_of_ble_eq_true rfl) mJ_363 (Nat.le_of_ble_eq_true rfl) ja_Tpos rfl (ja_X5_lowest_ok zs _ _ _ h6) rfl ?_
    refine nk_p (i := .i2l) (len := 1) (pc' := 64) mJ_350 (by decide +kernel) ns_i2l rfl ?_
    refine nk_p (i := .ladd) (len := 1) (pc' := 65) mJ_350 (by decide +kernel) ns_ladd rfl ?_
    refine nk_p (i := .lload_n 2) (len := 1) (pc' := 66) mJ_350 (by decide +kernel) (ns_lload_n 2 rfl rfl) rfl ?_
    obtain ⟨r7, S8, h9, hr⟩ := nk_bde hr
    refine nk_callS (ci := 0) (n := 1) (x := 29) (len := 3) (j' := 356) (q' := 1) (r := r7) (S' := S8) (L2 := [(0, nk_l l2)]) (rest := [nk_l (nk_W (r1 + r4)), nk_r l0]) (st' := [nk_i r7, nk_l (nk_W (r1 + r4)), nk_r l0]) (pc' := 69) mJ_350 (by decide +kernel) (by decide +kernel) (Nat.le_of_ble_eq_true rfl) rfl rfl (Nat.le_of_ble_eq_true rfl) mJ_356 (Nat.le_of_ble_eq_true rfl) ja_Tpos rfl (ja_X5_highest_ok zs _ _ _ h9) rfl ?_
    refine nk_p (i := .i2l) (len := 1) (pc' := 70) mJ_350 (by decide +kernel) ns_i2l rfl ?_
    refine nk_p (i := .lload 4) (len := 2) (pc' := 72) mJ_350 (by decide +kernel) (ns_lload 3 rfl) rfl ?_
    obtain ⟨r10, S11, h12, hr⟩ := nk_bde hr
    refine nk_callS (ci := 0) (n := 1) (x := 29) (len := 3) (j' := 356) (q' := 1) (r := r10) (S' := S11) (L2 := [(0, nk_l l4)]) (rest := [nk_l r7, nk_l (nk_W (r1 + r4)), nk_r l0]) (st' := [nk_i r10, nk_l r7, nk_l (nk_W (r1 + r4)), nk_r l0]) (pc' := 75) mJ_350 (by decide +kernel) (by decide +kernel) (Nat.le_of_ble_eq_true rfl) rfl rfl (Nat.le_of_ble_eq_true rfl) mJ_356 (Nat.le_of_ble_eq_true rfl) ja_Tpos rfl (ja_X5_highest_ok zs _ _ _ h12) rfl ?_
    refine nk_p (i := .i2l) (len := 1) (pc' := 76) mJ_350 (by decide +kernel) ns_i2l rfl ?_
    refine nk_p (i := .ladd) (len := 1) (pc' := 77) mJ_350 (by decide +kernel) ns_ladd rfl ?_
    obtain ⟨r13, S14, h15, hr⟩ := nk_bde hr
    refine nk_callV (ci := 5) (n := 2) (x := 77) (len := 3) (j' := 349) (q' := 2) (r := r13) (S' := S14) (L2 := [(0, nk_r l0), (1, nk_l (nk_W (r1 + r4))), (3, nk_l (nk_W (r7 + r10)))]) (rest := []) (st' := [nk_l r13]) (pc' := 80) mJ_350 (by decide +kernel) (by decide +kernel) rfl rfl t_l0 (Nat.le_of_ble_eq_true rfl) mJ_349 (Nat.le_of_ble_eq_true rfl) rfl (ja_X5_around_ok zs _ _ _ _ _ t_l0 h15) rfl ?_
    cases hr
    exact nk_lret (len := 1) mJ_350 (by decide +kernel) rfl
  have hr := nk_ifn hc0 hr
  by_cases hc1 : l1 = 9
  · have hr := nk_ifp hc1 hr
    refine nk_p (i := .tableswitch 199 8 16 #[51, 80, 109, 127, 135, 143, 151, 151, 159]) (len := 51) (pc' := 81) mJ_350 (by decide +kernel) (ns_tsw (V := 9) hc1 (by decide +kernel)) rfl ?_
    refine nk_p (i := .aload_n 0) (len := 1) (pc' := 82) mJ_350 (by decide +kernel) (ns_aload_n 0 rfl rfl) rfl ?_
    refine nk_p (i := .lload_n 2) (len := 1) (pc' := 83) mJ_350 (by decide +kernel) (ns_lload_n 2 rfl rfl) rfl ?_
    obtain ⟨r16, S17, h18, hr⟩ := nk_bde hr
    refine nk_callS (ci := 0) (n := 1) (x := 19) (len := 3) (j' := 363) (q' := 1) (r := r16) (S' := S17) (L2 := [(0, nk_l l2)]) (rest := [nk_r l0]) (st' := [nk_i r16, nk_r l0]) (pc' := 86) mJ_350 (by decide +kernel) (by decide +kernel) (Nat.le_of_ble_eq_true rfl) rfl rfl (Nat.le_of_ble_eq_true rfl) mJ_363 (Nat.le_of_ble_eq_true rfl) ja_Tpos rfl (ja_X5_lowest_ok zs _ _ _ h18) rfl ?_
    refine nk_p (i := .i2l) (len := 1) (pc' := 87) mJ_350 (by decide +kernel) ns_i2l rfl ?_
    refine nk_p (i := .lload 4) (len := 2) (pc' := 89) mJ_350 (by decide +kernel) (ns_lload 3 rfl) rfl ?_
    obtain ⟨r19, S20, h21, hr⟩ := nk_bde hr
    refine nk_callS (ci := 0) (n := 1) (x := 29) (len := 3) (j' := 356) (q' := 1) (r := r19) (S' := S20) (L2 := [(0, nk_l l4)]) (rest := [nk_l r16, nk_r l0]) (st' := [nk_i r19, nk_l r16, nk_r l0]) (pc' := 92) mJ_350 (by decide +kernel) (by decide +kernel) (Nat.le_of_ble_eq_true rfl) rfl rfl (Nat.le_of_ble_eq_true rfl) mJ_356 (Nat.le_of_ble_eq_true rfl) ja_Tpos rfl (ja_X5_highest_ok zs _ _ _ h21) rfl ?_
    refine nk_p (i := .i2l) (len := 1) (pc' := 93) mJ_350 (by decide +kernel) ns_i2l rfl ?_
    refine nk_p (i := .lsub) (len := 1) (pc' := 94) mJ_350 (by decide +kernel) ns_lsub rfl ?_
    refine nk_p (i := .lload_n 2) (len := 1) (pc' := 95) mJ_350 (by decide +kernel) (ns_lload_n 2 rfl rfl) rfl ?_
    obtain ⟨r22, S23, h24, hr⟩ := nk_bde hr
    refine nk_callS (ci := 0) (n := 1) (x := 29) (len := 3) (j' := 356) (q' := 1) (r := r22) (S' := S23) (L2 := [(0, nk_l l2)]) (rest := [nk_l (nk_W (r16 - r19)), nk_r l0]) (st' := [nk_i r22, nk_l (nk_W (r16 - r19)), nk_r l0]) (pc' := 98) mJ_350 (by decide +kernel) (by decide +kernel) (Nat.le_of_ble_eq_true rfl) rfl rfl (Nat.le_of_ble_eq_true rfl) mJ_356 (Nat.le_of_ble_eq_true rfl) ja_Tpos rfl (ja_X5_highest_ok zs _ _ _ h24) rfl ?_
    refine nk_p (i := .i2l) (len := 1) (pc' := 99) mJ_350 (by decide +kernel) ns_i2l rfl ?_
    refine nk_p (i := .lload 4) (len := 2) (pc' := 101) mJ_350 (by decide +kernel) (ns_lload 3 rfl) rfl ?_
    obtain ⟨r25, S26, h27, hr⟩ := nk_bde hr
    refine nk_callS (ci := 0) (n := 1) (x := 19) (len := 3) (j' := 363) (q' := 1) (r := r25) (S' := S26) (L2 := [(0, nk_l l4)]) (rest := [nk_l r22, nk_l (nk_W (r16 - r19)), nk_r l0]) (st' := [nk_i r25, nk_l r22, nk_l (nk_W (r16 - r19)), nk_r l0]) (pc' := 104) mJ_350 (by decide +kernel) (by decide +kernel) (Nat.le_of_ble_eq_true rfl) rfl rfl (Nat.le_of_ble_eq_true rfl) mJ_363 (Nat.le_of_ble_eq_true rfl) ja_Tpos rfl (ja_X5_lowest_ok zs _ _ _ h27) rfl ?_
    refine nk_p (i := .i2l) (len := 1) (pc' := 105) mJ_350 (by decide +kernel) ns_i2l rfl ?_
    refine nk_p (i := .lsub) (len := 1) (pc' := 106) mJ_350 (by decide +kernel) ns_lsub rfl ?_
    obtain ⟨r28, S29, h30, hr⟩ := nk_bde hr
    refine nk_callV (ci := 5) (n := 2) (x := 77) (len := 3) (j' := 349) (q' := 2) (r := r28) (S' := S29) (L2 := [(0, nk_r l0), (1, nk_l (nk_W (r16 - r19))), (3, nk_l (nk_W (r22 - r25)))]) (rest := []) (st' := [nk_l r28]) (pc' := 109) mJ_350 (by decide +kernel) (by decide +kernel) rfl rfl t_l0 (Nat.le_of_ble_eq_true rfl) mJ_349 (Nat.le_of_ble_eq_true rfl) rfl (ja_X5_around_ok zs _ _ _ _ _ t_l0 h30) rfl ?_
    cases hr
    exact nk_lret (len := 1) mJ_350 (by decide +kernel) rfl
  have hr := nk_ifn hc1 hr
  by_cases hc2 : l1 = 10
  · have hr := nk_ifp hc2 hr
    refine nk_p (i := .tableswitch 199 8 16 #[51, 80, 109, 127, 135, 143, 151, 151, 159]) (len := 51) (pc' := 110) mJ_350 (by decide +kernel) (ns_tsw (V := 10) hc2 (by decide +kernel)) rfl ?_
    refine nk_p (i := .aload_n 0) (len := 1) (pc' := 111) mJ_350 (by decide +kernel) (ns_aload_n 0 rfl rfl) rfl ?_
    refine nk_p (i := .lload_n 2) (len := 1) (pc' := 112) mJ_350 (by decide +kernel) (ns_lload_n 2 rfl rfl) rfl ?_
    refine nk_p (i := .lload 4) (len := 2) (pc' := 114) mJ_350 (by decide +kernel) (ns_lload 3 rfl) rfl ?_
    obtain ⟨r31, S32, h33, hr⟩ := nk_bde hr
    refine nk_callS (ci := 0) (n := 1) (x := 19) (len := 3) (j' := 363) (q' := 1) (r := r31) (S' := S32) (L2 := [(0, nk_l l4)]) (rest := [nk_l l2, nk_r l0]) (st' := [nk_i r31, nk_l l2, nk_r l0]) (pc' := 117) mJ_350 (by decide +kernel) (by decide +kernel) (Nat.le_of_ble_eq_true rfl) rfl rfl (Nat.le_of_ble_eq_true rfl) mJ_363 (Nat.le_of_ble_eq_true rfl) ja_Tpos rfl (ja_X5_lowest_ok zs _ _ _ h33) rfl ?_
    refine nk_p (i := .i2l) (len := 1) (pc' := 118) mJ_350 (by decide +kernel) ns_i2l rfl ?_
    refine nk_p (i := .lload 4) (len := 2) (pc' := 120) mJ_350 (by decide +kernel) (ns_lload 3 rfl) rfl ?_
    obtain ⟨r34, S35, h36, hr⟩ := nk_bde hr
    refine nk_callS (ci := 0) (n := 1) (x := 29) (len := 3) (j' := 356) (q' := 1) (r := r34) (S' := S35) (L2 := [(0, nk_l l4)]) (rest := [nk_l r31, nk_l l2, nk_r l0]) (st' := [nk_i r34, nk_l r31, nk_l l2, nk_r l0]) (pc' := 123) mJ_350 (by decide +kernel) (by decide +kernel) (Nat.le_of_ble_eq_true rfl) rfl rfl (Nat.le_of_ble_eq_true rfl) mJ_356 (Nat.le_of_ble_eq_true rfl) ja_Tpos rfl (ja_X5_highest_ok zs _ _ _ h36) rfl ?_
    refine nk_p (i := .i2l) (len := 1) (pc' := 124) mJ_350 (by decide +kernel) ns_i2l rfl ?_
    obtain ⟨r37, S38, h39, hr⟩ := nk_bde hr
    refine nk_callV (ci := 5) (n := 3) (x := 84) (len := 3) (j' := 368) (q' := 2) (r := r37) (S' := S38) (L2 := [(0, nk_r l0), (1, nk_l l2), (3, nk_l r31), (5, nk_l r34)]) (rest := []) (st' := [nk_l r37]) (pc' := 127) mJ_350 (by decide +kernel) (by decide +kernel) rfl rfl t_l0 (Nat.le_of_ble_eq_true rfl) mJ_368 (Nat.le_of_ble_eq_true rfl) rfl (ja_X5_product_ok zs _ _ _ _ _ _ t_l0 h39) rfl ?_
    cases hr
    exact nk_lret (len := 1) mJ_350 (by decide +kernel) rfl
  have hr := nk_ifn hc2 hr
  by_cases hc3 : l1 = 11
  · have hr := nk_ifp hc3 hr
    refine nk_p (i := .tableswitch 199 8 16 #[51, 80, 109, 127, 135, 143, 151, 151, 159]) (len := 51) (pc' := 128) mJ_350 (by decide +kernel) (ns_tsw (V := 11) hc3 (by decide +kernel)) rfl ?_
    refine nk_p (i := .aload_n 0) (len := 1) (pc' := 129) mJ_350 (by decide +kernel) (ns_aload_n 0 rfl rfl) rfl ?_
    refine nk_p (i := .lload_n 2) (len := 1) (pc' := 130) mJ_350 (by decide +kernel) (ns_lload_n 2 rfl rfl) rfl ?_
    refine nk_p (i := .lload 4) (len := 2) (pc' := 132) mJ_350 (by decide +kernel) (ns_lload 3 rfl) rfl ?_
    obtain ⟨r40, S41, h42, hr⟩ := nk_bde hr
    refine nk_callV (ci := 5) (n := 2) (x := 88) (len := 3) (j' := 369) (q' := 2) (r := r40) (S' := S41) (L2 := [(0, nk_r l0), (1, nk_l l2), (3, nk_l l4)]) (rest := []) (st' := [nk_l r40]) (pc' := 135) mJ_350 (by decide +kernel) (by decide +kernel) rfl rfl t_l0 (Nat.le_of_ble_eq_true rfl) mJ_369 (Nat.le_of_ble_eq_true rfl) rfl (ja_X5_quotient_ok zs _ _ _ _ _ t_l0 h42) rfl ?_
    cases hr
    exact nk_lret (len := 1) mJ_350 (by decide +kernel) rfl
  have hr := nk_ifn hc3 hr
  by_cases hc4 : l1 = 12
  · have hr := nk_ifp hc4 hr
    refine nk_p (i := .tableswitch 199 8 16 #[51, 80, 109, 127, 135, 143, 151, 151, 159]) (len := 51) (pc' := 136) mJ_350 (by decide +kernel) (ns_tsw (V := 12) hc4 (by decide +kernel)) rfl ?_
    refine nk_p (i := .aload_n 0) (len := 1) (pc' := 137) mJ_350 (by decide +kernel) (ns_aload_n 0 rfl rfl) rfl ?_
    refine nk_p (i := .lload_n 2) (len := 1) (pc' := 138) mJ_350 (by decide +kernel) (ns_lload_n 2 rfl rfl) rfl ?_
    refine nk_p (i := .lload 4) (len := 2) (pc' := 140) mJ_350 (by decide +kernel) (ns_lload 3 rfl) rfl ?_
    obtain ⟨r43, S44, h45, hr⟩ := nk_bde hr
    refine nk_callV (ci := 5) (n := 2) (x := 91) (len := 3) (j' := 370) (q' := 2) (r := r43) (S' := S44) (L2 := [(0, nk_r l0), (1, nk_l l2), (3, nk_l l4)]) (rest := []) (st' := [nk_l r43]) (pc' := 143) mJ_350 (by decide +kernel) (by decide +kernel) rfl rfl t_l0 (Nat.le_of_ble_eq_true rfl) mJ_370 (Nat.le_of_ble_eq_true rfl) rfl (ja_X5_remainder_ok zs _ _ _ _ _ t_l0 h45) rfl ?_
    cases hr
    exact nk_lret (len := 1) mJ_350 (by decide +kernel) rfl
  have hr := nk_ifn hc4 hr
  by_cases hc5 : l1 = 13
  · have hr := nk_ifp hc5 hr
    refine nk_p (i := .tableswitch 199 8 16 #[51, 80, 109, 127, 135, 143, 151, 151, 159]) (len := 51) (pc' := 144) mJ_350 (by decide +kernel) (ns_tsw (V := 13) hc5 (by decide +kernel)) rfl ?_
    refine nk_p (i := .aload_n 0) (len := 1) (pc' := 145) mJ_350 (by decide +kernel) (ns_aload_n 0 rfl rfl) rfl ?_
    refine nk_p (i := .lload_n 2) (len := 1) (pc' := 146) mJ_350 (by decide +kernel) (ns_lload_n 2 rfl rfl) rfl ?_
    refine nk_p (i := .lload 4) (len := 2) (pc' := 148) mJ_350 (by decide +kernel) (ns_lload 3 rfl) rfl ?_
    obtain ⟨r46, S47, h48, hr⟩ := nk_bde hr
    refine nk_callV (ci := 5) (n := 2) (x := 94) (len := 3) (j' := 353) (q' := 2) (r := r46) (S' := S47) (L2 := [(0, nk_r l0), (1, nk_l l2), (3, nk_l l4)]) (rest := []) (st' := [nk_l r46]) (pc' := 151) mJ_350 (by decide +kernel) (by decide +kernel) rfl rfl t_l0 (Nat.le_of_ble_eq_true rfl) mJ_353 (Nat.le_of_ble_eq_true rfl) rfl (ja_X5_conjunction_ok zs _ _ _ _ _ t_l0 h48) rfl ?_
    cases hr
    exact nk_lret (len := 1) mJ_350 (by decide +kernel) rfl
  have hr := nk_ifn hc5 hr
  by_cases hc6 : l1 = 14
  · have hr := nk_ifp hc6 hr
    refine nk_p (i := .tableswitch 199 8 16 #[51, 80, 109, 127, 135, 143, 151, 151, 159]) (len := 51) (pc' := 152) mJ_350 (by decide +kernel) (ns_tsw (V := 14) hc6 (by decide +kernel)) rfl ?_
    refine nk_sub [0, 2, 3] (L' := [(0, nk_r l0), (2, nk_l l2), (4, nk_l l4)]) rfl ?_
    exact ja_X5_calculate_b152_ok zs _ _ _ _ _ t_l0 hr
  have hr := nk_ifn hc6 hr
  by_cases hc7 : l1 = 15
  · have hr := nk_ifp hc7 hr
    refine nk_p (i := .tableswitch 199 8 16 #[51, 80, 109, 127, 135, 143, 151, 151, 159]) (len := 51) (pc' := 152) mJ_350 (by decide +kernel) (ns_tsw (V := 15) hc7 (by decide +kernel)) rfl ?_
    refine nk_sub [0, 2, 3] (L' := [(0, nk_r l0), (2, nk_l l2), (4, nk_l l4)]) rfl ?_
    exact ja_X5_calculate_b152_ok zs _ _ _ _ _ t_l0 hr
  have hr := nk_ifn hc7 hr
  by_cases hc8 : l1 = 16
  · have hr := nk_ifp hc8 hr
    refine nk_p (i := .tableswitch 199 8 16 #[51, 80, 109, 127, 135, 143, 151, 151, 159]) (len := 51) (pc' := 160) mJ_350 (by decide +kernel) (ns_tsw (V := 16) hc8 (by decide +kernel)) rfl ?_
    refine nk_p (i := .lload 4) (len := 2) (pc' := 162) mJ_350 (by decide +kernel) (ns_lload 3 rfl) rfl ?_
    obtain ⟨r49, S50, h51, hr⟩ := nk_bde hr
    refine nk_callS (ci := 0) (n := 1) (x := 80) (len := 3) (j' := 361) (q' := 1) (r := r49) (S' := S50) (L2 := [(0, nk_l l4)]) (rest := []) (st' := [nk_i r49]) (pc' := 165) mJ_350 (by decide +kernel) (by decide +kernel) (Nat.le_of_ble_eq_true rfl) rfl rfl (Nat.le_of_ble_eq_true rfl) mJ_361 (Nat.le_of_ble_eq_true rfl) ja_Tpos rfl (ja_X5_isSingle_ok zs _ _ _ h51) rfl ?_
    refine nk_icond (c := .eq) (off := 31) (len := 3) (t := 196) (pc' := 168) mJ_350 (by decide +kernel) (by decide +kernel) rfl (fun hc => ?_) (fun hc => ?_)
    · have hr := nk_ifp (c := r49 = 0) hc hr
      refine nk_ldc2 (x := 70) (len := 3) (X := (-9223372034707292161)) (v := (-9223372034707292161)) (pc' := 199) mJ_350 (by decide +kernel) (by decide +kernel) (by decide +kernel) rfl ?_
      cases hr
      exact nk_lret (len := 1) mJ_350 (by decide +kernel) rfl
    · have hr := nk_ifn (c := r49 = 0) hc hr
      refine nk_p (i := .aload_n 0) (len := 1) (pc' := 169) mJ_350 (by decide +kernel) (ns_aload_n 0 rfl rfl) rfl ?_
      refine nk_p (i := .lload_n 2) (len := 1) (pc' := 170) mJ_350 (by decide +kernel) (ns_lload_n 2 rfl rfl) rfl ?_
      refine nk_p (i := .lconst 1) (len := 1) (pc' := 171) mJ_350 (by decide +kernel) (ns_lconst (c := 1) (by decide +kernel)) rfl ?_
      refine nk_p (i := .lload 4) (len := 2) (pc' := 173) mJ_350 (by decide +kernel) (ns_lload 3 rfl) rfl ?_
      obtain ⟨r52, S53, h54, hr⟩ := nk_bde hr
      refine nk_callS (ci := 0) (n := 1) (x := 19) (len := 3) (j' := 363) (q' := 1) (r := r52) (S' := S53) (L2 := [(0, nk_l l4)]) (rest := [nk_l 1, nk_l l2, nk_r l0]) (st' := [nk_i r52, nk_l 1, nk_l l2, nk_r l0]) (pc' := 176) mJ_350 (by decide +kernel) (by decide +kernel) (Nat.le_of_ble_eq_true rfl) rfl rfl (Nat.le_of_ble_eq_true rfl) mJ_363 (Nat.le_of_ble_eq_true rfl) ja_Tpos rfl (ja_X5_lowest_ok zs _ _ _ h54) rfl ?_
      refine nk_p (i := .bipush 31) (len := 2) (pc' := 178) mJ_350 (by decide +kernel) (ns_bipush (c := 31) (by decide +kernel)) rfl ?_
      refine nk_p (i := .iand) (len := 1) (pc' := 179) mJ_350 (by decide +kernel) ns_iand rfl ?_
      refine nk_p (i := .lshl) (len := 1) (pc' := 180) mJ_350 (by decide +kernel) ns_lshl rfl ?_
      refine nk_p (i := .lconst 1) (len := 1) (pc' := 181) mJ_350 (by decide +kernel) (ns_lconst (c := 1) (by decide +kernel)) rfl ?_
      refine nk_p (i := .lload 4) (len := 2) (pc' := 183) mJ_350 (by decide +kernel) (ns_lload 3 rfl) rfl ?_
      obtain ⟨r55, S56, h57, hr⟩ := nk_bde hr
      refine nk_callS (ci := 0) (n := 1) (x := 19) (len := 3) (j' := 363) (q' := 1) (r := r55) (S' := S56) (L2 := [(0, nk_l l4)]) (rest := [nk_l 1, nk_l (nk_lshl 1 (nk_iand r52 31)), nk_l l2, nk_r l0]) (st' := [nk_i r55, nk_l 1, nk_l (nk_lshl 1 (nk_iand r52 31)), nk_l l2, nk_r l0]) (pc' := 186) mJ_350 (by decide +kernel) (by decide +kernel) (Nat.le_of_ble_eq_true rfl) rfl rfl (Nat.le_of_ble_eq_true rfl) mJ_363 (Nat.le_of_ble_eq_true rfl) ja_Tpos rfl (ja_X5_lowest_ok zs _ _ _ h57) rfl ?_
      refine nk_p (i := .bipush 31) (len := 2) (pc' := 188) mJ_350 (by decide +kernel) (ns_bipush (c := 31) (by decide +kernel)) rfl ?_
      refine nk_p (i := .iand) (len := 1) (pc' := 189) mJ_350 (by decide +kernel) ns_iand rfl ?_
      refine nk_p (i := .lshl) (len := 1) (pc' := 190) mJ_350 (by decide +kernel) ns_lshl rfl ?_
      obtain ⟨r58, S59, h60, hr⟩ := nk_bde hr
      refine nk_callV (ci := 5) (n := 3) (x := 84) (len := 3) (j' := 368) (q' := 2) (r := r58) (S' := S59) (L2 := [(0, nk_r l0), (1, nk_l l2), (3, nk_l (nk_lshl 1 (nk_iand r52 31))), (5, nk_l (nk_lshl 1 (nk_iand r55 31)))]) (rest := []) (st' := [nk_l r58]) (pc' := 193) mJ_350 (by decide +kernel) (by decide +kernel) rfl rfl t_l0 (Nat.le_of_ble_eq_true rfl) mJ_368 (Nat.le_of_ble_eq_true rfl) rfl (ja_X5_product_ok zs _ _ _ _ _ _ t_l0 h60) rfl ?_
      refine nk_p (i := .goto 6) (len := 3) (pc' := 199) mJ_350 (by decide +kernel) (ns_goto (by decide +kernel)) rfl ?_
      cases hr
      exact nk_lret (len := 1) mJ_350 (by decide +kernel) rfl
  have hr := nk_ifn hc8 hr
  refine nk_p (i := .tableswitch 199 8 16 #[51, 80, 109, 127, 135, 143, 151, 151, 159]) (len := 51) (pc' := 200) mJ_350 (by decide +kernel) (ns_tsd (by omega) (by decide +kernel)) rfl ?_
  refine nk_p (i := .aload_n 0) (len := 1) (pc' := 201) mJ_350 (by decide +kernel) (ns_aload_n 0 rfl rfl) rfl ?_
  refine nk_p (i := .lload_n 2) (len := 1) (pc' := 202) mJ_350 (by decide +kernel) (ns_lload_n 2 rfl rfl) rfl ?_
  refine nk_p (i := .lload 4) (len := 2) (pc' := 204) mJ_350 (by decide +kernel) (ns_lload 3 rfl) rfl ?_
  obtain ⟨r61, S62, h63, hr⟩ := nk_bde hr
  refine nk_callV (ci := 5) (n := 2) (x := 100) (len := 3) (j' := 371) (q' := 2) (r := r61) (S' := S62) (L2 := [(0, nk_r l0), (1, nk_l l2), (3, nk_l l4)]) (rest := []) (st' := [nk_l r61]) (pc' := 207) mJ_350 (by decide +kernel) (by decide +kernel) rfl rfl t_l0 (Nat.le_of_ble_eq_true rfl) mJ_371 (Nat.le_of_ble_eq_true rfl) rfl (ja_X5_shifted_ok zs _ _ _ _ _ t_l0 h63) rfl ?_
  cases hr
  exact nk_lret (len := 1) mJ_350 (by decide +kernel) rfl
/-! SafeCode$Proof calculates (I)Z -/
noncomputable def ja_X4_calculates_b129 (l0 : Nat) (l3 : Int) (S : nk_S) : Option (Int × nk_S) :=
  nk_bd (ja_X7_push (ja_c l0 2) l3 4503599627370496 S) fun r2 S3 =>
  nk_bd (ja_X5_isNothing l3 S3) fun r5 S6 =>
  if r5 = 0 then
    some (1, S6)
  else
    some (0, S6)
theorem ja_X4_calculates_b129_ok (zs : List Int32) : ∀ (l0 : Nat) (l3 : Int) (S : nk_S) (R : Int × nk_S), nk_cl ja_Tt l0 = some 4 → ja_X4_calculates_b129 l0 l3 S = some R → nk_K ja_Tt mi_Γ (mi_ev zs) 1 312 129 [(0, nk_r l0), (3, nk_l l3)] [] S R := by
  intro l0 l3 S R t_l0 hr
  unfold ja_X4_calculates_b129 at hr
  refine nk_p (i := .aload_n 0) (len := 1) (pc' := 130) mJ_312 (by decide +kernel) (ns_aload_n 0 rfl rfl) rfl ?_
  refine nk_getC (f := (2, 7, 0)) (x := 12) (len := 3) (ci := 4) (k := 2) (pc' := 133) ja_okT mJ_312 (by decide +kernel) (by decide +kernel) (by decide +kernel) (by decide) t_l0 rfl ?_
  have t1 : nk_cl ja_Tt (ja_c l0 2) = some 7 := nk_tc (y := 0) ja_okT t_l0 (by decide +kernel)
  refine nk_p (i := .lload_n 3) (len := 1) (pc' := 134) mJ_312 (by decide +kernel) (ns_lload_n 1 rfl rfl) rfl ?_
  refine nk_ldc2 (x := 256) (len := 3) (X := 4503599627370496) (v := 4503599627370496) (pc' := 137) mJ_312 (by decide +kernel) (by decide +kernel) (by decide +kernel) rfl ?_
  obtain ⟨r2, S3, h4, hr⟩ := nk_bde hr
  refine nk_callV (ci := 7) (n := 2) (x := 258) (len := 3) (j' := 408) (q' := 0) (r := r2) (S' := S3) (L2 := [(0, nk_r (ja_c l0 2)), (1, nk_l l3), (3, nk_l 4503599627370496)]) (rest := []) (st' := []) (pc' := 140) mJ_312 (by decide +kernel) (by decide +kernel) rfl rfl t1 (Nat.le_of_ble_eq_true rfl) mJ_408 (Nat.le_of_ble_eq_true rfl) rfl (ja_X7_push_ok zs _ _ _ _ _ t1 h4) rfl ?_
  refine nk_p (i := .lload_n 3) (len := 1) (pc' := 141) mJ_312 (by decide +kernel) (ns_lload_n 1 rfl rfl) rfl ?_
  obtain ⟨r5, S6, h7, hr⟩ := nk_bde hr
  refine nk_callS (ci := 0) (n := 1) (x := 342) (len := 3) (j' := 360) (q' := 1) (r := r5) (S' := S6) (L2 := [(0, nk_l l3)]) (rest := []) (st' := [nk_i r5]) (pc' := 144) mJ_312 (by decide +kernel) (by decide +kernel) (Nat.le_of_ble_eq_true rfl) rfl rfl (Nat.le_of_ble_eq_true rfl) mJ_360 (Nat.le_of_ble_eq_true rfl) ja_Tpos rfl (ja_X5_isNothing_ok zs _ _ _ h7) rfl ?_
  refine nk_icond (c := .ne) (off := 7) (len := 3) (t := 151) (pc' := 147) mJ_312 (by decide +kernel) (by decide +kernel) rfl (fun hc => ?_) (fun hc => ?_)
  · have hr := nk_ifn (c := r5 = 0) hc hr
    refine nk_p (i := .iconst 0) (len := 1) (pc' := 152) mJ_312 (by decide +kernel) (ns_iconst (c := 0) (by decide +kernel)) rfl ?_
    cases hr
    exact nk_iret (ty := .boolean) (len := 1) mJ_312 (by decide +kernel) rfl (nk_nar_z (by decide))
  · have hr := nk_ifp (c := r5 = 0) (Decidable.of_not_not hc) hr
    refine nk_p (i := .iconst 1) (len := 1) (pc' := 148) mJ_312 (by decide +kernel) (ns_iconst (c := 1) (by decide +kernel)) rfl ?_
    refine nk_p (i := .goto 4) (len := 3) (pc' := 152) mJ_312 (by decide +kernel) (ns_goto (by decide +kernel)) rfl ?_
    cases hr
    exact nk_iret (ty := .boolean) (len := 1) mJ_312 (by decide +kernel) rfl (nk_nar_z (by decide))
noncomputable def ja_X4_calculates_b99 (l0 : Nat) (l1 : Int) (l2 : Int) (l5 : Int) (S : nk_S) : Option (Int × nk_S) :=
  if 0 ≤ (nk_w (l2 - 1)) ∧ (nk_w (l2 - 1)) < 20 then
  nk_bd (ja_X5_calculate (S.2 l0 1) l1 (S.1 (ja_c (ja_c l0 2) 4) (nk_w (l2 - 1)).toNat) l5 S) fun r5 S6 =>
  nk_bd (ja_X7_drop (ja_c l0 2) 2 S6) fun r8 S9 =>
  ja_X4_calculates_b129 l0 r5 S9
  else none
theorem ja_X4_calculates_b99_ok (zs : List Int32) : ∀ (l0 : Nat) (l1 : Int) (l2 : Int) (l5 : Int) (S : nk_S) (R : Int × nk_S), nk_cl ja_Tt l0 = some 4 → ja_X4_calculates_b99 l0 l1 l2 l5 S = some R → nk_K ja_Tt mi_Γ (mi_ev zs) 1 312 99 [(0, nk_r l0), (1, nk_i l1), (2, nk_i l2), (5, nk_l l5)] [] S R := by
  intro l0 l1 l2 l5 S R t_l0 hr
  unfold ja_X4_calculates_b99 at hr
  refine nk_p (i := .aload_n 0) (len := 1) (pc' := 100) mJ_312 (by decide +kernel) (ns_aload_n 0 rfl rfl) rfl ?_
  refine nk_getM (cj := 5) (z := 0) (x := 52) (len := 3) (ci := 4) (k := 1) (pc' := 103) ja_okT mJ_312 (by decide +kernel) (by decide +kernel) (by decide +kernel) t_l0 rfl (fun t1 => ?_)
  refine nk_p (i := .iload_n 1) (len := 1) (pc' := 104) mJ_312 (by decide +kernel) (ns_iload_n 1 rfl rfl) rfl ?_
  refine nk_p (i := .aload_n 0) (len := 1) (pc' := 105) mJ_312 (by decide +kernel) (ns_aload_n 0 rfl rfl) rfl ?_
  refine nk_getC (f := (2, 7, 0)) (x := 12) (len := 3) (ci := 4) (k := 2) (pc' := 108) ja_okT mJ_312 (by decide +kernel) (by decide +kernel) (by decide +kernel) (by decide) t_l0 rfl ?_
  have t2 : nk_cl ja_Tt (ja_c l0 2) = some 7 := nk_tc (y := 0) ja_okT t_l0 (by decide +kernel)
  refine nk_getC (f := (4, 2, 20)) (x := 299) (len := 3) (ci := 7) (k := 4) (pc' := 111) ja_okT mJ_312 (by decide +kernel) (by decide +kernel) (by decide +kernel) (by decide) t2 rfl ?_
  have t3 : nk_ar ja_Tt (ja_c (ja_c l0 2) 4) = some (2, 20) := nk_ta ja_okT t2 (by decide +kernel)
  refine nk_p (i := .iload_n 2) (len := 1) (pc' := 112) mJ_312 (by decide +kernel) (ns_iload_n 2 rfl rfl) rfl ?_
  refine nk_p (i := .iconst 1) (len := 1) (pc' := 113) mJ_312 (by decide +kernel) (ns_iconst (c := 1) (by decide +kernel)) rfl ?_
  refine nk_p (i := .isub) (len := 1) (pc' := 114) mJ_312 (by decide +kernel) ns_isub rfl ?_
  obtain ⟨h4, hr⟩ := nk_cke hr
  refine nk_lald (len := 1) (N := 20) (pc' := 115) mJ_312 (by decide +kernel) t3 h4.1 h4.2 rfl rfl ?_
  refine nk_p (i := .lload 5) (len := 2) (pc' := 117) mJ_312 (by decide +kernel) (ns_lload 3 rfl) rfl ?_
  obtain ⟨r5, S6, h7, hr⟩ := nk_bde hr
  refine nk_callV (ci := 5) (n := 3) (x := 338) (len := 3) (j' := 350) (q' := 2) (r := r5) (S' := S6) (L2 := [(0, nk_r (S.2 l0 1)), (1, nk_i l1), (2, nk_l (S.1 (ja_c (ja_c l0 2) 4) (nk_w (l2 - 1)).toNat)), (4, nk_l l5)]) (rest := []) (st' := [nk_l r5]) (pc' := 120) mJ_312 (by decide +kernel) (by decide +kernel) rfl rfl t1 (Nat.le_of_ble_eq_true rfl) mJ_350 (Nat.le_of_ble_eq_true rfl) rfl (ja_X5_calculate_ok zs _ _ _ _ _ _ t1 h7) rfl ?_
  refine nk_p (i := .lstore_n 3) (len := 1) (pc' := 121) mJ_312 (by decide +kernel) (ns_lstore_n (L' := [(3, nk_l r5), (0, nk_r l0), (1, nk_i l1), (2, nk_i l2), (5, nk_l l5)]) rfl rfl rfl (by decide +kernel)) rfl ?_
  refine nk_p (i := .aload_n 0) (len := 1) (pc' := 122) mJ_312 (by decide +kernel) (ns_aload_n 1 rfl rfl) rfl ?_
  refine nk_getC (f := (2, 7, 0)) (x := 12) (len := 3) (ci := 4) (k := 2) (pc' := 125) ja_okT mJ_312 (by decide +kernel) (by decide +kernel) (by decide +kernel) (by decide) t_l0 rfl ?_
  refine nk_p (i := .iconst 2) (len := 1) (pc' := 126) mJ_312 (by decide +kernel) (ns_iconst (c := 2) (by decide +kernel)) rfl ?_
  obtain ⟨r8, S9, h10, hr⟩ := nk_bde hr
  refine nk_callV (ci := 7) (n := 1) (x := 321) (len := 3) (j' := 401) (q' := 0) (r := r8) (S' := S9) (L2 := [(0, nk_r (ja_c l0 2)), (1, nk_i 2)]) (rest := []) (st' := []) (pc' := 129) mJ_312 (by decide +kernel) (by decide +kernel) rfl rfl t2 (Nat.le_of_ble_eq_true rfl) mJ_401 (Nat.le_of_ble_eq_true rfl) rfl (ja_X7_drop_ok zs _ _ _ _ t2 h10) rfl ?_
  refine nk_sub [1, 0] (L' := [(0, nk_r l0), (3, nk_l r5)]) rfl ?_
  exact ja_X4_calculates_b129_ok zs _ _ _ _ t_l0 hr
noncomputable def ja_X4_calculates_b71 (l0 : Nat) (l1 : Int) (l2 : Int) (l5 : Int) (s0 : Int) (S : nk_S) : Option (Int × nk_S) :=
  if s0 = 0 then
    ja_X4_calculates_b99 l0 l1 l2 l5 S
  else
    nk_bd (ja_X5_lowest l5 S) fun r1 S2 =>
    if 0 < r1 then
      ja_X4_calculates_b99 l0 l1 l2 l5 S2
    else
      nk_bd (ja_X5_highest l5 S2) fun r4 S5 =>
      if r4 < 0 then
        ja_X4_calculates_b99 l0 l1 l2 l5 S5
      else
        nk_bd (ja_X4_raise l0 3 S5) fun r7 S8 =>
        ja_X4_calculates_b99 l0 l1 l2 l5 S8
theorem ja_X4_calculates_b71_ok (zs : List Int32) : ∀ (l0 : Nat) (l1 : Int) (l2 : Int) (l5 : Int) (s0 : Int) (S : nk_S) (R : Int × nk_S), nk_cl ja_Tt l0 = some 4 → ja_X4_calculates_b71 l0 l1 l2 l5 s0 S = some R → nk_K ja_Tt mi_Γ (mi_ev zs) 1 312 71 [(0, nk_r l0), (1, nk_i l1), (2, nk_i l2), (5, nk_l l5)] [nk_i s0] S R := by
  intro l0 l1 l2 l5 s0 S R t_l0 hr
  unfold ja_X4_calculates_b71 at hr
  refine nk_p (i := .istore 7) (len := 2) (pc' := 73) mJ_312 (by decide +kernel) (ns_istore (L' := [(7, nk_i s0), (0, nk_r l0), (1, nk_i l1), (2, nk_i l2), (5, nk_l l5)]) rfl rfl (by decide +kernel)) rfl ?_
  refine nk_p (i := .iload 7) (len := 2) (pc' := 75) mJ_312 (by decide +kernel) (ns_iload 0 rfl) rfl ?_
  refine nk_icond (c := .eq) (off := 24) (len := 3) (t := 99) (pc' := 78) mJ_312 (by decide +kernel) (by decide +kernel) rfl (fun hc => ?_) (fun hc => ?_)
  · have hr := nk_ifp (c := s0 = 0) hc hr
    refine nk_sub [1, 2, 3, 4] (L' := [(0, nk_r l0), (1, nk_i l1), (2, nk_i l2), (5, nk_l l5)]) rfl ?_
    exact ja_X4_calculates_b99_ok zs _ _ _ _ _ _ t_l0 hr
  · have hr := nk_ifn (c := s0 = 0) hc hr
    refine nk_p (i := .lload 5) (len := 2) (pc' := 80) mJ_312 (by decide +kernel) (ns_lload 4 rfl) rfl ?_
    obtain ⟨r1, S2, h3, hr⟩ := nk_bde hr
    refine nk_callS (ci := 0) (n := 1) (x := 328) (len := 3) (j' := 363) (q' := 1) (r := r1) (S' := S2) (L2 := [(0, nk_l l5)]) (rest := []) (st' := [nk_i r1]) (pc' := 83) mJ_312 (by decide +kernel) (by decide +kernel) (Nat.le_of_ble_eq_true rfl) rfl rfl (Nat.le_of_ble_eq_true rfl) mJ_363 (Nat.le_of_ble_eq_true rfl) ja_Tpos rfl (ja_X5_lowest_ok zs _ _ _ h3) rfl ?_
    refine nk_icond (c := .gt) (off := 16) (len := 3) (t := 99) (pc' := 86) mJ_312 (by decide +kernel) (by decide +kernel) rfl (fun hc => ?_) (fun hc => ?_)
    · have hr := nk_ifp (c := 0 < r1) hc hr
      refine nk_sub [1, 2, 3, 4] (L' := [(0, nk_r l0), (1, nk_i l1), (2, nk_i l2), (5, nk_l l5)]) rfl ?_
      exact ja_X4_calculates_b99_ok zs _ _ _ _ _ _ t_l0 hr
    · have hr := nk_ifn (c := 0 < r1) hc hr
      refine nk_p (i := .lload 5) (len := 2) (pc' := 88) mJ_312 (by decide +kernel) (ns_lload 4 rfl) rfl ?_
      obtain ⟨r4, S5, h6, hr⟩ := nk_bde hr
      refine nk_callS (ci := 0) (n := 1) (x := 332) (len := 3) (j' := 356) (q' := 1) (r := r4) (S' := S5) (L2 := [(0, nk_l l5)]) (rest := []) (st' := [nk_i r4]) (pc' := 91) mJ_312 (by decide +kernel) (by decide +kernel) (Nat.le_of_ble_eq_true rfl) rfl rfl (Nat.le_of_ble_eq_true rfl) mJ_356 (Nat.le_of_ble_eq_true rfl) ja_Tpos rfl (ja_X5_highest_ok zs _ _ _ h6) rfl ?_
      refine nk_icond (c := .lt) (off := 8) (len := 3) (t := 99) (pc' := 94) mJ_312 (by decide +kernel) (by decide +kernel) rfl (fun hc => ?_) (fun hc => ?_)
      · have hr := nk_ifp (c := r4 < 0) hc hr
        refine nk_sub [1, 2, 3, 4] (L' := [(0, nk_r l0), (1, nk_i l1), (2, nk_i l2), (5, nk_l l5)]) rfl ?_
        exact ja_X4_calculates_b99_ok zs _ _ _ _ _ _ t_l0 hr
      · have hr := nk_ifn (c := r4 < 0) hc hr
        refine nk_p (i := .aload_n 0) (len := 1) (pc' := 95) mJ_312 (by decide +kernel) (ns_aload_n 1 rfl rfl) rfl ?_
        refine nk_p (i := .iconst 3) (len := 1) (pc' := 96) mJ_312 (by decide +kernel) (ns_iconst (c := 3) (by decide +kernel)) rfl ?_
        obtain ⟨r7, S8, h9, hr⟩ := nk_bde hr
        refine nk_callV (ci := 4) (n := 1) (x := 335) (len := 3) (j' := 338) (q' := 0) (r := r7) (S' := S8) (L2 := [(0, nk_r l0), (1, nk_i 3)]) (rest := []) (st' := []) (pc' := 99) mJ_312 (by decide +kernel) (by decide +kernel) rfl rfl t_l0 (Nat.le_of_ble_eq_true rfl) mJ_338 (Nat.le_of_ble_eq_true rfl) rfl (ja_X4_raise_ok zs _ _ _ _ t_l0 h9) rfl ?_
        refine nk_sub [1, 2, 3, 4] (L' := [(0, nk_r l0), (1, nk_i l1), (2, nk_i l2), (5, nk_l l5)]) rfl ?_
        exact ja_X4_calculates_b99_ok zs _ _ _ _ _ _ t_l0 hr
noncomputable def ja_X4_calculates_b66 (l0 : Nat) (l1 : Int) (l2 : Int) (l5 : Int) (S : nk_S) : Option (Int × nk_S) :=
  ja_X4_calculates_b71 l0 l1 l2 l5 1 S
theorem ja_X4_calculates_b66_ok (zs : List Int32) : ∀ (l0 : Nat) (l1 : Int) (l2 : Int) (l5 : Int) (S : nk_S) (R : Int × nk_S), nk_cl ja_Tt l0 = some 4 → ja_X4_calculates_b66 l0 l1 l2 l5 S = some R → nk_K ja_Tt mi_Γ (mi_ev zs) 1 312 66 [(0, nk_r l0), (1, nk_i l1), (2, nk_i l2), (5, nk_l l5)] [] S R := by
  intro l0 l1 l2 l5 S R t_l0 hr
  unfold ja_X4_calculates_b66 at hr
  refine nk_p (i := .iconst 1) (len := 1) (pc' := 67) mJ_312 (by decide +kernel) (ns_iconst (c := 1) (by decide +kernel)) rfl ?_
  refine nk_p (i := .goto 4) (len := 3) (pc' := 71) mJ_312 (by decide +kernel) (ns_goto (by decide +kernel)) rfl ?_
  exact ja_X4_calculates_b71_ok zs _ _ _ _ _ _ _ t_l0 hr
noncomputable def ja_X4_calculates (l0 : Nat) (l1 : Int) (S : nk_S) : Option (Int × nk_S) :=
  nk_bd (ja_X7_fromTop (ja_c l0 2) 0 S) fun r2 S3 =>
  if l1 = 18 then
    if 0 ≤ r2 ∧ r2 < 20 then
    nk_bd (ja_X5_negative (S3.2 l0 1) (S3.1 (ja_c (ja_c l0 2) 4) r2.toNat) S3) fun r12 S13 =>
    nk_bd (ja_X7_drop (ja_c l0 2) 1 S13) fun r15 S16 =>
    ja_X4_calculates_b129 l0 r12 S16
    else none
  else
    if 0 ≤ r2 ∧ r2 < 20 then
    nk_lt (S3.1 (ja_c (ja_c l0 2) 4) r2.toNat) fun v7 =>
    if l1 = 11 then
      ja_X4_calculates_b66 l0 l1 r2 v7 S3
    else
      if l1 = 12 then
        ja_X4_calculates_b66 l0 l1 r2 v7 S3
      else
        ja_X4_calculates_b71 l0 l1 r2 v7 0 S3
    else none
theorem ja_X4_calculates_ok (zs : List Int32) : ∀ (l0 : Nat) (l1 : Int) (S : nk_S) (R : Int × nk_S), nk_cl ja_Tt l0 = some 4 → ja_X4_calculates l0 l1 S = some R → nk_K ja_Tt mi_Γ (mi_ev zs) 1 312 0 [(0, nk_r l0), (1, nk_i l1)] [] S R := by
  intro l0 l1 S R t_l0 hr
  unfold ja_X4_calculates at hr
  refine nk_p (i := .aload_n 0) (len := 1) (pc' := 1) mJ_312 (by decide +kernel) (ns_aload_n 0 rfl rfl) rfl ?_
  refine nk_getC (f := (2, 7, 0)) (x := 12) (len := 3) (ci := 4) (k := 2) (pc' := 4) ja_okT mJ_312 (by decide +kernel) (by decide +kernel) (by decide +kernel) (by decide) t_l0 rfl ?_
  have t1 : nk_cl ja_Tt (ja_c l0 2) = some 7 := nk_tc (y := 0) ja_okT t_l0 (by decide +kernel)
  refine nk_p (i := .iconst 0) (len := 1) (pc' := 5) mJ_312 (by decide +kernel) (ns_iconst (c := 0) (by decide +kernel)) rfl ?_
  obtain ⟨r2, S3, h4, hr⟩ := nk_bde hr
  refine nk_callV (ci := 7) (n := 1) (x := 290) (len := 3) (j' := 403) (q' := 1) (r := r2) (S' := S3) (L2 := [(0, nk_r (ja_c l0 2)), (1, nk_i 0)]) (rest := []) (st' := [nk_i r2]) (pc' := 8) mJ_312 (by decide +kernel) (by decide +kernel) rfl rfl t1 (Nat.le_of_ble_eq_true rfl) mJ_403 (Nat.le_of_ble_eq_true rfl) rfl (ja_X7_fromTop_ok zs _ _ _ _ t1 h4) rfl ?_
  refine nk_p (i := .istore_n 2) (len := 1) (pc' := 9) mJ_312 (by decide +kernel) (ns_istore_n (L' := [(2, nk_i r2), (0, nk_r l0), (1, nk_i l1)]) rfl rfl rfl (by decide +kernel)) rfl ?_
  refine nk_p (i := .iload_n 1) (len := 1) (pc' := 10) mJ_312 (by decide +kernel) (ns_iload_n 2 rfl rfl) rfl ?_
  refine nk_p (i := .bipush 18) (len := 2) (pc' := 12) mJ_312 (by decide +kernel) (ns_bipush (c := 18) (by decide +kernel)) rfl ?_
  refine nk_icmp (c := .ne) (off := 31) (len := 3) (t := 43) (pc' := 15) mJ_312 (by decide +kernel) (by decide +kernel) rfl (fun hc => ?_) (fun hc => ?_)
  · have hr := nk_ifn (c := l1 = 18) hc hr
    refine nk_p (i := .aload_n 0) (len := 1) (pc' := 44) mJ_312 (by decide +kernel) (ns_aload_n 1 rfl rfl) rfl ?_
    refine nk_getC (f := (2, 7, 0)) (x := 12) (len := 3) (ci := 4) (k := 2) (pc' := 47) ja_okT mJ_312 (by decide +kernel) (by decide +kernel) (by decide +kernel) (by decide) t_l0 rfl ?_
    refine nk_getC (f := (4, 2, 20)) (x := 299) (len := 3) (ci := 7) (k := 4) (pc' := 50) ja_okT mJ_312 (by decide +kernel) (by decide +kernel) (by decide +kernel) (by decide) t1 rfl ?_
    have t5 : nk_ar ja_Tt (ja_c (ja_c l0 2) 4) = some (2, 20) := nk_ta ja_okT t1 (by decide +kernel)
    refine nk_p (i := .iload_n 2) (len := 1) (pc' := 51) mJ_312 (by decide +kernel) (ns_iload_n 0 rfl rfl) rfl ?_
    obtain ⟨h6, hr⟩ := nk_cke hr
    refine nk_lald (len := 1) (N := 20) (pc' := 52) mJ_312 (by decide +kernel) t5 h6.1 h6.2 rfl rfl ?_
    obtain ⟨v7, h8, hr⟩ := nk_lte hr
    refine nk_p (i := .lstore 5) (len := 2) (pc' := 54) mJ_312 (by decide +kernel) (ns_lstore (L' := [(5, nk_l v7), (2, nk_i r2), (0, nk_r l0), (1, nk_i l1)]) h8 rfl (by decide +kernel)) rfl ?_
    refine nk_p (i := .iload_n 1) (len := 1) (pc' := 55) mJ_312 (by decide +kernel) (ns_iload_n 3 rfl rfl) rfl ?_
    refine nk_p (i := .bipush 11) (len := 2) (pc' := 57) mJ_312 (by decide +kernel) (ns_bipush (c := 11) (by decide +kernel)) rfl ?_
    refine nk_icmp (c := .eq) (off := 9) (len := 3) (t := 66) (pc' := 60) mJ_312 (by decide +kernel) (by decide +kernel) rfl (fun hc => ?_) (fun hc => ?_)
    · have hr := nk_ifp (c := l1 = 11) hc hr
      refine nk_sub [2, 3, 1, 0] (L' := [(0, nk_r l0), (1, nk_i l1), (2, nk_i r2), (5, nk_l v7)]) rfl ?_
      exact ja_X4_calculates_b66_ok zs _ _ _ _ _ _ t_l0 hr
    · have hr := nk_ifn (c := l1 = 11) hc hr
      refine nk_p (i := .iload_n 1) (len := 1) (pc' := 61) mJ_312 (by decide +kernel) (ns_iload_n 3 rfl rfl) rfl ?_
      refine nk_p (i := .bipush 12) (len := 2) (pc' := 63) mJ_312 (by decide +kernel) (ns_bipush (c := 12) (by decide +kernel)) rfl ?_
      refine nk_icmp (c := .ne) (off := 7) (len := 3) (t := 70) (pc' := 66) mJ_312 (by decide +kernel) (by decide +kernel) rfl (fun hc => ?_) (fun hc => ?_)
      · have hr := nk_ifn (c := l1 = 12) hc hr
        refine nk_p (i := .iconst 0) (len := 1) (pc' := 71) mJ_312 (by decide +kernel) (ns_iconst (c := 0) (by decide +kernel)) rfl ?_
        refine nk_sub [2, 3, 1, 0] (L' := [(0, nk_r l0), (1, nk_i l1), (2, nk_i r2), (5, nk_l v7)]) rfl ?_
        exact ja_X4_calculates_b71_ok zs _ _ _ _ _ _ _ t_l0 hr
      · have hr := nk_ifp (c := l1 = 12) (Decidable.of_not_not hc) hr
        refine nk_sub [2, 3, 1, 0] (L' := [(0, nk_r l0), (1, nk_i l1), (2, nk_i r2), (5, nk_l v7)]) rfl ?_
        exact ja_X4_calculates_b66_ok zs _ _ _ _ _ _ t_l0 hr
  · have hr := nk_ifp (c := l1 = 18) (Decidable.of_not_not hc) hr
    refine nk_p (i := .aload_n 0) (len := 1) (pc' := 16) mJ_312 (by decide +kernel) (ns_aload_n 1 rfl rfl) rfl ?_
    refine nk_getM (cj := 5) (z := 0) (x := 52) (len := 3) (ci := 4) (k := 1) (pc' := 19) ja_okT mJ_312 (by decide +kernel) (by decide +kernel) (by decide +kernel) t_l0 rfl (fun t9 => ?_)
    refine nk_p (i := .aload_n 0) (len := 1) (pc' := 20) mJ_312 (by decide +kernel) (ns_aload_n 1 rfl rfl) rfl ?_
    refine nk_getC (f := (2, 7, 0)) (x := 12) (len := 3) (ci := 4) (k := 2) (pc' := 23) ja_okT mJ_312 (by decide +kernel) (by decide +kernel) (by decide +kernel) (by decide) t_l0 rfl ?_
    refine nk_getC (f := (4, 2, 20)) (x := 299) (len := 3) (ci := 7) (k := 4) (pc' := 26) ja_okT mJ_312 (by decide +kernel) (by decide +kernel) (by decide +kernel) (by decide) t1 rfl ?_
    have t10 : nk_ar ja_Tt (ja_c (ja_c l0 2) 4) = some (2, 20) := nk_ta ja_okT t1 (by decide +kernel)
    refine nk_p (i := .iload_n 2) (len := 1) (pc' := 27) mJ_312 (by decide +kernel) (ns_iload_n 0 rfl rfl) rfl ?_
    obtain ⟨h11, hr⟩ := nk_cke hr
    refine nk_lald (len := 1) (N := 20) (pc' := 28) mJ_312 (by decide +kernel) t10 h11.1 h11.2 rfl rfl ?_
    obtain ⟨r12, S13, h14, hr⟩ := nk_bde hr
    refine nk_callV (ci := 5) (n := 1) (x := 324) (len := 3) (j' := 364) (q' := 2) (r := r12) (S' := S13) (L2 := [(0, nk_r (S3.2 l0 1)), (1, nk_l (S3.1 (ja_c (ja_c l0 2) 4) r2.toNat))]) (rest := []) (st' := [nk_l r12]) (pc' := 31) mJ_312 (by decide +kernel) (by decide +kernel) rfl rfl t9 (Nat.le_of_ble_eq_true rfl) mJ_364 (Nat.le_of_ble_eq_true rfl) rfl (ja_X5_negative_ok zs _ _ _ _ t9 h14) rfl ?_
    refine nk_p (i := .lstore_n 3) (len := 1) (pc' := 32) mJ_312 (by decide +kernel) (ns_lstore_n (L' := [(3, nk_l r12), (2, nk_i r2), (0, nk_r l0), (1, nk_i l1)]) rfl rfl rfl (by decide +kernel)) rfl ?_
    refine nk_p (i := .aload_n 0) (len := 1) (pc' := 33) mJ_312 (by decide +kernel) (ns_aload_n 2 rfl rfl) rfl ?_
    refine nk_getC (f := (2, 7, 0)) (x := 12) (len := 3) (ci := 4) (k := 2) (pc' := 36) ja_okT mJ_312 (by decide +kernel) (by decide +kernel) (by decide +kernel) (by decide) t_l0 rfl ?_
    refine nk_p (i := .iconst 1) (len := 1) (pc' := 37) mJ_312 (by decide +kernel) (ns_iconst (c := 1) (by decide +kernel)) rfl ?_
    obtain ⟨r15, S16, h17, hr⟩ := nk_bde hr
    refine nk_callV (ci := 7) (n := 1) (x := 321) (len := 3) (j' := 401) (q' := 0) (r := r15) (S' := S16) (L2 := [(0, nk_r (ja_c l0 2)), (1, nk_i 1)]) (rest := []) (st' := []) (pc' := 40) mJ_312 (by decide +kernel) (by decide +kernel) rfl rfl t1 (Nat.le_of_ble_eq_true rfl) mJ_401 (Nat.le_of_ble_eq_true rfl) rfl (ja_X7_drop_ok zs _ _ _ _ t1 h17) rfl ?_
    refine nk_p (i := .goto 89) (len := 3) (pc' := 129) mJ_312 (by decide +kernel) (ns_goto (by decide +kernel)) rfl ?_
    refine nk_sub [2, 0] (L' := [(0, nk_r l0), (3, nk_l r12)]) rfl ?_
    exact ja_X4_calculates_b129_ok zs _ _ _ _ t_l0 hr
/-! SafeCode$Proof lengthsOf (J)J -/
noncomputable def ja_X4_lengthsOf_b7 (rec7 : Nat → Int → Int → Int → nk_S → Option (Int × nk_S)) (l0 : Nat) (l1 : Int) (l3 : Int) (l5 : Int) (S : nk_S) : Option (Int × nk_S) :=
  if (S.1 (S.2 l0 0) 10) ≤ l5 then
    some (l3, S)
  else
    if (nk_land (nk_lushr l1 l5) 1) = 0 then
      nk_lt (nk_w (l5 + 1)) fun v2 =>
      rec7 l0 l1 l3 v2 S
    else
      if 0 ≤ l5 ∧ l5 < 48 then
      nk_bd (ja_X5_join l3 (S.1 (ja_c (ja_c l0 3) 2) l5.toNat) S) fun r7 S8 =>
      nk_lt (nk_w (l5 + 1)) fun v10 =>
      rec7 l0 l1 r7 v10 S8
      else none
theorem ja_X4_lengthsOf_b7_ok (zs : List Int32) {rec7 : Nat → Int → Int → Int → nk_S → Option (Int × nk_S)} (hrec7 : ∀ (l0 : Nat) (l1 : Int) (l3 : Int) (l5 : Int) (S : nk_S) (R : Int × nk_S), nk_cl ja_Tt l0 = some 4 → rec7 l0 l1 l3 l5 S = some R → nk_K ja_Tt mi_Γ (mi_ev zs) 2 324 7 [(0, nk_r l0), (1, nk_l l1), (3, nk_l l3), (5, nk_i l5)] [] S R) : ∀ (l0 : Nat) (l1 : Int) (l3 : Int) (l5 : Int) (S : nk_S) (R : Int × nk_S), nk_cl ja_Tt l0 = some 4 → ja_X4_lengthsOf_b7 rec7 l0 l1 l3 l5 S = some R → nk_K ja_Tt mi_Γ (mi_ev zs) 2 324 7 [(0, nk_r l0), (1, nk_l l1), (3, nk_l l3), (5, nk_i l5)] [] S R := by
  intro l0 l1 l3 l5 S R t_l0 hr
  unfold ja_X4_lengthsOf_b7 at hr
  refine nk_p (i := .iload 5) (len := 2) (pc' := 9) mJ_324 (by decide +kernel) (ns_iload 3 rfl) rfl ?_
  refine nk_p (i := .aload_n 0) (len := 1) (pc' := 10) mJ_324 (by decide +kernel) (ns_aload_n 0 rfl rfl) rfl ?_
  refine nk_getM (cj := 3) (z := 0) (x := 42) (len := 3) (ci := 4) (k := 0) (pc' := 13) ja_okT mJ_324 (by decide +kernel) (by decide +kernel) (by decide +kernel) t_l0 rfl (fun t1 => ?_)
  refine nk_getI (y := (0, 0)) (x := 129) (len := 3) (ci := 3) (k := 10) (pc' := 16) ja_okT mJ_324 (by decide +kernel) (by decide +kernel) (by decide +kernel) t1 rfl ?_
  refine nk_icmp (c := .ge) (off := 35) (len := 3) (t := 51) (pc' := 19) mJ_324 (by decide +kernel) (by decide +kernel) rfl (fun hc => ?_) (fun hc => ?_)
  · have hr := nk_ifp (c := (S.1 (S.2 l0 0) 10) ≤ l5) hc hr
    refine nk_p (i := .lload_n 3) (len := 1) (pc' := 52) mJ_324 (by decide +kernel) (ns_lload_n 2 rfl rfl) rfl ?_
    cases hr
    exact nk_lret (len := 1) mJ_324 (by decide +kernel) rfl
  · have hr := nk_ifn (c := (S.1 (S.2 l0 0) 10) ≤ l5) hc hr
    refine nk_p (i := .lload_n 1) (len := 1) (pc' := 20) mJ_324 (by decide +kernel) (ns_lload_n 1 rfl rfl) rfl ?_
    refine nk_p (i := .iload 5) (len := 2) (pc' := 22) mJ_324 (by decide +kernel) (ns_iload 3 rfl) rfl ?_
    refine nk_p (i := .lushr) (len := 1) (pc' := 23) mJ_324 (by decide +kernel) ns_lushr rfl ?_
    refine nk_p (i := .lconst 1) (len := 1) (pc' := 24) mJ_324 (by decide +kernel) (ns_lconst (c := 1) (by decide +kernel)) rfl ?_
    refine nk_p (i := .land) (len := 1) (pc' := 25) mJ_324 (by decide +kernel) ns_land rfl ?_
    refine nk_p (i := .lconst 0) (len := 1) (pc' := 26) mJ_324 (by decide +kernel) (ns_lconst (c := 0) (by decide +kernel)) rfl ?_
    refine nk_p (i := .lcmp) (len := 1) (pc' := 27) mJ_324 (by decide +kernel) ns_lcmp rfl ?_
    refine nk_lcond (c := .eq) (off := 18) (len := 3) (t := 45) (pc' := 30) mJ_324 (by decide +kernel) (by decide +kernel) rfl (fun hc => ?_) (fun hc => ?_)
    · have hr := nk_ifp (c := (nk_land (nk_lushr l1 l5) 1) = 0) hc hr
      obtain ⟨v2, h3, hr⟩ := nk_lte hr
      refine nk_p (i := .iinc 5 1) (len := 3) (pc' := 48) mJ_324 (by decide +kernel) (ns_iinc (c := 1) (L' := [(5, nk_i v2), (0, nk_r l0), (1, nk_l l1), (3, nk_l l3)]) 3 rfl (by decide +kernel) h3 rfl (by decide +kernel)) rfl ?_
      refine nk_p (i := .goto (-41)) (len := 3) (pc' := 7) mJ_324 (by decide +kernel) (ns_goto (by decide +kernel)) rfl ?_
      refine nk_sub [1, 2, 3, 0] (L' := [(0, nk_r l0), (1, nk_l l1), (3, nk_l l3), (5, nk_i v2)]) rfl ?_
      exact hrec7 _ _ _ _ _ _ t_l0 hr
    · have hr := nk_ifn (c := (nk_land (nk_lushr l1 l5) 1) = 0) hc hr
      refine nk_p (i := .lload_n 3) (len := 1) (pc' := 31) mJ_324 (by decide +kernel) (ns_lload_n 2 rfl rfl) rfl ?_
      refine nk_p (i := .aload_n 0) (len := 1) (pc' := 32) mJ_324 (by decide +kernel) (ns_aload_n 0 rfl rfl) rfl ?_
      refine nk_getC (f := (2, 8, 0)) (x := 21) (len := 3) (ci := 4) (k := 3) (pc' := 35) ja_okT mJ_324 (by decide +kernel) (by decide +kernel) (by decide +kernel) (by decide) t_l0 rfl ?_
      have t4 : nk_cl ja_Tt (ja_c l0 3) = some 8 := nk_tc (y := 0) ja_okT t_l0 (by decide +kernel)
      refine nk_getC (f := (4, 2, 48)) (x := 425) (len := 3) (ci := 8) (k := 2) (pc' := 38) ja_okT mJ_324 (by decide +kernel) (by decide +kernel) (by decide +kernel) (by decide) t4 rfl ?_
      have t5 : nk_ar ja_Tt (ja_c (ja_c l0 3) 2) = some (2, 48) := nk_ta ja_okT t4 (by decide +kernel)
      refine nk_p (i := .iload 5) (len := 2) (pc' := 40) mJ_324 (by decide +kernel) (ns_iload 3 rfl) rfl ?_
      obtain ⟨h6, hr⟩ := nk_cke hr
      refine nk_lald (len := 1) (N := 48) (pc' := 41) mJ_324 (by decide +kernel) t5 h6.1 h6.2 rfl rfl ?_
      obtain ⟨r7, S8, h9, hr⟩ := nk_bde hr
      refine nk_callS (ci := 0) (n := 2) (x := 428) (len := 3) (j' := 362) (q' := 2) (r := r7) (S' := S8) (L2 := [(0, nk_l l3), (2, nk_l (S.1 (ja_c (ja_c l0 3) 2) l5.toNat))]) (rest := []) (st' := [nk_l r7]) (pc' := 44) mJ_324 (by decide +kernel) (by decide +kernel) (Nat.le_of_ble_eq_true rfl) rfl rfl (Nat.le_of_ble_eq_true rfl) mJ_362 (Nat.le_of_ble_eq_true rfl) ja_Tpos rfl (ja_X5_join_ok zs _ _ _ _ h9) rfl ?_
      refine nk_p (i := .lstore_n 3) (len := 1) (pc' := 45) mJ_324 (by decide +kernel) (ns_lstore_n (L' := [(3, nk_l r7), (0, nk_r l0), (1, nk_l l1), (5, nk_i l5)]) rfl rfl rfl (by decide +kernel)) rfl ?_
      obtain ⟨v10, h11, hr⟩ := nk_lte hr
      refine nk_p (i := .iinc 5 1) (len := 3) (pc' := 48) mJ_324 (by decide +kernel) (ns_iinc (c := 1) (L' := [(5, nk_i v10), (3, nk_l r7), (0, nk_r l0), (1, nk_l l1)]) 3 rfl (by decide +kernel) h11 rfl (by decide +kernel)) rfl ?_
      refine nk_p (i := .goto (-41)) (len := 3) (pc' := 7) mJ_324 (by decide +kernel) (ns_goto (by decide +kernel)) rfl ?_
      refine nk_sub [2, 3, 1, 0] (L' := [(0, nk_r l0), (1, nk_l l1), (3, nk_l r7), (5, nk_i v10)]) rfl ?_
      exact hrec7 _ _ _ _ _ _ t_l0 hr
noncomputable def ja_X4_lengthsOf_L7 : Nat → Nat → Int → Int → Int → nk_S → Option (Int × nk_S)
  | 0, _, _, _, _, _ => none
  | n + 1, l0, l1, l3, l5, S => ja_X4_lengthsOf_b7 (ja_X4_lengthsOf_L7 n) l0 l1 l3 l5 S
theorem ja_X4_lengthsOf_L7_ok (zs : List Int32) : ∀ n : Nat, ∀ (l0 : Nat) (l1 : Int) (l3 : Int) (l5 : Int) (S : nk_S) (R : Int × nk_S), nk_cl ja_Tt l0 = some 4 → ja_X4_lengthsOf_L7 n l0 l1 l3 l5 S = some R → nk_K ja_Tt mi_Γ (mi_ev zs) 2 324 7 [(0, nk_r l0), (1, nk_l l1), (3, nk_l l3), (5, nk_i l5)] [] S R := by
  intro n
  induction n with
  | zero => intro _ _ _ _ _ _ _ hr; cases hr
  | succ n ih => intro l0 l1 l3 l5 S R t_l0 hr; exact ja_X4_lengthsOf_b7_ok zs ih l0 l1 l3 l5 S R t_l0 hr
noncomputable def ja_X4_lengthsOf (l0 : Nat) (l1 : Int) (S : nk_S) : Option (Int × nk_S) :=
  ja_X4_lengthsOf_L7 nk_big l0 l1 9223372034707292160 0 S
theorem ja_X4_lengthsOf_ok (zs : List Int32) : ∀ (l0 : Nat) (l1 : Int) (S : nk_S) (R : Int × nk_S), nk_cl ja_Tt l0 = some 4 → ja_X4_lengthsOf l0 l1 S = some R → nk_K ja_Tt mi_Γ (mi_ev zs) 2 324 0 [(0, nk_r l0), (1, nk_l l1)] [] S R := by
  intro l0 l1 S R t_l0 hr
  unfold ja_X4_lengthsOf at hr
  refine nk_ldc2 (x := 423) (len := 3) (X := 9223372034707292160) (v := 9223372034707292160) (pc' := 3) mJ_324 (by decide +kernel) (by decide +kernel) (by decide +kernel) rfl ?_
  refine nk_p (i := .lstore_n 3) (len := 1) (pc' := 4) mJ_324 (by decide +kernel) (ns_lstore_n (L' := [(3, nk_l 9223372034707292160), (0, nk_r l0), (1, nk_l l1)]) rfl rfl rfl (by decide +kernel)) rfl ?_
  refine nk_p (i := .iconst 0) (len := 1) (pc' := 5) mJ_324 (by decide +kernel) (ns_iconst (c := 0) (by decide +kernel)) rfl ?_
  refine nk_p (i := .istore 5) (len := 2) (pc' := 7) mJ_324 (by decide +kernel) (ns_istore (L' := [(5, nk_i 0), (3, nk_l 9223372034707292160), (0, nk_r l0), (1, nk_l l1)]) rfl rfl (by decide +kernel)) rfl ?_
  refine nk_sub [2, 3, 1, 0] (L' := [(0, nk_r l0), (1, nk_l l1), (3, nk_l 9223372034707292160), (5, nk_i 0)]) rfl ?_
  exact ja_X4_lengthsOf_L7_ok zs nk_big _ _ _ _ _ _ t_l0 hr
/-! SafeCode$Proof staysInside (IIJ)Z -/
noncomputable def ja_X4_staysInside_b98 (l0 : Nat) (l2 : Int) (l3 : Int) (l8 : Int) (s0 : Int) (S : nk_S) : Option (Int × nk_S) :=
  if l8 = 0 then
    if s0 = 0 then
      if 0 ≤ l2 ∧ l2 < 20 then
      nk_bd (ja_X5_highest (S.1 (ja_c (ja_c l0 2) 4) l2.toNat) S) fun r4 S5 =>
      nk_bd (ja_X5_lowest l3 S5) fun r7 S8 =>
      if r7 ≤ r4 then
        some (0, S8)
      else
        some (1, S8)
      else none
    else
      some (1, S)
  else
    some (1, S)
theorem ja_X4_staysInside_b98_ok (zs : List Int32) : ∀ (l0 : Nat) (l2 : Int) (l3 : Int) (l8 : Int) (s0 : Int) (S : nk_S) (R : Int × nk_S), nk_cl ja_Tt l0 = some 4 → ja_X4_staysInside_b98 l0 l2 l3 l8 s0 S = some R → nk_K ja_Tt mi_Γ (mi_ev zs) 1 339 98 [(0, nk_r l0), (2, nk_i l2), (3, nk_l l3), (8, nk_i l8)] [nk_i s0] S R := by
  intro l0 l2 l3 l8 s0 S R t_l0 hr
  unfold ja_X4_staysInside_b98 at hr
  refine nk_p (i := .istore 9) (len := 2) (pc' := 100) mJ_339 (by decide +kernel) (ns_istore (L' := [(9, nk_i s0), (0, nk_r l0), (2, nk_i l2), (3, nk_l l3), (8, nk_i l8)]) rfl rfl (by decide +kernel)) rfl ?_
  refine nk_p (i := .iload 8) (len := 2) (pc' := 102) mJ_339 (by decide +kernel) (ns_iload 4 rfl) rfl ?_
  refine nk_icond (c := .ne) (off := 27) (len := 3) (t := 129) (pc' := 105) mJ_339 (by decide +kernel) (by decide +kernel) rfl (fun hc => ?_) (fun hc => ?_)
  · have hr := nk_ifn (c := l8 = 0) hc hr
    refine nk_p (i := .iconst 1) (len := 1) (pc' := 130) mJ_339 (by decide +kernel) (ns_iconst (c := 1) (by decide +kernel)) rfl ?_
    refine nk_p (i := .goto 4) (len := 3) (pc' := 134) mJ_339 (by decide +kernel) (ns_goto (by decide +kernel)) rfl ?_
    cases hr
    exact nk_iret (ty := .boolean) (len := 1) mJ_339 (by decide +kernel) rfl (nk_nar_z (by decide))
  · have hr := nk_ifp (c := l8 = 0) (Decidable.of_not_not hc) hr
    refine nk_p (i := .iload 9) (len := 2) (pc' := 107) mJ_339 (by decide +kernel) (ns_iload 0 rfl) rfl ?_
    refine nk_icond (c := .ne) (off := 22) (len := 3) (t := 129) (pc' := 110) mJ_339 (by decide +kernel) (by decide +kernel) rfl (fun hc => ?_) (fun hc => ?_)
    · have hr := nk_ifn (c := s0 = 0) hc hr
      refine nk_p (i := .iconst 1) (len := 1) (pc' := 130) mJ_339 (by decide +kernel) (ns_iconst (c := 1) (by decide +kernel)) rfl ?_
      refine nk_p (i := .goto 4) (len := 3) (pc' := 134) mJ_339 (by decide +kernel) (ns_goto (by decide +kernel)) rfl ?_
      cases hr
      exact nk_iret (ty := .boolean) (len := 1) mJ_339 (by decide +kernel) rfl (nk_nar_z (by decide))
    · have hr := nk_ifp (c := s0 = 0) (Decidable.of_not_not hc) hr
      refine nk_p (i := .aload_n 0) (len := 1) (pc' := 111) mJ_339 (by decide +kernel) (ns_aload_n 1 rfl rfl) rfl ?_
      refine nk_getC (f := (2, 7, 0)) (x := 12) (len := 3) (ci := 4) (k := 2) (pc' := 114) ja_okT mJ_339 (by decide +kernel) (by decide +kernel) (by decide +kernel) (by decide) t_l0 rfl ?_
      have t1 : nk_cl ja_Tt (ja_c l0 2) = some 7 := nk_tc (y := 0) ja_okT t_l0 (by decide +kernel)
      refine nk_getC (f := (4, 2, 20)) (x := 299) (len := 3) (ci := 7) (k := 4) (pc' := 117) ja_okT mJ_339 (by decide +kernel) (by decide +kernel) (by decide +kernel) (by decide) t1 rfl ?_
      have t2 : nk_ar ja_Tt (ja_c (ja_c l0 2) 4) = some (2, 20) := nk_ta ja_okT t1 (by decide +kernel)
      refine nk_p (i := .iload_n 2) (len := 1) (pc' := 118) mJ_339 (by decide +kernel) (ns_iload_n 2 rfl rfl) rfl ?_
      obtain ⟨h3, hr⟩ := nk_cke hr
      refine nk_lald (len := 1) (N := 20) (pc' := 119) mJ_339 (by decide +kernel) t2 h3.1 h3.2 rfl rfl ?_
      obtain ⟨r4, S5, h6, hr⟩ := nk_bde hr
      refine nk_callS (ci := 0) (n := 1) (x := 332) (len := 3) (j' := 356) (q' := 1) (r := r4) (S' := S5) (L2 := [(0, nk_l (S.1 (ja_c (ja_c l0 2) 4) l2.toNat))]) (rest := []) (st' := [nk_i r4]) (pc' := 122) mJ_339 (by decide +kernel) (by decide +kernel) (Nat.le_of_ble_eq_true rfl) rfl rfl (Nat.le_of_ble_eq_true rfl) mJ_356 (Nat.le_of_ble_eq_true rfl) ja_Tpos rfl (ja_X5_highest_ok zs _ _ _ h6) rfl ?_
      refine nk_p (i := .lload_n 3) (len := 1) (pc' := 123) mJ_339 (by decide +kernel) (ns_lload_n 3 rfl rfl) rfl ?_
      obtain ⟨r7, S8, h9, hr⟩ := nk_bde hr
      refine nk_callS (ci := 0) (n := 1) (x := 328) (len := 3) (j' := 363) (q' := 1) (r := r7) (S' := S8) (L2 := [(0, nk_l l3)]) (rest := [nk_i r4]) (st' := [nk_i r7, nk_i r4]) (pc' := 126) mJ_339 (by decide +kernel) (by decide +kernel) (Nat.le_of_ble_eq_true rfl) rfl rfl (Nat.le_of_ble_eq_true rfl) mJ_363 (Nat.le_of_ble_eq_true rfl) ja_Tpos rfl (ja_X5_lowest_ok zs _ _ _ h9) rfl ?_
      refine nk_icmp (c := .ge) (off := 7) (len := 3) (t := 133) (pc' := 129) mJ_339 (by decide +kernel) (by decide +kernel) rfl (fun hc => ?_) (fun hc => ?_)
      · have hr := nk_ifp (c := r7 ≤ r4) hc hr
        refine nk_p (i := .iconst 0) (len := 1) (pc' := 134) mJ_339 (by decide +kernel) (ns_iconst (c := 0) (by decide +kernel)) rfl ?_
        cases hr
        exact nk_iret (ty := .boolean) (len := 1) mJ_339 (by decide +kernel) rfl (nk_nar_z (by decide))
      · have hr := nk_ifn (c := r7 ≤ r4) hc hr
        refine nk_p (i := .iconst 1) (len := 1) (pc' := 130) mJ_339 (by decide +kernel) (ns_iconst (c := 1) (by decide +kernel)) rfl ?_
        refine nk_p (i := .goto 4) (len := 3) (pc' := 134) mJ_339 (by decide +kernel) (ns_goto (by decide +kernel)) rfl ?_
        cases hr
        exact nk_iret (ty := .boolean) (len := 1) mJ_339 (by decide +kernel) rfl (nk_nar_z (by decide))
noncomputable def ja_X4_staysInside_b67 (l0 : Nat) (l1 : Int) (l2 : Int) (l3 : Int) (l5 : Int) (s0 : Int) (S : nk_S) : Option (Int × nk_S) :=
  if 0 ≤ l1 ∧ l1 < 20 then
  if (nk_land (nk_land l5 (nk_lushr (S.1 (ja_c (ja_c l0 2) 5) l1.toNat) 36)) 4095) = 0 then
    ja_X4_staysInside_b98 l0 l2 l3 s0 0 S
  else
    ja_X4_staysInside_b98 l0 l2 l3 s0 1 S
  else none
theorem ja_X4_staysInside_b67_ok (zs : List Int32) : ∀ (l0 : Nat) (l1 : Int) (l2 : Int) (l3 : Int) (l5 : Int) (s0 : Int) (S : nk_S) (R : Int × nk_S), nk_cl ja_Tt l0 = some 4 → ja_X4_staysInside_b67 l0 l1 l2 l3 l5 s0 S = some R → nk_K ja_Tt mi_Γ (mi_ev zs) 1 339 67 [(0, nk_r l0), (1, nk_i l1), (2, nk_i l2), (3, nk_l l3), (5, nk_l l5)] [nk_i s0] S R := by
  intro l0 l1 l2 l3 l5 s0 S R t_l0 hr
  unfold ja_X4_staysInside_b67 at hr
  refine nk_p (i := .istore 8) (len := 2) (pc' := 69) mJ_339 (by decide +kernel) (ns_istore (L' := [(8, nk_i s0), (0, nk_r l0), (1, nk_i l1), (2, nk_i l2), (3, nk_l l3), (5, nk_l l5)]) rfl rfl (by decide +kernel)) rfl ?_
  refine nk_p (i := .lload 5) (len := 2) (pc' := 71) mJ_339 (by decide +kernel) (ns_lload 5 rfl) rfl ?_
  refine nk_p (i := .aload_n 0) (len := 1) (pc' := 72) mJ_339 (by decide +kernel) (ns_aload_n 1 rfl rfl) rfl ?_
  refine nk_getC (f := (2, 7, 0)) (x := 12) (len := 3) (ci := 4) (k := 2) (pc' := 75) ja_okT mJ_339 (by decide +kernel) (by decide +kernel) (by decide +kernel) (by decide) t_l0 rfl ?_
  have t1 : nk_cl ja_Tt (ja_c l0 2) = some 7 := nk_tc (y := 0) ja_okT t_l0 (by decide +kernel)
  refine nk_getC (f := (4, 2, 20)) (x := 302) (len := 3) (ci := 7) (k := 5) (pc' := 78) ja_okT mJ_339 (by decide +kernel) (by decide +kernel) (by decide +kernel) (by decide) t1 rfl ?_
  have t2 : nk_ar ja_Tt (ja_c (ja_c l0 2) 5) = some (2, 20) := nk_ta ja_okT t1 (by decide +kernel)
  refine nk_p (i := .iload_n 1) (len := 1) (pc' := 79) mJ_339 (by decide +kernel) (ns_iload_n 2 rfl rfl) rfl ?_
  obtain ⟨h3, hr⟩ := nk_cke hr
  refine nk_lald (len := 1) (N := 20) (pc' := 80) mJ_339 (by decide +kernel) t2 h3.1 h3.2 rfl rfl ?_
  refine nk_p (i := .bipush 36) (len := 2) (pc' := 82) mJ_339 (by decide +kernel) (ns_bipush (c := 36) (by decide +kernel)) rfl ?_
  refine nk_p (i := .lushr) (len := 1) (pc' := 83) mJ_339 (by decide +kernel) ns_lushr rfl ?_
  refine nk_p (i := .land) (len := 1) (pc' := 84) mJ_339 (by decide +kernel) ns_land rfl ?_
  refine nk_ldc2 (x := 447) (len := 3) (X := 4095) (v := 4095) (pc' := 87) mJ_339 (by decide +kernel) (by decide +kernel) (by decide +kernel) rfl ?_
  refine nk_p (i := .land) (len := 1) (pc' := 88) mJ_339 (by decide +kernel) ns_land rfl ?_
  refine nk_p (i := .lconst 0) (len := 1) (pc' := 89) mJ_339 (by decide +kernel) (ns_lconst (c := 0) (by decide +kernel)) rfl ?_
  refine nk_p (i := .lcmp) (len := 1) (pc' := 90) mJ_339 (by decide +kernel) ns_lcmp rfl ?_
  refine nk_lcond (c := .eq) (off := 7) (len := 3) (t := 97) (pc' := 93) mJ_339 (by decide +kernel) (by decide +kernel) rfl (fun hc => ?_) (fun hc => ?_)
  · have hr := nk_ifp (c := (nk_land (nk_land l5 (nk_lushr (S.1 (ja_c (ja_c l0 2) 5) l1.toNat) 36)) 4095) = 0) hc hr
    refine nk_p (i := .iconst 0) (len := 1) (pc' := 98) mJ_339 (by decide +kernel) (ns_iconst (c := 0) (by decide +kernel)) rfl ?_
    refine nk_sub [1, 3, 4, 0] (L' := [(0, nk_r l0), (2, nk_i l2), (3, nk_l l3), (8, nk_i s0)]) rfl ?_
    exact ja_X4_staysInside_b98_ok zs _ _ _ _ _ _ _ t_l0 hr
  · have hr := nk_ifn (c := (nk_land (nk_land l5 (nk_lushr (S.1 (ja_c (ja_c l0 2) 5) l1.toNat) 36)) 4095) = 0) hc hr
    refine nk_p (i := .iconst 1) (len := 1) (pc' := 94) mJ_339 (by decide +kernel) (ns_iconst (c := 1) (by decide +kernel)) rfl ?_
    refine nk_p (i := .goto 4) (len := 3) (pc' := 98) mJ_339 (by decide +kernel) (ns_goto (by decide +kernel)) rfl ?_
    refine nk_sub [1, 3, 4, 0] (L' := [(0, nk_r l0), (2, nk_i l2), (3, nk_l l3), (8, nk_i s0)]) rfl ?_
    exact ja_X4_staysInside_b98_ok zs _ _ _ _ _ _ _ t_l0 hr
noncomputable def ja_X4_staysInside_b66 (l0 : Nat) (l1 : Int) (l2 : Int) (l3 : Int) (l5 : Int) (S : nk_S) : Option (Int × nk_S) :=
  ja_X4_staysInside_b67 l0 l1 l2 l3 l5 0 S
theorem ja_X4_staysInside_b66_ok (zs : List Int32) : ∀ (l0 : Nat) (l1 : Int) (l2 : Int) (l3 : Int) (l5 : Int) (S : nk_S) (R : Int × nk_S), nk_cl ja_Tt l0 = some 4 → ja_X4_staysInside_b66 l0 l1 l2 l3 l5 S = some R → nk_K ja_Tt mi_Γ (mi_ev zs) 1 339 66 [(0, nk_r l0), (1, nk_i l1), (2, nk_i l2), (3, nk_l l3), (5, nk_l l5)] [] S R := by
  intro l0 l1 l2 l3 l5 S R t_l0 hr
  unfold ja_X4_staysInside_b66 at hr
  refine nk_p (i := .iconst 0) (len := 1) (pc' := 67) mJ_339 (by decide +kernel) (ns_iconst (c := 0) (by decide +kernel)) rfl ?_
  exact ja_X4_staysInside_b67_ok zs _ _ _ _ _ _ _ _ t_l0 hr
noncomputable def ja_X4_staysInside (l0 : Nat) (l1 : Int) (l2 : Int) (l3 : Int) (S : nk_S) : Option (Int × nk_S) :=
  if 0 ≤ l2 ∧ l2 < 20 then
  nk_bd (ja_X5_lowest (S.1 (ja_c (ja_c l0 2) 4) l2.toNat) S) fun r4 S5 =>
  if 0 ≤ r4 then
    nk_lt (S5.1 (ja_c (ja_c l0 2) 5) l2.toNat) fun v8 =>
    if 0 ≤ l1 ∧ l1 < 20 then
    nk_bd (ja_X7_copyOf (S5.1 (ja_c (ja_c l0 2) 5) l1.toNat) S5) fun r11 S12 =>
    if r11 < 0 then
      ja_X4_staysInside_b66 l0 l1 l2 l3 v8 S12
    else
      if (nk_land (nk_lushr v8 (nk_w (12 + r11))) 1) = 0 then
        ja_X4_staysInside_b66 l0 l1 l2 l3 v8 S12
      else
        ja_X4_staysInside_b67 l0 l1 l2 l3 v8 1 S12
    else none
  else
    some (0, S5)
  else none
theorem ja_X4_staysInside_ok (zs : List Int32) : ∀ (l0 : Nat) (l1 : Int) (l2 : Int) (l3 : Int) (S : nk_S) (R : Int × nk_S), nk_cl ja_Tt l0 = some 4 → ja_X4_staysInside l0 l1 l2 l3 S = some R → nk_K ja_Tt mi_Γ (mi_ev zs) 1 339 0 [(0, nk_r l0), (1, nk_i l1), (2, nk_i l2), (3, nk_l l3)] [] S R := by
  intro l0 l1 l2 l3 S R t_l0 hr
  unfold ja_X4_staysInside at hr
  refine nk_p (i := .aload_n 0) (len := 1) (pc' := 1) mJ_339 (by decide +kernel) (ns_aload_n 0 rfl rfl) rfl ?_
  refine nk_getC (f := (2, 7, 0)) (x := 12) (len := 3) (ci := 4) (k := 2) (pc' := 4) ja_okT mJ_339 (by decide +kernel) (by decide +kernel) (by decide +kernel) (by decide) t_l0 rfl ?_
  have t1 : nk_cl ja_Tt (ja_c l0 2) = some 7 := nk_tc (y := 0) ja_okT t_l0 (by decide +kernel)
  refine nk_getC (f := (4, 2, 20)) (x := 299) (len := 3) (ci := 7) (k := 4) (pc' := 7) ja_okT mJ_339 (by decide +kernel) (by decide +kernel) (by decide +kernel) (by decide) t1 rfl ?_
  have t2 : nk_ar ja_Tt (ja_c (ja_c l0 2) 4) = some (2, 20) := nk_ta ja_okT t1 (by decide +kernel)
  refine nk_p (i := .iload_n 2) (len := 1) (pc' := 8) mJ_339 (by decide +kernel) (ns_iload_n 2 rfl rfl) rfl ?_
  obtain ⟨h3, hr⟩ := nk_cke hr
  refine nk_lald (len := 1) (N := 20) (pc' := 9) mJ_339 (by decide +kernel) t2 h3.1 h3.2 rfl rfl ?_
  obtain ⟨r4, S5, h6, hr⟩ := nk_bde hr
  refine nk_callS (ci := 0) (n := 1) (x := 328) (len := 3) (j' := 363) (q' := 1) (r := r4) (S' := S5) (L2 := [(0, nk_l (S.1 (ja_c (ja_c l0 2) 4) l2.toNat))]) (rest := []) (st' := [nk_i r4]) (pc' := 12) mJ_339 (by decide +kernel) (by decide +kernel) (Nat.le_of_ble_eq_true rfl) rfl rfl (Nat.le_of_ble_eq_true rfl) mJ_363 (Nat.le_of_ble_eq_true rfl) ja_Tpos rfl (ja_X5_lowest_ok zs _ _ _ h6) rfl ?_
  refine nk_icond (c := .ge) (off := 5) (len := 3) (t := 17) (pc' := 15) mJ_339 (by decide +kernel) (by decide +kernel) rfl (fun hc => ?_) (fun hc => ?_)
  · have hr := nk_ifp (c := 0 ≤ r4) hc hr
    refine nk_p (i := .aload_n 0) (len := 1) (pc' := 18) mJ_339 (by decide +kernel) (ns_aload_n 0 rfl rfl) rfl ?_
    refine nk_getC (f := (2, 7, 0)) (x := 12) (len := 3) (ci := 4) (k := 2) (pc' := 21) ja_okT mJ_339 (by decide +kernel) (by decide +kernel) (by decide +kernel) (by decide) t_l0 rfl ?_
    refine nk_getC (f := (4, 2, 20)) (x := 302) (len := 3) (ci := 7) (k := 5) (pc' := 24) ja_okT mJ_339 (by decide +kernel) (by decide +kernel) (by decide +kernel) (by decide) t1 rfl ?_
    have t7 : nk_ar ja_Tt (ja_c (ja_c l0 2) 5) = some (2, 20) := nk_ta ja_okT t1 (by decide +kernel)
    refine nk_p (i := .iload_n 2) (len := 1) (pc' := 25) mJ_339 (by decide +kernel) (ns_iload_n 2 rfl rfl) rfl ?_
    refine nk_lald (len := 1) (N := 20) (pc' := 26) mJ_339 (by decide +kernel) t7 h3.1 h3.2 rfl rfl ?_
    obtain ⟨v8, h9, hr⟩ := nk_lte hr
    refine nk_p (i := .lstore 5) (len := 2) (pc' := 28) mJ_339 (by decide +kernel) (ns_lstore (L' := [(5, nk_l v8), (0, nk_r l0), (1, nk_i l1), (2, nk_i l2), (3, nk_l l3)]) h9 rfl (by decide +kernel)) rfl ?_
    refine nk_p (i := .aload_n 0) (len := 1) (pc' := 29) mJ_339 (by decide +kernel) (ns_aload_n 1 rfl rfl) rfl ?_
    refine nk_getC (f := (2, 7, 0)) (x := 12) (len := 3) (ci := 4) (k := 2) (pc' := 32) ja_okT mJ_339 (by decide +kernel) (by decide +kernel) (by decide +kernel) (by decide) t_l0 rfl ?_
    refine nk_getC (f := (4, 2, 20)) (x := 302) (len := 3) (ci := 7) (k := 5) (pc' := 35) ja_okT mJ_339 (by decide +kernel) (by decide +kernel) (by decide +kernel) (by decide) t1 rfl ?_
    refine nk_p (i := .iload_n 1) (len := 1) (pc' := 36) mJ_339 (by decide +kernel) (ns_iload_n 2 rfl rfl) rfl ?_
    obtain ⟨h10, hr⟩ := nk_cke hr
    refine nk_lald (len := 1) (N := 20) (pc' := 37) mJ_339 (by decide +kernel) t7 h10.1 h10.2 rfl rfl ?_
    obtain ⟨r11, S12, h13, hr⟩ := nk_bde hr
    refine nk_callS (ci := 0) (n := 1) (x := 390) (len := 3) (j' := 400) (q' := 1) (r := r11) (S' := S12) (L2 := [(0, nk_l (S5.1 (ja_c (ja_c l0 2) 5) l1.toNat))]) (rest := []) (st' := [nk_i r11]) (pc' := 40) mJ_339 (by decide +kernel) (by decide +kernel) (Nat.le_of_ble_eq_true rfl) rfl rfl (Nat.le_of_ble_eq_true rfl) mJ_400 (Nat.le_of_ble_eq_true rfl) ja_Tpos rfl (ja_X7_copyOf_ok zs _ _ _ h13) rfl ?_
    refine nk_p (i := .istore 7) (len := 2) (pc' := 42) mJ_339 (by decide +kernel) (ns_istore (L' := [(7, nk_i r11), (5, nk_l v8), (0, nk_r l0), (1, nk_i l1), (2, nk_i l2), (3, nk_l l3)]) rfl rfl (by decide +kernel)) rfl ?_
    refine nk_p (i := .iload 7) (len := 2) (pc' := 44) mJ_339 (by decide +kernel) (ns_iload 0 rfl) rfl ?_
    refine nk_icond (c := .lt) (off := 22) (len := 3) (t := 66) (pc' := 47) mJ_339 (by decide +kernel) (by decide +kernel) rfl (fun hc => ?_) (fun hc => ?_)
    · have hr := nk_ifp (c := r11 < 0) hc hr
      refine nk_sub [2, 3, 4, 5, 1] (L' := [(0, nk_r l0), (1, nk_i l1), (2, nk_i l2), (3, nk_l l3), (5, nk_l v8)]) rfl ?_
      exact ja_X4_staysInside_b66_ok zs _ _ _ _ _ _ _ t_l0 hr
    · have hr := nk_ifn (c := r11 < 0) hc hr
      refine nk_p (i := .lload 5) (len := 2) (pc' := 49) mJ_339 (by decide +kernel) (ns_lload 1 rfl) rfl ?_
      refine nk_p (i := .bipush 12) (len := 2) (pc' := 51) mJ_339 (by decide +kernel) (ns_bipush (c := 12) (by decide +kernel)) rfl ?_
      refine nk_p (i := .iload 7) (len := 2) (pc' := 53) mJ_339 (by decide +kernel) (ns_iload 0 rfl) rfl ?_
      refine nk_p (i := .iadd) (len := 1) (pc' := 54) mJ_339 (by decide +kernel) ns_iadd rfl ?_
      refine nk_p (i := .lushr) (len := 1) (pc' := 55) mJ_339 (by decide +kernel) ns_lushr rfl ?_
      refine nk_p (i := .lconst 1) (len := 1) (pc' := 56) mJ_339 (by decide +kernel) (ns_lconst (c := 1) (by decide +kernel)) rfl ?_
      refine nk_p (i := .land) (len := 1) (pc' := 57) mJ_339 (by decide +kernel) ns_land rfl ?_
      refine nk_p (i := .lconst 0) (len := 1) (pc' := 58) mJ_339 (by decide +kernel) (ns_lconst (c := 0) (by decide +kernel)) rfl ?_
      refine nk_p (i := .lcmp) (len := 1) (pc' := 59) mJ_339 (by decide +kernel) ns_lcmp rfl ?_
      refine nk_lcond (c := .eq) (off := 7) (len := 3) (t := 66) (pc' := 62) mJ_339 (by decide +kernel) (by decide +kernel) rfl (fun hc => ?_) (fun hc => ?_)
      · have hr := nk_ifp (c := (nk_land (nk_lushr v8 (nk_w (12 + r11))) 1) = 0) hc hr
        refine nk_sub [2, 3, 4, 5, 1] (L' := [(0, nk_r l0), (1, nk_i l1), (2, nk_i l2), (3, nk_l l3), (5, nk_l v8)]) rfl ?_
        exact ja_X4_staysInside_b66_ok zs _ _ _ _ _ _ _ t_l0 hr
      · have hr := nk_ifn (c := (nk_land (nk_lushr v8 (nk_w (12 + r11))) 1) = 0) hc hr
        refine nk_p (i := .iconst 1) (len := 1) (pc' := 63) mJ_339 (by decide +kernel) (ns_iconst (c := 1) (by decide +kernel)) rfl ?_
        refine nk_p (i := .goto 4) (len := 3) (pc' := 67) mJ_339 (by decide +kernel) (ns_goto (by decide +kernel)) rfl ?_
        refine nk_sub [2, 3, 4, 5, 1] (L' := [(0, nk_r l0), (1, nk_i l1), (2, nk_i l2), (3, nk_l l3), (5, nk_l v8)]) rfl ?_
        exact ja_X4_staysInside_b67_ok zs _ _ _ _ _ _ _ _ t_l0 hr
  · have hr := nk_ifn (c := 0 ≤ r4) hc hr
    refine nk_p (i := .iconst 0) (len := 1) (pc' := 16) mJ_339 (by decide +kernel) (ns_iconst (c := 0) (by decide +kernel)) rfl ?_
    cases hr
    exact nk_iret (ty := .boolean) (len := 1) mJ_339 (by decide +kernel) rfl (nk_nar_z (by decide))
/-! SafeCode$Proof leavesValue (IJZ)Z -/
noncomputable def ja_X4_leavesValue_b27 (l2 : Int) (l4 : Int) (s0 : Nat) (s1 : Int) (s2 : Int) (S : nk_S) : Option (Int × nk_S) :=
  nk_bd (ja_X7_push s0 s1 s2 S) fun r1 S2 =>
  if l4 = 0 then
    if l2 = 0 then
      some (0, S2)
    else
      some (1, S2)
  else
    nk_bd (ja_X5_isNothing l2 S2) fun r4 S5 =>
    if r4 = 0 then
      some (1, S5)
    else
      some (0, S5)
theorem ja_X4_leavesValue_b27_ok (zs : List Int32) : ∀ (l2 : Int) (l4 : Int) (s0 : Nat) (s1 : Int) (s2 : Int) (S : nk_S) (R : Int × nk_S), nk_cl ja_Tt s0 = some 7 → ja_X4_leavesValue_b27 l2 l4 s0 s1 s2 S = some R → nk_K ja_Tt mi_Γ (mi_ev zs) 1 323 27 [(2, nk_l l2), (4, nk_i l4)] [nk_l s2, nk_l s1, nk_r s0] S R := by
  intro l2 l4 s0 s1 s2 S R t_s0 hr
  unfold ja_X4_leavesValue_b27 at hr
  obtain ⟨r1, S2, h3, hr⟩ := nk_bde hr
  refine nk_callV (ci := 7) (n := 2) (x := 258) (len := 3) (j' := 408) (q' := 0) (r := r1) (S' := S2) (L2 := [(0, nk_r s0), (1, nk_l s1), (3, nk_l s2)]) (rest := []) (st' := []) (pc' := 30) mJ_323 (by decide +kernel) (by decide +kernel) rfl rfl t_s0 (Nat.le_of_ble_eq_true rfl) mJ_408 (Nat.le_of_ble_eq_true rfl) rfl (ja_X7_push_ok zs _ _ _ _ _ t_s0 h3) rfl ?_
  refine nk_p (i := .iload 4) (len := 2) (pc' := 32) mJ_323 (by decide +kernel) (ns_iload 1 rfl) rfl ?_
  refine nk_icond (c := .eq) (off := 18) (len := 3) (t := 50) (pc' := 35) mJ_323 (by decide +kernel) (by decide +kernel) rfl (fun hc => ?_) (fun hc => ?_)
  · have hr := nk_ifp (c := l4 = 0) hc hr
    refine nk_p (i := .lload_n 2) (len := 1) (pc' := 51) mJ_323 (by decide +kernel) (ns_lload_n 0 rfl rfl) rfl ?_
    refine nk_p (i := .lconst 0) (len := 1) (pc' := 52) mJ_323 (by decide +kernel) (ns_lconst (c := 0) (by decide +kernel)) rfl ?_
    refine nk_p (i := .lcmp) (len := 1) (pc' := 53) mJ_323 (by decide +kernel) ns_lcmp rfl ?_
    refine nk_lcond (c := .eq) (off := 7) (len := 3) (t := 60) (pc' := 56) mJ_323 (by decide +kernel) (by decide +kernel) rfl (fun hc => ?_) (fun hc => ?_)
    · have hr := nk_ifp (c := l2 = 0) hc hr
      refine nk_p (i := .iconst 0) (len := 1) (pc' := 61) mJ_323 (by decide +kernel) (ns_iconst (c := 0) (by decide +kernel)) rfl ?_
      cases hr
      exact nk_iret (ty := .boolean) (len := 1) mJ_323 (by decide +kernel) rfl (nk_nar_z (by decide))
    · have hr := nk_ifn (c := l2 = 0) hc hr
      refine nk_p (i := .iconst 1) (len := 1) (pc' := 57) mJ_323 (by decide +kernel) (ns_iconst (c := 1) (by decide +kernel)) rfl ?_
      refine nk_p (i := .goto 4) (len := 3) (pc' := 61) mJ_323 (by decide +kernel) (ns_goto (by decide +kernel)) rfl ?_
      cases hr
      exact nk_iret (ty := .boolean) (len := 1) mJ_323 (by decide +kernel) rfl (nk_nar_z (by decide))
  · have hr := nk_ifn (c := l4 = 0) hc hr
    refine nk_p (i := .lload_n 2) (len := 1) (pc' := 36) mJ_323 (by decide +kernel) (ns_lload_n 0 rfl rfl) rfl ?_
    obtain ⟨r4, S5, h6, hr⟩ := nk_bde hr
    refine nk_callS (ci := 0) (n := 1) (x := 342) (len := 3) (j' := 360) (q' := 1) (r := r4) (S' := S5) (L2 := [(0, nk_l l2)]) (rest := []) (st' := [nk_i r4]) (pc' := 39) mJ_323 (by decide +kernel) (by decide +kernel) (Nat.le_of_ble_eq_true rfl) rfl rfl (Nat.le_of_ble_eq_true rfl) mJ_360 (Nat.le_of_ble_eq_true rfl) ja_Tpos rfl (ja_X5_isNothing_ok zs _ _ _ h6) rfl ?_
    refine nk_icond (c := .ne) (off := 7) (len := 3) (t := 46) (pc' := 42) mJ_323 (by decide +kernel) (by decide +kernel) rfl (fun hc => ?_) (fun hc => ?_)
    · have hr := nk_ifn (c := r4 = 0) hc hr
      refine nk_p (i := .iconst 0) (len := 1) (pc' := 47) mJ_323 (by decide +kernel) (ns_iconst (c := 0) (by decide +kernel)) rfl ?_
      refine nk_p (i := .goto 14) (len := 3) (pc' := 61) mJ_323 (by decide +kernel) (ns_goto (by decide +kernel)) rfl ?_
      cases hr
      exact nk_iret (ty := .boolean) (len := 1) mJ_323 (by decide +kernel) rfl (nk_nar_z (by decide))
    · have hr := nk_ifp (c := r4 = 0) (Decidable.of_not_not hc) hr
      refine nk_p (i := .iconst 1) (len := 1) (pc' := 43) mJ_323 (by decide +kernel) (ns_iconst (c := 1) (by decide +kernel)) rfl ?_
      refine nk_p (i := .goto 18) (len := 3) (pc' := 61) mJ_323 (by decide +kernel) (ns_goto (by decide +kernel)) rfl ?_
      cases hr
      exact nk_iret (ty := .boolean) (len := 1) mJ_323 (by decide +kernel) rfl (nk_nar_z (by decide))
noncomputable def ja_X4_leavesValue (l0 : Nat) (l1 : Int) (l2 : Int) (l4 : Int) (S : nk_S) : Option (Int × nk_S) :=
  nk_bd (ja_X7_drop (ja_c l0 2) l1 S) fun r2 S3 =>
  if l4 = 0 then
    ja_X4_leavesValue_b27 l2 l4 (ja_c l0 2) l2 9007199254740992 S3
  else
    ja_X4_leavesValue_b27 l2 l4 (ja_c l0 2) l2 4503599627370496 S3
theorem ja_X4_leavesValue_ok (zs : List Int32) : ∀ (l0 : Nat) (l1 : Int) (l2 : Int) (l4 : Int) (S : nk_S) (R : Int × nk_S), nk_cl ja_Tt l0 = some 4 → ja_X4_leavesValue l0 l1 l2 l4 S = some R → nk_K ja_Tt mi_Γ (mi_ev zs) 1 323 0 [(0, nk_r l0), (1, nk_i l1), (2, nk_l l2), (4, nk_i l4)] [] S R := by
  intro l0 l1 l2 l4 S R t_l0 hr
  unfold ja_X4_leavesValue at hr
  refine nk_p (i := .aload_n 0) (len := 1) (pc' := 1) mJ_323 (by decide +kernel) (ns_aload_n 0 rfl rfl) rfl ?_
  refine nk_getC (f := (2, 7, 0)) (x := 12) (len := 3) (ci := 4) (k := 2) (pc' := 4) ja_okT mJ_323 (by decide +kernel) (by decide +kernel) (by decide +kernel) (by decide) t_l0 rfl ?_
  have t1 : nk_cl ja_Tt (ja_c l0 2) = some 7 := nk_tc (y := 0) ja_okT t_l0 (by decide +kernel)
  refine nk_p (i := .iload_n 1) (len := 1) (pc' := 5) mJ_323 (by decide +kernel) (ns_iload_n 1 rfl rfl) rfl ?_
  obtain ⟨r2, S3, h4, hr⟩ := nk_bde hr
  refine nk_callV (ci := 7) (n := 1) (x := 321) (len := 3) (j' := 401) (q' := 0) (r := r2) (S' := S3) (L2 := [(0, nk_r (ja_c l0 2)), (1, nk_i l1)]) (rest := []) (st' := []) (pc' := 8) mJ_323 (by decide +kernel) (by decide +kernel) rfl rfl t1 (Nat.le_of_ble_eq_true rfl) mJ_401 (Nat.le_of_ble_eq_true rfl) rfl (ja_X7_drop_ok zs _ _ _ _ t1 h4) rfl ?_
  refine nk_p (i := .aload_n 0) (len := 1) (pc' := 9) mJ_323 (by decide +kernel) (ns_aload_n 0 rfl rfl) rfl ?_
  refine nk_getC (f := (2, 7, 0)) (x := 12) (len := 3) (ci := 4) (k := 2) (pc' := 12) ja_okT mJ_323 (by decide +kernel) (by decide +kernel) (by decide +kernel) (by decide) t_l0 rfl ?_
  refine nk_p (i := .lload_n 2) (len := 1) (pc' := 13) mJ_323 (by decide +kernel) (ns_lload_n 2 rfl rfl) rfl ?_
  refine nk_p (i := .iload 4) (len := 2) (pc' := 15) mJ_323 (by decide +kernel) (ns_iload 3 rfl) rfl ?_
  refine nk_icond (c := .eq) (off := 9) (len := 3) (t := 24) (pc' := 18) mJ_323 (by decide +kernel) (by decide +kernel) rfl (fun hc => ?_) (fun hc => ?_)
  · have hr := nk_ifp (c := l4 = 0) hc hr
    refine nk_ldc2 (x := 279) (len := 3) (X := 9007199254740992) (v := 9007199254740992) (pc' := 27) mJ_323 (by decide +kernel) (by decide +kernel) (by decide +kernel) rfl ?_
    refine nk_sub [2, 3] (L' := [(2, nk_l l2), (4, nk_i l4)]) rfl ?_
    exact ja_X4_leavesValue_b27_ok zs _ _ _ _ _ _ _ t1 hr
  · have hr := nk_ifn (c := l4 = 0) hc hr
    refine nk_ldc2 (x := 256) (len := 3) (X := 4503599627370496) (v := 4503599627370496) (pc' := 21) mJ_323 (by decide +kernel) (by decide +kernel) (by decide +kernel) rfl ?_
    refine nk_p (i := .goto 6) (len := 3) (pc' := 27) mJ_323 (by decide +kernel) (ns_goto (by decide +kernel)) rfl ?_
    refine nk_sub [2, 3] (L' := [(2, nk_l l2), (4, nk_i l4)]) rfl ?_
    exact ja_X4_leavesValue_b27_ok zs _ _ _ _ _ _ _ t1 hr
/-! SafeCode$Proof takesElement (I)Z -/
noncomputable def ja_X4_takesElement_b59 (rec59 : Nat → Int → Int → Int → Int → nk_S → Option (Int × nk_S)) (l0 : Nat) (l2 : Int) (l5 : Int) (l6 : Int) (l8 : Int) (S : nk_S) : Option (Int × nk_S) :=
  if (S.1 (S.2 l0 0) 10) ≤ l8 then
    nk_bd (ja_X4_leavesValue l0 2 l6 l5 S) fun r2 S3 =>
    if r2 = 0 ∨ r2 = 1 then
    some (r2, S3)
    else none
  else
    if (nk_land (nk_lushr l2 l8) 1) = 0 then
      nk_lt (nk_w (l8 + 1)) fun v6 =>
      rec59 l0 l2 l5 l6 v6 S
    else
      if 0 ≤ l8 ∧ l8 < 48 then
      nk_bd (ja_X8_join l6 (S.1 (ja_c (ja_c l0 3) 1) l8.toNat) l5 S) fun r11 S12 =>
      nk_lt (nk_w (l8 + 1)) fun v14 =>
      rec59 l0 l2 l5 r11 v14 S12
      else none
theorem ja_X4_takesElement_b59_ok (zs : List Int32) {rec59 : Nat → Int → Int → Int → Int → nk_S → Option (Int × nk_S)} (hrec59 : ∀ (l0 : Nat) (l2 : Int) (l5 : Int) (l6 : Int) (l8 : Int) (S : nk_S) (R : Int × nk_S), nk_cl ja_Tt l0 = some 4 → rec59 l0 l2 l5 l6 l8 S = some R → nk_K ja_Tt mi_Γ (mi_ev zs) 1 340 59 [(0, nk_r l0), (2, nk_l l2), (5, nk_i l5), (6, nk_l l6), (8, nk_i l8)] [] S R) : ∀ (l0 : Nat) (l2 : Int) (l5 : Int) (l6 : Int) (l8 : Int) (S : nk_S) (R : Int × nk_S), nk_cl ja_Tt l0 = some 4 → ja_X4_takesElement_b59 rec59 l0 l2 l5 l6 l8 S = some R → nk_K ja_Tt mi_Γ (mi_ev zs) 1 340 59 [(0, nk_r l0), (2, nk_l l2), (5, nk_i l5), (6, nk_l l6), (8, nk_i l8)] [] S R := by
  intro l0 l2 l5 l6 l8 S R t_l0 hr
  unfold ja_X4_takesElement_b59 at hr
  refine nk_p (i := .iload 8) (len := 2) (pc' := 61) mJ_340 (by decide +kernel) (ns_iload 4 rfl) rfl ?_
  refine nk_p (i := .aload_n 0) (len := 1) (pc' := 62) mJ_340 (by decide +kernel) (ns_aload_n 0 rfl rfl) rfl ?_
  refine nk_getM (cj := 3) (z := 0) (x := 42) (len := 3) (ci := 4) (k := 0) (pc' := 65) ja_okT mJ_340 (by decide +kernel) (by decide +kernel) (by decide +kernel) t_l0 rfl (fun t1 => ?_)
  refine nk_getI (y := (0, 0)) (x := 129) (len := 3) (ci := 3) (k := 10) (pc' := 68) ja_okT mJ_340 (by decide +kernel) (by decide +kernel) (by decide +kernel) t1 rfl ?_
  refine nk_icmp (c := .ge) (off := 39) (len := 3) (t := 107) (pc' := 71) mJ_340 (by decide +kernel) (by decide +kernel) rfl (fun hc => ?_) (fun hc => ?_)
  · have hr := nk_ifp (c := (S.1 (S.2 l0 0) 10) ≤ l8) hc hr
    refine nk_p (i := .aload_n 0) (len := 1) (pc' := 108) mJ_340 (by decide +kernel) (ns_aload_n 0 rfl rfl) rfl ?_
    refine nk_p (i := .iconst 2) (len := 1) (pc' := 109) mJ_340 (by decide +kernel) (ns_iconst (c := 2) (by decide +kernel)) rfl ?_
    refine nk_p (i := .lload 6) (len := 2) (pc' := 111) mJ_340 (by decide +kernel) (ns_lload 3 rfl) rfl ?_
    refine nk_p (i := .iload 5) (len := 2) (pc' := 113) mJ_340 (by decide +kernel) (ns_iload 2 rfl) rfl ?_
    obtain ⟨r2, S3, h4, hr⟩ := nk_bde hr
    refine nk_callV (ci := 4) (n := 3) (x := 464) (len := 3) (j' := 323) (q' := 1) (r := r2) (S' := S3) (L2 := [(0, nk_r l0), (1, nk_i 2), (2, nk_l l6), (4, nk_i l5)]) (rest := []) (st' := [nk_i r2]) (pc' := 116) mJ_340 (by decide +kernel) (by decide +kernel) rfl rfl t_l0 (Nat.le_of_ble_eq_true rfl) mJ_323 (Nat.le_of_ble_eq_true rfl) rfl (ja_X4_leavesValue_ok zs _ _ _ _ _ _ t_l0 h4) rfl ?_
    obtain ⟨h5, hr⟩ := nk_cke hr
    cases hr
    exact nk_iret (ty := .boolean) (len := 1) mJ_340 (by decide +kernel) rfl (nk_nar_z h5)
  · have hr := nk_ifn (c := (S.1 (S.2 l0 0) 10) ≤ l8) hc hr
    refine nk_p (i := .lload_n 2) (len := 1) (pc' := 72) mJ_340 (by decide +kernel) (ns_lload_n 1 rfl rfl) rfl ?_
    refine nk_p (i := .iload 8) (len := 2) (pc' := 74) mJ_340 (by decide +kernel) (ns_iload 4 rfl) rfl ?_
    refine nk_p (i := .lushr) (len := 1) (pc' := 75) mJ_340 (by decide +kernel) ns_lushr rfl ?_
    refine nk_p (i := .lconst 1) (len := 1) (pc' := 76) mJ_340 (by decide +kernel) (ns_lconst (c := 1) (by decide +kernel)) rfl ?_
    refine nk_p (i := .land) (len := 1) (pc' := 77) mJ_340 (by decide +kernel) ns_land rfl ?_
    refine nk_p (i := .lconst 0) (len := 1) (pc' := 78) mJ_340 (by decide +kernel) (ns_lconst (c := 0) (by decide +kernel)) rfl ?_
    refine nk_p (i := .lcmp) (len := 1) (pc' := 79) mJ_340 (by decide +kernel) ns_lcmp rfl ?_
    refine nk_lcond (c := .eq) (off := 22) (len := 3) (t := 101) (pc' := 82) mJ_340 (by decide +kernel) (by decide +kernel) rfl (fun hc => ?_) (fun hc => ?_)
    · have hr := nk_ifp (c := (nk_land (nk_lushr l2 l8) 1) = 0) hc hr
      obtain ⟨v6, h7, hr⟩ := nk_lte hr
      refine nk_p (i := .iinc 8 1) (len := 3) (pc' := 104) mJ_340 (by decide +kernel) (ns_iinc (c := 1) (L' := [(8, nk_i v6), (0, nk_r l0), (2, nk_l l2), (5, nk_i l5), (6, nk_l l6)]) 4 rfl (by decide +kernel) h7 rfl (by decide +kernel)) rfl ?_
      refine nk_p (i := .goto (-45)) (len := 3) (pc' := 59) mJ_340 (by decide +kernel) (ns_goto (by decide +kernel)) rfl ?_
      refine nk_sub [1, 2, 3, 4, 0] (L' := [(0, nk_r l0), (2, nk_l l2), (5, nk_i l5), (6, nk_l l6), (8, nk_i v6)]) rfl ?_
      exact hrec59 _ _ _ _ _ _ _ t_l0 hr
    · have hr := nk_ifn (c := (nk_land (nk_lushr l2 l8) 1) = 0) hc hr
      refine nk_p (i := .lload 6) (len := 2) (pc' := 84) mJ_340 (by decide +kernel) (ns_lload 3 rfl) rfl ?_
      refine nk_p (i := .aload_n 0) (len := 1) (pc' := 85) mJ_340 (by decide +kernel) (ns_aload_n 0 rfl rfl) rfl ?_
      refine nk_getC (f := (2, 8, 0)) (x := 21) (len := 3) (ci := 4) (k := 3) (pc' := 88) ja_okT mJ_340 (by decide +kernel) (by decide +kernel) (by decide +kernel) (by decide) t_l0 rfl ?_
      have t8 : nk_cl ja_Tt (ja_c l0 3) = some 8 := nk_tc (y := 0) ja_okT t_l0 (by decide +kernel)
      refine nk_getC (f := (4, 2, 48)) (x := 458) (len := 3) (ci := 8) (k := 1) (pc' := 91) ja_okT mJ_340 (by decide +kernel) (by decide +kernel) (by decide +kernel) (by decide) t8 rfl ?_
      have t9 : nk_ar ja_Tt (ja_c (ja_c l0 3) 1) = some (2, 48) := nk_ta ja_okT t8 (by decide +kernel)
      refine nk_p (i := .iload 8) (len := 2) (pc' := 93) mJ_340 (by decide +kernel) (ns_iload 4 rfl) rfl ?_
      obtain ⟨h10, hr⟩ := nk_cke hr
      refine nk_lald (len := 1) (N := 48) (pc' := 94) mJ_340 (by decide +kernel) t9 h10.1 h10.2 rfl rfl ?_
      refine nk_p (i := .iload 5) (len := 2) (pc' := 96) mJ_340 (by decide +kernel) (ns_iload 2 rfl) rfl ?_
      obtain ⟨r11, S12, h13, hr⟩ := nk_bde hr
      refine nk_callS (ci := 0) (n := 3) (x := 461) (len := 3) (j' := 420) (q' := 2) (r := r11) (S' := S12) (L2 := [(0, nk_l l6), (2, nk_l (S.1 (ja_c (ja_c l0 3) 1) l8.toNat)), (4, nk_i l5)]) (rest := []) (st' := [nk_l r11]) (pc' := 99) mJ_340 (by decide +kernel) (by decide +kernel) (Nat.le_of_ble_eq_true rfl) rfl rfl (Nat.le_of_ble_eq_true rfl) mJ_420 (Nat.le_of_ble_eq_true rfl) ja_Tpos rfl (ja_X8_join_ok zs _ _ _ _ _ h13) rfl ?_
      refine nk_p (i := .lstore 6) (len := 2) (pc' := 101) mJ_340 (by decide +kernel) (ns_lstore (L' := [(6, nk_l r11), (0, nk_r l0), (2, nk_l l2), (5, nk_i l5), (8, nk_i l8)]) rfl rfl (by decide +kernel)) rfl ?_
      obtain ⟨v14, h15, hr⟩ := nk_lte hr
      refine nk_p (i := .iinc 8 1) (len := 3) (pc' := 104) mJ_340 (by decide +kernel) (ns_iinc (c := 1) (L' := [(8, nk_i v14), (6, nk_l r11), (0, nk_r l0), (2, nk_l l2), (5, nk_i l5)]) 4 rfl (by decide +kernel) h15 rfl (by decide +kernel)) rfl ?_
      refine nk_p (i := .goto (-45)) (len := 3) (pc' := 59) mJ_340 (by decide +kernel) (ns_goto (by decide +kernel)) rfl ?_
      refine nk_sub [2, 3, 4, 1, 0] (L' := [(0, nk_r l0), (2, nk_l l2), (5, nk_i l5), (6, nk_l r11), (8, nk_i v14)]) rfl ?_
      exact hrec59 _ _ _ _ _ _ _ t_l0 hr
noncomputable def ja_X4_takesElement_L59 : Nat → Nat → Int → Int → Int → Int → nk_S → Option (Int × nk_S)
  | 0, _, _, _, _, _, _ => none
  | n + 1, l0, l2, l5, l6, l8, S => ja_X4_takesElement_b59 (ja_X4_takesElement_L59 n) l0 l2 l5 l6 l8 S
theorem ja_X4_takesElement_L59_ok (zs : List Int32) : ∀ n : Nat, ∀ (l0 : Nat) (l2 : Int) (l5 : Int) (l6 : Int) (l8 : Int) (S : nk_S) (R : Int × nk_S), nk_cl ja_Tt l0 = some 4 → ja_X4_takesElement_L59 n l0 l2 l5 l6 l8 S = some R → nk_K ja_Tt mi_Γ (mi_ev zs) 1 340 59 [(0, nk_r l0), (2, nk_l l2), (5, nk_i l5), (6, nk_l l6), (8, nk_i l8)] [] S R := by
  intro n
  induction n with
  | zero => intro _ _ _ _ _ _ _ _ hr; cases hr
  | succ n ih => intro l0 l2 l5 l6 l8 S R t_l0 hr; exact ja_X4_takesElement_b59_ok zs ih l0 l2 l5 l6 l8 S R t_l0 hr
noncomputable def ja_X4_takesElement_b47 (l0 : Nat) (l2 : Int) (s0 : Int) (S : nk_S) : Option (Int × nk_S) :=
  nk_bd (ja_X8_nothing s0 S) fun r1 S2 =>
  ja_X4_takesElement_L59 nk_big l0 l2 s0 r1 0 S2
theorem ja_X4_takesElement_b47_ok (zs : List Int32) : ∀ (l0 : Nat) (l2 : Int) (s0 : Int) (S : nk_S) (R : Int × nk_S), nk_cl ja_Tt l0 = some 4 → ja_X4_takesElement_b47 l0 l2 s0 S = some R → nk_K ja_Tt mi_Γ (mi_ev zs) 1 340 47 [(0, nk_r l0), (2, nk_l l2)] [nk_i s0] S R := by
  intro l0 l2 s0 S R t_l0 hr
  unfold ja_X4_takesElement_b47 at hr
  refine nk_p (i := .istore 5) (len := 2) (pc' := 49) mJ_340 (by decide +kernel) (ns_istore (L' := [(5, nk_i s0), (0, nk_r l0), (2, nk_l l2)]) rfl rfl (by decide +kernel)) rfl ?_
  refine nk_p (i := .iload 5) (len := 2) (pc' := 51) mJ_340 (by decide +kernel) (ns_iload 0 rfl) rfl ?_
  obtain ⟨r1, S2, h3, hr⟩ := nk_bde hr
  refine nk_callS (ci := 0) (n := 1) (x := 454) (len := 3) (j' := 421) (q' := 2) (r := r1) (S' := S2) (L2 := [(0, nk_i s0)]) (rest := []) (st' := [nk_l r1]) (pc' := 54) mJ_340 (by decide +kernel) (by decide +kernel) (Nat.le_of_ble_eq_true rfl) rfl rfl (Nat.le_of_ble_eq_true rfl) mJ_421 (Nat.le_of_ble_eq_true rfl) ja_Tpos rfl (ja_X8_nothing_ok zs _ _ _ h3) rfl ?_
  refine nk_p (i := .lstore 6) (len := 2) (pc' := 56) mJ_340 (by decide +kernel) (ns_lstore (L' := [(6, nk_l r1), (5, nk_i s0), (0, nk_r l0), (2, nk_l l2)]) rfl rfl (by decide +kernel)) rfl ?_
  refine nk_p (i := .iconst 0) (len := 1) (pc' := 57) mJ_340 (by decide +kernel) (ns_iconst (c := 0) (by decide +kernel)) rfl ?_
  refine nk_p (i := .istore 8) (len := 2) (pc' := 59) mJ_340 (by decide +kernel) (ns_istore (L' := [(8, nk_i 0), (6, nk_l r1), (5, nk_i s0), (0, nk_r l0), (2, nk_l l2)]) rfl rfl (by decide +kernel)) rfl ?_
  refine nk_sub [3, 4, 2, 1, 0] (L' := [(0, nk_r l0), (2, nk_l l2), (5, nk_i s0), (6, nk_l r1), (8, nk_i 0)]) rfl ?_
  exact ja_X4_takesElement_L59_ok zs nk_big _ _ _ _ _ _ _ t_l0 hr
noncomputable def ja_X4_takesElement_b46 (l0 : Nat) (l2 : Int) (S : nk_S) : Option (Int × nk_S) :=
  ja_X4_takesElement_b47 l0 l2 0 S
theorem ja_X4_takesElement_b46_ok (zs : List Int32) : ∀ (l0 : Nat) (l2 : Int) (S : nk_S) (R : Int × nk_S), nk_cl ja_Tt l0 = some 4 → ja_X4_takesElement_b46 l0 l2 S = some R → nk_K ja_Tt mi_Γ (mi_ev zs) 1 340 46 [(0, nk_r l0), (2, nk_l l2)] [] S R := by
  intro l0 l2 S R t_l0 hr
  unfold ja_X4_takesElement_b46 at hr
  refine nk_p (i := .iconst 0) (len := 1) (pc' := 47) mJ_340 (by decide +kernel) (ns_iconst (c := 0) (by decide +kernel)) rfl ?_
  exact ja_X4_takesElement_b47_ok zs _ _ _ _ _ t_l0 hr
noncomputable def ja_X4_takesElement (l0 : Nat) (l1 : Int) (S : nk_S) : Option (Int × nk_S) :=
  if 0 ≤ l1 ∧ l1 < 20 then
  nk_lt (S.1 (ja_c (ja_c l0 2) 4) l1.toNat) fun v4 =>
  nk_bd (ja_J13_numberOfTrailingZeros_95d88 v4 S) fun r6 S7 =>
  if (S7.1 (S7.2 l0 0) 10) ≤ r6 then
    ja_X4_takesElement_b46 l0 v4 S7
  else
    if 0 ≤ r6 ∧ r6 < 54 then
    if (S7.1 (ja_c (S7.2 l0 0) 11) r6.toNat) = 3 then
      ja_X4_takesElement_b47 l0 v4 1 S7
    else
      ja_X4_takesElement_b46 l0 v4 S7
    else none
  else none
theorem ja_X4_takesElement_ok (zs : List Int32) : ∀ (l0 : Nat) (l1 : Int) (S : nk_S) (R : Int × nk_S), nk_cl ja_Tt l0 = some 4 → ja_X4_takesElement l0 l1 S = some R → nk_K ja_Tt mi_Γ (mi_ev zs) 1 340 0 [(0, nk_r l0), (1, nk_i l1)] [] S R := by
  intro l0 l1 S R t_l0 hr
  unfold ja_X4_takesElement at hr
  refine nk_p (i := .aload_n 0) (len := 1) (pc' := 1) mJ_340 (by decide +kernel) (ns_aload_n 0 rfl rfl) rfl ?_
  refine nk_getC (f := (2, 7, 0)) (x := 12) (len := 3) (ci := 4) (k := 2) (pc' := 4) ja_okT mJ_340 (by decide +kernel) (by decide +kernel) (by decide +kernel) (by decide) t_l0 rfl ?_
  have t1 : nk_cl ja_Tt (ja_c l0 2) = some 7 := nk_tc (y := 0) ja_okT t_l0 (by decide +kernel)
  refine nk_getC (f := (4, 2, 20)) (x := 299) (len := 3) (ci := 7) (k := 4) (pc' := 7) ja_okT mJ_340 (by decide +kernel) (by decide +kernel) (by decide +kernel) (by decide) t1 rfl ?_
  have t2 : nk_ar ja_Tt (ja_c (ja_c l0 2) 4) = some (2, 20) := nk_ta ja_okT t1 (by decide +kernel)
  refine nk_p (i := .iload_n 1) (len := 1) (pc' := 8) mJ_340 (by decide +kernel) (ns_iload_n 1 rfl rfl) rfl ?_
  obtain ⟨h3, hr⟩ := nk_cke hr
  refine nk_lald (len := 1) (N := 20) (pc' := 9) mJ_340 (by decide +kernel) t2 h3.1 h3.2 rfl rfl ?_
  obtain ⟨v4, h5, hr⟩ := nk_lte hr
  refine nk_p (i := .lstore_n 2) (len := 1) (pc' := 10) mJ_340 (by decide +kernel) (ns_lstore_n (L' := [(2, nk_l v4), (0, nk_r l0), (1, nk_i l1)]) h5 rfl rfl (by decide +kernel)) rfl ?_
  refine nk_p (i := .lload_n 2) (len := 1) (pc' := 11) mJ_340 (by decide +kernel) (ns_lload_n 0 rfl rfl) rfl ?_
  obtain ⟨r6, S7, h8, hr⟩ := nk_bde hr
  refine nk_callS (ci := 0) (n := 1) (x := 449) (len := 3) (j' := 7) (q' := 1) (r := r6) (S' := S7) (L2 := [(0, nk_l v4)]) (rest := []) (st' := [nk_i r6]) (pc' := 14) mJ_340 (by decide +kernel) (by decide +kernel) (Nat.le_of_ble_eq_true rfl) rfl rfl (Nat.le_of_ble_eq_true rfl) mJ_7 (Nat.le_of_ble_eq_true rfl) ja_Tpos rfl (ja_J13_numberOfTrailingZeros_95d88_ok zs _ _ _ h8) rfl ?_
  refine nk_p (i := .istore 4) (len := 2) (pc' := 16) mJ_340 (by decide +kernel) (ns_istore (L' := [(4, nk_i r6), (2, nk_l v4), (0, nk_r l0), (1, nk_i l1)]) rfl rfl (by decide +kernel)) rfl ?_
  refine nk_p (i := .iload 4) (len := 2) (pc' := 18) mJ_340 (by decide +kernel) (ns_iload 0 rfl) rfl ?_
  refine nk_p (i := .aload_n 0) (len := 1) (pc' := 19) mJ_340 (by decide +kernel) (ns_aload_n 2 rfl rfl) rfl ?_
  refine nk_getM (cj := 3) (z := 0) (x := 42) (len := 3) (ci := 4) (k := 0) (pc' := 22) ja_okT mJ_340 (by decide +kernel) (by decide +kernel) (by decide +kernel) t_l0 rfl (fun t9 => ?_)
  refine nk_getI (y := (0, 0)) (x := 129) (len := 3) (ci := 3) (k := 10) (pc' := 25) ja_okT mJ_340 (by decide +kernel) (by decide +kernel) (by decide +kernel) t9 rfl ?_
  refine nk_icmp (c := .ge) (off := 21) (len := 3) (t := 46) (pc' := 28) mJ_340 (by decide +kernel) (by decide +kernel) rfl (fun hc => ?_) (fun hc => ?_)
  · have hr := nk_ifp (c := (S7.1 (S7.2 l0 0) 10) ≤ r6) hc hr
    refine nk_sub [2, 1] (L' := [(0, nk_r l0), (2, nk_l v4)]) rfl ?_
    exact ja_X4_takesElement_b46_ok zs _ _ _ _ t_l0 hr
  · have hr := nk_ifn (c := (S7.1 (S7.2 l0 0) 10) ≤ r6) hc hr
    refine nk_p (i := .aload_n 0) (len := 1) (pc' := 29) mJ_340 (by decide +kernel) (ns_aload_n 2 rfl rfl) rfl ?_
    refine nk_getM (cj := 3) (z := 0) (x := 42) (len := 3) (ci := 4) (k := 0) (pc' := 32) ja_okT mJ_340 (by decide +kernel) (by decide +kernel) (by decide +kernel) t_l0 rfl (fun t10 => ?_)
    refine nk_getC (f := (4, 1, 54)) (x := 132) (len := 3) (ci := 3) (k := 11) (pc' := 35) ja_okT mJ_340 (by decide +kernel) (by decide +kernel) (by decide +kernel) (by decide) t10 rfl ?_
    have t11 : nk_ar ja_Tt (ja_c (S7.2 l0 0) 11) = some (1, 54) := nk_ta ja_okT t10 (by decide +kernel)
    refine nk_p (i := .iload 4) (len := 2) (pc' := 37) mJ_340 (by decide +kernel) (ns_iload 0 rfl) rfl ?_
    obtain ⟨h12, hr⟩ := nk_cke hr
    refine nk_iald (len := 1) (N := 54) (pc' := 38) mJ_340 (by decide +kernel) t11 h12.1 h12.2 rfl rfl ?_
    refine nk_p (i := .iconst 3) (len := 1) (pc' := 39) mJ_340 (by decide +kernel) (ns_iconst (c := 3) (by decide +kernel)) rfl ?_
    refine nk_icmp (c := .ne) (off := 7) (len := 3) (t := 46) (pc' := 42) mJ_340 (by decide +kernel) (by decide +kernel) rfl (fun hc => ?_) (fun hc => ?_)
    · have hr := nk_ifn (c := (S7.1 (ja_c (S7.2 l0 0) 11) r6.toNat) = 3) hc hr
      refine nk_sub [2, 1] (L' := [(0, nk_r l0), (2, nk_l v4)]) rfl ?_
      exact ja_X4_takesElement_b46_ok zs _ _ _ _ t_l0 hr
    · have hr := nk_ifp (c := (S7.1 (ja_c (S7.2 l0 0) 11) r6.toNat) = 3) (Decidable.of_not_not hc) hr
      refine nk_p (i := .iconst 1) (len := 1) (pc' := 43) mJ_340 (by decide +kernel) (ns_iconst (c := 1) (by decide +kernel)) rfl ?_
      refine nk_p (i := .goto 4) (len := 3) (pc' := 47) mJ_340 (by decide +kernel) (ns_goto (by decide +kernel)) rfl ?_
      refine nk_sub [2, 1] (L' := [(0, nk_r l0), (2, nk_l v4)]) rfl ?_
      exact ja_X4_takesElement_b47_ok zs _ _ _ _ _ t_l0 hr
/-! SafeCode$Store addElement (IJZ)V -/
noncomputable def ja_X8_addElement (l0 : Nat) (l1 : Int) (l2 : Int) (l4 : Int) (S : nk_S) : Option (Int × nk_S) :=
  if 0 ≤ l1 ∧ l1 < 48 then
  nk_bd (ja_X8_join (S.1 (ja_c l0 1) l1.toNat) l2 l4 S) fun r3 S4 =>
  if r3 = (S4.1 (ja_c l0 1) l1.toNat) then
    some (0, S4)
  else
    nk_lt (nk_wi S4 (ja_c l0 1) l1.toNat r3) fun S6 =>
    nk_lt (nk_wi S6 l0 7 (nk_lor (S6.1 l0 7) (nk_lshl 1 l1))) fun S8 =>
    some (0, S8)
  else none
theorem ja_X8_addElement_ok (zs : List Int32) : ∀ (l0 : Nat) (l1 : Int) (l2 : Int) (l4 : Int) (S : nk_S) (R : Int × nk_S), nk_cl ja_Tt l0 = some 8 → ja_X8_addElement l0 l1 l2 l4 S = some R → nk_K ja_Tt mi_Γ (mi_ev zs) 0 413 0 [(0, nk_r l0), (1, nk_i l1), (2, nk_l l2), (4, nk_i l4)] [] S R := by
  intro l0 l1 l2 l4 S R t_l0 hr
  unfold ja_X8_addElement at hr
  refine nk_p (i := .aload_n 0) (len := 1) (pc' := 1) mJ_413 (by decide +kernel) (ns_aload_n 0 rfl rfl) rfl ?_
  refine nk_getC (f := (4, 2, 48)) (x := 15) (len := 3) (ci := 8) (k := 1) (pc' := 4) ja_okT mJ_413 (by decide +kernel) (by decide +kernel) (by decide +kernel) (by decide) t_l0 rfl ?_
  have t1 : nk_ar ja_Tt (ja_c l0 1) = some (2, 48) := nk_ta ja_okT t_l0 (by decide +kernel)
  refine nk_p (i := .iload_n 1) (len := 1) (pc' := 5) mJ_413 (by decide +kernel) (ns_iload_n 1 rfl rfl) rfl ?_
  obtain ⟨h2, hr⟩ := nk_cke hr
  refine nk_lald (len := 1) (N := 48) (pc' := 6) mJ_413 (by decide +kernel) t1 h2.1 h2.2 rfl rfl ?_
  refine nk_p (i := .lload_n 2) (len := 1) (pc' := 7) mJ_413 (by decide +kernel) (ns_lload_n 2 rfl rfl) rfl ?_
  refine nk_p (i := .iload 4) (len := 2) (pc' := 9) mJ_413 (by decide +kernel) (ns_iload 3 rfl) rfl ?_
  obtain ⟨r3, S4, h5, hr⟩ := nk_bde hr
  refine nk_callS (ci := 0) (n := 3) (x := 71) (len := 3) (j' := 420) (q' := 2) (r := r3) (S' := S4) (L2 := [(0, nk_l (S.1 (ja_c l0 1) l1.toNat)), (2, nk_l l2), (4, nk_i l4)]) (rest := []) (st' := [nk_l r3]) (pc' := 12) mJ_413 (by decide +kernel) (by decide +kernel) (Nat.le_of_ble_eq_true rfl) rfl rfl (Nat.le_of_ble_eq_true rfl) mJ_420 (Nat.le_of_ble_eq_true rfl) ja_Tpos rfl (ja_X8_join_ok zs _ _ _ _ _ h5) rfl ?_
  refine nk_p (i := .lstore 5) (len := 2) (pc' := 14) mJ_413 (by decide +kernel) (ns_lstore (L' := [(5, nk_l r3), (0, nk_r l0), (1, nk_i l1), (2, nk_l l2), (4, nk_i l4)]) rfl rfl (by decide +kernel)) rfl ?_
  refine nk_p (i := .lload 5) (len := 2) (pc' := 16) mJ_413 (by decide +kernel) (ns_lload 0 rfl) rfl ?_
  refine nk_p (i := .aload_n 0) (len := 1) (pc' := 17) mJ_413 (by decide +kernel) (ns_aload_n 1 rfl rfl) rfl ?_
  refine nk_getC (f := (4, 2, 48)) (x := 15) (len := 3) (ci := 8) (k := 1) (pc' := 20) ja_okT mJ_413 (by decide +kernel) (by decide +kernel) (by decide +kernel) (by decide) t_l0 rfl ?_
  refine nk_p (i := .iload_n 1) (len := 1) (pc' := 21) mJ_413 (by decide +kernel) (ns_iload_n 2 rfl rfl) rfl ?_
  refine nk_lald (len := 1) (N := 48) (pc' := 22) mJ_413 (by decide +kernel) t1 h2.1 h2.2 rfl rfl ?_
  refine nk_p (i := .lcmp) (len := 1) (pc' := 23) mJ_413 (by decide +kernel) ns_lcmp rfl ?_
  refine nk_lcond (c := .eq) (off := 23) (len := 3) (t := 46) (pc' := 26) mJ_413 (by decide +kernel) (by decide +kernel) rfl (fun hc => ?_) (fun hc => ?_)
  · have hr := nk_ifp (c := r3 = (S4.1 (ja_c l0 1) l1.toNat)) hc hr
    cases hr
    exact nk_vret (len := 1) mJ_413 (by decide +kernel) rfl
  · have hr := nk_ifn (c := r3 = (S4.1 (ja_c l0 1) l1.toNat)) hc hr
    refine nk_p (i := .aload_n 0) (len := 1) (pc' := 27) mJ_413 (by decide +kernel) (ns_aload_n 1 rfl rfl) rfl ?_
    refine nk_getC (f := (4, 2, 48)) (x := 15) (len := 3) (ci := 8) (k := 1) (pc' := 30) ja_okT mJ_413 (by decide +kernel) (by decide +kernel) (by decide +kernel) (by decide) t_l0 rfl ?_
    refine nk_p (i := .iload_n 1) (len := 1) (pc' := 31) mJ_413 (by decide +kernel) (ns_iload_n 2 rfl rfl) rfl ?_
    refine nk_p (i := .lload 5) (len := 2) (pc' := 33) mJ_413 (by decide +kernel) (ns_lload 0 rfl) rfl ?_
    obtain ⟨S6, h7, hr⟩ := nk_lte hr
    refine nk_last (len := 1) (N := 48) (pc' := 34) mJ_413 (by decide +kernel) t1 h2.1 h2.2 rfl rfl h7 ?_
    refine nk_p (i := .aload_n 0) (len := 1) (pc' := 35) mJ_413 (by decide +kernel) (ns_aload_n 1 rfl rfl) rfl ?_
    refine nk_p (i := .dup) (len := 1) (pc' := 36) mJ_413 (by decide +kernel) (ns_dup rfl) rfl ?_
    refine nk_getL (y := (0, 0)) (x := 78) (len := 3) (ci := 8) (k := 7) (pc' := 39) ja_okT mJ_413 (by decide +kernel) (by decide +kernel) (by decide +kernel) t_l0 rfl ?_
    refine nk_p (i := .lconst 1) (len := 1) (pc' := 40) mJ_413 (by decide +kernel) (ns_lconst (c := 1) (by decide +kernel)) rfl ?_
    refine nk_p (i := .iload_n 1) (len := 1) (pc' := 41) mJ_413 (by decide +kernel) (ns_iload_n 2 rfl rfl) rfl ?_
    refine nk_p (i := .lshl) (len := 1) (pc' := 42) mJ_413 (by decide +kernel) ns_lshl rfl ?_
    refine nk_p (i := .lor) (len := 1) (pc' := 43) mJ_413 (by decide +kernel) ns_lor rfl ?_
    obtain ⟨S8, h9, hr⟩ := nk_lte hr
    refine nk_putL (y := (0, 0)) (x := 78) (len := 3) (ci := 8) (k := 7) (pc' := 46) ja_okT mJ_413 (by decide +kernel) (by decide +kernel) (by decide +kernel) t_l0 rfl h9 ?_
    cases hr
    exact nk_vret (len := 1) mJ_413 (by decide +kernel) rfl
/-! SafeCode$Proof putsElement (I)Z -/
noncomputable def ja_X4_putsElement_b136 (rec57 : Nat → Int → Int → Int → Int → Int → nk_S → Option (Int × nk_S)) (l0 : Nat) (l2 : Int) (l4 : Int) (l6 : Int) (l8 : Int) (l9 : Int) (s0 : Int) (S : nk_S) : Option (Int × nk_S) :=
  nk_bd (ja_X8_addElement (ja_c l0 3) l8 l9 l6 S) fun r2 S3 =>
  nk_lt (nk_w (l8 + 1)) fun v5 =>
  rec57 l0 l2 l4 l6 s0 v5 S3
theorem ja_X4_putsElement_b136_ok (zs : List Int32) {rec57 : Nat → Int → Int → Int → Int → Int → nk_S → Option (Int × nk_S)} (hrec57 : ∀ (l0 : Nat) (l2 : Int) (l4 : Int) (l6 : Int) (l7 : Int) (l8 : Int) (S : nk_S) (R : Int × nk_S), nk_cl ja_Tt l0 = some 4 → rec57 l0 l2 l4 l6 l7 l8 S = some R → nk_K ja_Tt mi_Γ (mi_ev zs) 1 337 57 [(0, nk_r l0), (2, nk_l l2), (4, nk_l l4), (6, nk_i l6), (7, nk_i l7), (8, nk_i l8)] [] S R) : ∀ (l0 : Nat) (l2 : Int) (l4 : Int) (l6 : Int) (l8 : Int) (l9 : Int) (s0 : Int) (S : nk_S) (R : Int × nk_S), nk_cl ja_Tt l0 = some 4 → ja_X4_putsElement_b136 rec57 l0 l2 l4 l6 l8 l9 s0 S = some R → nk_K ja_Tt mi_Γ (mi_ev zs) 1 337 136 [(0, nk_r l0), (2, nk_l l2), (4, nk_l l4), (6, nk_i l6), (8, nk_i l8), (9, nk_l l9)] [nk_i s0] S R := by
  intro l0 l2 l4 l6 l8 l9 s0 S R t_l0 hr
  unfold ja_X4_putsElement_b136 at hr
  refine nk_p (i := .istore 7) (len := 2) (pc' := 138) mJ_337 (by decide +kernel) (ns_istore (L' := [(7, nk_i s0), (0, nk_r l0), (2, nk_l l2), (4, nk_l l4), (6, nk_i l6), (8, nk_i l8), (9, nk_l l9)]) rfl rfl (by decide +kernel)) rfl ?_
  refine nk_p (i := .aload_n 0) (len := 1) (pc' := 139) mJ_337 (by decide +kernel) (ns_aload_n 1 rfl rfl) rfl ?_
  refine nk_getC (f := (2, 8, 0)) (x := 21) (len := 3) (ci := 4) (k := 3) (pc' := 142) ja_okT mJ_337 (by decide +kernel) (by decide +kernel) (by decide +kernel) (by decide) t_l0 rfl ?_
  have t1 : nk_cl ja_Tt (ja_c l0 3) = some 8 := nk_tc (y := 0) ja_okT t_l0 (by decide +kernel)
  refine nk_p (i := .iload 8) (len := 2) (pc' := 144) mJ_337 (by decide +kernel) (ns_iload 5 rfl) rfl ?_
  refine nk_p (i := .lload 9) (len := 2) (pc' := 146) mJ_337 (by decide +kernel) (ns_lload 6 rfl) rfl ?_
  refine nk_p (i := .iload 6) (len := 2) (pc' := 148) mJ_337 (by decide +kernel) (ns_iload 4 rfl) rfl ?_
  obtain ⟨r2, S3, h4, hr⟩ := nk_bde hr
  refine nk_callV (ci := 8) (n := 3) (x := 419) (len := 3) (j' := 413) (q' := 0) (r := r2) (S' := S3) (L2 := [(0, nk_r (ja_c l0 3)), (1, nk_i l8), (2, nk_l l9), (4, nk_i l6)]) (rest := []) (st' := []) (pc' := 151) mJ_337 (by decide +kernel) (by decide +kernel) rfl rfl t1 (Nat.le_of_ble_eq_true rfl) mJ_413 (Nat.le_of_ble_eq_true rfl) rfl (ja_X8_addElement_ok zs _ _ _ _ _ _ t1 h4) rfl ?_
  obtain ⟨v5, h6, hr⟩ := nk_lte hr
  refine nk_p (i := .iinc 8 1) (len := 3) (pc' := 154) mJ_337 (by decide +kernel) (ns_iinc (c := 1) (L' := [(8, nk_i v5), (7, nk_i s0), (0, nk_r l0), (2, nk_l l2), (4, nk_l l4), (6, nk_i l6), (9, nk_l l9)]) 5 rfl (by decide +kernel) h6 rfl (by decide +kernel)) rfl ?_
  refine nk_p (i := .goto (-97)) (len := 3) (pc' := 57) mJ_337 (by decide +kernel) (ns_goto (by decide +kernel)) rfl ?_
  refine nk_sub [2, 3, 4, 5, 1, 0] (L' := [(0, nk_r l0), (2, nk_l l2), (4, nk_l l4), (6, nk_i l6), (7, nk_i s0), (8, nk_i v5)]) rfl ?_
  exact hrec57 _ _ _ _ _ _ _ _ t_l0 hr
noncomputable def ja_X4_putsElement_b131 (rec57 : Nat → Int → Int → Int → Int → Int → nk_S → Option (Int × nk_S)) (l0 : Nat) (l2 : Int) (l4 : Int) (l6 : Int) (l8 : Int) (l9 : Int) (S : nk_S) : Option (Int × nk_S) :=
  ja_X4_putsElement_b136 rec57 l0 l2 l4 l6 l8 l9 1 S
theorem ja_X4_putsElement_b131_ok (zs : List Int32) {rec57 : Nat → Int → Int → Int → Int → Int → nk_S → Option (Int × nk_S)} (hrec57 : ∀ (l0 : Nat) (l2 : Int) (l4 : Int) (l6 : Int) (l7 : Int) (l8 : Int) (S : nk_S) (R : Int × nk_S), nk_cl ja_Tt l0 = some 4 → rec57 l0 l2 l4 l6 l7 l8 S = some R → nk_K ja_Tt mi_Γ (mi_ev zs) 1 337 57 [(0, nk_r l0), (2, nk_l l2), (4, nk_l l4), (6, nk_i l6), (7, nk_i l7), (8, nk_i l8)] [] S R) : ∀ (l0 : Nat) (l2 : Int) (l4 : Int) (l6 : Int) (l8 : Int) (l9 : Int) (S : nk_S) (R : Int × nk_S), nk_cl ja_Tt l0 = some 4 → ja_X4_putsElement_b131 rec57 l0 l2 l4 l6 l8 l9 S = some R → nk_K ja_Tt mi_Γ (mi_ev zs) 1 337 131 [(0, nk_r l0), (2, nk_l l2), (4, nk_l l4), (6, nk_i l6), (8, nk_i l8), (9, nk_l l9)] [] S R := by
  intro l0 l2 l4 l6 l8 l9 S R t_l0 hr
  unfold ja_X4_putsElement_b131 at hr
  refine nk_p (i := .iconst 1) (len := 1) (pc' := 132) mJ_337 (by decide +kernel) (ns_iconst (c := 1) (by decide +kernel)) rfl ?_
  refine nk_p (i := .goto 4) (len := 3) (pc' := 136) mJ_337 (by decide +kernel) (ns_goto (by decide +kernel)) rfl ?_
  exact ja_X4_putsElement_b136_ok zs hrec57 _ _ _ _ _ _ _ _ _ t_l0 hr
noncomputable def ja_X4_putsElement_b119 (rec57 : Nat → Int → Int → Int → Int → Int → nk_S → Option (Int × nk_S)) (l0 : Nat) (l2 : Int) (l4 : Int) (l6 : Int) (l7 : Int) (l8 : Int) (l9 : Int) (S : nk_S) : Option (Int × nk_S) :=
  if l7 = 0 then
    if l9 = 0 then
      ja_X4_putsElement_b136 rec57 l0 l2 l4 l6 l8 l9 0 S
    else
      ja_X4_putsElement_b131 rec57 l0 l2 l4 l6 l8 l9 S
  else
    ja_X4_putsElement_b131 rec57 l0 l2 l4 l6 l8 l9 S
theorem ja_X4_putsElement_b119_ok (zs : List Int32) {rec57 : Nat → Int → Int → Int → Int → Int → nk_S → Option (Int × nk_S)} (hrec57 : ∀ (l0 : Nat) (l2 : Int) (l4 : Int) (l6 : Int) (l7 : Int) (l8 : Int) (S : nk_S) (R : Int × nk_S), nk_cl ja_Tt l0 = some 4 → rec57 l0 l2 l4 l6 l7 l8 S = some R → nk_K ja_Tt mi_Γ (mi_ev zs) 1 337 57 [(0, nk_r l0), (2, nk_l l2), (4, nk_l l4), (6, nk_i l6), (7, nk_i l7), (8, nk_i l8)] [] S R) : ∀ (l0 : Nat) (l2 : Int) (l4 : Int) (l6 : Int) (l7 : Int) (l8 : Int) (l9 : Int) (S : nk_S) (R : Int × nk_S), nk_cl ja_Tt l0 = some 4 → ja_X4_putsElement_b119 rec57 l0 l2 l4 l6 l7 l8 l9 S = some R → nk_K ja_Tt mi_Γ (mi_ev zs) 1 337 119 [(0, nk_r l0), (2, nk_l l2), (4, nk_l l4), (6, nk_i l6), (7, nk_i l7), (8, nk_i l8), (9, nk_l l9)] [] S R := by
  intro l0 l2 l4 l6 l7 l8 l9 S R t_l0 hr
  unfold ja_X4_putsElement_b119 at hr
  refine nk_p (i := .iload 7) (len := 2) (pc' := 121) mJ_337 (by decide +kernel) (ns_iload 4 rfl) rfl ?_
  refine nk_icond (c := .ne) (off := 10) (len := 3) (t := 131) (pc' := 124) mJ_337 (by decide +kernel) (by decide +kernel) rfl (fun hc => ?_) (fun hc => ?_)
  · have hr := nk_ifn (c := l7 = 0) hc hr
    refine nk_sub [0, 1, 2, 3, 5, 6] (L' := [(0, nk_r l0), (2, nk_l l2), (4, nk_l l4), (6, nk_i l6), (8, nk_i l8), (9, nk_l l9)]) rfl ?_
    exact ja_X4_putsElement_b131_ok zs hrec57 _ _ _ _ _ _ _ _ t_l0 hr
  · have hr := nk_ifp (c := l7 = 0) (Decidable.of_not_not hc) hr
    refine nk_p (i := .lload 9) (len := 2) (pc' := 126) mJ_337 (by decide +kernel) (ns_lload 6 rfl) rfl ?_
    refine nk_p (i := .lconst 0) (len := 1) (pc' := 127) mJ_337 (by decide +kernel) (ns_lconst (c := 0) (by decide +kernel)) rfl ?_
    refine nk_p (i := .lcmp) (len := 1) (pc' := 128) mJ_337 (by decide +kernel) ns_lcmp rfl ?_
    refine nk_lcond (c := .eq) (off := 7) (len := 3) (t := 135) (pc' := 131) mJ_337 (by decide +kernel) (by decide +kernel) rfl (fun hc => ?_) (fun hc => ?_)
    · have hr := nk_ifp (c := l9 = 0) hc hr
      refine nk_p (i := .iconst 0) (len := 1) (pc' := 136) mJ_337 (by decide +kernel) (ns_iconst (c := 0) (by decide +kernel)) rfl ?_
      refine nk_sub [0, 1, 2, 3, 5, 6] (L' := [(0, nk_r l0), (2, nk_l l2), (4, nk_l l4), (6, nk_i l6), (8, nk_i l8), (9, nk_l l9)]) rfl ?_
      exact ja_X4_putsElement_b136_ok zs hrec57 _ _ _ _ _ _ _ _ _ t_l0 hr
    · have hr := nk_ifn (c := l9 = 0) hc hr
      refine nk_sub [0, 1, 2, 3, 5, 6] (L' := [(0, nk_r l0), (2, nk_l l2), (4, nk_l l4), (6, nk_i l6), (8, nk_i l8), (9, nk_l l9)]) rfl ?_
      exact ja_X4_putsElement_b131_ok zs hrec57 _ _ _ _ _ _ _ _ t_l0 hr
noncomputable def ja_X4_putsElement_b104 (rec57 : Nat → Int → Int → Int → Int → Int → nk_S → Option (Int × nk_S)) (l0 : Nat) (l2 : Int) (l4 : Int) (l6 : Int) (l7 : Int) (l8 : Int) (s0 : Int) (S : nk_S) : Option (Int × nk_S) :=
  if s0 = l4 then
    ja_X4_putsElement_b119 rec57 l0 l2 l4 l6 l7 l8 s0 S
  else
    nk_bd (ja_X4_raise l0 5 S) fun r1 S2 =>
    ja_X4_putsElement_b119 rec57 l0 l2 l4 l6 l7 l8 s0 S2
theorem ja_X4_putsElement_b104_ok (zs : List Int32) {rec57 : Nat → Int → Int → Int → Int → Int → nk_S → Option (Int × nk_S)} (hrec57 : ∀ (l0 : Nat) (l2 : Int) (l4 : Int) (l6 : Int) (l7 : Int) (l8 : Int) (S : nk_S) (R : Int × nk_S), nk_cl ja_Tt l0 = some 4 → rec57 l0 l2 l4 l6 l7 l8 S = some R → nk_K ja_Tt mi_Γ (mi_ev zs) 1 337 57 [(0, nk_r l0), (2, nk_l l2), (4, nk_l l4), (6, nk_i l6), (7, nk_i l7), (8, nk_i l8)] [] S R) : ∀ (l0 : Nat) (l2 : Int) (l4 : Int) (l6 : Int) (l7 : Int) (l8 : Int) (s0 : Int) (S : nk_S) (R : Int × nk_S), nk_cl ja_Tt l0 = some 4 → ja_X4_putsElement_b104 rec57 l0 l2 l4 l6 l7 l8 s0 S = some R → nk_K ja_Tt mi_Γ (mi_ev zs) 1 337 104 [(0, nk_r l0), (2, nk_l l2), (4, nk_l l4), (6, nk_i l6), (7, nk_i l7), (8, nk_i l8)] [nk_l s0] S R := by
  intro l0 l2 l4 l6 l7 l8 s0 S R t_l0 hr
  unfold ja_X4_putsElement_b104 at hr
  refine nk_p (i := .lstore 9) (len := 2) (pc' := 106) mJ_337 (by decide +kernel) (ns_lstore (L' := [(9, nk_l s0), (0, nk_r l0), (2, nk_l l2), (4, nk_l l4), (6, nk_i l6), (7, nk_i l7), (8, nk_i l8)]) rfl rfl (by decide +kernel)) rfl ?_
  refine nk_p (i := .lload 9) (len := 2) (pc' := 108) mJ_337 (by decide +kernel) (ns_lload 0 rfl) rfl ?_
  refine nk_p (i := .lload 4) (len := 2) (pc' := 110) mJ_337 (by decide +kernel) (ns_lload 3 rfl) rfl ?_
  refine nk_p (i := .lcmp) (len := 1) (pc' := 111) mJ_337 (by decide +kernel) ns_lcmp rfl ?_
  refine nk_lcond (c := .eq) (off := 8) (len := 3) (t := 119) (pc' := 114) mJ_337 (by decide +kernel) (by decide +kernel) rfl (fun hc => ?_) (fun hc => ?_)
  · have hr := nk_ifp (c := s0 = l4) hc hr
    refine nk_sub [1, 2, 3, 4, 5, 6, 0] (L' := [(0, nk_r l0), (2, nk_l l2), (4, nk_l l4), (6, nk_i l6), (7, nk_i l7), (8, nk_i l8), (9, nk_l s0)]) rfl ?_
    exact ja_X4_putsElement_b119_ok zs hrec57 _ _ _ _ _ _ _ _ _ t_l0 hr
  · have hr := nk_ifn (c := s0 = l4) hc hr
    refine nk_p (i := .aload_n 0) (len := 1) (pc' := 115) mJ_337 (by decide +kernel) (ns_aload_n 1 rfl rfl) rfl ?_
    refine nk_p (i := .iconst 5) (len := 1) (pc' := 116) mJ_337 (by decide +kernel) (ns_iconst (c := 5) (by decide +kernel)) rfl ?_
    obtain ⟨r1, S2, h3, hr⟩ := nk_bde hr
    refine nk_callV (ci := 4) (n := 1) (x := 335) (len := 3) (j' := 338) (q' := 0) (r := r1) (S' := S2) (L2 := [(0, nk_r l0), (1, nk_i 5)]) (rest := []) (st' := []) (pc' := 119) mJ_337 (by decide +kernel) (by decide +kernel) rfl rfl t_l0 (Nat.le_of_ble_eq_true rfl) mJ_338 (Nat.le_of_ble_eq_true rfl) rfl (ja_X4_raise_ok zs _ _ _ _ t_l0 h3) rfl ?_
    refine nk_sub [1, 2, 3, 4, 5, 6, 0] (L' := [(0, nk_r l0), (2, nk_l l2), (4, nk_l l4), (6, nk_i l6), (7, nk_i l7), (8, nk_i l8), (9, nk_l s0)]) rfl ?_
    exact ja_X4_putsElement_b119_ok zs hrec57 _ _ _ _ _ _ _ _ _ t_l0 hr
noncomputable def ja_X4_putsElement_b57 (rec57 : Nat → Int → Int → Int → Int → Int → nk_S → Option (Int × nk_S)) (l0 : Nat) (l2 : Int) (l4 : Int) (l6 : Int) (l7 : Int) (l8 : Int) (S : nk_S) : Option (Int × nk_S) :=
  if (S.1 (S.2 l0 0) 10) ≤ l8 then
    nk_bd (ja_X7_drop (ja_c l0 2) 3 S) fun r3 S4 =>
    if l7 = 0 ∨ l7 = 1 then
    some (l7, S4)
    else none
  else
    if (nk_land (nk_lushr l2 l8) 1) = 0 then
      nk_lt (nk_w (l8 + 1)) fun v7 =>
      rec57 l0 l2 l4 l6 l7 v7 S
    else
      if l6 = 0 then
        if 0 ≤ l8 ∧ l8 < 48 then
        ja_X4_putsElement_b104 rec57 l0 l2 l4 l6 l7 l8 (nk_land l4 (nk_lor (S.1 (ja_c l0 8) l8.toNat) 4611686018427387904)) S
        else none
      else
        ja_X4_putsElement_b104 rec57 l0 l2 l4 l6 l7 l8 l4 S
theorem ja_X4_putsElement_b57_ok (zs : List Int32) {rec57 : Nat → Int → Int → Int → Int → Int → nk_S → Option (Int × nk_S)} (hrec57 : ∀ (l0 : Nat) (l2 : Int) (l4 : Int) (l6 : Int) (l7 : Int) (l8 : Int) (S : nk_S) (R : Int × nk_S), nk_cl ja_Tt l0 = some 4 → rec57 l0 l2 l4 l6 l7 l8 S = some R → nk_K ja_Tt mi_Γ (mi_ev zs) 1 337 57 [(0, nk_r l0), (2, nk_l l2), (4, nk_l l4), (6, nk_i l6), (7, nk_i l7), (8, nk_i l8)] [] S R) : ∀ (l0 : Nat) (l2 : Int) (l4 : Int) (l6 : Int) (l7 : Int) (l8 : Int) (S : nk_S) (R : Int × nk_S), nk_cl ja_Tt l0 = some 4 → ja_X4_putsElement_b57 rec57 l0 l2 l4 l6 l7 l8 S = some R → nk_K ja_Tt mi_Γ (mi_ev zs) 1 337 57 [(0, nk_r l0), (2, nk_l l2), (4, nk_l l4), (6, nk_i l6), (7, nk_i l7), (8, nk_i l8)] [] S R := by
  intro l0 l2 l4 l6 l7 l8 S R t_l0 hr
  unfold ja_X4_putsElement_b57 at hr
  refine nk_p (i := .iload 8) (len := 2) (pc' := 59) mJ_337 (by decide +kernel) (ns_iload 5 rfl) rfl ?_
  refine nk_p (i := .aload_n 0) (len := 1) (pc' := 60) mJ_337 (by decide +kernel) (ns_aload_n 0 rfl rfl) rfl ?_
  refine nk_getM (cj := 3) (z := 0) (x := 42) (len := 3) (ci := 4) (k := 0) (pc' := 63) ja_okT mJ_337 (by decide +kernel) (by decide +kernel) (by decide +kernel) t_l0 rfl (fun t1 => ?_)
  refine nk_getI (y := (0, 0)) (x := 129) (len := 3) (ci := 3) (k := 10) (pc' := 66) ja_okT mJ_337 (by decide +kernel) (by decide +kernel) (by decide +kernel) t1 rfl ?_
  refine nk_icmp (c := .ge) (off := 91) (len := 3) (t := 157) (pc' := 69) mJ_337 (by decide +kernel) (by decide +kernel) rfl (fun hc => ?_) (fun hc => ?_)
  · have hr := nk_ifp (c := (S.1 (S.2 l0 0) 10) ≤ l8) hc hr
    refine nk_p (i := .aload_n 0) (len := 1) (pc' := 158) mJ_337 (by decide +kernel) (ns_aload_n 0 rfl rfl) rfl ?_
    refine nk_getC (f := (2, 7, 0)) (x := 12) (len := 3) (ci := 4) (k := 2) (pc' := 161) ja_okT mJ_337 (by decide +kernel) (by decide +kernel) (by decide +kernel) (by decide) t_l0 rfl ?_
    have t2 : nk_cl ja_Tt (ja_c l0 2) = some 7 := nk_tc (y := 0) ja_okT t_l0 (by decide +kernel)
    refine nk_p (i := .iconst 3) (len := 1) (pc' := 162) mJ_337 (by decide +kernel) (ns_iconst (c := 3) (by decide +kernel)) rfl ?_
    obtain ⟨r3, S4, h5, hr⟩ := nk_bde hr
    refine nk_callV (ci := 7) (n := 1) (x := 321) (len := 3) (j' := 401) (q' := 0) (r := r3) (S' := S4) (L2 := [(0, nk_r (ja_c l0 2)), (1, nk_i 3)]) (rest := []) (st' := []) (pc' := 165) mJ_337 (by decide +kernel) (by decide +kernel) rfl rfl t2 (Nat.le_of_ble_eq_true rfl) mJ_401 (Nat.le_of_ble_eq_true rfl) rfl (ja_X7_drop_ok zs _ _ _ _ t2 h5) rfl ?_
    refine nk_p (i := .iload 7) (len := 2) (pc' := 167) mJ_337 (by decide +kernel) (ns_iload 4 rfl) rfl ?_
    obtain ⟨h6, hr⟩ := nk_cke hr
    cases hr
    exact nk_iret (ty := .boolean) (len := 1) mJ_337 (by decide +kernel) rfl (nk_nar_z h6)
  · have hr := nk_ifn (c := (S.1 (S.2 l0 0) 10) ≤ l8) hc hr
    refine nk_p (i := .lload_n 2) (len := 1) (pc' := 70) mJ_337 (by decide +kernel) (ns_lload_n 1 rfl rfl) rfl ?_
    refine nk_p (i := .iload 8) (len := 2) (pc' := 72) mJ_337 (by decide +kernel) (ns_iload 5 rfl) rfl ?_
    refine nk_p (i := .lushr) (len := 1) (pc' := 73) mJ_337 (by decide +kernel) ns_lushr rfl ?_
    refine nk_p (i := .lconst 1) (len := 1) (pc' := 74) mJ_337 (by decide +kernel) (ns_lconst (c := 1) (by decide +kernel)) rfl ?_
    refine nk_p (i := .land) (len := 1) (pc' := 75) mJ_337 (by decide +kernel) ns_land rfl ?_
    refine nk_p (i := .lconst 0) (len := 1) (pc' := 76) mJ_337 (by decide +kernel) (ns_lconst (c := 0) (by decide +kernel)) rfl ?_
    refine nk_p (i := .lcmp) (len := 1) (pc' := 77) mJ_337 (by decide +kernel) ns_lcmp rfl ?_
    refine nk_lcond (c := .eq) (off := 74) (len := 3) (t := 151) (pc' := 80) mJ_337 (by decide +kernel) (by decide +kernel) rfl (fun hc => ?_) (fun hc => ?_)
    · have hr := nk_ifp (c := (nk_land (nk_lushr l2 l8) 1) = 0) hc hr
      obtain ⟨v7, h8, hr⟩ := nk_lte hr
      refine nk_p (i := .iinc 8 1) (len := 3) (pc' := 154) mJ_337 (by decide +kernel) (ns_iinc (c := 1) (L' := [(8, nk_i v7), (0, nk_r l0), (2, nk_l l2), (4, nk_l l4), (6, nk_i l6), (7, nk_i l7)]) 5 rfl (by decide +kernel) h8 rfl (by decide +kernel)) rfl ?_
      refine nk_p (i := .goto (-97)) (len := 3) (pc' := 57) mJ_337 (by decide +kernel) (ns_goto (by decide +kernel)) rfl ?_
      refine nk_sub [1, 2, 3, 4, 5, 0] (L' := [(0, nk_r l0), (2, nk_l l2), (4, nk_l l4), (6, nk_i l6), (7, nk_i l7), (8, nk_i v7)]) rfl ?_
      exact hrec57 _ _ _ _ _ _ _ _ t_l0 hr
    · have hr := nk_ifn (c := (nk_land (nk_lushr l2 l8) 1) = 0) hc hr
      refine nk_p (i := .iload 6) (len := 2) (pc' := 82) mJ_337 (by decide +kernel) (ns_iload 3 rfl) rfl ?_
      refine nk_icond (c := .eq) (off := 8) (len := 3) (t := 90) (pc' := 85) mJ_337 (by decide +kernel) (by decide +kernel) rfl (fun hc => ?_) (fun hc => ?_)
      · have hr := nk_ifp (c := l6 = 0) hc hr
        refine nk_p (i := .lload 4) (len := 2) (pc' := 92) mJ_337 (by decide +kernel) (ns_lload 2 rfl) rfl ?_
        refine nk_p (i := .aload_n 0) (len := 1) (pc' := 93) mJ_337 (by decide +kernel) (ns_aload_n 0 rfl rfl) rfl ?_
        refine nk_getC (f := (4, 2, 48)) (x := 39) (len := 3) (ci := 4) (k := 8) (pc' := 96) ja_okT mJ_337 (by decide +kernel) (by decide +kernel) (by decide +kernel) (by decide) t_l0 rfl ?_
        have t9 : nk_ar ja_Tt (ja_c l0 8) = some (2, 48) := nk_ta ja_okT t_l0 (by decide +kernel)
        refine nk_p (i := .iload 8) (len := 2) (pc' := 98) mJ_337 (by decide +kernel) (ns_iload 5 rfl) rfl ?_
        obtain ⟨h10, hr⟩ := nk_cke hr
        refine nk_lald (len := 1) (N := 48) (pc' := 99) mJ_337 (by decide +kernel) t9 h10.1 h10.2 rfl rfl ?_
        refine nk_ldc2 (x := 297) (len := 3) (X := 4611686018427387904) (v := 4611686018427387904) (pc' := 102) mJ_337 (by decide +kernel) (by decide +kernel) (by decide +kernel) rfl ?_
        refine nk_p (i := .lor) (len := 1) (pc' := 103) mJ_337 (by decide +kernel) ns_lor rfl ?_
        refine nk_p (i := .land) (len := 1) (pc' := 104) mJ_337 (by decide +kernel) ns_land rfl ?_
        exact ja_X4_putsElement_b104_ok zs hrec57 _ _ _ _ _ _ _ _ _ t_l0 hr
      · have hr := nk_ifn (c := l6 = 0) hc hr
        refine nk_p (i := .lload 4) (len := 2) (pc' := 87) mJ_337 (by decide +kernel) (ns_lload 2 rfl) rfl ?_
        refine nk_p (i := .goto 17) (len := 3) (pc' := 104) mJ_337 (by decide +kernel) (ns_goto (by decide +kernel)) rfl ?_
        exact ja_X4_putsElement_b104_ok zs hrec57 _ _ _ _ _ _ _ _ _ t_l0 hr
noncomputable def ja_X4_putsElement_L57 : Nat → Nat → Int → Int → Int → Int → Int → nk_S → Option (Int × nk_S)
  | 0, _, _, _, _, _, _, _ => none
  | n + 1, l0, l2, l4, l6, l7, l8, S => ja_X4_putsElement_b57 (ja_X4_putsElement_L57 n) l0 l2 l4 l6 l7 l8 S
theorem ja_X4_putsElement_L57_ok (zs : List Int32) : ∀ n : Nat, ∀ (l0 : Nat) (l2 : Int) (l4 : Int) (l6 : Int) (l7 : Int) (l8 : Int) (S : nk_S) (R : Int × nk_S), nk_cl ja_Tt l0 = some 4 → ja_X4_putsElement_L57 n l0 l2 l4 l6 l7 l8 S = some R → nk_K ja_Tt mi_Γ (mi_ev zs) 1 337 57 [(0, nk_r l0), (2, nk_l l2), (4, nk_l l4), (6, nk_i l6), (7, nk_i l7), (8, nk_i l8)] [] S R := by
  intro n
  induction n with
  | zero => intro _ _ _ _ _ _ _ _ _ hr; cases hr
  | succ n ih => intro l0 l2 l4 l6 l7 l8 S R t_l0 hr; exact ja_X4_putsElement_b57_ok zs ih l0 l2 l4 l6 l7 l8 S R t_l0 hr
noncomputable def ja_X4_putsElement_b48 (l0 : Nat) (l2 : Int) (l4 : Int) (s0 : Int) (S : nk_S) : Option (Int × nk_S) :=
  ja_X4_putsElement_L57 nk_big l0 l2 l4 s0 s0 0 S
theorem ja_X4_putsElement_b48_ok (zs : List Int32) : ∀ (l0 : Nat) (l2 : Int) (l4 : Int) (s0 : Int) (S : nk_S) (R : Int × nk_S), nk_cl ja_Tt l0 = some 4 → ja_X4_putsElement_b48 l0 l2 l4 s0 S = some R → nk_K ja_Tt mi_Γ (mi_ev zs) 1 337 48 [(0, nk_r l0), (2, nk_l l2), (4, nk_l l4)] [nk_i s0] S R := by
  intro l0 l2 l4 s0 S R t_l0 hr
  unfold ja_X4_putsElement_b48 at hr
  refine nk_p (i := .istore 6) (len := 2) (pc' := 50) mJ_337 (by decide +kernel) (ns_istore (L' := [(6, nk_i s0), (0, nk_r l0), (2, nk_l l2), (4, nk_l l4)]) rfl rfl (by decide +kernel)) rfl ?_
  refine nk_p (i := .iload 6) (len := 2) (pc' := 52) mJ_337 (by decide +kernel) (ns_iload 0 rfl) rfl ?_
  refine nk_p (i := .istore 7) (len := 2) (pc' := 54) mJ_337 (by decide +kernel) (ns_istore (L' := [(7, nk_i s0), (6, nk_i s0), (0, nk_r l0), (2, nk_l l2), (4, nk_l l4)]) rfl rfl (by decide +kernel)) rfl ?_
  refine nk_p (i := .iconst 0) (len := 1) (pc' := 55) mJ_337 (by decide +kernel) (ns_iconst (c := 0) (by decide +kernel)) rfl ?_
  refine nk_p (i := .istore 8) (len := 2) (pc' := 57) mJ_337 (by decide +kernel) (ns_istore (L' := [(8, nk_i 0), (7, nk_i s0), (6, nk_i s0), (0, nk_r l0), (2, nk_l l2), (4, nk_l l4)]) rfl rfl (by decide +kernel)) rfl ?_
  refine nk_sub [3, 4, 5, 2, 1, 0] (L' := [(0, nk_r l0), (2, nk_l l2), (4, nk_l l4), (6, nk_i s0), (7, nk_i s0), (8, nk_i 0)]) rfl ?_
  exact ja_X4_putsElement_L57_ok zs nk_big _ _ _ _ _ _ _ _ t_l0 hr
noncomputable def ja_X4_putsElement (l0 : Nat) (l1 : Int) (S : nk_S) : Option (Int × nk_S) :=
  if 0 ≤ l1 ∧ l1 < 20 then
  nk_lt (S.1 (ja_c (ja_c l0 2) 4) l1.toNat) fun v4 =>
  if 0 ≤ (nk_w (l1 + 2)) ∧ (nk_w (l1 + 2)) < 20 then
  nk_lt (S.1 (ja_c (ja_c l0 2) 4) (nk_w (l1 + 2)).toNat) fun v7 =>
  if (nk_land (S.1 (ja_c (ja_c l0 2) 5) (nk_w (l1 + 2)).toNat) 4503599627370496) = 0 then
    ja_X4_putsElement_b48 l0 v4 v7 0 S
  else
    ja_X4_putsElement_b48 l0 v4 v7 1 S
  else none
  else none
theorem ja_X4_putsElement_ok (zs : List Int32) : ∀ (l0 : Nat) (l1 : Int) (S : nk_S) (R : Int × nk_S), nk_cl ja_Tt l0 = some 4 → ja_X4_putsElement l0 l1 S = some R → nk_K ja_Tt mi_Γ (mi_ev zs) 1 337 0 [(0, nk_r l0), (1, nk_i l1)] [] S R := by
  intro l0 l1 S R t_l0 hr
  unfold ja_X4_putsElement at hr
  refine nk_p (i := .aload_n 0) (len := 1) (pc' := 1) mJ_337 (by decide +kernel) (ns_aload_n 0 rfl rfl) rfl ?_
  refine nk_getC (f := (2, 7, 0)) (x := 12) (len := 3) (ci := 4) (k := 2) (pc' := 4) ja_okT mJ_337 (by decide +kernel) (by decide +kernel) (by decide +kernel) (by decide) t_l0 rfl ?_
  have t1 : nk_cl ja_Tt (ja_c l0 2) = some 7 := nk_tc (y := 0) ja_okT t_l0 (by decide +kernel)
  refine nk_getC (f := (4, 2, 20)) (x := 299) (len := 3) (ci := 7) (k := 4) (pc' := 7) ja_okT mJ_337 (by decide +kernel) (by decide +kernel) (by decide +kernel) (by decide) t1 rfl ?_
  have t2 : nk_ar ja_Tt (ja_c (ja_c l0 2) 4) = some (2, 20) := nk_ta ja_okT t1 (by decide +kernel)
  refine nk_p (i := .iload_n 1) (len := 1) (pc' := 8) mJ_337 (by decide +kernel) (ns_iload_n 1 rfl rfl) rfl ?_
  obtain ⟨h3, hr⟩ := nk_cke hr
  refine nk_lald (len := 1) (N := 20) (pc' := 9) mJ_337 (by decide +kernel) t2 h3.1 h3.2 rfl rfl ?_
  obtain ⟨v4, h5, hr⟩ := nk_lte hr
  refine nk_p (i := .lstore_n 2) (len := 1) (pc' := 10) mJ_337 (by decide +kernel) (ns_lstore_n (L' := [(2, nk_l v4), (0, nk_r l0), (1, nk_i l1)]) h5 rfl rfl (by decide +kernel)) rfl ?_
  refine nk_p (i := .aload_n 0) (len := 1) (pc' := 11) mJ_337 (by decide +kernel) (ns_aload_n 1 rfl rfl) rfl ?_
  refine nk_getC (f := (2, 7, 0)) (x := 12) (len := 3) (ci := 4) (k := 2) (pc' := 14) ja_okT mJ_337 (by decide +kernel) (by decide +kernel) (by decide +kernel) (by decide) t_l0 rfl ?_
  refine nk_getC (f := (4, 2, 20)) (x := 299) (len := 3) (ci := 7) (k := 4) (pc' := 17) ja_okT mJ_337 (by decide +kernel) (by decide +kernel) (by decide +kernel) (by decide) t1 rfl ?_
  refine nk_p (i := .iload_n 1) (len := 1) (pc' := 18) mJ_337 (by decide +kernel) (ns_iload_n 2 rfl rfl) rfl ?_
  refine nk_p (i := .iconst 2) (len := 1) (pc' := 19) mJ_337 (by decide +kernel) (ns_iconst (c := 2) (by decide +kernel)) rfl ?_
  refine nk_p (i := .iadd) (len := 1) (pc' := 20) mJ_337 (by decide +kernel) ns_iadd rfl ?_
  obtain ⟨h6, hr⟩ := nk_cke hr
  refine nk_lald (len := 1) (N := 20) (pc' := 21) mJ_337 (by decide +kernel) t2 h6.1 h6.2 rfl rfl ?_
  obtain ⟨v7, h8, hr⟩ := nk_lte hr
  refine nk_p (i := .lstore 4) (len := 2) (pc' := 23) mJ_337 (by decide +kernel) (ns_lstore (L' := [(4, nk_l v7), (2, nk_l v4), (0, nk_r l0), (1, nk_i l1)]) h8 rfl (by decide +kernel)) rfl ?_
  refine nk_p (i := .aload_n 0) (len := 1) (pc' := 24) mJ_337 (by decide +kernel) (ns_aload_n 2 rfl rfl) rfl ?_
  refine nk_getC (f := (2, 7, 0)) (x := 12) (len := 3) (ci := 4) (k := 2) (pc' := 27) ja_okT mJ_337 (by decide +kernel) (by decide +kernel) (by decide +kernel) (by decide) t_l0 rfl ?_
  refine nk_getC (f := (4, 2, 20)) (x := 302) (len := 3) (ci := 7) (k := 5) (pc' := 30) ja_okT mJ_337 (by decide +kernel) (by decide +kernel) (by decide +kernel) (by decide) t1 rfl ?_
  have t9 : nk_ar ja_Tt (ja_c (ja_c l0 2) 5) = some (2, 20) := nk_ta ja_okT t1 (by decide +kernel)
  refine nk_p (i := .iload_n 1) (len := 1) (pc' := 31) mJ_337 (by decide +kernel) (ns_iload_n 3 rfl rfl) rfl ?_
  refine nk_p (i := .iconst 2) (len := 1) (pc' := 32) mJ_337 (by decide +kernel) (ns_iconst (c := 2) (by decide +kernel)) rfl ?_
  refine nk_p (i := .iadd) (len := 1) (pc' := 33) mJ_337 (by decide +kernel) ns_iadd rfl ?_
  refine nk_lald (len := 1) (N := 20) (pc' := 34) mJ_337 (by decide +kernel) t9 h6.1 h6.2 rfl rfl ?_
  refine nk_ldc2 (x := 256) (len := 3) (X := 4503599627370496) (v := 4503599627370496) (pc' := 37) mJ_337 (by decide +kernel) (by decide +kernel) (by decide +kernel) rfl ?_
  refine nk_p (i := .land) (len := 1) (pc' := 38) mJ_337 (by decide +kernel) ns_land rfl ?_
  refine nk_p (i := .lconst 0) (len := 1) (pc' := 39) mJ_337 (by decide +kernel) (ns_lconst (c := 0) (by decide +kernel)) rfl ?_
  refine nk_p (i := .lcmp) (len := 1) (pc' := 40) mJ_337 (by decide +kernel) ns_lcmp rfl ?_
  refine nk_lcond (c := .eq) (off := 7) (len := 3) (t := 47) (pc' := 43) mJ_337 (by decide +kernel) (by decide +kernel) rfl (fun hc => ?_) (fun hc => ?_)
  · have hr := nk_ifp (c := (nk_land (S.1 (ja_c (ja_c l0 2) 5) (nk_w (l1 + 2)).toNat) 4503599627370496) = 0) hc hr
    refine nk_p (i := .iconst 0) (len := 1) (pc' := 48) mJ_337 (by decide +kernel) (ns_iconst (c := 0) (by decide +kernel)) rfl ?_
    refine nk_sub [2, 1, 0] (L' := [(0, nk_r l0), (2, nk_l v4), (4, nk_l v7)]) rfl ?_
    exact ja_X4_putsElement_b48_ok zs _ _ _ _ _ _ t_l0 hr
  · have hr := nk_ifn (c := (nk_land (S.1 (ja_c (ja_c l0 2) 5) (nk_w (l1 + 2)).toNat) 4503599627370496) = 0) hc hr
    refine nk_p (i := .iconst 1) (len := 1) (pc' := 44) mJ_337 (by decide +kernel) (ns_iconst (c := 1) (by decide +kernel)) rfl ?_
    refine nk_p (i := .goto 4) (len := 3) (pc' := 48) mJ_337 (by decide +kernel) (ns_goto (by decide +kernel)) rfl ?_
    refine nk_sub [2, 1, 0] (L' := [(0, nk_r l0), (2, nk_l v4), (4, nk_l v7)]) rfl ?_
    exact ja_X4_putsElement_b48_ok zs _ _ _ _ _ _ t_l0 hr
