/-! SafeCode$Machine nextInput ()I -/
noncomputable def ja_X2_nextInput_b25 (l0 : Nat) (s0 : Int) (S : nk_S) : Option (Int × nk_S) :=
  nk_lt (nk_wi S l0 11 (nk_w ((S.1 l0 11) + 1))) fun S1 =>
  some (s0, S1)
theorem ja_X2_nextInput_b25_ok (zs : List Int32) : ∀ (l0 : Nat) (s0 : Int) (S : nk_S) (R : Int × nk_S), nk_cl ja_Tt l0 = some 2 → ja_X2_nextInput_b25 l0 s0 S = some R → nk_K ja_Tt mi_Γ (mi_ev zs) 1 285 25 [(0, nk_r l0)] [nk_i s0] S R := by
  intro l0 s0 S R t_l0 hr
  unfold ja_X2_nextInput_b25 at hr
  refine nk_p (i := .istore_n 1) (len := 1) (pc' := 26) mJ_285 (by decide +kernel) (ns_istore_n (L' := [(1, nk_i s0), (0, nk_r l0)]) rfl rfl rfl (by decide +kernel)) rfl ?_
  refine nk_p (i := .aload_n 0) (len := 1) (pc' := 27) mJ_285 (by decide +kernel) (ns_aload_n 1 rfl rfl) rfl ?_
  refine nk_p (i := .dup) (len := 1) (pc' := 28) mJ_285 (by decide +kernel) (ns_dup rfl) rfl ?_
  refine nk_getI (y := (0, 0)) (x := 58) (len := 3) (ci := 2) (k := 11) (pc' := 31) ja_okT mJ_285 (by decide +kernel) (by decide +kernel) (by decide +kernel) t_l0 rfl ?_
  refine nk_p (i := .iconst 1) (len := 1) (pc' := 32) mJ_285 (by decide +kernel) (ns_iconst (c := 1) (by decide +kernel)) rfl ?_
  refine nk_p (i := .iadd) (len := 1) (pc' := 33) mJ_285 (by decide +kernel) ns_iadd rfl ?_
  obtain ⟨S1, h2, hr⟩ := nk_lte hr
  refine nk_putI (y := (0, 0)) (ty := .int) (x := 58) (len := 3) (ci := 2) (k := 11) (pc' := 36) ja_okT mJ_285 (by decide +kernel) (by decide +kernel) (by decide +kernel) t_l0 (Or.inl rfl) rfl h2 ?_
  refine nk_p (i := .iload_n 1) (len := 1) (pc' := 37) mJ_285 (by decide +kernel) (ns_iload_n 0 rfl rfl) rfl ?_
  cases hr
  exact nk_iret (ty := .int) (len := 1) mJ_285 (by decide +kernel) rfl (nk_nar_i _)
noncomputable def ja_X2_nextInput (l0 : Nat) (S : nk_S) : Option (Int × nk_S) :=
  if 256 ≤ (S.1 l0 11) then
    ja_X2_nextInput_b25 l0 0 S
  else
    if 0 ≤ (S.1 l0 11) ∧ (S.1 l0 11) < 256 then
    ja_X2_nextInput_b25 l0 (S.1 (ja_c l0 10) (S.1 l0 11).toNat) S
    else none
theorem ja_X2_nextInput_ok (zs : List Int32) : ∀ (l0 : Nat) (S : nk_S) (R : Int × nk_S), nk_cl ja_Tt l0 = some 2 → ja_X2_nextInput l0 S = some R → nk_K ja_Tt mi_Γ (mi_ev zs) 1 285 0 [(0, nk_r l0)] [] S R := by
  intro l0 S R t_l0 hr
  unfold ja_X2_nextInput at hr
  refine nk_p (i := .aload_n 0) (len := 1) (pc' := 1) mJ_285 (by decide +kernel) (ns_aload_n 0 rfl rfl) rfl ?_
  refine nk_getI (y := (0, 0)) (x := 58) (len := 3) (ci := 2) (k := 11) (pc' := 4) ja_okT mJ_285 (by decide +kernel) (by decide +kernel) (by decide +kernel) t_l0 rfl ?_
  refine nk_p (i := .aload_n 0) (len := 1) (pc' := 5) mJ_285 (by decide +kernel) (ns_aload_n 0 rfl rfl) rfl ?_
  refine nk_getC (f := (4, 1, 256)) (x := 49) (len := 3) (ci := 2) (k := 10) (pc' := 8) ja_okT mJ_285 (by decide +kernel) (by decide +kernel) (by decide +kernel) (by decide) t_l0 rfl ?_
  have t1 : nk_ar ja_Tt (ja_c l0 10) = some (1, 256) := nk_ta ja_okT t_l0 (by decide +kernel)
  refine nk_alen (len := 1) (N := 256) (pc' := 9) mJ_285 (by decide +kernel) t1 rfl rfl ?_
  refine nk_icmp (c := .ge) (off := 15) (len := 3) (t := 24) (pc' := 12) mJ_285 (by decide +kernel) (by decide +kernel) rfl (fun hc => ?_) (fun hc => ?_)
  · have hr := nk_ifp (c := 256 ≤ (S.1 l0 11)) hc hr
    refine nk_p (i := .iconst 0) (len := 1) (pc' := 25) mJ_285 (by decide +kernel) (ns_iconst (c := 0) (by decide +kernel)) rfl ?_
    exact ja_X2_nextInput_b25_ok zs _ _ _ _ t_l0 hr
  · have hr := nk_ifn (c := 256 ≤ (S.1 l0 11)) hc hr
    refine nk_p (i := .aload_n 0) (len := 1) (pc' := 13) mJ_285 (by decide +kernel) (ns_aload_n 0 rfl rfl) rfl ?_
    refine nk_getC (f := (4, 1, 256)) (x := 49) (len := 3) (ci := 2) (k := 10) (pc' := 16) ja_okT mJ_285 (by decide +kernel) (by decide +kernel) (by decide +kernel) (by decide) t_l0 rfl ?_
    refine nk_p (i := .aload_n 0) (len := 1) (pc' := 17) mJ_285 (by decide +kernel) (ns_aload_n 0 rfl rfl) rfl ?_
    refine nk_getI (y := (0, 0)) (x := 58) (len := 3) (ci := 2) (k := 11) (pc' := 20) ja_okT mJ_285 (by decide +kernel) (by decide +kernel) (by decide +kernel) t_l0 rfl ?_
    obtain ⟨h2, hr⟩ := nk_cke hr
    refine nk_iald (len := 1) (N := 256) (pc' := 21) mJ_285 (by decide +kernel) t1 h2.1 h2.2 rfl rfl ?_
    refine nk_p (i := .goto 4) (len := 3) (pc' := 25) mJ_285 (by decide +kernel) (ns_goto (by decide +kernel)) rfl ?_
    exact ja_X2_nextInput_b25_ok zs _ _ _ _ t_l0 hr
/-! SafeCode$Machine write ()I -/
noncomputable def ja_X2_write_b24 (l0 : Nat) (S : nk_S) : Option (Int × nk_S) :=
  nk_lt (nk_wi S l0 17 (nk_w ((S.1 l0 17) + 1))) fun S1 =>
  nk_bd (ja_X2_drop l0 1 S1) fun r3 S4 =>
  nk_bd (ja_X2_next l0 S4) fun r6 S7 =>
  some (r6, S7)
theorem ja_X2_write_b24_ok (zs : List Int32) : ∀ (l0 : Nat) (S : nk_S) (R : Int × nk_S), nk_cl ja_Tt l0 = some 2 → ja_X2_write_b24 l0 S = some R → nk_K ja_Tt mi_Γ (mi_ev zs) 1 296 24 [(0, nk_r l0)] [] S R := by
  intro l0 S R t_l0 hr
  unfold ja_X2_write_b24 at hr
  refine nk_p (i := .aload_n 0) (len := 1) (pc' := 25) mJ_296 (by decide +kernel) (ns_aload_n 0 rfl rfl) rfl ?_
  refine nk_p (i := .dup) (len := 1) (pc' := 26) mJ_296 (by decide +kernel) (ns_dup rfl) rfl ?_
  refine nk_getI (y := (0, 0)) (x := 67) (len := 3) (ci := 2) (k := 17) (pc' := 29) ja_okT mJ_296 (by decide +kernel) (by decide +kernel) (by decide +kernel) t_l0 rfl ?_
  refine nk_p (i := .iconst 1) (len := 1) (pc' := 30) mJ_296 (by decide +kernel) (ns_iconst (c := 1) (by decide +kernel)) rfl ?_
  refine nk_p (i := .iadd) (len := 1) (pc' := 31) mJ_296 (by decide +kernel) ns_iadd rfl ?_
  obtain ⟨S1, h2, hr⟩ := nk_lte hr
  refine nk_putI (y := (0, 0)) (ty := .int) (x := 67) (len := 3) (ci := 2) (k := 17) (pc' := 34) ja_okT mJ_296 (by decide +kernel) (by decide +kernel) (by decide +kernel) t_l0 (Or.inl rfl) rfl h2 ?_
  refine nk_p (i := .aload_n 0) (len := 1) (pc' := 35) mJ_296 (by decide +kernel) (ns_aload_n 0 rfl rfl) rfl ?_
  refine nk_p (i := .iconst 1) (len := 1) (pc' := 36) mJ_296 (by decide +kernel) (ns_iconst (c := 1) (by decide +kernel)) rfl ?_
  obtain ⟨r3, S4, h5, hr⟩ := nk_bde hr
  refine nk_callV (ci := 2) (n := 1) (x := 186) (len := 3) (j' := 266) (q' := 0) (r := r3) (S' := S4) (L2 := [(0, nk_r l0), (1, nk_i 1)]) (rest := []) (st' := []) (pc' := 39) mJ_296 (by decide +kernel) (by decide +kernel) rfl rfl t_l0 (Nat.le_of_ble_eq_true rfl) mJ_266 (Nat.le_of_ble_eq_true rfl) rfl (ja_X2_drop_ok zs _ _ _ _ t_l0 h5) rfl ?_
  refine nk_p (i := .aload_n 0) (len := 1) (pc' := 40) mJ_296 (by decide +kernel) (ns_aload_n 0 rfl rfl) rfl ?_
  obtain ⟨r6, S7, h8, hr⟩ := nk_bde hr
  refine nk_callV (ci := 2) (n := 0) (x := 193) (len := 3) (j' := 284) (q' := 1) (r := r6) (S' := S7) (L2 := [(0, nk_r l0)]) (rest := []) (st' := [nk_i r6]) (pc' := 43) mJ_296 (by decide +kernel) (by decide +kernel) rfl rfl t_l0 (Nat.le_of_ble_eq_true rfl) mJ_284 (Nat.le_of_ble_eq_true rfl) rfl (ja_X2_next_ok zs _ _ _ t_l0 h8) rfl ?_
  cases hr
  exact nk_iret (ty := .int) (len := 1) mJ_296 (by decide +kernel) rfl (nk_nar_i _)
noncomputable def ja_X2_write (l0 : Nat) (S : nk_S) : Option (Int × nk_S) :=
  if 256 ≤ (S.1 l0 17) then
    ja_X2_write_b24 l0 S
  else
    nk_bd (ja_X2_numberAt l0 0 S) fun r2 S3 =>
    if 0 ≤ (S.1 l0 17) ∧ (S.1 l0 17) < 256 then
    nk_lt (nk_wi S3 (ja_c l0 18) (S.1 l0 17).toNat r2) fun S6 =>
    ja_X2_write_b24 l0 S6
    else none
theorem ja_X2_write_ok (zs : List Int32) : ∀ (l0 : Nat) (S : nk_S) (R : Int × nk_S), nk_cl ja_Tt l0 = some 2 → ja_X2_write l0 S = some R → nk_K ja_Tt mi_Γ (mi_ev zs) 1 296 0 [(0, nk_r l0)] [] S R := by
  intro l0 S R t_l0 hr
  unfold ja_X2_write at hr
  refine nk_p (i := .aload_n 0) (len := 1) (pc' := 1) mJ_296 (by decide +kernel) (ns_aload_n 0 rfl rfl) rfl ?_
  refine nk_getI (y := (0, 0)) (x := 67) (len := 3) (ci := 2) (k := 17) (pc' := 4) ja_okT mJ_296 (by decide +kernel) (by decide +kernel) (by decide +kernel) t_l0 rfl ?_
  refine nk_p (i := .sipush 256) (len := 3) (pc' := 7) mJ_296 (by decide +kernel) (ns_sipush (c := 256) (by decide +kernel)) rfl ?_
  refine nk_icmp (c := .ge) (off := 17) (len := 3) (t := 24) (pc' := 10) mJ_296 (by decide +kernel) (by decide +kernel) rfl (fun hc => ?_) (fun hc => ?_)
  · have hr := nk_ifp (c := 256 ≤ (S.1 l0 17)) hc hr
    exact ja_X2_write_b24_ok zs _ _ _ t_l0 hr
  · have hr := nk_ifn (c := 256 ≤ (S.1 l0 17)) hc hr
    refine nk_p (i := .aload_n 0) (len := 1) (pc' := 11) mJ_296 (by decide +kernel) (ns_aload_n 0 rfl rfl) rfl ?_
    refine nk_getC (f := (4, 1, 256)) (x := 38) (len := 3) (ci := 2) (k := 18) (pc' := 14) ja_okT mJ_296 (by decide +kernel) (by decide +kernel) (by decide +kernel) (by decide) t_l0 rfl ?_
    have t1 : nk_ar ja_Tt (ja_c l0 18) = some (1, 256) := nk_ta ja_okT t_l0 (by decide +kernel)
    refine nk_p (i := .aload_n 0) (len := 1) (pc' := 15) mJ_296 (by decide +kernel) (ns_aload_n 0 rfl rfl) rfl ?_
    refine nk_getI (y := (0, 0)) (x := 67) (len := 3) (ci := 2) (k := 17) (pc' := 18) ja_okT mJ_296 (by decide +kernel) (by decide +kernel) (by decide +kernel) t_l0 rfl ?_
    refine nk_p (i := .aload_n 0) (len := 1) (pc' := 19) mJ_296 (by decide +kernel) (ns_aload_n 0 rfl rfl) rfl ?_
    refine nk_p (i := .iconst 0) (len := 1) (pc' := 20) mJ_296 (by decide +kernel) (ns_iconst (c := 0) (by decide +kernel)) rfl ?_
    obtain ⟨r2, S3, h4, hr⟩ := nk_bde hr
    refine nk_callV (ci := 2) (n := 1) (x := 138) (len := 3) (j' := 286) (q' := 1) (r := r2) (S' := S3) (L2 := [(0, nk_r l0), (1, nk_i 0)]) (rest := [nk_i (S.1 l0 17), nk_r (ja_c l0 18)]) (st' := [nk_i r2, nk_i (S.1 l0 17), nk_r (ja_c l0 18)]) (pc' := 23) mJ_296 (by decide +kernel) (by decide +kernel) rfl rfl t_l0 (Nat.le_of_ble_eq_true rfl) mJ_286 (Nat.le_of_ble_eq_true rfl) rfl (ja_X2_numberAt_ok zs _ _ _ _ t_l0 h4) rfl ?_
    obtain ⟨h5, hr⟩ := nk_cke hr
    obtain ⟨S6, h7, hr⟩ := nk_lte hr
    refine nk_iast (len := 1) (N := 256) (pc' := 24) mJ_296 (by decide +kernel) t1 h5.1 h5.2 rfl rfl h7 ?_
    exact ja_X2_write_b24_ok zs _ _ _ t_l0 hr
/-! SafeCode$Machine perform (I)I -/
noncomputable def ja_X2_perform_b215 (l0 : Nat) (l1 : Int) (l2 : Int) (S : nk_S) : Option (Int × nk_S) :=
  nk_bd (ja_X2_useElement l0 l1 l2 S) fun r1 S2 =>
  some (r1, S2)
theorem ja_X2_perform_b215_ok (zs : List Int32) : ∀ (l0 : Nat) (l1 : Int) (l2 : Int) (S : nk_S) (R : Int × nk_S), nk_cl ja_Tt l0 = some 2 → ja_X2_perform_b215 l0 l1 l2 S = some R → nk_K ja_Tt mi_Γ (mi_ev zs) 1 287 215 [(0, nk_r l0), (1, nk_i l1), (2, nk_i l2)] [] S R := by
  intro l0 l1 l2 S R t_l0 hr
  unfold ja_X2_perform_b215 at hr
  refine nk_p (i := .aload_n 0) (len := 1) (pc' := 216) mJ_287 (by decide +kernel) (ns_aload_n 0 rfl rfl) rfl ?_
  refine nk_p (i := .iload_n 1) (len := 1) (pc' := 217) mJ_287 (by decide +kernel) (ns_iload_n 1 rfl rfl) rfl ?_
  refine nk_p (i := .iload_n 2) (len := 1) (pc' := 218) mJ_287 (by decide +kernel) (ns_iload_n 2 rfl rfl) rfl ?_
  obtain ⟨r1, S2, h3, hr⟩ := nk_bde hr
  refine nk_callV (ci := 2) (n := 2) (x := 155) (len := 3) (j' := 293) (q' := 1) (r := r1) (S' := S2) (L2 := [(0, nk_r l0), (1, nk_i l1), (2, nk_i l2)]) (rest := []) (st' := [nk_i r1]) (pc' := 221) mJ_287 (by decide +kernel) (by decide +kernel) rfl rfl t_l0 (Nat.le_of_ble_eq_true rfl) mJ_293 (Nat.le_of_ble_eq_true rfl) rfl (ja_X2_useElement_ok zs _ _ _ _ _ t_l0 h3) rfl ?_
  cases hr
  exact nk_iret (ty := .int) (len := 1) mJ_287 (by decide +kernel) rfl (nk_nar_i _)
noncomputable def ja_X2_perform_b222 (l0 : Nat) (l1 : Int) (l2 : Int) (S : nk_S) : Option (Int × nk_S) :=
  nk_bd (ja_X2_useField l0 l1 l2 S) fun r1 S2 =>
  some (r1, S2)
theorem ja_X2_perform_b222_ok (zs : List Int32) : ∀ (l0 : Nat) (l1 : Int) (l2 : Int) (S : nk_S) (R : Int × nk_S), nk_cl ja_Tt l0 = some 2 → ja_X2_perform_b222 l0 l1 l2 S = some R → nk_K ja_Tt mi_Γ (mi_ev zs) 1 287 222 [(0, nk_r l0), (1, nk_i l1), (2, nk_i l2)] [] S R := by
  intro l0 l1 l2 S R t_l0 hr
  unfold ja_X2_perform_b222 at hr
  refine nk_p (i := .aload_n 0) (len := 1) (pc' := 223) mJ_287 (by decide +kernel) (ns_aload_n 0 rfl rfl) rfl ?_
  refine nk_p (i := .iload_n 1) (len := 1) (pc' := 224) mJ_287 (by decide +kernel) (ns_iload_n 1 rfl rfl) rfl ?_
  refine nk_p (i := .iload_n 2) (len := 1) (pc' := 225) mJ_287 (by decide +kernel) (ns_iload_n 2 rfl rfl) rfl ?_
  obtain ⟨r1, S2, h3, hr⟩ := nk_bde hr
  refine nk_callV (ci := 2) (n := 2) (x := 158) (len := 3) (j' := 294) (q' := 1) (r := r1) (S' := S2) (L2 := [(0, nk_r l0), (1, nk_i l1), (2, nk_i l2)]) (rest := []) (st' := [nk_i r1]) (pc' := 228) mJ_287 (by decide +kernel) (by decide +kernel) rfl rfl t_l0 (Nat.le_of_ble_eq_true rfl) mJ_294 (Nat.le_of_ble_eq_true rfl) rfl (ja_X2_useField_ok zs _ _ _ _ _ t_l0 h3) rfl ?_
  cases hr
  exact nk_iret (ty := .int) (len := 1) mJ_287 (by decide +kernel) rfl (nk_nar_i _)
noncomputable def ja_X2_perform_b229 (l0 : Nat) (l1 : Int) (l2 : Int) (S : nk_S) : Option (Int × nk_S) :=
  nk_bd (ja_X2_useType l0 l1 l2 S) fun r1 S2 =>
  some (r1, S2)
theorem ja_X2_perform_b229_ok (zs : List Int32) : ∀ (l0 : Nat) (l1 : Int) (l2 : Int) (S : nk_S) (R : Int × nk_S), nk_cl ja_Tt l0 = some 2 → ja_X2_perform_b229 l0 l1 l2 S = some R → nk_K ja_Tt mi_Γ (mi_ev zs) 1 287 229 [(0, nk_r l0), (1, nk_i l1), (2, nk_i l2)] [] S R := by
  intro l0 l1 l2 S R t_l0 hr
  unfold ja_X2_perform_b229 at hr
  refine nk_p (i := .aload_n 0) (len := 1) (pc' := 230) mJ_287 (by decide +kernel) (ns_aload_n 0 rfl rfl) rfl ?_
  refine nk_p (i := .iload_n 1) (len := 1) (pc' := 231) mJ_287 (by decide +kernel) (ns_iload_n 1 rfl rfl) rfl ?_
  refine nk_p (i := .iload_n 2) (len := 1) (pc' := 232) mJ_287 (by decide +kernel) (ns_iload_n 2 rfl rfl) rfl ?_
  obtain ⟨r1, S2, h3, hr⟩ := nk_bde hr
  refine nk_callV (ci := 2) (n := 2) (x := 161) (len := 3) (j' := 295) (q' := 1) (r := r1) (S' := S2) (L2 := [(0, nk_r l0), (1, nk_i l1), (2, nk_i l2)]) (rest := []) (st' := [nk_i r1]) (pc' := 235) mJ_287 (by decide +kernel) (by decide +kernel) rfl rfl t_l0 (Nat.le_of_ble_eq_true rfl) mJ_295 (Nat.le_of_ble_eq_true rfl) rfl (ja_X2_useType_ok zs _ _ _ _ _ t_l0 h3) rfl ?_
  cases hr
  exact nk_iret (ty := .int) (len := 1) mJ_287 (by decide +kernel) rfl (nk_nar_i _)
noncomputable def ja_X2_perform_b236 (l0 : Nat) (l1 : Int) (l2 : Int) (S : nk_S) : Option (Int × nk_S) :=
  nk_bd (ja_X2_enterBody l0 l1 l2 S) fun r1 S2 =>
  some (r1, S2)
theorem ja_X2_perform_b236_ok (zs : List Int32) : ∀ (l0 : Nat) (l1 : Int) (l2 : Int) (S : nk_S) (R : Int × nk_S), nk_cl ja_Tt l0 = some 2 → ja_X2_perform_b236 l0 l1 l2 S = some R → nk_K ja_Tt mi_Γ (mi_ev zs) 1 287 236 [(0, nk_r l0), (1, nk_i l1), (2, nk_i l2)] [] S R := by
  intro l0 l1 l2 S R t_l0 hr
  unfold ja_X2_perform_b236 at hr
  refine nk_p (i := .aload_n 0) (len := 1) (pc' := 237) mJ_287 (by decide +kernel) (ns_aload_n 0 rfl rfl) rfl ?_
  refine nk_p (i := .iload_n 1) (len := 1) (pc' := 238) mJ_287 (by decide +kernel) (ns_iload_n 1 rfl rfl) rfl ?_
  refine nk_p (i := .iload_n 2) (len := 1) (pc' := 239) mJ_287 (by decide +kernel) (ns_iload_n 2 rfl rfl) rfl ?_
  obtain ⟨r1, S2, h3, hr⟩ := nk_bde hr
  refine nk_callV (ci := 2) (n := 2) (x := 164) (len := 3) (j' := 267) (q' := 1) (r := r1) (S' := S2) (L2 := [(0, nk_r l0), (1, nk_i l1), (2, nk_i l2)]) (rest := []) (st' := [nk_i r1]) (pc' := 242) mJ_287 (by decide +kernel) (by decide +kernel) rfl rfl t_l0 (Nat.le_of_ble_eq_true rfl) mJ_267 (Nat.le_of_ble_eq_true rfl) rfl (ja_X2_enterBody_ok zs _ _ _ _ _ t_l0 h3) rfl ?_
  cases hr
  exact nk_iret (ty := .int) (len := 1) mJ_287 (by decide +kernel) rfl (nk_nar_i _)
noncomputable def ja_X2_perform_b266 (l0 : Nat) (l1 : Int) (l2 : Int) (S : nk_S) : Option (Int × nk_S) :=
  nk_bd (ja_X2_leaveBody l0 l1 l2 S) fun r1 S2 =>
  some (r1, S2)
theorem ja_X2_perform_b266_ok (zs : List Int32) : ∀ (l0 : Nat) (l1 : Int) (l2 : Int) (S : nk_S) (R : Int × nk_S), nk_cl ja_Tt l0 = some 2 → ja_X2_perform_b266 l0 l1 l2 S = some R → nk_K ja_Tt mi_Γ (mi_ev zs) 1 287 266 [(0, nk_r l0), (1, nk_i l1), (2, nk_i l2)] [] S R := by
  intro l0 l1 l2 S R t_l0 hr
  unfold ja_X2_perform_b266 at hr
  refine nk_p (i := .aload_n 0) (len := 1) (pc' := 267) mJ_287 (by decide +kernel) (ns_aload_n 0 rfl rfl) rfl ?_
  refine nk_p (i := .iload_n 1) (len := 1) (pc' := 268) mJ_287 (by decide +kernel) (ns_iload_n 1 rfl rfl) rfl ?_
  refine nk_p (i := .iload_n 2) (len := 1) (pc' := 269) mJ_287 (by decide +kernel) (ns_iload_n 2 rfl rfl) rfl ?_
  obtain ⟨r1, S2, h3, hr⟩ := nk_bde hr
  refine nk_callV (ci := 2) (n := 2) (x := 167) (len := 3) (j' := 279) (q' := 1) (r := r1) (S' := S2) (L2 := [(0, nk_r l0), (1, nk_i l1), (2, nk_i l2)]) (rest := []) (st' := [nk_i r1]) (pc' := 272) mJ_287 (by decide +kernel) (by decide +kernel) rfl rfl t_l0 (Nat.le_of_ble_eq_true rfl) mJ_279 (Nat.le_of_ble_eq_true rfl) rfl (ja_X2_leaveBody_ok zs _ _ _ _ _ t_l0 h3) rfl ?_
  cases hr
  exact nk_iret (ty := .int) (len := 1) mJ_287 (by decide +kernel) rfl (nk_nar_i _)
noncomputable def ja_X2_perform_b49 (l0 : Nat) (l1 : Int) (l2 : Int) (S : nk_S) : Option (Int × nk_S) :=
  if l2 = 30 then
    if 0 ≤ l1 ∧ l1 < 1024 then
    if 0 ≤ (S.1 (ja_c (S.2 l0 1) 5) l1.toNat) ∧ (S.1 (ja_c (S.2 l0 1) 5) l1.toNat) < 32 then
    nk_bd (ja_X2_makeObject l0 l1 (S.1 (ja_c (ja_c (S.2 l0 1) 0) 3) (S.1 (ja_c (S.2 l0 1) 5) l1.toNat).toNat) 0 S) fun r8 S9 =>
    some (r8, S9)
    else none
    else none
  else
  if l2 = 31 then
    nk_bd (ja_X2_numberAt l0 0 S) fun r11 S12 =>
    if 0 ≤ r11 then
      nk_bd (ja_X2_numberAt l0 0 S12) fun r14 S15 =>
      nk_bd (ja_X2_makeObject l0 l1 r14 1 S15) fun r17 S18 =>
      some (r17, S18)
    else
      nk_bd (ja_X2_raise l0 l1 2 S12) fun r20 S21 =>
      some (r20, S21)
  else
  if l2 = 32 then
    nk_bd (ja_X2_numberAt l0 0 S) fun r23 S24 =>
    if r23 = 0 then
      nk_bd (ja_X2_raise l0 l1 0 S24) fun r38 S39 =>
      some (r38, S39)
    else
      nk_bd (ja_X2_numberAt l0 0 S24) fun r26 S27 =>
      nk_bd (ja_X2_extentOf l0 r26 S27) fun r29 S30 =>
      nk_bd (ja_X2_intCell r29 S30) fun r32 S33 =>
      nk_bd (ja_X2_leave l0 1 r32 S33) fun r35 S36 =>
      some (r35, S36)
  else
  if l2 = 33 then
    ja_X2_perform_b215 l0 l1 l2 S
  else
  if l2 = 34 then
    ja_X2_perform_b215 l0 l1 l2 S
  else
  if l2 = 35 then
    ja_X2_perform_b222 l0 l1 l2 S
  else
  if l2 = 36 then
    ja_X2_perform_b222 l0 l1 l2 S
  else
  if l2 = 37 then
    ja_X2_perform_b229 l0 l1 l2 S
  else
  if l2 = 38 then
    ja_X2_perform_b229 l0 l1 l2 S
  else
  if l2 = 39 then
    ja_X2_perform_b236 l0 l1 l2 S
  else
  if l2 = 40 then
    ja_X2_perform_b236 l0 l1 l2 S
  else
  if l2 = 41 then
    nk_bd (ja_X2_numberAt l0 0 S) fun r41 S42 =>
    if r41 = 0 then
      nk_bd (ja_X2_raise l0 l1 0 S42) fun r47 S48 =>
      some (r47, S48)
    else
      nk_bd (ja_X2_numberAt l0 0 S42) fun r44 S45 =>
      some (r44, S45)
  else
  if l2 = 42 then
    ja_X2_perform_b266 l0 l1 l2 S
  else
  if l2 = 43 then
    ja_X2_perform_b266 l0 l1 l2 S
  else
  if l2 = 44 then
    nk_bd (ja_X2_nextInput l0 S) fun r50 S51 =>
    nk_bd (ja_X2_intCell r50 S51) fun r53 S54 =>
    nk_bd (ja_X2_leave l0 0 r53 S54) fun r56 S57 =>
    some (r56, S57)
  else
  nk_bd (ja_X2_write l0 S) fun r59 S60 =>
  some (r59, S60)
theorem ja_X2_perform_b49_ok (zs : List Int32) : ∀ (l0 : Nat) (l1 : Int) (l2 : Int) (S : nk_S) (R : Int × nk_S), nk_cl ja_Tt l0 = some 2 → ja_X2_perform_b49 l0 l1 l2 S = some R → nk_K ja_Tt mi_Γ (mi_ev zs) 1 287 49 [(0, nk_r l0), (1, nk_i l1), (2, nk_i l2)] [] S R := by
  intro l0 l1 l2 S R t_l0 hr
  unfold ja_X2_perform_b49 at hr
  refine nk_p (i := .iload_n 2) (len := 1) (pc' := 50) mJ_287 (by decide +kernel) (ns_iload_n 2 rfl rfl) rfl ?_
  by_cases hc0 : l2 = 30
  · have hr := nk_ifp hc0 hr
    refine nk_p (i := .tableswitch 236 30 44 #[74, 101, 130, 165, 165, 172, 172, 179, 179, 186, 186, 193, 216, 216, 223]) (len := 74) (pc' := 124) mJ_287 (by decide +kernel) (ns_tsw (V := 30) hc0 (by decide +kernel)) rfl ?_
    refine nk_p (i := .aload_n 0) (len := 1) (pc' := 125) mJ_287 (by decide +kernel) (ns_aload_n 0 rfl rfl) rfl ?_
    refine nk_p (i := .iload_n 1) (len := 1) (pc' := 126) mJ_287 (by decide +kernel) (ns_iload_n 1 rfl rfl) rfl ?_
    refine nk_p (i := .aload_n 0) (len := 1) (pc' := 127) mJ_287 (by decide +kernel) (ns_aload_n 0 rfl rfl) rfl ?_
    refine nk_getM (cj := 3) (z := 0) (x := 41) (len := 3) (ci := 2) (k := 1) (pc' := 130) ja_okT mJ_287 (by decide +kernel) (by decide +kernel) (by decide +kernel) t_l0 rfl (fun t1 => ?_)
    refine nk_getC (f := (2, 1, 0)) (x := 123) (len := 3) (ci := 3) (k := 0) (pc' := 133) ja_okT mJ_287 (by decide +kernel) (by decide +kernel) (by decide +kernel) (by decide) t1 rfl ?_
    have t2 : nk_cl ja_Tt (ja_c (S.2 l0 1) 0) = some 1 := nk_tc (y := 0) ja_okT t1 (by decide +kernel)
    refine nk_getC (f := (4, 1, 32)) (x := 127) (len := 3) (ci := 1) (k := 3) (pc' := 136) ja_okT mJ_287 (by decide +kernel) (by decide +kernel) (by decide +kernel) (by decide) t2 rfl ?_
    have t3 : nk_ar ja_Tt (ja_c (ja_c (S.2 l0 1) 0) 3) = some (1, 32) := nk_ta ja_okT t2 (by decide +kernel)
    refine nk_p (i := .aload_n 0) (len := 1) (pc' := 137) mJ_287 (by decide +kernel) (ns_aload_n 0 rfl rfl) rfl ?_
    refine nk_getM (cj := 3) (z := 0) (x := 41) (len := 3) (ci := 2) (k := 1) (pc' := 140) ja_okT mJ_287 (by decide +kernel) (by decide +kernel) (by decide +kernel) t_l0 rfl (fun t4 => ?_)
    refine nk_getC (f := (4, 1, 1024)) (x := 131) (len := 3) (ci := 3) (k := 5) (pc' := 143) ja_okT mJ_287 (by decide +kernel) (by decide +kernel) (by decide +kernel) (by decide) t4 rfl ?_
    have t5 : nk_ar ja_Tt (ja_c (S.2 l0 1) 5) = some (1, 1024) := nk_ta ja_okT t4 (by decide +kernel)
    refine nk_p (i := .iload_n 1) (len := 1) (pc' := 144) mJ_287 (by decide +kernel) (ns_iload_n 1 rfl rfl) rfl ?_
    obtain ⟨h6, hr⟩ := nk_cke hr
    refine nk_iald (len := 1) (N := 1024) (pc' := 145) mJ_287 (by decide +kernel) t5 h6.1 h6.2 rfl rfl ?_
    obtain ⟨h7, hr⟩ := nk_cke hr
    refine nk_iald (len := 1) (N := 32) (pc' := 146) mJ_287 (by decide +kernel) t3 h7.1 h7.2 rfl rfl ?_
    refine nk_p (i := .iconst 0) (len := 1) (pc' := 147) mJ_287 (by decide +kernel) (ns_iconst (c := 0) (by decide +kernel)) rfl ?_
    obtain ⟨r8, S9, h10, hr⟩ := nk_bde hr
    refine nk_callV (ci := 2) (n := 3) (x := 134) (len := 3) (j' := 282) (q' := 1) (r := r8) (S' := S9) (L2 := [(0, nk_r l0), (1, nk_i l1), (2, nk_i (S.1 (ja_c (ja_c (S.2 l0 1) 0) 3) (S.1 (ja_c (S.2 l0 1) 5) l1.toNat).toNat)), (3, nk_i 0)]) (rest := []) (st' := [nk_i r8]) (pc' := 150) mJ_287 (by decide +kernel) (by decide +kernel) rfl rfl t_l0 (Nat.le_of_ble_eq_true rfl) mJ_282 (Nat.le_of_ble_eq_true rfl) rfl (ja_X2_makeObject_ok zs _ _ _ _ _ _ t_l0 h10) rfl ?_
    cases hr
    exact nk_iret (ty := .int) (len := 1) mJ_287 (by decide +kernel) rfl (nk_nar_i _)
  have hr := nk_ifn hc0 hr
  by_cases hc1 : l2 = 31
  · have hr := nk_ifp hc1 hr
    refine nk_p (i := .tableswitch 236 30 44 #[74, 101, 130, 165, 165, 172, 172, 179, 179, 186, 186, 193, 216, 216, 223]) (len := 74) (pc' := 151) mJ_287 (by decide +kernel) (ns_tsw (V := 31) hc1 (by decide +kernel)) rfl ?_
    refine nk_p (i := .aload_n 0) (len := 1) (pc' := 152) mJ_287 (by decide +kernel) (ns_aload_n 0 rfl rfl) rfl ?_
    refine nk_p (i := .iconst 0) (len := 1) (pc' := 153) mJ_287 (by decide +kernel) (ns_iconst (c := 0) (by decide +kernel)) rfl ?_
    obtain ⟨r11, S12, h13, hr⟩ := nk_bde hr
    refine nk_callV (ci := 2) (n := 1) (x := 138) (len := 3) (j' := 286) (q' := 1) (r := r11) (S' := S12) (L2 := [(0, nk_r l0), (1, nk_i 0)]) (rest := []) (st' := [nk_i r11]) (pc' := 156) mJ_287 (by decide +kernel) (by decide +kernel) rfl rfl t_l0 (Nat.le_of_ble_eq_true rfl) mJ_286 (Nat.le_of_ble_eq_true rfl) rfl (ja_X2_numberAt_ok zs _ _ _ _ t_l0 h13) rfl ?_
    refine nk_icond (c := .ge) (off := 12) (len := 3) (t := 168) (pc' := 159) mJ_287 (by decide +kernel) (by decide +kernel) rfl (fun hc => ?_) (fun hc => ?_)
    · have hr := nk_ifp (c := 0 ≤ r11) hc hr
      refine nk_p (i := .aload_n 0) (len := 1) (pc' := 169) mJ_287 (by decide +kernel) (ns_aload_n 0 rfl rfl) rfl ?_
      refine nk_p (i := .iload_n 1) (len := 1) (pc' := 170) mJ_287 (by decide +kernel) (ns_iload_n 1 rfl rfl) rfl ?_
      refine nk_p (i := .aload_n 0) (len := 1) (pc' := 171) mJ_287 (by decide +kernel) (ns_aload_n 0 rfl rfl) rfl ?_
      refine nk_p (i := .iconst 0) (len := 1) (pc' := 172) mJ_287 (by decide +kernel) (ns_iconst (c := 0) (by decide +kernel)) rfl ?_
      obtain ⟨r14, S15, h16, hr⟩ := nk_bde hr
      refine nk_callV (ci := 2) (n := 1) (x := 138) (len := 3) (j' := 286) (q' := 1) (r := r14) (S' := S15) (L2 := [(0, nk_r l0), (1, nk_i 0)]) (rest := [nk_i l1, nk_r l0]) (st' := [nk_i r14, nk_i l1, nk_r l0]) (pc' := 175) mJ_287 (by decide +kernel) (by decide +kernel) rfl rfl t_l0 (Nat.le_of_ble_eq_true rfl) mJ_286 (Nat.le_of_ble_eq_true rfl) rfl (ja_X2_numberAt_ok zs _ _ _ _ t_l0 h16) rfl ?_
      refine nk_p (i := .iconst 1) (len := 1) (pc' := 176) mJ_287 (by decide +kernel) (ns_iconst (c := 1) (by decide +kernel)) rfl ?_
      obtain ⟨r17, S18, h19, hr⟩ := nk_bde hr
      refine nk_callV (ci := 2) (n := 3) (x := 134) (len := 3) (j' := 282) (q' := 1) (r := r17) (S' := S18) (L2 := [(0, nk_r l0), (1, nk_i l1), (2, nk_i r14), (3, nk_i 1)]) (rest := []) (st' := [nk_i r17]) (pc' := 179) mJ_287 (by decide +kernel) (by decide +kernel) rfl rfl t_l0 (Nat.le_of_ble_eq_true rfl) mJ_282 (Nat.le_of_ble_eq_true rfl) rfl (ja_X2_makeObject_ok zs _ _ _ _ _ _ t_l0 h19) rfl ?_
      cases hr
      exact nk_iret (ty := .int) (len := 1) mJ_287 (by decide +kernel) rfl (nk_nar_i _)
    · have hr := nk_ifn (c := 0 ≤ r11) hc hr
      refine nk_p (i := .aload_n 0) (len := 1) (pc' := 160) mJ_287 (by decide +kernel) (ns_aload_n 0 rfl rfl) rfl ?_
      refine nk_p (i := .iload_n 1) (len := 1) (pc' := 161) mJ_287 (by decide +kernel) (ns_iload_n 1 rfl rfl) rfl ?_
      refine nk_p (i := .iconst 2) (len := 1) (pc' := 162) mJ_287 (by decide +kernel) (ns_iconst (c := 2) (by decide +kernel)) rfl ?_
      obtain ⟨r20, S21, h22, hr⟩ := nk_bde hr
      refine nk_callV (ci := 2) (n := 2) (x := 141) (len := 3) (j' := 289) (q' := 1) (r := r20) (S' := S21) (L2 := [(0, nk_r l0), (1, nk_i l1), (2, nk_i 2)]) (rest := []) (st' := [nk_i r20]) (pc' := 165) mJ_287 (by decide +kernel) (by decide +kernel) rfl rfl t_l0 (Nat.le_of_ble_eq_true rfl) mJ_289 (Nat.le_of_ble_eq_true rfl) rfl (ja_X2_raise_ok zs _ _ _ _ _ t_l0 h22) rfl ?_
      refine nk_p (i := .goto 14) (len := 3) (pc' := 179) mJ_287 (by decide +kernel) (ns_goto (by decide +kernel)) rfl ?_
      cases hr
      exact nk_iret (ty := .int) (len := 1) mJ_287 (by decide +kernel) rfl (nk_nar_i _)
  have hr := nk_ifn hc1 hr
  by_cases hc2 : l2 = 32
  · have hr := nk_ifp hc2 hr
    refine nk_p (i := .tableswitch 236 30 44 #[74, 101, 130, 165, 165, 172, 172, 179, 179, 186, 186, 193, 216, 216, 223]) (len := 74) (pc' := 180) mJ_287 (by decide +kernel) (ns_tsw (V := 32) hc2 (by decide +kernel)) rfl ?_
    refine nk_p (i := .aload_n 0) (len := 1) (pc' := 181) mJ_287 (by decide +kernel) (ns_aload_n 0 rfl rfl) rfl ?_
    refine nk_p (i := .iconst 0) (len := 1) (pc' := 182) mJ_287 (by decide +kernel) (ns_iconst (c := 0) (by decide +kernel)) rfl ?_
    obtain ⟨r23, S24, h25, hr⟩ := nk_bde hr
    refine nk_callV (ci := 2) (n := 1) (x := 138) (len := 3) (j' := 286) (q' := 1) (r := r23) (S' := S24) (L2 := [(0, nk_r l0), (1, nk_i 0)]) (rest := []) (st' := [nk_i r23]) (pc' := 185) mJ_287 (by decide +kernel) (by decide +kernel) rfl rfl t_l0 (Nat.le_of_ble_eq_true rfl) mJ_286 (Nat.le_of_ble_eq_true rfl) rfl (ja_X2_numberAt_ok zs _ _ _ _ t_l0 h25) rfl ?_
    refine nk_icond (c := .ne) (off := 12) (len := 3) (t := 197) (pc' := 188) mJ_287 (by decide +kernel) (by decide +kernel) rfl (fun hc => ?_) (fun hc => ?_)
    · have hr := nk_ifn (c := r23 = 0) hc hr
      refine nk_p (i := .aload_n 0) (len := 1) (pc' := 198) mJ_287 (by decide +kernel) (ns_aload_n 0 rfl rfl) rfl ?_
      refine nk_p (i := .iconst 1) (len := 1) (pc' := 199) mJ_287 (by decide +kernel) (ns_iconst (c := 1) (by decide +kernel)) rfl ?_
      refine nk_p (i := .aload_n 0) (len := 1) (pc' := 200) mJ_287 (by decide +kernel) (ns_aload_n 0 rfl rfl) rfl ?_
      refine nk_p (i := .aload_n 0) (len := 1) (pc' := 201) mJ_287 (by decide +kernel) (ns_aload_n 0 rfl rfl) rfl ?_
      refine nk_p (i := .iconst 0) (len := 1) (pc' := 202) mJ_287 (by decide +kernel) (ns_iconst (c := 0) (by decide +kernel)) rfl ?_
      obtain ⟨r26, S27, h28, hr⟩ := nk_bde hr
      refine nk_callV (ci := 2) (n := 1) (x := 138) (len := 3) (j' := 286) (q' := 1) (r := r26) (S' := S27) (L2 := [(0, nk_r l0), (1, nk_i 0)]) (rest := [nk_r l0, nk_i 1, nk_r l0]) (st' := [nk_i r26, nk_r l0, nk_i 1, nk_r l0]) (pc' := 205) mJ_287 (by decide +kernel) (by decide +kernel) rfl rfl t_l0 (Nat.le_of_ble_eq_true rfl) mJ_286 (Nat.le_of_ble_eq_true rfl) rfl (ja_X2_numberAt_ok zs _ _ _ _ t_l0 h28) rfl ?_
      obtain ⟨r29, S30, h31, hr⟩ := nk_bde hr
      refine nk_callV (ci := 2) (n := 1) (x := 144) (len := 3) (j' := 269) (q' := 1) (r := r29) (S' := S30) (L2 := [(0, nk_r l0), (1, nk_i r26)]) (rest := [nk_i 1, nk_r l0]) (st' := [nk_i r29, nk_i 1, nk_r l0]) (pc' := 208) mJ_287 (by decide +kernel) (by decide +kernel) rfl rfl t_l0 (Nat.le_of_ble_eq_true rfl) mJ_269 (Nat.le_of_ble_eq_true rfl) rfl (ja_X2_extentOf_ok zs _ _ _ _ t_l0 h31) rfl ?_
      obtain ⟨r32, S33, h34, hr⟩ := nk_bde hr
      refine nk_callS (ci := 0) (n := 1) (x := 147) (len := 3) (j' := 274) (q' := 2) (r := r32) (S' := S33) (L2 := [(0, nk_i r29)]) (rest := [nk_i 1, nk_r l0]) (st' := [nk_l r32, nk_i 1, nk_r l0]) (pc' := 211) mJ_287 (by decide +kernel) (by decide +kernel) (Nat.le_of_ble_eq_true rfl) rfl rfl (Nat.le_of_ble_eq_true rfl) mJ_274 (Nat.le_of_ble_eq_true rfl) ja_Tpos rfl (ja_X2_intCell_ok zs _ _ _ h34) rfl ?_
      obtain ⟨r35, S36, h37, hr⟩ := nk_bde hr
      refine nk_callV (ci := 2) (n := 2) (x := 151) (len := 3) (j' := 278) (q' := 1) (r := r35) (S' := S36) (L2 := [(0, nk_r l0), (1, nk_i 1), (2, nk_l r32)]) (rest := []) (st' := [nk_i r35]) (pc' := 214) mJ_287 (by decide +kernel) (by decide +kernel) rfl rfl t_l0 (Nat.le_of_ble_eq_true rfl) mJ_278 (Nat.le_of_ble_eq_true rfl) rfl (ja_X2_leave_ok zs _ _ _ _ _ t_l0 h37) rfl ?_
      cases hr
      exact nk_iret (ty := .int) (len := 1) mJ_287 (by decide +kernel) rfl (nk_nar_i _)
    · have hr := nk_ifp (c := r23 = 0) (Decidable.of_not_not hc) hr
      refine nk_p (i := .aload_n 0) (len := 1) (pc' := 189) mJ_287 (by decide +kernel) (ns_aload_n 0 rfl rfl) rfl ?_
      refine nk_p (i := .iload_n 1) (len := 1) (pc' := 190) mJ_287 (by decide +kernel) (ns_iload_n 1 rfl rfl) rfl ?_
      refine nk_p (i := .iconst 0) (len := 1) (pc' := 191) mJ_287 (by decide +kernel) (ns_iconst (c := 0) (by decide +kernel)) rfl ?_
      obtain ⟨r38, S39, h40, hr⟩ := nk_bde hr
      refine nk_callV (ci := 2) (n := 2) (x := 141) (len := 3) (j' := 289) (q' := 1) (r := r38) (S' := S39) (L2 := [(0, nk_r l0), (1, nk_i l1), (2, nk_i 0)]) (rest := []) (st' := [nk_i r38]) (pc' := 194) mJ_287 (by decide +kernel) (by decide +kernel) rfl rfl t_l0 (Nat.le_of_ble_eq_true rfl) mJ_289 (Nat.le_of_ble_eq_true rfl) rfl (ja_X2_raise_ok zs _ _ _ _ _ t_l0 h40) rfl ?_
      refine nk_p (i := .goto 20) (len := 3) (pc' := 214) mJ_287 (by decide +kernel) (ns_goto (by decide +kernel)) rfl ?_
      cases hr
      exact nk_iret (ty := .int) (len := 1) mJ_287 (by decide +kernel) rfl (nk_nar_i _)
  have hr := nk_ifn hc2 hr
  by_cases hc3 : l2 = 33
  · have hr := nk_ifp hc3 hr
    refine nk_p (i := .tableswitch 236 30 44 #[74, 101, 130, 165, 165, 172, 172, 179, 179, 186, 186, 193, 216, 216, 223]) (len := 74) (pc' := 215) mJ_287 (by decide +kernel) (ns_tsw (V := 33) hc3 (by decide +kernel)) rfl ?_
    exact ja_X2_perform_b215_ok zs _ _ _ _ _ t_l0 hr
  have hr := nk_ifn hc3 hr
  by_cases hc4 : l2 = 34
  · have hr := nk_ifp hc4 hr
    refine nk_p (i := .tableswitch 236 30 44 #[74, 101, 130, 165, 165, 172, 172, 179, 179, 186, 186, 193, 216, 216, 223]) (len := 74) (pc' := 215) mJ_287 (by decide +kernel) (ns_tsw (V := 34) hc4 (by decide +kernel)) rfl ?_
    exact ja_X2_perform_b215_ok zs _ _ _ _ _ t_l0 hr
  have hr := nk_ifn hc4 hr
  by_cases hc5 : l2 = 35
  · have hr := nk_ifp hc5 hr
    refine nk_p (i := .tableswitch 236 30 44 #[74, 101, 130, 165, 165, 172, 172, 179, 179, 186, 186, 193, 216, 216, 223]) (len := 74) (pc' := 222) mJ_287 (by decide +kernel) (ns_tsw (V := 35) hc5 (by decide +kernel)) rfl ?_
    exact ja_X2_perform_b222_ok zs _ _ _ _ _ t_l0 hr
  have hr := nk_ifn hc5 hr
  by_cases hc6 : l2 = 36
  · have hr := nk_ifp hc6 hr
    refine nk_p (i := .tableswitch 236 30 44 #[74, 101, 130, 165, 165, 172, 172, 179, 179, 186, 186, 193, 216, 216, 223]) (len := 74) (pc' := 222) mJ_287 (by decide +kernel) (ns_tsw (V := 36) hc6 (by decide +kernel)) rfl ?_
    exact ja_X2_perform_b222_ok zs _ _ _ _ _ t_l0 hr
  have hr := nk_ifn hc6 hr
  by_cases hc7 : l2 = 37
  · have hr := nk_ifp hc7 hr
    refine nk_p (i := .tableswitch 236 30 44 #[74, 101, 130, 165, 165, 172, 172, 179, 179, 186, 186, 193, 216, 216, 223]) (len := 74) (pc' := 229) mJ_287 (by decide +kernel) (ns_tsw (V := 37) hc7 (by decide +kernel)) rfl ?_
    exact ja_X2_perform_b229_ok zs _ _ _ _ _ t_l0 hr
  have hr := nk_ifn hc7 hr
  by_cases hc8 : l2 = 38
  · have hr := nk_ifp hc8 hr
    refine nk_p (i := .tableswitch 236 30 44 #[74, 101, 130, 165, 165, 172, 172, 179, 179, 186, 186, 193, 216, 216, 223]) (len := 74) (pc' := 229) mJ_287 (by decide +kernel) (ns_tsw (V := 38) hc8 (by decide +kernel)) rfl ?_
    exact ja_X2_perform_b229_ok zs _ _ _ _ _ t_l0 hr
  have hr := nk_ifn hc8 hr
  by_cases hc9 : l2 = 39
  · have hr := nk_ifp hc9 hr
    refine nk_p (i := .tableswitch 236 30 44 #[74, 101, 130, 165, 165, 172, 172, 179, 179, 186, 186, 193, 216, 216, 223]) (len := 74) (pc' := 236) mJ_287 (by decide +kernel) (ns_tsw (V := 39) hc9 (by decide +kernel)) rfl ?_
    exact ja_X2_perform_b236_ok zs _ _ _ _ _ t_l0 hr
  have hr := nk_ifn hc9 hr
  by_cases hc10 : l2 = 40
  · have hr := nk_ifp hc10 hr
    refine nk_p (i := .tableswitch 236 30 44 #[74, 101, 130, 165, 165, 172, 172, 179, 179, 186, 186, 193, 216, 216, 223]) (len := 74) (pc' := 236) mJ_287 (by decide +kernel) (ns_tsw (V := 40) hc10 (by decide +kernel)) rfl ?_
    exact ja_X2_perform_b236_ok zs _ _ _ _ _ t_l0 hr
  have hr := nk_ifn hc10 hr
  by_cases hc11 : l2 = 41
  · have hr := nk_ifp hc11 hr
    refine nk_p (i := .tableswitch 236 30 44 #[74, 101, 130, 165, 165, 172, 172, 179, 179, 186, 186, 193, 216, 216, 223]) (len := 74) (pc' := 243) mJ_287 (by decide +kernel) (ns_tsw (V := 41) hc11 (by decide +kernel)) rfl ?_
    refine nk_p (i := .aload_n 0) (len := 1) (pc' := 244) mJ_287 (by decide +kernel) (ns_aload_n 0 rfl rfl) rfl ?_
    refine nk_p (i := .iconst 0) (len := 1) (pc' := 245) mJ_287 (by decide +kernel) (ns_iconst (c := 0) (by decide +kernel)) rfl ?_
    obtain ⟨r41, S42, h43, hr⟩ := nk_bde hr
    refine nk_callV (ci := 2) (n := 1) (x := 138) (len := 3) (j' := 286) (q' := 1) (r := r41) (S' := S42) (L2 := [(0, nk_r l0), (1, nk_i 0)]) (rest := []) (st' := [nk_i r41]) (pc' := 248) mJ_287 (by decide +kernel) (by decide +kernel) rfl rfl t_l0 (Nat.le_of_ble_eq_true rfl) mJ_286 (Nat.le_of_ble_eq_true rfl) rfl (ja_X2_numberAt_ok zs _ _ _ _ t_l0 h43) rfl ?_
    refine nk_icond (c := .ne) (off := 12) (len := 3) (t := 260) (pc' := 251) mJ_287 (by decide +kernel) (by decide +kernel) rfl (fun hc => ?_) (fun hc => ?_)
    · have hr := nk_ifn (c := r41 = 0) hc hr
      refine nk_p (i := .aload_n 0) (len := 1) (pc' := 261) mJ_287 (by decide +kernel) (ns_aload_n 0 rfl rfl) rfl ?_
      refine nk_p (i := .iconst 0) (len := 1) (pc' := 262) mJ_287 (by decide +kernel) (ns_iconst (c := 0) (by decide +kernel)) rfl ?_
      obtain ⟨r44, S45, h46, hr⟩ := nk_bde hr
      refine nk_callV (ci := 2) (n := 1) (x := 138) (len := 3) (j' := 286) (q' := 1) (r := r44) (S' := S45) (L2 := [(0, nk_r l0), (1, nk_i 0)]) (rest := []) (st' := [nk_i r44]) (pc' := 265) mJ_287 (by decide +kernel) (by decide +kernel) rfl rfl t_l0 (Nat.le_of_ble_eq_true rfl) mJ_286 (Nat.le_of_ble_eq_true rfl) rfl (ja_X2_numberAt_ok zs _ _ _ _ t_l0 h46) rfl ?_
      cases hr
      exact nk_iret (ty := .int) (len := 1) mJ_287 (by decide +kernel) rfl (nk_nar_i _)
    · have hr := nk_ifp (c := r41 = 0) (Decidable.of_not_not hc) hr
      refine nk_p (i := .aload_n 0) (len := 1) (pc' := 252) mJ_287 (by decide +kernel) (ns_aload_n 0 rfl rfl) rfl ?_
      refine nk_p (i := .iload_n 1) (len := 1) (pc' := 253) mJ_287 (by decide +kernel) (ns_iload_n 1 rfl rfl) rfl ?_
      refine nk_p (i := .iconst 0) (len := 1) (pc' := 254) mJ_287 (by decide +kernel) (ns_iconst (c := 0) (by decide +kernel)) rfl ?_
      obtain ⟨r47, S48, h49, hr⟩ := nk_bde hr
      refine nk_callV (ci := 2) (n := 2) (x := 141) (len := 3) (j' := 289) (q' := 1) (r := r47) (S' := S48) (L2 := [(0, nk_r l0), (1, nk_i l1), (2, nk_i 0)]) (rest := []) (st' := [nk_i r47]) (pc' := 257) mJ_287 (by decide +kernel) (by decide +kernel) rfl rfl t_l0 (Nat.le_of_ble_eq_true rfl) mJ_289 (Nat.le_of_ble_eq_true rfl) rfl (ja_X2_raise_ok zs _ _ _ _ _ t_l0 h49) rfl ?_
      refine nk_p (i := .goto 8) (len := 3) (pc' := 265) mJ_287 (by decide +kernel) (ns_goto (by decide +kernel)) rfl ?_
      cases hr
      exact nk_iret (ty := .int) (len := 1) mJ_287 (by decide +kernel) rfl (nk_nar_i _)
  have hr := nk_ifn hc11 hr
  by_cases hc12 : l2 = 42
  · have hr := nk_ifp hc12 hr
    refine nk_p (i := .tableswitch 236 30 44 #[74, 101, 130, 165, 165, 172, 172, 179, 179, 186, 186, 193, 216, 216, 223]) (len := 74) (pc' := 266) mJ_287 (by decide +kernel) (ns_tsw (V := 42) hc12 (by decide +kernel)) rfl ?_
    exact ja_X2_perform_b266_ok zs _ _ _ _ _ t_l0 hr
  have hr := nk_ifn hc12 hr
  by_cases hc13 : l2 = 43
  · have hr := nk_ifp hc13 hr
    refine nk_p (i := .tableswitch 236 30 44 #[74, 101, 130, 165, 165, 172, 172, 179, 179, 186, 186, 193, 216, 216, 223]) (len := 74) (pc' := 266) mJ_287 (by decide +kernel) (ns_tsw (V := 43) hc13 (by decide +kernel)) rfl ?_
    exact ja_X2_perform_b266_ok zs _ _ _ _ _ t_l0 hr
  have hr := nk_ifn hc13 hr
  by_cases hc14 : l2 = 44
  · have hr := nk_ifp hc14 hr
    refine nk_p (i := .tableswitch 236 30 44 #[74, 101, 130, 165, 165, 172, 172, 179, 179, 186, 186, 193, 216, 216, 223]) (len := 74) (pc' := 273) mJ_287 (by decide +kernel) (ns_tsw (V := 44) hc14 (by decide +kernel)) rfl ?_
    refine nk_p (i := .aload_n 0) (len := 1) (pc' := 274) mJ_287 (by decide +kernel) (ns_aload_n 0 rfl rfl) rfl ?_
    refine nk_p (i := .iconst 0) (len := 1) (pc' := 275) mJ_287 (by decide +kernel) (ns_iconst (c := 0) (by decide +kernel)) rfl ?_
    refine nk_p (i := .aload_n 0) (len := 1) (pc' := 276) mJ_287 (by decide +kernel) (ns_aload_n 0 rfl rfl) rfl ?_
    obtain ⟨r50, S51, h52, hr⟩ := nk_bde hr
    refine nk_callV (ci := 2) (n := 0) (x := 170) (len := 3) (j' := 285) (q' := 1) (r := r50) (S' := S51) (L2 := [(0, nk_r l0)]) (rest := [nk_i 0, nk_r l0]) (st' := [nk_i r50, nk_i 0, nk_r l0]) (pc' := 279) mJ_287 (by decide +kernel) (by decide +kernel) rfl rfl t_l0 (Nat.le_of_ble_eq_true rfl) mJ_285 (Nat.le_of_ble_eq_true rfl) rfl (ja_X2_nextInput_ok zs _ _ _ t_l0 h52) rfl ?_
    obtain ⟨r53, S54, h55, hr⟩ := nk_bde hr
    refine nk_callS (ci := 0) (n := 1) (x := 147) (len := 3) (j' := 274) (q' := 2) (r := r53) (S' := S54) (L2 := [(0, nk_i r50)]) (rest := [nk_i 0, nk_r l0]) (st' := [nk_l r53, nk_i 0, nk_r l0]) (pc' := 282) mJ_287 (by decide +kernel) (by decide +kernel) (Nat.le_of_ble_eq_true rfl) rfl rfl (Nat.le_of_ble_eq_true rfl) mJ_274 (Nat.le_of_ble_eq_true rfl) ja_Tpos rfl (ja_X2_intCell_ok zs _ _ _ h55) rfl ?_
    obtain ⟨r56, S57, h58, hr⟩ := nk_bde hr
    refine nk_callV (ci := 2) (n := 2) (x := 151) (len := 3) (j' := 278) (q' := 1) (r := r56) (S' := S57) (L2 := [(0, nk_r l0), (1, nk_i 0), (2, nk_l r53)]) (rest := []) (st' := [nk_i r56]) (pc' := 285) mJ_287 (by decide +kernel) (by decide +kernel) rfl rfl t_l0 (Nat.le_of_ble_eq_true rfl) mJ_278 (Nat.le_of_ble_eq_true rfl) rfl (ja_X2_leave_ok zs _ _ _ _ _ t_l0 h58) rfl ?_
    cases hr
    exact nk_iret (ty := .int) (len := 1) mJ_287 (by decide +kernel) rfl (nk_nar_i _)
  have hr := nk_ifn hc14 hr
  refine nk_p (i := .tableswitch 236 30 44 #[74, 101, 130, 165, 165, 172, 172, 179, 179, 186, 186, 193, 216, 216, 223]) (len := 74) (pc' := 286) mJ_287 (by decide +kernel) (ns_tsd (by omega) (by decide +kernel)) rfl ?_
  refine nk_p (i := .aload_n 0) (len := 1) (pc' := 287) mJ_287 (by decide +kernel) (ns_aload_n 0 rfl rfl) rfl ?_
  obtain ⟨r59, S60, h61, hr⟩ := nk_bde hr
  refine nk_callV (ci := 2) (n := 0) (x := 174) (len := 3) (j' := 296) (q' := 1) (r := r59) (S' := S60) (L2 := [(0, nk_r l0)]) (rest := []) (st' := [nk_i r59]) (pc' := 290) mJ_287 (by decide +kernel) (by decide +kernel) rfl rfl t_l0 (Nat.le_of_ble_eq_true rfl) mJ_296 (Nat.le_of_ble_eq_true rfl) rfl (ja_X2_write_ok zs _ _ _ t_l0 h61) rfl ?_
  cases hr
  exact nk_iret (ty := .int) (len := 1) mJ_287 (by decide +kernel) rfl (nk_nar_i _)
noncomputable def ja_X2_perform (l0 : Nat) (l1 : Int) (S : nk_S) : Option (Int × nk_S) :=
  if 0 ≤ l1 ∧ l1 < 1024 then
  nk_lt (S.1 (ja_c (S.2 l0 1) 4) l1.toNat) fun v4 =>
  if 7 < v4 then
    if 18 < v4 then
      if 29 < v4 then
        ja_X2_perform_b49 l0 l1 v4 S
      else
        nk_bd (ja_X2_jump l0 l1 v4 S) fun r6 S7 =>
        some (r6, S7)
    else
      nk_bd (ja_X2_calculate l0 l1 v4 S) fun r9 S10 =>
      some (r9, S10)
  else
    nk_bd (ja_X2_move l0 l1 v4 S) fun r12 S13 =>
    some (r12, S13)
  else none
theorem ja_X2_perform_ok (zs : List Int32) : ∀ (l0 : Nat) (l1 : Int) (S : nk_S) (R : Int × nk_S), nk_cl ja_Tt l0 = some 2 → ja_X2_perform l0 l1 S = some R → nk_K ja_Tt mi_Γ (mi_ev zs) 1 287 0 [(0, nk_r l0), (1, nk_i l1)] [] S R := by
  intro l0 l1 S R t_l0 hr
  unfold ja_X2_perform at hr
  refine nk_p (i := .aload_n 0) (len := 1) (pc' := 1) mJ_287 (by decide +kernel) (ns_aload_n 0 rfl rfl) rfl ?_
  refine nk_getM (cj := 3) (z := 0) (x := 41) (len := 3) (ci := 2) (k := 1) (pc' := 4) ja_okT mJ_287 (by decide +kernel) (by decide +kernel) (by decide +kernel) t_l0 rfl (fun t1 => ?_)
  refine nk_getC (f := (4, 1, 1024)) (x := 110) (len := 3) (ci := 3) (k := 4) (pc' := 7) ja_okT mJ_287 (by decide +kernel) (by decide +kernel) (by decide +kernel) (by decide) t1 rfl ?_
  have t2 : nk_ar ja_Tt (ja_c (S.2 l0 1) 4) = some (1, 1024) := nk_ta ja_okT t1 (by decide +kernel)
  refine nk_p (i := .iload_n 1) (len := 1) (pc' := 8) mJ_287 (by decide +kernel) (ns_iload_n 1 rfl rfl) rfl ?_
  obtain ⟨h3, hr⟩ := nk_cke hr
  refine nk_iald (len := 1) (N := 1024) (pc' := 9) mJ_287 (by decide +kernel) t2 h3.1 h3.2 rfl rfl ?_
  obtain ⟨v4, h5, hr⟩ := nk_lte hr
  refine nk_p (i := .istore_n 2) (len := 1) (pc' := 10) mJ_287 (by decide +kernel) (ns_istore_n (L' := [(2, nk_i v4), (0, nk_r l0), (1, nk_i l1)]) h5 rfl rfl (by decide +kernel)) rfl ?_
  refine nk_p (i := .iload_n 2) (len := 1) (pc' := 11) mJ_287 (by decide +kernel) (ns_iload_n 0 rfl rfl) rfl ?_
  refine nk_p (i := .bipush 7) (len := 2) (pc' := 13) mJ_287 (by decide +kernel) (ns_bipush (c := 7) (by decide +kernel)) rfl ?_
  refine nk_icmp (c := .gt) (off := 10) (len := 3) (t := 23) (pc' := 16) mJ_287 (by decide +kernel) (by decide +kernel) rfl (fun hc => ?_) (fun hc => ?_)
  · have hr := nk_ifp (c := 7 < v4) hc hr
    refine nk_p (i := .iload_n 2) (len := 1) (pc' := 24) mJ_287 (by decide +kernel) (ns_iload_n 0 rfl rfl) rfl ?_
    refine nk_p (i := .bipush 18) (len := 2) (pc' := 26) mJ_287 (by decide +kernel) (ns_bipush (c := 18) (by decide +kernel)) rfl ?_
    refine nk_icmp (c := .gt) (off := 10) (len := 3) (t := 36) (pc' := 29) mJ_287 (by decide +kernel) (by decide +kernel) rfl (fun hc => ?_) (fun hc => ?_)
    · have hr := nk_ifp (c := 18 < v4) hc hr
      refine nk_p (i := .iload_n 2) (len := 1) (pc' := 37) mJ_287 (by decide +kernel) (ns_iload_n 0 rfl rfl) rfl ?_
      refine nk_p (i := .bipush 29) (len := 2) (pc' := 39) mJ_287 (by decide +kernel) (ns_bipush (c := 29) (by decide +kernel)) rfl ?_
      refine nk_icmp (c := .gt) (off := 10) (len := 3) (t := 49) (pc' := 42) mJ_287 (by decide +kernel) (by decide +kernel) rfl (fun hc => ?_) (fun hc => ?_)
      · have hr := nk_ifp (c := 29 < v4) hc hr
        refine nk_sub [1, 2, 0] (L' := [(0, nk_r l0), (1, nk_i l1), (2, nk_i v4)]) rfl ?_
        exact ja_X2_perform_b49_ok zs _ _ _ _ _ t_l0 hr
      · have hr := nk_ifn (c := 29 < v4) hc hr
        refine nk_p (i := .aload_n 0) (len := 1) (pc' := 43) mJ_287 (by decide +kernel) (ns_aload_n 1 rfl rfl) rfl ?_
        refine nk_p (i := .iload_n 1) (len := 1) (pc' := 44) mJ_287 (by decide +kernel) (ns_iload_n 2 rfl rfl) rfl ?_
        refine nk_p (i := .iload_n 2) (len := 1) (pc' := 45) mJ_287 (by decide +kernel) (ns_iload_n 0 rfl rfl) rfl ?_
        obtain ⟨r6, S7, h8, hr⟩ := nk_bde hr
        refine nk_callV (ci := 2) (n := 2) (x := 120) (len := 3) (j' := 277) (q' := 1) (r := r6) (S' := S7) (L2 := [(0, nk_r l0), (1, nk_i l1), (2, nk_i v4)]) (rest := []) (st' := [nk_i r6]) (pc' := 48) mJ_287 (by decide +kernel) (by decide +kernel) rfl rfl t_l0 (Nat.le_of_ble_eq_true rfl) mJ_277 (Nat.le_of_ble_eq_true rfl) rfl (ja_X2_jump_ok zs _ _ _ _ _ t_l0 h8) rfl ?_
        cases hr
        exact nk_iret (ty := .int) (len := 1) mJ_287 (by decide +kernel) rfl (nk_nar_i _)
    · have hr := nk_ifn (c := 18 < v4) hc hr
      refine nk_p (i := .aload_n 0) (len := 1) (pc' := 30) mJ_287 (by decide +kernel) (ns_aload_n 1 rfl rfl) rfl ?_
      refine nk_p (i := .iload_n 1) (len := 1) (pc' := 31) mJ_287 (by decide +kernel) (ns_iload_n 2 rfl rfl) rfl ?_
      refine nk_p (i := .iload_n 2) (len := 1) (pc' := 32) mJ_287 (by decide +kernel) (ns_iload_n 0 rfl rfl) rfl ?_
      obtain ⟨r9, S10, h11, hr⟩ := nk_bde hr
      refine nk_callV (ci := 2) (n := 2) (x := 117) (len := 3) (j' := 263) (q' := 1) (r := r9) (S' := S10) (L2 := [(0, nk_r l0), (1, nk_i l1), (2, nk_i v4)]) (rest := []) (st' := [nk_i r9]) (pc' := 35) mJ_287 (by decide +kernel) (by decide +kernel) rfl rfl t_l0 (Nat.le_of_ble_eq_true rfl) mJ_263 (Nat.le_of_ble_eq_true rfl) rfl (ja_X2_calculate_ok zs _ _ _ _ _ t_l0 h11) rfl ?_
      cases hr
      exact nk_iret (ty := .int) (len := 1) mJ_287 (by decide +kernel) rfl (nk_nar_i _)
  · have hr := nk_ifn (c := 7 < v4) hc hr
    refine nk_p (i := .aload_n 0) (len := 1) (pc' := 17) mJ_287 (by decide +kernel) (ns_aload_n 1 rfl rfl) rfl ?_
    refine nk_p (i := .iload_n 1) (len := 1) (pc' := 18) mJ_287 (by decide +kernel) (ns_iload_n 2 rfl rfl) rfl ?_
    refine nk_p (i := .iload_n 2) (len := 1) (pc' := 19) mJ_287 (by decide +kernel) (ns_iload_n 0 rfl rfl) rfl ?_
    obtain ⟨r12, S13, h14, hr⟩ := nk_bde hr
    refine nk_callV (ci := 2) (n := 2) (x := 113) (len := 3) (j' := 283) (q' := 1) (r := r12) (S' := S13) (L2 := [(0, nk_r l0), (1, nk_i l1), (2, nk_i v4)]) (rest := []) (st' := [nk_i r12]) (pc' := 22) mJ_287 (by decide +kernel) (by decide +kernel) rfl rfl t_l0 (Nat.le_of_ble_eq_true rfl) mJ_283 (Nat.le_of_ble_eq_true rfl) rfl (ja_X2_move_ok zs _ _ _ _ _ t_l0 h14) rfl ?_
    cases hr
    exact nk_iret (ty := .int) (len := 1) mJ_287 (by decide +kernel) rfl (nk_nar_i _)
/-! SafeCode$Machine catchOf (II)I -/
noncomputable def ja_X2_catchOf_b24 (rec24 : Nat → Int → Int → Int → Int → nk_S → Option (Int × nk_S)) (l0 : Nat) (l1 : Int) (l2 : Int) (l3 : Int) (l4 : Int) (S : nk_S) : Option (Int × nk_S) :=
  if 0 ≤ l3 ∧ l3 < 48 then
  if (S.1 (ja_c (ja_c (S.2 l0 1) 1) 13) l3.toNat) ≤ l4 then
    some ((-1), S)
  else
    nk_bd (ja_X3_covers (S.2 l0 1) l4 l1 S) fun r6 S7 =>
    if r6 = 0 then
      nk_lt (nk_w (l4 + 1)) fun v9 =>
      rec24 l0 l1 l2 l3 v9 S7
    else
      if 0 ≤ l4 ∧ l4 < 64 then
      nk_bd (ja_X1_isBelow (ja_c (S7.2 l0 1) 0) l2 (nk_w (4 + (nk_w (2 * (S7.1 (ja_c (S7.2 l0 1) 16) l4.toNat))))) S7) fun r16 S17 =>
      if r16 = 0 then
        nk_lt (nk_w (l4 + 1)) fun v19 =>
        rec24 l0 l1 l2 l3 v19 S17
      else
        some (l4, S17)
      else none
  else none
theorem ja_X2_catchOf_b24_ok (zs : List Int32) {rec24 : Nat → Int → Int → Int → Int → nk_S → Option (Int × nk_S)} (hrec24 : ∀ (l0 : Nat) (l1 : Int) (l2 : Int) (l3 : Int) (l4 : Int) (S : nk_S) (R : Int × nk_S), nk_cl ja_Tt l0 = some 2 → rec24 l0 l1 l2 l3 l4 S = some R → nk_K ja_Tt mi_Γ (mi_ev zs) 1 265 24 [(0, nk_r l0), (1, nk_i l1), (2, nk_i l2), (3, nk_i l3), (4, nk_i l4)] [] S R) : ∀ (l0 : Nat) (l1 : Int) (l2 : Int) (l3 : Int) (l4 : Int) (S : nk_S) (R : Int × nk_S), nk_cl ja_Tt l0 = some 2 → ja_X2_catchOf_b24 rec24 l0 l1 l2 l3 l4 S = some R → nk_K ja_Tt mi_Γ (mi_ev zs) 1 265 24 [(0, nk_r l0), (1, nk_i l1), (2, nk_i l2), (3, nk_i l3), (4, nk_i l4)] [] S R := by
  intro l0 l1 l2 l3 l4 S R t_l0 hr
  unfold ja_X2_catchOf_b24 at hr
  refine nk_p (i := .iload 4) (len := 2) (pc' := 26) mJ_265 (by decide +kernel) (ns_iload 4 rfl) rfl ?_
  refine nk_p (i := .aload_n 0) (len := 1) (pc' := 27) mJ_265 (by decide +kernel) (ns_aload_n 0 rfl rfl) rfl ?_
  refine nk_getM (cj := 3) (z := 0) (x := 41) (len := 3) (ci := 2) (k := 1) (pc' := 30) ja_okT mJ_265 (by decide +kernel) (by decide +kernel) (by decide +kernel) t_l0 rfl (fun t1 => ?_)
  refine nk_getC (f := (2, 0, 0)) (x := 70) (len := 3) (ci := 3) (k := 1) (pc' := 33) ja_okT mJ_265 (by decide +kernel) (by decide +kernel) (by decide +kernel) (by decide) t1 rfl ?_
  have t2 : nk_cl ja_Tt (ja_c (S.2 l0 1) 1) = some 0 := nk_tc (y := 0) ja_okT t1 (by decide +kernel)
  refine nk_getC (f := (4, 1, 48)) (x := 235) (len := 3) (ci := 0) (k := 13) (pc' := 36) ja_okT mJ_265 (by decide +kernel) (by decide +kernel) (by decide +kernel) (by decide) t2 rfl ?_
  have t3 : nk_ar ja_Tt (ja_c (ja_c (S.2 l0 1) 1) 13) = some (1, 48) := nk_ta ja_okT t2 (by decide +kernel)
  refine nk_p (i := .iload_n 3) (len := 1) (pc' := 37) mJ_265 (by decide +kernel) (ns_iload_n 3 rfl rfl) rfl ?_
  obtain ⟨h4, hr⟩ := nk_cke hr
  refine nk_iald (len := 1) (N := 48) (pc' := 38) mJ_265 (by decide +kernel) t3 h4.1 h4.2 rfl rfl ?_
  refine nk_icmp (c := .ge) (off := 53) (len := 3) (t := 91) (pc' := 41) mJ_265 (by decide +kernel) (by decide +kernel) rfl (fun hc => ?_) (fun hc => ?_)
  · have hr := nk_ifp (c := (S.1 (ja_c (ja_c (S.2 l0 1) 1) 13) l3.toNat) ≤ l4) hc hr
    refine nk_p (i := .iconst (-1)) (len := 1) (pc' := 92) mJ_265 (by decide +kernel) (ns_iconst (c := (-1)) (by decide +kernel)) rfl ?_
    cases hr
    exact nk_iret (ty := .int) (len := 1) mJ_265 (by decide +kernel) rfl (nk_nar_i _)
  · have hr := nk_ifn (c := (S.1 (ja_c (ja_c (S.2 l0 1) 1) 13) l3.toNat) ≤ l4) hc hr
    refine nk_p (i := .aload_n 0) (len := 1) (pc' := 42) mJ_265 (by decide +kernel) (ns_aload_n 0 rfl rfl) rfl ?_
    refine nk_getM (cj := 3) (z := 0) (x := 41) (len := 3) (ci := 2) (k := 1) (pc' := 45) ja_okT mJ_265 (by decide +kernel) (by decide +kernel) (by decide +kernel) t_l0 rfl (fun t5 => ?_)
    refine nk_p (i := .iload 4) (len := 2) (pc' := 47) mJ_265 (by decide +kernel) (ns_iload 4 rfl) rfl ?_
    refine nk_p (i := .iload_n 1) (len := 1) (pc' := 48) mJ_265 (by decide +kernel) (ns_iload_n 1 rfl rfl) rfl ?_
    obtain ⟨r6, S7, h8, hr⟩ := nk_bde hr
    refine nk_callV (ci := 3) (n := 2) (x := 238) (len := 3) (j' := 302) (q' := 1) (r := r6) (S' := S7) (L2 := [(0, nk_r (S.2 l0 1)), (1, nk_i l4), (2, nk_i l1)]) (rest := []) (st' := [nk_i r6]) (pc' := 51) mJ_265 (by decide +kernel) (by decide +kernel) rfl rfl t5 (Nat.le_of_ble_eq_true rfl) mJ_302 (Nat.le_of_ble_eq_true rfl) rfl (ja_X3_covers_ok zs _ _ _ _ _ t5 h8) rfl ?_
    refine nk_icond (c := .eq) (off := 34) (len := 3) (t := 85) (pc' := 54) mJ_265 (by decide +kernel) (by decide +kernel) rfl (fun hc => ?_) (fun hc => ?_)
    · have hr := nk_ifp (c := r6 = 0) hc hr
      obtain ⟨v9, h10, hr⟩ := nk_lte hr
      refine nk_p (i := .iinc 4 1) (len := 3) (pc' := 88) mJ_265 (by decide +kernel) (ns_iinc (c := 1) (L' := [(4, nk_i v9), (0, nk_r l0), (1, nk_i l1), (2, nk_i l2), (3, nk_i l3)]) 4 rfl (by decide +kernel) h10 rfl (by decide +kernel)) rfl ?_
      refine nk_p (i := .goto (-64)) (len := 3) (pc' := 24) mJ_265 (by decide +kernel) (ns_goto (by decide +kernel)) rfl ?_
      refine nk_sub [1, 2, 3, 4, 0] (L' := [(0, nk_r l0), (1, nk_i l1), (2, nk_i l2), (3, nk_i l3), (4, nk_i v9)]) rfl ?_
      exact hrec24 _ _ _ _ _ _ _ t_l0 hr
    · have hr := nk_ifn (c := r6 = 0) hc hr
      refine nk_p (i := .aload_n 0) (len := 1) (pc' := 55) mJ_265 (by decide +kernel) (ns_aload_n 0 rfl rfl) rfl ?_
      refine nk_getM (cj := 3) (z := 0) (x := 41) (len := 3) (ci := 2) (k := 1) (pc' := 58) ja_okT mJ_265 (by decide +kernel) (by decide +kernel) (by decide +kernel) t_l0 rfl (fun t11 => ?_)
      refine nk_getC (f := (2, 1, 0)) (x := 123) (len := 3) (ci := 3) (k := 0) (pc' := 61) ja_okT mJ_265 (by decide +kernel) (by decide +kernel) (by decide +kernel) (by decide) t11 rfl ?_
      have t12 : nk_cl ja_Tt (ja_c (S7.2 l0 1) 0) = some 1 := nk_tc (y := 0) ja_okT t11 (by decide +kernel)
      refine nk_p (i := .iload_n 2) (len := 1) (pc' := 62) mJ_265 (by decide +kernel) (ns_iload_n 2 rfl rfl) rfl ?_
      refine nk_p (i := .iconst 4) (len := 1) (pc' := 63) mJ_265 (by decide +kernel) (ns_iconst (c := 4) (by decide +kernel)) rfl ?_
      refine nk_p (i := .iconst 2) (len := 1) (pc' := 64) mJ_265 (by decide +kernel) (ns_iconst (c := 2) (by decide +kernel)) rfl ?_
      refine nk_p (i := .aload_n 0) (len := 1) (pc' := 65) mJ_265 (by decide +kernel) (ns_aload_n 0 rfl rfl) rfl ?_
      refine nk_getM (cj := 3) (z := 0) (x := 41) (len := 3) (ci := 2) (k := 1) (pc' := 68) ja_okT mJ_265 (by decide +kernel) (by decide +kernel) (by decide +kernel) t_l0 rfl (fun t13 => ?_)
      refine nk_getC (f := (4, 1, 64)) (x := 242) (len := 3) (ci := 3) (k := 16) (pc' := 71) ja_okT mJ_265 (by decide +kernel) (by decide +kernel) (by decide +kernel) (by decide) t13 rfl ?_
      have t14 : nk_ar ja_Tt (ja_c (S7.2 l0 1) 16) = some (1, 64) := nk_ta ja_okT t13 (by decide +kernel)
      refine nk_p (i := .iload 4) (len := 2) (pc' := 73) mJ_265 (by decide +kernel) (ns_iload 4 rfl) rfl ?_
      obtain ⟨h15, hr⟩ := nk_cke hr
      refine nk_iald (len := 1) (N := 64) (pc' := 74) mJ_265 (by decide +kernel) t14 h15.1 h15.2 rfl rfl ?_
      refine nk_p (i := .imul) (len := 1) (pc' := 75) mJ_265 (by decide +kernel) ns_imul rfl ?_
      refine nk_p (i := .iadd) (len := 1) (pc' := 76) mJ_265 (by decide +kernel) ns_iadd rfl ?_
      obtain ⟨r16, S17, h18, hr⟩ := nk_bde hr
      refine nk_callV (ci := 1) (n := 2) (x := 245) (len := 3) (j' := 256) (q' := 1) (r := r16) (S' := S17) (L2 := [(0, nk_r (ja_c (S7.2 l0 1) 0)), (1, nk_i l2), (2, nk_i (nk_w (4 + (nk_w (2 * (S7.1 (ja_c (S7.2 l0 1) 16) l4.toNat))))))]) (rest := []) (st' := [nk_i r16]) (pc' := 79) mJ_265 (by decide +kernel) (by decide +kernel) rfl rfl t12 (Nat.le_of_ble_eq_true rfl) mJ_256 (Nat.le_of_ble_eq_true rfl) rfl (ja_X1_isBelow_ok zs _ _ _ _ _ t12 h18) rfl ?_
      refine nk_icond (c := .eq) (off := 6) (len := 3) (t := 85) (pc' := 82) mJ_265 (by decide +kernel) (by decide +kernel) rfl (fun hc => ?_) (fun hc => ?_)
      · have hr := nk_ifp (c := r16 = 0) hc hr
        obtain ⟨v19, h20, hr⟩ := nk_lte hr
        refine nk_p (i := .iinc 4 1) (len := 3) (pc' := 88) mJ_265 (by decide +kernel) (ns_iinc (c := 1) (L' := [(4, nk_i v19), (0, nk_r l0), (1, nk_i l1), (2, nk_i l2), (3, nk_i l3)]) 4 rfl (by decide +kernel) h20 rfl (by decide +kernel)) rfl ?_
        refine nk_p (i := .goto (-64)) (len := 3) (pc' := 24) mJ_265 (by decide +kernel) (ns_goto (by decide +kernel)) rfl ?_
        refine nk_sub [1, 2, 3, 4, 0] (L' := [(0, nk_r l0), (1, nk_i l1), (2, nk_i l2), (3, nk_i l3), (4, nk_i v19)]) rfl ?_
        exact hrec24 _ _ _ _ _ _ _ t_l0 hr
      · have hr := nk_ifn (c := r16 = 0) hc hr
        refine nk_p (i := .iload 4) (len := 2) (pc' := 84) mJ_265 (by decide +kernel) (ns_iload 4 rfl) rfl ?_
        cases hr
        exact nk_iret (ty := .int) (len := 1) mJ_265 (by decide +kernel) rfl (nk_nar_i _)
noncomputable def ja_X2_catchOf_L24 : Nat → Nat → Int → Int → Int → Int → nk_S → Option (Int × nk_S)
  | 0, _, _, _, _, _, _ => none
  | n + 1, l0, l1, l2, l3, l4, S => ja_X2_catchOf_b24 (ja_X2_catchOf_L24 n) l0 l1 l2 l3 l4 S
theorem ja_X2_catchOf_L24_ok (zs : List Int32) : ∀ n : Nat, ∀ (l0 : Nat) (l1 : Int) (l2 : Int) (l3 : Int) (l4 : Int) (S : nk_S) (R : Int × nk_S), nk_cl ja_Tt l0 = some 2 → ja_X2_catchOf_L24 n l0 l1 l2 l3 l4 S = some R → nk_K ja_Tt mi_Γ (mi_ev zs) 1 265 24 [(0, nk_r l0), (1, nk_i l1), (2, nk_i l2), (3, nk_i l3), (4, nk_i l4)] [] S R := by
  intro n
  induction n with
  | zero => intro _ _ _ _ _ _ _ _ hr; cases hr
  | succ n ih => intro l0 l1 l2 l3 l4 S R t_l0 hr; exact ja_X2_catchOf_b24_ok zs ih l0 l1 l2 l3 l4 S R t_l0 hr
noncomputable def ja_X2_catchOf (l0 : Nat) (l1 : Int) (l2 : Int) (S : nk_S) : Option (Int × nk_S) :=
  if 0 ≤ l1 ∧ l1 < 1024 then
  nk_lt (S.1 (ja_c (S.2 l0 1) 8) l1.toNat) fun v4 =>
  if 0 ≤ v4 ∧ v4 < 48 then
  nk_lt (S.1 (ja_c (ja_c (S.2 l0 1) 1) 12) v4.toNat) fun v10 =>
  ja_X2_catchOf_L24 nk_big l0 l1 l2 v4 v10 S
  else none
  else none
theorem ja_X2_catchOf_ok (zs : List Int32) : ∀ (l0 : Nat) (l1 : Int) (l2 : Int) (S : nk_S) (R : Int × nk_S), nk_cl ja_Tt l0 = some 2 → ja_X2_catchOf l0 l1 l2 S = some R → nk_K ja_Tt mi_Γ (mi_ev zs) 1 265 0 [(0, nk_r l0), (1, nk_i l1), (2, nk_i l2)] [] S R := by
  intro l0 l1 l2 S R t_l0 hr
  unfold ja_X2_catchOf at hr
  refine nk_p (i := .aload_n 0) (len := 1) (pc' := 1) mJ_265 (by decide +kernel) (ns_aload_n 0 rfl rfl) rfl ?_
  refine nk_getM (cj := 3) (z := 0) (x := 41) (len := 3) (ci := 2) (k := 1) (pc' := 4) ja_okT mJ_265 (by decide +kernel) (by decide +kernel) (by decide +kernel) t_l0 rfl (fun t1 => ?_)
  refine nk_getC (f := (4, 1, 1024)) (x := 229) (len := 3) (ci := 3) (k := 8) (pc' := 7) ja_okT mJ_265 (by decide +kernel) (by decide +kernel) (by decide +kernel) (by decide) t1 rfl ?_
  have t2 : nk_ar ja_Tt (ja_c (S.2 l0 1) 8) = some (1, 1024) := nk_ta ja_okT t1 (by decide +kernel)
  refine nk_p (i := .iload_n 1) (len := 1) (pc' := 8) mJ_265 (by decide +kernel) (ns_iload_n 1 rfl rfl) rfl ?_
  obtain ⟨h3, hr⟩ := nk_cke hr
  refine nk_iald (len := 1) (N := 1024) (pc' := 9) mJ_265 (by decide +kernel) t2 h3.1 h3.2 rfl rfl ?_
  obtain ⟨v4, h5, hr⟩ := nk_lte hr
  refine nk_p (i := .istore_n 3) (len := 1) (pc' := 10) mJ_265 (by decide +kernel) (ns_istore_n (L' := [(3, nk_i v4), (0, nk_r l0), (1, nk_i l1), (2, nk_i l2)]) h5 rfl rfl (by decide +kernel)) rfl ?_
  refine nk_p (i := .aload_n 0) (len := 1) (pc' := 11) mJ_265 (by decide +kernel) (ns_aload_n 1 rfl rfl) rfl ?_
  refine nk_getM (cj := 3) (z := 0) (x := 41) (len := 3) (ci := 2) (k := 1) (pc' := 14) ja_okT mJ_265 (by decide +kernel) (by decide +kernel) (by decide +kernel) t_l0 rfl (fun t6 => ?_)
  refine nk_getC (f := (2, 0, 0)) (x := 70) (len := 3) (ci := 3) (k := 1) (pc' := 17) ja_okT mJ_265 (by decide +kernel) (by decide +kernel) (by decide +kernel) (by decide) t6 rfl ?_
  have t7 : nk_cl ja_Tt (ja_c (S.2 l0 1) 1) = some 0 := nk_tc (y := 0) ja_okT t6 (by decide +kernel)
  refine nk_getC (f := (4, 1, 48)) (x := 232) (len := 3) (ci := 0) (k := 12) (pc' := 20) ja_okT mJ_265 (by decide +kernel) (by decide +kernel) (by decide +kernel) (by decide) t7 rfl ?_
  have t8 : nk_ar ja_Tt (ja_c (ja_c (S.2 l0 1) 1) 12) = some (1, 48) := nk_ta ja_okT t7 (by decide +kernel)
  refine nk_p (i := .iload_n 3) (len := 1) (pc' := 21) mJ_265 (by decide +kernel) (ns_iload_n 0 rfl rfl) rfl ?_
  obtain ⟨h9, hr⟩ := nk_cke hr
  refine nk_iald (len := 1) (N := 48) (pc' := 22) mJ_265 (by decide +kernel) t8 h9.1 h9.2 rfl rfl ?_
  obtain ⟨v10, h11, hr⟩ := nk_lte hr
  refine nk_p (i := .istore 4) (len := 2) (pc' := 24) mJ_265 (by decide +kernel) (ns_istore (L' := [(4, nk_i v10), (3, nk_i v4), (0, nk_r l0), (1, nk_i l1), (2, nk_i l2)]) h11 rfl (by decide +kernel)) rfl ?_
  refine nk_sub [2, 3, 4, 1, 0] (L' := [(0, nk_r l0), (1, nk_i l1), (2, nk_i l2), (3, nk_i v4), (4, nk_i v10)]) rfl ?_
  exact ja_X2_catchOf_L24_ok zs nk_big _ _ _ _ _ _ _ t_l0 hr
/-! SafeCode$Machine throwObject (II)V -/
noncomputable def ja_X2_throwObject_b12 (rec12 : Nat → Int → Int → Int → Int → nk_S → Option (Int × nk_S)) (l0 : Nat) (l1 : Int) (l2 : Int) (l3 : Int) (l4 : Int) (S : nk_S) : Option (Int × nk_S) :=
  if 64 ≤ l4 then
    some (0, S)
  else
    if 0 ≤ (S.1 l0 5) ∧ (S.1 l0 5) < 64 then
    if 0 ≤ l3 ∧ l3 < 54 then
    nk_bd (ja_X2_catchOf l0 (S.1 (ja_c l0 3) (S.1 l0 5).toNat) (S.1 (ja_c (S.2 l0 1) 11) l3.toNat) S) fun r6 S7 =>
    if r6 < 0 then
      if (S7.1 l0 5) = 0 then
        nk_lt (nk_wi S7 l0 16 l3) fun S13 =>
        nk_bd (ja_X2_finish l0 1 l1 S13) fun r15 S16 =>
        some (0, S16)
      else
        nk_lt (nk_wi S7 l0 5 (nk_w ((S7.1 l0 5) - 1))) fun S9 =>
        nk_lt (nk_w (l4 + 1)) fun v11 =>
        rec12 l0 l1 l2 l3 v11 S9
    else
      if 0 ≤ (S7.1 l0 5) ∧ (S7.1 l0 5) < 64 then
      nk_lt (nk_wi S7 (ja_c l0 4) (S7.1 l0 5).toNat 0) fun S20 =>
      nk_bd (ja_X2_refCell l2 S20) fun r22 S23 =>
      nk_bd (ja_X2_push l0 r22 S23) fun r25 S26 =>
      if 0 ≤ r6 ∧ r6 < 64 then
      if 0 ≤ (S26.1 l0 5) ∧ (S26.1 l0 5) < 64 then
      nk_lt (nk_wi S26 (ja_c l0 3) (S26.1 l0 5).toNat (S26.1 (ja_c (S26.2 l0 1) 15) r6.toNat)) fun S32 =>
      some (0, S32)
      else none
      else none
      else none
    else none
    else none
theorem ja_X2_throwObject_b12_ok (zs : List Int32) {rec12 : Nat → Int → Int → Int → Int → nk_S → Option (Int × nk_S)} (hrec12 : ∀ (l0 : Nat) (l1 : Int) (l2 : Int) (l3 : Int) (l4 : Int) (S : nk_S) (R : Int × nk_S), nk_cl ja_Tt l0 = some 2 → rec12 l0 l1 l2 l3 l4 S = some R → nk_K ja_Tt mi_Γ (mi_ev zs) 0 291 12 [(0, nk_r l0), (1, nk_i l1), (2, nk_i l2), (3, nk_i l3), (4, nk_i l4)] [] S R) : ∀ (l0 : Nat) (l1 : Int) (l2 : Int) (l3 : Int) (l4 : Int) (S : nk_S) (R : Int × nk_S), nk_cl ja_Tt l0 = some 2 → ja_X2_throwObject_b12 rec12 l0 l1 l2 l3 l4 S = some R → nk_K ja_Tt mi_Γ (mi_ev zs) 0 291 12 [(0, nk_r l0), (1, nk_i l1), (2, nk_i l2), (3, nk_i l3), (4, nk_i l4)] [] S R := by
  intro l0 l1 l2 l3 l4 S R t_l0 hr
  unfold ja_X2_throwObject_b12 at hr
  refine nk_p (i := .iload 4) (len := 2) (pc' := 14) mJ_291 (by decide +kernel) (ns_iload 4 rfl) rfl ?_
  refine nk_p (i := .bipush 64) (len := 2) (pc' := 16) mJ_291 (by decide +kernel) (ns_bipush (c := 64) (by decide +kernel)) rfl ?_
  refine nk_icmp (c := .ge) (off := 105) (len := 3) (t := 121) (pc' := 19) mJ_291 (by decide +kernel) (by decide +kernel) rfl (fun hc => ?_) (fun hc => ?_)
  · have hr := nk_ifp (c := 64 ≤ l4) hc hr
    cases hr
    exact nk_vret (len := 1) mJ_291 (by decide +kernel) rfl
  · have hr := nk_ifn (c := 64 ≤ l4) hc hr
    refine nk_p (i := .aload_n 0) (len := 1) (pc' := 20) mJ_291 (by decide +kernel) (ns_aload_n 0 rfl rfl) rfl ?_
    refine nk_p (i := .aload_n 0) (len := 1) (pc' := 21) mJ_291 (by decide +kernel) (ns_aload_n 0 rfl rfl) rfl ?_
    refine nk_getC (f := (4, 1, 64)) (x := 15) (len := 3) (ci := 2) (k := 3) (pc' := 24) ja_okT mJ_291 (by decide +kernel) (by decide +kernel) (by decide +kernel) (by decide) t_l0 rfl ?_
    have t1 : nk_ar ja_Tt (ja_c l0 3) = some (1, 64) := nk_ta ja_okT t_l0 (by decide +kernel)
    refine nk_p (i := .aload_n 0) (len := 1) (pc' := 25) mJ_291 (by decide +kernel) (ns_aload_n 0 rfl rfl) rfl ?_
    refine nk_getI (y := (0, 0)) (x := 52) (len := 3) (ci := 2) (k := 5) (pc' := 28) ja_okT mJ_291 (by decide +kernel) (by decide +kernel) (by decide +kernel) t_l0 rfl ?_
    obtain ⟨h2, hr⟩ := nk_cke hr
    refine nk_iald (len := 1) (N := 64) (pc' := 29) mJ_291 (by decide +kernel) t1 h2.1 h2.2 rfl rfl ?_
    refine nk_p (i := .aload_n 0) (len := 1) (pc' := 30) mJ_291 (by decide +kernel) (ns_aload_n 0 rfl rfl) rfl ?_
    refine nk_getM (cj := 3) (z := 0) (x := 41) (len := 3) (ci := 2) (k := 1) (pc' := 33) ja_okT mJ_291 (by decide +kernel) (by decide +kernel) (by decide +kernel) t_l0 rfl (fun t3 => ?_)
    refine nk_getC (f := (4, 1, 54)) (x := 220) (len := 3) (ci := 3) (k := 11) (pc' := 36) ja_okT mJ_291 (by decide +kernel) (by decide +kernel) (by decide +kernel) (by decide) t3 rfl ?_
    have t4 : nk_ar ja_Tt (ja_c (S.2 l0 1) 11) = some (1, 54) := nk_ta ja_okT t3 (by decide +kernel)
    refine nk_p (i := .iload_n 3) (len := 1) (pc' := 37) mJ_291 (by decide +kernel) (ns_iload_n 3 rfl rfl) rfl ?_
    obtain ⟨h5, hr⟩ := nk_cke hr
    refine nk_iald (len := 1) (N := 54) (pc' := 38) mJ_291 (by decide +kernel) t4 h5.1 h5.2 rfl rfl ?_
    obtain ⟨r6, S7, h8, hr⟩ := nk_bde hr
    refine nk_callV (ci := 2) (n := 2) (x := 223) (len := 3) (j' := 265) (q' := 1) (r := r6) (S' := S7) (L2 := [(0, nk_r l0), (1, nk_i (S.1 (ja_c l0 3) (S.1 l0 5).toNat)), (2, nk_i (S.1 (ja_c (S.2 l0 1) 11) l3.toNat))]) (rest := []) (st' := [nk_i r6]) (pc' := 41) mJ_291 (by decide +kernel) (by decide +kernel) rfl rfl t_l0 (Nat.le_of_ble_eq_true rfl) mJ_265 (Nat.le_of_ble_eq_true rfl) rfl (ja_X2_catchOf_ok zs _ _ _ _ _ t_l0 h8) rfl ?_
    refine nk_p (i := .istore 5) (len := 2) (pc' := 43) mJ_291 (by decide +kernel) (ns_istore (L' := [(5, nk_i r6), (0, nk_r l0), (1, nk_i l1), (2, nk_i l2), (3, nk_i l3), (4, nk_i l4)]) rfl rfl (by decide +kernel)) rfl ?_
    refine nk_p (i := .iload 5) (len := 2) (pc' := 45) mJ_291 (by decide +kernel) (ns_iload 0 rfl) rfl ?_
    refine nk_icond (c := .lt) (off := 41) (len := 3) (t := 86) (pc' := 48) mJ_291 (by decide +kernel) (by decide +kernel) rfl (fun hc => ?_) (fun hc => ?_)
    · have hr := nk_ifp (c := r6 < 0) hc hr
      refine nk_p (i := .aload_n 0) (len := 1) (pc' := 87) mJ_291 (by decide +kernel) (ns_aload_n 1 rfl rfl) rfl ?_
      refine nk_getI (y := (0, 0)) (x := 52) (len := 3) (ci := 2) (k := 5) (pc' := 90) ja_okT mJ_291 (by decide +kernel) (by decide +kernel) (by decide +kernel) t_l0 rfl ?_
      refine nk_icond (c := .ne) (off := 15) (len := 3) (t := 105) (pc' := 93) mJ_291 (by decide +kernel) (by decide +kernel) rfl (fun hc => ?_) (fun hc => ?_)
      · have hr := nk_ifn (c := (S7.1 l0 5) = 0) hc hr
        refine nk_p (i := .aload_n 0) (len := 1) (pc' := 106) mJ_291 (by decide +kernel) (ns_aload_n 1 rfl rfl) rfl ?_
        refine nk_p (i := .dup) (len := 1) (pc' := 107) mJ_291 (by decide +kernel) (ns_dup rfl) rfl ?_
        refine nk_getI (y := (0, 0)) (x := 52) (len := 3) (ci := 2) (k := 5) (pc' := 110) ja_okT mJ_291 (by decide +kernel) (by decide +kernel) (by decide +kernel) t_l0 rfl ?_
        refine nk_p (i := .iconst 1) (len := 1) (pc' := 111) mJ_291 (by decide +kernel) (ns_iconst (c := 1) (by decide +kernel)) rfl ?_
        refine nk_p (i := .isub) (len := 1) (pc' := 112) mJ_291 (by decide +kernel) ns_isub rfl ?_
        obtain ⟨S9, h10, hr⟩ := nk_lte hr
        refine nk_putI (y := (0, 0)) (ty := .int) (x := 52) (len := 3) (ci := 2) (k := 5) (pc' := 115) ja_okT mJ_291 (by decide +kernel) (by decide +kernel) (by decide +kernel) t_l0 (Or.inl rfl) rfl h10 ?_
        obtain ⟨v11, h12, hr⟩ := nk_lte hr
        refine nk_p (i := .iinc 4 1) (len := 3) (pc' := 118) mJ_291 (by decide +kernel) (ns_iinc (c := 1) (L' := [(4, nk_i v11), (5, nk_i r6), (0, nk_r l0), (1, nk_i l1), (2, nk_i l2), (3, nk_i l3)]) 5 rfl (by decide +kernel) h12 rfl (by decide +kernel)) rfl ?_
        refine nk_p (i := .goto (-106)) (len := 3) (pc' := 12) mJ_291 (by decide +kernel) (ns_goto (by decide +kernel)) rfl ?_
        refine nk_sub [2, 3, 4, 5, 0] (L' := [(0, nk_r l0), (1, nk_i l1), (2, nk_i l2), (3, nk_i l3), (4, nk_i v11)]) rfl ?_
        exact hrec12 _ _ _ _ _ _ _ t_l0 hr
      · have hr := nk_ifp (c := (S7.1 l0 5) = 0) (Decidable.of_not_not hc) hr
        refine nk_p (i := .aload_n 0) (len := 1) (pc' := 94) mJ_291 (by decide +kernel) (ns_aload_n 1 rfl rfl) rfl ?_
        refine nk_p (i := .iload_n 3) (len := 1) (pc' := 95) mJ_291 (by decide +kernel) (ns_iload_n 4 rfl rfl) rfl ?_
        obtain ⟨S13, h14, hr⟩ := nk_lte hr
        refine nk_putI (y := (0, 0)) (ty := .int) (x := 35) (len := 3) (ci := 2) (k := 16) (pc' := 98) ja_okT mJ_291 (by decide +kernel) (by decide +kernel) (by decide +kernel) t_l0 (Or.inl rfl) rfl h14 ?_
        refine nk_p (i := .aload_n 0) (len := 1) (pc' := 99) mJ_291 (by decide +kernel) (ns_aload_n 1 rfl rfl) rfl ?_
        refine nk_p (i := .iconst 1) (len := 1) (pc' := 100) mJ_291 (by decide +kernel) (ns_iconst (c := 1) (by decide +kernel)) rfl ?_
        refine nk_p (i := .iload_n 1) (len := 1) (pc' := 101) mJ_291 (by decide +kernel) (ns_iload_n 2 rfl rfl) rfl ?_
        obtain ⟨r15, S16, h17, hr⟩ := nk_bde hr
        refine nk_callV (ci := 2) (n := 2) (x := 85) (len := 3) (j' := 270) (q' := 0) (r := r15) (S' := S16) (L2 := [(0, nk_r l0), (1, nk_i 1), (2, nk_i l1)]) (rest := []) (st' := []) (pc' := 104) mJ_291 (by decide +kernel) (by decide +kernel) rfl rfl t_l0 (Nat.le_of_ble_eq_true rfl) mJ_270 (Nat.le_of_ble_eq_true rfl) rfl (ja_X2_finish_ok zs _ _ _ _ _ t_l0 h17) rfl ?_
        cases hr
        exact nk_vret (len := 1) mJ_291 (by decide +kernel) rfl
    · have hr := nk_ifn (c := r6 < 0) hc hr
      refine nk_p (i := .aload_n 0) (len := 1) (pc' := 49) mJ_291 (by decide +kernel) (ns_aload_n 1 rfl rfl) rfl ?_
      refine nk_getC (f := (4, 1, 64)) (x := 19) (len := 3) (ci := 2) (k := 4) (pc' := 52) ja_okT mJ_291 (by decide +kernel) (by decide +kernel) (by decide +kernel) (by decide) t_l0 rfl ?_
      have t18 : nk_ar ja_Tt (ja_c l0 4) = some (1, 64) := nk_ta ja_okT t_l0 (by decide +kernel)
      refine nk_p (i := .aload_n 0) (len := 1) (pc' := 53) mJ_291 (by decide +kernel) (ns_aload_n 1 rfl rfl) rfl ?_
      refine nk_getI (y := (0, 0)) (x := 52) (len := 3) (ci := 2) (k := 5) (pc' := 56) ja_okT mJ_291 (by decide +kernel) (by decide +kernel) (by decide +kernel) t_l0 rfl ?_
      refine nk_p (i := .iconst 0) (len := 1) (pc' := 57) mJ_291 (by decide +kernel) (ns_iconst (c := 0) (by decide +kernel)) rfl ?_
      obtain ⟨h19, hr⟩ := nk_cke hr
      obtain ⟨S20, h21, hr⟩ := nk_lte hr
      refine nk_iast (len := 1) (N := 64) (pc' := 58) mJ_291 (by decide +kernel) t18 h19.1 h19.2 rfl rfl h21 ?_
      refine nk_p (i := .aload_n 0) (len := 1) (pc' := 59) mJ_291 (by decide +kernel) (ns_aload_n 1 rfl rfl) rfl ?_
      refine nk_p (i := .iload_n 2) (len := 1) (pc' := 60) mJ_291 (by decide +kernel) (ns_iload_n 3 rfl rfl) rfl ?_
      obtain ⟨r22, S23, h24, hr⟩ := nk_bde hr
      refine nk_callS (ci := 0) (n := 1) (x := 196) (len := 3) (j' := 290) (q' := 2) (r := r22) (S' := S23) (L2 := [(0, nk_i l2)]) (rest := [nk_r l0]) (st' := [nk_l r22, nk_r l0]) (pc' := 63) mJ_291 (by decide +kernel) (by decide +kernel) (Nat.le_of_ble_eq_true rfl) rfl rfl (Nat.le_of_ble_eq_true rfl) mJ_290 (Nat.le_of_ble_eq_true rfl) ja_Tpos rfl (ja_X2_refCell_ok zs _ _ _ h24) rfl ?_
      obtain ⟨r25, S26, h27, hr⟩ := nk_bde hr
      refine nk_callV (ci := 2) (n := 1) (x := 189) (len := 3) (j' := 288) (q' := 0) (r := r25) (S' := S26) (L2 := [(0, nk_r l0), (1, nk_l r22)]) (rest := []) (st' := []) (pc' := 66) mJ_291 (by decide +kernel) (by decide +kernel) rfl rfl t_l0 (Nat.le_of_ble_eq_true rfl) mJ_288 (Nat.le_of_ble_eq_true rfl) rfl (ja_X2_push_ok zs _ _ _ _ t_l0 h27) rfl ?_
      refine nk_p (i := .aload_n 0) (len := 1) (pc' := 67) mJ_291 (by decide +kernel) (ns_aload_n 1 rfl rfl) rfl ?_
      refine nk_getC (f := (4, 1, 64)) (x := 15) (len := 3) (ci := 2) (k := 3) (pc' := 70) ja_okT mJ_291 (by decide +kernel) (by decide +kernel) (by decide +kernel) (by decide) t_l0 rfl ?_
      refine nk_p (i := .aload_n 0) (len := 1) (pc' := 71) mJ_291 (by decide +kernel) (ns_aload_n 1 rfl rfl) rfl ?_
      refine nk_getI (y := (0, 0)) (x := 52) (len := 3) (ci := 2) (k := 5) (pc' := 74) ja_okT mJ_291 (by decide +kernel) (by decide +kernel) (by decide +kernel) t_l0 rfl ?_
      refine nk_p (i := .aload_n 0) (len := 1) (pc' := 75) mJ_291 (by decide +kernel) (ns_aload_n 1 rfl rfl) rfl ?_
      refine nk_getM (cj := 3) (z := 0) (x := 41) (len := 3) (ci := 2) (k := 1) (pc' := 78) ja_okT mJ_291 (by decide +kernel) (by decide +kernel) (by decide +kernel) t_l0 rfl (fun t28 => ?_)
      refine nk_getC (f := (4, 1, 64)) (x := 226) (len := 3) (ci := 3) (k := 15) (pc' := 81) ja_okT mJ_291 (by decide +kernel) (by decide +kernel) (by decide +kernel) (by decide) t28 rfl ?_
      have t29 : nk_ar ja_Tt (ja_c (S26.2 l0 1) 15) = some (1, 64) := nk_ta ja_okT t28 (by decide +kernel)
      refine nk_p (i := .iload 5) (len := 2) (pc' := 83) mJ_291 (by decide +kernel) (ns_iload 0 rfl) rfl ?_
      obtain ⟨h30, hr⟩ := nk_cke hr
      refine nk_iald (len := 1) (N := 64) (pc' := 84) mJ_291 (by decide +kernel) t29 h30.1 h30.2 rfl rfl ?_
      obtain ⟨h31, hr⟩ := nk_cke hr
      obtain ⟨S32, h33, hr⟩ := nk_lte hr
      refine nk_iast (len := 1) (N := 64) (pc' := 85) mJ_291 (by decide +kernel) t1 h31.1 h31.2 rfl rfl h33 ?_
      cases hr
      exact nk_vret (len := 1) mJ_291 (by decide +kernel) rfl
noncomputable def ja_X2_throwObject_L12 : Nat → Nat → Int → Int → Int → Int → nk_S → Option (Int × nk_S)
  | 0, _, _, _, _, _, _ => none
  | n + 1, l0, l1, l2, l3, l4, S => ja_X2_throwObject_b12 (ja_X2_throwObject_L12 n) l0 l1 l2 l3 l4 S
theorem ja_X2_throwObject_L12_ok (zs : List Int32) : ∀ n : Nat, ∀ (l0 : Nat) (l1 : Int) (l2 : Int) (l3 : Int) (l4 : Int) (S : nk_S) (R : Int × nk_S), nk_cl ja_Tt l0 = some 2 → ja_X2_throwObject_L12 n l0 l1 l2 l3 l4 S = some R → nk_K ja_Tt mi_Γ (mi_ev zs) 0 291 12 [(0, nk_r l0), (1, nk_i l1), (2, nk_i l2), (3, nk_i l3), (4, nk_i l4)] [] S R := by
  intro n
  induction n with
  | zero => intro _ _ _ _ _ _ _ _ hr; cases hr
  | succ n ih => intro l0 l1 l2 l3 l4 S R t_l0 hr; exact ja_X2_throwObject_b12_ok zs ih l0 l1 l2 l3 l4 S R t_l0 hr
noncomputable def ja_X2_throwObject (l0 : Nat) (l1 : Int) (l2 : Int) (S : nk_S) : Option (Int × nk_S) :=
  if 0 ≤ (nk_w (l2 - 1)) ∧ (nk_w (l2 - 1)) < 2000 then
  nk_lt (S.1 (ja_c l0 6) (nk_w (l2 - 1)).toNat) fun v3 =>
  ja_X2_throwObject_L12 nk_big l0 l1 l2 v3 0 S
  else none
theorem ja_X2_throwObject_ok (zs : List Int32) : ∀ (l0 : Nat) (l1 : Int) (l2 : Int) (S : nk_S) (R : Int × nk_S), nk_cl ja_Tt l0 = some 2 → ja_X2_throwObject l0 l1 l2 S = some R → nk_K ja_Tt mi_Γ (mi_ev zs) 0 291 0 [(0, nk_r l0), (1, nk_i l1), (2, nk_i l2)] [] S R := by
  intro l0 l1 l2 S R t_l0 hr
  unfold ja_X2_throwObject at hr
  refine nk_p (i := .aload_n 0) (len := 1) (pc' := 1) mJ_291 (by decide +kernel) (ns_aload_n 0 rfl rfl) rfl ?_
  refine nk_getC (f := (4, 1, 2000)) (x := 22) (len := 3) (ci := 2) (k := 6) (pc' := 4) ja_okT mJ_291 (by decide +kernel) (by decide +kernel) (by decide +kernel) (by decide) t_l0 rfl ?_
  have t1 : nk_ar ja_Tt (ja_c l0 6) = some (1, 2000) := nk_ta ja_okT t_l0 (by decide +kernel)
  refine nk_p (i := .iload_n 2) (len := 1) (pc' := 5) mJ_291 (by decide +kernel) (ns_iload_n 2 rfl rfl) rfl ?_
  refine nk_p (i := .iconst 1) (len := 1) (pc' := 6) mJ_291 (by decide +kernel) (ns_iconst (c := 1) (by decide +kernel)) rfl ?_
  refine nk_p (i := .isub) (len := 1) (pc' := 7) mJ_291 (by decide +kernel) ns_isub rfl ?_
  obtain ⟨h2, hr⟩ := nk_cke hr
  refine nk_iald (len := 1) (N := 2000) (pc' := 8) mJ_291 (by decide +kernel) t1 h2.1 h2.2 rfl rfl ?_
  obtain ⟨v3, h4, hr⟩ := nk_lte hr
  refine nk_p (i := .istore_n 3) (len := 1) (pc' := 9) mJ_291 (by decide +kernel) (ns_istore_n (L' := [(3, nk_i v3), (0, nk_r l0), (1, nk_i l1), (2, nk_i l2)]) h4 rfl rfl (by decide +kernel)) rfl ?_
  refine nk_p (i := .iconst 0) (len := 1) (pc' := 10) mJ_291 (by decide +kernel) (ns_iconst (c := 0) (by decide +kernel)) rfl ?_
  refine nk_p (i := .istore 4) (len := 2) (pc' := 12) mJ_291 (by decide +kernel) (ns_istore (L' := [(4, nk_i 0), (3, nk_i v3), (0, nk_r l0), (1, nk_i l1), (2, nk_i l2)]) rfl rfl (by decide +kernel)) rfl ?_
  refine nk_sub [2, 3, 4, 1, 0] (L' := [(0, nk_r l0), (1, nk_i l1), (2, nk_i l2), (3, nk_i v3), (4, nk_i 0)]) rfl ?_
  exact ja_X2_throwObject_L12_ok zs nk_big _ _ _ _ _ _ _ t_l0 hr
/-! SafeCode$Machine execute (LSafeCode$Program;I)I -/
noncomputable def ja_X2_execute_b159 (rec63 : Nat → Int → Int → nk_S → Option (Int × nk_S)) (l0 : Nat) (l2 : Int) (l3 : Int) (S : nk_S) : Option (Int × nk_S) :=
  if (S.1 l0 13) = 0 then
    nk_lt (nk_wi S l0 19 (nk_w ((S.1 l0 19) + 0))) fun S1 =>
    nk_lt (nk_w (l3 + 1)) fun v3 =>
    rec63 l0 l2 v3 S1
  else
    nk_lt (nk_wi S l0 19 (nk_w ((S.1 l0 19) + 1))) fun S5 =>
    nk_lt (nk_w (l3 + 1)) fun v7 =>
    rec63 l0 l2 v7 S5
theorem ja_X2_execute_b159_ok (zs : List Int32) {rec63 : Nat → Int → Int → nk_S → Option (Int × nk_S)} (hrec63 : ∀ (l0 : Nat) (l2 : Int) (l3 : Int) (S : nk_S) (R : Int × nk_S), nk_cl ja_Tt l0 = some 2 → rec63 l0 l2 l3 S = some R → nk_K ja_Tt mi_Γ (mi_ev zs) 1 268 63 [(0, nk_r l0), (2, nk_i l2), (3, nk_i l3)] [] S R) : ∀ (l0 : Nat) (l2 : Int) (l3 : Int) (S : nk_S) (R : Int × nk_S), nk_cl ja_Tt l0 = some 2 → ja_X2_execute_b159 rec63 l0 l2 l3 S = some R → nk_K ja_Tt mi_Γ (mi_ev zs) 1 268 159 [(0, nk_r l0), (2, nk_i l2), (3, nk_i l3)] [] S R := by
  intro l0 l2 l3 S R t_l0 hr
  unfold ja_X2_execute_b159 at hr
  refine nk_p (i := .aload_n 0) (len := 1) (pc' := 160) mJ_268 (by decide +kernel) (ns_aload_n 0 rfl rfl) rfl ?_
  refine nk_p (i := .dup) (len := 1) (pc' := 161) mJ_268 (by decide +kernel) (ns_dup rfl) rfl ?_
  refine nk_getI (y := (0, 0)) (x := 104) (len := 3) (ci := 2) (k := 19) (pc' := 164) ja_okT mJ_268 (by decide +kernel) (by decide +kernel) (by decide +kernel) t_l0 rfl ?_
  refine nk_p (i := .aload_n 0) (len := 1) (pc' := 165) mJ_268 (by decide +kernel) (ns_aload_n 0 rfl rfl) rfl ?_
  refine nk_getI (y := (0, 0)) (x := 93) (len := 3) (ci := 2) (k := 13) (pc' := 168) ja_okT mJ_268 (by decide +kernel) (by decide +kernel) (by decide +kernel) t_l0 rfl ?_
  refine nk_icond (c := .eq) (off := 7) (len := 3) (t := 175) (pc' := 171) mJ_268 (by decide +kernel) (by decide +kernel) rfl (fun hc => ?_) (fun hc => ?_)
  · have hr := nk_ifp (c := (S.1 l0 13) = 0) hc hr
    refine nk_p (i := .iconst 0) (len := 1) (pc' := 176) mJ_268 (by decide +kernel) (ns_iconst (c := 0) (by decide +kernel)) rfl ?_
    refine nk_p (i := .iadd) (len := 1) (pc' := 177) mJ_268 (by decide +kernel) ns_iadd rfl ?_
    obtain ⟨S1, h2, hr⟩ := nk_lte hr
    refine nk_putI (y := (0, 0)) (ty := .int) (x := 104) (len := 3) (ci := 2) (k := 19) (pc' := 180) ja_okT mJ_268 (by decide +kernel) (by decide +kernel) (by decide +kernel) t_l0 (Or.inl rfl) rfl h2 ?_
    obtain ⟨v3, h4, hr⟩ := nk_lte hr
    refine nk_p (i := .iinc 3 1) (len := 3) (pc' := 183) mJ_268 (by decide +kernel) (ns_iinc (c := 1) (L' := [(3, nk_i v3), (0, nk_r l0), (2, nk_i l2)]) 2 rfl (by decide +kernel) h4 rfl (by decide +kernel)) rfl ?_
    refine nk_p (i := .goto (-120)) (len := 3) (pc' := 63) mJ_268 (by decide +kernel) (ns_goto (by decide +kernel)) rfl ?_
    refine nk_sub [1, 2, 0] (L' := [(0, nk_r l0), (2, nk_i l2), (3, nk_i v3)]) rfl ?_
    exact hrec63 _ _ _ _ _ t_l0 hr
  · have hr := nk_ifn (c := (S.1 l0 13) = 0) hc hr
    refine nk_p (i := .iconst 1) (len := 1) (pc' := 172) mJ_268 (by decide +kernel) (ns_iconst (c := 1) (by decide +kernel)) rfl ?_
    refine nk_p (i := .goto 4) (len := 3) (pc' := 176) mJ_268 (by decide +kernel) (ns_goto (by decide +kernel)) rfl ?_
    refine nk_p (i := .iadd) (len := 1) (pc' := 177) mJ_268 (by decide +kernel) ns_iadd rfl ?_
    obtain ⟨S5, h6, hr⟩ := nk_lte hr
    refine nk_putI (y := (0, 0)) (ty := .int) (x := 104) (len := 3) (ci := 2) (k := 19) (pc' := 180) ja_okT mJ_268 (by decide +kernel) (by decide +kernel) (by decide +kernel) t_l0 (Or.inl rfl) rfl h6 ?_
    obtain ⟨v7, h8, hr⟩ := nk_lte hr
    refine nk_p (i := .iinc 3 1) (len := 3) (pc' := 183) mJ_268 (by decide +kernel) (ns_iinc (c := 1) (L' := [(3, nk_i v7), (0, nk_r l0), (2, nk_i l2)]) 2 rfl (by decide +kernel) h8 rfl (by decide +kernel)) rfl ?_
    refine nk_p (i := .goto (-120)) (len := 3) (pc' := 63) mJ_268 (by decide +kernel) (ns_goto (by decide +kernel)) rfl ?_
    refine nk_sub [1, 2, 0] (L' := [(0, nk_r l0), (2, nk_i l2), (3, nk_i v7)]) rfl ?_
    exact hrec63 _ _ _ _ _ t_l0 hr
noncomputable def ja_X2_execute_b124 (rec63 : Nat → Int → Int → nk_S → Option (Int × nk_S)) (l0 : Nat) (l2 : Int) (l3 : Int) (s0 : Nat) (s1 : Int) (S : nk_S) : Option (Int × nk_S) :=
  if s1 = 0 ∨ s1 = 1 then
  nk_lt (nk_wi S s0 13 s1) fun S1 =>
  if 0 ≤ (S1.1 l0 5) ∧ (S1.1 l0 5) < 64 then
  nk_lt (S1.1 (ja_c l0 3) (S1.1 l0 5).toNat) fun v6 =>
  nk_bd (ja_X2_perform l0 v6 S1) fun r8 S9 =>
  if r8 = 0 then
    ja_X2_execute_b159 rec63 l0 l2 l3 S9
  else
    nk_bd (ja_X2_throwObject l0 v6 r8 S9) fun r11 S12 =>
    ja_X2_execute_b159 rec63 l0 l2 l3 S12
  else none
  else none
theorem ja_X2_execute_b124_ok (zs : List Int32) {rec63 : Nat → Int → Int → nk_S → Option (Int × nk_S)} (hrec63 : ∀ (l0 : Nat) (l2 : Int) (l3 : Int) (S : nk_S) (R : Int × nk_S), nk_cl ja_Tt l0 = some 2 → rec63 l0 l2 l3 S = some R → nk_K ja_Tt mi_Γ (mi_ev zs) 1 268 63 [(0, nk_r l0), (2, nk_i l2), (3, nk_i l3)] [] S R) : ∀ (l0 : Nat) (l2 : Int) (l3 : Int) (s0 : Nat) (s1 : Int) (S : nk_S) (R : Int × nk_S), nk_cl ja_Tt l0 = some 2 → nk_cl ja_Tt s0 = some 2 → ja_X2_execute_b124 rec63 l0 l2 l3 s0 s1 S = some R → nk_K ja_Tt mi_Γ (mi_ev zs) 1 268 124 [(0, nk_r l0), (2, nk_i l2), (3, nk_i l3)] [nk_i s1, nk_r s0] S R := by
  intro l0 l2 l3 s0 s1 S R t_l0 t_s0 hr
  unfold ja_X2_execute_b124 at hr
  obtain ⟨h3, hr⟩ := nk_cke hr
  obtain ⟨S1, h2, hr⟩ := nk_lte hr
  refine nk_putI (y := (0, 0)) (ty := .boolean) (x := 93) (len := 3) (ci := 2) (k := 13) (pc' := 127) ja_okT mJ_268 (by decide +kernel) (by decide +kernel) (by decide +kernel) t_s0 (Or.inr ⟨rfl, h3⟩) rfl h2 ?_
  refine nk_p (i := .aload_n 0) (len := 1) (pc' := 128) mJ_268 (by decide +kernel) (ns_aload_n 0 rfl rfl) rfl ?_
  refine nk_getC (f := (4, 1, 64)) (x := 15) (len := 3) (ci := 2) (k := 3) (pc' := 131) ja_okT mJ_268 (by decide +kernel) (by decide +kernel) (by decide +kernel) (by decide) t_l0 rfl ?_
  have t4 : nk_ar ja_Tt (ja_c l0 3) = some (1, 64) := nk_ta ja_okT t_l0 (by decide +kernel)
  refine nk_p (i := .aload_n 0) (len := 1) (pc' := 132) mJ_268 (by decide +kernel) (ns_aload_n 0 rfl rfl) rfl ?_
  refine nk_getI (y := (0, 0)) (x := 52) (len := 3) (ci := 2) (k := 5) (pc' := 135) ja_okT mJ_268 (by decide +kernel) (by decide +kernel) (by decide +kernel) t_l0 rfl ?_
  obtain ⟨h5, hr⟩ := nk_cke hr
  refine nk_iald (len := 1) (N := 64) (pc' := 136) mJ_268 (by decide +kernel) t4 h5.1 h5.2 rfl rfl ?_
  obtain ⟨v6, h7, hr⟩ := nk_lte hr
  refine nk_p (i := .istore 4) (len := 2) (pc' := 138) mJ_268 (by decide +kernel) (ns_istore (L' := [(4, nk_i v6), (0, nk_r l0), (2, nk_i l2), (3, nk_i l3)]) h7 rfl (by decide +kernel)) rfl ?_
  refine nk_p (i := .aload_n 0) (len := 1) (pc' := 139) mJ_268 (by decide +kernel) (ns_aload_n 1 rfl rfl) rfl ?_
  refine nk_p (i := .iload 4) (len := 2) (pc' := 141) mJ_268 (by decide +kernel) (ns_iload 0 rfl) rfl ?_
  obtain ⟨r8, S9, h10, hr⟩ := nk_bde hr
  refine nk_callV (ci := 2) (n := 1) (x := 97) (len := 3) (j' := 287) (q' := 1) (r := r8) (S' := S9) (L2 := [(0, nk_r l0), (1, nk_i v6)]) (rest := []) (st' := [nk_i r8]) (pc' := 144) mJ_268 (by decide +kernel) (by decide +kernel) rfl rfl t_l0 (Nat.le_of_ble_eq_true rfl) mJ_287 (Nat.le_of_ble_eq_true rfl) rfl (ja_X2_perform_ok zs _ _ _ _ t_l0 h10) rfl ?_
  refine nk_p (i := .istore 5) (len := 2) (pc' := 146) mJ_268 (by decide +kernel) (ns_istore (L' := [(5, nk_i r8), (4, nk_i v6), (0, nk_r l0), (2, nk_i l2), (3, nk_i l3)]) rfl rfl (by decide +kernel)) rfl ?_
  refine nk_p (i := .iload 5) (len := 2) (pc' := 148) mJ_268 (by decide +kernel) (ns_iload 0 rfl) rfl ?_
  refine nk_icond (c := .eq) (off := 11) (len := 3) (t := 159) (pc' := 151) mJ_268 (by decide +kernel) (by decide +kernel) rfl (fun hc => ?_) (fun hc => ?_)
  · have hr := nk_ifp (c := r8 = 0) hc hr
    refine nk_sub [2, 3, 4] (L' := [(0, nk_r l0), (2, nk_i l2), (3, nk_i l3)]) rfl ?_
    exact ja_X2_execute_b159_ok zs hrec63 _ _ _ _ _ t_l0 hr
  · have hr := nk_ifn (c := r8 = 0) hc hr
    refine nk_p (i := .aload_n 0) (len := 1) (pc' := 152) mJ_268 (by decide +kernel) (ns_aload_n 2 rfl rfl) rfl ?_
    refine nk_p (i := .iload 4) (len := 2) (pc' := 154) mJ_268 (by decide +kernel) (ns_iload 1 rfl) rfl ?_
    refine nk_p (i := .iload 5) (len := 2) (pc' := 156) mJ_268 (by decide +kernel) (ns_iload 0 rfl) rfl ?_
    obtain ⟨r11, S12, h13, hr⟩ := nk_bde hr
    refine nk_callV (ci := 2) (n := 2) (x := 101) (len := 3) (j' := 291) (q' := 0) (r := r11) (S' := S12) (L2 := [(0, nk_r l0), (1, nk_i v6), (2, nk_i r8)]) (rest := []) (st' := []) (pc' := 159) mJ_268 (by decide +kernel) (by decide +kernel) rfl rfl t_l0 (Nat.le_of_ble_eq_true rfl) mJ_291 (Nat.le_of_ble_eq_true rfl) rfl (ja_X2_throwObject_ok zs _ _ _ _ _ t_l0 h13) rfl ?_
    refine nk_sub [2, 3, 4] (L' := [(0, nk_r l0), (2, nk_i l2), (3, nk_i l3)]) rfl ?_
    exact ja_X2_execute_b159_ok zs hrec63 _ _ _ _ _ t_l0 hr
noncomputable def ja_X2_execute_b63 (rec63 : Nat → Int → Int → nk_S → Option (Int × nk_S)) (l0 : Nat) (l2 : Int) (l3 : Int) (S : nk_S) : Option (Int × nk_S) :=
  if l2 < l3 then
    some ((S.1 l0 12), S)
  else
    if (S.1 l0 12) = 5 then
      if (S.1 l0 14) < l2 then
        nk_lt (nk_wi S l0 14 (nk_w ((S.1 l0 14) + 1))) fun S1 =>
        nk_bd (ja_X2_isAsProved l0 S1) fun r3 S4 =>
        if r3 = 0 then
          ja_X2_execute_b124 rec63 l0 l2 l3 l0 1 S4
        else
          ja_X2_execute_b124 rec63 l0 l2 l3 l0 0 S4
      else
        if 0 ≤ (S.1 l0 5) ∧ (S.1 l0 5) < 64 then
        nk_bd (ja_X2_finish l0 2 (S.1 (ja_c l0 3) (S.1 l0 5).toNat) S) fun r8 S9 =>
        nk_lt (nk_w (l3 + 1)) fun v11 =>
        rec63 l0 l2 v11 S9
        else none
    else
      some ((S.1 l0 12), S)
theorem ja_X2_execute_b63_ok (zs : List Int32) {rec63 : Nat → Int → Int → nk_S → Option (Int × nk_S)} (hrec63 : ∀ (l0 : Nat) (l2 : Int) (l3 : Int) (S : nk_S) (R : Int × nk_S), nk_cl ja_Tt l0 = some 2 → rec63 l0 l2 l3 S = some R → nk_K ja_Tt mi_Γ (mi_ev zs) 1 268 63 [(0, nk_r l0), (2, nk_i l2), (3, nk_i l3)] [] S R) : ∀ (l0 : Nat) (l2 : Int) (l3 : Int) (S : nk_S) (R : Int × nk_S), nk_cl ja_Tt l0 = some 2 → ja_X2_execute_b63 rec63 l0 l2 l3 S = some R → nk_K ja_Tt mi_Γ (mi_ev zs) 1 268 63 [(0, nk_r l0), (2, nk_i l2), (3, nk_i l3)] [] S R := by
  intro l0 l2 l3 S R t_l0 hr
  unfold ja_X2_execute_b63 at hr
  refine nk_p (i := .iload_n 3) (len := 1) (pc' := 64) mJ_268 (by decide +kernel) (ns_iload_n 2 rfl rfl) rfl ?_
  refine nk_p (i := .iload_n 2) (len := 1) (pc' := 65) mJ_268 (by decide +kernel) (ns_iload_n 1 rfl rfl) rfl ?_
  refine nk_icmp (c := .gt) (off := 121) (len := 3) (t := 186) (pc' := 68) mJ_268 (by decide +kernel) (by decide +kernel) rfl (fun hc => ?_) (fun hc => ?_)
  · have hr := nk_ifp (c := l2 < l3) hc hr
    refine nk_p (i := .aload_n 0) (len := 1) (pc' := 187) mJ_268 (by decide +kernel) (ns_aload_n 0 rfl rfl) rfl ?_
    refine nk_getI (y := (0, 0)) (x := 61) (len := 3) (ci := 2) (k := 12) (pc' := 190) ja_okT mJ_268 (by decide +kernel) (by decide +kernel) (by decide +kernel) t_l0 rfl ?_
    cases hr
    exact nk_iret (ty := .int) (len := 1) mJ_268 (by decide +kernel) rfl (nk_nar_i _)
  · have hr := nk_ifn (c := l2 < l3) hc hr
    refine nk_p (i := .aload_n 0) (len := 1) (pc' := 69) mJ_268 (by decide +kernel) (ns_aload_n 0 rfl rfl) rfl ?_
    refine nk_getI (y := (0, 0)) (x := 61) (len := 3) (ci := 2) (k := 12) (pc' := 72) ja_okT mJ_268 (by decide +kernel) (by decide +kernel) (by decide +kernel) t_l0 rfl ?_
    refine nk_p (i := .iconst 5) (len := 1) (pc' := 73) mJ_268 (by decide +kernel) (ns_iconst (c := 5) (by decide +kernel)) rfl ?_
    refine nk_icmp (c := .ne) (off := 113) (len := 3) (t := 186) (pc' := 76) mJ_268 (by decide +kernel) (by decide +kernel) rfl (fun hc => ?_) (fun hc => ?_)
    · have hr := nk_ifn (c := (S.1 l0 12) = 5) hc hr
      refine nk_p (i := .aload_n 0) (len := 1) (pc' := 187) mJ_268 (by decide +kernel) (ns_aload_n 0 rfl rfl) rfl ?_
      refine nk_getI (y := (0, 0)) (x := 61) (len := 3) (ci := 2) (k := 12) (pc' := 190) ja_okT mJ_268 (by decide +kernel) (by decide +kernel) (by decide +kernel) t_l0 rfl ?_
      cases hr
      exact nk_iret (ty := .int) (len := 1) mJ_268 (by decide +kernel) rfl (nk_nar_i _)
    · have hr := nk_ifp (c := (S.1 l0 12) = 5) (Decidable.of_not_not hc) hr
      refine nk_p (i := .aload_n 0) (len := 1) (pc' := 77) mJ_268 (by decide +kernel) (ns_aload_n 0 rfl rfl) rfl ?_
      refine nk_getI (y := (0, 0)) (x := 64) (len := 3) (ci := 2) (k := 14) (pc' := 80) ja_okT mJ_268 (by decide +kernel) (by decide +kernel) (by decide +kernel) t_l0 rfl ?_
      refine nk_p (i := .iload_n 2) (len := 1) (pc' := 81) mJ_268 (by decide +kernel) (ns_iload_n 1 rfl rfl) rfl ?_
      refine nk_icmp (c := .lt) (off := 20) (len := 3) (t := 101) (pc' := 84) mJ_268 (by decide +kernel) (by decide +kernel) rfl (fun hc => ?_) (fun hc => ?_)
      · have hr := nk_ifp (c := (S.1 l0 14) < l2) hc hr
        refine nk_p (i := .aload_n 0) (len := 1) (pc' := 102) mJ_268 (by decide +kernel) (ns_aload_n 0 rfl rfl) rfl ?_
        refine nk_p (i := .dup) (len := 1) (pc' := 103) mJ_268 (by decide +kernel) (ns_dup rfl) rfl ?_
        refine nk_getI (y := (0, 0)) (x := 64) (len := 3) (ci := 2) (k := 14) (pc' := 106) ja_okT mJ_268 (by decide +kernel) (by decide +kernel) (by decide +kernel) t_l0 rfl ?_
        refine nk_p (i := .iconst 1) (len := 1) (pc' := 107) mJ_268 (by decide +kernel) (ns_iconst (c := 1) (by decide +kernel)) rfl ?_
        refine nk_p (i := .iadd) (len := 1) (pc' := 108) mJ_268 (by decide +kernel) ns_iadd rfl ?_
        obtain ⟨S1, h2, hr⟩ := nk_lte hr
        refine nk_putI (y := (0, 0)) (ty := .int) (x := 64) (len := 3) (ci := 2) (k := 14) (pc' := 111) ja_okT mJ_268 (by decide +kernel) (by decide +kernel) (by decide +kernel) t_l0 (Or.inl rfl) rfl h2 ?_
        refine nk_p (i := .aload_n 0) (len := 1) (pc' := 112) mJ_268 (by decide +kernel) (ns_aload_n 0 rfl rfl) rfl ?_
        refine nk_p (i := .aload_n 0) (len := 1) (pc' := 113) mJ_268 (by decide +kernel) (ns_aload_n 0 rfl rfl) rfl ?_
        obtain ⟨r3, S4, h5, hr⟩ := nk_bde hr
        refine nk_callV (ci := 2) (n := 0) (x := 89) (len := 3) (j' := 275) (q' := 1) (r := r3) (S' := S4) (L2 := [(0, nk_r l0)]) (rest := [nk_r l0]) (st' := [nk_i r3, nk_r l0]) (pc' := 116) mJ_268 (by decide +kernel) (by decide +kernel) rfl rfl t_l0 (Nat.le_of_ble_eq_true rfl) mJ_275 (Nat.le_of_ble_eq_true rfl) rfl (ja_X2_isAsProved_ok zs _ _ _ t_l0 h5) rfl ?_
        refine nk_icond (c := .ne) (off := 7) (len := 3) (t := 123) (pc' := 119) mJ_268 (by decide +kernel) (by decide +kernel) rfl (fun hc => ?_) (fun hc => ?_)
        · have hr := nk_ifn (c := r3 = 0) hc hr
          refine nk_p (i := .iconst 0) (len := 1) (pc' := 124) mJ_268 (by decide +kernel) (ns_iconst (c := 0) (by decide +kernel)) rfl ?_
          exact ja_X2_execute_b124_ok zs hrec63 _ _ _ _ _ _ _ t_l0 t_l0 hr
        · have hr := nk_ifp (c := r3 = 0) (Decidable.of_not_not hc) hr
          refine nk_p (i := .iconst 1) (len := 1) (pc' := 120) mJ_268 (by decide +kernel) (ns_iconst (c := 1) (by decide +kernel)) rfl ?_
          refine nk_p (i := .goto 4) (len := 3) (pc' := 124) mJ_268 (by decide +kernel) (ns_goto (by decide +kernel)) rfl ?_
          exact ja_X2_execute_b124_ok zs hrec63 _ _ _ _ _ _ _ t_l0 t_l0 hr
      · have hr := nk_ifn (c := (S.1 l0 14) < l2) hc hr
        refine nk_p (i := .aload_n 0) (len := 1) (pc' := 85) mJ_268 (by decide +kernel) (ns_aload_n 0 rfl rfl) rfl ?_
        refine nk_p (i := .iconst 2) (len := 1) (pc' := 86) mJ_268 (by decide +kernel) (ns_iconst (c := 2) (by decide +kernel)) rfl ?_
        refine nk_p (i := .aload_n 0) (len := 1) (pc' := 87) mJ_268 (by decide +kernel) (ns_aload_n 0 rfl rfl) rfl ?_
        refine nk_getC (f := (4, 1, 64)) (x := 15) (len := 3) (ci := 2) (k := 3) (pc' := 90) ja_okT mJ_268 (by decide +kernel) (by decide +kernel) (by decide +kernel) (by decide) t_l0 rfl ?_
        have t6 : nk_ar ja_Tt (ja_c l0 3) = some (1, 64) := nk_ta ja_okT t_l0 (by decide +kernel)
        refine nk_p (i := .aload_n 0) (len := 1) (pc' := 91) mJ_268 (by decide +kernel) (ns_aload_n 0 rfl rfl) rfl ?_
        refine nk_getI (y := (0, 0)) (x := 52) (len := 3) (ci := 2) (k := 5) (pc' := 94) ja_okT mJ_268 (by decide +kernel) (by decide +kernel) (by decide +kernel) t_l0 rfl ?_
        obtain ⟨h7, hr⟩ := nk_cke hr
        refine nk_iald (len := 1) (N := 64) (pc' := 95) mJ_268 (by decide +kernel) t6 h7.1 h7.2 rfl rfl ?_
        obtain ⟨r8, S9, h10, hr⟩ := nk_bde hr
        refine nk_callV (ci := 2) (n := 2) (x := 85) (len := 3) (j' := 270) (q' := 0) (r := r8) (S' := S9) (L2 := [(0, nk_r l0), (1, nk_i 2), (2, nk_i (S.1 (ja_c l0 3) (S.1 l0 5).toNat))]) (rest := []) (st' := []) (pc' := 98) mJ_268 (by decide +kernel) (by decide +kernel) rfl rfl t_l0 (Nat.le_of_ble_eq_true rfl) mJ_270 (Nat.le_of_ble_eq_true rfl) rfl (ja_X2_finish_ok zs _ _ _ _ _ t_l0 h10) rfl ?_
        refine nk_p (i := .goto 82) (len := 3) (pc' := 180) mJ_268 (by decide +kernel) (ns_goto (by decide +kernel)) rfl ?_
        obtain ⟨v11, h12, hr⟩ := nk_lte hr
        refine nk_p (i := .iinc 3 1) (len := 3) (pc' := 183) mJ_268 (by decide +kernel) (ns_iinc (c := 1) (L' := [(3, nk_i v11), (0, nk_r l0), (2, nk_i l2)]) 2 rfl (by decide +kernel) h12 rfl (by decide +kernel)) rfl ?_
        refine nk_p (i := .goto (-120)) (len := 3) (pc' := 63) mJ_268 (by decide +kernel) (ns_goto (by decide +kernel)) rfl ?_
        refine nk_sub [1, 2, 0] (L' := [(0, nk_r l0), (2, nk_i l2), (3, nk_i v11)]) rfl ?_
        exact hrec63 _ _ _ _ _ t_l0 hr
noncomputable def ja_X2_execute_L63 : Nat → Nat → Int → Int → nk_S → Option (Int × nk_S)
  | 0, _, _, _, _ => none
  | n + 1, l0, l2, l3, S => ja_X2_execute_b63 (ja_X2_execute_L63 n) l0 l2 l3 S
theorem ja_X2_execute_L63_ok (zs : List Int32) : ∀ n : Nat, ∀ (l0 : Nat) (l2 : Int) (l3 : Int) (S : nk_S) (R : Int × nk_S), nk_cl ja_Tt l0 = some 2 → ja_X2_execute_L63 n l0 l2 l3 S = some R → nk_K ja_Tt mi_Γ (mi_ev zs) 1 268 63 [(0, nk_r l0), (2, nk_i l2), (3, nk_i l3)] [] S R := by
  intro n
  induction n with
  | zero => intro _ _ _ _ _ _ hr; cases hr
  | succ n ih => intro l0 l2 l3 S R t_l0 hr; exact ja_X2_execute_b63_ok zs ih l0 l2 l3 S R t_l0 hr
noncomputable def ja_X2_execute (l0 : Nat) (l1 : Nat) (l2 : Int) (S : nk_S) : Option (Int × nk_S) :=
  nk_lt (nk_wr S l0 1 l1) fun S1 =>
  nk_lt (nk_wi S1 l0 5 0) fun S3 =>
  nk_lt (nk_wi S3 l0 8 0) fun S5 =>
  nk_lt (nk_wi S5 (ja_c l0 7) 0 0) fun S8 =>
  nk_lt (nk_wi S8 l0 11 0) fun S10 =>
  nk_lt (nk_wi S10 l0 12 5) fun S12 =>
  nk_lt (nk_wi S12 l0 14 0) fun S14 =>
  nk_lt (nk_wi S14 l0 16 (-1)) fun S16 =>
  nk_lt (nk_wi S16 l0 17 0) fun S18 =>
  nk_bd (ja_X2_beginBody l0 (S18.1 (ja_c (S18.2 l0 1) 1) 1) S18) fun r22 S23 =>
  ja_X2_execute_L63 nk_big l0 l2 0 S23
theorem ja_X2_execute_ok (zs : List Int32) : ∀ (l0 : Nat) (l1 : Nat) (l2 : Int) (S : nk_S) (R : Int × nk_S), nk_cl ja_Tt l0 = some 2 → nk_cl ja_Tt l1 = some 3 → ja_X2_execute l0 l1 l2 S = some R → nk_K ja_Tt mi_Γ (mi_ev zs) 1 268 0 [(0, nk_r l0), (1, nk_r l1), (2, nk_i l2)] [] S R := by
  intro l0 l1 l2 S R t_l0 t_l1 hr
  unfold ja_X2_execute at hr
  refine nk_p (i := .aload_n 0) (len := 1) (pc' := 1) mJ_268 (by decide +kernel) (ns_aload_n 0 rfl rfl) rfl ?_
  refine nk_p (i := .aload_n 1) (len := 1) (pc' := 2) mJ_268 (by decide +kernel) (ns_aload_n 1 rfl rfl) rfl ?_
  obtain ⟨S1, h2, hr⟩ := nk_lte hr
  refine nk_putM (cj := 3) (z := 0) (on := "SafeCode$Program") (x := 41) (len := 3) (ci := 2) (k := 1) (pc' := 5) ja_okT mJ_268 (by decide +kernel) (by decide +kernel) (by decide +kernel) t_l0 t_l1 rfl h2 ?_
  refine nk_p (i := .aload_n 0) (len := 1) (pc' := 6) mJ_268 (by decide +kernel) (ns_aload_n 0 rfl rfl) rfl ?_
  refine nk_p (i := .iconst 0) (len := 1) (pc' := 7) mJ_268 (by decide +kernel) (ns_iconst (c := 0) (by decide +kernel)) rfl ?_
  obtain ⟨S3, h4, hr⟩ := nk_lte hr
  refine nk_putI (y := (0, 0)) (ty := .int) (x := 52) (len := 3) (ci := 2) (k := 5) (pc' := 10) ja_okT mJ_268 (by decide +kernel) (by decide +kernel) (by decide +kernel) t_l0 (Or.inl rfl) rfl h4 ?_
  refine nk_p (i := .aload_n 0) (len := 1) (pc' := 11) mJ_268 (by decide +kernel) (ns_aload_n 0 rfl rfl) rfl ?_
  refine nk_p (i := .iconst 0) (len := 1) (pc' := 12) mJ_268 (by decide +kernel) (ns_iconst (c := 0) (by decide +kernel)) rfl ?_
  obtain ⟨S5, h6, hr⟩ := nk_lte hr
  refine nk_putI (y := (0, 0)) (ty := .int) (x := 55) (len := 3) (ci := 2) (k := 8) (pc' := 15) ja_okT mJ_268 (by decide +kernel) (by decide +kernel) (by decide +kernel) t_l0 (Or.inl rfl) rfl h6 ?_
  refine nk_p (i := .aload_n 0) (len := 1) (pc' := 16) mJ_268 (by decide +kernel) (ns_aload_n 0 rfl rfl) rfl ?_
  refine nk_getC (f := (4, 1, 2001)) (x := 25) (len := 3) (ci := 2) (k := 7) (pc' := 19) ja_okT mJ_268 (by decide +kernel) (by decide +kernel) (by decide +kernel) (by decide) t_l0 rfl ?_
  have t7 : nk_ar ja_Tt (ja_c l0 7) = some (1, 2001) := nk_ta ja_okT t_l0 (by decide +kernel)
  refine nk_p (i := .iconst 0) (len := 1) (pc' := 20) mJ_268 (by decide +kernel) (ns_iconst (c := 0) (by decide +kernel)) rfl ?_
  refine nk_p (i := .iconst 0) (len := 1) (pc' := 21) mJ_268 (by decide +kernel) (ns_iconst (c := 0) (by decide +kernel)) rfl ?_
  obtain ⟨S8, h9, hr⟩ := nk_lte hr
  refine nk_iast (len := 1) (N := 2001) (pc' := 22) mJ_268 (by decide +kernel) t7 (by decide) (by decide) rfl rfl h9 ?_
  refine nk_p (i := .aload_n 0) (len := 1) (pc' := 23) mJ_268 (by decide +kernel) (ns_aload_n 0 rfl rfl) rfl ?_
  refine nk_p (i := .iconst 0) (len := 1) (pc' := 24) mJ_268 (by decide +kernel) (ns_iconst (c := 0) (by decide +kernel)) rfl ?_
  obtain ⟨S10, h11, hr⟩ := nk_lte hr
  refine nk_putI (y := (0, 0)) (ty := .int) (x := 58) (len := 3) (ci := 2) (k := 11) (pc' := 27) ja_okT mJ_268 (by decide +kernel) (by decide +kernel) (by decide +kernel) t_l0 (Or.inl rfl) rfl h11 ?_
  refine nk_p (i := .aload_n 0) (len := 1) (pc' := 28) mJ_268 (by decide +kernel) (ns_aload_n 0 rfl rfl) rfl ?_
  refine nk_p (i := .iconst 5) (len := 1) (pc' := 29) mJ_268 (by decide +kernel) (ns_iconst (c := 5) (by decide +kernel)) rfl ?_
  obtain ⟨S12, h13, hr⟩ := nk_lte hr
  refine nk_putI (y := (0, 0)) (ty := .int) (x := 61) (len := 3) (ci := 2) (k := 12) (pc' := 32) ja_okT mJ_268 (by decide +kernel) (by decide +kernel) (by decide +kernel) t_l0 (Or.inl rfl) rfl h13 ?_
  refine nk_p (i := .aload_n 0) (len := 1) (pc' := 33) mJ_268 (by decide +kernel) (ns_aload_n 0 rfl rfl) rfl ?_
  refine nk_p (i := .iconst 0) (len := 1) (pc' := 34) mJ_268 (by decide +kernel) (ns_iconst (c := 0) (by decide +kernel)) rfl ?_
  obtain ⟨S14, h15, hr⟩ := nk_lte hr
  refine nk_putI (y := (0, 0)) (ty := .int) (x := 64) (len := 3) (ci := 2) (k := 14) (pc' := 37) ja_okT mJ_268 (by decide +kernel) (by decide +kernel) (by decide +kernel) t_l0 (Or.inl rfl) rfl h15 ?_
  refine nk_p (i := .aload_n 0) (len := 1) (pc' := 38) mJ_268 (by decide +kernel) (ns_aload_n 0 rfl rfl) rfl ?_
  refine nk_p (i := .iconst (-1)) (len := 1) (pc' := 39) mJ_268 (by decide +kernel) (ns_iconst (c := (-1)) (by decide +kernel)) rfl ?_
  obtain ⟨S16, h17, hr⟩ := nk_lte hr
  refine nk_putI (y := (0, 0)) (ty := .int) (x := 35) (len := 3) (ci := 2) (k := 16) (pc' := 42) ja_okT mJ_268 (by decide +kernel) (by decide +kernel) (by decide +kernel) t_l0 (Or.inl rfl) rfl h17 ?_
  refine nk_p (i := .aload_n 0) (len := 1) (pc' := 43) mJ_268 (by decide +kernel) (ns_aload_n 0 rfl rfl) rfl ?_
  refine nk_p (i := .iconst 0) (len := 1) (pc' := 44) mJ_268 (by decide +kernel) (ns_iconst (c := 0) (by decide +kernel)) rfl ?_
  obtain ⟨S18, h19, hr⟩ := nk_lte hr
  refine nk_putI (y := (0, 0)) (ty := .int) (x := 67) (len := 3) (ci := 2) (k := 17) (pc' := 47) ja_okT mJ_268 (by decide +kernel) (by decide +kernel) (by decide +kernel) t_l0 (Or.inl rfl) rfl h19 ?_
  refine nk_p (i := .aload_n 0) (len := 1) (pc' := 48) mJ_268 (by decide +kernel) (ns_aload_n 0 rfl rfl) rfl ?_
  refine nk_p (i := .aload_n 0) (len := 1) (pc' := 49) mJ_268 (by decide +kernel) (ns_aload_n 0 rfl rfl) rfl ?_
  refine nk_getM (cj := 3) (z := 0) (x := 41) (len := 3) (ci := 2) (k := 1) (pc' := 52) ja_okT mJ_268 (by decide +kernel) (by decide +kernel) (by decide +kernel) t_l0 rfl (fun t20 => ?_)
  refine nk_getC (f := (2, 0, 0)) (x := 70) (len := 3) (ci := 3) (k := 1) (pc' := 55) ja_okT mJ_268 (by decide +kernel) (by decide +kernel) (by decide +kernel) (by decide) t20 rfl ?_
  have t21 : nk_cl ja_Tt (ja_c (S18.2 l0 1) 1) = some 0 := nk_tc (y := 0) ja_okT t20 (by decide +kernel)
  refine nk_getI (y := (0, 0)) (x := 76) (len := 3) (ci := 0) (k := 1) (pc' := 58) ja_okT mJ_268 (by decide +kernel) (by decide +kernel) (by decide +kernel) t21 rfl ?_
  obtain ⟨r22, S23, h24, hr⟩ := nk_bde hr
  refine nk_callV (ci := 2) (n := 1) (x := 81) (len := 3) (j' := 262) (q' := 0) (r := r22) (S' := S23) (L2 := [(0, nk_r l0), (1, nk_i (S18.1 (ja_c (S18.2 l0 1) 1) 1))]) (rest := []) (st' := []) (pc' := 61) mJ_268 (by decide +kernel) (by decide +kernel) rfl rfl t_l0 (Nat.le_of_ble_eq_true rfl) mJ_262 (Nat.le_of_ble_eq_true rfl) rfl (ja_X2_beginBody_ok zs _ _ _ _ t_l0 h24) rfl ?_
  refine nk_p (i := .iconst 0) (len := 1) (pc' := 62) mJ_268 (by decide +kernel) (ns_iconst (c := 0) (by decide +kernel)) rfl ?_
  refine nk_p (i := .istore_n 3) (len := 1) (pc' := 63) mJ_268 (by decide +kernel) (ns_istore_n (L' := [(3, nk_i 0), (0, nk_r l0), (1, nk_r l1), (2, nk_i l2)]) rfl rfl rfl (by decide +kernel)) rfl ?_
  refine nk_sub [1, 3, 0] (L' := [(0, nk_r l0), (2, nk_i l2), (3, nk_i 0)]) rfl ?_
  exact ja_X2_execute_L63_ok zs nk_big _ _ _ _ _ t_l0 hr
/-! SafeCode run (I)I -/
noncomputable def ja_X11_run (l0 : Nat) (l1 : Int) (S : nk_S) : Option (Int × nk_S) :=
  if (S.1 l0 6) = 0 then
    some ((-1), S)
  else
    if l1 < 0 then
      some ((-1), S)
    else
      if l1 ≤ 20000 then
        nk_bd (ja_X2_execute (ja_c l0 13) (S.2 l0 4) l1 S) fun r3 S4 =>
        nk_bd (ja_J7_fill_53178 (ja_c l0 11) 256 0 S4) fun r7 S8 =>
        nk_lt (nk_wi S8 l0 12 0) fun S10 =>
        some (r3, S10)
      else
        some ((-1), S)
theorem ja_X11_run_ok (zs : List Int32) : ∀ (l0 : Nat) (l1 : Int) (S : nk_S) (R : Int × nk_S), nk_cl ja_Tt l0 = some 11 → ja_X11_run l0 l1 S = some R → nk_K ja_Tt mi_Γ (mi_ev zs) 1 71 0 [(0, nk_r l0), (1, nk_i l1)] [] S R := by
  intro l0 l1 S R t_l0 hr
  unfold ja_X11_run at hr
  refine nk_p (i := .aload_n 0) (len := 1) (pc' := 1) mJ_71 (by decide +kernel) (ns_aload_n 0 rfl rfl) rfl ?_
  refine nk_getI (y := (0, 0)) (x := 108) (len := 3) (ci := 11) (k := 6) (pc' := 4) ja_okT mJ_71 (by decide +kernel) (by decide +kernel) (by decide +kernel) t_l0 rfl ?_
  refine nk_icond (c := .eq) (off := 14) (len := 3) (t := 18) (pc' := 7) mJ_71 (by decide +kernel) (by decide +kernel) rfl (fun hc => ?_) (fun hc => ?_)
  · have hr := nk_ifp (c := (S.1 l0 6) = 0) hc hr
    refine nk_p (i := .iconst (-1)) (len := 1) (pc' := 19) mJ_71 (by decide +kernel) (ns_iconst (c := (-1)) (by decide +kernel)) rfl ?_
    cases hr
    exact nk_iret (ty := .int) (len := 1) mJ_71 (by decide +kernel) rfl (nk_nar_i _)
  · have hr := nk_ifn (c := (S.1 l0 6) = 0) hc hr
    refine nk_p (i := .iload_n 1) (len := 1) (pc' := 8) mJ_71 (by decide +kernel) (ns_iload_n 1 rfl rfl) rfl ?_
    refine nk_icond (c := .lt) (off := 10) (len := 3) (t := 18) (pc' := 11) mJ_71 (by decide +kernel) (by decide +kernel) rfl (fun hc => ?_) (fun hc => ?_)
    · have hr := nk_ifp (c := l1 < 0) hc hr
      refine nk_p (i := .iconst (-1)) (len := 1) (pc' := 19) mJ_71 (by decide +kernel) (ns_iconst (c := (-1)) (by decide +kernel)) rfl ?_
      cases hr
      exact nk_iret (ty := .int) (len := 1) mJ_71 (by decide +kernel) rfl (nk_nar_i _)
    · have hr := nk_ifn (c := l1 < 0) hc hr
      refine nk_p (i := .iload_n 1) (len := 1) (pc' := 12) mJ_71 (by decide +kernel) (ns_iload_n 1 rfl rfl) rfl ?_
      refine nk_p (i := .sipush 20000) (len := 3) (pc' := 15) mJ_71 (by decide +kernel) (ns_sipush (c := 20000) (by decide +kernel)) rfl ?_
      refine nk_icmp (c := .le) (off := 5) (len := 3) (t := 20) (pc' := 18) mJ_71 (by decide +kernel) (by decide +kernel) rfl (fun hc => ?_) (fun hc => ?_)
      · have hr := nk_ifp (c := l1 ≤ 20000) hc hr
        refine nk_p (i := .aload_n 0) (len := 1) (pc' := 21) mJ_71 (by decide +kernel) (ns_aload_n 0 rfl rfl) rfl ?_
        refine nk_getC (f := (2, 2, 0)) (x := 68) (len := 3) (ci := 11) (k := 13) (pc' := 24) ja_okT mJ_71 (by decide +kernel) (by decide +kernel) (by decide +kernel) (by decide) t_l0 rfl ?_
        have t1 : nk_cl ja_Tt (ja_c l0 13) = some 2 := nk_tc (y := 0) ja_okT t_l0 (by decide +kernel)
        refine nk_p (i := .aload_n 0) (len := 1) (pc' := 25) mJ_71 (by decide +kernel) (ns_aload_n 0 rfl rfl) rfl ?_
        refine nk_getM (cj := 3) (z := 0) (x := 23) (len := 3) (ci := 11) (k := 4) (pc' := 28) ja_okT mJ_71 (by decide +kernel) (by decide +kernel) (by decide +kernel) t_l0 rfl (fun t2 => ?_)
        refine nk_p (i := .iload_n 1) (len := 1) (pc' := 29) mJ_71 (by decide +kernel) (ns_iload_n 1 rfl rfl) rfl ?_
        obtain ⟨r3, S4, h5, hr⟩ := nk_bde hr
        refine nk_callV (ci := 2) (n := 2) (x := 227) (len := 3) (j' := 268) (q' := 1) (r := r3) (S' := S4) (L2 := [(0, nk_r (ja_c l0 13)), (1, nk_r (S.2 l0 4)), (2, nk_i l1)]) (rest := []) (st' := [nk_i r3]) (pc' := 32) mJ_71 (by decide +kernel) (by decide +kernel) rfl rfl t1 (Nat.le_of_ble_eq_true rfl) mJ_268 (Nat.le_of_ble_eq_true rfl) rfl (ja_X2_execute_ok zs _ _ _ _ _ t1 t2 h5) rfl ?_
        refine nk_p (i := .istore_n 2) (len := 1) (pc' := 33) mJ_71 (by decide +kernel) (ns_istore_n (L' := [(2, nk_i r3), (0, nk_r l0), (1, nk_i l1)]) rfl rfl rfl (by decide +kernel)) rfl ?_
        refine nk_p (i := .aload_n 0) (len := 1) (pc' := 34) mJ_71 (by decide +kernel) (ns_aload_n 1 rfl rfl) rfl ?_
        refine nk_getC (f := (4, 1, 256)) (x := 59) (len := 3) (ci := 11) (k := 11) (pc' := 37) ja_okT mJ_71 (by decide +kernel) (by decide +kernel) (by decide +kernel) (by decide) t_l0 rfl ?_
        have t6 : nk_ar ja_Tt (ja_c l0 11) = some (1, 256) := nk_ta ja_okT t_l0 (by decide +kernel)
        refine nk_p (i := .iconst 0) (len := 1) (pc' := 38) mJ_71 (by decide +kernel) (ns_iconst (c := 0) (by decide +kernel)) rfl ?_
        obtain ⟨r7, S8, h9, hr⟩ := nk_bde hr
        refine nk_callS (ci := 0) (n := 2) (x := 231) (len := 3) (j' := 13) (q' := 0) (r := r7) (S' := S8) (L2 := [(0, nk_r (ja_c l0 11)), (1, nk_i 0)]) (rest := []) (st' := []) (pc' := 41) mJ_71 (by decide +kernel) (by decide +kernel) (Nat.le_of_ble_eq_true rfl) rfl rfl (Nat.le_of_ble_eq_true rfl) mJ_13 (Nat.le_of_ble_eq_true rfl) ja_Tpos rfl (ja_J7_fill_53178_ok zs _ _ _ _ _ t6 h9) rfl ?_
        refine nk_p (i := .aload_n 0) (len := 1) (pc' := 42) mJ_71 (by decide +kernel) (ns_aload_n 1 rfl rfl) rfl ?_
        refine nk_p (i := .iconst 0) (len := 1) (pc' := 43) mJ_71 (by decide +kernel) (ns_iconst (c := 0) (by decide +kernel)) rfl ?_
        obtain ⟨S10, h11, hr⟩ := nk_lte hr
        refine nk_putI (y := (0, 0)) (ty := .int) (x := 224) (len := 3) (ci := 11) (k := 12) (pc' := 46) ja_okT mJ_71 (by decide +kernel) (by decide +kernel) (by decide +kernel) t_l0 (Or.inl rfl) rfl h11 ?_
        refine nk_p (i := .iload_n 2) (len := 1) (pc' := 47) mJ_71 (by decide +kernel) (ns_iload_n 0 rfl rfl) rfl ?_
        cases hr
        exact nk_iret (ty := .int) (len := 1) mJ_71 (by decide +kernel) rfl (nk_nar_i _)
      · have hr := nk_ifn (c := l1 ≤ 20000) hc hr
        refine nk_p (i := .iconst (-1)) (len := 1) (pc' := 19) mJ_71 (by decide +kernel) (ns_iconst (c := (-1)) (by decide +kernel)) rfl ?_
        cases hr
        exact nk_iret (ty := .int) (len := 1) mJ_71 (by decide +kernel) rfl (nk_nar_i _)
/-! SafeCode sites (II)J -/
noncomputable def ja_X11_sites (l0 : Nat) (l1 : Int) (l2 : Int) (S : nk_S) : Option (Int × nk_S) :=
  nk_bd (ja_X11_factsAt l0 l1 l2 S) fun r1 S2 =>
  if (nk_land r1 9007199254740992) = 0 then
    some (0, S2)
  else
    nk_bd (ja_X11_valueAt l0 l1 l2 S2) fun r4 S5 =>
    some (r4, S5)
theorem ja_X11_sites_ok (zs : List Int32) : ∀ (l0 : Nat) (l1 : Int) (l2 : Int) (S : nk_S) (R : Int × nk_S), nk_cl ja_Tt l0 = some 11 → ja_X11_sites l0 l1 l2 S = some R → nk_K ja_Tt mi_Γ (mi_ev zs) 2 72 0 [(0, nk_r l0), (1, nk_i l1), (2, nk_i l2)] [] S R := by
  intro l0 l1 l2 S R t_l0 hr
  unfold ja_X11_sites at hr
  refine nk_p (i := .aload_n 0) (len := 1) (pc' := 1) mJ_72 (by decide +kernel) (ns_aload_n 0 rfl rfl) rfl ?_
  refine nk_p (i := .iload_n 1) (len := 1) (pc' := 2) mJ_72 (by decide +kernel) (ns_iload_n 1 rfl rfl) rfl ?_
  refine nk_p (i := .iload_n 2) (len := 1) (pc' := 3) mJ_72 (by decide +kernel) (ns_iload_n 2 rfl rfl) rfl ?_
  obtain ⟨r1, S2, h3, hr⟩ := nk_bde hr
  refine nk_callV (ci := 11) (n := 2) (x := 194) (len := 3) (j' := 57) (q' := 2) (r := r1) (S' := S2) (L2 := [(0, nk_r l0), (1, nk_i l1), (2, nk_i l2)]) (rest := []) (st' := [nk_l r1]) (pc' := 6) mJ_72 (by decide +kernel) (by decide +kernel) rfl rfl t_l0 (Nat.le_of_ble_eq_true rfl) mJ_57 (Nat.le_of_ble_eq_true rfl) rfl (ja_X11_factsAt_ok zs _ _ _ _ _ t_l0 h3) rfl ?_
  refine nk_ldc2 (x := 210) (len := 3) (X := 9007199254740992) (v := 9007199254740992) (pc' := 9) mJ_72 (by decide +kernel) (by decide +kernel) (by decide +kernel) rfl ?_
  refine nk_p (i := .land) (len := 1) (pc' := 10) mJ_72 (by decide +kernel) ns_land rfl ?_
  refine nk_p (i := .lconst 0) (len := 1) (pc' := 11) mJ_72 (by decide +kernel) (ns_lconst (c := 0) (by decide +kernel)) rfl ?_
  refine nk_p (i := .lcmp) (len := 1) (pc' := 12) mJ_72 (by decide +kernel) ns_lcmp rfl ?_
  refine nk_lcond (c := .ne) (off := 7) (len := 3) (t := 19) (pc' := 15) mJ_72 (by decide +kernel) (by decide +kernel) rfl (fun hc => ?_) (fun hc => ?_)
  · have hr := nk_ifn (c := (nk_land r1 9007199254740992) = 0) hc hr
    refine nk_p (i := .aload_n 0) (len := 1) (pc' := 20) mJ_72 (by decide +kernel) (ns_aload_n 0 rfl rfl) rfl ?_
    refine nk_p (i := .iload_n 1) (len := 1) (pc' := 21) mJ_72 (by decide +kernel) (ns_iload_n 1 rfl rfl) rfl ?_
    refine nk_p (i := .iload_n 2) (len := 1) (pc' := 22) mJ_72 (by decide +kernel) (ns_iload_n 2 rfl rfl) rfl ?_
    obtain ⟨r4, S5, h6, hr⟩ := nk_bde hr
    refine nk_callV (ci := 11) (n := 2) (x := 200) (len := 3) (j' := 78) (q' := 2) (r := r4) (S' := S5) (L2 := [(0, nk_r l0), (1, nk_i l1), (2, nk_i l2)]) (rest := []) (st' := [nk_l r4]) (pc' := 25) mJ_72 (by decide +kernel) (by decide +kernel) rfl rfl t_l0 (Nat.le_of_ble_eq_true rfl) mJ_78 (Nat.le_of_ble_eq_true rfl) rfl (ja_X11_valueAt_ok zs _ _ _ _ _ t_l0 h6) rfl ?_
    cases hr
    exact nk_lret (len := 1) mJ_72 (by decide +kernel) rfl
  · have hr := nk_ifp (c := (nk_land r1 9007199254740992) = 0) (Decidable.of_not_not hc) hr
    refine nk_p (i := .lconst 0) (len := 1) (pc' := 16) mJ_72 (by decide +kernel) (ns_lconst (c := 0) (by decide +kernel)) rfl ?_
    refine nk_p (i := .goto 9) (len := 3) (pc' := 25) mJ_72 (by decide +kernel) (ns_goto (by decide +kernel)) rfl ?_
    cases hr
    exact nk_lret (len := 1) mJ_72 (by decide +kernel) rfl
/-! SafeCode size (I)I -/
noncomputable def ja_X11_size (l0 : Nat) (l1 : Int) (S : nk_S) : Option (Int × nk_S) :=
  if (S.1 l0 6) = 0 then
    some ((-1), S)
  else
    if l1 = 0 then
      some ((S.1 (S.2 l0 4) 3), S)
    else
    if l1 = 1 then
      some ((S.1 (S.2 l0 4) 10), S)
    else
    if l1 = 2 then
      some ((S.1 (ja_c (S.2 l0 4) 1) 0), S)
    else
    if l1 = 3 then
      some ((S.1 (ja_c (S.2 l0 4) 2) 0), S)
    else
    if l1 = 4 then
      some ((nk_w ((S.1 (ja_c (S.2 l0 4) 0) 0) - 8)), S)
    else
    some ((-1), S)
theorem ja_X11_size_ok (zs : List Int32) : ∀ (l0 : Nat) (l1 : Int) (S : nk_S) (R : Int × nk_S), nk_cl ja_Tt l0 = some 11 → ja_X11_size l0 l1 S = some R → nk_K ja_Tt mi_Γ (mi_ev zs) 1 73 0 [(0, nk_r l0), (1, nk_i l1)] [] S R := by
  intro l0 l1 S R t_l0 hr
  unfold ja_X11_size at hr
  refine nk_p (i := .aload_n 0) (len := 1) (pc' := 1) mJ_73 (by decide +kernel) (ns_aload_n 0 rfl rfl) rfl ?_
  refine nk_getI (y := (0, 0)) (x := 108) (len := 3) (ci := 11) (k := 6) (pc' := 4) ja_okT mJ_73 (by decide +kernel) (by decide +kernel) (by decide +kernel) t_l0 rfl ?_
  refine nk_icond (c := .ne) (off := 5) (len := 3) (t := 9) (pc' := 7) mJ_73 (by decide +kernel) (by decide +kernel) rfl (fun hc => ?_) (fun hc => ?_)
  · have hr := nk_ifn (c := (S.1 l0 6) = 0) hc hr
    refine nk_p (i := .iload_n 1) (len := 1) (pc' := 10) mJ_73 (by decide +kernel) (ns_iload_n 1 rfl rfl) rfl ?_
    by_cases hc0 : l1 = 0
    · have hr := nk_ifp hc0 hr
      refine nk_p (i := .tableswitch 86 0 4 #[34, 42, 50, 61, 72]) (len := 34) (pc' := 44) mJ_73 (by decide +kernel) (ns_tsw (V := 0) hc0 (by decide +kernel)) rfl ?_
      refine nk_p (i := .aload_n 0) (len := 1) (pc' := 45) mJ_73 (by decide +kernel) (ns_aload_n 0 rfl rfl) rfl ?_
      refine nk_getM (cj := 3) (z := 0) (x := 23) (len := 3) (ci := 11) (k := 4) (pc' := 48) ja_okT mJ_73 (by decide +kernel) (by decide +kernel) (by decide +kernel) t_l0 rfl (fun t1 => ?_)
      refine nk_getI (y := (0, 0)) (x := 115) (len := 3) (ci := 3) (k := 3) (pc' := 51) ja_okT mJ_73 (by decide +kernel) (by decide +kernel) (by decide +kernel) t1 rfl ?_
      cases hr
      exact nk_iret (ty := .int) (len := 1) mJ_73 (by decide +kernel) rfl (nk_nar_i _)
    have hr := nk_ifn hc0 hr
    by_cases hc1 : l1 = 1
    · have hr := nk_ifp hc1 hr
      refine nk_p (i := .tableswitch 86 0 4 #[34, 42, 50, 61, 72]) (len := 34) (pc' := 52) mJ_73 (by decide +kernel) (ns_tsw (V := 1) hc1 (by decide +kernel)) rfl ?_
      refine nk_p (i := .aload_n 0) (len := 1) (pc' := 53) mJ_73 (by decide +kernel) (ns_aload_n 0 rfl rfl) rfl ?_
      refine nk_getM (cj := 3) (z := 0) (x := 23) (len := 3) (ci := 11) (k := 4) (pc' := 56) ja_okT mJ_73 (by decide +kernel) (by decide +kernel) (by decide +kernel) t_l0 rfl (fun t2 => ?_)
      refine nk_getI (y := (0, 0)) (x := 118) (len := 3) (ci := 3) (k := 10) (pc' := 59) ja_okT mJ_73 (by decide +kernel) (by decide +kernel) (by decide +kernel) t2 rfl ?_
      cases hr
      exact nk_iret (ty := .int) (len := 1) mJ_73 (by decide +kernel) rfl (nk_nar_i _)
    have hr := nk_ifn hc1 hr
    by_cases hc2 : l1 = 2
    · have hr := nk_ifp hc2 hr
      refine nk_p (i := .tableswitch 86 0 4 #[34, 42, 50, 61, 72]) (len := 34) (pc' := 60) mJ_73 (by decide +kernel) (ns_tsw (V := 2) hc2 (by decide +kernel)) rfl ?_
      refine nk_p (i := .aload_n 0) (len := 1) (pc' := 61) mJ_73 (by decide +kernel) (ns_aload_n 0 rfl rfl) rfl ?_
      refine nk_getM (cj := 3) (z := 0) (x := 23) (len := 3) (ci := 11) (k := 4) (pc' := 64) ja_okT mJ_73 (by decide +kernel) (by decide +kernel) (by decide +kernel) t_l0 rfl (fun t3 => ?_)
      refine nk_getC (f := (2, 0, 0)) (x := 121) (len := 3) (ci := 3) (k := 1) (pc' := 67) ja_okT mJ_73 (by decide +kernel) (by decide +kernel) (by decide +kernel) (by decide) t3 rfl ?_
      have t4 : nk_cl ja_Tt (ja_c (S.2 l0 4) 1) = some 0 := nk_tc (y := 0) ja_okT t3 (by decide +kernel)
      refine nk_getI (y := (0, 0)) (x := 125) (len := 3) (ci := 0) (k := 0) (pc' := 70) ja_okT mJ_73 (by decide +kernel) (by decide +kernel) (by decide +kernel) t4 rfl ?_
      cases hr
      exact nk_iret (ty := .int) (len := 1) mJ_73 (by decide +kernel) rfl (nk_nar_i _)
    have hr := nk_ifn hc2 hr
    by_cases hc3 : l1 = 3
    · have hr := nk_ifp hc3 hr
      refine nk_p (i := .tableswitch 86 0 4 #[34, 42, 50, 61, 72]) (len := 34) (pc' := 71) mJ_73 (by decide +kernel) (ns_tsw (V := 3) hc3 (by decide +kernel)) rfl ?_
      refine nk_p (i := .aload_n 0) (len := 1) (pc' := 72) mJ_73 (by decide +kernel) (ns_aload_n 0 rfl rfl) rfl ?_
      refine nk_getM (cj := 3) (z := 0) (x := 23) (len := 3) (ci := 11) (k := 4) (pc' := 75) ja_okT mJ_73 (by decide +kernel) (by decide +kernel) (by decide +kernel) t_l0 rfl (fun t5 => ?_)
      refine nk_getC (f := (2, 5, 0)) (x := 128) (len := 3) (ci := 3) (k := 2) (pc' := 78) ja_okT mJ_73 (by decide +kernel) (by decide +kernel) (by decide +kernel) (by decide) t5 rfl ?_
      have t6 : nk_cl ja_Tt (ja_c (S.2 l0 4) 2) = some 5 := nk_tc (y := 0) ja_okT t5 (by decide +kernel)
      refine nk_getI (y := (0, 0)) (x := 132) (len := 3) (ci := 5) (k := 0) (pc' := 81) ja_okT mJ_73 (by decide +kernel) (by decide +kernel) (by decide +kernel) t6 rfl ?_
      cases hr
      exact nk_iret (ty := .int) (len := 1) mJ_73 (by decide +kernel) rfl (nk_nar_i _)
    have hr := nk_ifn hc3 hr
    by_cases hc4 : l1 = 4
    · have hr := nk_ifp hc4 hr
      refine nk_p (i := .tableswitch 86 0 4 #[34, 42, 50, 61, 72]) (len := 34) (pc' := 82) mJ_73 (by decide +kernel) (ns_tsw (V := 4) hc4 (by decide +kernel)) rfl ?_
      refine nk_p (i := .aload_n 0) (len := 1) (pc' := 83) mJ_73 (by decide +kernel) (ns_aload_n 0 rfl rfl) rfl ?_
      refine nk_getM (cj := 3) (z := 0) (x := 23) (len := 3) (ci := 11) (k := 4) (pc' := 86) ja_okT mJ_73 (by decide +kernel) (by decide +kernel) (by decide +kernel) t_l0 rfl (fun t7 => ?_)
      refine nk_getC (f := (2, 1, 0)) (x := 135) (len := 3) (ci := 3) (k := 0) (pc' := 89) ja_okT mJ_73 (by decide +kernel) (by decide +kernel) (by decide +kernel) (by decide) t7 rfl ?_
      have t8 : nk_cl ja_Tt (ja_c (S.2 l0 4) 0) = some 1 := nk_tc (y := 0) ja_okT t7 (by decide +kernel)
      refine nk_getI (y := (0, 0)) (x := 139) (len := 3) (ci := 1) (k := 0) (pc' := 92) ja_okT mJ_73 (by decide +kernel) (by decide +kernel) (by decide +kernel) t8 rfl ?_
      refine nk_p (i := .bipush 8) (len := 2) (pc' := 94) mJ_73 (by decide +kernel) (ns_bipush (c := 8) (by decide +kernel)) rfl ?_
      refine nk_p (i := .isub) (len := 1) (pc' := 95) mJ_73 (by decide +kernel) ns_isub rfl ?_
      cases hr
      exact nk_iret (ty := .int) (len := 1) mJ_73 (by decide +kernel) rfl (nk_nar_i _)
    have hr := nk_ifn hc4 hr
    refine nk_p (i := .tableswitch 86 0 4 #[34, 42, 50, 61, 72]) (len := 34) (pc' := 96) mJ_73 (by decide +kernel) (ns_tsd (by omega) (by decide +kernel)) rfl ?_
    refine nk_p (i := .iconst (-1)) (len := 1) (pc' := 97) mJ_73 (by decide +kernel) (ns_iconst (c := (-1)) (by decide +kernel)) rfl ?_
    cases hr
    exact nk_iret (ty := .int) (len := 1) mJ_73 (by decide +kernel) rfl (nk_nar_i _)
  · have hr := nk_ifp (c := (S.1 l0 6) = 0) (Decidable.of_not_not hc) hr
    refine nk_p (i := .iconst (-1)) (len := 1) (pc' := 8) mJ_73 (by decide +kernel) (ns_iconst (c := (-1)) (by decide +kernel)) rfl ?_
    cases hr
    exact nk_iret (ty := .int) (len := 1) mJ_73 (by decide +kernel) rfl (nk_nar_i _)
/-! SafeCode steps ()I -/
noncomputable def ja_X11_steps (l0 : Nat) (S : nk_S) : Option (Int × nk_S) :=
  some ((S.1 (ja_c l0 13) 14), S)
theorem ja_X11_steps_ok (zs : List Int32) : ∀ (l0 : Nat) (S : nk_S) (R : Int × nk_S), nk_cl ja_Tt l0 = some 11 → ja_X11_steps l0 S = some R → nk_K ja_Tt mi_Γ (mi_ev zs) 1 75 0 [(0, nk_r l0)] [] S R := by
  intro l0 S R t_l0 hr
  unfold ja_X11_steps at hr
  refine nk_p (i := .aload_n 0) (len := 1) (pc' := 1) mJ_75 (by decide +kernel) (ns_aload_n 0 rfl rfl) rfl ?_
  refine nk_getC (f := (2, 2, 0)) (x := 68) (len := 3) (ci := 11) (k := 13) (pc' := 4) ja_okT mJ_75 (by decide +kernel) (by decide +kernel) (by decide +kernel) (by decide) t_l0 rfl ?_
  have t1 : nk_cl ja_Tt (ja_c l0 13) = some 2 := nk_tc (y := 0) ja_okT t_l0 (by decide +kernel)
  refine nk_getI (y := (0, 0)) (x := 237) (len := 3) (ci := 2) (k := 14) (pc' := 7) ja_okT mJ_75 (by decide +kernel) (by decide +kernel) (by decide +kernel) t1 rfl ?_
  cases hr
  exact nk_iret (ty := .int) (len := 1) mJ_75 (by decide +kernel) rfl (nk_nar_i _)
/-! SafeCode strays ()I -/
noncomputable def ja_X11_strays (l0 : Nat) (S : nk_S) : Option (Int × nk_S) :=
  some ((S.1 (ja_c l0 13) 19), S)
theorem ja_X11_strays_ok (zs : List Int32) : ∀ (l0 : Nat) (S : nk_S) (R : Int × nk_S), nk_cl ja_Tt l0 = some 11 → ja_X11_strays l0 S = some R → nk_K ja_Tt mi_Γ (mi_ev zs) 1 76 0 [(0, nk_r l0)] [] S R := by
  intro l0 S R t_l0 hr
  unfold ja_X11_strays at hr
  refine nk_p (i := .aload_n 0) (len := 1) (pc' := 1) mJ_76 (by decide +kernel) (ns_aload_n 0 rfl rfl) rfl ?_
  refine nk_getC (f := (2, 2, 0)) (x := 68) (len := 3) (ci := 11) (k := 13) (pc' := 4) ja_okT mJ_76 (by decide +kernel) (by decide +kernel) (by decide +kernel) (by decide) t_l0 rfl ?_
  have t1 : nk_cl ja_Tt (ja_c l0 13) = some 2 := nk_tc (y := 0) ja_okT t_l0 (by decide +kernel)
  refine nk_getI (y := (0, 0)) (x := 252) (len := 3) (ci := 2) (k := 19) (pc' := 7) ja_okT mJ_76 (by decide +kernel) (by decide +kernel) (by decide +kernel) t1 rfl ?_
  cases hr
  exact nk_iret (ty := .int) (len := 1) mJ_76 (by decide +kernel) rfl (nk_nar_i _)
/-! SafeCode thrown ()I -/
noncomputable def ja_X11_thrown (l0 : Nat) (S : nk_S) : Option (Int × nk_S) :=
  some ((S.1 (ja_c l0 13) 16), S)
theorem ja_X11_thrown_ok (zs : List Int32) : ∀ (l0 : Nat) (S : nk_S) (R : Int × nk_S), nk_cl ja_Tt l0 = some 11 → ja_X11_thrown l0 S = some R → nk_K ja_Tt mi_Γ (mi_ev zs) 1 77 0 [(0, nk_r l0)] [] S R := by
  intro l0 S R t_l0 hr
  unfold ja_X11_thrown at hr
  refine nk_p (i := .aload_n 0) (len := 1) (pc' := 1) mJ_77 (by decide +kernel) (ns_aload_n 0 rfl rfl) rfl ?_
  refine nk_getC (f := (2, 2, 0)) (x := 68) (len := 3) (ci := 11) (k := 13) (pc' := 4) ja_okT mJ_77 (by decide +kernel) (by decide +kernel) (by decide +kernel) (by decide) t_l0 rfl ?_
  have t1 : nk_cl ja_Tt (ja_c l0 13) = some 2 := nk_tc (y := 0) ja_okT t_l0 (by decide +kernel)
  refine nk_getI (y := (0, 0)) (x := 243) (len := 3) (ci := 2) (k := 16) (pc' := 7) ja_okT mJ_77 (by decide +kernel) (by decide +kernel) (by decide +kernel) t1 rfl ?_
  cases hr
  exact nk_iret (ty := .int) (len := 1) mJ_77 (by decide +kernel) rfl (nk_nar_i _)
/-! SafeCode written ()I -/
noncomputable def ja_X11_written (l0 : Nat) (S : nk_S) : Option (Int × nk_S) :=
  some ((S.1 (ja_c l0 13) 17), S)
theorem ja_X11_written_ok (zs : List Int32) : ∀ (l0 : Nat) (S : nk_S) (R : Int × nk_S), nk_cl ja_Tt l0 = some 11 → ja_X11_written l0 S = some R → nk_K ja_Tt mi_Γ (mi_ev zs) 1 79 0 [(0, nk_r l0)] [] S R := by
  intro l0 S R t_l0 hr
  unfold ja_X11_written at hr
  refine nk_p (i := .aload_n 0) (len := 1) (pc' := 1) mJ_79 (by decide +kernel) (ns_aload_n 0 rfl rfl) rfl ?_
  refine nk_getC (f := (2, 2, 0)) (x := 68) (len := 3) (ci := 11) (k := 13) (pc' := 4) ja_okT mJ_79 (by decide +kernel) (by decide +kernel) (by decide +kernel) (by decide) t_l0 rfl ?_
  have t1 : nk_cl ja_Tt (ja_c l0 13) = some 2 := nk_tc (y := 0) ja_okT t_l0 (by decide +kernel)
  refine nk_getI (y := (0, 0)) (x := 246) (len := 3) (ci := 2) (k := 17) (pc' := 7) ja_okT mJ_79 (by decide +kernel) (by decide +kernel) (by decide +kernel) t1 rfl ?_
  cases hr
  exact nk_iret (ty := .int) (len := 1) mJ_79 (by decide +kernel) rfl (nk_nar_i _)
/-! SafeCodeModel added (II)Z -/
noncomputable def ja_X13_added_b22 (l0 : Nat) (l1 : Int) (l2 : Int) (s0 : Int) (S : nk_S) : Option (Int × nk_S) :=
  if 0 ≤ l1 ∧ l1 < 1024 then
  nk_lt (nk_wi S (ja_c l0 21) l1.toNat (nk_ior (S.1 (ja_c l0 21) l1.toNat) l2)) fun S3 =>
  if s0 = 0 ∨ s0 = 1 then
  some (s0, S3)
  else none
  else none
theorem ja_X13_added_b22_ok (zs : List Int32) : ∀ (l0 : Nat) (l1 : Int) (l2 : Int) (s0 : Int) (S : nk_S) (R : Int × nk_S), nk_cl ja_Tt l0 = some 13 → ja_X13_added_b22 l0 l1 l2 s0 S = some R → nk_K ja_Tt mi_Γ (mi_ev zs) 1 81 22 [(0, nk_r l0), (1, nk_i l1), (2, nk_i l2)] [nk_i s0] S R := by
  intro l0 l1 l2 s0 S R t_l0 hr
  unfold ja_X13_added_b22 at hr
  refine nk_p (i := .istore_n 3) (len := 1) (pc' := 23) mJ_81 (by decide +kernel) (ns_istore_n (L' := [(3, nk_i s0), (0, nk_r l0), (1, nk_i l1), (2, nk_i l2)]) rfl rfl rfl (by decide +kernel)) rfl ?_
  refine nk_p (i := .aload_n 0) (len := 1) (pc' := 24) mJ_81 (by decide +kernel) (ns_aload_n 1 rfl rfl) rfl ?_
  refine nk_getC (f := (4, 1, 1024)) (x := 58) (len := 3) (ci := 13) (k := 21) (pc' := 27) ja_okT mJ_81 (by decide +kernel) (by decide +kernel) (by decide +kernel) (by decide) t_l0 rfl ?_
  have t1 : nk_ar ja_Tt (ja_c l0 21) = some (1, 1024) := nk_ta ja_okT t_l0 (by decide +kernel)
  refine nk_p (i := .iload_n 1) (len := 1) (pc' := 28) mJ_81 (by decide +kernel) (ns_iload_n 2 rfl rfl) rfl ?_
  refine nk_p (i := .dup2) (len := 1) (pc' := 29) mJ_81 (by decide +kernel) (ns_dup2 rfl rfl) rfl ?_
  obtain ⟨h2, hr⟩ := nk_cke hr
  refine nk_iald (len := 1) (N := 1024) (pc' := 30) mJ_81 (by decide +kernel) t1 h2.1 h2.2 rfl rfl ?_
  refine nk_p (i := .iload_n 2) (len := 1) (pc' := 31) mJ_81 (by decide +kernel) (ns_iload_n 3 rfl rfl) rfl ?_
  refine nk_p (i := .ior) (len := 1) (pc' := 32) mJ_81 (by decide +kernel) ns_ior rfl ?_
  obtain ⟨S3, h4, hr⟩ := nk_lte hr
  refine nk_iast (len := 1) (N := 1024) (pc' := 33) mJ_81 (by decide +kernel) t1 h2.1 h2.2 rfl rfl h4 ?_
  refine nk_p (i := .iload_n 3) (len := 1) (pc' := 34) mJ_81 (by decide +kernel) (ns_iload_n 0 rfl rfl) rfl ?_
  obtain ⟨h5, hr⟩ := nk_cke hr
  cases hr
  exact nk_iret (ty := .boolean) (len := 1) mJ_81 (by decide +kernel) rfl (nk_nar_z h5)
noncomputable def ja_X13_added (l0 : Nat) (l1 : Int) (l2 : Int) (S : nk_S) : Option (Int × nk_S) :=
  if 0 ≤ l1 ∧ l1 < 1024 then
  if (nk_ior (S.1 (ja_c l0 21) l1.toNat) l2) = (S.1 (ja_c l0 21) l1.toNat) then
    ja_X13_added_b22 l0 l1 l2 0 S
  else
    ja_X13_added_b22 l0 l1 l2 1 S
  else none
theorem ja_X13_added_ok (zs : List Int32) : ∀ (l0 : Nat) (l1 : Int) (l2 : Int) (S : nk_S) (R : Int × nk_S), nk_cl ja_Tt l0 = some 13 → ja_X13_added l0 l1 l2 S = some R → nk_K ja_Tt mi_Γ (mi_ev zs) 1 81 0 [(0, nk_r l0), (1, nk_i l1), (2, nk_i l2)] [] S R := by
  intro l0 l1 l2 S R t_l0 hr
  unfold ja_X13_added at hr
  refine nk_p (i := .aload_n 0) (len := 1) (pc' := 1) mJ_81 (by decide +kernel) (ns_aload_n 0 rfl rfl) rfl ?_
  refine nk_getC (f := (4, 1, 1024)) (x := 58) (len := 3) (ci := 13) (k := 21) (pc' := 4) ja_okT mJ_81 (by decide +kernel) (by decide +kernel) (by decide +kernel) (by decide) t_l0 rfl ?_
  have t1 : nk_ar ja_Tt (ja_c l0 21) = some (1, 1024) := nk_ta ja_okT t_l0 (by decide +kernel)
  refine nk_p (i := .iload_n 1) (len := 1) (pc' := 5) mJ_81 (by decide +kernel) (ns_iload_n 1 rfl rfl) rfl ?_
  obtain ⟨h2, hr⟩ := nk_cke hr
  refine nk_iald (len := 1) (N := 1024) (pc' := 6) mJ_81 (by decide +kernel) t1 h2.1 h2.2 rfl rfl ?_
  refine nk_p (i := .iload_n 2) (len := 1) (pc' := 7) mJ_81 (by decide +kernel) (ns_iload_n 2 rfl rfl) rfl ?_
  refine nk_p (i := .ior) (len := 1) (pc' := 8) mJ_81 (by decide +kernel) ns_ior rfl ?_
  refine nk_p (i := .aload_n 0) (len := 1) (pc' := 9) mJ_81 (by decide +kernel) (ns_aload_n 0 rfl rfl) rfl ?_
  refine nk_getC (f := (4, 1, 1024)) (x := 58) (len := 3) (ci := 13) (k := 21) (pc' := 12) ja_okT mJ_81 (by decide +kernel) (by decide +kernel) (by decide +kernel) (by decide) t_l0 rfl ?_
  refine nk_p (i := .iload_n 1) (len := 1) (pc' := 13) mJ_81 (by decide +kernel) (ns_iload_n 1 rfl rfl) rfl ?_
  refine nk_iald (len := 1) (N := 1024) (pc' := 14) mJ_81 (by decide +kernel) t1 h2.1 h2.2 rfl rfl ?_
  refine nk_icmp (c := .eq) (off := 7) (len := 3) (t := 21) (pc' := 17) mJ_81 (by decide +kernel) (by decide +kernel) rfl (fun hc => ?_) (fun hc => ?_)
  · have hr := nk_ifp (c := (nk_ior (S.1 (ja_c l0 21) l1.toNat) l2) = (S.1 (ja_c l0 21) l1.toNat)) hc hr
    refine nk_p (i := .iconst 0) (len := 1) (pc' := 22) mJ_81 (by decide +kernel) (ns_iconst (c := 0) (by decide +kernel)) rfl ?_
    exact ja_X13_added_b22_ok zs _ _ _ _ _ _ t_l0 hr
  · have hr := nk_ifn (c := (nk_ior (S.1 (ja_c l0 21) l1.toNat) l2) = (S.1 (ja_c l0 21) l1.toNat)) hc hr
    refine nk_p (i := .iconst 1) (len := 1) (pc' := 18) mJ_81 (by decide +kernel) (ns_iconst (c := 1) (by decide +kernel)) rfl ?_
    refine nk_p (i := .goto 4) (len := 3) (pc' := 22) mJ_81 (by decide +kernel) (ns_goto (by decide +kernel)) rfl ?_
    exact ja_X13_added_b22_ok zs _ _ _ _ _ _ t_l0 hr
/-! SafeCodeModel alike (II)Z -/
noncomputable def ja_X13_alike_b41 (l0 : Nat) (l1 : Int) (l2 : Int) (l3 : Int) (l4 : Int) (S : nk_S) : Option (Int × nk_S) :=
  if 0 ≤ l1 ∧ l1 < 24 then
  nk_lt (nk_wi S (ja_c l0 27) l1.toNat l3) fun S3 =>
  if 0 ≤ l2 ∧ l2 < 24 then
  nk_lt (nk_wi S3 (ja_c l0 27) l2.toNat l3) fun S6 =>
  nk_lt (nk_wi S6 (ja_c l0 28) l1.toNat l4) fun S9 =>
  nk_lt (nk_wi S9 (ja_c l0 28) l2.toNat l4) fun S11 =>
  nk_lt (nk_wi S11 (ja_c l0 31) l1.toNat (nk_ior (S11.1 (ja_c l0 31) l1.toNat) (S11.1 (ja_c l0 31) l2.toNat))) fun S14 =>
  nk_lt (nk_wi S14 (ja_c l0 32) l1.toNat (nk_ior (S14.1 (ja_c l0 32) l1.toNat) (S14.1 (ja_c l0 32) l2.toNat))) fun S17 =>
  nk_lt (nk_wi S17 (ja_c l0 33) l1.toNat (nk_ior (S17.1 (ja_c l0 33) l1.toNat) (S17.1 (ja_c l0 33) l2.toNat))) fun S20 =>
  nk_lt (nk_wi S20 (ja_c l0 31) l2.toNat (S20.1 (ja_c l0 31) l1.toNat)) fun S22 =>
  nk_lt (nk_wi S22 (ja_c l0 32) l2.toNat (S22.1 (ja_c l0 32) l1.toNat)) fun S24 =>
  nk_lt (nk_wi S24 (ja_c l0 33) l2.toNat (S24.1 (ja_c l0 33) l1.toNat)) fun S26 =>
  some (1, S26)
  else none
  else none
theorem ja_X13_alike_b41_ok (zs : List Int32) : ∀ (l0 : Nat) (l1 : Int) (l2 : Int) (l3 : Int) (l4 : Int) (S : nk_S) (R : Int × nk_S), nk_cl ja_Tt l0 = some 13 → ja_X13_alike_b41 l0 l1 l2 l3 l4 S = some R → nk_K ja_Tt mi_Γ (mi_ev zs) 1 82 41 [(0, nk_r l0), (1, nk_i l1), (2, nk_i l2), (3, nk_i l3), (4, nk_i l4)] [] S R := by
  intro l0 l1 l2 l3 l4 S R t_l0 hr
  unfold ja_X13_alike_b41 at hr
  refine nk_p (i := .aload_n 0) (len := 1) (pc' := 42) mJ_82 (by decide +kernel) (ns_aload_n 0 rfl rfl) rfl ?_
  refine nk_getC (f := (4, 1, 24)) (x := 74) (len := 3) (ci := 13) (k := 27) (pc' := 45) ja_okT mJ_82 (by decide +kernel) (by decide +kernel) (by decide +kernel) (by decide) t_l0 rfl ?_
  have t1 : nk_ar ja_Tt (ja_c l0 27) = some (1, 24) := nk_ta ja_okT t_l0 (by decide +kernel)
  refine nk_p (i := .iload_n 1) (len := 1) (pc' := 46) mJ_82 (by decide +kernel) (ns_iload_n 1 rfl rfl) rfl ?_
  refine nk_p (i := .iload_n 3) (len := 1) (pc' := 47) mJ_82 (by decide +kernel) (ns_iload_n 3 rfl rfl) rfl ?_
  obtain ⟨h2, hr⟩ := nk_cke hr
  obtain ⟨S3, h4, hr⟩ := nk_lte hr
  refine nk_iast (len := 1) (N := 24) (pc' := 48) mJ_82 (by decide +kernel) t1 h2.1 h2.2 rfl rfl h4 ?_
  refine nk_p (i := .aload_n 0) (len := 1) (pc' := 49) mJ_82 (by decide +kernel) (ns_aload_n 0 rfl rfl) rfl ?_
  refine nk_getC (f := (4, 1, 24)) (x := 74) (len := 3) (ci := 13) (k := 27) (pc' := 52) ja_okT mJ_82 (by decide +kernel) (by decide +kernel) (by decide +kernel) (by decide) t_l0 rfl ?_
  refine nk_p (i := .iload_n 2) (len := 1) (pc' := 53) mJ_82 (by decide +kernel) (ns_iload_n 2 rfl rfl) rfl ?_
  refine nk_p (i := .iload_n 3) (len := 1) (pc' := 54) mJ_82 (by decide +kernel) (ns_iload_n 3 rfl rfl) rfl ?_
  obtain ⟨h5, hr⟩ := nk_cke hr
  obtain ⟨S6, h7, hr⟩ := nk_lte hr
  refine nk_iast (len := 1) (N := 24) (pc' := 55) mJ_82 (by decide +kernel) t1 h5.1 h5.2 rfl rfl h7 ?_
  refine nk_p (i := .aload_n 0) (len := 1) (pc' := 56) mJ_82 (by decide +kernel) (ns_aload_n 0 rfl rfl) rfl ?_
  refine nk_getC (f := (4, 1, 24)) (x := 77) (len := 3) (ci := 13) (k := 28) (pc' := 59) ja_okT mJ_82 (by decide +kernel) (by decide +kernel) (by decide +kernel) (by decide) t_l0 rfl ?_
  have t8 : nk_ar ja_Tt (ja_c l0 28) = some (1, 24) := nk_ta ja_okT t_l0 (by decide +kernel)
  refine nk_p (i := .iload_n 1) (len := 1) (pc' := 60) mJ_82 (by decide +kernel) (ns_iload_n 1 rfl rfl) rfl ?_
  refine nk_p (i := .iload 4) (len := 2) (pc' := 62) mJ_82 (by decide +kernel) (ns_iload 4 rfl) rfl ?_
  obtain ⟨S9, h10, hr⟩ := nk_lte hr
  refine nk_iast (len := 1) (N := 24) (pc' := 63) mJ_82 (by decide +kernel) t8 h2.1 h2.2 rfl rfl h10 ?_
  refine nk_p (i := .aload_n 0) (len := 1) (pc' := 64) mJ_82 (by decide +kernel) (ns_aload_n 0 rfl rfl) rfl ?_
  refine nk_getC (f := (4, 1, 24)) (x := 77) (len := 3) (ci := 13) (k := 28) (pc' := 67) ja_okT mJ_82 (by decide +kernel) (by decide +kernel) (by decide +kernel) (by decide) t_l0 rfl ?_
  refine nk_p (i := .iload_n 2) (len := 1) (pc' := 68) mJ_82 (by decide +kernel) (ns_iload_n 2 rfl rfl) rfl ?_
  refine nk_p (i := .iload 4) (len := 2) (pc' := 70) mJ_82 (by decide +kernel) (ns_iload 4 rfl) rfl ?_
  obtain ⟨S11, h12, hr⟩ := nk_lte hr
  refine nk_iast (len := 1) (N := 24) (pc' := 71) mJ_82 (by decide +kernel) t8 h5.1 h5.2 rfl rfl h12 ?_
  refine nk_p (i := .aload_n 0) (len := 1) (pc' := 72) mJ_82 (by decide +kernel) (ns_aload_n 0 rfl rfl) rfl ?_
  refine nk_getC (f := (4, 1, 24)) (x := 87) (len := 3) (ci := 13) (k := 31) (pc' := 75) ja_okT mJ_82 (by decide +kernel) (by decide +kernel) (by decide +kernel) (by decide) t_l0 rfl ?_
  have t13 : nk_ar ja_Tt (ja_c l0 31) = some (1, 24) := nk_ta ja_okT t_l0 (by decide +kernel)
  refine nk_p (i := .iload_n 1) (len := 1) (pc' := 76) mJ_82 (by decide +kernel) (ns_iload_n 1 rfl rfl) rfl ?_
  refine nk_p (i := .dup2) (len := 1) (pc' := 77) mJ_82 (by decide +kernel) (ns_dup2 rfl rfl) rfl ?_
  refine nk_iald (len := 1) (N := 24) (pc' := 78) mJ_82 (by decide +kernel) t13 h2.1 h2.2 rfl rfl ?_
  refine nk_p (i := .aload_n 0) (len := 1) (pc' := 79) mJ_82 (by decide +kernel) (ns_aload_n 0 rfl rfl) rfl ?_
  refine nk_getC (f := (4, 1, 24)) (x := 87) (len := 3) (ci := 13) (k := 31) (pc' := 82) ja_okT mJ_82 (by decide +kernel) (by decide +kernel) (by decide +kernel) (by decide) t_l0 rfl ?_
  refine nk_p (i := .iload_n 2) (len := 1) (pc' := 83) mJ_82 (by decide +kernel) (ns_iload_n 2 rfl rfl) rfl ?_
  refine nk_iald (len := 1) (N := 24) (pc' := 84) mJ_82 (by decide +kernel) t13 h5.1 h5.2 rfl rfl ?_
  refine nk_p (i := .ior) (len := 1) (pc' := 85) mJ_82 (by decide +kernel) ns_ior rfl ?_
  obtain ⟨S14, h15, hr⟩ := nk_lte hr
  refine nk_iast (len := 1) (N := 24) (pc' := 86) mJ_82 (by decide +kernel) t13 h2.1 h2.2 rfl rfl h15 ?_
  refine nk_p (i := .aload_n 0) (len := 1) (pc' := 87) mJ_82 (by decide +kernel) (ns_aload_n 0 rfl rfl) rfl ?_
  refine nk_getC (f := (4, 1, 24)) (x := 90) (len := 3) (ci := 13) (k := 32) (pc' := 90) ja_okT mJ_82 (by decide +kernel) (by decide +kernel) (by decide +kernel) (by decide) t_l0 rfl ?_
  have t16 : nk_ar ja_Tt (ja_c l0 32) = some (1, 24) := nk_ta ja_okT t_l0 (by decide +kernel)
  refine nk_p (i := .iload_n 1) (len := 1) (pc' := 91) mJ_82 (by decide +kernel) (ns_iload_n 1 rfl rfl) rfl ?_
  refine nk_p (i := .dup2) (len := 1) (pc' := 92) mJ_82 (by decide +kernel) (ns_dup2 rfl rfl) rfl ?_
  refine nk_iald (len := 1) (N := 24) (pc' := 93) mJ_82 (by decide +kernel) t16 h2.1 h2.2 rfl rfl ?_
  refine nk_p (i := .aload_n 0) (len := 1) (pc' := 94) mJ_82 (by decide +kernel) (ns_aload_n 0 rfl rfl) rfl ?_
  refine nk_getC (f := (4, 1, 24)) (x := 90) (len := 3) (ci := 13) (k := 32) (pc' := 97) ja_okT mJ_82 (by decide +kernel) (by decide +kernel) (by decide +kernel) (by decide) t_l0 rfl ?_
  refine nk_p (i := .iload_n 2) (len := 1) (pc' := 98) mJ_82 (by decide +kernel) (ns_iload_n 2 rfl rfl) rfl ?_
  refine nk_iald (len := 1) (N := 24) (pc' := 99) mJ_82 (by decide +kernel) t16 h5.1 h5.2 rfl rfl ?_
  refine nk_p (i := .ior) (len := 1) (pc' := 100) mJ_82 (by decide +kernel) ns_ior rfl ?_
  obtain ⟨S17, h18, hr⟩ := nk_lte hr
  refine nk_iast (len := 1) (N := 24) (pc' := 101) mJ_82 (by decide +kernel) t16 h2.1 h2.2 rfl rfl h18 ?_
  refine nk_p (i := .aload_n 0) (len := 1) (pc' := 102) mJ_82 (by decide +kernel) (ns_aload_n 0 rfl rfl) rfl ?_
  refine nk_getC (f := (4, 1, 24)) (x := 93) (len := 3) (ci := 13) (k := 33) (pc' := 105) ja_okT mJ_82 (by decide +kernel) (by decide +kernel) (by decide +kernel) (by decide) t_l0 rfl ?_
  have t19 : nk_ar ja_Tt (ja_c l0 33) = some (1, 24) := nk_ta ja_okT t_l0 (by decide +kernel)
  refine nk_p (i := .iload_n 1) (len := 1) (pc' := 106) mJ_82 (by decide +kernel) (ns_iload_n 1 rfl rfl) rfl ?_
  refine nk_p (i := .dup2) (len := 1) (pc' := 107) mJ_82 (by decide +kernel) (ns_dup2 rfl rfl) rfl ?_
  refine nk_iald (len := 1) (N := 24) (pc' := 108) mJ_82 (by decide +kernel) t19 h2.1 h2.2 rfl rfl ?_
  refine nk_p (i := .aload_n 0) (len := 1) (pc' := 109) mJ_82 (by decide +kernel) (ns_aload_n 0 rfl rfl) rfl ?_
  refine nk_getC (f := (4, 1, 24)) (x := 93) (len := 3) (ci := 13) (k := 33) (pc' := 112) ja_okT mJ_82 (by decide +kernel) (by decide +kernel) (by decide +kernel) (by decide) t_l0 rfl ?_
  refine nk_p (i := .iload_n 2) (len := 1) (pc' := 113) mJ_82 (by decide +kernel) (ns_iload_n 2 rfl rfl) rfl ?_
  refine nk_iald (len := 1) (N := 24) (pc' := 114) mJ_82 (by decide +kernel) t19 h5.1 h5.2 rfl rfl ?_
  refine nk_p (i := .ior) (len := 1) (pc' := 115) mJ_82 (by decide +kernel) ns_ior rfl ?_
  obtain ⟨S20, h21, hr⟩ := nk_lte hr
  refine nk_iast (len := 1) (N := 24) (pc' := 116) mJ_82 (by decide +kernel) t19 h2.1 h2.2 rfl rfl h21 ?_
  refine nk_p (i := .aload_n 0) (len := 1) (pc' := 117) mJ_82 (by decide +kernel) (ns_aload_n 0 rfl rfl) rfl ?_
  refine nk_getC (f := (4, 1, 24)) (x := 87) (len := 3) (ci := 13) (k := 31) (pc' := 120) ja_okT mJ_82 (by decide +kernel) (by decide +kernel) (by decide +kernel) (by decide) t_l0 rfl ?_
  refine nk_p (i := .iload_n 2) (len := 1) (pc' := 121) mJ_82 (by decide +kernel) (ns_iload_n 2 rfl rfl) rfl ?_
  refine nk_p (i := .aload_n 0) (len := 1) (pc' := 122) mJ_82 (by decide +kernel) (ns_aload_n 0 rfl rfl) rfl ?_
  refine nk_getC (f := (4, 1, 24)) (x := 87) (len := 3) (ci := 13) (k := 31) (pc' := 125) ja_okT mJ_82 (by decide +kernel) (by decide +kernel) (by decide +kernel) (by decide) t_l0 rfl ?_
  refine nk_p (i := .iload_n 1) (len := 1) (pc' := 126) mJ_82 (by decide +kernel) (ns_iload_n 1 rfl rfl) rfl ?_
  refine nk_iald (len := 1) (N := 24) (pc' := 127) mJ_82 (by decide +kernel) t13 h2.1 h2.2 rfl rfl ?_
  obtain ⟨S22, h23, hr⟩ := nk_lte hr
  refine nk_iast (len := 1) (N := 24) (pc' := 128) mJ_82 (by decide +kernel) t13 h5.1 h5.2 rfl rfl h23 ?_
  refine nk_p (i := .aload_n 0) (len := 1) (pc' := 129) mJ_82 (by decide +kernel) (ns_aload_n 0 rfl rfl) rfl ?_
  refine nk_getC (f := (4, 1, 24)) (x := 90) (len := 3) (ci := 13) (k := 32) (pc' := 132) ja_okT mJ_82 (by decide +kernel) (by decide +kernel) (by decide +kernel) (by decide) t_l0 rfl ?_
  refine nk_p (i := .iload_n 2) (len := 1) (pc' := 133) mJ_82 (by decide +kernel) (ns_iload_n 2 rfl rfl) rfl ?_
  refine nk_p (i := .aload_n 0) (len := 1) (pc' := 134) mJ_82 (by decide +kernel) (ns_aload_n 0 rfl rfl) rfl ?_
  refine nk_getC (f := (4, 1, 24)) (x := 90) (len := 3) (ci := 13) (k := 32) (pc' := 137) ja_okT mJ_82 (by decide +kernel) (by decide +kernel) (by decide +kernel) (by decide) t_l0 rfl ?_
  refine nk_p (i := .iload_n 1) (len := 1) (pc' := 138) mJ_82 (by decide +kernel) (ns_iload_n 1 rfl rfl) rfl ?_
  refine nk_iald (len := 1) (N := 24) (pc' := 139) mJ_82 (by decide +kernel) t16 h2.1 h2.2 rfl rfl ?_
  obtain ⟨S24, h25, hr⟩ := nk_lte hr
  refine nk_iast (len := 1) (N := 24) (pc' := 140) mJ_82 (by decide +kernel) t16 h5.1 h5.2 rfl rfl h25 ?_
  refine nk_p (i := .aload_n 0) (len := 1) (pc' := 141) mJ_82 (by decide +kernel) (ns_aload_n 0 rfl rfl) rfl ?_
  refine nk_getC (f := (4, 1, 24)) (x := 93) (len := 3) (ci := 13) (k := 33) (pc' := 144) ja_okT mJ_82 (by decide +kernel) (by decide +kernel) (by decide +kernel) (by decide) t_l0 rfl ?_
  refine nk_p (i := .iload_n 2) (len := 1) (pc' := 145) mJ_82 (by decide +kernel) (ns_iload_n 2 rfl rfl) rfl ?_
  refine nk_p (i := .aload_n 0) (len := 1) (pc' := 146) mJ_82 (by decide +kernel) (ns_aload_n 0 rfl rfl) rfl ?_
  refine nk_getC (f := (4, 1, 24)) (x := 93) (len := 3) (ci := 13) (k := 33) (pc' := 149) ja_okT mJ_82 (by decide +kernel) (by decide +kernel) (by decide +kernel) (by decide) t_l0 rfl ?_
  refine nk_p (i := .iload_n 1) (len := 1) (pc' := 150) mJ_82 (by decide +kernel) (ns_iload_n 1 rfl rfl) rfl ?_
  refine nk_iald (len := 1) (N := 24) (pc' := 151) mJ_82 (by decide +kernel) t19 h2.1 h2.2 rfl rfl ?_
  obtain ⟨S26, h27, hr⟩ := nk_lte hr
  refine nk_iast (len := 1) (N := 24) (pc' := 152) mJ_82 (by decide +kernel) t19 h5.1 h5.2 rfl rfl h27 ?_
  refine nk_p (i := .iconst 1) (len := 1) (pc' := 153) mJ_82 (by decide +kernel) (ns_iconst (c := 1) (by decide +kernel)) rfl ?_
  cases hr
  exact nk_iret (ty := .boolean) (len := 1) mJ_82 (by decide +kernel) rfl (nk_nar_z (by decide))
noncomputable def ja_X13_alike (l0 : Nat) (l1 : Int) (l2 : Int) (S : nk_S) : Option (Int × nk_S) :=
  if 0 ≤ l1 ∧ l1 < 24 then
  if 0 ≤ l2 ∧ l2 < 24 then
  nk_bd (ja_J9_max_7cf53 (S.1 (ja_c l0 27) l1.toNat) (S.1 (ja_c l0 27) l2.toNat) S) fun r4 S5 =>
  nk_bd (ja_J9_min_7cf53 (S5.1 (ja_c l0 28) l1.toNat) (S5.1 (ja_c l0 28) l2.toNat) S5) fun r8 S9 =>
  if r4 ≤ r8 then
    ja_X13_alike_b41 l0 l1 l2 r4 r8 S9
  else
    some (0, S9)
  else none
  else none
theorem ja_X13_alike_ok (zs : List Int32) : ∀ (l0 : Nat) (l1 : Int) (l2 : Int) (S : nk_S) (R : Int × nk_S), nk_cl ja_Tt l0 = some 13 → ja_X13_alike l0 l1 l2 S = some R → nk_K ja_Tt mi_Γ (mi_ev zs) 1 82 0 [(0, nk_r l0), (1, nk_i l1), (2, nk_i l2)] [] S R := by
  intro l0 l1 l2 S R t_l0 hr
  unfold ja_X13_alike at hr
  refine nk_p (i := .aload_n 0) (len := 1) (pc' := 1) mJ_82 (by decide +kernel) (ns_aload_n 0 rfl rfl) rfl ?_
  refine nk_getC (f := (4, 1, 24)) (x := 74) (len := 3) (ci := 13) (k := 27) (pc' := 4) ja_okT mJ_82 (by decide +kernel) (by decide +kernel) (by decide +kernel) (by decide) t_l0 rfl ?_
  have t1 : nk_ar ja_Tt (ja_c l0 27) = some (1, 24) := nk_ta ja_okT t_l0 (by decide +kernel)
  refine nk_p (i := .iload_n 1) (len := 1) (pc' := 5) mJ_82 (by decide +kernel) (ns_iload_n 1 rfl rfl) rfl ?_
  obtain ⟨h2, hr⟩ := nk_cke hr
  refine nk_iald (len := 1) (N := 24) (pc' := 6) mJ_82 (by decide +kernel) t1 h2.1 h2.2 rfl rfl ?_
  refine nk_p (i := .aload_n 0) (len := 1) (pc' := 7) mJ_82 (by decide +kernel) (ns_aload_n 0 rfl rfl) rfl ?_
  refine nk_getC (f := (4, 1, 24)) (x := 74) (len := 3) (ci := 13) (k := 27) (pc' := 10) ja_okT mJ_82 (by decide +kernel) (by decide +kernel) (by decide +kernel) (by decide) t_l0 rfl ?_
  refine nk_p (i := .iload_n 2) (len := 1) (pc' := 11) mJ_82 (by decide +kernel) (ns_iload_n 2 rfl rfl) rfl ?_
  obtain ⟨h3, hr⟩ := nk_cke hr
  refine nk_iald (len := 1) (N := 24) (pc' := 12) mJ_82 (by decide +kernel) t1 h3.1 h3.2 rfl rfl ?_
  obtain ⟨r4, S5, h6, hr⟩ := nk_bde hr
  refine nk_callS (ci := 0) (n := 2) (x := 557) (len := 3) (j' := 16) (q' := 1) (r := r4) (S' := S5) (L2 := [(0, nk_i (S.1 (ja_c l0 27) l1.toNat)), (1, nk_i (S.1 (ja_c l0 27) l2.toNat))]) (rest := []) (st' := [nk_i r4]) (pc' := 15) mJ_82 (by decide +kernel) (by decide +kernel) (Nat.le_of_ble_eq_true rfl) rfl rfl (Nat.le_of_ble_eq_true rfl) mJ_16 (Nat.le_of_ble_eq_true rfl) ja_Tpos rfl (ja_J9_max_7cf53_ok zs _ _ _ _ h6) rfl ?_
  refine nk_p (i := .istore_n 3) (len := 1) (pc' := 16) mJ_82 (by decide +kernel) (ns_istore_n (L' := [(3, nk_i r4), (0, nk_r l0), (1, nk_i l1), (2, nk_i l2)]) rfl rfl rfl (by decide +kernel)) rfl ?_
  refine nk_p (i := .aload_n 0) (len := 1) (pc' := 17) mJ_82 (by decide +kernel) (ns_aload_n 1 rfl rfl) rfl ?_
  refine nk_getC (f := (4, 1, 24)) (x := 77) (len := 3) (ci := 13) (k := 28) (pc' := 20) ja_okT mJ_82 (by decide +kernel) (by decide +kernel) (by decide +kernel) (by decide) t_l0 rfl ?_
  have t7 : nk_ar ja_Tt (ja_c l0 28) = some (1, 24) := nk_ta ja_okT t_l0 (by decide +kernel)
  refine nk_p (i := .iload_n 1) (len := 1) (pc' := 21) mJ_82 (by decide +kernel) (ns_iload_n 2 rfl rfl) rfl ?_
  refine nk_iald (len := 1) (N := 24) (pc' := 22) mJ_82 (by decide +kernel) t7 h2.1 h2.2 rfl rfl ?_
  refine nk_p (i := .aload_n 0) (len := 1) (pc' := 23) mJ_82 (by decide +kernel) (ns_aload_n 1 rfl rfl) rfl ?_
  refine nk_getC (f := (4, 1, 24)) (x := 77) (len := 3) (ci := 13) (k := 28) (pc' := 26) ja_okT mJ_82 (by decide +kernel) (by decide +kernel) (by decide +kernel) (by decide) t_l0 rfl ?_
  refine nk_p (i := .iload_n 2) (len := 1) (pc' := 27) mJ_82 (by decide +kernel) (ns_iload_n 3 rfl rfl) rfl ?_
  refine nk_iald (len := 1) (N := 24) (pc' := 28) mJ_82 (by decide +kernel) t7 h3.1 h3.2 rfl rfl ?_
  obtain ⟨r8, S9, h10, hr⟩ := nk_bde hr
  refine nk_callS (ci := 0) (n := 2) (x := 551) (len := 3) (j' := 18) (q' := 1) (r := r8) (S' := S9) (L2 := [(0, nk_i (S5.1 (ja_c l0 28) l1.toNat)), (1, nk_i (S5.1 (ja_c l0 28) l2.toNat))]) (rest := []) (st' := [nk_i r8]) (pc' := 31) mJ_82 (by decide +kernel) (by decide +kernel) (Nat.le_of_ble_eq_true rfl) rfl rfl (Nat.le_of_ble_eq_true rfl) mJ_18 (Nat.le_of_ble_eq_true rfl) ja_Tpos rfl (ja_J9_min_7cf53_ok zs _ _ _ _ h10) rfl ?_
  refine nk_p (i := .istore 4) (len := 2) (pc' := 33) mJ_82 (by decide +kernel) (ns_istore (L' := [(4, nk_i r8), (3, nk_i r4), (0, nk_r l0), (1, nk_i l1), (2, nk_i l2)]) rfl rfl (by decide +kernel)) rfl ?_
  refine nk_p (i := .iload_n 3) (len := 1) (pc' := 34) mJ_82 (by decide +kernel) (ns_iload_n 1 rfl rfl) rfl ?_
  refine nk_p (i := .iload 4) (len := 2) (pc' := 36) mJ_82 (by decide +kernel) (ns_iload 0 rfl) rfl ?_
  refine nk_icmp (c := .le) (off := 5) (len := 3) (t := 41) (pc' := 39) mJ_82 (by decide +kernel) (by decide +kernel) rfl (fun hc => ?_) (fun hc => ?_)
  · have hr := nk_ifp (c := r4 ≤ r8) hc hr
    refine nk_sub [2, 3, 4, 1, 0] (L' := [(0, nk_r l0), (1, nk_i l1), (2, nk_i l2), (3, nk_i r4), (4, nk_i r8)]) rfl ?_
    exact ja_X13_alike_b41_ok zs _ _ _ _ _ _ _ t_l0 hr
  · have hr := nk_ifn (c := r4 ≤ r8) hc hr
    refine nk_p (i := .iconst 0) (len := 1) (pc' := 40) mJ_82 (by decide +kernel) (ns_iconst (c := 0) (by decide +kernel)) rfl ?_
    cases hr
    exact nk_iret (ty := .boolean) (len := 1) mJ_82 (by decide +kernel) rfl (nk_nar_z (by decide))
/-! SafeCodeModel among (IILjava/lang/String;)I -/
noncomputable def ja_X13_among_b104 (rec6 : Nat → Int → Int → Nat → Int → Int → nk_S → Option (Int × nk_S)) (l0 : Nat) (l1 : Int) (l2 : Int) (l3 : Nat) (l4 : Int) (l6 : Int) (l7 : Int) (S : nk_S) : Option (Int × nk_S) :=
  if l7 = 0 then
    nk_lt (nk_w (l4 + 1)) fun v1 =>
    nk_lt (nk_w (l6 + 1)) fun v3 =>
    rec6 l0 l1 l2 l3 v1 v3 S
  else
    some (l4, S)
theorem ja_X13_among_b104_ok (zs : List Int32) {rec6 : Nat → Int → Int → Nat → Int → Int → nk_S → Option (Int × nk_S)} (hrec6 : ∀ (l0 : Nat) (l1 : Int) (l2 : Int) (l3 : Nat) (l4 : Int) (l5 : Int) (S : nk_S) (R : Int × nk_S), nk_cl ja_Tt l0 = some 13 → ja_tx zs l3 → rec6 l0 l1 l2 l3 l4 l5 S = some R → nk_K ja_Tt mi_Γ (mi_ev zs) 1 83 6 [(0, nk_r l0), (1, nk_i l1), (2, nk_i l2), (3, nk_o l3), (4, nk_i l4), (5, nk_i l5)] [] S R) : ∀ (l0 : Nat) (l1 : Int) (l2 : Int) (l3 : Nat) (l4 : Int) (l6 : Int) (l7 : Int) (S : nk_S) (R : Int × nk_S), nk_cl ja_Tt l0 = some 13 → ja_tx zs l3 → ja_X13_among_b104 rec6 l0 l1 l2 l3 l4 l6 l7 S = some R → nk_K ja_Tt mi_Γ (mi_ev zs) 1 83 104 [(0, nk_r l0), (1, nk_i l1), (2, nk_i l2), (3, nk_o l3), (4, nk_i l4), (6, nk_i l6), (7, nk_i l7)] [] S R := by
  intro l0 l1 l2 l3 l4 l6 l7 S R t_l0 t_l3 hr
  unfold ja_X13_among_b104 at hr
  refine nk_p (i := .iload 7) (len := 2) (pc' := 106) mJ_83 (by decide +kernel) (ns_iload 6 rfl) rfl ?_
  refine nk_icond (c := .eq) (off := 6) (len := 3) (t := 112) (pc' := 109) mJ_83 (by decide +kernel) (by decide +kernel) rfl (fun hc => ?_) (fun hc => ?_)
  · have hr := nk_ifp (c := l7 = 0) hc hr
    obtain ⟨v1, h2, hr⟩ := nk_lte hr
    refine nk_p (i := .iinc 4 1) (len := 3) (pc' := 115) mJ_83 (by decide +kernel) (ns_iinc (c := 1) (L' := [(4, nk_i v1), (0, nk_r l0), (1, nk_i l1), (2, nk_i l2), (3, nk_o l3), (6, nk_i l6), (7, nk_i l7)]) 4 rfl (by decide +kernel) h2 rfl (by decide +kernel)) rfl ?_
    refine nk_p (i := .iload 6) (len := 2) (pc' := 117) mJ_83 (by decide +kernel) (ns_iload 5 rfl) rfl ?_
    refine nk_p (i := .iconst 1) (len := 1) (pc' := 118) mJ_83 (by decide +kernel) (ns_iconst (c := 1) (by decide +kernel)) rfl ?_
    refine nk_p (i := .iadd) (len := 1) (pc' := 119) mJ_83 (by decide +kernel) ns_iadd rfl ?_
    obtain ⟨v3, h4, hr⟩ := nk_lte hr
    refine nk_p (i := .istore 5) (len := 2) (pc' := 121) mJ_83 (by decide +kernel) (ns_istore (L' := [(5, nk_i v3), (4, nk_i v1), (0, nk_r l0), (1, nk_i l1), (2, nk_i l2), (3, nk_o l3), (6, nk_i l6), (7, nk_i l7)]) h4 rfl (by decide +kernel)) rfl ?_
    refine nk_p (i := .goto (-115)) (len := 3) (pc' := 6) mJ_83 (by decide +kernel) (ns_goto (by decide +kernel)) rfl ?_
    refine nk_sub [2, 3, 4, 5, 1, 0] (L' := [(0, nk_r l0), (1, nk_i l1), (2, nk_i l2), (3, nk_o l3), (4, nk_i v1), (5, nk_i v3)]) rfl ?_
    exact hrec6 _ _ _ _ _ _ _ _ t_l0 t_l3 hr
  · have hr := nk_ifn (c := l7 = 0) hc hr
    refine nk_p (i := .iload 4) (len := 2) (pc' := 111) mJ_83 (by decide +kernel) (ns_iload 4 rfl) rfl ?_
    cases hr
    exact nk_iret (ty := .int) (len := 1) mJ_83 (by decide +kernel) rfl (nk_nar_i _)
noncomputable def ja_X13_among_b57 (rec6 : Nat → Int → Int → Nat → Int → Int → nk_S → Option (Int × nk_S)) (rec57 : Nat → Int → Int → Nat → Int → Int → Int → Int → Int → nk_S → Option (Int × nk_S)) (l0 : Nat) (l1 : Int) (l2 : Int) (l3 : Nat) (l4 : Int) (l5 : Int) (l6 : Int) (l7 : Int) (l8 : Int) (S : nk_S) : Option (Int × nk_S) :=
  if l7 = 0 then
    ja_X13_among_b104 rec6 l0 l1 l2 l3 l4 l6 l7 S
  else
    if (nk_w (l2 - l1)) ≤ l8 then
      ja_X13_among_b104 rec6 l0 l1 l2 l3 l4 l6 l7 S
    else
      if 0 ≤ (nk_w (l1 + l8)) ∧ (nk_w (l1 + l8)) < 16000 then
      nk_bd (ja_J0_charAt_5068e l3 (nk_w (l5 + l8)) S) fun r3 S4 =>
      if (S.1 (ja_c l0 6) (nk_w (l1 + l8)).toNat) = r3 then
        nk_lt (nk_w (l8 + 1)) fun v8 =>
        rec57 l0 l1 l2 l3 l4 l5 l6 1 v8 S4
      else
        nk_lt (nk_w (l8 + 1)) fun v6 =>
        rec57 l0 l1 l2 l3 l4 l5 l6 0 v6 S4
      else none
theorem ja_X13_among_b57_ok (zs : List Int32) {rec6 : Nat → Int → Int → Nat → Int → Int → nk_S → Option (Int × nk_S)} (hrec6 : ∀ (l0 : Nat) (l1 : Int) (l2 : Int) (l3 : Nat) (l4 : Int) (l5 : Int) (S : nk_S) (R : Int × nk_S), nk_cl ja_Tt l0 = some 13 → ja_tx zs l3 → rec6 l0 l1 l2 l3 l4 l5 S = some R → nk_K ja_Tt mi_Γ (mi_ev zs) 1 83 6 [(0, nk_r l0), (1, nk_i l1), (2, nk_i l2), (3, nk_o l3), (4, nk_i l4), (5, nk_i l5)] [] S R) {rec57 : Nat → Int → Int → Nat → Int → Int → Int → Int → Int → nk_S → Option (Int × nk_S)} (hrec57 : ∀ (l0 : Nat) (l1 : Int) (l2 : Int) (l3 : Nat) (l4 : Int) (l5 : Int) (l6 : Int) (l7 : Int) (l8 : Int) (S : nk_S) (R : Int × nk_S), nk_cl ja_Tt l0 = some 13 → ja_tx zs l3 → rec57 l0 l1 l2 l3 l4 l5 l6 l7 l8 S = some R → nk_K ja_Tt mi_Γ (mi_ev zs) 1 83 57 [(0, nk_r l0), (1, nk_i l1), (2, nk_i l2), (3, nk_o l3), (4, nk_i l4), (5, nk_i l5), (6, nk_i l6), (7, nk_i l7), (8, nk_i l8)] [] S R) : ∀ (l0 : Nat) (l1 : Int) (l2 : Int) (l3 : Nat) (l4 : Int) (l5 : Int) (l6 : Int) (l7 : Int) (l8 : Int) (S : nk_S) (R : Int × nk_S), nk_cl ja_Tt l0 = some 13 → ja_tx zs l3 → ja_X13_among_b57 rec6 rec57 l0 l1 l2 l3 l4 l5 l6 l7 l8 S = some R → nk_K ja_Tt mi_Γ (mi_ev zs) 1 83 57 [(0, nk_r l0), (1, nk_i l1), (2, nk_i l2), (3, nk_o l3), (4, nk_i l4), (5, nk_i l5), (6, nk_i l6), (7, nk_i l7), (8, nk_i l8)] [] S R := by
  intro l0 l1 l2 l3 l4 l5 l6 l7 l8 S R t_l0 t_l3 hr
  unfold ja_X13_among_b57 at hr
  refine nk_p (i := .iload 7) (len := 2) (pc' := 59) mJ_83 (by decide +kernel) (ns_iload 7 rfl) rfl ?_
  refine nk_icond (c := .eq) (off := 45) (len := 3) (t := 104) (pc' := 62) mJ_83 (by decide +kernel) (by decide +kernel) rfl (fun hc => ?_) (fun hc => ?_)
  · have hr := nk_ifp (c := l7 = 0) hc hr
    refine nk_sub [0, 1, 2, 3, 4, 6, 7] (L' := [(0, nk_r l0), (1, nk_i l1), (2, nk_i l2), (3, nk_o l3), (4, nk_i l4), (6, nk_i l6), (7, nk_i l7)]) rfl ?_
    exact ja_X13_among_b104_ok zs hrec6 _ _ _ _ _ _ _ _ _ t_l0 t_l3 hr
  · have hr := nk_ifn (c := l7 = 0) hc hr
    refine nk_p (i := .iload 8) (len := 2) (pc' := 64) mJ_83 (by decide +kernel) (ns_iload 8 rfl) rfl ?_
    refine nk_p (i := .iload_n 2) (len := 1) (pc' := 65) mJ_83 (by decide +kernel) (ns_iload_n 2 rfl rfl) rfl ?_
    refine nk_p (i := .iload_n 1) (len := 1) (pc' := 66) mJ_83 (by decide +kernel) (ns_iload_n 1 rfl rfl) rfl ?_
    refine nk_p (i := .isub) (len := 1) (pc' := 67) mJ_83 (by decide +kernel) ns_isub rfl ?_
    refine nk_icmp (c := .ge) (off := 37) (len := 3) (t := 104) (pc' := 70) mJ_83 (by decide +kernel) (by decide +kernel) rfl (fun hc => ?_) (fun hc => ?_)
    · have hr := nk_ifp (c := (nk_w (l2 - l1)) ≤ l8) hc hr
      refine nk_sub [0, 1, 2, 3, 4, 6, 7] (L' := [(0, nk_r l0), (1, nk_i l1), (2, nk_i l2), (3, nk_o l3), (4, nk_i l4), (6, nk_i l6), (7, nk_i l7)]) rfl ?_
      exact ja_X13_among_b104_ok zs hrec6 _ _ _ _ _ _ _ _ _ t_l0 t_l3 hr
    · have hr := nk_ifn (c := (nk_w (l2 - l1)) ≤ l8) hc hr
      refine nk_p (i := .aload_n 0) (len := 1) (pc' := 71) mJ_83 (by decide +kernel) (ns_aload_n 0 rfl rfl) rfl ?_
      refine nk_getC (f := (4, 0, 16000)) (x := 23) (len := 3) (ci := 13) (k := 6) (pc' := 74) ja_okT mJ_83 (by decide +kernel) (by decide +kernel) (by decide +kernel) (by decide) t_l0 rfl ?_
      have t1 : nk_ar ja_Tt (ja_c l0 6) = some (0, 16000) := nk_ta ja_okT t_l0 (by decide +kernel)
      refine nk_p (i := .iload_n 1) (len := 1) (pc' := 75) mJ_83 (by decide +kernel) (ns_iload_n 1 rfl rfl) rfl ?_
      refine nk_p (i := .iload 8) (len := 2) (pc' := 77) mJ_83 (by decide +kernel) (ns_iload 8 rfl) rfl ?_
      refine nk_p (i := .iadd) (len := 1) (pc' := 78) mJ_83 (by decide +kernel) ns_iadd rfl ?_
      obtain ⟨h2, hr⟩ := nk_cke hr
      refine nk_bald (t := 0) (len := 1) (N := 16000) (pc' := 79) mJ_83 (by decide +kernel) t1 (by decide) h2.1 h2.2 rfl rfl ?_
      refine nk_p (i := .aload_n 3) (len := 1) (pc' := 80) mJ_83 (by decide +kernel) (ns_oload_n 3 rfl rfl) rfl ?_
      refine nk_p (i := .iload 5) (len := 2) (pc' := 82) mJ_83 (by decide +kernel) (ns_iload 5 rfl) rfl ?_
      refine nk_p (i := .iload 8) (len := 2) (pc' := 84) mJ_83 (by decide +kernel) (ns_iload 8 rfl) rfl ?_
      refine nk_p (i := .iadd) (len := 1) (pc' := 85) mJ_83 (by decide +kernel) ns_iadd rfl ?_
      obtain ⟨r3, S4, h5, hr⟩ := nk_bde hr
      refine nk_callT (ci := 0) (n := 1) (x := 163) (len := 3) (j' := 1) (q' := 1) (r := r3) (S' := S4) (L2 := [(0, nk_o l3), (1, nk_i (nk_w (l5 + l8)))]) (rest := [nk_i (S.1 (ja_c l0 6) (nk_w (l1 + l8)).toNat)]) (st' := [nk_i r3, nk_i (S.1 (ja_c l0 6) (nk_w (l1 + l8)).toNat)]) (pc' := 88) mJ_83 (by decide +kernel) (by decide +kernel) rfl rfl t_l3.1 (Nat.le_of_ble_eq_true rfl) mJ_1 (Nat.le_of_ble_eq_true rfl) ja_Tpos rfl (ja_J0_charAt_5068e_ok zs _ _ _ _ t_l3 h5) rfl ?_
      refine nk_icmp (c := .ne) (off := 7) (len := 3) (t := 95) (pc' := 91) mJ_83 (by decide +kernel) (by decide +kernel) rfl (fun hc => ?_) (fun hc => ?_)
      · have hr := nk_ifn (c := (S.1 (ja_c l0 6) (nk_w (l1 + l8)).toNat) = r3) hc hr
        refine nk_p (i := .iconst 0) (len := 1) (pc' := 96) mJ_83 (by decide +kernel) (ns_iconst (c := 0) (by decide +kernel)) rfl ?_
        refine nk_p (i := .istore 7) (len := 2) (pc' := 98) mJ_83 (by decide +kernel) (ns_istore (L' := [(7, nk_i 0), (0, nk_r l0), (1, nk_i l1), (2, nk_i l2), (3, nk_o l3), (4, nk_i l4), (5, nk_i l5), (6, nk_i l6), (8, nk_i l8)]) rfl rfl (by decide +kernel)) rfl ?_
        obtain ⟨v6, h7, hr⟩ := nk_lte hr
        refine nk_p (i := .iinc 8 1) (len := 3) (pc' := 101) mJ_83 (by decide +kernel) (ns_iinc (c := 1) (L' := [(8, nk_i v6), (7, nk_i 0), (0, nk_r l0), (1, nk_i l1), (2, nk_i l2), (3, nk_o l3), (4, nk_i l4), (5, nk_i l5), (6, nk_i l6)]) 8 rfl (by decide +kernel) h7 rfl (by decide +kernel)) rfl ?_
        refine nk_p (i := .goto (-44)) (len := 3) (pc' := 57) mJ_83 (by decide +kernel) (ns_goto (by decide +kernel)) rfl ?_
        refine nk_sub [2, 3, 4, 5, 6, 7, 8, 1, 0] (L' := [(0, nk_r l0), (1, nk_i l1), (2, nk_i l2), (3, nk_o l3), (4, nk_i l4), (5, nk_i l5), (6, nk_i l6), (7, nk_i 0), (8, nk_i v6)]) rfl ?_
        exact hrec57 _ _ _ _ _ _ _ _ _ _ _ t_l0 t_l3 hr
      · have hr := nk_ifp (c := (S.1 (ja_c l0 6) (nk_w (l1 + l8)).toNat) = r3) (Decidable.of_not_not hc) hr
        refine nk_p (i := .iconst 1) (len := 1) (pc' := 92) mJ_83 (by decide +kernel) (ns_iconst (c := 1) (by decide +kernel)) rfl ?_
        refine nk_p (i := .goto 4) (len := 3) (pc' := 96) mJ_83 (by decide +kernel) (ns_goto (by decide +kernel)) rfl ?_
        refine nk_p (i := .istore 7) (len := 2) (pc' := 98) mJ_83 (by decide +kernel) (ns_istore (L' := [(7, nk_i 1), (0, nk_r l0), (1, nk_i l1), (2, nk_i l2), (3, nk_o l3), (4, nk_i l4), (5, nk_i l5), (6, nk_i l6), (8, nk_i l8)]) rfl rfl (by decide +kernel)) rfl ?_
        obtain ⟨v8, h9, hr⟩ := nk_lte hr
        refine nk_p (i := .iinc 8 1) (len := 3) (pc' := 101) mJ_83 (by decide +kernel) (ns_iinc (c := 1) (L' := [(8, nk_i v8), (7, nk_i 1), (0, nk_r l0), (1, nk_i l1), (2, nk_i l2), (3, nk_o l3), (4, nk_i l4), (5, nk_i l5), (6, nk_i l6)]) 8 rfl (by decide +kernel) h9 rfl (by decide +kernel)) rfl ?_
        refine nk_p (i := .goto (-44)) (len := 3) (pc' := 57) mJ_83 (by decide +kernel) (ns_goto (by decide +kernel)) rfl ?_
        refine nk_sub [2, 3, 4, 5, 6, 7, 8, 1, 0] (L' := [(0, nk_r l0), (1, nk_i l1), (2, nk_i l2), (3, nk_o l3), (4, nk_i l4), (5, nk_i l5), (6, nk_i l6), (7, nk_i 1), (8, nk_i v8)]) rfl ?_
        exact hrec57 _ _ _ _ _ _ _ _ _ _ _ t_l0 t_l3 hr
noncomputable def ja_X13_among_L57 (rec6 : Nat → Int → Int → Nat → Int → Int → nk_S → Option (Int × nk_S)) : Nat → Nat → Int → Int → Nat → Int → Int → Int → Int → Int → nk_S → Option (Int × nk_S)
  | 0, _, _, _, _, _, _, _, _, _, _ => none
  | n + 1, l0, l1, l2, l3, l4, l5, l6, l7, l8, S => ja_X13_among_b57 rec6 (ja_X13_among_L57 rec6 n) l0 l1 l2 l3 l4 l5 l6 l7 l8 S
theorem ja_X13_among_L57_ok (zs : List Int32) {rec6 : Nat → Int → Int → Nat → Int → Int → nk_S → Option (Int × nk_S)} (hrec6 : ∀ (l0 : Nat) (l1 : Int) (l2 : Int) (l3 : Nat) (l4 : Int) (l5 : Int) (S : nk_S) (R : Int × nk_S), nk_cl ja_Tt l0 = some 13 → ja_tx zs l3 → rec6 l0 l1 l2 l3 l4 l5 S = some R → nk_K ja_Tt mi_Γ (mi_ev zs) 1 83 6 [(0, nk_r l0), (1, nk_i l1), (2, nk_i l2), (3, nk_o l3), (4, nk_i l4), (5, nk_i l5)] [] S R) : ∀ n : Nat, ∀ (l0 : Nat) (l1 : Int) (l2 : Int) (l3 : Nat) (l4 : Int) (l5 : Int) (l6 : Int) (l7 : Int) (l8 : Int) (S : nk_S) (R : Int × nk_S), nk_cl ja_Tt l0 = some 13 → ja_tx zs l3 → ja_X13_among_L57 rec6 n l0 l1 l2 l3 l4 l5 l6 l7 l8 S = some R → nk_K ja_Tt mi_Γ (mi_ev zs) 1 83 57 [(0, nk_r l0), (1, nk_i l1), (2, nk_i l2), (3, nk_o l3), (4, nk_i l4), (5, nk_i l5), (6, nk_i l6), (7, nk_i l7), (8, nk_i l8)] [] S R := by
  intro n
  induction n with
  | zero => intro _ _ _ _ _ _ _ _ _ _ _ _ _ hr; cases hr
  | succ n ih => intro l0 l1 l2 l3 l4 l5 l6 l7 l8 S R t_l0 t_l3 hr; exact ja_X13_among_b57_ok zs hrec6 ih l0 l1 l2 l3 l4 l5 l6 l7 l8 S R t_l0 t_l3 hr
noncomputable def ja_X13_among_b19 (rec6 : Nat → Int → Int → Nat → Int → Int → nk_S → Option (Int × nk_S)) (rec19 : Nat → Int → Int → Nat → Int → Int → Int → nk_S → Option (Int × nk_S)) (l0 : Nat) (l1 : Int) (l2 : Int) (l3 : Nat) (l4 : Int) (l5 : Int) (l6 : Int) (S : nk_S) : Option (Int × nk_S) :=
  nk_bd (ja_J0_charAt_5068e l3 l6 S) fun r1 S2 =>
  if r1 = 32 then
    if (nk_w (l6 - l5)) = (nk_w (l2 - l1)) then
      ja_X13_among_L57 rec6 nk_big l0 l1 l2 l3 l4 l5 l6 1 0 S2
    else
      ja_X13_among_L57 rec6 nk_big l0 l1 l2 l3 l4 l5 l6 0 0 S2
  else
    nk_lt (nk_w (l6 + 1)) fun v4 =>
    rec19 l0 l1 l2 l3 l4 l5 v4 S2
theorem ja_X13_among_b19_ok (zs : List Int32) {rec6 : Nat → Int → Int → Nat → Int → Int → nk_S → Option (Int × nk_S)} (hrec6 : ∀ (l0 : Nat) (l1 : Int) (l2 : Int) (l3 : Nat) (l4 : Int) (l5 : Int) (S : nk_S) (R : Int × nk_S), nk_cl ja_Tt l0 = some 13 → ja_tx zs l3 → rec6 l0 l1 l2 l3 l4 l5 S = some R → nk_K ja_Tt mi_Γ (mi_ev zs) 1 83 6 [(0, nk_r l0), (1, nk_i l1), (2, nk_i l2), (3, nk_o l3), (4, nk_i l4), (5, nk_i l5)] [] S R) {rec19 : Nat → Int → Int → Nat → Int → Int → Int → nk_S → Option (Int × nk_S)} (hrec19 : ∀ (l0 : Nat) (l1 : Int) (l2 : Int) (l3 : Nat) (l4 : Int) (l5 : Int) (l6 : Int) (S : nk_S) (R : Int × nk_S), nk_cl ja_Tt l0 = some 13 → ja_tx zs l3 → rec19 l0 l1 l2 l3 l4 l5 l6 S = some R → nk_K ja_Tt mi_Γ (mi_ev zs) 1 83 19 [(0, nk_r l0), (1, nk_i l1), (2, nk_i l2), (3, nk_o l3), (4, nk_i l4), (5, nk_i l5), (6, nk_i l6)] [] S R) : ∀ (l0 : Nat) (l1 : Int) (l2 : Int) (l3 : Nat) (l4 : Int) (l5 : Int) (l6 : Int) (S : nk_S) (R : Int × nk_S), nk_cl ja_Tt l0 = some 13 → ja_tx zs l3 → ja_X13_among_b19 rec6 rec19 l0 l1 l2 l3 l4 l5 l6 S = some R → nk_K ja_Tt mi_Γ (mi_ev zs) 1 83 19 [(0, nk_r l0), (1, nk_i l1), (2, nk_i l2), (3, nk_o l3), (4, nk_i l4), (5, nk_i l5), (6, nk_i l6)] [] S R := by
  intro l0 l1 l2 l3 l4 l5 l6 S R t_l0 t_l3 hr
  unfold ja_X13_among_b19 at hr
  refine nk_p (i := .aload_n 3) (len := 1) (pc' := 20) mJ_83 (by decide +kernel) (ns_oload_n 3 rfl rfl) rfl ?_
  refine nk_p (i := .iload 6) (len := 2) (pc' := 22) mJ_83 (by decide +kernel) (ns_iload 6 rfl) rfl ?_
  obtain ⟨r1, S2, h3, hr⟩ := nk_bde hr
  refine nk_callT (ci := 0) (n := 1) (x := 163) (len := 3) (j' := 1) (q' := 1) (r := r1) (S' := S2) (L2 := [(0, nk_o l3), (1, nk_i l6)]) (rest := []) (st' := [nk_i r1]) (pc' := 25) mJ_83 (by decide +kernel) (by decide +kernel) rfl rfl t_l3.1 (Nat.le_of_ble_eq_true rfl) mJ_1 (Nat.le_of_ble_eq_true rfl) ja_Tpos rfl (ja_J0_charAt_5068e_ok zs _ _ _ _ t_l3 h3) rfl ?_
  refine nk_p (i := .bipush 32) (len := 2) (pc' := 27) mJ_83 (by decide +kernel) (ns_bipush (c := 32) (by decide +kernel)) rfl ?_
  refine nk_icmp (c := .eq) (off := 9) (len := 3) (t := 36) (pc' := 30) mJ_83 (by decide +kernel) (by decide +kernel) rfl (fun hc => ?_) (fun hc => ?_)
  · have hr := nk_ifp (c := r1 = 32) hc hr
    refine nk_p (i := .iload 6) (len := 2) (pc' := 38) mJ_83 (by decide +kernel) (ns_iload 6 rfl) rfl ?_
    refine nk_p (i := .iload 5) (len := 2) (pc' := 40) mJ_83 (by decide +kernel) (ns_iload 5 rfl) rfl ?_
    refine nk_p (i := .isub) (len := 1) (pc' := 41) mJ_83 (by decide +kernel) ns_isub rfl ?_
    refine nk_p (i := .iload_n 2) (len := 1) (pc' := 42) mJ_83 (by decide +kernel) (ns_iload_n 2 rfl rfl) rfl ?_
    refine nk_p (i := .iload_n 1) (len := 1) (pc' := 43) mJ_83 (by decide +kernel) (ns_iload_n 1 rfl rfl) rfl ?_
    refine nk_p (i := .isub) (len := 1) (pc' := 44) mJ_83 (by decide +kernel) ns_isub rfl ?_
    refine nk_icmp (c := .ne) (off := 7) (len := 3) (t := 51) (pc' := 47) mJ_83 (by decide +kernel) (by decide +kernel) rfl (fun hc => ?_) (fun hc => ?_)
    · have hr := nk_ifn (c := (nk_w (l6 - l5)) = (nk_w (l2 - l1))) hc hr
      refine nk_p (i := .iconst 0) (len := 1) (pc' := 52) mJ_83 (by decide +kernel) (ns_iconst (c := 0) (by decide +kernel)) rfl ?_
      refine nk_p (i := .istore 7) (len := 2) (pc' := 54) mJ_83 (by decide +kernel) (ns_istore (L' := [(7, nk_i 0), (0, nk_r l0), (1, nk_i l1), (2, nk_i l2), (3, nk_o l3), (4, nk_i l4), (5, nk_i l5), (6, nk_i l6)]) rfl rfl (by decide +kernel)) rfl ?_
      refine nk_p (i := .iconst 0) (len := 1) (pc' := 55) mJ_83 (by decide +kernel) (ns_iconst (c := 0) (by decide +kernel)) rfl ?_
      refine nk_p (i := .istore 8) (len := 2) (pc' := 57) mJ_83 (by decide +kernel) (ns_istore (L' := [(8, nk_i 0), (7, nk_i 0), (0, nk_r l0), (1, nk_i l1), (2, nk_i l2), (3, nk_o l3), (4, nk_i l4), (5, nk_i l5), (6, nk_i l6)]) rfl rfl (by decide +kernel)) rfl ?_
      refine nk_sub [2, 3, 4, 5, 6, 7, 8, 1, 0] (L' := [(0, nk_r l0), (1, nk_i l1), (2, nk_i l2), (3, nk_o l3), (4, nk_i l4), (5, nk_i l5), (6, nk_i l6), (7, nk_i 0), (8, nk_i 0)]) rfl ?_
      exact ja_X13_among_L57_ok zs hrec6 nk_big _ _ _ _ _ _ _ _ _ _ _ t_l0 t_l3 hr
    · have hr := nk_ifp (c := (nk_w (l6 - l5)) = (nk_w (l2 - l1))) (Decidable.of_not_not hc) hr
      refine nk_p (i := .iconst 1) (len := 1) (pc' := 48) mJ_83 (by decide +kernel) (ns_iconst (c := 1) (by decide +kernel)) rfl ?_
      refine nk_p (i := .goto 4) (len := 3) (pc' := 52) mJ_83 (by decide +kernel) (ns_goto (by decide +kernel)) rfl ?_
      refine nk_p (i := .istore 7) (len := 2) (pc' := 54) mJ_83 (by decide +kernel) (ns_istore (L' := [(7, nk_i 1), (0, nk_r l0), (1, nk_i l1), (2, nk_i l2), (3, nk_o l3), (4, nk_i l4), (5, nk_i l5), (6, nk_i l6)]) rfl rfl (by decide +kernel)) rfl ?_
      refine nk_p (i := .iconst 0) (len := 1) (pc' := 55) mJ_83 (by decide +kernel) (ns_iconst (c := 0) (by decide +kernel)) rfl ?_
      refine nk_p (i := .istore 8) (len := 2) (pc' := 57) mJ_83 (by decide +kernel) (ns_istore (L' := [(8, nk_i 0), (7, nk_i 1), (0, nk_r l0), (1, nk_i l1), (2, nk_i l2), (3, nk_o l3), (4, nk_i l4), (5, nk_i l5), (6, nk_i l6)]) rfl rfl (by decide +kernel)) rfl ?_
      refine nk_sub [2, 3, 4, 5, 6, 7, 8, 1, 0] (L' := [(0, nk_r l0), (1, nk_i l1), (2, nk_i l2), (3, nk_o l3), (4, nk_i l4), (5, nk_i l5), (6, nk_i l6), (7, nk_i 1), (8, nk_i 0)]) rfl ?_
      exact ja_X13_among_L57_ok zs hrec6 nk_big _ _ _ _ _ _ _ _ _ _ _ t_l0 t_l3 hr
  · have hr := nk_ifn (c := r1 = 32) hc hr
    obtain ⟨v4, h5, hr⟩ := nk_lte hr
    refine nk_p (i := .iinc 6 1) (len := 3) (pc' := 33) mJ_83 (by decide +kernel) (ns_iinc (c := 1) (L' := [(6, nk_i v4), (0, nk_r l0), (1, nk_i l1), (2, nk_i l2), (3, nk_o l3), (4, nk_i l4), (5, nk_i l5)]) 6 rfl (by decide +kernel) h5 rfl (by decide +kernel)) rfl ?_
    refine nk_p (i := .goto (-14)) (len := 3) (pc' := 19) mJ_83 (by decide +kernel) (ns_goto (by decide +kernel)) rfl ?_
    refine nk_sub [1, 2, 3, 4, 5, 6, 0] (L' := [(0, nk_r l0), (1, nk_i l1), (2, nk_i l2), (3, nk_o l3), (4, nk_i l4), (5, nk_i l5), (6, nk_i v4)]) rfl ?_
    exact hrec19 _ _ _ _ _ _ _ _ _ t_l0 t_l3 hr
noncomputable def ja_X13_among_L19 (rec6 : Nat → Int → Int → Nat → Int → Int → nk_S → Option (Int × nk_S)) : Nat → Nat → Int → Int → Nat → Int → Int → Int → nk_S → Option (Int × nk_S)
  | 0, _, _, _, _, _, _, _, _ => none
  | n + 1, l0, l1, l2, l3, l4, l5, l6, S => ja_X13_among_b19 rec6 (ja_X13_among_L19 rec6 n) l0 l1 l2 l3 l4 l5 l6 S
theorem ja_X13_among_L19_ok (zs : List Int32) {rec6 : Nat → Int → Int → Nat → Int → Int → nk_S → Option (Int × nk_S)} (hrec6 : ∀ (l0 : Nat) (l1 : Int) (l2 : Int) (l3 : Nat) (l4 : Int) (l5 : Int) (S : nk_S) (R : Int × nk_S), nk_cl ja_Tt l0 = some 13 → ja_tx zs l3 → rec6 l0 l1 l2 l3 l4 l5 S = some R → nk_K ja_Tt mi_Γ (mi_ev zs) 1 83 6 [(0, nk_r l0), (1, nk_i l1), (2, nk_i l2), (3, nk_o l3), (4, nk_i l4), (5, nk_i l5)] [] S R) : ∀ n : Nat, ∀ (l0 : Nat) (l1 : Int) (l2 : Int) (l3 : Nat) (l4 : Int) (l5 : Int) (l6 : Int) (S : nk_S) (R : Int × nk_S), nk_cl ja_Tt l0 = some 13 → ja_tx zs l3 → ja_X13_among_L19 rec6 n l0 l1 l2 l3 l4 l5 l6 S = some R → nk_K ja_Tt mi_Γ (mi_ev zs) 1 83 19 [(0, nk_r l0), (1, nk_i l1), (2, nk_i l2), (3, nk_o l3), (4, nk_i l4), (5, nk_i l5), (6, nk_i l6)] [] S R := by
  intro n
  induction n with
  | zero => intro _ _ _ _ _ _ _ _ _ _ _ hr; cases hr
  | succ n ih => intro l0 l1 l2 l3 l4 l5 l6 S R t_l0 t_l3 hr; exact ja_X13_among_b19_ok zs hrec6 ih l0 l1 l2 l3 l4 l5 l6 S R t_l0 t_l3 hr
noncomputable def ja_X13_among_b6 (rec6 : Nat → Int → Int → Nat → Int → Int → nk_S → Option (Int × nk_S)) (l0 : Nat) (l1 : Int) (l2 : Int) (l3 : Nat) (l4 : Int) (l5 : Int) (S : nk_S) : Option (Int × nk_S) :=
  nk_bd (ja_J0_length_8abf5 l3 S) fun r1 S2 =>
  if r1 ≤ l5 then
    some ((-1), S2)
  else
    ja_X13_among_L19 rec6 nk_big l0 l1 l2 l3 l4 l5 l5 S2
theorem ja_X13_among_b6_ok (zs : List Int32) {rec6 : Nat → Int → Int → Nat → Int → Int → nk_S → Option (Int × nk_S)} (hrec6 : ∀ (l0 : Nat) (l1 : Int) (l2 : Int) (l3 : Nat) (l4 : Int) (l5 : Int) (S : nk_S) (R : Int × nk_S), nk_cl ja_Tt l0 = some 13 → ja_tx zs l3 → rec6 l0 l1 l2 l3 l4 l5 S = some R → nk_K ja_Tt mi_Γ (mi_ev zs) 1 83 6 [(0, nk_r l0), (1, nk_i l1), (2, nk_i l2), (3, nk_o l3), (4, nk_i l4), (5, nk_i l5)] [] S R) : ∀ (l0 : Nat) (l1 : Int) (l2 : Int) (l3 : Nat) (l4 : Int) (l5 : Int) (S : nk_S) (R : Int × nk_S), nk_cl ja_Tt l0 = some 13 → ja_tx zs l3 → ja_X13_among_b6 rec6 l0 l1 l2 l3 l4 l5 S = some R → nk_K ja_Tt mi_Γ (mi_ev zs) 1 83 6 [(0, nk_r l0), (1, nk_i l1), (2, nk_i l2), (3, nk_o l3), (4, nk_i l4), (5, nk_i l5)] [] S R := by
  intro l0 l1 l2 l3 l4 l5 S R t_l0 t_l3 hr
  unfold ja_X13_among_b6 at hr
  refine nk_p (i := .iload 5) (len := 2) (pc' := 8) mJ_83 (by decide +kernel) (ns_iload 5 rfl) rfl ?_
  refine nk_p (i := .aload_n 3) (len := 1) (pc' := 9) mJ_83 (by decide +kernel) (ns_oload_n 3 rfl rfl) rfl ?_
  obtain ⟨r1, S2, h3, hr⟩ := nk_bde hr
  refine nk_callT (ci := 0) (n := 0) (x := 158) (len := 3) (j' := 5) (q' := 1) (r := r1) (S' := S2) (L2 := [(0, nk_o l3)]) (rest := [nk_i l5]) (st' := [nk_i r1, nk_i l5]) (pc' := 12) mJ_83 (by decide +kernel) (by decide +kernel) rfl rfl t_l3.1 (Nat.le_of_ble_eq_true rfl) mJ_5 (Nat.le_of_ble_eq_true rfl) ja_Tpos rfl (ja_J0_length_8abf5_ok zs _ _ _ t_l3 h3) rfl ?_
  refine nk_icmp (c := .ge) (off := 112) (len := 3) (t := 124) (pc' := 15) mJ_83 (by decide +kernel) (by decide +kernel) rfl (fun hc => ?_) (fun hc => ?_)
  · have hr := nk_ifp (c := r1 ≤ l5) hc hr
    refine nk_p (i := .iconst (-1)) (len := 1) (pc' := 125) mJ_83 (by decide +kernel) (ns_iconst (c := (-1)) (by decide +kernel)) rfl ?_
    cases hr
    exact nk_iret (ty := .int) (len := 1) mJ_83 (by decide +kernel) rfl (nk_nar_i _)
  · have hr := nk_ifn (c := r1 ≤ l5) hc hr
    refine nk_p (i := .iload 5) (len := 2) (pc' := 17) mJ_83 (by decide +kernel) (ns_iload 5 rfl) rfl ?_
    refine nk_p (i := .istore 6) (len := 2) (pc' := 19) mJ_83 (by decide +kernel) (ns_istore (L' := [(6, nk_i l5), (0, nk_r l0), (1, nk_i l1), (2, nk_i l2), (3, nk_o l3), (4, nk_i l4), (5, nk_i l5)]) rfl rfl (by decide +kernel)) rfl ?_
    refine nk_sub [1, 2, 3, 4, 5, 6, 0] (L' := [(0, nk_r l0), (1, nk_i l1), (2, nk_i l2), (3, nk_o l3), (4, nk_i l4), (5, nk_i l5), (6, nk_i l5)]) rfl ?_
    exact ja_X13_among_L19_ok zs hrec6 nk_big _ _ _ _ _ _ _ _ _ t_l0 t_l3 hr
noncomputable def ja_X13_among_L6 : Nat → Nat → Int → Int → Nat → Int → Int → nk_S → Option (Int × nk_S)
  | 0, _, _, _, _, _, _, _ => none
  | n + 1, l0, l1, l2, l3, l4, l5, S => ja_X13_among_b6 (ja_X13_among_L6 n) l0 l1 l2 l3 l4 l5 S
theorem ja_X13_among_L6_ok (zs : List Int32) : ∀ n : Nat, ∀ (l0 : Nat) (l1 : Int) (l2 : Int) (l3 : Nat) (l4 : Int) (l5 : Int) (S : nk_S) (R : Int × nk_S), nk_cl ja_Tt l0 = some 13 → ja_tx zs l3 → ja_X13_among_L6 n l0 l1 l2 l3 l4 l5 S = some R → nk_K ja_Tt mi_Γ (mi_ev zs) 1 83 6 [(0, nk_r l0), (1, nk_i l1), (2, nk_i l2), (3, nk_o l3), (4, nk_i l4), (5, nk_i l5)] [] S R := by
  intro n
  induction n with
  | zero => intro _ _ _ _ _ _ _ _ _ _ hr; cases hr
  | succ n ih => intro l0 l1 l2 l3 l4 l5 S R t_l0 t_l3 hr; exact ja_X13_among_b6_ok zs ih l0 l1 l2 l3 l4 l5 S R t_l0 t_l3 hr
noncomputable def ja_X13_among (l0 : Nat) (l1 : Int) (l2 : Int) (l3 : Nat) (S : nk_S) : Option (Int × nk_S) :=
  ja_X13_among_L6 nk_big l0 l1 l2 l3 0 1 S
theorem ja_X13_among_ok (zs : List Int32) : ∀ (l0 : Nat) (l1 : Int) (l2 : Int) (l3 : Nat) (S : nk_S) (R : Int × nk_S), nk_cl ja_Tt l0 = some 13 → ja_tx zs l3 → ja_X13_among l0 l1 l2 l3 S = some R → nk_K ja_Tt mi_Γ (mi_ev zs) 1 83 0 [(0, nk_r l0), (1, nk_i l1), (2, nk_i l2), (3, nk_o l3)] [] S R := by
  intro l0 l1 l2 l3 S R t_l0 t_l3 hr
  unfold ja_X13_among at hr
  refine nk_p (i := .iconst 0) (len := 1) (pc' := 1) mJ_83 (by decide +kernel) (ns_iconst (c := 0) (by decide +kernel)) rfl ?_
  refine nk_p (i := .istore 4) (len := 2) (pc' := 3) mJ_83 (by decide +kernel) (ns_istore (L' := [(4, nk_i 0), (0, nk_r l0), (1, nk_i l1), (2, nk_i l2), (3, nk_o l3)]) rfl rfl (by decide +kernel)) rfl ?_
  refine nk_p (i := .iconst 1) (len := 1) (pc' := 4) mJ_83 (by decide +kernel) (ns_iconst (c := 1) (by decide +kernel)) rfl ?_
  refine nk_p (i := .istore 5) (len := 2) (pc' := 6) mJ_83 (by decide +kernel) (ns_istore (L' := [(5, nk_i 1), (4, nk_i 0), (0, nk_r l0), (1, nk_i l1), (2, nk_i l2), (3, nk_o l3)]) rfl rfl (by decide +kernel)) rfl ?_
  refine nk_sub [2, 3, 4, 5, 1, 0] (L' := [(0, nk_r l0), (1, nk_i l1), (2, nk_i l2), (3, nk_o l3), (4, nk_i 0), (5, nk_i 1)]) rfl ?_
  exact ja_X13_among_L6_ok zs nk_big _ _ _ _ _ _ _ _ t_l0 t_l3 hr
/-! SafeCodeModel notAbove (LSafeCodeModel$Program;J)I -/
noncomputable def ja_X13_notAbove_b10 (rec10 : Nat → Int → Int → Int → nk_S → Option (Int × nk_S)) (l0 : Nat) (l1 : Int) (l3 : Int) (l4 : Int) (S : nk_S) : Option (Int × nk_S) :=
  if l4 ≤ l3 then
    if 0 ≤ l3 ∧ l3 < 3079 then
    some ((S.1 (ja_c l0 33) l3.toNat), S)
    else none
  else
    nk_lt (nk_idiv (nk_w ((nk_w (l3 + l4)) + 1)) 2) fun v3 =>
    if 0 ≤ v3 ∧ v3 < 3079 then
    if l1 < (S.1 (ja_c l0 33) v3.toNat) then
      nk_lt (nk_w (v3 - 1)) fun v7 =>
      rec10 l0 l1 l3 v7 S
    else
      rec10 l0 l1 v3 l4 S
    else none
theorem ja_X13_notAbove_b10_ok (zs : List Int32) {rec10 : Nat → Int → Int → Int → nk_S → Option (Int × nk_S)} (hrec10 : ∀ (l0 : Nat) (l1 : Int) (l3 : Int) (l4 : Int) (S : nk_S) (R : Int × nk_S), nk_cl ja_Tt l0 = some 12 → rec10 l0 l1 l3 l4 S = some R → nk_K ja_Tt mi_Γ (mi_ev zs) 1 195 10 [(0, nk_r l0), (1, nk_l l1), (3, nk_i l3), (4, nk_i l4)] [] S R) : ∀ (l0 : Nat) (l1 : Int) (l3 : Int) (l4 : Int) (S : nk_S) (R : Int × nk_S), nk_cl ja_Tt l0 = some 12 → ja_X13_notAbove_b10 rec10 l0 l1 l3 l4 S = some R → nk_K ja_Tt mi_Γ (mi_ev zs) 1 195 10 [(0, nk_r l0), (1, nk_l l1), (3, nk_i l3), (4, nk_i l4)] [] S R := by
  intro l0 l1 l3 l4 S R t_l0 hr
  unfold ja_X13_notAbove_b10 at hr
  refine nk_p (i := .iload_n 3) (len := 1) (pc' := 11) mJ_195 (by decide +kernel) (ns_iload_n 2 rfl rfl) rfl ?_
  refine nk_p (i := .iload 4) (len := 2) (pc' := 13) mJ_195 (by decide +kernel) (ns_iload 3 rfl) rfl ?_
  refine nk_icmp (c := .ge) (off := 41) (len := 3) (t := 54) (pc' := 16) mJ_195 (by decide +kernel) (by decide +kernel) rfl (fun hc => ?_) (fun hc => ?_)
  · have hr := nk_ifp (c := l4 ≤ l3) hc hr
    refine nk_p (i := .aload_n 0) (len := 1) (pc' := 55) mJ_195 (by decide +kernel) (ns_aload_n 0 rfl rfl) rfl ?_
    refine nk_getC (f := (4, 1, 3079)) (x := 438) (len := 3) (ci := 12) (k := 33) (pc' := 58) ja_okT mJ_195 (by decide +kernel) (by decide +kernel) (by decide +kernel) (by decide) t_l0 rfl ?_
    have t1 : nk_ar ja_Tt (ja_c l0 33) = some (1, 3079) := nk_ta ja_okT t_l0 (by decide +kernel)
    refine nk_p (i := .iload_n 3) (len := 1) (pc' := 59) mJ_195 (by decide +kernel) (ns_iload_n 2 rfl rfl) rfl ?_
    obtain ⟨h2, hr⟩ := nk_cke hr
    refine nk_iald (len := 1) (N := 3079) (pc' := 60) mJ_195 (by decide +kernel) t1 h2.1 h2.2 rfl rfl ?_
    cases hr
    exact nk_iret (ty := .int) (len := 1) mJ_195 (by decide +kernel) rfl (nk_nar_i _)
  · have hr := nk_ifn (c := l4 ≤ l3) hc hr
    refine nk_p (i := .iload_n 3) (len := 1) (pc' := 17) mJ_195 (by decide +kernel) (ns_iload_n 2 rfl rfl) rfl ?_
    refine nk_p (i := .iload 4) (len := 2) (pc' := 19) mJ_195 (by decide +kernel) (ns_iload 3 rfl) rfl ?_
    refine nk_p (i := .iadd) (len := 1) (pc' := 20) mJ_195 (by decide +kernel) ns_iadd rfl ?_
    refine nk_p (i := .iconst 1) (len := 1) (pc' := 21) mJ_195 (by decide +kernel) (ns_iconst (c := 1) (by decide +kernel)) rfl ?_
    refine nk_p (i := .iadd) (len := 1) (pc' := 22) mJ_195 (by decide +kernel) ns_iadd rfl ?_
    refine nk_p (i := .iconst 2) (len := 1) (pc' := 23) mJ_195 (by decide +kernel) (ns_iconst (c := 2) (by decide +kernel)) rfl ?_
    refine nk_p (i := .idiv) (len := 1) (pc' := 24) mJ_195 (by decide +kernel) (ns_idiv (by decide)) rfl ?_
    obtain ⟨v3, h4, hr⟩ := nk_lte hr
    refine nk_p (i := .istore 5) (len := 2) (pc' := 26) mJ_195 (by decide +kernel) (ns_istore (L' := [(5, nk_i v3), (0, nk_r l0), (1, nk_l l1), (3, nk_i l3), (4, nk_i l4)]) h4 rfl (by decide +kernel)) rfl ?_
    refine nk_p (i := .aload_n 0) (len := 1) (pc' := 27) mJ_195 (by decide +kernel) (ns_aload_n 1 rfl rfl) rfl ?_
    refine nk_getC (f := (4, 1, 3079)) (x := 438) (len := 3) (ci := 12) (k := 33) (pc' := 30) ja_okT mJ_195 (by decide +kernel) (by decide +kernel) (by decide +kernel) (by decide) t_l0 rfl ?_
    have t5 : nk_ar ja_Tt (ja_c l0 33) = some (1, 3079) := nk_ta ja_okT t_l0 (by decide +kernel)
    refine nk_p (i := .iload 5) (len := 2) (pc' := 32) mJ_195 (by decide +kernel) (ns_iload 0 rfl) rfl ?_
    obtain ⟨h6, hr⟩ := nk_cke hr
    refine nk_iald (len := 1) (N := 3079) (pc' := 33) mJ_195 (by decide +kernel) t5 h6.1 h6.2 rfl rfl ?_
    refine nk_p (i := .i2l) (len := 1) (pc' := 34) mJ_195 (by decide +kernel) ns_i2l rfl ?_
    refine nk_p (i := .lload_n 1) (len := 1) (pc' := 35) mJ_195 (by decide +kernel) (ns_lload_n 2 rfl rfl) rfl ?_
    refine nk_p (i := .lcmp) (len := 1) (pc' := 36) mJ_195 (by decide +kernel) ns_lcmp rfl ?_
    refine nk_lcond (c := .gt) (off := 9) (len := 3) (t := 45) (pc' := 39) mJ_195 (by decide +kernel) (by decide +kernel) rfl (fun hc => ?_) (fun hc => ?_)
    · have hr := nk_ifp (c := l1 < (S.1 (ja_c l0 33) v3.toNat)) hc hr
      refine nk_p (i := .iload 5) (len := 2) (pc' := 47) mJ_195 (by decide +kernel) (ns_iload 0 rfl) rfl ?_
      refine nk_p (i := .iconst 1) (len := 1) (pc' := 48) mJ_195 (by decide +kernel) (ns_iconst (c := 1) (by decide +kernel)) rfl ?_
      refine nk_p (i := .isub) (len := 1) (pc' := 49) mJ_195 (by decide +kernel) ns_isub rfl ?_
      obtain ⟨v7, h8, hr⟩ := nk_lte hr
      refine nk_p (i := .istore 4) (len := 2) (pc' := 51) mJ_195 (by decide +kernel) (ns_istore (L' := [(4, nk_i v7), (5, nk_i v3), (0, nk_r l0), (1, nk_l l1), (3, nk_i l3)]) h8 rfl (by decide +kernel)) rfl ?_
      refine nk_p (i := .goto (-41)) (len := 3) (pc' := 10) mJ_195 (by decide +kernel) (ns_goto (by decide +kernel)) rfl ?_
      refine nk_sub [2, 3, 4, 0] (L' := [(0, nk_r l0), (1, nk_l l1), (3, nk_i l3), (4, nk_i v7)]) rfl ?_
      exact hrec10 _ _ _ _ _ _ t_l0 hr
    · have hr := nk_ifn (c := l1 < (S.1 (ja_c l0 33) v3.toNat)) hc hr
      refine nk_p (i := .iload 5) (len := 2) (pc' := 41) mJ_195 (by decide +kernel) (ns_iload 0 rfl) rfl ?_
      refine nk_p (i := .istore_n 3) (len := 1) (pc' := 42) mJ_195 (by decide +kernel) (ns_istore_n (L' := [(3, nk_i v3), (5, nk_i v3), (0, nk_r l0), (1, nk_l l1), (4, nk_i l4)]) rfl rfl rfl (by decide +kernel)) rfl ?_
      refine nk_p (i := .goto 9) (len := 3) (pc' := 51) mJ_195 (by decide +kernel) (ns_goto (by decide +kernel)) rfl ?_
      refine nk_p (i := .goto (-41)) (len := 3) (pc' := 10) mJ_195 (by decide +kernel) (ns_goto (by decide +kernel)) rfl ?_
      refine nk_sub [2, 3, 0, 4] (L' := [(0, nk_r l0), (1, nk_l l1), (3, nk_i v3), (4, nk_i l4)]) rfl ?_
      exact hrec10 _ _ _ _ _ _ t_l0 hr
noncomputable def ja_X13_notAbove_L10 : Nat → Nat → Int → Int → Int → nk_S → Option (Int × nk_S)
  | 0, _, _, _, _, _ => none
  | n + 1, l0, l1, l3, l4, S => ja_X13_notAbove_b10 (ja_X13_notAbove_L10 n) l0 l1 l3 l4 S
theorem ja_X13_notAbove_L10_ok (zs : List Int32) : ∀ n : Nat, ∀ (l0 : Nat) (l1 : Int) (l3 : Int) (l4 : Int) (S : nk_S) (R : Int × nk_S), nk_cl ja_Tt l0 = some 12 → ja_X13_notAbove_L10 n l0 l1 l3 l4 S = some R → nk_K ja_Tt mi_Γ (mi_ev zs) 1 195 10 [(0, nk_r l0), (1, nk_l l1), (3, nk_i l3), (4, nk_i l4)] [] S R := by
  intro n
  induction n with
  | zero => intro _ _ _ _ _ _ _ hr; cases hr
  | succ n ih => intro l0 l1 l3 l4 S R t_l0 hr; exact ja_X13_notAbove_b10_ok zs ih l0 l1 l3 l4 S R t_l0 hr
noncomputable def ja_X13_notAbove (l0 : Nat) (l1 : Int) (S : nk_S) : Option (Int × nk_S) :=
  nk_lt (nk_w ((S.1 l0 7) - 1)) fun v1 =>
  ja_X13_notAbove_L10 nk_big l0 l1 0 v1 S
theorem ja_X13_notAbove_ok (zs : List Int32) : ∀ (l0 : Nat) (l1 : Int) (S : nk_S) (R : Int × nk_S), nk_cl ja_Tt l0 = some 12 → ja_X13_notAbove l0 l1 S = some R → nk_K ja_Tt mi_Γ (mi_ev zs) 1 195 0 [(0, nk_r l0), (1, nk_l l1)] [] S R := by
  intro l0 l1 S R t_l0 hr
  unfold ja_X13_notAbove at hr
  refine nk_p (i := .iconst 0) (len := 1) (pc' := 1) mJ_195 (by decide +kernel) (ns_iconst (c := 0) (by decide +kernel)) rfl ?_
  refine nk_p (i := .istore_n 3) (len := 1) (pc' := 2) mJ_195 (by decide +kernel) (ns_istore_n (L' := [(3, nk_i 0), (0, nk_r l0), (1, nk_l l1)]) rfl rfl rfl (by decide +kernel)) rfl ?_
  refine nk_p (i := .aload_n 0) (len := 1) (pc' := 3) mJ_195 (by decide +kernel) (ns_aload_n 1 rfl rfl) rfl ?_
  refine nk_getI (y := (0, 0)) (x := 362) (len := 3) (ci := 12) (k := 7) (pc' := 6) ja_okT mJ_195 (by decide +kernel) (by decide +kernel) (by decide +kernel) t_l0 rfl ?_
  refine nk_p (i := .iconst 1) (len := 1) (pc' := 7) mJ_195 (by decide +kernel) (ns_iconst (c := 1) (by decide +kernel)) rfl ?_
  refine nk_p (i := .isub) (len := 1) (pc' := 8) mJ_195 (by decide +kernel) ns_isub rfl ?_
  obtain ⟨v1, h2, hr⟩ := nk_lte hr
  refine nk_p (i := .istore 4) (len := 2) (pc' := 10) mJ_195 (by decide +kernel) (ns_istore (L' := [(4, nk_i v1), (3, nk_i 0), (0, nk_r l0), (1, nk_l l1)]) h2 rfl (by decide +kernel)) rfl ?_
  refine nk_sub [2, 3, 1, 0] (L' := [(0, nk_r l0), (1, nk_l l1), (3, nk_i 0), (4, nk_i v1)]) rfl ?_
  exact ja_X13_notAbove_L10_ok zs nk_big _ _ _ _ _ _ t_l0 hr
/-! SafeCodeModel notBelow (LSafeCodeModel$Program;J)I -/
noncomputable def ja_X13_notBelow_b10 (rec10 : Nat → Int → Int → Int → nk_S → Option (Int × nk_S)) (l0 : Nat) (l1 : Int) (l3 : Int) (l4 : Int) (S : nk_S) : Option (Int × nk_S) :=
  if l4 ≤ l3 then
    if 0 ≤ l3 ∧ l3 < 3079 then
    some ((S.1 (ja_c l0 33) l3.toNat), S)
    else none
  else
    nk_lt (nk_idiv (nk_w (l3 + l4)) 2) fun v3 =>
    if 0 ≤ v3 ∧ v3 < 3079 then
    if (S.1 (ja_c l0 33) v3.toNat) < l1 then
      nk_lt (nk_w (v3 + 1)) fun v7 =>
      rec10 l0 l1 v7 l4 S
    else
      rec10 l0 l1 l3 v3 S
    else none
theorem ja_X13_notBelow_b10_ok (zs : List Int32) {rec10 : Nat → Int → Int → Int → nk_S → Option (Int × nk_S)} (hrec10 : ∀ (l0 : Nat) (l1 : Int) (l3 : Int) (l4 : Int) (S : nk_S) (R : Int × nk_S), nk_cl ja_Tt l0 = some 12 → rec10 l0 l1 l3 l4 S = some R → nk_K ja_Tt mi_Γ (mi_ev zs) 1 196 10 [(0, nk_r l0), (1, nk_l l1), (3, nk_i l3), (4, nk_i l4)] [] S R) : ∀ (l0 : Nat) (l1 : Int) (l3 : Int) (l4 : Int) (S : nk_S) (R : Int × nk_S), nk_cl ja_Tt l0 = some 12 → ja_X13_notBelow_b10 rec10 l0 l1 l3 l4 S = some R → nk_K ja_Tt mi_Γ (mi_ev zs) 1 196 10 [(0, nk_r l0), (1, nk_l l1), (3, nk_i l3), (4, nk_i l4)] [] S R := by
  intro l0 l1 l3 l4 S R t_l0 hr
  unfold ja_X13_notBelow_b10 at hr
  refine nk_p (i := .iload_n 3) (len := 1) (pc' := 11) mJ_196 (by decide +kernel) (ns_iload_n 2 rfl rfl) rfl ?_
  refine nk_p (i := .iload 4) (len := 2) (pc' := 13) mJ_196 (by decide +kernel) (ns_iload 3 rfl) rfl ?_
  refine nk_icmp (c := .ge) (off := 39) (len := 3) (t := 52) (pc' := 16) mJ_196 (by decide +kernel) (by decide +kernel) rfl (fun hc => ?_) (fun hc => ?_)
  · have hr := nk_ifp (c := l4 ≤ l3) hc hr
    refine nk_p (i := .aload_n 0) (len := 1) (pc' := 53) mJ_196 (by decide +kernel) (ns_aload_n 0 rfl rfl) rfl ?_
    refine nk_getC (f := (4, 1, 3079)) (x := 438) (len := 3) (ci := 12) (k := 33) (pc' := 56) ja_okT mJ_196 (by decide +kernel) (by decide +kernel) (by decide +kernel) (by decide) t_l0 rfl ?_
    have t1 : nk_ar ja_Tt (ja_c l0 33) = some (1, 3079) := nk_ta ja_okT t_l0 (by decide +kernel)
    refine nk_p (i := .iload_n 3) (len := 1) (pc' := 57) mJ_196 (by decide +kernel) (ns_iload_n 2 rfl rfl) rfl ?_
    obtain ⟨h2, hr⟩ := nk_cke hr
    refine nk_iald (len := 1) (N := 3079) (pc' := 58) mJ_196 (by decide +kernel) t1 h2.1 h2.2 rfl rfl ?_
    cases hr
    exact nk_iret (ty := .int) (len := 1) mJ_196 (by decide +kernel) rfl (nk_nar_i _)
  · have hr := nk_ifn (c := l4 ≤ l3) hc hr
    refine nk_p (i := .iload_n 3) (len := 1) (pc' := 17) mJ_196 (by decide +kernel) (ns_iload_n 2 rfl rfl) rfl ?_
    refine nk_p (i := .iload 4) (len := 2) (pc' := 19) mJ_196 (by decide +kernel) (ns_iload 3 rfl) rfl ?_
    refine nk_p (i := .iadd) (len := 1) (pc' := 20) mJ_196 (by decide +kernel) ns_iadd rfl ?_
    refine nk_p (i := .iconst 2) (len := 1) (pc' := 21) mJ_196 (by decide +kernel) (ns_iconst (c := 2) (by decide +kernel)) rfl ?_
    refine nk_p (i := .idiv) (len := 1) (pc' := 22) mJ_196 (by decide +kernel) (ns_idiv (by decide)) rfl ?_
    obtain ⟨v3, h4, hr⟩ := nk_lte hr
    refine nk_p (i := .istore 5) (len := 2) (pc' := 24) mJ_196 (by decide +kernel) (ns_istore (L' := [(5, nk_i v3), (0, nk_r l0), (1, nk_l l1), (3, nk_i l3), (4, nk_i l4)]) h4 rfl (by decide +kernel)) rfl ?_
    refine nk_p (i := .aload_n 0) (len := 1) (pc' := 25) mJ_196 (by decide +kernel) (ns_aload_n 1 rfl rfl) rfl ?_
    refine nk_getC (f := (4, 1, 3079)) (x := 438) (len := 3) (ci := 12) (k := 33) (pc' := 28) ja_okT mJ_196 (by decide +kernel) (by decide +kernel) (by decide +kernel) (by decide) t_l0 rfl ?_
    have t5 : nk_ar ja_Tt (ja_c l0 33) = some (1, 3079) := nk_ta ja_okT t_l0 (by decide +kernel)
    refine nk_p (i := .iload 5) (len := 2) (pc' := 30) mJ_196 (by decide +kernel) (ns_iload 0 rfl) rfl ?_
    obtain ⟨h6, hr⟩ := nk_cke hr
    refine nk_iald (len := 1) (N := 3079) (pc' := 31) mJ_196 (by decide +kernel) t5 h6.1 h6.2 rfl rfl ?_
    refine nk_p (i := .i2l) (len := 1) (pc' := 32) mJ_196 (by decide +kernel) ns_i2l rfl ?_
    refine nk_p (i := .lload_n 1) (len := 1) (pc' := 33) mJ_196 (by decide +kernel) (ns_lload_n 2 rfl rfl) rfl ?_
    refine nk_p (i := .lcmp) (len := 1) (pc' := 34) mJ_196 (by decide +kernel) ns_lcmp rfl ?_
    refine nk_lcond (c := .lt) (off := 10) (len := 3) (t := 44) (pc' := 37) mJ_196 (by decide +kernel) (by decide +kernel) rfl (fun hc => ?_) (fun hc => ?_)
    · have hr := nk_ifp (c := (S.1 (ja_c l0 33) v3.toNat) < l1) hc hr
      refine nk_p (i := .iload 5) (len := 2) (pc' := 46) mJ_196 (by decide +kernel) (ns_iload 0 rfl) rfl ?_
      refine nk_p (i := .iconst 1) (len := 1) (pc' := 47) mJ_196 (by decide +kernel) (ns_iconst (c := 1) (by decide +kernel)) rfl ?_
      refine nk_p (i := .iadd) (len := 1) (pc' := 48) mJ_196 (by decide +kernel) ns_iadd rfl ?_
      obtain ⟨v7, h8, hr⟩ := nk_lte hr
      refine nk_p (i := .istore_n 3) (len := 1) (pc' := 49) mJ_196 (by decide +kernel) (ns_istore_n (L' := [(3, nk_i v7), (5, nk_i v3), (0, nk_r l0), (1, nk_l l1), (4, nk_i l4)]) h8 rfl rfl (by decide +kernel)) rfl ?_
      refine nk_p (i := .goto (-39)) (len := 3) (pc' := 10) mJ_196 (by decide +kernel) (ns_goto (by decide +kernel)) rfl ?_
      refine nk_sub [2, 3, 0, 4] (L' := [(0, nk_r l0), (1, nk_l l1), (3, nk_i v7), (4, nk_i l4)]) rfl ?_
      exact hrec10 _ _ _ _ _ _ t_l0 hr
    · have hr := nk_ifn (c := (S.1 (ja_c l0 33) v3.toNat) < l1) hc hr
      refine nk_p (i := .iload 5) (len := 2) (pc' := 39) mJ_196 (by decide +kernel) (ns_iload 0 rfl) rfl ?_
      refine nk_p (i := .istore 4) (len := 2) (pc' := 41) mJ_196 (by decide +kernel) (ns_istore (L' := [(4, nk_i v3), (5, nk_i v3), (0, nk_r l0), (1, nk_l l1), (3, nk_i l3)]) rfl rfl (by decide +kernel)) rfl ?_
      refine nk_p (i := .goto 8) (len := 3) (pc' := 49) mJ_196 (by decide +kernel) (ns_goto (by decide +kernel)) rfl ?_
      refine nk_p (i := .goto (-39)) (len := 3) (pc' := 10) mJ_196 (by decide +kernel) (ns_goto (by decide +kernel)) rfl ?_
      refine nk_sub [2, 3, 4, 0] (L' := [(0, nk_r l0), (1, nk_l l1), (3, nk_i l3), (4, nk_i v3)]) rfl ?_
      exact hrec10 _ _ _ _ _ _ t_l0 hr
noncomputable def ja_X13_notBelow_L10 : Nat → Nat → Int → Int → Int → nk_S → Option (Int × nk_S)
  | 0, _, _, _, _, _ => none
  | n + 1, l0, l1, l3, l4, S => ja_X13_notBelow_b10 (ja_X13_notBelow_L10 n) l0 l1 l3 l4 S
theorem ja_X13_notBelow_L10_ok (zs : List Int32) : ∀ n : Nat, ∀ (l0 : Nat) (l1 : Int) (l3 : Int) (l4 : Int) (S : nk_S) (R : Int × nk_S), nk_cl ja_Tt l0 = some 12 → ja_X13_notBelow_L10 n l0 l1 l3 l4 S = some R → nk_K ja_Tt mi_Γ (mi_ev zs) 1 196 10 [(0, nk_r l0), (1, nk_l l1), (3, nk_i l3), (4, nk_i l4)] [] S R := by
  intro n
  induction n with
  | zero => intro _ _ _ _ _ _ _ hr; cases hr
  | succ n ih => intro l0 l1 l3 l4 S R t_l0 hr; exact ja_X13_notBelow_b10_ok zs ih l0 l1 l3 l4 S R t_l0 hr
noncomputable def ja_X13_notBelow (l0 : Nat) (l1 : Int) (S : nk_S) : Option (Int × nk_S) :=
  nk_lt (nk_w ((S.1 l0 7) - 1)) fun v1 =>
  ja_X13_notBelow_L10 nk_big l0 l1 0 v1 S
theorem ja_X13_notBelow_ok (zs : List Int32) : ∀ (l0 : Nat) (l1 : Int) (S : nk_S) (R : Int × nk_S), nk_cl ja_Tt l0 = some 12 → ja_X13_notBelow l0 l1 S = some R → nk_K ja_Tt mi_Γ (mi_ev zs) 1 196 0 [(0, nk_r l0), (1, nk_l l1)] [] S R := by
  intro l0 l1 S R t_l0 hr
  unfold ja_X13_notBelow at hr
  refine nk_p (i := .iconst 0) (len := 1) (pc' := 1) mJ_196 (by decide +kernel) (ns_iconst (c := 0) (by decide +kernel)) rfl ?_
  refine nk_p (i := .istore_n 3) (len := 1) (pc' := 2) mJ_196 (by decide +kernel) (ns_istore_n (L' := [(3, nk_i 0), (0, nk_r l0), (1, nk_l l1)]) rfl rfl rfl (by decide +kernel)) rfl ?_
  refine nk_p (i := .aload_n 0) (len := 1) (pc' := 3) mJ_196 (by decide +kernel) (ns_aload_n 1 rfl rfl) rfl ?_
  refine nk_getI (y := (0, 0)) (x := 362) (len := 3) (ci := 12) (k := 7) (pc' := 6) ja_okT mJ_196 (by decide +kernel) (by decide +kernel) (by decide +kernel) t_l0 rfl ?_
  refine nk_p (i := .iconst 1) (len := 1) (pc' := 7) mJ_196 (by decide +kernel) (ns_iconst (c := 1) (by decide +kernel)) rfl ?_
  refine nk_p (i := .isub) (len := 1) (pc' := 8) mJ_196 (by decide +kernel) ns_isub rfl ?_
  obtain ⟨v1, h2, hr⟩ := nk_lte hr
  refine nk_p (i := .istore 4) (len := 2) (pc' := 10) mJ_196 (by decide +kernel) (ns_istore (L' := [(4, nk_i v1), (3, nk_i 0), (0, nk_r l0), (1, nk_l l1)]) h2 rfl (by decide +kernel)) rfl ?_
  refine nk_sub [2, 3, 1, 0] (L' := [(0, nk_r l0), (1, nk_l l1), (3, nk_i 0), (4, nk_i v1)]) rfl ?_
  exact ja_X13_notBelow_L10_ok zs nk_big _ _ _ _ _ _ t_l0 hr
/-! SafeCodeModel without (LSafeCodeModel$Program;II)Z -/
noncomputable def ja_X13_without_b50 (l0 : Nat) (l1 : Nat) (l2 : Int) (l4 : Int) (s0 : Int) (S : nk_S) : Option (Int × nk_S) :=
  if l4 ≤ s0 then
    nk_bd (ja_X13_notAbove l1 l4 S) fun r2 S3 =>
    if 0 ≤ l2 ∧ l2 < 24 then
    nk_lt (nk_wi S3 (ja_c l0 27) l2.toNat r2) fun S6 =>
    nk_bd (ja_X13_notBelow l1 s0 S6) fun r9 S10 =>
    nk_lt (nk_wi S10 (ja_c l0 28) l2.toNat r9) fun S12 =>
    some (1, S12)
    else none
  else
    some (0, S)
theorem ja_X13_without_b50_ok (zs : List Int32) : ∀ (l0 : Nat) (l1 : Nat) (l2 : Int) (l4 : Int) (s0 : Int) (S : nk_S) (R : Int × nk_S), nk_cl ja_Tt l0 = some 13 → nk_cl ja_Tt l1 = some 12 → ja_X13_without_b50 l0 l1 l2 l4 s0 S = some R → nk_K ja_Tt mi_Γ (mi_ev zs) 1 243 50 [(0, nk_r l0), (1, nk_r l1), (2, nk_i l2), (4, nk_l l4)] [nk_l s0] S R := by
  intro l0 l1 l2 l4 s0 S R t_l0 t_l1 hr
  unfold ja_X13_without_b50 at hr
  refine nk_p (i := .lstore 6) (len := 2) (pc' := 52) mJ_243 (by decide +kernel) (ns_lstore (L' := [(6, nk_l s0), (0, nk_r l0), (1, nk_r l1), (2, nk_i l2), (4, nk_l l4)]) rfl rfl (by decide +kernel)) rfl ?_
  refine nk_p (i := .lload 4) (len := 2) (pc' := 54) mJ_243 (by decide +kernel) (ns_lload 4 rfl) rfl ?_
  refine nk_p (i := .lload 6) (len := 2) (pc' := 56) mJ_243 (by decide +kernel) (ns_lload 0 rfl) rfl ?_
  refine nk_p (i := .lcmp) (len := 1) (pc' := 57) mJ_243 (by decide +kernel) ns_lcmp rfl ?_
  refine nk_lcond (c := .le) (off := 5) (len := 3) (t := 62) (pc' := 60) mJ_243 (by decide +kernel) (by decide +kernel) rfl (fun hc => ?_) (fun hc => ?_)
  · have hr := nk_ifp (c := l4 ≤ s0) hc hr
    refine nk_p (i := .aload_n 0) (len := 1) (pc' := 63) mJ_243 (by decide +kernel) (ns_aload_n 1 rfl rfl) rfl ?_
    refine nk_getC (f := (4, 1, 24)) (x := 74) (len := 3) (ci := 13) (k := 27) (pc' := 66) ja_okT mJ_243 (by decide +kernel) (by decide +kernel) (by decide +kernel) (by decide) t_l0 rfl ?_
    have t1 : nk_ar ja_Tt (ja_c l0 27) = some (1, 24) := nk_ta ja_okT t_l0 (by decide +kernel)
    refine nk_p (i := .iload_n 2) (len := 1) (pc' := 67) mJ_243 (by decide +kernel) (ns_iload_n 3 rfl rfl) rfl ?_
    refine nk_p (i := .aload_n 1) (len := 1) (pc' := 68) mJ_243 (by decide +kernel) (ns_aload_n 2 rfl rfl) rfl ?_
    refine nk_p (i := .lload 4) (len := 2) (pc' := 70) mJ_243 (by decide +kernel) (ns_lload 4 rfl) rfl ?_
    obtain ⟨r2, S3, h4, hr⟩ := nk_bde hr
    refine nk_callS (ci := 0) (n := 2) (x := 563) (len := 3) (j' := 195) (q' := 1) (r := r2) (S' := S3) (L2 := [(0, nk_r l1), (1, nk_l l4)]) (rest := [nk_i l2, nk_r (ja_c l0 27)]) (st' := [nk_i r2, nk_i l2, nk_r (ja_c l0 27)]) (pc' := 73) mJ_243 (by decide +kernel) (by decide +kernel) (Nat.le_of_ble_eq_true rfl) rfl rfl (Nat.le_of_ble_eq_true rfl) mJ_195 (Nat.le_of_ble_eq_true rfl) ja_Tpos rfl (ja_X13_notAbove_ok zs _ _ _ _ t_l1 h4) rfl ?_
    obtain ⟨h5, hr⟩ := nk_cke hr
    obtain ⟨S6, h7, hr⟩ := nk_lte hr
    refine nk_iast (len := 1) (N := 24) (pc' := 74) mJ_243 (by decide +kernel) t1 h5.1 h5.2 rfl rfl h7 ?_
    refine nk_p (i := .aload_n 0) (len := 1) (pc' := 75) mJ_243 (by decide +kernel) (ns_aload_n 1 rfl rfl) rfl ?_
    refine nk_getC (f := (4, 1, 24)) (x := 77) (len := 3) (ci := 13) (k := 28) (pc' := 78) ja_okT mJ_243 (by decide +kernel) (by decide +kernel) (by decide +kernel) (by decide) t_l0 rfl ?_
    have t8 : nk_ar ja_Tt (ja_c l0 28) = some (1, 24) := nk_ta ja_okT t_l0 (by decide +kernel)
    refine nk_p (i := .iload_n 2) (len := 1) (pc' := 79) mJ_243 (by decide +kernel) (ns_iload_n 3 rfl rfl) rfl ?_
    refine nk_p (i := .aload_n 1) (len := 1) (pc' := 80) mJ_243 (by decide +kernel) (ns_aload_n 2 rfl rfl) rfl ?_
    refine nk_p (i := .lload 6) (len := 2) (pc' := 82) mJ_243 (by decide +kernel) (ns_lload 0 rfl) rfl ?_
    obtain ⟨r9, S10, h11, hr⟩ := nk_bde hr
    refine nk_callS (ci := 0) (n := 2) (x := 568) (len := 3) (j' := 196) (q' := 1) (r := r9) (S' := S10) (L2 := [(0, nk_r l1), (1, nk_l s0)]) (rest := [nk_i l2, nk_r (ja_c l0 28)]) (st' := [nk_i r9, nk_i l2, nk_r (ja_c l0 28)]) (pc' := 85) mJ_243 (by decide +kernel) (by decide +kernel) (Nat.le_of_ble_eq_true rfl) rfl rfl (Nat.le_of_ble_eq_true rfl) mJ_196 (Nat.le_of_ble_eq_true rfl) ja_Tpos rfl (ja_X13_notBelow_ok zs _ _ _ _ t_l1 h11) rfl ?_
    obtain ⟨S12, h13, hr⟩ := nk_lte hr
    refine nk_iast (len := 1) (N := 24) (pc' := 86) mJ_243 (by decide +kernel) t8 h5.1 h5.2 rfl rfl h13 ?_
    refine nk_p (i := .iconst 1) (len := 1) (pc' := 87) mJ_243 (by decide +kernel) (ns_iconst (c := 1) (by decide +kernel)) rfl ?_
    cases hr
    exact nk_iret (ty := .boolean) (len := 1) mJ_243 (by decide +kernel) rfl (nk_nar_z (by decide))
  · have hr := nk_ifn (c := l4 ≤ s0) hc hr
    refine nk_p (i := .iconst 0) (len := 1) (pc' := 61) mJ_243 (by decide +kernel) (ns_iconst (c := 0) (by decide +kernel)) rfl ?_
    cases hr
    exact nk_iret (ty := .boolean) (len := 1) mJ_243 (by decide +kernel) rfl (nk_nar_z (by decide))
noncomputable def ja_X13_without_b24 (l0 : Nat) (l1 : Nat) (l2 : Int) (l3 : Int) (s0 : Int) (S : nk_S) : Option (Int × nk_S) :=
  if 0 ≤ l2 ∧ l2 < 24 then
  if (S.1 (ja_c l0 28) l2.toNat) = l3 then
    ja_X13_without_b50 l0 l1 l2 s0 (nk_W (l3 - 1)) S
  else
    ja_X13_without_b50 l0 l1 l2 s0 (S.1 (ja_c l0 28) l2.toNat) S
  else none
theorem ja_X13_without_b24_ok (zs : List Int32) : ∀ (l0 : Nat) (l1 : Nat) (l2 : Int) (l3 : Int) (s0 : Int) (S : nk_S) (R : Int × nk_S), nk_cl ja_Tt l0 = some 13 → nk_cl ja_Tt l1 = some 12 → ja_X13_without_b24 l0 l1 l2 l3 s0 S = some R → nk_K ja_Tt mi_Γ (mi_ev zs) 1 243 24 [(0, nk_r l0), (1, nk_r l1), (2, nk_i l2), (3, nk_i l3)] [nk_l s0] S R := by
  intro l0 l1 l2 l3 s0 S R t_l0 t_l1 hr
  unfold ja_X13_without_b24 at hr
  refine nk_p (i := .lstore 4) (len := 2) (pc' := 26) mJ_243 (by decide +kernel) (ns_lstore (L' := [(4, nk_l s0), (0, nk_r l0), (1, nk_r l1), (2, nk_i l2), (3, nk_i l3)]) rfl rfl (by decide +kernel)) rfl ?_
  refine nk_p (i := .aload_n 0) (len := 1) (pc' := 27) mJ_243 (by decide +kernel) (ns_aload_n 1 rfl rfl) rfl ?_
  refine nk_getC (f := (4, 1, 24)) (x := 77) (len := 3) (ci := 13) (k := 28) (pc' := 30) ja_okT mJ_243 (by decide +kernel) (by decide +kernel) (by decide +kernel) (by decide) t_l0 rfl ?_
  have t1 : nk_ar ja_Tt (ja_c l0 28) = some (1, 24) := nk_ta ja_okT t_l0 (by decide +kernel)
  refine nk_p (i := .iload_n 2) (len := 1) (pc' := 31) mJ_243 (by decide +kernel) (ns_iload_n 3 rfl rfl) rfl ?_
  obtain ⟨h2, hr⟩ := nk_cke hr
  refine nk_iald (len := 1) (N := 24) (pc' := 32) mJ_243 (by decide +kernel) t1 h2.1 h2.2 rfl rfl ?_
  refine nk_p (i := .iload_n 3) (len := 1) (pc' := 33) mJ_243 (by decide +kernel) (ns_iload_n 4 rfl rfl) rfl ?_
  refine nk_icmp (c := .ne) (off := 10) (len := 3) (t := 43) (pc' := 36) mJ_243 (by decide +kernel) (by decide +kernel) rfl (fun hc => ?_) (fun hc => ?_)
  · have hr := nk_ifn (c := (S.1 (ja_c l0 28) l2.toNat) = l3) hc hr
    refine nk_p (i := .aload_n 0) (len := 1) (pc' := 44) mJ_243 (by decide +kernel) (ns_aload_n 1 rfl rfl) rfl ?_
    refine nk_getC (f := (4, 1, 24)) (x := 77) (len := 3) (ci := 13) (k := 28) (pc' := 47) ja_okT mJ_243 (by decide +kernel) (by decide +kernel) (by decide +kernel) (by decide) t_l0 rfl ?_
    refine nk_p (i := .iload_n 2) (len := 1) (pc' := 48) mJ_243 (by decide +kernel) (ns_iload_n 3 rfl rfl) rfl ?_
    refine nk_iald (len := 1) (N := 24) (pc' := 49) mJ_243 (by decide +kernel) t1 h2.1 h2.2 rfl rfl ?_
    refine nk_p (i := .i2l) (len := 1) (pc' := 50) mJ_243 (by decide +kernel) ns_i2l rfl ?_
    refine nk_sub [1, 2, 3, 0] (L' := [(0, nk_r l0), (1, nk_r l1), (2, nk_i l2), (4, nk_l s0)]) rfl ?_
    exact ja_X13_without_b50_ok zs _ _ _ _ _ _ _ t_l0 t_l1 hr
  · have hr := nk_ifp (c := (S.1 (ja_c l0 28) l2.toNat) = l3) (Decidable.of_not_not hc) hr
    refine nk_p (i := .iload_n 3) (len := 1) (pc' := 37) mJ_243 (by decide +kernel) (ns_iload_n 4 rfl rfl) rfl ?_
    refine nk_p (i := .i2l) (len := 1) (pc' := 38) mJ_243 (by decide +kernel) ns_i2l rfl ?_
    refine nk_p (i := .lconst 1) (len := 1) (pc' := 39) mJ_243 (by decide +kernel) (ns_lconst (c := 1) (by decide +kernel)) rfl ?_
    refine nk_p (i := .lsub) (len := 1) (pc' := 40) mJ_243 (by decide +kernel) ns_lsub rfl ?_
    refine nk_p (i := .goto 10) (len := 3) (pc' := 50) mJ_243 (by decide +kernel) (ns_goto (by decide +kernel)) rfl ?_
    refine nk_sub [1, 2, 3, 0] (L' := [(0, nk_r l0), (1, nk_r l1), (2, nk_i l2), (4, nk_l s0)]) rfl ?_
    exact ja_X13_without_b50_ok zs _ _ _ _ _ _ _ t_l0 t_l1 hr
noncomputable def ja_X13_without (l0 : Nat) (l1 : Nat) (l2 : Int) (l3 : Int) (S : nk_S) : Option (Int × nk_S) :=
  if 0 ≤ l2 ∧ l2 < 24 then
  if (S.1 (ja_c l0 27) l2.toNat) = l3 then
    ja_X13_without_b24 l0 l1 l2 l3 (nk_W (l3 + 1)) S
  else
    ja_X13_without_b24 l0 l1 l2 l3 (S.1 (ja_c l0 27) l2.toNat) S
  else none
theorem ja_X13_without_ok (zs : List Int32) : ∀ (l0 : Nat) (l1 : Nat) (l2 : Int) (l3 : Int) (S : nk_S) (R : Int × nk_S), nk_cl ja_Tt l0 = some 13 → nk_cl ja_Tt l1 = some 12 → ja_X13_without l0 l1 l2 l3 S = some R → nk_K ja_Tt mi_Γ (mi_ev zs) 1 243 0 [(0, nk_r l0), (1, nk_r l1), (2, nk_i l2), (3, nk_i l3)] [] S R := by
  intro l0 l1 l2 l3 S R t_l0 t_l1 hr
  unfold ja_X13_without at hr
  refine nk_p (i := .aload_n 0) (len := 1) (pc' := 1) mJ_243 (by decide +kernel) (ns_aload_n 0 rfl rfl) rfl ?_
  refine nk_getC (f := (4, 1, 24)) (x := 74) (len := 3) (ci := 13) (k := 27) (pc' := 4) ja_okT mJ_243 (by decide +kernel) (by decide +kernel) (by decide +kernel) (by decide) t_l0 rfl ?_
  have t1 : nk_ar ja_Tt (ja_c l0 27) = some (1, 24) := nk_ta ja_okT t_l0 (by decide +kernel)
  refine nk_p (i := .iload_n 2) (len := 1) (pc' := 5) mJ_243 (by decide +kernel) (ns_iload_n 2 rfl rfl) rfl ?_
  obtain ⟨h2, hr⟩ := nk_cke hr
  refine nk_iald (len := 1) (N := 24) (pc' := 6) mJ_243 (by decide +kernel) t1 h2.1 h2.2 rfl rfl ?_
  refine nk_p (i := .iload_n 3) (len := 1) (pc' := 7) mJ_243 (by decide +kernel) (ns_iload_n 3 rfl rfl) rfl ?_
  refine nk_icmp (c := .ne) (off := 10) (len := 3) (t := 17) (pc' := 10) mJ_243 (by decide +kernel) (by decide +kernel) rfl (fun hc => ?_) (fun hc => ?_)
  · have hr := nk_ifn (c := (S.1 (ja_c l0 27) l2.toNat) = l3) hc hr
    refine nk_p (i := .aload_n 0) (len := 1) (pc' := 18) mJ_243 (by decide +kernel) (ns_aload_n 0 rfl rfl) rfl ?_
    refine nk_getC (f := (4, 1, 24)) (x := 74) (len := 3) (ci := 13) (k := 27) (pc' := 21) ja_okT mJ_243 (by decide +kernel) (by decide +kernel) (by decide +kernel) (by decide) t_l0 rfl ?_
    refine nk_p (i := .iload_n 2) (len := 1) (pc' := 22) mJ_243 (by decide +kernel) (ns_iload_n 2 rfl rfl) rfl ?_
    refine nk_iald (len := 1) (N := 24) (pc' := 23) mJ_243 (by decide +kernel) t1 h2.1 h2.2 rfl rfl ?_
    refine nk_p (i := .i2l) (len := 1) (pc' := 24) mJ_243 (by decide +kernel) ns_i2l rfl ?_
    exact ja_X13_without_b24_ok zs _ _ _ _ _ _ _ t_l0 t_l1 hr
  · have hr := nk_ifp (c := (S.1 (ja_c l0 27) l2.toNat) = l3) (Decidable.of_not_not hc) hr
    refine nk_p (i := .iload_n 3) (len := 1) (pc' := 11) mJ_243 (by decide +kernel) (ns_iload_n 3 rfl rfl) rfl ?_
    refine nk_p (i := .i2l) (len := 1) (pc' := 12) mJ_243 (by decide +kernel) ns_i2l rfl ?_
    refine nk_p (i := .lconst 1) (len := 1) (pc' := 13) mJ_243 (by decide +kernel) (ns_lconst (c := 1) (by decide +kernel)) rfl ?_
    refine nk_p (i := .ladd) (len := 1) (pc' := 14) mJ_243 (by decide +kernel) ns_ladd rfl ?_
    refine nk_p (i := .goto 10) (len := 3) (pc' := 24) mJ_243 (by decide +kernel) (ns_goto (by decide +kernel)) rfl ?_
    exact ja_X13_without_b24_ok zs _ _ _ _ _ _ _ t_l0 t_l1 hr
/-! SafeCodeModel apart (LSafeCodeModel$Program;II)Z -/
noncomputable def ja_X13_apart_b50 (l0 : Nat) (l1 : Nat) (l3 : Int) (l4 : Int) (l5 : Int) (S : nk_S) : Option (Int × nk_S) :=
  if l4 = l5 then
    nk_bd (ja_X13_without l0 l1 l3 l4 S) fun r1 S2 =>
    if r1 = 0 then
      some (0, S2)
    else
      some (1, S2)
  else
    some (1, S)
theorem ja_X13_apart_b50_ok (zs : List Int32) : ∀ (l0 : Nat) (l1 : Nat) (l3 : Int) (l4 : Int) (l5 : Int) (S : nk_S) (R : Int × nk_S), nk_cl ja_Tt l0 = some 13 → nk_cl ja_Tt l1 = some 12 → ja_X13_apart_b50 l0 l1 l3 l4 l5 S = some R → nk_K ja_Tt mi_Γ (mi_ev zs) 1 84 50 [(0, nk_r l0), (1, nk_r l1), (3, nk_i l3), (4, nk_i l4), (5, nk_i l5)] [] S R := by
  intro l0 l1 l3 l4 l5 S R t_l0 t_l1 hr
  unfold ja_X13_apart_b50 at hr
  refine nk_p (i := .iload 4) (len := 2) (pc' := 52) mJ_84 (by decide +kernel) (ns_iload 3 rfl) rfl ?_
  refine nk_p (i := .iload 5) (len := 2) (pc' := 54) mJ_84 (by decide +kernel) (ns_iload 4 rfl) rfl ?_
  refine nk_icmp (c := .ne) (off := 14) (len := 3) (t := 68) (pc' := 57) mJ_84 (by decide +kernel) (by decide +kernel) rfl (fun hc => ?_) (fun hc => ?_)
  · have hr := nk_ifn (c := l4 = l5) hc hr
    refine nk_p (i := .iconst 1) (len := 1) (pc' := 69) mJ_84 (by decide +kernel) (ns_iconst (c := 1) (by decide +kernel)) rfl ?_
    refine nk_p (i := .goto 4) (len := 3) (pc' := 73) mJ_84 (by decide +kernel) (ns_goto (by decide +kernel)) rfl ?_
    cases hr
    exact nk_iret (ty := .boolean) (len := 1) mJ_84 (by decide +kernel) rfl (nk_nar_z (by decide))
  · have hr := nk_ifp (c := l4 = l5) (Decidable.of_not_not hc) hr
    refine nk_p (i := .aload_n 0) (len := 1) (pc' := 58) mJ_84 (by decide +kernel) (ns_aload_n 0 rfl rfl) rfl ?_
    refine nk_p (i := .aload_n 1) (len := 1) (pc' := 59) mJ_84 (by decide +kernel) (ns_aload_n 1 rfl rfl) rfl ?_
    refine nk_p (i := .iload_n 3) (len := 1) (pc' := 60) mJ_84 (by decide +kernel) (ns_iload_n 2 rfl rfl) rfl ?_
    refine nk_p (i := .iload 4) (len := 2) (pc' := 62) mJ_84 (by decide +kernel) (ns_iload 3 rfl) rfl ?_
    obtain ⟨r1, S2, h3, hr⟩ := nk_bde hr
    refine nk_callV (ci := 13) (n := 3) (x := 681) (len := 3) (j' := 243) (q' := 1) (r := r1) (S' := S2) (L2 := [(0, nk_r l0), (1, nk_r l1), (2, nk_i l3), (3, nk_i l4)]) (rest := []) (st' := [nk_i r1]) (pc' := 65) mJ_84 (by decide +kernel) (by decide +kernel) rfl rfl t_l0 (Nat.le_of_ble_eq_true rfl) mJ_243 (Nat.le_of_ble_eq_true rfl) rfl (ja_X13_without_ok zs _ _ _ _ _ _ t_l0 t_l1 h3) rfl ?_
    refine nk_icond (c := .eq) (off := 7) (len := 3) (t := 72) (pc' := 68) mJ_84 (by decide +kernel) (by decide +kernel) rfl (fun hc => ?_) (fun hc => ?_)
    · have hr := nk_ifp (c := r1 = 0) hc hr
      refine nk_p (i := .iconst 0) (len := 1) (pc' := 73) mJ_84 (by decide +kernel) (ns_iconst (c := 0) (by decide +kernel)) rfl ?_
      cases hr
      exact nk_iret (ty := .boolean) (len := 1) mJ_84 (by decide +kernel) rfl (nk_nar_z (by decide))
    · have hr := nk_ifn (c := r1 = 0) hc hr
      refine nk_p (i := .iconst 1) (len := 1) (pc' := 69) mJ_84 (by decide +kernel) (ns_iconst (c := 1) (by decide +kernel)) rfl ?_
      refine nk_p (i := .goto 4) (len := 3) (pc' := 73) mJ_84 (by decide +kernel) (ns_goto (by decide +kernel)) rfl ?_
      cases hr
      exact nk_iret (ty := .boolean) (len := 1) mJ_84 (by decide +kernel) rfl (nk_nar_z (by decide))
noncomputable def ja_X13_apart (l0 : Nat) (l1 : Nat) (l2 : Int) (l3 : Int) (S : nk_S) : Option (Int × nk_S) :=
  if 0 ≤ l2 ∧ l2 < 24 then
  nk_lt (S.1 (ja_c l0 27) l2.toNat) fun v3 =>
  nk_lt (S.1 (ja_c l0 28) l2.toNat) fun v6 =>
  if 0 ≤ l3 ∧ l3 < 24 then
  nk_lt (S.1 (ja_c l0 27) l3.toNat) fun v9 =>
  nk_lt (S.1 (ja_c l0 28) l3.toNat) fun v11 =>
  if v9 = v11 then
    nk_bd (ja_X13_without l0 l1 l2 v9 S) fun r13 S14 =>
    if r13 = 0 then
      some (0, S14)
    else
      ja_X13_apart_b50 l0 l1 l3 v3 v6 S14
  else
    ja_X13_apart_b50 l0 l1 l3 v3 v6 S
  else none
  else none
theorem ja_X13_apart_ok (zs : List Int32) : ∀ (l0 : Nat) (l1 : Nat) (l2 : Int) (l3 : Int) (S : nk_S) (R : Int × nk_S), nk_cl ja_Tt l0 = some 13 → nk_cl ja_Tt l1 = some 12 → ja_X13_apart l0 l1 l2 l3 S = some R → nk_K ja_Tt mi_Γ (mi_ev zs) 1 84 0 [(0, nk_r l0), (1, nk_r l1), (2, nk_i l2), (3, nk_i l3)] [] S R := by
  intro l0 l1 l2 l3 S R t_l0 t_l1 hr
  unfold ja_X13_apart at hr
  refine nk_p (i := .aload_n 0) (len := 1) (pc' := 1) mJ_84 (by decide +kernel) (ns_aload_n 0 rfl rfl) rfl ?_
  refine nk_getC (f := (4, 1, 24)) (x := 74) (len := 3) (ci := 13) (k := 27) (pc' := 4) ja_okT mJ_84 (by decide +kernel) (by decide +kernel) (by decide +kernel) (by decide) t_l0 rfl ?_
  have t1 : nk_ar ja_Tt (ja_c l0 27) = some (1, 24) := nk_ta ja_okT t_l0 (by decide +kernel)
  refine nk_p (i := .iload_n 2) (len := 1) (pc' := 5) mJ_84 (by decide +kernel) (ns_iload_n 2 rfl rfl) rfl ?_
  obtain ⟨h2, hr⟩ := nk_cke hr
  refine nk_iald (len := 1) (N := 24) (pc' := 6) mJ_84 (by decide +kernel) t1 h2.1 h2.2 rfl rfl ?_
  obtain ⟨v3, h4, hr⟩ := nk_lte hr
  refine nk_p (i := .istore 4) (len := 2) (pc' := 8) mJ_84 (by decide +kernel) (ns_istore (L' := [(4, nk_i v3), (0, nk_r l0), (1, nk_r l1), (2, nk_i l2), (3, nk_i l3)]) h4 rfl (by decide +kernel)) rfl ?_
  refine nk_p (i := .aload_n 0) (len := 1) (pc' := 9) mJ_84 (by decide +kernel) (ns_aload_n 1 rfl rfl) rfl ?_
  refine nk_getC (f := (4, 1, 24)) (x := 77) (len := 3) (ci := 13) (k := 28) (pc' := 12) ja_okT mJ_84 (by decide +kernel) (by decide +kernel) (by decide +kernel) (by decide) t_l0 rfl ?_
  have t5 : nk_ar ja_Tt (ja_c l0 28) = some (1, 24) := nk_ta ja_okT t_l0 (by decide +kernel)
  refine nk_p (i := .iload_n 2) (len := 1) (pc' := 13) mJ_84 (by decide +kernel) (ns_iload_n 3 rfl rfl) rfl ?_
  refine nk_iald (len := 1) (N := 24) (pc' := 14) mJ_84 (by decide +kernel) t5 h2.1 h2.2 rfl rfl ?_
  obtain ⟨v6, h7, hr⟩ := nk_lte hr
  refine nk_p (i := .istore 5) (len := 2) (pc' := 16) mJ_84 (by decide +kernel) (ns_istore (L' := [(5, nk_i v6), (4, nk_i v3), (0, nk_r l0), (1, nk_r l1), (2, nk_i l2), (3, nk_i l3)]) h7 rfl (by decide +kernel)) rfl ?_
  refine nk_p (i := .aload_n 0) (len := 1) (pc' := 17) mJ_84 (by decide +kernel) (ns_aload_n 2 rfl rfl) rfl ?_
  refine nk_getC (f := (4, 1, 24)) (x := 74) (len := 3) (ci := 13) (k := 27) (pc' := 20) ja_okT mJ_84 (by decide +kernel) (by decide +kernel) (by decide +kernel) (by decide) t_l0 rfl ?_
  refine nk_p (i := .iload_n 3) (len := 1) (pc' := 21) mJ_84 (by decide +kernel) (ns_iload_n 5 rfl rfl) rfl ?_
  obtain ⟨h8, hr⟩ := nk_cke hr
  refine nk_iald (len := 1) (N := 24) (pc' := 22) mJ_84 (by decide +kernel) t1 h8.1 h8.2 rfl rfl ?_
  obtain ⟨v9, h10, hr⟩ := nk_lte hr
  refine nk_p (i := .istore 6) (len := 2) (pc' := 24) mJ_84 (by decide +kernel) (ns_istore (L' := [(6, nk_i v9), (5, nk_i v6), (4, nk_i v3), (0, nk_r l0), (1, nk_r l1), (2, nk_i l2), (3, nk_i l3)]) h10 rfl (by decide +kernel)) rfl ?_
  refine nk_p (i := .aload_n 0) (len := 1) (pc' := 25) mJ_84 (by decide +kernel) (ns_aload_n 3 rfl rfl) rfl ?_
  refine nk_getC (f := (4, 1, 24)) (x := 77) (len := 3) (ci := 13) (k := 28) (pc' := 28) ja_okT mJ_84 (by decide +kernel) (by decide +kernel) (by decide +kernel) (by decide) t_l0 rfl ?_
  refine nk_p (i := .iload_n 3) (len := 1) (pc' := 29) mJ_84 (by decide +kernel) (ns_iload_n 6 rfl rfl) rfl ?_
  refine nk_iald (len := 1) (N := 24) (pc' := 30) mJ_84 (by decide +kernel) t5 h8.1 h8.2 rfl rfl ?_
  obtain ⟨v11, h12, hr⟩ := nk_lte hr
  refine nk_p (i := .istore 7) (len := 2) (pc' := 32) mJ_84 (by decide +kernel) (ns_istore (L' := [(7, nk_i v11), (6, nk_i v9), (5, nk_i v6), (4, nk_i v3), (0, nk_r l0), (1, nk_r l1), (2, nk_i l2), (3, nk_i l3)]) h12 rfl (by decide +kernel)) rfl ?_
  refine nk_p (i := .iload 6) (len := 2) (pc' := 34) mJ_84 (by decide +kernel) (ns_iload 1 rfl) rfl ?_
  refine nk_p (i := .iload 7) (len := 2) (pc' := 36) mJ_84 (by decide +kernel) (ns_iload 0 rfl) rfl ?_
  refine nk_icmp (c := .ne) (off := 14) (len := 3) (t := 50) (pc' := 39) mJ_84 (by decide +kernel) (by decide +kernel) rfl (fun hc => ?_) (fun hc => ?_)
  · have hr := nk_ifn (c := v9 = v11) hc hr
    refine nk_sub [4, 5, 7, 3, 2] (L' := [(0, nk_r l0), (1, nk_r l1), (3, nk_i l3), (4, nk_i v3), (5, nk_i v6)]) rfl ?_
    exact ja_X13_apart_b50_ok zs _ _ _ _ _ _ _ t_l0 t_l1 hr
  · have hr := nk_ifp (c := v9 = v11) (Decidable.of_not_not hc) hr
    refine nk_p (i := .aload_n 0) (len := 1) (pc' := 40) mJ_84 (by decide +kernel) (ns_aload_n 4 rfl rfl) rfl ?_
    refine nk_p (i := .aload_n 1) (len := 1) (pc' := 41) mJ_84 (by decide +kernel) (ns_aload_n 5 rfl rfl) rfl ?_
    refine nk_p (i := .iload_n 2) (len := 1) (pc' := 42) mJ_84 (by decide +kernel) (ns_iload_n 6 rfl rfl) rfl ?_
    refine nk_p (i := .iload 6) (len := 2) (pc' := 44) mJ_84 (by decide +kernel) (ns_iload 1 rfl) rfl ?_
    obtain ⟨r13, S14, h15, hr⟩ := nk_bde hr
    refine nk_callV (ci := 13) (n := 3) (x := 681) (len := 3) (j' := 243) (q' := 1) (r := r13) (S' := S14) (L2 := [(0, nk_r l0), (1, nk_r l1), (2, nk_i l2), (3, nk_i v9)]) (rest := []) (st' := [nk_i r13]) (pc' := 47) mJ_84 (by decide +kernel) (by decide +kernel) rfl rfl t_l0 (Nat.le_of_ble_eq_true rfl) mJ_243 (Nat.le_of_ble_eq_true rfl) rfl (ja_X13_without_ok zs _ _ _ _ _ _ t_l0 t_l1 h15) rfl ?_
    refine nk_icond (c := .eq) (off := 25) (len := 3) (t := 72) (pc' := 50) mJ_84 (by decide +kernel) (by decide +kernel) rfl (fun hc => ?_) (fun hc => ?_)
    · have hr := nk_ifp (c := r13 = 0) hc hr
      refine nk_p (i := .iconst 0) (len := 1) (pc' := 73) mJ_84 (by decide +kernel) (ns_iconst (c := 0) (by decide +kernel)) rfl ?_
      cases hr
      exact nk_iret (ty := .boolean) (len := 1) mJ_84 (by decide +kernel) rfl (nk_nar_z (by decide))
    · have hr := nk_ifn (c := r13 = 0) hc hr
      refine nk_sub [4, 5, 7, 3, 2] (L' := [(0, nk_r l0), (1, nk_r l1), (3, nk_i l3), (4, nk_i v3), (5, nk_i v6)]) rfl ?_
      exact ja_X13_apart_b50_ok zs _ _ _ _ _ _ _ t_l0 t_l1 hr
/-! SafeCodeModel isClass (I)Z -/
noncomputable def ja_X13_isClass (l0 : Int) (S : nk_S) : Option (Int × nk_S) :=
  if l0 < 8 then
    some (0, S)
  else
    if 40 ≤ l0 then
      some (0, S)
    else
      some (1, S)
theorem ja_X13_isClass_ok (zs : List Int32) : ∀ (l0 : Int) (S : nk_S) (R : Int × nk_S), ja_X13_isClass l0 S = some R → nk_K ja_Tt mi_Γ (mi_ev zs) 1 144 0 [(0, nk_i l0)] [] S R := by
  intro l0 S R hr
  unfold ja_X13_isClass at hr
  refine nk_p (i := .iload_n 0) (len := 1) (pc' := 1) mJ_144 (by decide +kernel) (ns_iload_n 0 rfl rfl) rfl ?_
  refine nk_p (i := .bipush 8) (len := 2) (pc' := 3) mJ_144 (by decide +kernel) (ns_bipush (c := 8) (by decide +kernel)) rfl ?_
  refine nk_icmp (c := .lt) (off := 13) (len := 3) (t := 16) (pc' := 6) mJ_144 (by decide +kernel) (by decide +kernel) rfl (fun hc => ?_) (fun hc => ?_)
  · have hr := nk_ifp (c := l0 < 8) hc hr
    refine nk_p (i := .iconst 0) (len := 1) (pc' := 17) mJ_144 (by decide +kernel) (ns_iconst (c := 0) (by decide +kernel)) rfl ?_
    cases hr
    exact nk_iret (ty := .boolean) (len := 1) mJ_144 (by decide +kernel) rfl (nk_nar_z (by decide))
  · have hr := nk_ifn (c := l0 < 8) hc hr
    refine nk_p (i := .iload_n 0) (len := 1) (pc' := 7) mJ_144 (by decide +kernel) (ns_iload_n 0 rfl rfl) rfl ?_
    refine nk_p (i := .bipush 40) (len := 2) (pc' := 9) mJ_144 (by decide +kernel) (ns_bipush (c := 40) (by decide +kernel)) rfl ?_
    refine nk_icmp (c := .ge) (off := 7) (len := 3) (t := 16) (pc' := 12) mJ_144 (by decide +kernel) (by decide +kernel) rfl (fun hc => ?_) (fun hc => ?_)
    · have hr := nk_ifp (c := 40 ≤ l0) hc hr
      refine nk_p (i := .iconst 0) (len := 1) (pc' := 17) mJ_144 (by decide +kernel) (ns_iconst (c := 0) (by decide +kernel)) rfl ?_
      cases hr
      exact nk_iret (ty := .boolean) (len := 1) mJ_144 (by decide +kernel) rfl (nk_nar_z (by decide))
    · have hr := nk_ifn (c := 40 ≤ l0) hc hr
      refine nk_p (i := .iconst 1) (len := 1) (pc' := 13) mJ_144 (by decide +kernel) (ns_iconst (c := 1) (by decide +kernel)) rfl ?_
      refine nk_p (i := .goto 4) (len := 3) (pc' := 17) mJ_144 (by decide +kernel) (ns_goto (by decide +kernel)) rfl ?_
      cases hr
      exact nk_iret (ty := .boolean) (len := 1) mJ_144 (by decide +kernel) rfl (nk_nar_z (by decide))
/-! SafeCodeModel isAtOrBelow (LSafeCodeModel$Program;II)Z -/
noncomputable def ja_X13_isAtOrBelow_b21 (l3 : Int) (S : nk_S) : Option (Int × nk_S) :=
  if l3 < 0 then
    some (0, S)
  else
    some (1, S)
theorem ja_X13_isAtOrBelow_b21_ok (zs : List Int32) : ∀ (l3 : Int) (S : nk_S) (R : Int × nk_S), ja_X13_isAtOrBelow_b21 l3 S = some R → nk_K ja_Tt mi_Γ (mi_ev zs) 1 142 21 [(3, nk_i l3)] [] S R := by
  intro l3 S R hr
  unfold ja_X13_isAtOrBelow_b21 at hr
  refine nk_p (i := .iload_n 3) (len := 1) (pc' := 22) mJ_142 (by decide +kernel) (ns_iload_n 0 rfl rfl) rfl ?_
  refine nk_icond (c := .lt) (off := 7) (len := 3) (t := 29) (pc' := 25) mJ_142 (by decide +kernel) (by decide +kernel) rfl (fun hc => ?_) (fun hc => ?_)
  · have hr := nk_ifp (c := l3 < 0) hc hr
    refine nk_p (i := .iconst 0) (len := 1) (pc' := 30) mJ_142 (by decide +kernel) (ns_iconst (c := 0) (by decide +kernel)) rfl ?_
    cases hr
    exact nk_iret (ty := .boolean) (len := 1) mJ_142 (by decide +kernel) rfl (nk_nar_z (by decide))
  · have hr := nk_ifn (c := l3 < 0) hc hr
    refine nk_p (i := .iconst 1) (len := 1) (pc' := 26) mJ_142 (by decide +kernel) (ns_iconst (c := 1) (by decide +kernel)) rfl ?_
    refine nk_p (i := .goto 4) (len := 3) (pc' := 30) mJ_142 (by decide +kernel) (ns_goto (by decide +kernel)) rfl ?_
    cases hr
    exact nk_iret (ty := .boolean) (len := 1) mJ_142 (by decide +kernel) rfl (nk_nar_z (by decide))
noncomputable def ja_X13_isAtOrBelow_b2 (rec2 : Nat → Int → Int → nk_S → Option (Int × nk_S)) (l0 : Nat) (l2 : Int) (l3 : Int) (S : nk_S) : Option (Int × nk_S) :=
  if l3 < 0 then
    ja_X13_isAtOrBelow_b21 l3 S
  else
    if l3 = l2 then
      ja_X13_isAtOrBelow_b21 l3 S
    else
      if 0 ≤ l3 ∧ l3 < 32 then
      nk_lt (S.1 (ja_c l0 8) l3.toNat) fun v3 =>
      rec2 l0 l2 v3 S
      else none
theorem ja_X13_isAtOrBelow_b2_ok (zs : List Int32) {rec2 : Nat → Int → Int → nk_S → Option (Int × nk_S)} (hrec2 : ∀ (l0 : Nat) (l2 : Int) (l3 : Int) (S : nk_S) (R : Int × nk_S), nk_cl ja_Tt l0 = some 12 → rec2 l0 l2 l3 S = some R → nk_K ja_Tt mi_Γ (mi_ev zs) 1 142 2 [(0, nk_r l0), (2, nk_i l2), (3, nk_i l3)] [] S R) : ∀ (l0 : Nat) (l2 : Int) (l3 : Int) (S : nk_S) (R : Int × nk_S), nk_cl ja_Tt l0 = some 12 → ja_X13_isAtOrBelow_b2 rec2 l0 l2 l3 S = some R → nk_K ja_Tt mi_Γ (mi_ev zs) 1 142 2 [(0, nk_r l0), (2, nk_i l2), (3, nk_i l3)] [] S R := by
  intro l0 l2 l3 S R t_l0 hr
  unfold ja_X13_isAtOrBelow_b2 at hr
  refine nk_p (i := .iload_n 3) (len := 1) (pc' := 3) mJ_142 (by decide +kernel) (ns_iload_n 2 rfl rfl) rfl ?_
  refine nk_icond (c := .lt) (off := 18) (len := 3) (t := 21) (pc' := 6) mJ_142 (by decide +kernel) (by decide +kernel) rfl (fun hc => ?_) (fun hc => ?_)
  · have hr := nk_ifp (c := l3 < 0) hc hr
    refine nk_sub [2] (L' := [(3, nk_i l3)]) rfl ?_
    exact ja_X13_isAtOrBelow_b21_ok zs _ _ _ hr
  · have hr := nk_ifn (c := l3 < 0) hc hr
    refine nk_p (i := .iload_n 3) (len := 1) (pc' := 7) mJ_142 (by decide +kernel) (ns_iload_n 2 rfl rfl) rfl ?_
    refine nk_p (i := .iload_n 2) (len := 1) (pc' := 8) mJ_142 (by decide +kernel) (ns_iload_n 1 rfl rfl) rfl ?_
    refine nk_icmp (c := .eq) (off := 13) (len := 3) (t := 21) (pc' := 11) mJ_142 (by decide +kernel) (by decide +kernel) rfl (fun hc => ?_) (fun hc => ?_)
    · have hr := nk_ifp (c := l3 = l2) hc hr
      refine nk_sub [2] (L' := [(3, nk_i l3)]) rfl ?_
      exact ja_X13_isAtOrBelow_b21_ok zs _ _ _ hr
    · have hr := nk_ifn (c := l3 = l2) hc hr
      refine nk_p (i := .aload_n 0) (len := 1) (pc' := 12) mJ_142 (by decide +kernel) (ns_aload_n 0 rfl rfl) rfl ?_
      refine nk_getC (f := (4, 1, 32)) (x := 280) (len := 3) (ci := 12) (k := 8) (pc' := 15) ja_okT mJ_142 (by decide +kernel) (by decide +kernel) (by decide +kernel) (by decide) t_l0 rfl ?_
      have t1 : nk_ar ja_Tt (ja_c l0 8) = some (1, 32) := nk_ta ja_okT t_l0 (by decide +kernel)
      refine nk_p (i := .iload_n 3) (len := 1) (pc' := 16) mJ_142 (by decide +kernel) (ns_iload_n 2 rfl rfl) rfl ?_
      obtain ⟨h2, hr⟩ := nk_cke hr
      refine nk_iald (len := 1) (N := 32) (pc' := 17) mJ_142 (by decide +kernel) t1 h2.1 h2.2 rfl rfl ?_
      obtain ⟨v3, h4, hr⟩ := nk_lte hr
      refine nk_p (i := .istore_n 3) (len := 1) (pc' := 18) mJ_142 (by decide +kernel) (ns_istore_n (L' := [(3, nk_i v3), (0, nk_r l0), (2, nk_i l2)]) h4 rfl rfl (by decide +kernel)) rfl ?_
      refine nk_p (i := .goto (-16)) (len := 3) (pc' := 2) mJ_142 (by decide +kernel) (ns_goto (by decide +kernel)) rfl ?_
      refine nk_sub [1, 2, 0] (L' := [(0, nk_r l0), (2, nk_i l2), (3, nk_i v3)]) rfl ?_
      exact hrec2 _ _ _ _ _ t_l0 hr
noncomputable def ja_X13_isAtOrBelow_L2 : Nat → Nat → Int → Int → nk_S → Option (Int × nk_S)
  | 0, _, _, _, _ => none
  | n + 1, l0, l2, l3, S => ja_X13_isAtOrBelow_b2 (ja_X13_isAtOrBelow_L2 n) l0 l2 l3 S
theorem ja_X13_isAtOrBelow_L2_ok (zs : List Int32) : ∀ n : Nat, ∀ (l0 : Nat) (l2 : Int) (l3 : Int) (S : nk_S) (R : Int × nk_S), nk_cl ja_Tt l0 = some 12 → ja_X13_isAtOrBelow_L2 n l0 l2 l3 S = some R → nk_K ja_Tt mi_Γ (mi_ev zs) 1 142 2 [(0, nk_r l0), (2, nk_i l2), (3, nk_i l3)] [] S R := by
  intro n
  induction n with
  | zero => intro _ _ _ _ _ _ hr; cases hr
  | succ n ih => intro l0 l2 l3 S R t_l0 hr; exact ja_X13_isAtOrBelow_b2_ok zs ih l0 l2 l3 S R t_l0 hr
noncomputable def ja_X13_isAtOrBelow (l0 : Nat) (l1 : Int) (l2 : Int) (S : nk_S) : Option (Int × nk_S) :=
  ja_X13_isAtOrBelow_L2 nk_big l0 l2 l1 S
theorem ja_X13_isAtOrBelow_ok (zs : List Int32) : ∀ (l0 : Nat) (l1 : Int) (l2 : Int) (S : nk_S) (R : Int × nk_S), nk_cl ja_Tt l0 = some 12 → ja_X13_isAtOrBelow l0 l1 l2 S = some R → nk_K ja_Tt mi_Γ (mi_ev zs) 1 142 0 [(0, nk_r l0), (1, nk_i l1), (2, nk_i l2)] [] S R := by
  intro l0 l1 l2 S R t_l0 hr
  unfold ja_X13_isAtOrBelow at hr
  refine nk_p (i := .iload_n 1) (len := 1) (pc' := 1) mJ_142 (by decide +kernel) (ns_iload_n 1 rfl rfl) rfl ?_
  refine nk_p (i := .istore_n 3) (len := 1) (pc' := 2) mJ_142 (by decide +kernel) (ns_istore_n (L' := [(3, nk_i l1), (0, nk_r l0), (1, nk_i l1), (2, nk_i l2)]) rfl rfl rfl (by decide +kernel)) rfl ?_
  refine nk_sub [1, 3, 0] (L' := [(0, nk_r l0), (2, nk_i l2), (3, nk_i l1)]) rfl ?_
  exact ja_X13_isAtOrBelow_L2_ok zs nk_big _ _ _ _ _ t_l0 hr
/-! SafeCodeModel isBelow (LSafeCodeModel$Program;II)Z -/
noncomputable def ja_X13_isBelow (l0 : Nat) (l1 : Int) (l2 : Int) (S : nk_S) : Option (Int × nk_S) :=
  if l2 = 2 then
    some (1, S)
  else
    if l1 = l2 then
      some (1, S)
    else
      if l1 = 2 then
        some (0, S)
      else
        if l1 = 0 then
          some (0, S)
        else
          if l2 = 0 then
            some (0, S)
          else
            if l2 = 1 then
              some (0, S)
            else
              if l1 = 1 then
                some (1, S)
              else
                if l2 = 8 then
                  some (1, S)
                else
                  nk_bd (ja_X13_isClass l1 S) fun r1 S2 =>
                  if r1 = 0 then
                    if l1 < 48 then
                      some (0, S2)
                    else
                      if l2 < 48 then
                        some (0, S2)
                      else
                        nk_bd (ja_X13_isAtOrBelow l0 (nk_w (l1 - 48)) (nk_w (l2 - 48)) S2) fun r4 S5 =>
                        if r4 = 0 then
                          some (0, S5)
                        else
                          some (1, S5)
                  else
                    nk_bd (ja_X13_isClass l2 S2) fun r7 S8 =>
                    if r7 = 0 then
                      some (0, S8)
                    else
                      nk_bd (ja_X13_isAtOrBelow l0 (nk_w (l1 - 8)) (nk_w (l2 - 8)) S8) fun r10 S11 =>
                      if r10 = 0 then
                        some (0, S11)
                      else
                        some (1, S11)
theorem ja_X13_isBelow_ok (zs : List Int32) : ∀ (l0 : Nat) (l1 : Int) (l2 : Int) (S : nk_S) (R : Int × nk_S), nk_cl ja_Tt l0 = some 12 → ja_X13_isBelow l0 l1 l2 S = some R → nk_K ja_Tt mi_Γ (mi_ev zs) 1 143 0 [(0, nk_r l0), (1, nk_i l1), (2, nk_i l2)] [] S R := by
  intro l0 l1 l2 S R t_l0 hr
  unfold ja_X13_isBelow at hr
  refine nk_p (i := .iload_n 2) (len := 1) (pc' := 1) mJ_143 (by decide +kernel) (ns_iload_n 2 rfl rfl) rfl ?_
  refine nk_p (i := .iconst 2) (len := 1) (pc' := 2) mJ_143 (by decide +kernel) (ns_iconst (c := 2) (by decide +kernel)) rfl ?_
  refine nk_icmp (c := .eq) (off := 8) (len := 3) (t := 10) (pc' := 5) mJ_143 (by decide +kernel) (by decide +kernel) rfl (fun hc => ?_) (fun hc => ?_)
  · have hr := nk_ifp (c := l2 = 2) hc hr
    refine nk_p (i := .iconst 1) (len := 1) (pc' := 11) mJ_143 (by decide +kernel) (ns_iconst (c := 1) (by decide +kernel)) rfl ?_
    cases hr
    exact nk_iret (ty := .boolean) (len := 1) mJ_143 (by decide +kernel) rfl (nk_nar_z (by decide))
  · have hr := nk_ifn (c := l2 = 2) hc hr
    refine nk_p (i := .iload_n 1) (len := 1) (pc' := 6) mJ_143 (by decide +kernel) (ns_iload_n 1 rfl rfl) rfl ?_
    refine nk_p (i := .iload_n 2) (len := 1) (pc' := 7) mJ_143 (by decide +kernel) (ns_iload_n 2 rfl rfl) rfl ?_
    refine nk_icmp (c := .ne) (off := 5) (len := 3) (t := 12) (pc' := 10) mJ_143 (by decide +kernel) (by decide +kernel) rfl (fun hc => ?_) (fun hc => ?_)
    · have hr := nk_ifn (c := l1 = l2) hc hr
      refine nk_p (i := .iload_n 1) (len := 1) (pc' := 13) mJ_143 (by decide +kernel) (ns_iload_n 1 rfl rfl) rfl ?_
      refine nk_p (i := .iconst 2) (len := 1) (pc' := 14) mJ_143 (by decide +kernel) (ns_iconst (c := 2) (by decide +kernel)) rfl ?_
      refine nk_icmp (c := .eq) (off := 16) (len := 3) (t := 30) (pc' := 17) mJ_143 (by decide +kernel) (by decide +kernel) rfl (fun hc => ?_) (fun hc => ?_)
      · have hr := nk_ifp (c := l1 = 2) hc hr
        refine nk_p (i := .iconst 0) (len := 1) (pc' := 31) mJ_143 (by decide +kernel) (ns_iconst (c := 0) (by decide +kernel)) rfl ?_
        cases hr
        exact nk_iret (ty := .boolean) (len := 1) mJ_143 (by decide +kernel) rfl (nk_nar_z (by decide))
      · have hr := nk_ifn (c := l1 = 2) hc hr
        refine nk_p (i := .iload_n 1) (len := 1) (pc' := 18) mJ_143 (by decide +kernel) (ns_iload_n 1 rfl rfl) rfl ?_
        refine nk_icond (c := .eq) (off := 12) (len := 3) (t := 30) (pc' := 21) mJ_143 (by decide +kernel) (by decide +kernel) rfl (fun hc => ?_) (fun hc => ?_)
        · have hr := nk_ifp (c := l1 = 0) hc hr
          refine nk_p (i := .iconst 0) (len := 1) (pc' := 31) mJ_143 (by decide +kernel) (ns_iconst (c := 0) (by decide +kernel)) rfl ?_
          cases hr
          exact nk_iret (ty := .boolean) (len := 1) mJ_143 (by decide +kernel) rfl (nk_nar_z (by decide))
        · have hr := nk_ifn (c := l1 = 0) hc hr
          refine nk_p (i := .iload_n 2) (len := 1) (pc' := 22) mJ_143 (by decide +kernel) (ns_iload_n 2 rfl rfl) rfl ?_
          refine nk_icond (c := .eq) (off := 8) (len := 3) (t := 30) (pc' := 25) mJ_143 (by decide +kernel) (by decide +kernel) rfl (fun hc => ?_) (fun hc => ?_)
          · have hr := nk_ifp (c := l2 = 0) hc hr
            refine nk_p (i := .iconst 0) (len := 1) (pc' := 31) mJ_143 (by decide +kernel) (ns_iconst (c := 0) (by decide +kernel)) rfl ?_
            cases hr
            exact nk_iret (ty := .boolean) (len := 1) mJ_143 (by decide +kernel) rfl (nk_nar_z (by decide))
          · have hr := nk_ifn (c := l2 = 0) hc hr
            refine nk_p (i := .iload_n 2) (len := 1) (pc' := 26) mJ_143 (by decide +kernel) (ns_iload_n 2 rfl rfl) rfl ?_
            refine nk_p (i := .iconst 1) (len := 1) (pc' := 27) mJ_143 (by decide +kernel) (ns_iconst (c := 1) (by decide +kernel)) rfl ?_
            refine nk_icmp (c := .ne) (off := 5) (len := 3) (t := 32) (pc' := 30) mJ_143 (by decide +kernel) (by decide +kernel) rfl (fun hc => ?_) (fun hc => ?_)
            · have hr := nk_ifn (c := l2 = 1) hc hr
              refine nk_p (i := .iload_n 1) (len := 1) (pc' := 33) mJ_143 (by decide +kernel) (ns_iload_n 1 rfl rfl) rfl ?_
              refine nk_p (i := .iconst 1) (len := 1) (pc' := 34) mJ_143 (by decide +kernel) (ns_iconst (c := 1) (by decide +kernel)) rfl ?_
              refine nk_icmp (c := .eq) (off := 9) (len := 3) (t := 43) (pc' := 37) mJ_143 (by decide +kernel) (by decide +kernel) rfl (fun hc => ?_) (fun hc => ?_)
              · have hr := nk_ifp (c := l1 = 1) hc hr
                refine nk_p (i := .iconst 1) (len := 1) (pc' := 44) mJ_143 (by decide +kernel) (ns_iconst (c := 1) (by decide +kernel)) rfl ?_
                cases hr
                exact nk_iret (ty := .boolean) (len := 1) mJ_143 (by decide +kernel) rfl (nk_nar_z (by decide))
              · have hr := nk_ifn (c := l1 = 1) hc hr
                refine nk_p (i := .iload_n 2) (len := 1) (pc' := 38) mJ_143 (by decide +kernel) (ns_iload_n 2 rfl rfl) rfl ?_
                refine nk_p (i := .bipush 8) (len := 2) (pc' := 40) mJ_143 (by decide +kernel) (ns_bipush (c := 8) (by decide +kernel)) rfl ?_
                refine nk_icmp (c := .ne) (off := 5) (len := 3) (t := 45) (pc' := 43) mJ_143 (by decide +kernel) (by decide +kernel) rfl (fun hc => ?_) (fun hc => ?_)
                · have hr := nk_ifn (c := l2 = 8) hc hr
                  refine nk_p (i := .iload_n 1) (len := 1) (pc' := 46) mJ_143 (by decide +kernel) (ns_iload_n 1 rfl rfl) rfl ?_
                  obtain ⟨r1, S2, h3, hr⟩ := nk_bde hr
                  refine nk_callS (ci := 0) (n := 1) (x := 483) (len := 3) (j' := 144) (q' := 1) (r := r1) (S' := S2) (L2 := [(0, nk_i l1)]) (rest := []) (st' := [nk_i r1]) (pc' := 49) mJ_143 (by decide +kernel) (by decide +kernel) (Nat.le_of_ble_eq_true rfl) rfl rfl (Nat.le_of_ble_eq_true rfl) mJ_144 (Nat.le_of_ble_eq_true rfl) ja_Tpos rfl (ja_X13_isClass_ok zs _ _ _ h3) rfl ?_
                  refine nk_icond (c := .eq) (off := 31) (len := 3) (t := 80) (pc' := 52) mJ_143 (by decide +kernel) (by decide +kernel) rfl (fun hc => ?_) (fun hc => ?_)
                  · have hr := nk_ifp (c := r1 = 0) hc hr
                    refine nk_p (i := .iload_n 1) (len := 1) (pc' := 81) mJ_143 (by decide +kernel) (ns_iload_n 1 rfl rfl) rfl ?_
                    refine nk_p (i := .bipush 48) (len := 2) (pc' := 83) mJ_143 (by decide +kernel) (ns_bipush (c := 48) (by decide +kernel)) rfl ?_
                    refine nk_icmp (c := .lt) (off := 28) (len := 3) (t := 111) (pc' := 86) mJ_143 (by decide +kernel) (by decide +kernel) rfl (fun hc => ?_) (fun hc => ?_)
                    · have hr := nk_ifp (c := l1 < 48) hc hr
                      refine nk_p (i := .iconst 0) (len := 1) (pc' := 112) mJ_143 (by decide +kernel) (ns_iconst (c := 0) (by decide +kernel)) rfl ?_
                      cases hr
                      exact nk_iret (ty := .boolean) (len := 1) mJ_143 (by decide +kernel) rfl (nk_nar_z (by decide))
                    · have hr := nk_ifn (c := l1 < 48) hc hr
                      refine nk_p (i := .iload_n 2) (len := 1) (pc' := 87) mJ_143 (by decide +kernel) (ns_iload_n 2 rfl rfl) rfl ?_
                      refine nk_p (i := .bipush 48) (len := 2) (pc' := 89) mJ_143 (by decide +kernel) (ns_bipush (c := 48) (by decide +kernel)) rfl ?_
                      refine nk_icmp (c := .lt) (off := 22) (len := 3) (t := 111) (pc' := 92) mJ_143 (by decide +kernel) (by decide +kernel) rfl (fun hc => ?_) (fun hc => ?_)
                      · have hr := nk_ifp (c := l2 < 48) hc hr
                        refine nk_p (i := .iconst 0) (len := 1) (pc' := 112) mJ_143 (by decide +kernel) (ns_iconst (c := 0) (by decide +kernel)) rfl ?_
                        cases hr
                        exact nk_iret (ty := .boolean) (len := 1) mJ_143 (by decide +kernel) rfl (nk_nar_z (by decide))
                      · have hr := nk_ifn (c := l2 < 48) hc hr
                        refine nk_p (i := .aload_n 0) (len := 1) (pc' := 93) mJ_143 (by decide +kernel) (ns_aload_n 0 rfl rfl) rfl ?_
                        refine nk_p (i := .iload_n 1) (len := 1) (pc' := 94) mJ_143 (by decide +kernel) (ns_iload_n 1 rfl rfl) rfl ?_
                        refine nk_p (i := .bipush 48) (len := 2) (pc' := 96) mJ_143 (by decide +kernel) (ns_bipush (c := 48) (by decide +kernel)) rfl ?_
                        refine nk_p (i := .isub) (len := 1) (pc' := 97) mJ_143 (by decide +kernel) ns_isub rfl ?_
                        refine nk_p (i := .iload_n 2) (len := 1) (pc' := 98) mJ_143 (by decide +kernel) (ns_iload_n 2 rfl rfl) rfl ?_
                        refine nk_p (i := .bipush 48) (len := 2) (pc' := 100) mJ_143 (by decide +kernel) (ns_bipush (c := 48) (by decide +kernel)) rfl ?_
                        refine nk_p (i := .isub) (len := 1) (pc' := 101) mJ_143 (by decide +kernel) ns_isub rfl ?_
                        obtain ⟨r4, S5, h6, hr⟩ := nk_bde hr
                        refine nk_callS (ci := 0) (n := 3) (x := 299) (len := 3) (j' := 142) (q' := 1) (r := r4) (S' := S5) (L2 := [(0, nk_r l0), (1, nk_i (nk_w (l1 - 48))), (2, nk_i (nk_w (l2 - 48)))]) (rest := []) (st' := [nk_i r4]) (pc' := 104) mJ_143 (by decide +kernel) (by decide +kernel) (Nat.le_of_ble_eq_true rfl) rfl rfl (Nat.le_of_ble_eq_true rfl) mJ_142 (Nat.le_of_ble_eq_true rfl) ja_Tpos rfl (ja_X13_isAtOrBelow_ok zs _ _ _ _ _ t_l0 h6) rfl ?_
                        refine nk_icond (c := .eq) (off := 7) (len := 3) (t := 111) (pc' := 107) mJ_143 (by decide +kernel) (by decide +kernel) rfl (fun hc => ?_) (fun hc => ?_)
                        · have hr := nk_ifp (c := r4 = 0) hc hr
                          refine nk_p (i := .iconst 0) (len := 1) (pc' := 112) mJ_143 (by decide +kernel) (ns_iconst (c := 0) (by decide +kernel)) rfl ?_
                          cases hr
                          exact nk_iret (ty := .boolean) (len := 1) mJ_143 (by decide +kernel) rfl (nk_nar_z (by decide))
                        · have hr := nk_ifn (c := r4 = 0) hc hr
                          refine nk_p (i := .iconst 1) (len := 1) (pc' := 108) mJ_143 (by decide +kernel) (ns_iconst (c := 1) (by decide +kernel)) rfl ?_
                          refine nk_p (i := .goto 4) (len := 3) (pc' := 112) mJ_143 (by decide +kernel) (ns_goto (by decide +kernel)) rfl ?_
                          cases hr
                          exact nk_iret (ty := .boolean) (len := 1) mJ_143 (by decide +kernel) rfl (nk_nar_z (by decide))
                  · have hr := nk_ifn (c := r1 = 0) hc hr
                    refine nk_p (i := .iload_n 2) (len := 1) (pc' := 53) mJ_143 (by decide +kernel) (ns_iload_n 2 rfl rfl) rfl ?_
                    obtain ⟨r7, S8, h9, hr⟩ := nk_bde hr
                    refine nk_callS (ci := 0) (n := 1) (x := 483) (len := 3) (j' := 144) (q' := 1) (r := r7) (S' := S8) (L2 := [(0, nk_i l2)]) (rest := []) (st' := [nk_i r7]) (pc' := 56) mJ_143 (by decide +kernel) (by decide +kernel) (Nat.le_of_ble_eq_true rfl) rfl rfl (Nat.le_of_ble_eq_true rfl) mJ_144 (Nat.le_of_ble_eq_true rfl) ja_Tpos rfl (ja_X13_isClass_ok zs _ _ _ h9) rfl ?_
                    refine nk_icond (c := .eq) (off := 22) (len := 3) (t := 78) (pc' := 59) mJ_143 (by decide +kernel) (by decide +kernel) rfl (fun hc => ?_) (fun hc => ?_)
                    · have hr := nk_ifp (c := r7 = 0) hc hr
                      refine nk_p (i := .iconst 0) (len := 1) (pc' := 79) mJ_143 (by decide +kernel) (ns_iconst (c := 0) (by decide +kernel)) rfl ?_
                      cases hr
                      exact nk_iret (ty := .boolean) (len := 1) mJ_143 (by decide +kernel) rfl (nk_nar_z (by decide))
                    · have hr := nk_ifn (c := r7 = 0) hc hr
                      refine nk_p (i := .aload_n 0) (len := 1) (pc' := 60) mJ_143 (by decide +kernel) (ns_aload_n 0 rfl rfl) rfl ?_
                      refine nk_p (i := .iload_n 1) (len := 1) (pc' := 61) mJ_143 (by decide +kernel) (ns_iload_n 1 rfl rfl) rfl ?_
                      refine nk_p (i := .bipush 8) (len := 2) (pc' := 63) mJ_143 (by decide +kernel) (ns_bipush (c := 8) (by decide +kernel)) rfl ?_
                      refine nk_p (i := .isub) (len := 1) (pc' := 64) mJ_143 (by decide +kernel) ns_isub rfl ?_
                      refine nk_p (i := .iload_n 2) (len := 1) (pc' := 65) mJ_143 (by decide +kernel) (ns_iload_n 2 rfl rfl) rfl ?_
                      refine nk_p (i := .bipush 8) (len := 2) (pc' := 67) mJ_143 (by decide +kernel) (ns_bipush (c := 8) (by decide +kernel)) rfl ?_
                      refine nk_p (i := .isub) (len := 1) (pc' := 68) mJ_143 (by decide +kernel) ns_isub rfl ?_
                      obtain ⟨r10, S11, h12, hr⟩ := nk_bde hr
                      refine nk_callS (ci := 0) (n := 3) (x := 299) (len := 3) (j' := 142) (q' := 1) (r := r10) (S' := S11) (L2 := [(0, nk_r l0), (1, nk_i (nk_w (l1 - 8))), (2, nk_i (nk_w (l2 - 8)))]) (rest := []) (st' := [nk_i r10]) (pc' := 71) mJ_143 (by decide +kernel) (by decide +kernel) (Nat.le_of_ble_eq_true rfl) rfl rfl (Nat.le_of_ble_eq_true rfl) mJ_142 (Nat.le_of_ble_eq_true rfl) ja_Tpos rfl (ja_X13_isAtOrBelow_ok zs _ _ _ _ _ t_l0 h12) rfl ?_
                      refine nk_icond (c := .eq) (off := 7) (len := 3) (t := 78) (pc' := 74) mJ_143 (by decide +kernel) (by decide +kernel) rfl (fun hc => ?_) (fun hc => ?_)
                      · have hr := nk_ifp (c := r10 = 0) hc hr
                        refine nk_p (i := .iconst 0) (len := 1) (pc' := 79) mJ_143 (by decide +kernel) (ns_iconst (c := 0) (by decide +kernel)) rfl ?_
                        cases hr
                        exact nk_iret (ty := .boolean) (len := 1) mJ_143 (by decide +kernel) rfl (nk_nar_z (by decide))
                      · have hr := nk_ifn (c := r10 = 0) hc hr
                        refine nk_p (i := .iconst 1) (len := 1) (pc' := 75) mJ_143 (by decide +kernel) (ns_iconst (c := 1) (by decide +kernel)) rfl ?_
                        refine nk_p (i := .goto 4) (len := 3) (pc' := 79) mJ_143 (by decide +kernel) (ns_goto (by decide +kernel)) rfl ?_
                        cases hr
                        exact nk_iret (ty := .boolean) (len := 1) mJ_143 (by decide +kernel) rfl (nk_nar_z (by decide))
                · have hr := nk_ifp (c := l2 = 8) (Decidable.of_not_not hc) hr
                  refine nk_p (i := .iconst 1) (len := 1) (pc' := 44) mJ_143 (by decide +kernel) (ns_iconst (c := 1) (by decide +kernel)) rfl ?_
                  cases hr
                  exact nk_iret (ty := .boolean) (len := 1) mJ_143 (by decide +kernel) rfl (nk_nar_z (by decide))
            · have hr := nk_ifp (c := l2 = 1) (Decidable.of_not_not hc) hr
              refine nk_p (i := .iconst 0) (len := 1) (pc' := 31) mJ_143 (by decide +kernel) (ns_iconst (c := 0) (by decide +kernel)) rfl ?_
              cases hr
              exact nk_iret (ty := .boolean) (len := 1) mJ_143 (by decide +kernel) rfl (nk_nar_z (by decide))
    · have hr := nk_ifp (c := l1 = l2) (Decidable.of_not_not hc) hr
      refine nk_p (i := .iconst 1) (len := 1) (pc' := 11) mJ_143 (by decide +kernel) (ns_iconst (c := 1) (by decide +kernel)) rfl ?_
      cases hr
      exact nk_iret (ty := .boolean) (len := 1) mJ_143 (by decide +kernel) rfl (nk_nar_z (by decide))
