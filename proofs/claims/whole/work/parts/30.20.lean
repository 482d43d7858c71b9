/-! SafeCodeModel goesBehind (LSafeCodeModel$Program;I)Z -/
noncomputable def ja_X13_goesBehind_b441 (l0 : Nat) (S : nk_S) : Option (Int × nk_S) :=
  nk_lt (nk_wi S l0 25 (nk_w ((S.1 l0 25) - 1))) fun S1 =>
  some (1, S1)
theorem ja_X13_goesBehind_b441_ok (zs : List Int32) : ∀ (l0 : Nat) (S : nk_S) (R : Int × nk_S), nk_cl ja_Tt l0 = some 13 → ja_X13_goesBehind_b441 l0 S = some R → nk_K ja_Tt mi_Γ (mi_ev zs) 1 127 441 [(0, nk_r l0)] [] S R := by
  intro l0 S R t_l0 hr
  unfold ja_X13_goesBehind_b441 at hr
  refine nk_p (i := .aload_n 0) (len := 1) (pc' := 442) mJ_127 (by decide +kernel) (ns_aload_n 0 rfl rfl) rfl ?_
  refine nk_p (i := .dup) (len := 1) (pc' := 443) mJ_127 (by decide +kernel) (ns_dup rfl) rfl ?_
  refine nk_getI (y := (0, 0)) (x := 495) (len := 3) (ci := 13) (k := 25) (pc' := 446) ja_okT mJ_127 (by decide +kernel) (by decide +kernel) (by decide +kernel) t_l0 rfl ?_
  refine nk_p (i := .iconst 1) (len := 1) (pc' := 447) mJ_127 (by decide +kernel) (ns_iconst (c := 1) (by decide +kernel)) rfl ?_
  refine nk_p (i := .isub) (len := 1) (pc' := 448) mJ_127 (by decide +kernel) ns_isub rfl ?_
  obtain ⟨S1, h2, hr⟩ := nk_lte hr
  refine nk_putI (y := (0, 0)) (ty := .int) (x := 495) (len := 3) (ci := 13) (k := 25) (pc' := 451) ja_okT mJ_127 (by decide +kernel) (by decide +kernel) (by decide +kernel) t_l0 (Or.inl rfl) rfl h2 ?_
  refine nk_p (i := .iconst 1) (len := 1) (pc' := 452) mJ_127 (by decide +kernel) (ns_iconst (c := 1) (by decide +kernel)) rfl ?_
  cases hr
  exact nk_iret (ty := .boolean) (len := 1) mJ_127 (by decide +kernel) rfl (nk_nar_z (by decide))
noncomputable def ja_X13_goesBehind_b630 (l0 : Nat) (l1 : Nat) (l3 : Int) (S : nk_S) : Option (Int × nk_S) :=
  nk_bd (ja_X13_numbers l0 l1 l3 S) fun r1 S2 =>
  if r1 = 0 ∨ r1 = 1 then
  some (r1, S2)
  else none
theorem ja_X13_goesBehind_b630_ok (zs : List Int32) : ∀ (l0 : Nat) (l1 : Nat) (l3 : Int) (S : nk_S) (R : Int × nk_S), nk_cl ja_Tt l0 = some 13 → nk_cl ja_Tt l1 = some 12 → ja_X13_goesBehind_b630 l0 l1 l3 S = some R → nk_K ja_Tt mi_Γ (mi_ev zs) 1 127 630 [(0, nk_r l0), (1, nk_r l1), (3, nk_i l3)] [] S R := by
  intro l0 l1 l3 S R t_l0 t_l1 hr
  unfold ja_X13_goesBehind_b630 at hr
  refine nk_p (i := .aload_n 0) (len := 1) (pc' := 631) mJ_127 (by decide +kernel) (ns_aload_n 0 rfl rfl) rfl ?_
  refine nk_p (i := .aload_n 1) (len := 1) (pc' := 632) mJ_127 (by decide +kernel) (ns_aload_n 1 rfl rfl) rfl ?_
  refine nk_p (i := .iload_n 3) (len := 1) (pc' := 633) mJ_127 (by decide +kernel) (ns_iload_n 2 rfl rfl) rfl ?_
  obtain ⟨r1, S2, h3, hr⟩ := nk_bde hr
  refine nk_callV (ci := 13) (n := 2) (x := 722) (len := 3) (j' := 198) (q' := 1) (r := r1) (S' := S2) (L2 := [(0, nk_r l0), (1, nk_r l1), (2, nk_i l3)]) (rest := []) (st' := [nk_i r1]) (pc' := 636) mJ_127 (by decide +kernel) (by decide +kernel) rfl rfl t_l0 (Nat.le_of_ble_eq_true rfl) mJ_198 (Nat.le_of_ble_eq_true rfl) rfl (ja_X13_numbers_ok zs _ _ _ _ _ t_l0 t_l1 h3) rfl ?_
  obtain ⟨h4, hr⟩ := nk_cke hr
  cases hr
  exact nk_iret (ty := .boolean) (len := 1) mJ_127 (by decide +kernel) rfl (nk_nar_z h4)
noncomputable def ja_X13_goesBehind_b488 (s0 : Nat) (s1 : Nat) (s2 : Int) (S : nk_S) : Option (Int × nk_S) :=
  nk_bd (ja_X13_element s0 s1 s2 S) fun r1 S2 =>
  if r1 = 0 ∨ r1 = 1 then
  some (r1, S2)
  else none
theorem ja_X13_goesBehind_b488_ok (zs : List Int32) : ∀ (s0 : Nat) (s1 : Nat) (s2 : Int) (S : nk_S) (R : Int × nk_S), nk_cl ja_Tt s0 = some 13 → nk_cl ja_Tt s1 = some 12 → ja_X13_goesBehind_b488 s0 s1 s2 S = some R → nk_K ja_Tt mi_Γ (mi_ev zs) 1 127 488 [] [nk_i s2, nk_r s1, nk_r s0] S R := by
  intro s0 s1 s2 S R t_s0 t_s1 hr
  unfold ja_X13_goesBehind_b488 at hr
  obtain ⟨r1, S2, h3, hr⟩ := nk_bde hr
  refine nk_callV (ci := 13) (n := 2) (x := 705) (len := 3) (j' := 107) (q' := 1) (r := r1) (S' := S2) (L2 := [(0, nk_r s0), (1, nk_r s1), (2, nk_i s2)]) (rest := []) (st' := [nk_i r1]) (pc' := 491) mJ_127 (by decide +kernel) (by decide +kernel) rfl rfl t_s0 (Nat.le_of_ble_eq_true rfl) mJ_107 (Nat.le_of_ble_eq_true rfl) rfl (ja_X13_element_ok zs _ _ _ _ _ t_s0 t_s1 h3) rfl ?_
  obtain ⟨h4, hr⟩ := nk_cke hr
  cases hr
  exact nk_iret (ty := .boolean) (len := 1) mJ_127 (by decide +kernel) rfl (nk_nar_z h4)
noncomputable def ja_X13_goesBehind_b475 (l0 : Nat) (l1 : Nat) (l3 : Int) (S : nk_S) : Option (Int × nk_S) :=
  if l3 = 34 then
    ja_X13_goesBehind_b488 l0 l1 1 S
  else
    ja_X13_goesBehind_b488 l0 l1 0 S
theorem ja_X13_goesBehind_b475_ok (zs : List Int32) : ∀ (l0 : Nat) (l1 : Nat) (l3 : Int) (S : nk_S) (R : Int × nk_S), nk_cl ja_Tt l0 = some 13 → nk_cl ja_Tt l1 = some 12 → ja_X13_goesBehind_b475 l0 l1 l3 S = some R → nk_K ja_Tt mi_Γ (mi_ev zs) 1 127 475 [(0, nk_r l0), (1, nk_r l1), (3, nk_i l3)] [] S R := by
  intro l0 l1 l3 S R t_l0 t_l1 hr
  unfold ja_X13_goesBehind_b475 at hr
  refine nk_p (i := .aload_n 0) (len := 1) (pc' := 476) mJ_127 (by decide +kernel) (ns_aload_n 0 rfl rfl) rfl ?_
  refine nk_p (i := .aload_n 1) (len := 1) (pc' := 477) mJ_127 (by decide +kernel) (ns_aload_n 1 rfl rfl) rfl ?_
  refine nk_p (i := .iload_n 3) (len := 1) (pc' := 478) mJ_127 (by decide +kernel) (ns_iload_n 2 rfl rfl) rfl ?_
  refine nk_p (i := .bipush 34) (len := 2) (pc' := 480) mJ_127 (by decide +kernel) (ns_bipush (c := 34) (by decide +kernel)) rfl ?_
  refine nk_icmp (c := .ne) (off := 7) (len := 3) (t := 487) (pc' := 483) mJ_127 (by decide +kernel) (by decide +kernel) rfl (fun hc => ?_) (fun hc => ?_)
  · have hr := nk_ifn (c := l3 = 34) hc hr
    refine nk_p (i := .iconst 0) (len := 1) (pc' := 488) mJ_127 (by decide +kernel) (ns_iconst (c := 0) (by decide +kernel)) rfl ?_
    refine nk_sub [] (L' := []) rfl ?_
    exact ja_X13_goesBehind_b488_ok zs _ _ _ _ _ t_l0 t_l1 hr
  · have hr := nk_ifp (c := l3 = 34) (Decidable.of_not_not hc) hr
    refine nk_p (i := .iconst 1) (len := 1) (pc' := 484) mJ_127 (by decide +kernel) (ns_iconst (c := 1) (by decide +kernel)) rfl ?_
    refine nk_p (i := .goto 4) (len := 3) (pc' := 488) mJ_127 (by decide +kernel) (ns_goto (by decide +kernel)) rfl ?_
    refine nk_sub [] (L' := []) rfl ?_
    exact ja_X13_goesBehind_b488_ok zs _ _ _ _ _ t_l0 t_l1 hr
noncomputable def ja_X13_goesBehind_b507 (s0 : Nat) (s1 : Nat) (s2 : Int) (s3 : Int) (S : nk_S) : Option (Int × nk_S) :=
  nk_bd (ja_X13_fieldStep s0 s1 s2 s3 S) fun r1 S2 =>
  if r1 = 0 ∨ r1 = 1 then
  some (r1, S2)
  else none
theorem ja_X13_goesBehind_b507_ok (zs : List Int32) : ∀ (s0 : Nat) (s1 : Nat) (s2 : Int) (s3 : Int) (S : nk_S) (R : Int × nk_S), nk_cl ja_Tt s0 = some 13 → nk_cl ja_Tt s1 = some 12 → ja_X13_goesBehind_b507 s0 s1 s2 s3 S = some R → nk_K ja_Tt mi_Γ (mi_ev zs) 1 127 507 [] [nk_i s3, nk_i s2, nk_r s1, nk_r s0] S R := by
  intro s0 s1 s2 s3 S R t_s0 t_s1 hr
  unfold ja_X13_goesBehind_b507 at hr
  obtain ⟨r1, S2, h3, hr⟩ := nk_bde hr
  refine nk_callV (ci := 13) (n := 3) (x := 709) (len := 3) (j' := 123) (q' := 1) (r := r1) (S' := S2) (L2 := [(0, nk_r s0), (1, nk_r s1), (2, nk_i s2), (3, nk_i s3)]) (rest := []) (st' := [nk_i r1]) (pc' := 510) mJ_127 (by decide +kernel) (by decide +kernel) rfl rfl t_s0 (Nat.le_of_ble_eq_true rfl) mJ_123 (Nat.le_of_ble_eq_true rfl) rfl (ja_X13_fieldStep_ok zs _ _ _ _ _ _ t_s0 t_s1 h3) rfl ?_
  obtain ⟨h4, hr⟩ := nk_cke hr
  cases hr
  exact nk_iret (ty := .boolean) (len := 1) mJ_127 (by decide +kernel) rfl (nk_nar_z h4)
noncomputable def ja_X13_goesBehind_b492 (l0 : Nat) (l1 : Nat) (l3 : Int) (l4 : Int) (S : nk_S) : Option (Int × nk_S) :=
  if l3 = 36 then
    ja_X13_goesBehind_b507 l0 l1 l4 1 S
  else
    ja_X13_goesBehind_b507 l0 l1 l4 0 S
theorem ja_X13_goesBehind_b492_ok (zs : List Int32) : ∀ (l0 : Nat) (l1 : Nat) (l3 : Int) (l4 : Int) (S : nk_S) (R : Int × nk_S), nk_cl ja_Tt l0 = some 13 → nk_cl ja_Tt l1 = some 12 → ja_X13_goesBehind_b492 l0 l1 l3 l4 S = some R → nk_K ja_Tt mi_Γ (mi_ev zs) 1 127 492 [(0, nk_r l0), (1, nk_r l1), (3, nk_i l3), (4, nk_i l4)] [] S R := by
  intro l0 l1 l3 l4 S R t_l0 t_l1 hr
  unfold ja_X13_goesBehind_b492 at hr
  refine nk_p (i := .aload_n 0) (len := 1) (pc' := 493) mJ_127 (by decide +kernel) (ns_aload_n 0 rfl rfl) rfl ?_
  refine nk_p (i := .aload_n 1) (len := 1) (pc' := 494) mJ_127 (by decide +kernel) (ns_aload_n 1 rfl rfl) rfl ?_
  refine nk_p (i := .iload 4) (len := 2) (pc' := 496) mJ_127 (by decide +kernel) (ns_iload 3 rfl) rfl ?_
  refine nk_p (i := .iload_n 3) (len := 1) (pc' := 497) mJ_127 (by decide +kernel) (ns_iload_n 2 rfl rfl) rfl ?_
  refine nk_p (i := .bipush 36) (len := 2) (pc' := 499) mJ_127 (by decide +kernel) (ns_bipush (c := 36) (by decide +kernel)) rfl ?_
  refine nk_icmp (c := .ne) (off := 7) (len := 3) (t := 506) (pc' := 502) mJ_127 (by decide +kernel) (by decide +kernel) rfl (fun hc => ?_) (fun hc => ?_)
  · have hr := nk_ifn (c := l3 = 36) hc hr
    refine nk_p (i := .iconst 0) (len := 1) (pc' := 507) mJ_127 (by decide +kernel) (ns_iconst (c := 0) (by decide +kernel)) rfl ?_
    refine nk_sub [] (L' := []) rfl ?_
    exact ja_X13_goesBehind_b507_ok zs _ _ _ _ _ _ t_l0 t_l1 hr
  · have hr := nk_ifp (c := l3 = 36) (Decidable.of_not_not hc) hr
    refine nk_p (i := .iconst 1) (len := 1) (pc' := 503) mJ_127 (by decide +kernel) (ns_iconst (c := 1) (by decide +kernel)) rfl ?_
    refine nk_p (i := .goto 4) (len := 3) (pc' := 507) mJ_127 (by decide +kernel) (ns_goto (by decide +kernel)) rfl ?_
    refine nk_sub [] (L' := []) rfl ?_
    exact ja_X13_goesBehind_b507_ok zs _ _ _ _ _ _ t_l0 t_l1 hr
noncomputable def ja_X13_goesBehind_b526 (s0 : Nat) (s1 : Nat) (s2 : Int) (s3 : Int) (S : nk_S) : Option (Int × nk_S) :=
  nk_bd (ja_X13_ofType s0 s1 s2 s3 S) fun r1 S2 =>
  if r1 = 0 ∨ r1 = 1 then
  some (r1, S2)
  else none
theorem ja_X13_goesBehind_b526_ok (zs : List Int32) : ∀ (s0 : Nat) (s1 : Nat) (s2 : Int) (s3 : Int) (S : nk_S) (R : Int × nk_S), nk_cl ja_Tt s0 = some 13 → nk_cl ja_Tt s1 = some 12 → ja_X13_goesBehind_b526 s0 s1 s2 s3 S = some R → nk_K ja_Tt mi_Γ (mi_ev zs) 1 127 526 [] [nk_i s3, nk_i s2, nk_r s1, nk_r s0] S R := by
  intro s0 s1 s2 s3 S R t_s0 t_s1 hr
  unfold ja_X13_goesBehind_b526 at hr
  obtain ⟨r1, S2, h3, hr⟩ := nk_bde hr
  refine nk_callV (ci := 13) (n := 3) (x := 713) (len := 3) (j' := 202) (q' := 1) (r := r1) (S' := S2) (L2 := [(0, nk_r s0), (1, nk_r s1), (2, nk_i s2), (3, nk_i s3)]) (rest := []) (st' := [nk_i r1]) (pc' := 529) mJ_127 (by decide +kernel) (by decide +kernel) rfl rfl t_s0 (Nat.le_of_ble_eq_true rfl) mJ_202 (Nat.le_of_ble_eq_true rfl) rfl (ja_X13_ofType_ok zs _ _ _ _ _ _ t_s0 t_s1 h3) rfl ?_
  obtain ⟨h4, hr⟩ := nk_cke hr
  cases hr
  exact nk_iret (ty := .boolean) (len := 1) mJ_127 (by decide +kernel) rfl (nk_nar_z h4)
noncomputable def ja_X13_goesBehind_b511 (l0 : Nat) (l1 : Nat) (l3 : Int) (l4 : Int) (S : nk_S) : Option (Int × nk_S) :=
  if l3 = 37 then
    ja_X13_goesBehind_b526 l0 l1 l4 1 S
  else
    ja_X13_goesBehind_b526 l0 l1 l4 0 S
theorem ja_X13_goesBehind_b511_ok (zs : List Int32) : ∀ (l0 : Nat) (l1 : Nat) (l3 : Int) (l4 : Int) (S : nk_S) (R : Int × nk_S), nk_cl ja_Tt l0 = some 13 → nk_cl ja_Tt l1 = some 12 → ja_X13_goesBehind_b511 l0 l1 l3 l4 S = some R → nk_K ja_Tt mi_Γ (mi_ev zs) 1 127 511 [(0, nk_r l0), (1, nk_r l1), (3, nk_i l3), (4, nk_i l4)] [] S R := by
  intro l0 l1 l3 l4 S R t_l0 t_l1 hr
  unfold ja_X13_goesBehind_b511 at hr
  refine nk_p (i := .aload_n 0) (len := 1) (pc' := 512) mJ_127 (by decide +kernel) (ns_aload_n 0 rfl rfl) rfl ?_
  refine nk_p (i := .aload_n 1) (len := 1) (pc' := 513) mJ_127 (by decide +kernel) (ns_aload_n 1 rfl rfl) rfl ?_
  refine nk_p (i := .iload 4) (len := 2) (pc' := 515) mJ_127 (by decide +kernel) (ns_iload 3 rfl) rfl ?_
  refine nk_p (i := .iload_n 3) (len := 1) (pc' := 516) mJ_127 (by decide +kernel) (ns_iload_n 2 rfl rfl) rfl ?_
  refine nk_p (i := .bipush 37) (len := 2) (pc' := 518) mJ_127 (by decide +kernel) (ns_bipush (c := 37) (by decide +kernel)) rfl ?_
  refine nk_icmp (c := .ne) (off := 7) (len := 3) (t := 525) (pc' := 521) mJ_127 (by decide +kernel) (by decide +kernel) rfl (fun hc => ?_) (fun hc => ?_)
  · have hr := nk_ifn (c := l3 = 37) hc hr
    refine nk_p (i := .iconst 0) (len := 1) (pc' := 526) mJ_127 (by decide +kernel) (ns_iconst (c := 0) (by decide +kernel)) rfl ?_
    refine nk_sub [] (L' := []) rfl ?_
    exact ja_X13_goesBehind_b526_ok zs _ _ _ _ _ _ t_l0 t_l1 hr
  · have hr := nk_ifp (c := l3 = 37) (Decidable.of_not_not hc) hr
    refine nk_p (i := .iconst 1) (len := 1) (pc' := 522) mJ_127 (by decide +kernel) (ns_iconst (c := 1) (by decide +kernel)) rfl ?_
    refine nk_p (i := .goto 4) (len := 3) (pc' := 526) mJ_127 (by decide +kernel) (ns_goto (by decide +kernel)) rfl ?_
    refine nk_sub [] (L' := []) rfl ?_
    exact ja_X13_goesBehind_b526_ok zs _ _ _ _ _ _ t_l0 t_l1 hr
noncomputable def ja_X13_goesBehind_b545 (s0 : Nat) (s1 : Nat) (s2 : Int) (s3 : Int) (S : nk_S) : Option (Int × nk_S) :=
  nk_bd (ja_X13_call s0 s1 s2 s3 S) fun r1 S2 =>
  if r1 = 0 ∨ r1 = 1 then
  some (r1, S2)
  else none
theorem ja_X13_goesBehind_b545_ok (zs : List Int32) : ∀ (s0 : Nat) (s1 : Nat) (s2 : Int) (s3 : Int) (S : nk_S) (R : Int × nk_S), nk_cl ja_Tt s0 = some 13 → nk_cl ja_Tt s1 = some 12 → ja_X13_goesBehind_b545 s0 s1 s2 s3 S = some R → nk_K ja_Tt mi_Γ (mi_ev zs) 1 127 545 [] [nk_i s3, nk_i s2, nk_r s1, nk_r s0] S R := by
  intro s0 s1 s2 s3 S R t_s0 t_s1 hr
  unfold ja_X13_goesBehind_b545 at hr
  obtain ⟨r1, S2, h3, hr⟩ := nk_bde hr
  refine nk_callV (ci := 13) (n := 3) (x := 716) (len := 3) (j' := 93) (q' := 1) (r := r1) (S' := S2) (L2 := [(0, nk_r s0), (1, nk_r s1), (2, nk_i s2), (3, nk_i s3)]) (rest := []) (st' := [nk_i r1]) (pc' := 548) mJ_127 (by decide +kernel) (by decide +kernel) rfl rfl t_s0 (Nat.le_of_ble_eq_true rfl) mJ_93 (Nat.le_of_ble_eq_true rfl) rfl (ja_X13_call_ok zs _ _ _ _ _ _ t_s0 t_s1 h3) rfl ?_
  obtain ⟨h4, hr⟩ := nk_cke hr
  cases hr
  exact nk_iret (ty := .boolean) (len := 1) mJ_127 (by decide +kernel) rfl (nk_nar_z h4)
noncomputable def ja_X13_goesBehind_b530 (l0 : Nat) (l1 : Nat) (l3 : Int) (l4 : Int) (S : nk_S) : Option (Int × nk_S) :=
  if l3 = 40 then
    ja_X13_goesBehind_b545 l0 l1 l4 1 S
  else
    ja_X13_goesBehind_b545 l0 l1 l4 0 S
theorem ja_X13_goesBehind_b530_ok (zs : List Int32) : ∀ (l0 : Nat) (l1 : Nat) (l3 : Int) (l4 : Int) (S : nk_S) (R : Int × nk_S), nk_cl ja_Tt l0 = some 13 → nk_cl ja_Tt l1 = some 12 → ja_X13_goesBehind_b530 l0 l1 l3 l4 S = some R → nk_K ja_Tt mi_Γ (mi_ev zs) 1 127 530 [(0, nk_r l0), (1, nk_r l1), (3, nk_i l3), (4, nk_i l4)] [] S R := by
  intro l0 l1 l3 l4 S R t_l0 t_l1 hr
  unfold ja_X13_goesBehind_b530 at hr
  refine nk_p (i := .aload_n 0) (len := 1) (pc' := 531) mJ_127 (by decide +kernel) (ns_aload_n 0 rfl rfl) rfl ?_
  refine nk_p (i := .aload_n 1) (len := 1) (pc' := 532) mJ_127 (by decide +kernel) (ns_aload_n 1 rfl rfl) rfl ?_
  refine nk_p (i := .iload 4) (len := 2) (pc' := 534) mJ_127 (by decide +kernel) (ns_iload 3 rfl) rfl ?_
  refine nk_p (i := .iload_n 3) (len := 1) (pc' := 535) mJ_127 (by decide +kernel) (ns_iload_n 2 rfl rfl) rfl ?_
  refine nk_p (i := .bipush 40) (len := 2) (pc' := 537) mJ_127 (by decide +kernel) (ns_bipush (c := 40) (by decide +kernel)) rfl ?_
  refine nk_icmp (c := .ne) (off := 7) (len := 3) (t := 544) (pc' := 540) mJ_127 (by decide +kernel) (by decide +kernel) rfl (fun hc => ?_) (fun hc => ?_)
  · have hr := nk_ifn (c := l3 = 40) hc hr
    refine nk_p (i := .iconst 0) (len := 1) (pc' := 545) mJ_127 (by decide +kernel) (ns_iconst (c := 0) (by decide +kernel)) rfl ?_
    refine nk_sub [] (L' := []) rfl ?_
    exact ja_X13_goesBehind_b545_ok zs _ _ _ _ _ _ t_l0 t_l1 hr
  · have hr := nk_ifp (c := l3 = 40) (Decidable.of_not_not hc) hr
    refine nk_p (i := .iconst 1) (len := 1) (pc' := 541) mJ_127 (by decide +kernel) (ns_iconst (c := 1) (by decide +kernel)) rfl ?_
    refine nk_p (i := .goto 4) (len := 3) (pc' := 545) mJ_127 (by decide +kernel) (ns_goto (by decide +kernel)) rfl ?_
    refine nk_sub [] (L' := []) rfl ?_
    exact ja_X13_goesBehind_b545_ok zs _ _ _ _ _ _ t_l0 t_l1 hr
noncomputable def ja_X13_goesBehind_b579 (l0 : Nat) (S : nk_S) : Option (Int × nk_S) :=
  if 0 ≤ (nk_w ((S.1 l0 25) - 1)) ∧ (nk_w ((S.1 l0 25) - 1)) < 24 then
  nk_lt (nk_wi S l0 40 (nk_lor (S.1 l0 40) (nk_land (S.1 (ja_c l0 29) (nk_w ((S.1 l0 25) - 1)).toNat) (-4611686018427387905)))) fun S3 =>
  some (0, S3)
  else none
theorem ja_X13_goesBehind_b579_ok (zs : List Int32) : ∀ (l0 : Nat) (S : nk_S) (R : Int × nk_S), nk_cl ja_Tt l0 = some 13 → ja_X13_goesBehind_b579 l0 S = some R → nk_K ja_Tt mi_Γ (mi_ev zs) 1 127 579 [(0, nk_r l0)] [] S R := by
  intro l0 S R t_l0 hr
  unfold ja_X13_goesBehind_b579 at hr
  refine nk_p (i := .aload_n 0) (len := 1) (pc' := 580) mJ_127 (by decide +kernel) (ns_aload_n 0 rfl rfl) rfl ?_
  refine nk_p (i := .dup) (len := 1) (pc' := 581) mJ_127 (by decide +kernel) (ns_dup rfl) rfl ?_
  refine nk_getL (y := (0, 0)) (x := 628) (len := 3) (ci := 13) (k := 40) (pc' := 584) ja_okT mJ_127 (by decide +kernel) (by decide +kernel) (by decide +kernel) t_l0 rfl ?_
  refine nk_p (i := .aload_n 0) (len := 1) (pc' := 585) mJ_127 (by decide +kernel) (ns_aload_n 0 rfl rfl) rfl ?_
  refine nk_getC (f := (4, 2, 24)) (x := 80) (len := 3) (ci := 13) (k := 29) (pc' := 588) ja_okT mJ_127 (by decide +kernel) (by decide +kernel) (by decide +kernel) (by decide) t_l0 rfl ?_
  have t1 : nk_ar ja_Tt (ja_c l0 29) = some (2, 24) := nk_ta ja_okT t_l0 (by decide +kernel)
  refine nk_p (i := .aload_n 0) (len := 1) (pc' := 589) mJ_127 (by decide +kernel) (ns_aload_n 0 rfl rfl) rfl ?_
  refine nk_getI (y := (0, 0)) (x := 495) (len := 3) (ci := 13) (k := 25) (pc' := 592) ja_okT mJ_127 (by decide +kernel) (by decide +kernel) (by decide +kernel) t_l0 rfl ?_
  refine nk_p (i := .iconst 1) (len := 1) (pc' := 593) mJ_127 (by decide +kernel) (ns_iconst (c := 1) (by decide +kernel)) rfl ?_
  refine nk_p (i := .isub) (len := 1) (pc' := 594) mJ_127 (by decide +kernel) ns_isub rfl ?_
  obtain ⟨h2, hr⟩ := nk_cke hr
  refine nk_lald (len := 1) (N := 24) (pc' := 595) mJ_127 (by decide +kernel) t1 h2.1 h2.2 rfl rfl ?_
  refine nk_ldc2 (x := 658) (len := 3) (X := (-4611686018427387905)) (v := (-4611686018427387905)) (pc' := 598) mJ_127 (by decide +kernel) (by decide +kernel) (by decide +kernel) rfl ?_
  refine nk_p (i := .land) (len := 1) (pc' := 599) mJ_127 (by decide +kernel) ns_land rfl ?_
  refine nk_p (i := .lor) (len := 1) (pc' := 600) mJ_127 (by decide +kernel) ns_lor rfl ?_
  obtain ⟨S3, h4, hr⟩ := nk_lte hr
  refine nk_putL (y := (0, 0)) (x := 628) (len := 3) (ci := 13) (k := 40) (pc' := 603) ja_okT mJ_127 (by decide +kernel) (by decide +kernel) (by decide +kernel) t_l0 rfl h4 ?_
  refine nk_p (i := .iconst 0) (len := 1) (pc' := 604) mJ_127 (by decide +kernel) (ns_iconst (c := 0) (by decide +kernel)) rfl ?_
  cases hr
  exact nk_iret (ty := .boolean) (len := 1) mJ_127 (by decide +kernel) rfl (nk_nar_z (by decide))
noncomputable def ja_X13_goesBehind_b624 (s0 : Nat) (s1 : Nat) (s2 : Int) (s3 : Int) (S : nk_S) : Option (Int × nk_S) :=
  nk_bd (ja_X13_given s0 s1 s2 s3 S) fun r1 S2 =>
  if r1 = 0 ∨ r1 = 1 then
  some (r1, S2)
  else none
theorem ja_X13_goesBehind_b624_ok (zs : List Int32) : ∀ (s0 : Nat) (s1 : Nat) (s2 : Int) (s3 : Int) (S : nk_S) (R : Int × nk_S), nk_cl ja_Tt s0 = some 13 → nk_cl ja_Tt s1 = some 12 → ja_X13_goesBehind_b624 s0 s1 s2 s3 S = some R → nk_K ja_Tt mi_Γ (mi_ev zs) 1 127 624 [] [nk_i s3, nk_i s2, nk_r s1, nk_r s0] S R := by
  intro s0 s1 s2 s3 S R t_s0 t_s1 hr
  unfold ja_X13_goesBehind_b624 at hr
  obtain ⟨r1, S2, h3, hr⟩ := nk_bde hr
  refine nk_callV (ci := 13) (n := 3) (x := 719) (len := 3) (j' := 125) (q' := 1) (r := r1) (S' := S2) (L2 := [(0, nk_r s0), (1, nk_r s1), (2, nk_i s2), (3, nk_i s3)]) (rest := []) (st' := [nk_i r1]) (pc' := 627) mJ_127 (by decide +kernel) (by decide +kernel) rfl rfl t_s0 (Nat.le_of_ble_eq_true rfl) mJ_125 (Nat.le_of_ble_eq_true rfl) rfl (ja_X13_given_ok zs _ _ _ _ _ _ t_s0 t_s1 h3) rfl ?_
  obtain ⟨h4, hr⟩ := nk_cke hr
  cases hr
  exact nk_iret (ty := .boolean) (len := 1) mJ_127 (by decide +kernel) rfl (nk_nar_z h4)
noncomputable def ja_X13_goesBehind_b605 (l0 : Nat) (l1 : Nat) (l2 : Int) (l3 : Int) (S : nk_S) : Option (Int × nk_S) :=
  if 0 ≤ l2 ∧ l2 < 1024 then
  if l3 = 42 then
    ja_X13_goesBehind_b624 l0 l1 (S.1 (ja_c l1 25) l2.toNat) 1 S
  else
    ja_X13_goesBehind_b624 l0 l1 (S.1 (ja_c l1 25) l2.toNat) 0 S
  else none
theorem ja_X13_goesBehind_b605_ok (zs : List Int32) : ∀ (l0 : Nat) (l1 : Nat) (l2 : Int) (l3 : Int) (S : nk_S) (R : Int × nk_S), nk_cl ja_Tt l0 = some 13 → nk_cl ja_Tt l1 = some 12 → ja_X13_goesBehind_b605 l0 l1 l2 l3 S = some R → nk_K ja_Tt mi_Γ (mi_ev zs) 1 127 605 [(0, nk_r l0), (1, nk_r l1), (2, nk_i l2), (3, nk_i l3)] [] S R := by
  intro l0 l1 l2 l3 S R t_l0 t_l1 hr
  unfold ja_X13_goesBehind_b605 at hr
  refine nk_p (i := .aload_n 0) (len := 1) (pc' := 606) mJ_127 (by decide +kernel) (ns_aload_n 0 rfl rfl) rfl ?_
  refine nk_p (i := .aload_n 1) (len := 1) (pc' := 607) mJ_127 (by decide +kernel) (ns_aload_n 1 rfl rfl) rfl ?_
  refine nk_p (i := .aload_n 1) (len := 1) (pc' := 608) mJ_127 (by decide +kernel) (ns_aload_n 1 rfl rfl) rfl ?_
  refine nk_getC (f := (4, 1, 1024)) (x := 412) (len := 3) (ci := 12) (k := 25) (pc' := 611) ja_okT mJ_127 (by decide +kernel) (by decide +kernel) (by decide +kernel) (by decide) t_l1 rfl ?_
  have t1 : nk_ar ja_Tt (ja_c l1 25) = some (1, 1024) := nk_ta ja_okT t_l1 (by decide +kernel)
  refine nk_p (i := .iload_n 2) (len := 1) (pc' := 612) mJ_127 (by decide +kernel) (ns_iload_n 2 rfl rfl) rfl ?_
  obtain ⟨h2, hr⟩ := nk_cke hr
  refine nk_iald (len := 1) (N := 1024) (pc' := 613) mJ_127 (by decide +kernel) t1 h2.1 h2.2 rfl rfl ?_
  refine nk_p (i := .iload_n 3) (len := 1) (pc' := 614) mJ_127 (by decide +kernel) (ns_iload_n 3 rfl rfl) rfl ?_
  refine nk_p (i := .bipush 42) (len := 2) (pc' := 616) mJ_127 (by decide +kernel) (ns_bipush (c := 42) (by decide +kernel)) rfl ?_
  refine nk_icmp (c := .ne) (off := 7) (len := 3) (t := 623) (pc' := 619) mJ_127 (by decide +kernel) (by decide +kernel) rfl (fun hc => ?_) (fun hc => ?_)
  · have hr := nk_ifn (c := l3 = 42) hc hr
    refine nk_p (i := .iconst 0) (len := 1) (pc' := 624) mJ_127 (by decide +kernel) (ns_iconst (c := 0) (by decide +kernel)) rfl ?_
    refine nk_sub [] (L' := []) rfl ?_
    exact ja_X13_goesBehind_b624_ok zs _ _ _ _ _ _ t_l0 t_l1 hr
  · have hr := nk_ifp (c := l3 = 42) (Decidable.of_not_not hc) hr
    refine nk_p (i := .iconst 1) (len := 1) (pc' := 620) mJ_127 (by decide +kernel) (ns_iconst (c := 1) (by decide +kernel)) rfl ?_
    refine nk_p (i := .goto 4) (len := 3) (pc' := 624) mJ_127 (by decide +kernel) (ns_goto (by decide +kernel)) rfl ?_
    refine nk_sub [] (L' := []) rfl ?_
    exact ja_X13_goesBehind_b624_ok zs _ _ _ _ _ _ t_l0 t_l1 hr
noncomputable def ja_X13_goesBehind (l0 : Nat) (l1 : Nat) (l2 : Int) (S : nk_S) : Option (Int × nk_S) :=
  if 0 ≤ l2 ∧ l2 < 1024 then
  nk_lt (S.1 (ja_c l1 22) l2.toNat) fun v3 =>
  nk_lt (S.1 (ja_c l1 23) l2.toNat) fun v6 =>
  if v3 = 0 then
    nk_bd (ja_X13_leaveRange l0 l1 v6 v6 S) fun r8 S9 =>
    some (1, S9)
  else
  if v3 = 1 then
    nk_bd (ja_X13_leaveSites l0 4611686018427387904 S) fun r11 S12 =>
    some (1, S12)
  else
  if v3 = 2 then
    nk_bd (ja_X13_put l0 v6 (S.1 l0 25) S) fun r14 S15 =>
    if 0 ≤ (S15.1 l0 25) ∧ (S15.1 l0 25) < 24 then
    nk_lt (nk_wi S15 (ja_c l0 30) (S15.1 l0 25).toNat v6) fun S19 =>
    nk_lt (nk_wi S19 l0 25 (nk_w ((S19.1 l0 25) + 1))) fun S21 =>
    some (1, S21)
    else none
  else
  if v3 = 3 then
    nk_bd (ja_X13_changing l0 v6 S) fun r23 S24 =>
    nk_bd (ja_X13_put l0 (nk_w ((S24.1 l0 25) - 1)) v6 S24) fun r26 S27 =>
    if 0 ≤ v6 ∧ v6 < 24 then
    nk_lt (nk_wi S27 (ja_c l0 30) v6.toNat (-1)) fun S31 =>
    nk_lt (nk_wi S31 l0 25 (nk_w ((S31.1 l0 25) - 1))) fun S33 =>
    some (1, S33)
    else none
  else
  if v3 = 4 then
    nk_bd (ja_X13_changing l0 v6 S) fun r35 S36 =>
    if 0 ≤ v6 ∧ v6 < 24 then
    nk_bd (ja_X13_range l0 l1 v6 (nk_W ((S36.1 (ja_c l0 27) v6.toNat) + (S36.1 (ja_c l1 24) l2.toNat))) (nk_W ((S36.1 (ja_c l0 28) v6.toNat) + (S36.1 (ja_c l1 24) l2.toNat))) S36) fun r42 S43 =>
    some (1, S43)
    else none
  else
  if v3 = 5 then
    nk_bd (ja_X13_put l0 (nk_w ((S.1 l0 25) - 1)) (S.1 l0 25) S) fun r45 S46 =>
    nk_lt (nk_wi S46 l0 25 (nk_w ((S46.1 l0 25) + 1))) fun S48 =>
    some (1, S48)
  else
  if v3 = 6 then
    ja_X13_goesBehind_b441 l0 S
  else
  if v3 = 7 then
    nk_bd (ja_X13_put l0 (nk_w ((S.1 l0 25) - 1)) (S.1 l0 25) S) fun r50 S51 =>
    nk_bd (ja_X13_put l0 (nk_w ((S51.1 l0 25) - 2)) (nk_w ((S51.1 l0 25) - 1)) S51) fun r53 S54 =>
    nk_bd (ja_X13_put l0 (S54.1 l0 25) (nk_w ((S54.1 l0 25) - 2)) S54) fun r56 S57 =>
    some (1, S57)
  else
  if v3 = 8 then
    ja_X13_goesBehind_b630 l0 l1 v3 S
  else
  if v3 = 9 then
    ja_X13_goesBehind_b630 l0 l1 v3 S
  else
  if v3 = 10 then
    ja_X13_goesBehind_b630 l0 l1 v3 S
  else
  if v3 = 11 then
    ja_X13_goesBehind_b630 l0 l1 v3 S
  else
  if v3 = 12 then
    ja_X13_goesBehind_b630 l0 l1 v3 S
  else
  if v3 = 13 then
    ja_X13_goesBehind_b630 l0 l1 v3 S
  else
  if v3 = 14 then
    ja_X13_goesBehind_b630 l0 l1 v3 S
  else
  if v3 = 15 then
    ja_X13_goesBehind_b630 l0 l1 v3 S
  else
  if v3 = 16 then
    ja_X13_goesBehind_b630 l0 l1 v3 S
  else
  if v3 = 17 then
    ja_X13_goesBehind_b630 l0 l1 v3 S
  else
  if v3 = 18 then
    ja_X13_goesBehind_b630 l0 l1 v3 S
  else
  if v3 = 19 then
    some (1, S)
  else
  if v3 = 20 then
    ja_X13_goesBehind_b630 l0 l1 v3 S
  else
  if v3 = 21 then
    ja_X13_goesBehind_b630 l0 l1 v3 S
  else
  if v3 = 22 then
    ja_X13_goesBehind_b630 l0 l1 v3 S
  else
  if v3 = 23 then
    ja_X13_goesBehind_b630 l0 l1 v3 S
  else
  if v3 = 24 then
    ja_X13_goesBehind_b630 l0 l1 v3 S
  else
  if v3 = 25 then
    ja_X13_goesBehind_b630 l0 l1 v3 S
  else
  if v3 = 26 then
    ja_X13_goesBehind_b630 l0 l1 v3 S
  else
  if v3 = 27 then
    ja_X13_goesBehind_b630 l0 l1 v3 S
  else
  if v3 = 28 then
    ja_X13_goesBehind_b630 l0 l1 v3 S
  else
  if v3 = 29 then
    ja_X13_goesBehind_b630 l0 l1 v3 S
  else
  if v3 = 30 then
    nk_bd (ja_X13_made l0 l1 v6 S) fun r59 S60 =>
    if r59 = 0 ∨ r59 = 1 then
    some (r59, S60)
    else none
  else
  if v3 = 31 then
    nk_bd (ja_X13_madeArray l0 l1 v6 S) fun r63 S64 =>
    if r63 = 0 ∨ r63 = 1 then
    some (r63, S64)
    else none
  else
  if v3 = 32 then
    nk_bd (ja_X13_lengthOf l0 l1 S) fun r67 S68 =>
    if r67 = 0 ∨ r67 = 1 then
    some (r67, S68)
    else none
  else
  if v3 = 33 then
    ja_X13_goesBehind_b475 l0 l1 v3 S
  else
  if v3 = 34 then
    ja_X13_goesBehind_b475 l0 l1 v3 S
  else
  if v3 = 35 then
    ja_X13_goesBehind_b492 l0 l1 v3 v6 S
  else
  if v3 = 36 then
    ja_X13_goesBehind_b492 l0 l1 v3 v6 S
  else
  if v3 = 37 then
    ja_X13_goesBehind_b511 l0 l1 v3 v6 S
  else
  if v3 = 38 then
    ja_X13_goesBehind_b511 l0 l1 v3 v6 S
  else
  if v3 = 39 then
    ja_X13_goesBehind_b530 l0 l1 v3 v6 S
  else
  if v3 = 40 then
    ja_X13_goesBehind_b530 l0 l1 v3 v6 S
  else
  if v3 = 41 then
    if 0 ≤ (nk_w ((S.1 l0 25) - 1)) ∧ (nk_w ((S.1 l0 25) - 1)) < 24 then
    if (nk_land (S.1 (ja_c l0 29) (nk_w ((S.1 l0 25) - 1)).toNat) 4611686018427387904) = 0 then
      ja_X13_goesBehind_b579 l0 S
    else
      nk_lt (nk_wi S l0 39 (nk_ior (S.1 l0 39) 1)) fun S73 =>
      ja_X13_goesBehind_b579 l0 S73
    else none
  else
  if v3 = 42 then
    ja_X13_goesBehind_b605 l0 l1 l2 v3 S
  else
  if v3 = 43 then
    ja_X13_goesBehind_b605 l0 l1 l2 v3 S
  else
  if v3 = 44 then
    nk_bd (ja_X13_leaveRange l0 l1 (-2147483648) 2147483647 S) fun r75 S76 =>
    some (1, S76)
  else
  if v3 = 45 then
    ja_X13_goesBehind_b441 l0 S
  else
  ja_X13_goesBehind_b630 l0 l1 v3 S
  else none
theorem ja_X13_goesBehind_ok (zs : List Int32) : ∀ (l0 : Nat) (l1 : Nat) (l2 : Int) (S : nk_S) (R : Int × nk_S), nk_cl ja_Tt l0 = some 13 → nk_cl ja_Tt l1 = some 12 → ja_X13_goesBehind l0 l1 l2 S = some R → nk_K ja_Tt mi_Γ (mi_ev zs) 1 127 0 [(0, nk_r l0), (1, nk_r l1), (2, nk_i l2)] [] S R := by
  intro l0 l1 l2 S R t_l0 t_l1 hr
  unfold ja_X13_goesBehind at hr
  refine nk_p (i := .aload_n 1) (len := 1) (pc' := 1) mJ_127 (by decide +kernel) (ns_aload_n 1 rfl rfl) rfl ?_
  refine nk_getC (f := (4, 1, 1024)) (x := 391) (len := 3) (ci := 12) (k := 22) (pc' := 4) ja_okT mJ_127 (by decide +kernel) (by decide +kernel) (by decide +kernel) (by decide) t_l1 rfl ?_
  have t1 : nk_ar ja_Tt (ja_c l1 22) = some (1, 1024) := nk_ta ja_okT t_l1 (by decide +kernel)
  refine nk_p (i := .iload_n 2) (len := 1) (pc' := 5) mJ_127 (by decide +kernel) (ns_iload_n 2 rfl rfl) rfl ?_
  obtain ⟨h2, hr⟩ := nk_cke hr
  refine nk_iald (len := 1) (N := 1024) (pc' := 6) mJ_127 (by decide +kernel) t1 h2.1 h2.2 rfl rfl ?_
  obtain ⟨v3, h4, hr⟩ := nk_lte hr
  refine nk_p (i := .istore_n 3) (len := 1) (pc' := 7) mJ_127 (by decide +kernel) (ns_istore_n (L' := [(3, nk_i v3), (0, nk_r l0), (1, nk_r l1), (2, nk_i l2)]) h4 rfl rfl (by decide +kernel)) rfl ?_
  refine nk_p (i := .aload_n 1) (len := 1) (pc' := 8) mJ_127 (by decide +kernel) (ns_aload_n 2 rfl rfl) rfl ?_
  refine nk_getC (f := (4, 1, 1024)) (x := 414) (len := 3) (ci := 12) (k := 23) (pc' := 11) ja_okT mJ_127 (by decide +kernel) (by decide +kernel) (by decide +kernel) (by decide) t_l1 rfl ?_
  have t5 : nk_ar ja_Tt (ja_c l1 23) = some (1, 1024) := nk_ta ja_okT t_l1 (by decide +kernel)
  refine nk_p (i := .iload_n 2) (len := 1) (pc' := 12) mJ_127 (by decide +kernel) (ns_iload_n 3 rfl rfl) rfl ?_
  refine nk_iald (len := 1) (N := 1024) (pc' := 13) mJ_127 (by decide +kernel) t5 h2.1 h2.2 rfl rfl ?_
  obtain ⟨v6, h7, hr⟩ := nk_lte hr
  refine nk_p (i := .istore 4) (len := 2) (pc' := 15) mJ_127 (by decide +kernel) (ns_istore (L' := [(4, nk_i v6), (3, nk_i v3), (0, nk_r l0), (1, nk_r l1), (2, nk_i l2)]) h7 rfl (by decide +kernel)) rfl ?_
  refine nk_p (i := .iload_n 3) (len := 1) (pc' := 16) mJ_127 (by decide +kernel) (ns_iload_n 1 rfl rfl) rfl ?_
  by_cases hc0 : v3 = 0
  · have hr := nk_ifp hc0 hr
    refine nk_p (i := .tableswitch 614 0 45 #[200, 213, 235, 268, 306, 353, 425, 379, 614, 614, 614, 614, 614, 614, 614, 614, 614, 614, 614, 612, 614, 614, 614, 614, 614, 614, 614, 614, 614, 614, 437, 445, 453, 459, 459, 476, 476, 495, 495, 514, 514, 533, 589, 589, 222, 425]) (len := 200) (pc' := 216) mJ_127 (by decide +kernel) (ns_tsw (V := 0) hc0 (by decide +kernel)) rfl ?_
    refine nk_p (i := .aload_n 0) (len := 1) (pc' := 217) mJ_127 (by decide +kernel) (ns_aload_n 2 rfl rfl) rfl ?_
    refine nk_p (i := .aload_n 1) (len := 1) (pc' := 218) mJ_127 (by decide +kernel) (ns_aload_n 3 rfl rfl) rfl ?_
    refine nk_p (i := .iload 4) (len := 2) (pc' := 220) mJ_127 (by decide +kernel) (ns_iload 0 rfl) rfl ?_
    refine nk_p (i := .i2l) (len := 1) (pc' := 221) mJ_127 (by decide +kernel) ns_i2l rfl ?_
    refine nk_p (i := .iload 4) (len := 2) (pc' := 223) mJ_127 (by decide +kernel) (ns_iload 0 rfl) rfl ?_
    refine nk_p (i := .i2l) (len := 1) (pc' := 224) mJ_127 (by decide +kernel) ns_i2l rfl ?_
    obtain ⟨r8, S9, h10, hr⟩ := nk_bde hr
    refine nk_callV (ci := 13) (n := 3) (x := 684) (len := 3) (j' := 175) (q' := 0) (r := r8) (S' := S9) (L2 := [(0, nk_r l0), (1, nk_r l1), (2, nk_l v6), (4, nk_l v6)]) (rest := []) (st' := []) (pc' := 227) mJ_127 (by decide +kernel) (by decide +kernel) rfl rfl t_l0 (Nat.le_of_ble_eq_true rfl) mJ_175 (Nat.le_of_ble_eq_true rfl) rfl (ja_X13_leaveRange_ok zs _ _ _ _ _ _ t_l0 t_l1 h10) rfl ?_
    refine nk_p (i := .iconst 1) (len := 1) (pc' := 228) mJ_127 (by decide +kernel) (ns_iconst (c := 1) (by decide +kernel)) rfl ?_
    cases hr
    exact nk_iret (ty := .boolean) (len := 1) mJ_127 (by decide +kernel) rfl (nk_nar_z (by decide))
  have hr := nk_ifn hc0 hr
  by_cases hc1 : v3 = 1
  · have hr := nk_ifp hc1 hr
    refine nk_p (i := .tableswitch 614 0 45 #[200, 213, 235, 268, 306, 353, 425, 379, 614, 614, 614, 614, 614, 614, 614, 614, 614, 614, 614, 612, 614, 614, 614, 614, 614, 614, 614, 614, 614, 614, 437, 445, 453, 459, 459, 476, 476, 495, 495, 514, 514, 533, 589, 589, 222, 425]) (len := 200) (pc' := 229) mJ_127 (by decide +kernel) (ns_tsw (V := 1) hc1 (by decide +kernel)) rfl ?_
    refine nk_p (i := .aload_n 0) (len := 1) (pc' := 230) mJ_127 (by decide +kernel) (ns_aload_n 2 rfl rfl) rfl ?_
    refine nk_ldc2 (x := 599) (len := 3) (X := 4611686018427387904) (v := 4611686018427387904) (pc' := 233) mJ_127 (by decide +kernel) (by decide +kernel) (by decide +kernel) rfl ?_
    obtain ⟨r11, S12, h13, hr⟩ := nk_bde hr
    refine nk_callV (ci := 13) (n := 1) (x := 654) (len := 3) (j' := 176) (q' := 0) (r := r11) (S' := S12) (L2 := [(0, nk_r l0), (1, nk_l 4611686018427387904)]) (rest := []) (st' := []) (pc' := 236) mJ_127 (by decide +kernel) (by decide +kernel) rfl rfl t_l0 (Nat.le_of_ble_eq_true rfl) mJ_176 (Nat.le_of_ble_eq_true rfl) rfl (ja_X13_leaveSites_ok zs _ _ _ _ t_l0 h13) rfl ?_
    refine nk_p (i := .iconst 1) (len := 1) (pc' := 237) mJ_127 (by decide +kernel) (ns_iconst (c := 1) (by decide +kernel)) rfl ?_
    cases hr
    exact nk_iret (ty := .boolean) (len := 1) mJ_127 (by decide +kernel) rfl (nk_nar_z (by decide))
  have hr := nk_ifn hc1 hr
  by_cases hc2 : v3 = 2
  · have hr := nk_ifp hc2 hr
    refine nk_p (i := .tableswitch 614 0 45 #[200, 213, 235, 268, 306, 353, 425, 379, 614, 614, 614, 614, 614, 614, 614, 614, 614, 614, 614, 612, 614, 614, 614, 614, 614, 614, 614, 614, 614, 614, 437, 445, 453, 459, 459, 476, 476, 495, 495, 514, 514, 533, 589, 589, 222, 425]) (len := 200) (pc' := 251) mJ_127 (by decide +kernel) (ns_tsw (V := 2) hc2 (by decide +kernel)) rfl ?_
    refine nk_p (i := .aload_n 0) (len := 1) (pc' := 252) mJ_127 (by decide +kernel) (ns_aload_n 2 rfl rfl) rfl ?_
    refine nk_p (i := .iload 4) (len := 2) (pc' := 254) mJ_127 (by decide +kernel) (ns_iload 0 rfl) rfl ?_
    refine nk_p (i := .aload_n 0) (len := 1) (pc' := 255) mJ_127 (by decide +kernel) (ns_aload_n 2 rfl rfl) rfl ?_
    refine nk_getI (y := (0, 0)) (x := 495) (len := 3) (ci := 13) (k := 25) (pc' := 258) ja_okT mJ_127 (by decide +kernel) (by decide +kernel) (by decide +kernel) t_l0 rfl ?_
    obtain ⟨r14, S15, h16, hr⟩ := nk_bde hr
    refine nk_callV (ci := 13) (n := 2) (x := 688) (len := 3) (j' := 212) (q' := 0) (r := r14) (S' := S15) (L2 := [(0, nk_r l0), (1, nk_i v6), (2, nk_i (S.1 l0 25))]) (rest := []) (st' := []) (pc' := 261) mJ_127 (by decide +kernel) (by decide +kernel) rfl rfl t_l0 (Nat.le_of_ble_eq_true rfl) mJ_212 (Nat.le_of_ble_eq_true rfl) rfl (ja_X13_put_ok zs _ _ _ _ _ t_l0 h16) rfl ?_
    refine nk_p (i := .aload_n 0) (len := 1) (pc' := 262) mJ_127 (by decide +kernel) (ns_aload_n 2 rfl rfl) rfl ?_
    refine nk_getC (f := (4, 1, 24)) (x := 84) (len := 3) (ci := 13) (k := 30) (pc' := 265) ja_okT mJ_127 (by decide +kernel) (by decide +kernel) (by decide +kernel) (by decide) t_l0 rfl ?_
    have t17 : nk_ar ja_Tt (ja_c l0 30) = some (1, 24) := nk_ta ja_okT t_l0 (by decide +kernel)
    refine nk_p (i := .aload_n 0) (len := 1) (pc' := 266) mJ_127 (by decide +kernel) (ns_aload_n 2 rfl rfl) rfl ?_
    refine nk_getI (y := (0, 0)) (x := 495) (len := 3) (ci := 13) (k := 25) (pc' := 269) ja_okT mJ_127 (by decide +kernel) (by decide +kernel) (by decide +kernel) t_l0 rfl ?_
    refine nk_p (i := .iload 4) (len := 2) (pc' := 271) mJ_127 (by decide +kernel) (ns_iload 0 rfl) rfl ?_
    obtain ⟨h18, hr⟩ := nk_cke hr
    obtain ⟨S19, h20, hr⟩ := nk_lte hr
    refine nk_iast (len := 1) (N := 24) (pc' := 272) mJ_127 (by decide +kernel) t17 h18.1 h18.2 rfl rfl h20 ?_
    refine nk_p (i := .aload_n 0) (len := 1) (pc' := 273) mJ_127 (by decide +kernel) (ns_aload_n 2 rfl rfl) rfl ?_
    refine nk_p (i := .dup) (len := 1) (pc' := 274) mJ_127 (by decide +kernel) (ns_dup rfl) rfl ?_
    refine nk_getI (y := (0, 0)) (x := 495) (len := 3) (ci := 13) (k := 25) (pc' := 277) ja_okT mJ_127 (by decide +kernel) (by decide +kernel) (by decide +kernel) t_l0 rfl ?_
    refine nk_p (i := .iconst 1) (len := 1) (pc' := 278) mJ_127 (by decide +kernel) (ns_iconst (c := 1) (by decide +kernel)) rfl ?_
    refine nk_p (i := .iadd) (len := 1) (pc' := 279) mJ_127 (by decide +kernel) ns_iadd rfl ?_
    obtain ⟨S21, h22, hr⟩ := nk_lte hr
    refine nk_putI (y := (0, 0)) (ty := .int) (x := 495) (len := 3) (ci := 13) (k := 25) (pc' := 282) ja_okT mJ_127 (by decide +kernel) (by decide +kernel) (by decide +kernel) t_l0 (Or.inl rfl) rfl h22 ?_
    refine nk_p (i := .iconst 1) (len := 1) (pc' := 283) mJ_127 (by decide +kernel) (ns_iconst (c := 1) (by decide +kernel)) rfl ?_
    cases hr
    exact nk_iret (ty := .boolean) (len := 1) mJ_127 (by decide +kernel) rfl (nk_nar_z (by decide))
  have hr := nk_ifn hc2 hr
  by_cases hc3 : v3 = 3
  · have hr := nk_ifp hc3 hr
    refine nk_p (i := .tableswitch 614 0 45 #[200, 213, 235, 268, 306, 353, 425, 379, 614, 614, 614, 614, 614, 614, 614, 614, 614, 614, 614, 612, 614, 614, 614, 614, 614, 614, 614, 614, 614, 614, 437, 445, 453, 459, 459, 476, 476, 495, 495, 514, 514, 533, 589, 589, 222, 425]) (len := 200) (pc' := 284) mJ_127 (by decide +kernel) (ns_tsw (V := 3) hc3 (by decide +kernel)) rfl ?_
    refine nk_p (i := .aload_n 0) (len := 1) (pc' := 285) mJ_127 (by decide +kernel) (ns_aload_n 2 rfl rfl) rfl ?_
    refine nk_p (i := .iload 4) (len := 2) (pc' := 287) mJ_127 (by decide +kernel) (ns_iload 0 rfl) rfl ?_
    obtain ⟨r23, S24, h25, hr⟩ := nk_bde hr
    refine nk_callV (ci := 13) (n := 1) (x := 692) (len := 3) (j' := 96) (q' := 0) (r := r23) (S' := S24) (L2 := [(0, nk_r l0), (1, nk_i v6)]) (rest := []) (st' := []) (pc' := 290) mJ_127 (by decide +kernel) (by decide +kernel) rfl rfl t_l0 (Nat.le_of_ble_eq_true rfl) mJ_96 (Nat.le_of_ble_eq_true rfl) rfl (ja_X13_changing_ok zs _ _ _ _ t_l0 h25) rfl ?_
    refine nk_p (i := .aload_n 0) (len := 1) (pc' := 291) mJ_127 (by decide +kernel) (ns_aload_n 2 rfl rfl) rfl ?_
    refine nk_p (i := .aload_n 0) (len := 1) (pc' := 292) mJ_127 (by decide +kernel) (ns_aload_n 2 rfl rfl) rfl ?_
    refine nk_getI (y := (0, 0)) (x := 495) (len := 3) (ci := 13) (k := 25) (pc' := 295) ja_okT mJ_127 (by decide +kernel) (by decide +kernel) (by decide +kernel) t_l0 rfl ?_
    refine nk_p (i := .iconst 1) (len := 1) (pc' := 296) mJ_127 (by decide +kernel) (ns_iconst (c := 1) (by decide +kernel)) rfl ?_
    refine nk_p (i := .isub) (len := 1) (pc' := 297) mJ_127 (by decide +kernel) ns_isub rfl ?_
    refine nk_p (i := .iload 4) (len := 2) (pc' := 299) mJ_127 (by decide +kernel) (ns_iload 0 rfl) rfl ?_
    obtain ⟨r26, S27, h28, hr⟩ := nk_bde hr
    refine nk_callV (ci := 13) (n := 2) (x := 688) (len := 3) (j' := 212) (q' := 0) (r := r26) (S' := S27) (L2 := [(0, nk_r l0), (1, nk_i (nk_w ((S24.1 l0 25) - 1))), (2, nk_i v6)]) (rest := []) (st' := []) (pc' := 302) mJ_127 (by decide +kernel) (by decide +kernel) rfl rfl t_l0 (Nat.le_of_ble_eq_true rfl) mJ_212 (Nat.le_of_ble_eq_true rfl) rfl (ja_X13_put_ok zs _ _ _ _ _ t_l0 h28) rfl ?_
    refine nk_p (i := .aload_n 0) (len := 1) (pc' := 303) mJ_127 (by decide +kernel) (ns_aload_n 2 rfl rfl) rfl ?_
    refine nk_getC (f := (4, 1, 24)) (x := 84) (len := 3) (ci := 13) (k := 30) (pc' := 306) ja_okT mJ_127 (by decide +kernel) (by decide +kernel) (by decide +kernel) (by decide) t_l0 rfl ?_
    have t29 : nk_ar ja_Tt (ja_c l0 30) = some (1, 24) := nk_ta ja_okT t_l0 (by decide +kernel)
    refine nk_p (i := .iload 4) (len := 2) (pc' := 308) mJ_127 (by decide +kernel) (ns_iload 0 rfl) rfl ?_
    refine nk_p (i := .iconst (-1)) (len := 1) (pc' := 309) mJ_127 (by decide +kernel) (ns_iconst (c := (-1)) (by decide +kernel)) rfl ?_
    obtain ⟨h30, hr⟩ := nk_cke hr
    obtain ⟨S31, h32, hr⟩ := nk_lte hr
    refine nk_iast (len := 1) (N := 24) (pc' := 310) mJ_127 (by decide +kernel) t29 h30.1 h30.2 rfl rfl h32 ?_
    refine nk_p (i := .aload_n 0) (len := 1) (pc' := 311) mJ_127 (by decide +kernel) (ns_aload_n 2 rfl rfl) rfl ?_
    refine nk_p (i := .dup) (len := 1) (pc' := 312) mJ_127 (by decide +kernel) (ns_dup rfl) rfl ?_
    refine nk_getI (y := (0, 0)) (x := 495) (len := 3) (ci := 13) (k := 25) (pc' := 315) ja_okT mJ_127 (by decide +kernel) (by decide +kernel) (by decide +kernel) t_l0 rfl ?_
    refine nk_p (i := .iconst 1) (len := 1) (pc' := 316) mJ_127 (by decide +kernel) (ns_iconst (c := 1) (by decide +kernel)) rfl ?_
    refine nk_p (i := .isub) (len := 1) (pc' := 317) mJ_127 (by decide +kernel) ns_isub rfl ?_
    obtain ⟨S33, h34, hr⟩ := nk_lte hr
    refine nk_putI (y := (0, 0)) (ty := .int) (x := 495) (len := 3) (ci := 13) (k := 25) (pc' := 320) ja_okT mJ_127 (by decide +kernel) (by decide +kernel) (by decide +kernel) t_l0 (Or.inl rfl) rfl h34 ?_
    refine nk_p (i := .iconst 1) (len := 1) (pc' := 321) mJ_127 (by decide +kernel) (ns_iconst (c := 1) (by decide +kernel)) rfl ?_
    cases hr
    exact nk_iret (ty := .boolean) (len := 1) mJ_127 (by decide +kernel) rfl (nk_nar_z (by decide))
  have hr := nk_ifn hc3 hr
  by_cases hc4 : v3 = 4
  · have hr := nk_ifp hc4 hr
    refine nk_p (i := .tableswitch 614 0 45 #[200, 213, 235, 268, 306, 353, 425, 379, 614, 614, 614, 614, 614, 614, 614, 614, 614, 614, 614, 612, 614, 614, 614, 614, 614, 614, 614, 614, 614, 614, 437, 445, 453, 459, 459, 476, 476, 495, 495, 514, 514, 533, 589, 589, 222, 425]) (len := 200) (pc' := 322) mJ_127 (by decide +kernel) (ns_tsw (V := 4) hc4 (by decide +kernel)) rfl ?_
    refine nk_p (i := .aload_n 0) (len := 1) (pc' := 323) mJ_127 (by decide +kernel) (ns_aload_n 2 rfl rfl) rfl ?_
    refine nk_p (i := .iload 4) (len := 2) (pc' := 325) mJ_127 (by decide +kernel) (ns_iload 0 rfl) rfl ?_
    obtain ⟨r35, S36, h37, hr⟩ := nk_bde hr
    refine nk_callV (ci := 13) (n := 1) (x := 692) (len := 3) (j' := 96) (q' := 0) (r := r35) (S' := S36) (L2 := [(0, nk_r l0), (1, nk_i v6)]) (rest := []) (st' := []) (pc' := 328) mJ_127 (by decide +kernel) (by decide +kernel) rfl rfl t_l0 (Nat.le_of_ble_eq_true rfl) mJ_96 (Nat.le_of_ble_eq_true rfl) rfl (ja_X13_changing_ok zs _ _ _ _ t_l0 h37) rfl ?_
    refine nk_p (i := .aload_n 0) (len := 1) (pc' := 329) mJ_127 (by decide +kernel) (ns_aload_n 2 rfl rfl) rfl ?_
    refine nk_p (i := .aload_n 1) (len := 1) (pc' := 330) mJ_127 (by decide +kernel) (ns_aload_n 3 rfl rfl) rfl ?_
    refine nk_p (i := .iload 4) (len := 2) (pc' := 332) mJ_127 (by decide +kernel) (ns_iload 0 rfl) rfl ?_
    refine nk_p (i := .aload_n 0) (len := 1) (pc' := 333) mJ_127 (by decide +kernel) (ns_aload_n 2 rfl rfl) rfl ?_
    refine nk_getC (f := (4, 1, 24)) (x := 74) (len := 3) (ci := 13) (k := 27) (pc' := 336) ja_okT mJ_127 (by decide +kernel) (by decide +kernel) (by decide +kernel) (by decide) t_l0 rfl ?_
    have t38 : nk_ar ja_Tt (ja_c l0 27) = some (1, 24) := nk_ta ja_okT t_l0 (by decide +kernel)
    refine nk_p (i := .iload 4) (len := 2) (pc' := 338) mJ_127 (by decide +kernel) (ns_iload 0 rfl) rfl ?_
    obtain ⟨h39, hr⟩ := nk_cke hr
    refine nk_iald (len := 1) (N := 24) (pc' := 339) mJ_127 (by decide +kernel) t38 h39.1 h39.2 rfl rfl ?_
    refine nk_p (i := .i2l) (len := 1) (pc' := 340) mJ_127 (by decide +kernel) ns_i2l rfl ?_
    refine nk_p (i := .aload_n 1) (len := 1) (pc' := 341) mJ_127 (by decide +kernel) (ns_aload_n 3 rfl rfl) rfl ?_
    refine nk_getC (f := (4, 1, 1024)) (x := 417) (len := 3) (ci := 12) (k := 24) (pc' := 344) ja_okT mJ_127 (by decide +kernel) (by decide +kernel) (by decide +kernel) (by decide) t_l1 rfl ?_
    have t40 : nk_ar ja_Tt (ja_c l1 24) = some (1, 1024) := nk_ta ja_okT t_l1 (by decide +kernel)
    refine nk_p (i := .iload_n 2) (len := 1) (pc' := 345) mJ_127 (by decide +kernel) (ns_iload_n 4 rfl rfl) rfl ?_
    refine nk_iald (len := 1) (N := 1024) (pc' := 346) mJ_127 (by decide +kernel) t40 h2.1 h2.2 rfl rfl ?_
    refine nk_p (i := .i2l) (len := 1) (pc' := 347) mJ_127 (by decide +kernel) ns_i2l rfl ?_
    refine nk_p (i := .ladd) (len := 1) (pc' := 348) mJ_127 (by decide +kernel) ns_ladd rfl ?_
    refine nk_p (i := .aload_n 0) (len := 1) (pc' := 349) mJ_127 (by decide +kernel) (ns_aload_n 2 rfl rfl) rfl ?_
    refine nk_getC (f := (4, 1, 24)) (x := 77) (len := 3) (ci := 13) (k := 28) (pc' := 352) ja_okT mJ_127 (by decide +kernel) (by decide +kernel) (by decide +kernel) (by decide) t_l0 rfl ?_
    have t41 : nk_ar ja_Tt (ja_c l0 28) = some (1, 24) := nk_ta ja_okT t_l0 (by decide +kernel)
    refine nk_p (i := .iload 4) (len := 2) (pc' := 354) mJ_127 (by decide +kernel) (ns_iload 0 rfl) rfl ?_
    refine nk_iald (len := 1) (N := 24) (pc' := 355) mJ_127 (by decide +kernel) t41 h39.1 h39.2 rfl rfl ?_
    refine nk_p (i := .i2l) (len := 1) (pc' := 356) mJ_127 (by decide +kernel) ns_i2l rfl ?_
    refine nk_p (i := .aload_n 1) (len := 1) (pc' := 357) mJ_127 (by decide +kernel) (ns_aload_n 3 rfl rfl) rfl ?_
    refine nk_getC (f := (4, 1, 1024)) (x := 417) (len := 3) (ci := 12) (k := 24) (pc' := 360) ja_okT mJ_127 (by decide +kernel) (by decide +kernel) (by decide +kernel) (by decide) t_l1 rfl ?_
    refine nk_p (i := .iload_n 2) (len := 1) (pc' := 361) mJ_127 (by decide +kernel) (ns_iload_n 4 rfl rfl) rfl ?_
    refine nk_iald (len := 1) (N := 1024) (pc' := 362) mJ_127 (by decide +kernel) t40 h2.1 h2.2 rfl rfl ?_
    refine nk_p (i := .i2l) (len := 1) (pc' := 363) mJ_127 (by decide +kernel) ns_i2l rfl ?_
    refine nk_p (i := .ladd) (len := 1) (pc' := 364) mJ_127 (by decide +kernel) ns_ladd rfl ?_
    obtain ⟨r42, S43, h44, hr⟩ := nk_bde hr
    refine nk_callV (ci := 13) (n := 4) (x := 572) (len := 3) (j' := 216) (q' := 0) (r := r42) (S' := S43) (L2 := [(0, nk_r l0), (1, nk_r l1), (2, nk_i v6), (3, nk_l (nk_W ((S36.1 (ja_c l0 27) v6.toNat) + (S36.1 (ja_c l1 24) l2.toNat)))), (5, nk_l (nk_W ((S36.1 (ja_c l0 28) v6.toNat) + (S36.1 (ja_c l1 24) l2.toNat))))]) (rest := []) (st' := []) (pc' := 367) mJ_127 (by decide +kernel) (by decide +kernel) rfl rfl t_l0 (Nat.le_of_ble_eq_true rfl) mJ_216 (Nat.le_of_ble_eq_true rfl) rfl (ja_X13_range_ok zs _ _ _ _ _ _ _ t_l0 t_l1 h44) rfl ?_
    refine nk_p (i := .iconst 1) (len := 1) (pc' := 368) mJ_127 (by decide +kernel) (ns_iconst (c := 1) (by decide +kernel)) rfl ?_
    cases hr
    exact nk_iret (ty := .boolean) (len := 1) mJ_127 (by decide +kernel) rfl (nk_nar_z (by decide))
  have hr := nk_ifn hc4 hr
  by_cases hc5 : v3 = 5
  · have hr := nk_ifp hc5 hr
    refine nk_p (i := .tableswitch 614 0 45 #[200, 213, 235, 268, 306, 353, 425, 379, 614, 614, 614, 614, 614, 614, 614, 614, 614, 614, 614, 612, 614, 614, 614, 614, 614, 614, 614, 614, 614, 614, 437, 445, 453, 459, 459, 476, 476, 495, 495, 514, 514, 533, 589, 589, 222, 425]) (len := 200) (pc' := 369) mJ_127 (by decide +kernel) (ns_tsw (V := 5) hc5 (by decide +kernel)) rfl ?_
    refine nk_p (i := .aload_n 0) (len := 1) (pc' := 370) mJ_127 (by decide +kernel) (ns_aload_n 2 rfl rfl) rfl ?_
    refine nk_p (i := .aload_n 0) (len := 1) (pc' := 371) mJ_127 (by decide +kernel) (ns_aload_n 2 rfl rfl) rfl ?_
    refine nk_getI (y := (0, 0)) (x := 495) (len := 3) (ci := 13) (k := 25) (pc' := 374) ja_okT mJ_127 (by decide +kernel) (by decide +kernel) (by decide +kernel) t_l0 rfl ?_
    refine nk_p (i := .iconst 1) (len := 1) (pc' := 375) mJ_127 (by decide +kernel) (ns_iconst (c := 1) (by decide +kernel)) rfl ?_
    refine nk_p (i := .isub) (len := 1) (pc' := 376) mJ_127 (by decide +kernel) ns_isub rfl ?_
    refine nk_p (i := .aload_n 0) (len := 1) (pc' := 377) mJ_127 (by decide +kernel) (ns_aload_n 2 rfl rfl) rfl ?_
    refine nk_getI (y := (0, 0)) (x := 495) (len := 3) (ci := 13) (k := 25) (pc' := 380) ja_okT mJ_127 (by decide +kernel) (by decide +kernel) (by decide +kernel) t_l0 rfl ?_
    obtain ⟨r45, S46, h47, hr⟩ := nk_bde hr
    refine nk_callV (ci := 13) (n := 2) (x := 688) (len := 3) (j' := 212) (q' := 0) (r := r45) (S' := S46) (L2 := [(0, nk_r l0), (1, nk_i (nk_w ((S.1 l0 25) - 1))), (2, nk_i (S.1 l0 25))]) (rest := []) (st' := []) (pc' := 383) mJ_127 (by decide +kernel) (by decide +kernel) rfl rfl t_l0 (Nat.le_of_ble_eq_true rfl) mJ_212 (Nat.le_of_ble_eq_true rfl) rfl (ja_X13_put_ok zs _ _ _ _ _ t_l0 h47) rfl ?_
    refine nk_p (i := .aload_n 0) (len := 1) (pc' := 384) mJ_127 (by decide +kernel) (ns_aload_n 2 rfl rfl) rfl ?_
    refine nk_p (i := .dup) (len := 1) (pc' := 385) mJ_127 (by decide +kernel) (ns_dup rfl) rfl ?_
    refine nk_getI (y := (0, 0)) (x := 495) (len := 3) (ci := 13) (k := 25) (pc' := 388) ja_okT mJ_127 (by decide +kernel) (by decide +kernel) (by decide +kernel) t_l0 rfl ?_
    refine nk_p (i := .iconst 1) (len := 1) (pc' := 389) mJ_127 (by decide +kernel) (ns_iconst (c := 1) (by decide +kernel)) rfl ?_
    refine nk_p (i := .iadd) (len := 1) (pc' := 390) mJ_127 (by decide +kernel) ns_iadd rfl ?_
    obtain ⟨S48, h49, hr⟩ := nk_lte hr
    refine nk_putI (y := (0, 0)) (ty := .int) (x := 495) (len := 3) (ci := 13) (k := 25) (pc' := 393) ja_okT mJ_127 (by decide +kernel) (by decide +kernel) (by decide +kernel) t_l0 (Or.inl rfl) rfl h49 ?_
    refine nk_p (i := .iconst 1) (len := 1) (pc' := 394) mJ_127 (by decide +kernel) (ns_iconst (c := 1) (by decide +kernel)) rfl ?_
    cases hr
    exact nk_iret (ty := .boolean) (len := 1) mJ_127 (by decide +kernel) rfl (nk_nar_z (by decide))
  have hr := nk_ifn hc5 hr
  by_cases hc6 : v3 = 6
  · have hr := nk_ifp hc6 hr
    refine nk_p (i := .tableswitch 614 0 45 #[200, 213, 235, 268, 306, 353, 425, 379, 614, 614, 614, 614, 614, 614, 614, 614, 614, 614, 614, 612, 614, 614, 614, 614, 614, 614, 614, 614, 614, 614, 437, 445, 453, 459, 459, 476, 476, 495, 495, 514, 514, 533, 589, 589, 222, 425]) (len := 200) (pc' := 441) mJ_127 (by decide +kernel) (ns_tsw (V := 6) hc6 (by decide +kernel)) rfl ?_
    refine nk_sub [2] (L' := [(0, nk_r l0)]) rfl ?_
    exact ja_X13_goesBehind_b441_ok zs _ _ _ t_l0 hr
  have hr := nk_ifn hc6 hr
  by_cases hc7 : v3 = 7
  · have hr := nk_ifp hc7 hr
    refine nk_p (i := .tableswitch 614 0 45 #[200, 213, 235, 268, 306, 353, 425, 379, 614, 614, 614, 614, 614, 614, 614, 614, 614, 614, 614, 612, 614, 614, 614, 614, 614, 614, 614, 614, 614, 614, 437, 445, 453, 459, 459, 476, 476, 495, 495, 514, 514, 533, 589, 589, 222, 425]) (len := 200) (pc' := 395) mJ_127 (by decide +kernel) (ns_tsw (V := 7) hc7 (by decide +kernel)) rfl ?_
    refine nk_p (i := .aload_n 0) (len := 1) (pc' := 396) mJ_127 (by decide +kernel) (ns_aload_n 2 rfl rfl) rfl ?_
    refine nk_p (i := .aload_n 0) (len := 1) (pc' := 397) mJ_127 (by decide +kernel) (ns_aload_n 2 rfl rfl) rfl ?_
    refine nk_getI (y := (0, 0)) (x := 495) (len := 3) (ci := 13) (k := 25) (pc' := 400) ja_okT mJ_127 (by decide +kernel) (by decide +kernel) (by decide +kernel) t_l0 rfl ?_
    refine nk_p (i := .iconst 1) (len := 1) (pc' := 401) mJ_127 (by decide +kernel) (ns_iconst (c := 1) (by decide +kernel)) rfl ?_
    refine nk_p (i := .isub) (len := 1) (pc' := 402) mJ_127 (by decide +kernel) ns_isub rfl ?_
    refine nk_p (i := .aload_n 0) (len := 1) (pc' := 403) mJ_127 (by decide +kernel) (ns_aload_n 2 rfl rfl) rfl ?_
    refine nk_getI (y := (0, 0)) (x := 495) (len := 3) (ci := 13) (k := 25) (pc' := 406) ja_okT mJ_127 (by decide +kernel) (by decide +kernel) (by decide +kernel) t_l0 rfl ?_
    obtain ⟨r50, S51, h52, hr⟩ := nk_bde hr
    refine nk_callV (ci := 13) (n := 2) (x := 688) (len := 3) (j' := 212) (q' := 0) (r := r50) (S' := S51) (L2 := [(0, nk_r l0), (1, nk_i (nk_w ((S.1 l0 25) - 1))), (2, nk_i (S.1 l0 25))]) (rest := []) (st' := []) (pc' := 409) mJ_127 (by decide +kernel) (by decide +kernel) rfl rfl t_l0 (Nat.le_of_ble_eq_true rfl) mJ_212 (Nat.le_of_ble_eq_true rfl) rfl (ja_X13_put_ok zs _ _ _ _ _ t_l0 h52) rfl ?_
    refine nk_p (i := .aload_n 0) (len := 1) (pc' := 410) mJ_127 (by decide +kernel) (ns_aload_n 2 rfl rfl) rfl ?_
    refine nk_p (i := .aload_n 0) (len := 1) (pc' := 411) mJ_127 (by decide +kernel) (ns_aload_n 2 rfl rfl) rfl ?_
    refine nk_getI (y := (0, 0)) (x := 495) (len := 3) (ci := 13) (k := 25) (pc' := 414) ja_okT mJ_127 (by decide +kernel) (by decide +kernel) (by decide +kernel) t_l0 rfl ?_
    refine nk_p (i := .iconst 2) (len := 1) (pc' := 415) mJ_127 (by decide +kernel) (ns_iconst (c := 2) (by decide +kernel)) rfl ?_
    refine nk_p (i := .isub) (len := 1) (pc' := 416) mJ_127 (by decide +kernel) ns_isub rfl ?_
    refine nk_p (i := .aload_n 0) (len := 1) (pc' := 417) mJ_127 (by decide +kernel) (ns_aload_n 2 rfl rfl) rfl ?_
    refine nk_getI (y := (0, 0)) (x := 495) (len := 3) (ci := 13) (k := 25) (pc' := 420) ja_okT mJ_127 (by decide +kernel) (by decide +kernel) (by decide +kernel) t_l0 rfl ?_
    refine nk_p (i := .iconst 1) (len := 1) (pc' := 421) mJ_127 (by decide +kernel) (ns_iconst (c := 1) (by decide +kernel)) rfl ?_
    refine nk_p (i := .isub) (len := 1) (pc' := 422) mJ_127 (by decide +kernel) ns_isub rfl ?_
    obtain ⟨r53, S54, h55, hr⟩ := nk_bde hr
    refine nk_callV (ci := 13) (n := 2) (x := 688) (len := 3) (j' := 212) (q' := 0) (r := r53) (S' := S54) (L2 := [(0, nk_r l0), (1, nk_i (nk_w ((S51.1 l0 25) - 2))), (2, nk_i (nk_w ((S51.1 l0 25) - 1)))]) (rest := []) (st' := []) (pc' := 425) mJ_127 (by decide +kernel) (by decide +kernel) rfl rfl t_l0 (Nat.le_of_ble_eq_true rfl) mJ_212 (Nat.le_of_ble_eq_true rfl) rfl (ja_X13_put_ok zs _ _ _ _ _ t_l0 h55) rfl ?_
    refine nk_p (i := .aload_n 0) (len := 1) (pc' := 426) mJ_127 (by decide +kernel) (ns_aload_n 2 rfl rfl) rfl ?_
    refine nk_p (i := .aload_n 0) (len := 1) (pc' := 427) mJ_127 (by decide +kernel) (ns_aload_n 2 rfl rfl) rfl ?_
    refine nk_getI (y := (0, 0)) (x := 495) (len := 3) (ci := 13) (k := 25) (pc' := 430) ja_okT mJ_127 (by decide +kernel) (by decide +kernel) (by decide +kernel) t_l0 rfl ?_
    refine nk_p (i := .aload_n 0) (len := 1) (pc' := 431) mJ_127 (by decide +kernel) (ns_aload_n 2 rfl rfl) rfl ?_
    refine nk_getI (y := (0, 0)) (x := 495) (len := 3) (ci := 13) (k := 25) (pc' := 434) ja_okT mJ_127 (by decide +kernel) (by decide +kernel) (by decide +kernel) t_l0 rfl ?_
    refine nk_p (i := .iconst 2) (len := 1) (pc' := 435) mJ_127 (by decide +kernel) (ns_iconst (c := 2) (by decide +kernel)) rfl ?_
    refine nk_p (i := .isub) (len := 1) (pc' := 436) mJ_127 (by decide +kernel) ns_isub rfl ?_
    obtain ⟨r56, S57, h58, hr⟩ := nk_bde hr
    refine nk_callV (ci := 13) (n := 2) (x := 688) (len := 3) (j' := 212) (q' := 0) (r := r56) (S' := S57) (L2 := [(0, nk_r l0), (1, nk_i (S54.1 l0 25)), (2, nk_i (nk_w ((S54.1 l0 25) - 2)))]) (rest := []) (st' := []) (pc' := 439) mJ_127 (by decide +kernel) (by decide +kernel) rfl rfl t_l0 (Nat.le_of_ble_eq_true rfl) mJ_212 (Nat.le_of_ble_eq_true rfl) rfl (ja_X13_put_ok zs _ _ _ _ _ t_l0 h58) rfl ?_
    refine nk_p (i := .iconst 1) (len := 1) (pc' := 440) mJ_127 (by decide +kernel) (ns_iconst (c := 1) (by decide +kernel)) rfl ?_
    cases hr
    exact nk_iret (ty := .boolean) (len := 1) mJ_127 (by decide +kernel) rfl (nk_nar_z (by decide))
  have hr := nk_ifn hc7 hr
  by_cases hc8 : v3 = 8
  · have hr := nk_ifp hc8 hr
    refine nk_p (i := .tableswitch 614 0 45 #[200, 213, 235, 268, 306, 353, 425, 379, 614, 614, 614, 614, 614, 614, 614, 614, 614, 614, 614, 612, 614, 614, 614, 614, 614, 614, 614, 614, 614, 614, 437, 445, 453, 459, 459, 476, 476, 495, 495, 514, 514, 533, 589, 589, 222, 425]) (len := 200) (pc' := 630) mJ_127 (by decide +kernel) (ns_tsw (V := 8) hc8 (by decide +kernel)) rfl ?_
    refine nk_sub [2, 3, 1] (L' := [(0, nk_r l0), (1, nk_r l1), (3, nk_i v3)]) rfl ?_
    exact ja_X13_goesBehind_b630_ok zs _ _ _ _ _ t_l0 t_l1 hr
  have hr := nk_ifn hc8 hr
  by_cases hc9 : v3 = 9
  · have hr := nk_ifp hc9 hr
    refine nk_p (i := .tableswitch 614 0 45 #[200, 213, 235, 268, 306, 353, 425, 379, 614, 614, 614, 614, 614, 614, 614, 614, 614, 614, 614, 612, 614, 614, 614, 614, 614, 614, 614, 614, 614, 614, 437, 445, 453, 459, 459, 476, 476, 495, 495, 514, 514, 533, 589, 589, 222, 425]) (len := 200) (pc' := 630) mJ_127 (by decide +kernel) (ns_tsw (V := 9) hc9 (by decide +kernel)) rfl ?_
    refine nk_sub [2, 3, 1] (L' := [(0, nk_r l0), (1, nk_r l1), (3, nk_i v3)]) rfl ?_
    exact ja_X13_goesBehind_b630_ok zs _ _ _ _ _ t_l0 t_l1 hr
  have hr := nk_ifn hc9 hr
  by_cases hc10 : v3 = 10
  · have hr := nk_ifp hc10 hr
    refine nk_p (i := .tableswitch 614 0 45 #[200, 213, 235, 268, 306, 353, 425, 379, 614, 614, 614, 614, 614, 614, 614, 614, 614, 614, 614, 612, 614, 614, 614, 614, 614, 614, 614, 614, 614, 614, 437, 445, 453, 459, 459, 476, 476, 495, 495, 514, 514, 533, 589, 589, 222, 425]) (len := 200) (pc' := 630) mJ_127 (by decide +kernel) (ns_tsw (V := 10) hc10 (by decide +kernel)) rfl ?_
    refine nk_sub [2, 3, 1] (L' := [(0, nk_r l0), (1, nk_r l1), (3, nk_i v3)]) rfl ?_
    exact ja_X13_goesBehind_b630_ok zs _ _ _ _ _ t_l0 t_l1 hr
  have hr := nk_ifn hc10 hr
  by_cases hc11 : v3 = 11
  · have hr := nk_ifp hc11 hr
    refine nk_p (i := .tableswitch 614 0 45 #[200, 213, 235, 268, 306, 353, 425, 379, 614, 614, 614, 614, 614, 614, 614, 614, 614, 614, 614, 612, 614, 614, 614, 614, 614, 614, 614, 614, 614, 614, 437, 445, 453, 459, 459, 476, 476, 495, 495, 514, 514, 533, 589, 589, 222, 425]) (len := 200) (pc' := 630) mJ_127 (by decide +kernel) (ns_tsw (V := 11) hc11 (by decide +kernel)) rfl ?_
    refine nk_sub [2, 3, 1] (L' := [(0, nk_r l0), (1, nk_r l1), (3, nk_i v3)]) rfl ?_
    exact ja_X13_goesBehind_b630_ok zs _ _ _ _ _ t_l0 t_l1 hr
  have hr := nk_ifn hc11 hr
  by_cases hc12 : v3 = 12
  · have hr := nk_ifp hc12 hr
    refine nk_p (i := .tableswitch 614 0 45 #[200, 213, 235, 268, 306, 353, 425, 379, 614, 614, 614, 614, 614, 614, 614, 614, 614, 614, 614, 612, 614, 614, 614, 614, 614, 614, 614, 614, 614, 614, 437, 445, 453, 459, 459, 476, 476, 495, 495, 514, 514, 533, 589, 589, 222, 425]) (len := 200) (pc' := 630) mJ_127 (by decide +kernel) (ns_tsw (V := 12) hc12 (by decide +kernel)) rfl ?_
    refine nk_sub [2, 3, 1] (L' := [(0, nk_r l0), (1, nk_r l1), (3, nk_i v3)]) rfl ?_
    exact ja_X13_goesBehind_b630_ok zs _ _ _ _ _ t_l0 t_l1 hr
  have hr := nk_ifn hc12 hr
  by_cases hc13 : v3 = 13
  · have hr := nk_ifp hc13 hr
    refine nk_p (i := .tableswitch 614 0 45 #[200, 213, 235, 268, 306, 353, 425, 379, 614, 614, 614, 614, 614, 614, 614, 614, 614, 614, 614, 612, 614, 614, 614, 614, 614, 614, 614, 614, 614, 614, 437, 445, 453, 459, 459, 476, 476, 495, 495, 514, 514, 533, 589, 589, 222, 425]) (len := 200) (pc' := 630) mJ_127 (by decide +kernel) (ns_tsw (V := 13) hc13 (by decide +kernel)) rfl ?_
    refine nk_sub [2, 3, 1] (L' := [(0, nk_r l0), (1, nk_r l1), (3, nk_i v3)]) rfl ?_
    exact ja_X13_goesBehind_b630_ok zs _ _ _ _ _ t_l0 t_l1 hr
  have hr := nk_ifn hc13 hr
  by_cases hc14 : v3 = 14
  · have hr := nk_ifp hc14 hr
    refine nk_p (i := .tableswitch 614 0 45 #[200, 213, 235, 268, 306, 353, 425, 379, 614, 614, 614, 614, 614, 614, 614, 614, 614, 614, 614, 612, 614, 614, 614, 614, 614, 614, 614, 614, 614, 614, 437, 445, 453, 459, 459, 476, 476, 495, 495, 514, 514, 533, 589, 589, 222, 425]) (len := 200) (pc' := 630) mJ_127 (by decide +kernel) (ns_tsw (V := 14) hc14 (by decide +kernel)) rfl ?_
    refine nk_sub [2, 3, 1] (L' := [(0, nk_r l0), (1, nk_r l1), (3, nk_i v3)]) rfl ?_
    exact ja_X13_goesBehind_b630_ok zs _ _ _ _ _ t_l0 t_l1 hr
  have hr := nk_ifn hc14 hr
  by_cases hc15 : v3 = 15
  · have hr := nk_ifp hc15 hr
    refine nk_p (i := .tableswitch 614 0 45 #[200, 213, 235, 268, 306, 353, 425, 379, 614, 614, 614, 614, 614, 614, 614, 614, 614, 614, 614, 612, 614, 614, 614, 614, 614, 614, 614, 614, 614, 614, 437, 445, 453, 459, 459, 476, 476, 495, 495, 514, 514, 533, 589, 589, 222, 425]) (len := 200) (pc' := 630) mJ_127 (by decide +kernel) (ns_tsw (V := 15) hc15 (by decide +kernel)) rfl ?_
    refine nk_sub [2, 3, 1] (L' := [(0, nk_r l0), (1, nk_r l1), (3, nk_i v3)]) rfl ?_
    exact ja_X13_goesBehind_b630_ok zs _ _ _ _ _ t_l0 t_l1 hr
  have hr := nk_ifn hc15 hr
  by_cases hc16 : v3 = 16
  · have hr := nk_ifp hc16 hr
    refine nk_p (i := .tableswitch 614 0 45 #[200, 213, 235, 268, 306, 353, 425, 379, 614, 614, 614, 614, 614, 614, 614, 614, 614, 614, 614, 612, 614, 614, 614, 614, 614, 614, 614, 614, 614, 614, 437, 445, 453, 459, 459, 476, 476, 495, 495, 514, 514, 533, 589, 589, 222, 425]) (len := 200) (pc' := 630) mJ_127 (by decide +kernel) (ns_tsw (V := 16) hc16 (by decide +kernel)) rfl ?_
    refine nk_sub [2, 3, 1] (L' := [(0, nk_r l0), (1, nk_r l1), (3, nk_i v3)]) rfl ?_
    exact ja_X13_goesBehind_b630_ok zs _ _ _ _ _ t_l0 t_l1 hr
  have hr := nk_ifn hc16 hr
  by_cases hc17 : v3 = 17
  · have hr := nk_ifp hc17 hr
    refine nk_p (i := .tableswitch 614 0 45 #[200, 213, 235, 268, 306, 353, 425, 379, 614, 614, 614, 614, 614, 614, 614, 614, 614, 614, 614, 612, 614, 614, 614, 614, 614, 614, 614, 614, 614, 614, 437, 445, 453, 459, 459, 476, 476, 495, 495, 514, 514, 533, 589, 589, 222, 425]) (len := 200) (pc' := 630) mJ_127 (by decide +kernel) (ns_tsw (V := 17) hc17 (by decide +kernel)) rfl ?_
    refine nk_sub [2, 3, 1] (L' := [(0, nk_r l0), (1, nk_r l1), (3, nk_i v3)]) rfl ?_
    exact ja_X13_goesBehind_b630_ok zs _ _ _ _ _ t_l0 t_l1 hr
  have hr := nk_ifn hc17 hr
  by_cases hc18 : v3 = 18
  · have hr := nk_ifp hc18 hr
    refine nk_p (i := .tableswitch 614 0 45 #[200, 213, 235, 268, 306, 353, 425, 379, 614, 614, 614, 614, 614, 614, 614, 614, 614, 614, 614, 612, 614, 614, 614, 614, 614, 614, 614, 614, 614, 614, 437, 445, 453, 459, 459, 476, 476, 495, 495, 514, 514, 533, 589, 589, 222, 425]) (len := 200) (pc' := 630) mJ_127 (by decide +kernel) (ns_tsw (V := 18) hc18 (by decide +kernel)) rfl ?_
    refine nk_sub [2, 3, 1] (L' := [(0, nk_r l0), (1, nk_r l1), (3, nk_i v3)]) rfl ?_
    exact ja_X13_goesBehind_b630_ok zs _ _ _ _ _ t_l0 t_l1 hr
  have hr := nk_ifn hc18 hr
  by_cases hc19 : v3 = 19
  · have hr := nk_ifp hc19 hr
    refine nk_p (i := .tableswitch 614 0 45 #[200, 213, 235, 268, 306, 353, 425, 379, 614, 614, 614, 614, 614, 614, 614, 614, 614, 614, 614, 612, 614, 614, 614, 614, 614, 614, 614, 614, 614, 614, 437, 445, 453, 459, 459, 476, 476, 495, 495, 514, 514, 533, 589, 589, 222, 425]) (len := 200) (pc' := 628) mJ_127 (by decide +kernel) (ns_tsw (V := 19) hc19 (by decide +kernel)) rfl ?_
    refine nk_p (i := .iconst 1) (len := 1) (pc' := 629) mJ_127 (by decide +kernel) (ns_iconst (c := 1) (by decide +kernel)) rfl ?_
    cases hr
    exact nk_iret (ty := .boolean) (len := 1) mJ_127 (by decide +kernel) rfl (nk_nar_z (by decide))
  have hr := nk_ifn hc19 hr
  by_cases hc20 : v3 = 20
  · have hr := nk_ifp hc20 hr
    refine nk_p (i := .tableswitch 614 0 45 #[200, 213, 235, 268, 306, 353, 425, 379, 614, 614, 614, 614, 614, 614, 614, 614, 614, 614, 614, 612, 614, 614, 614, 614, 614, 614, 614, 614, 614, 614, 437, 445, 453, 459, 459, 476, 476, 495, 495, 514, 514, 533, 589, 589, 222, 425]) (len := 200) (pc' := 630) mJ_127 (by decide +kernel) (ns_tsw (V := 20) hc20 (by decide +kernel)) rfl ?_
    refine nk_sub [2, 3, 1] (L' := [(0, nk_r l0), (1, nk_r l1), (3, nk_i v3)]) rfl ?_
    exact ja_X13_goesBehind_b630_ok zs _ _ _ _ _ t_l0 t_l1 hr
  have hr := nk_ifn hc20 hr
  by_cases hc21 : v3 = 21
  · have hr := nk_ifp hc21 hr
    refine nk_p (i := .tableswitch 614 0 45 #[200, 213, 235, 268, 306, 353, 425, 379, 614, 614, 614, 614, 614, 614, 614, 614, 614, 614, 614, 612, 614, 614, 614, 614, 614, 614, 614, 614, 614, 614, 437, 445, 453, 459, 459, 476, 476, 495, 495, 514, 514, 533, 589, 589, 222, 425]) (len := 200) (pc' := 630) mJ_127 (by decide +kernel) (ns_tsw (V := 21) hc21 (by decide +kernel)) rfl ?_
    refine nk_sub [2, 3, 1] (L' := [(0, nk_r l0), (1, nk_r l1), (3, nk_i v3)]) rfl ?_
    exact ja_X13_goesBehind_b630_ok zs _ _ _ _ _ t_l0 t_l1 hr
  have hr := nk_ifn hc21 hr
  by_cases hc22 : v3 = 22
  · have hr := nk_ifp hc22 hr
    refine nk_p (i := .tableswitch 614 0 45 #[200, 213, 235, 268, 306, 353, 425, 379, 614, 614, 614, 614, 614, 614, 614, 614, 614, 614, 614, 612, 614, 614, 614, 614, 614, 614, 614, 614, 614, 614, 437, 445, 453, 459, 459, 476, 476, 495, 495, 514, 514, 533, 589, 589, 222, 425]) (len := 200) (pc' := 630) mJ_127 (by decide +kernel) (ns_tsw (V := 22) hc22 (by decide +kernel)) rfl ?_
    refine nk_sub [2, 3, 1] (L' := [(0, nk_r l0), (1, nk_r l1), (3, nk_i v3)]) rfl ?_
    exact ja_X13_goesBehind_b630_ok zs _ _ _ _ _ t_l0 t_l1 hr
  have hr := nk_ifn hc22 hr
  by_cases hc23 : v3 = 23
  · have hr := nk_ifp hc23 hr
    refine nk_p (i := .tableswitch 614 0 45 #[200, 213, 235, 268, 306, 353, 425, 379, 614, 614, 614, 614, 614, 614, 614, 614, 614, 614, 614, 612, 614, 614, 614, 614, 614, 614, 614, 614, 614, 614, 437, 445, 453, 459, 459, 476, 476, 495, 495, 514, 514, 533, 589, 589, 222, 425]) (len := 200) (pc' := 630) mJ_127 (by decide +kernel) (ns_tsw (V := 23) hc23 (by decide +kernel)) rfl ?_
    refine nk_sub [2, 3, 1] (L' := [(0, nk_r l0), (1, nk_r l1), (3, nk_i v3)]) rfl ?_
    exact ja_X13_goesBehind_b630_ok zs _ _ _ _ _ t_l0 t_l1 hr
  have hr := nk_ifn hc23 hr
  by_cases hc24 : v3 = 24
  · have hr := nk_ifp hc24 hr
    refine nk_p (i := .tableswitch 614 0 45 #[200, 213, 235, 268, 306, 353, 425, 379, 614, 614, 614, 614, 614, 614, 614, 614, 614, 614, 614, 612, 614, 614, 614, 614, 614, 614, 614, 614, 614, 614, 437, 445, 453, 459, 459, 476, 476, 495, 495, 514, 514, 533, 589, 589, 222, 425]) (len := 200) (pc' := 630) mJ_127 (by decide +kernel) (ns_tsw (V := 24) hc24 (by decide +kernel)) rfl ?_
    refine nk_sub [2, 3, 1] (L' := [(0, nk_r l0), (1, nk_r l1), (3, nk_i v3)]) rfl ?_
    exact ja_X13_goesBehind_b630_ok zs _ _ _ _ _ t_l0 t_l1 hr
  have hr := nk_ifn hc24 hr
  by_cases hc25 : v3 = 25
  · have hr := nk_ifp hc25 hr
    refine nk_p (i := .tableswitch 614 0 45 #[200, 213, 235, 268, 306, 353, 425, 379, 614, 614, 614, 614, 614, 614, 614, 614, 614, 614, 614, 612, 614, 614, 614, 614, 614, 614, 614, 614, 614, 614, 437, 445, 453, 459, 459, 476, 476, 495, 495, 514, 514, 533, 589, 589, 222, 425]) (len := 200) (pc' := 630) mJ_127 (by decide +kernel) (ns_tsw (V := 25) hc25 (by decide +kernel)) rfl ?_
    refine nk_sub [2, 3, 1] (L' := [(0, nk_r l0), (1, nk_r l1), (3, nk_i v3)]) rfl ?_
    exact ja_X13_goesBehind_b630_ok zs _ _ _ _ _ t_l0 t_l1 hr
  have hr := nk_ifn hc25 hr
  by_cases hc26 : v3 = 26
  · have hr := nk_ifp hc26 hr
    refine nk_p (i := .tableswitch 614 0 45 #[200, 213, 235, 268, 306, 353, 425, 379, 614, 614, 614, 614, 614, 614, 614, 614, 614, 614, 614, 612, 614, 614, 614, 614, 614, 614, 614, 614, 614, 614, 437, 445, 453, 459, 459, 476, 476, 495, 495, 514, 514, 533, 589, 589, 222, 425]) (len := 200) (pc' := 630) mJ_127 (by decide +kernel) (ns_tsw (V := 26) hc26 (by decide +kernel)) rfl ?_
    refine nk_sub [2, 3, 1] (L' := [(0, nk_r l0), (1, nk_r l1), (3, nk_i v3)]) rfl ?_
    exact ja_X13_goesBehind_b630_ok zs _ _ _ _ _ t_l0 t_l1 hr
  have hr := nk_ifn hc26 hr
  by_cases hc27 : v3 = 27
  · have hr := nk_ifp hc27 hr
    refine nk_p (i := .tableswitch 614 0 45 #[200, 213, 235, 268, 306, 353, 425, 379, 614, 614, 614, 614, 614, 614, 614, 614, 614, 614, 614, 612, 614, 614, 614, 614, 614, 614, 614, 614, 614, 614, 437, 445, 453, 459, 459, 476, 476, 495, 495, 514, 514, 533, 589, 589, 222, 425]) (len := 200) (pc' := 630) mJ_127 (by decide +kernel) (ns_tsw (V := 27) hc27 (by decide +kernel)) rfl ?_
    refine nk_sub [2, 3, 1] (L' := [(0, nk_r l0), (1, nk_r l1), (3, nk_i v3)]) rfl ?_
    exact ja_X13_goesBehind_b630_ok zs _ _ _ _ _ t_l0 t_l1 hr
  have hr := nk_ifn hc27 hr
  by_cases hc28 : v3 = 28
  · have hr := nk_ifp hc28 hr
    refine nk_p (i := .tableswitch 614 0 45 #[200, 213, 235, 268, 306, 353, 425, 379, 614, 614, 614, 614, 614, 614, 614, 614, 614, 614, 614, 612, 614, 614, 614, 614, 614, 614, 614, 614, 614, 614, 437, 445, 453, 459, 459, 476, 476, 495, 495, 514, 514, 533, 589, 589, 222, 425]) (len := 200) (pc' := 630) mJ_127 (by decide +kernel) (ns_tsw (V := 28) hc28 (by decide +kernel)) rfl ?_
    refine nk_sub [2, 3, 1] (L' := [(0, nk_r l0), (1, nk_r l1), (3, nk_i v3)]) rfl ?_
    exact ja_X13_goesBehind_b630_ok zs _ _ _ _ _ t_l0 t_l1 hr
  have hr := nk_ifn hc28 hr
  by_cases hc29 : v3 = 29
  · have hr := nk_ifp hc29 hr
    refine nk_p (i := .tableswitch 614 0 45 #[200, 213, 235, 268, 306, 353, 425, 379, 614, 614, 614, 614, 614, 614, 614, 614, 614, 614, 614, 612, 614, 614, 614, 614, 614, 614, 614, 614, 614, 614, 437, 445, 453, 459, 459, 476, 476, 495, 495, 514, 514, 533, 589, 589, 222, 425]) (len := 200) (pc' := 630) mJ_127 (by decide +kernel) (ns_tsw (V := 29) hc29 (by decide +kernel)) rfl ?_
    refine nk_sub [2, 3, 1] (L' := [(0, nk_r l0), (1, nk_r l1), (3, nk_i v3)]) rfl ?_
    exact ja_X13_goesBehind_b630_ok zs _ _ _ _ _ t_l0 t_l1 hr
  have hr := nk_ifn hc29 hr
  by_cases hc30 : v3 = 30
  · have hr := nk_ifp hc30 hr
    refine nk_p (i := .tableswitch 614 0 45 #[200, 213, 235, 268, 306, 353, 425, 379, 614, 614, 614, 614, 614, 614, 614, 614, 614, 614, 614, 612, 614, 614, 614, 614, 614, 614, 614, 614, 614, 614, 437, 445, 453, 459, 459, 476, 476, 495, 495, 514, 514, 533, 589, 589, 222, 425]) (len := 200) (pc' := 453) mJ_127 (by decide +kernel) (ns_tsw (V := 30) hc30 (by decide +kernel)) rfl ?_
    refine nk_p (i := .aload_n 0) (len := 1) (pc' := 454) mJ_127 (by decide +kernel) (ns_aload_n 2 rfl rfl) rfl ?_
    refine nk_p (i := .aload_n 1) (len := 1) (pc' := 455) mJ_127 (by decide +kernel) (ns_aload_n 3 rfl rfl) rfl ?_
    refine nk_p (i := .iload 4) (len := 2) (pc' := 457) mJ_127 (by decide +kernel) (ns_iload 0 rfl) rfl ?_
    obtain ⟨r59, S60, h61, hr⟩ := nk_bde hr
    refine nk_callV (ci := 13) (n := 2) (x := 695) (len := 3) (j' := 189) (q' := 1) (r := r59) (S' := S60) (L2 := [(0, nk_r l0), (1, nk_r l1), (2, nk_i v6)]) (rest := []) (st' := [nk_i r59]) (pc' := 460) mJ_127 (by decide +kernel) (by decide +kernel) rfl rfl t_l0 (Nat.le_of_ble_eq_true rfl) mJ_189 (Nat.le_of_ble_eq_true rfl) rfl (ja_X13_made_ok zs _ _ _ _ _ t_l0 t_l1 h61) rfl ?_
    obtain ⟨h62, hr⟩ := nk_cke hr
    cases hr
    exact nk_iret (ty := .boolean) (len := 1) mJ_127 (by decide +kernel) rfl (nk_nar_z h62)
  have hr := nk_ifn hc30 hr
  by_cases hc31 : v3 = 31
  · have hr := nk_ifp hc31 hr
    refine nk_p (i := .tableswitch 614 0 45 #[200, 213, 235, 268, 306, 353, 425, 379, 614, 614, 614, 614, 614, 614, 614, 614, 614, 614, 614, 612, 614, 614, 614, 614, 614, 614, 614, 614, 614, 614, 437, 445, 453, 459, 459, 476, 476, 495, 495, 514, 514, 533, 589, 589, 222, 425]) (len := 200) (pc' := 461) mJ_127 (by decide +kernel) (ns_tsw (V := 31) hc31 (by decide +kernel)) rfl ?_
    refine nk_p (i := .aload_n 0) (len := 1) (pc' := 462) mJ_127 (by decide +kernel) (ns_aload_n 2 rfl rfl) rfl ?_
    refine nk_p (i := .aload_n 1) (len := 1) (pc' := 463) mJ_127 (by decide +kernel) (ns_aload_n 3 rfl rfl) rfl ?_
    refine nk_p (i := .iload 4) (len := 2) (pc' := 465) mJ_127 (by decide +kernel) (ns_iload 0 rfl) rfl ?_
    obtain ⟨r63, S64, h65, hr⟩ := nk_bde hr
    refine nk_callV (ci := 13) (n := 2) (x := 698) (len := 3) (j' := 190) (q' := 1) (r := r63) (S' := S64) (L2 := [(0, nk_r l0), (1, nk_r l1), (2, nk_i v6)]) (rest := []) (st' := [nk_i r63]) (pc' := 468) mJ_127 (by decide +kernel) (by decide +kernel) rfl rfl t_l0 (Nat.le_of_ble_eq_true rfl) mJ_190 (Nat.le_of_ble_eq_true rfl) rfl (ja_X13_madeArray_ok zs _ _ _ _ _ t_l0 t_l1 h65) rfl ?_
    obtain ⟨h66, hr⟩ := nk_cke hr
    cases hr
    exact nk_iret (ty := .boolean) (len := 1) mJ_127 (by decide +kernel) rfl (nk_nar_z h66)
  have hr := nk_ifn hc31 hr
  by_cases hc32 : v3 = 32
  · have hr := nk_ifp hc32 hr
    refine nk_p (i := .tableswitch 614 0 45 #[200, 213, 235, 268, 306, 353, 425, 379, 614, 614, 614, 614, 614, 614, 614, 614, 614, 614, 614, 612, 614, 614, 614, 614, 614, 614, 614, 614, 614, 614, 437, 445, 453, 459, 459, 476, 476, 495, 495, 514, 514, 533, 589, 589, 222, 425]) (len := 200) (pc' := 469) mJ_127 (by decide +kernel) (ns_tsw (V := 32) hc32 (by decide +kernel)) rfl ?_
    refine nk_p (i := .aload_n 0) (len := 1) (pc' := 470) mJ_127 (by decide +kernel) (ns_aload_n 2 rfl rfl) rfl ?_
    refine nk_p (i := .aload_n 1) (len := 1) (pc' := 471) mJ_127 (by decide +kernel) (ns_aload_n 3 rfl rfl) rfl ?_
    obtain ⟨r67, S68, h69, hr⟩ := nk_bde hr
    refine nk_callV (ci := 13) (n := 1) (x := 701) (len := 3) (j' := 179) (q' := 1) (r := r67) (S' := S68) (L2 := [(0, nk_r l0), (1, nk_r l1)]) (rest := []) (st' := [nk_i r67]) (pc' := 474) mJ_127 (by decide +kernel) (by decide +kernel) rfl rfl t_l0 (Nat.le_of_ble_eq_true rfl) mJ_179 (Nat.le_of_ble_eq_true rfl) rfl (ja_X13_lengthOf_ok zs _ _ _ _ t_l0 t_l1 h69) rfl ?_
    obtain ⟨h70, hr⟩ := nk_cke hr
    cases hr
    exact nk_iret (ty := .boolean) (len := 1) mJ_127 (by decide +kernel) rfl (nk_nar_z h70)
  have hr := nk_ifn hc32 hr
  by_cases hc33 : v3 = 33
  · have hr := nk_ifp hc33 hr
    refine nk_p (i := .tableswitch 614 0 45 #[200, 213, 235, 268, 306, 353, 425, 379, 614, 614, 614, 614, 614, 614, 614, 614, 614, 614, 614, 612, 614, 614, 614, 614, 614, 614, 614, 614, 614, 614, 437, 445, 453, 459, 459, 476, 476, 495, 495, 514, 514, 533, 589, 589, 222, 425]) (len := 200) (pc' := 475) mJ_127 (by decide +kernel) (ns_tsw (V := 33) hc33 (by decide +kernel)) rfl ?_
    refine nk_sub [2, 3, 1] (L' := [(0, nk_r l0), (1, nk_r l1), (3, nk_i v3)]) rfl ?_
    exact ja_X13_goesBehind_b475_ok zs _ _ _ _ _ t_l0 t_l1 hr
  have hr := nk_ifn hc33 hr
  by_cases hc34 : v3 = 34
  · have hr := nk_ifp hc34 hr
    refine nk_p (i := .tableswitch 614 0 45 #[200, 213, 235, 268, 306, 353, 425, 379, 614, 614, 614, 614, 614, 614, 614, 614, 614, 614, 614, 612, 614, 614, 614, 614, 614, 614, 614, 614, 614, 614, 437, 445, 453, 459, 459, 476, 476, 495, 495, 514, 514, 533, 589, 589, 222, 425]) (len := 200) (pc' := 475) mJ_127 (by decide +kernel) (ns_tsw (V := 34) hc34 (by decide +kernel)) rfl ?_
    refine nk_sub [2, 3, 1] (L' := [(0, nk_r l0), (1, nk_r l1), (3, nk_i v3)]) rfl ?_
    exact ja_X13_goesBehind_b475_ok zs _ _ _ _ _ t_l0 t_l1 hr
  have hr := nk_ifn hc34 hr
  by_cases hc35 : v3 = 35
  · have hr := nk_ifp hc35 hr
    refine nk_p (i := .tableswitch 614 0 45 #[200, 213, 235, 268, 306, 353, 425, 379, 614, 614, 614, 614, 614, 614, 614, 614, 614, 614, 614, 612, 614, 614, 614, 614, 614, 614, 614, 614, 614, 614, 437, 445, 453, 459, 459, 476, 476, 495, 495, 514, 514, 533, 589, 589, 222, 425]) (len := 200) (pc' := 492) mJ_127 (by decide +kernel) (ns_tsw (V := 35) hc35 (by decide +kernel)) rfl ?_
    refine nk_sub [2, 3, 1, 0] (L' := [(0, nk_r l0), (1, nk_r l1), (3, nk_i v3), (4, nk_i v6)]) rfl ?_
    exact ja_X13_goesBehind_b492_ok zs _ _ _ _ _ _ t_l0 t_l1 hr
  have hr := nk_ifn hc35 hr
  by_cases hc36 : v3 = 36
  · have hr := nk_ifp hc36 hr
    refine nk_p (i := .tableswitch 614 0 45 #[200, 213, 235, 268, 306, 353, 425, 379, 614, 614, 614, 614, 614, 614, 614, 614, 614, 614, 614, 612, 614, 614, 614, 614, 614, 614, 614, 614, 614, 614, 437, 445, 453, 459, 459, 476, 476, 495, 495, 514, 514, 533, 589, 589, 222, 425]) (len := 200) (pc' := 492) mJ_127 (by decide +kernel) (ns_tsw (V := 36) hc36 (by decide +kernel)) rfl ?_
    refine nk_sub [2, 3, 1, 0] (L' := [(0, nk_r l0), (1, nk_r l1), (3, nk_i v3), (4, nk_i v6)]) rfl ?_
    exact ja_X13_goesBehind_b492_ok zs _ _ _ _ _ _ t_l0 t_l1 hr
  have hr := nk_ifn hc36 hr
  by_cases hc37 : v3 = 37
  · have hr := nk_ifp hc37 hr
    refine nk_p (i := .tableswitch 614 0 45 #[200, 213, 235, 268, 306, 353, 425, 379, 614, 614, 614, 614, 614, 614, 614, 614, 614, 614, 614, 612, 614, 614, 614, 614, 614, 614, 614, 614, 614, 614, 437, 445, 453, 459, 459, 476, 476, 495, 495, 514, 514, 533, 589, 589, 222, 425]) (len := 200) (pc' := 511) mJ_127 (by decide +kernel) (ns_tsw (V := 37) hc37 (by decide +kernel)) rfl ?_
    refine nk_sub [2, 3, 1, 0] (L' := [(0, nk_r l0), (1, nk_r l1), (3, nk_i v3), (4, nk_i v6)]) rfl ?_
    exact ja_X13_goesBehind_b511_ok zs _ _ _ _ _ _ t_l0 t_l1 hr
  have hr := nk_ifn hc37 hr
  by_cases hc38 : v3 = 38
  · have hr := nk_ifp hc38 hr
    refine nk_p (i := .tableswitch 614 0 45 #[200, 213, 235, 268, 306, 353, 425, 379, 614, 614, 614, 614, 614, 614, 614, 614, 614, 614, 614, 612, 614, 614, 614, 614, 614, 614, 614, 614, 614, 614, 437, 445, 453, 459, 459, 476, 476, 495, 495, 514, 514, 533, 589, 589, 222, 425]) (len := 200) (pc' := 511) mJ_127 (by decide +kernel) (ns_tsw (V := 38) hc38 (by decide +kernel)) rfl ?_
    refine nk_sub [2, 3, 1, 0] (L' := [(0, nk_r l0), (1, nk_r l1), (3, nk_i v3), (4, nk_i v6)]) rfl ?_
    exact ja_X13_goesBehind_b511_ok zs _ _ _ _ _ _ t_l0 t_l1 hr
  have hr := nk_ifn hc38 hr
  by_cases hc39 : v3 = 39
  · have hr := nk_ifp hc39 hr
    refine nk_p (i := .tableswitch 614 0 45 #[200, 213, 235, 268, 306, 353, 425, 379, 614, 614, 614, 614, 614, 614, 614, 614, 614, 614, 614, 612, 614, 614, 614, 614, 614, 614, 614, 614, 614, 614, 437, 445, 453, 459, 459, 476, 476, 495, 495, 514, 514, 533, 589, 589, 222, 425]) (len := 200) (pc' := 530) mJ_127 (by decide +kernel) (ns_tsw (V := 39) hc39 (by decide +kernel)) rfl ?_
    refine nk_sub [2, 3, 1, 0] (L' := [(0, nk_r l0), (1, nk_r l1), (3, nk_i v3), (4, nk_i v6)]) rfl ?_
    exact ja_X13_goesBehind_b530_ok zs _ _ _ _ _ _ t_l0 t_l1 hr
  have hr := nk_ifn hc39 hr
  by_cases hc40 : v3 = 40
  · have hr := nk_ifp hc40 hr
    refine nk_p (i := .tableswitch 614 0 45 #[200, 213, 235, 268, 306, 353, 425, 379, 614, 614, 614, 614, 614, 614, 614, 614, 614, 614, 614, 612, 614, 614, 614, 614, 614, 614, 614, 614, 614, 614, 437, 445, 453, 459, 459, 476, 476, 495, 495, 514, 514, 533, 589, 589, 222, 425]) (len := 200) (pc' := 530) mJ_127 (by decide +kernel) (ns_tsw (V := 40) hc40 (by decide +kernel)) rfl ?_
    refine nk_sub [2, 3, 1, 0] (L' := [(0, nk_r l0), (1, nk_r l1), (3, nk_i v3), (4, nk_i v6)]) rfl ?_
    exact ja_X13_goesBehind_b530_ok zs _ _ _ _ _ _ t_l0 t_l1 hr
  have hr := nk_ifn hc40 hr
  by_cases hc41 : v3 = 41
  · have hr := nk_ifp hc41 hr
    refine nk_p (i := .tableswitch 614 0 45 #[200, 213, 235, 268, 306, 353, 425, 379, 614, 614, 614, 614, 614, 614, 614, 614, 614, 614, 614, 612, 614, 614, 614, 614, 614, 614, 614, 614, 614, 614, 437, 445, 453, 459, 459, 476, 476, 495, 495, 514, 514, 533, 589, 589, 222, 425]) (len := 200) (pc' := 549) mJ_127 (by decide +kernel) (ns_tsw (V := 41) hc41 (by decide +kernel)) rfl ?_
    refine nk_p (i := .aload_n 0) (len := 1) (pc' := 550) mJ_127 (by decide +kernel) (ns_aload_n 2 rfl rfl) rfl ?_
    refine nk_getC (f := (4, 2, 24)) (x := 80) (len := 3) (ci := 13) (k := 29) (pc' := 553) ja_okT mJ_127 (by decide +kernel) (by decide +kernel) (by decide +kernel) (by decide) t_l0 rfl ?_
    have t71 : nk_ar ja_Tt (ja_c l0 29) = some (2, 24) := nk_ta ja_okT t_l0 (by decide +kernel)
    refine nk_p (i := .aload_n 0) (len := 1) (pc' := 554) mJ_127 (by decide +kernel) (ns_aload_n 2 rfl rfl) rfl ?_
    refine nk_getI (y := (0, 0)) (x := 495) (len := 3) (ci := 13) (k := 25) (pc' := 557) ja_okT mJ_127 (by decide +kernel) (by decide +kernel) (by decide +kernel) t_l0 rfl ?_
    refine nk_p (i := .iconst 1) (len := 1) (pc' := 558) mJ_127 (by decide +kernel) (ns_iconst (c := 1) (by decide +kernel)) rfl ?_
    refine nk_p (i := .isub) (len := 1) (pc' := 559) mJ_127 (by decide +kernel) ns_isub rfl ?_
    obtain ⟨h72, hr⟩ := nk_cke hr
    refine nk_lald (len := 1) (N := 24) (pc' := 560) mJ_127 (by decide +kernel) t71 h72.1 h72.2 rfl rfl ?_
    refine nk_ldc2 (x := 599) (len := 3) (X := 4611686018427387904) (v := 4611686018427387904) (pc' := 563) mJ_127 (by decide +kernel) (by decide +kernel) (by decide +kernel) rfl ?_
    refine nk_p (i := .land) (len := 1) (pc' := 564) mJ_127 (by decide +kernel) ns_land rfl ?_
    refine nk_p (i := .lconst 0) (len := 1) (pc' := 565) mJ_127 (by decide +kernel) (ns_lconst (c := 0) (by decide +kernel)) rfl ?_
    refine nk_p (i := .lcmp) (len := 1) (pc' := 566) mJ_127 (by decide +kernel) ns_lcmp rfl ?_
    refine nk_lcond (c := .eq) (off := 13) (len := 3) (t := 579) (pc' := 569) mJ_127 (by decide +kernel) (by decide +kernel) rfl (fun hc => ?_) (fun hc => ?_)
    · have hr := nk_ifp (c := (nk_land (S.1 (ja_c l0 29) (nk_w ((S.1 l0 25) - 1)).toNat) 4611686018427387904) = 0) hc hr
      refine nk_sub [2] (L' := [(0, nk_r l0)]) rfl ?_
      exact ja_X13_goesBehind_b579_ok zs _ _ _ t_l0 hr
    · have hr := nk_ifn (c := (nk_land (S.1 (ja_c l0 29) (nk_w ((S.1 l0 25) - 1)).toNat) 4611686018427387904) = 0) hc hr
      refine nk_p (i := .aload_n 0) (len := 1) (pc' := 570) mJ_127 (by decide +kernel) (ns_aload_n 2 rfl rfl) rfl ?_
      refine nk_p (i := .dup) (len := 1) (pc' := 571) mJ_127 (by decide +kernel) (ns_dup rfl) rfl ?_
      refine nk_getI (y := (0, 0)) (x := 625) (len := 3) (ci := 13) (k := 39) (pc' := 574) ja_okT mJ_127 (by decide +kernel) (by decide +kernel) (by decide +kernel) t_l0 rfl ?_
      refine nk_p (i := .iconst 1) (len := 1) (pc' := 575) mJ_127 (by decide +kernel) (ns_iconst (c := 1) (by decide +kernel)) rfl ?_
      refine nk_p (i := .ior) (len := 1) (pc' := 576) mJ_127 (by decide +kernel) ns_ior rfl ?_
      obtain ⟨S73, h74, hr⟩ := nk_lte hr
      refine nk_putI (y := (0, 0)) (ty := .int) (x := 625) (len := 3) (ci := 13) (k := 39) (pc' := 579) ja_okT mJ_127 (by decide +kernel) (by decide +kernel) (by decide +kernel) t_l0 (Or.inl rfl) rfl h74 ?_
      refine nk_sub [2] (L' := [(0, nk_r l0)]) rfl ?_
      exact ja_X13_goesBehind_b579_ok zs _ _ _ t_l0 hr
  have hr := nk_ifn hc41 hr
  by_cases hc42 : v3 = 42
  · have hr := nk_ifp hc42 hr
    refine nk_p (i := .tableswitch 614 0 45 #[200, 213, 235, 268, 306, 353, 425, 379, 614, 614, 614, 614, 614, 614, 614, 614, 614, 614, 614, 612, 614, 614, 614, 614, 614, 614, 614, 614, 614, 614, 437, 445, 453, 459, 459, 476, 476, 495, 495, 514, 514, 533, 589, 589, 222, 425]) (len := 200) (pc' := 605) mJ_127 (by decide +kernel) (ns_tsw (V := 42) hc42 (by decide +kernel)) rfl ?_
    refine nk_sub [2, 3, 4, 1] (L' := [(0, nk_r l0), (1, nk_r l1), (2, nk_i l2), (3, nk_i v3)]) rfl ?_
    exact ja_X13_goesBehind_b605_ok zs _ _ _ _ _ _ t_l0 t_l1 hr
  have hr := nk_ifn hc42 hr
  by_cases hc43 : v3 = 43
  · have hr := nk_ifp hc43 hr
    refine nk_p (i := .tableswitch 614 0 45 #[200, 213, 235, 268, 306, 353, 425, 379, 614, 614, 614, 614, 614, 614, 614, 614, 614, 614, 614, 612, 614, 614, 614, 614, 614, 614, 614, 614, 614, 614, 437, 445, 453, 459, 459, 476, 476, 495, 495, 514, 514, 533, 589, 589, 222, 425]) (len := 200) (pc' := 605) mJ_127 (by decide +kernel) (ns_tsw (V := 43) hc43 (by decide +kernel)) rfl ?_
    refine nk_sub [2, 3, 4, 1] (L' := [(0, nk_r l0), (1, nk_r l1), (2, nk_i l2), (3, nk_i v3)]) rfl ?_
    exact ja_X13_goesBehind_b605_ok zs _ _ _ _ _ _ t_l0 t_l1 hr
  have hr := nk_ifn hc43 hr
  by_cases hc44 : v3 = 44
  · have hr := nk_ifp hc44 hr
    refine nk_p (i := .tableswitch 614 0 45 #[200, 213, 235, 268, 306, 353, 425, 379, 614, 614, 614, 614, 614, 614, 614, 614, 614, 614, 614, 612, 614, 614, 614, 614, 614, 614, 614, 614, 614, 614, 437, 445, 453, 459, 459, 476, 476, 495, 495, 514, 514, 533, 589, 589, 222, 425]) (len := 200) (pc' := 238) mJ_127 (by decide +kernel) (ns_tsw (V := 44) hc44 (by decide +kernel)) rfl ?_
    refine nk_p (i := .aload_n 0) (len := 1) (pc' := 239) mJ_127 (by decide +kernel) (ns_aload_n 2 rfl rfl) rfl ?_
    refine nk_p (i := .aload_n 1) (len := 1) (pc' := 240) mJ_127 (by decide +kernel) (ns_aload_n 3 rfl rfl) rfl ?_
    refine nk_ldc2 (x := 186) (len := 3) (X := (-2147483648)) (v := (-2147483648)) (pc' := 243) mJ_127 (by decide +kernel) (by decide +kernel) (by decide +kernel) rfl ?_
    refine nk_ldc2 (x := 188) (len := 3) (X := 2147483647) (v := 2147483647) (pc' := 246) mJ_127 (by decide +kernel) (by decide +kernel) (by decide +kernel) rfl ?_
    obtain ⟨r75, S76, h77, hr⟩ := nk_bde hr
    refine nk_callV (ci := 13) (n := 3) (x := 684) (len := 3) (j' := 175) (q' := 0) (r := r75) (S' := S76) (L2 := [(0, nk_r l0), (1, nk_r l1), (2, nk_l (-2147483648)), (4, nk_l 2147483647)]) (rest := []) (st' := []) (pc' := 249) mJ_127 (by decide +kernel) (by decide +kernel) rfl rfl t_l0 (Nat.le_of_ble_eq_true rfl) mJ_175 (Nat.le_of_ble_eq_true rfl) rfl (ja_X13_leaveRange_ok zs _ _ _ _ _ _ t_l0 t_l1 h77) rfl ?_
    refine nk_p (i := .iconst 1) (len := 1) (pc' := 250) mJ_127 (by decide +kernel) (ns_iconst (c := 1) (by decide +kernel)) rfl ?_
    cases hr
    exact nk_iret (ty := .boolean) (len := 1) mJ_127 (by decide +kernel) rfl (nk_nar_z (by decide))
  have hr := nk_ifn hc44 hr
  by_cases hc45 : v3 = 45
  · have hr := nk_ifp hc45 hr
    refine nk_p (i := .tableswitch 614 0 45 #[200, 213, 235, 268, 306, 353, 425, 379, 614, 614, 614, 614, 614, 614, 614, 614, 614, 614, 614, 612, 614, 614, 614, 614, 614, 614, 614, 614, 614, 614, 437, 445, 453, 459, 459, 476, 476, 495, 495, 514, 514, 533, 589, 589, 222, 425]) (len := 200) (pc' := 441) mJ_127 (by decide +kernel) (ns_tsw (V := 45) hc45 (by decide +kernel)) rfl ?_
    refine nk_sub [2] (L' := [(0, nk_r l0)]) rfl ?_
    exact ja_X13_goesBehind_b441_ok zs _ _ _ t_l0 hr
  have hr := nk_ifn hc45 hr
  refine nk_p (i := .tableswitch 614 0 45 #[200, 213, 235, 268, 306, 353, 425, 379, 614, 614, 614, 614, 614, 614, 614, 614, 614, 614, 614, 612, 614, 614, 614, 614, 614, 614, 614, 614, 614, 614, 437, 445, 453, 459, 459, 476, 476, 495, 495, 514, 514, 533, 589, 589, 222, 425]) (len := 200) (pc' := 630) mJ_127 (by decide +kernel) (ns_tsd (by omega) (by decide +kernel)) rfl ?_
  refine nk_sub [2, 3, 1] (L' := [(0, nk_r l0), (1, nk_r l1), (3, nk_i v3)]) rfl ?_
  exact ja_X13_goesBehind_b630_ok zs _ _ _ _ _ t_l0 t_l1 hr
/-! SafeCodeModel kind (II)I -/
noncomputable def ja_X13_kind (l0 : Nat) (l1 : Int) (l2 : Int) (S : nk_S) : Option (Int × nk_S) :=
  nk_bd (ja_X13_slot l0 l1 l2 S) fun r1 S2 =>
  if 0 ≤ r1 then
    if 0 ≤ r1 ∧ r1 < 20480 then
    some ((S2.1 (ja_c (S2.2 l0 0) 35) r1.toNat), S2)
    else none
  else
    some (0, S2)
theorem ja_X13_kind_ok (zs : List Int32) : ∀ (l0 : Nat) (l1 : Int) (l2 : Int) (S : nk_S) (R : Int × nk_S), nk_cl ja_Tt l0 = some 13 → ja_X13_kind l0 l1 l2 S = some R → nk_K ja_Tt mi_Γ (mi_ev zs) 1 171 0 [(0, nk_r l0), (1, nk_i l1), (2, nk_i l2)] [] S R := by
  intro l0 l1 l2 S R t_l0 hr
  unfold ja_X13_kind at hr
  refine nk_p (i := .aload_n 0) (len := 1) (pc' := 1) mJ_171 (by decide +kernel) (ns_aload_n 0 rfl rfl) rfl ?_
  refine nk_p (i := .iload_n 1) (len := 1) (pc' := 2) mJ_171 (by decide +kernel) (ns_iload_n 1 rfl rfl) rfl ?_
  refine nk_p (i := .iload_n 2) (len := 1) (pc' := 3) mJ_171 (by decide +kernel) (ns_iload_n 2 rfl rfl) rfl ?_
  obtain ⟨r1, S2, h3, hr⟩ := nk_bde hr
  refine nk_callV (ci := 13) (n := 2) (x := 800) (len := 3) (j' := 227) (q' := 1) (r := r1) (S' := S2) (L2 := [(0, nk_r l0), (1, nk_i l1), (2, nk_i l2)]) (rest := []) (st' := [nk_i r1]) (pc' := 6) mJ_171 (by decide +kernel) (by decide +kernel) rfl rfl t_l0 (Nat.le_of_ble_eq_true rfl) mJ_227 (Nat.le_of_ble_eq_true rfl) rfl (ja_X13_slot_ok zs _ _ _ _ _ t_l0 h3) rfl ?_
  refine nk_p (i := .istore_n 3) (len := 1) (pc' := 7) mJ_171 (by decide +kernel) (ns_istore_n (L' := [(3, nk_i r1), (0, nk_r l0), (1, nk_i l1), (2, nk_i l2)]) rfl rfl rfl (by decide +kernel)) rfl ?_
  refine nk_p (i := .iload_n 3) (len := 1) (pc' := 8) mJ_171 (by decide +kernel) (ns_iload_n 0 rfl rfl) rfl ?_
  refine nk_icond (c := .ge) (off := 7) (len := 3) (t := 15) (pc' := 11) mJ_171 (by decide +kernel) (by decide +kernel) rfl (fun hc => ?_) (fun hc => ?_)
  · have hr := nk_ifp (c := 0 ≤ r1) hc hr
    refine nk_p (i := .aload_n 0) (len := 1) (pc' := 16) mJ_171 (by decide +kernel) (ns_aload_n 1 rfl rfl) rfl ?_
    refine nk_getM (cj := 12) (z := 0) (x := 12) (len := 3) (ci := 13) (k := 0) (pc' := 19) ja_okT mJ_171 (by decide +kernel) (by decide +kernel) (by decide +kernel) t_l0 rfl (fun t4 => ?_)
    refine nk_getC (f := (4, 0, 20480)) (x := 529) (len := 3) (ci := 12) (k := 35) (pc' := 22) ja_okT mJ_171 (by decide +kernel) (by decide +kernel) (by decide +kernel) (by decide) t4 rfl ?_
    have t5 : nk_ar ja_Tt (ja_c (S2.2 l0 0) 35) = some (0, 20480) := nk_ta ja_okT t4 (by decide +kernel)
    refine nk_p (i := .iload_n 3) (len := 1) (pc' := 23) mJ_171 (by decide +kernel) (ns_iload_n 0 rfl rfl) rfl ?_
    obtain ⟨h6, hr⟩ := nk_cke hr
    refine nk_bald (t := 0) (len := 1) (N := 20480) (pc' := 24) mJ_171 (by decide +kernel) t5 (by decide) h6.1 h6.2 rfl rfl ?_
    cases hr
    exact nk_iret (ty := .int) (len := 1) mJ_171 (by decide +kernel) rfl (nk_nar_i _)
  · have hr := nk_ifn (c := 0 ≤ r1) hc hr
    refine nk_p (i := .iconst 0) (len := 1) (pc' := 12) mJ_171 (by decide +kernel) (ns_iconst (c := 0) (by decide +kernel)) rfl ?_
    refine nk_p (i := .goto 12) (len := 3) (pc' := 24) mJ_171 (by decide +kernel) (ns_goto (by decide +kernel)) rfl ?_
    cases hr
    exact nk_iret (ty := .int) (len := 1) mJ_171 (by decide +kernel) rfl (nk_nar_i _)
/-! SafeCodeModel high (II)I -/
noncomputable def ja_X13_high (l0 : Nat) (l1 : Int) (l2 : Int) (S : nk_S) : Option (Int × nk_S) :=
  nk_bd (ja_X13_kind l0 l1 l2 S) fun r1 S2 =>
  if r1 = 1 then
    nk_bd (ja_X13_slot l0 l1 l2 S2) fun r6 S7 =>
    if 0 ≤ r6 ∧ r6 < 20480 then
    some ((S7.1 (ja_c (S2.2 l0 0) 37) r6.toNat), S7)
    else none
  else
    some (0, S2)
theorem ja_X13_high_ok (zs : List Int32) : ∀ (l0 : Nat) (l1 : Int) (l2 : Int) (S : nk_S) (R : Int × nk_S), nk_cl ja_Tt l0 = some 13 → ja_X13_high l0 l1 l2 S = some R → nk_K ja_Tt mi_Γ (mi_ev zs) 1 132 0 [(0, nk_r l0), (1, nk_i l1), (2, nk_i l2)] [] S R := by
  intro l0 l1 l2 S R t_l0 hr
  unfold ja_X13_high at hr
  refine nk_p (i := .aload_n 0) (len := 1) (pc' := 1) mJ_132 (by decide +kernel) (ns_aload_n 0 rfl rfl) rfl ?_
  refine nk_p (i := .iload_n 1) (len := 1) (pc' := 2) mJ_132 (by decide +kernel) (ns_iload_n 1 rfl rfl) rfl ?_
  refine nk_p (i := .iload_n 2) (len := 1) (pc' := 3) mJ_132 (by decide +kernel) (ns_iload_n 2 rfl rfl) rfl ?_
  obtain ⟨r1, S2, h3, hr⟩ := nk_bde hr
  refine nk_callV (ci := 13) (n := 2) (x := 803) (len := 3) (j' := 171) (q' := 1) (r := r1) (S' := S2) (L2 := [(0, nk_r l0), (1, nk_i l1), (2, nk_i l2)]) (rest := []) (st' := [nk_i r1]) (pc' := 6) mJ_132 (by decide +kernel) (by decide +kernel) rfl rfl t_l0 (Nat.le_of_ble_eq_true rfl) mJ_171 (Nat.le_of_ble_eq_true rfl) rfl (ja_X13_kind_ok zs _ _ _ _ _ t_l0 h3) rfl ?_
  refine nk_p (i := .iconst 1) (len := 1) (pc' := 7) mJ_132 (by decide +kernel) (ns_iconst (c := 1) (by decide +kernel)) rfl ?_
  refine nk_icmp (c := .ne) (off := 20) (len := 3) (t := 27) (pc' := 10) mJ_132 (by decide +kernel) (by decide +kernel) rfl (fun hc => ?_) (fun hc => ?_)
  · have hr := nk_ifn (c := r1 = 1) hc hr
    refine nk_p (i := .iconst 0) (len := 1) (pc' := 28) mJ_132 (by decide +kernel) (ns_iconst (c := 0) (by decide +kernel)) rfl ?_
    cases hr
    exact nk_iret (ty := .int) (len := 1) mJ_132 (by decide +kernel) rfl (nk_nar_i _)
  · have hr := nk_ifp (c := r1 = 1) (Decidable.of_not_not hc) hr
    refine nk_p (i := .aload_n 0) (len := 1) (pc' := 11) mJ_132 (by decide +kernel) (ns_aload_n 0 rfl rfl) rfl ?_
    refine nk_getM (cj := 12) (z := 0) (x := 12) (len := 3) (ci := 13) (k := 0) (pc' := 14) ja_okT mJ_132 (by decide +kernel) (by decide +kernel) (by decide +kernel) t_l0 rfl (fun t4 => ?_)
    refine nk_getC (f := (4, 1, 20480)) (x := 531) (len := 3) (ci := 12) (k := 37) (pc' := 17) ja_okT mJ_132 (by decide +kernel) (by decide +kernel) (by decide +kernel) (by decide) t4 rfl ?_
    have t5 : nk_ar ja_Tt (ja_c (S2.2 l0 0) 37) = some (1, 20480) := nk_ta ja_okT t4 (by decide +kernel)
    refine nk_p (i := .aload_n 0) (len := 1) (pc' := 18) mJ_132 (by decide +kernel) (ns_aload_n 0 rfl rfl) rfl ?_
    refine nk_p (i := .iload_n 1) (len := 1) (pc' := 19) mJ_132 (by decide +kernel) (ns_iload_n 1 rfl rfl) rfl ?_
    refine nk_p (i := .iload_n 2) (len := 1) (pc' := 20) mJ_132 (by decide +kernel) (ns_iload_n 2 rfl rfl) rfl ?_
    obtain ⟨r6, S7, h8, hr⟩ := nk_bde hr
    refine nk_callV (ci := 13) (n := 2) (x := 800) (len := 3) (j' := 227) (q' := 1) (r := r6) (S' := S7) (L2 := [(0, nk_r l0), (1, nk_i l1), (2, nk_i l2)]) (rest := [nk_r (ja_c (S2.2 l0 0) 37)]) (st' := [nk_i r6, nk_r (ja_c (S2.2 l0 0) 37)]) (pc' := 23) mJ_132 (by decide +kernel) (by decide +kernel) rfl rfl t_l0 (Nat.le_of_ble_eq_true rfl) mJ_227 (Nat.le_of_ble_eq_true rfl) rfl (ja_X13_slot_ok zs _ _ _ _ _ t_l0 h8) rfl ?_
    obtain ⟨h9, hr⟩ := nk_cke hr
    refine nk_iald (len := 1) (N := 20480) (pc' := 24) mJ_132 (by decide +kernel) t5 h9.1 h9.2 rfl rfl ?_
    refine nk_p (i := .goto 4) (len := 3) (pc' := 28) mJ_132 (by decide +kernel) (ns_goto (by decide +kernel)) rfl ?_
    cases hr
    exact nk_iret (ty := .int) (len := 1) mJ_132 (by decide +kernel) rfl (nk_nar_i _)
/-! SafeCodeModel local (I)J -/
noncomputable def ja_X13_local (l0 : Nat) (l1 : Int) (S : nk_S) : Option (Int × nk_S) :=
  if 0 ≤ (nk_w ((nk_w ((nk_w ((S.1 l0 52) - 1)) * 12)) + l1)) ∧ (nk_w ((nk_w ((nk_w ((S.1 l0 52) - 1)) * 12)) + l1)) < 768 then
  some ((S.1 (ja_c l0 41) (nk_w ((nk_w ((nk_w ((S.1 l0 52) - 1)) * 12)) + l1)).toNat), S)
  else none
theorem ja_X13_local_ok (zs : List Int32) : ∀ (l0 : Nat) (l1 : Int) (S : nk_S) (R : Int × nk_S), nk_cl ja_Tt l0 = some 13 → ja_X13_local l0 l1 S = some R → nk_K ja_Tt mi_Γ (mi_ev zs) 2 185 0 [(0, nk_r l0), (1, nk_i l1)] [] S R := by
  intro l0 l1 S R t_l0 hr
  unfold ja_X13_local at hr
  refine nk_p (i := .aload_n 0) (len := 1) (pc' := 1) mJ_185 (by decide +kernel) (ns_aload_n 0 rfl rfl) rfl ?_
  refine nk_getC (f := (4, 2, 768)) (x := 102) (len := 3) (ci := 13) (k := 41) (pc' := 4) ja_okT mJ_185 (by decide +kernel) (by decide +kernel) (by decide +kernel) (by decide) t_l0 rfl ?_
  have t1 : nk_ar ja_Tt (ja_c l0 41) = some (2, 768) := nk_ta ja_okT t_l0 (by decide +kernel)
  refine nk_p (i := .aload_n 0) (len := 1) (pc' := 5) mJ_185 (by decide +kernel) (ns_aload_n 0 rfl rfl) rfl ?_
  refine nk_getI (y := (0, 0)) (x := 823) (len := 3) (ci := 13) (k := 52) (pc' := 8) ja_okT mJ_185 (by decide +kernel) (by decide +kernel) (by decide +kernel) t_l0 rfl ?_
  refine nk_p (i := .iconst 1) (len := 1) (pc' := 9) mJ_185 (by decide +kernel) (ns_iconst (c := 1) (by decide +kernel)) rfl ?_
  refine nk_p (i := .isub) (len := 1) (pc' := 10) mJ_185 (by decide +kernel) ns_isub rfl ?_
  refine nk_p (i := .bipush 12) (len := 2) (pc' := 12) mJ_185 (by decide +kernel) (ns_bipush (c := 12) (by decide +kernel)) rfl ?_
  refine nk_p (i := .imul) (len := 1) (pc' := 13) mJ_185 (by decide +kernel) ns_imul rfl ?_
  refine nk_p (i := .iload_n 1) (len := 1) (pc' := 14) mJ_185 (by decide +kernel) (ns_iload_n 1 rfl rfl) rfl ?_
  refine nk_p (i := .iadd) (len := 1) (pc' := 15) mJ_185 (by decide +kernel) ns_iadd rfl ?_
  obtain ⟨h2, hr⟩ := nk_cke hr
  refine nk_lald (len := 1) (N := 768) (pc' := 16) mJ_185 (by decide +kernel) t1 h2.1 h2.2 rfl rfl ?_
  cases hr
  exact nk_lret (len := 1) mJ_185 (by decide +kernel) rfl
/-! SafeCodeModel isInt (J)Z -/
noncomputable def ja_X13_isInt (l0 : Int) (S : nk_S) : Option (Int × nk_S) :=
  if 1099511627776 ≤ l0 then
    some (0, S)
  else
    if l0 = 1125899906842624 then
      some (0, S)
    else
      some (1, S)
theorem ja_X13_isInt_ok (zs : List Int32) : ∀ (l0 : Int) (S : nk_S) (R : Int × nk_S), ja_X13_isInt l0 S = some R → nk_K ja_Tt mi_Γ (mi_ev zs) 1 149 0 [(0, nk_l l0)] [] S R := by
  intro l0 S R hr
  unfold ja_X13_isInt at hr
  refine nk_p (i := .lload_n 0) (len := 1) (pc' := 1) mJ_149 (by decide +kernel) (ns_lload_n 0 rfl rfl) rfl ?_
  refine nk_ldc2 (x := 846) (len := 3) (X := 1099511627776) (v := 1099511627776) (pc' := 4) mJ_149 (by decide +kernel) (by decide +kernel) (by decide +kernel) rfl ?_
  refine nk_p (i := .lcmp) (len := 1) (pc' := 5) mJ_149 (by decide +kernel) ns_lcmp rfl ?_
  refine nk_lcond (c := .ge) (off := 15) (len := 3) (t := 20) (pc' := 8) mJ_149 (by decide +kernel) (by decide +kernel) rfl (fun hc => ?_) (fun hc => ?_)
  · have hr := nk_ifp (c := 1099511627776 ≤ l0) hc hr
    refine nk_p (i := .iconst 0) (len := 1) (pc' := 21) mJ_149 (by decide +kernel) (ns_iconst (c := 0) (by decide +kernel)) rfl ?_
    cases hr
    exact nk_iret (ty := .boolean) (len := 1) mJ_149 (by decide +kernel) rfl (nk_nar_z (by decide))
  · have hr := nk_ifn (c := 1099511627776 ≤ l0) hc hr
    refine nk_p (i := .lload_n 0) (len := 1) (pc' := 9) mJ_149 (by decide +kernel) (ns_lload_n 0 rfl rfl) rfl ?_
    refine nk_ldc2 (x := 844) (len := 3) (X := 1125899906842624) (v := 1125899906842624) (pc' := 12) mJ_149 (by decide +kernel) (by decide +kernel) (by decide +kernel) rfl ?_
    refine nk_p (i := .lcmp) (len := 1) (pc' := 13) mJ_149 (by decide +kernel) ns_lcmp rfl ?_
    refine nk_lcond (c := .eq) (off := 7) (len := 3) (t := 20) (pc' := 16) mJ_149 (by decide +kernel) (by decide +kernel) rfl (fun hc => ?_) (fun hc => ?_)
    · have hr := nk_ifp (c := l0 = 1125899906842624) hc hr
      refine nk_p (i := .iconst 0) (len := 1) (pc' := 21) mJ_149 (by decide +kernel) (ns_iconst (c := 0) (by decide +kernel)) rfl ?_
      cases hr
      exact nk_iret (ty := .boolean) (len := 1) mJ_149 (by decide +kernel) rfl (nk_nar_z (by decide))
    · have hr := nk_ifn (c := l0 = 1125899906842624) hc hr
      refine nk_p (i := .iconst 1) (len := 1) (pc' := 17) mJ_149 (by decide +kernel) (ns_iconst (c := 1) (by decide +kernel)) rfl ?_
      refine nk_p (i := .goto 4) (len := 3) (pc' := 21) mJ_149 (by decide +kernel) (ns_goto (by decide +kernel)) rfl ?_
      cases hr
      exact nk_iret (ty := .boolean) (len := 1) mJ_149 (by decide +kernel) rfl (nk_nar_z (by decide))
/-! SafeCodeModel siteOf (J)I -/
noncomputable def ja_X13_siteOf (l0 : Nat) (l1 : Int) (S : nk_S) : Option (Int × nk_S) :=
  if l1 = 1099511627776 then
    some (62, S)
  else
    nk_bd (ja_X13_objectOf l1 S) fun r2 S3 =>
    if 0 ≤ r2 ∧ r2 < 2000 then
    some ((S3.1 (ja_c l0 46) r2.toNat), S3)
    else none
theorem ja_X13_siteOf_ok (zs : List Int32) : ∀ (l0 : Nat) (l1 : Int) (S : nk_S) (R : Int × nk_S), nk_cl ja_Tt l0 = some 13 → ja_X13_siteOf l0 l1 S = some R → nk_K ja_Tt mi_Γ (mi_ev zs) 1 223 0 [(0, nk_r l0), (1, nk_l l1)] [] S R := by
  intro l0 l1 S R t_l0 hr
  unfold ja_X13_siteOf at hr
  refine nk_p (i := .lload_n 1) (len := 1) (pc' := 1) mJ_223 (by decide +kernel) (ns_lload_n 1 rfl rfl) rfl ?_
  refine nk_ldc2 (x := 846) (len := 3) (X := 1099511627776) (v := 1099511627776) (pc' := 4) mJ_223 (by decide +kernel) (by decide +kernel) (by decide +kernel) rfl ?_
  refine nk_p (i := .lcmp) (len := 1) (pc' := 5) mJ_223 (by decide +kernel) ns_lcmp rfl ?_
  refine nk_lcond (c := .ne) (off := 8) (len := 3) (t := 13) (pc' := 8) mJ_223 (by decide +kernel) (by decide +kernel) rfl (fun hc => ?_) (fun hc => ?_)
  · have hr := nk_ifn (c := l1 = 1099511627776) hc hr
    refine nk_p (i := .aload_n 0) (len := 1) (pc' := 14) mJ_223 (by decide +kernel) (ns_aload_n 0 rfl rfl) rfl ?_
    refine nk_getC (f := (4, 1, 2000)) (x := 117) (len := 3) (ci := 13) (k := 46) (pc' := 17) ja_okT mJ_223 (by decide +kernel) (by decide +kernel) (by decide +kernel) (by decide) t_l0 rfl ?_
    have t1 : nk_ar ja_Tt (ja_c l0 46) = some (1, 2000) := nk_ta ja_okT t_l0 (by decide +kernel)
    refine nk_p (i := .lload_n 1) (len := 1) (pc' := 18) mJ_223 (by decide +kernel) (ns_lload_n 1 rfl rfl) rfl ?_
    obtain ⟨r2, S3, h4, hr⟩ := nk_bde hr
    refine nk_callS (ci := 0) (n := 1) (x := 852) (len := 3) (j' := 200) (q' := 1) (r := r2) (S' := S3) (L2 := [(0, nk_l l1)]) (rest := [nk_r (ja_c l0 46)]) (st' := [nk_i r2, nk_r (ja_c l0 46)]) (pc' := 21) mJ_223 (by decide +kernel) (by decide +kernel) (Nat.le_of_ble_eq_true rfl) rfl rfl (Nat.le_of_ble_eq_true rfl) mJ_200 (Nat.le_of_ble_eq_true rfl) ja_Tpos rfl (ja_X13_objectOf_ok zs _ _ _ h4) rfl ?_
    obtain ⟨h5, hr⟩ := nk_cke hr
    refine nk_iald (len := 1) (N := 2000) (pc' := 22) mJ_223 (by decide +kernel) t1 h5.1 h5.2 rfl rfl ?_
    cases hr
    exact nk_iret (ty := .int) (len := 1) mJ_223 (by decide +kernel) rfl (nk_nar_i _)
  · have hr := nk_ifp (c := l1 = 1099511627776) (Decidable.of_not_not hc) hr
    refine nk_p (i := .bipush 62) (len := 2) (pc' := 10) mJ_223 (by decide +kernel) (ns_bipush (c := 62) (by decide +kernel)) rfl ?_
    refine nk_p (i := .goto 12) (len := 3) (pc' := 22) mJ_223 (by decide +kernel) (ns_goto (by decide +kernel)) rfl ?_
    cases hr
    exact nk_iret (ty := .int) (len := 1) mJ_223 (by decide +kernel) rfl (nk_nar_i _)
/-! SafeCodeModel isArrayValue (J)Z -/
noncomputable def ja_X13_isArrayValue (l0 : Nat) (l1 : Int) (S : nk_S) : Option (Int × nk_S) :=
  nk_bd (ja_X13_isObject l1 S) fun r1 S2 =>
  if r1 = 0 then
    some (0, S2)
  else
    nk_bd (ja_X13_objectOf l1 S2) fun r5 S6 =>
    if 0 ≤ r5 ∧ r5 < 2000 then
    nk_bd (ja_X13_isArrayType (S6.1 (ja_c l0 45) r5.toNat) S6) fun r9 S10 =>
    if r9 = 0 then
      some (0, S10)
    else
      some (1, S10)
    else none
theorem ja_X13_isArrayValue_ok (zs : List Int32) : ∀ (l0 : Nat) (l1 : Int) (S : nk_S) (R : Int × nk_S), nk_cl ja_Tt l0 = some 13 → ja_X13_isArrayValue l0 l1 S = some R → nk_K ja_Tt mi_Γ (mi_ev zs) 1 141 0 [(0, nk_r l0), (1, nk_l l1)] [] S R := by
  intro l0 l1 S R t_l0 hr
  unfold ja_X13_isArrayValue at hr
  refine nk_p (i := .lload_n 1) (len := 1) (pc' := 1) mJ_141 (by decide +kernel) (ns_lload_n 1 rfl rfl) rfl ?_
  obtain ⟨r1, S2, h3, hr⟩ := nk_bde hr
  refine nk_callS (ci := 0) (n := 1) (x := 848) (len := 3) (j' := 155) (q' := 1) (r := r1) (S' := S2) (L2 := [(0, nk_l l1)]) (rest := []) (st' := [nk_i r1]) (pc' := 4) mJ_141 (by decide +kernel) (by decide +kernel) (Nat.le_of_ble_eq_true rfl) rfl rfl (Nat.le_of_ble_eq_true rfl) mJ_155 (Nat.le_of_ble_eq_true rfl) ja_Tpos rfl (ja_X13_isObject_ok zs _ _ _ h3) rfl ?_
  refine nk_icond (c := .eq) (off := 22) (len := 3) (t := 26) (pc' := 7) mJ_141 (by decide +kernel) (by decide +kernel) rfl (fun hc => ?_) (fun hc => ?_)
  · have hr := nk_ifp (c := r1 = 0) hc hr
    refine nk_p (i := .iconst 0) (len := 1) (pc' := 27) mJ_141 (by decide +kernel) (ns_iconst (c := 0) (by decide +kernel)) rfl ?_
    cases hr
    exact nk_iret (ty := .boolean) (len := 1) mJ_141 (by decide +kernel) rfl (nk_nar_z (by decide))
  · have hr := nk_ifn (c := r1 = 0) hc hr
    refine nk_p (i := .aload_n 0) (len := 1) (pc' := 8) mJ_141 (by decide +kernel) (ns_aload_n 0 rfl rfl) rfl ?_
    refine nk_getC (f := (4, 1, 2000)) (x := 114) (len := 3) (ci := 13) (k := 45) (pc' := 11) ja_okT mJ_141 (by decide +kernel) (by decide +kernel) (by decide +kernel) (by decide) t_l0 rfl ?_
    have t4 : nk_ar ja_Tt (ja_c l0 45) = some (1, 2000) := nk_ta ja_okT t_l0 (by decide +kernel)
    refine nk_p (i := .lload_n 1) (len := 1) (pc' := 12) mJ_141 (by decide +kernel) (ns_lload_n 1 rfl rfl) rfl ?_
    obtain ⟨r5, S6, h7, hr⟩ := nk_bde hr
    refine nk_callS (ci := 0) (n := 1) (x := 852) (len := 3) (j' := 200) (q' := 1) (r := r5) (S' := S6) (L2 := [(0, nk_l l1)]) (rest := [nk_r (ja_c l0 45)]) (st' := [nk_i r5, nk_r (ja_c l0 45)]) (pc' := 15) mJ_141 (by decide +kernel) (by decide +kernel) (Nat.le_of_ble_eq_true rfl) rfl rfl (Nat.le_of_ble_eq_true rfl) mJ_200 (Nat.le_of_ble_eq_true rfl) ja_Tpos rfl (ja_X13_objectOf_ok zs _ _ _ h7) rfl ?_
    obtain ⟨h8, hr⟩ := nk_cke hr
    refine nk_iald (len := 1) (N := 2000) (pc' := 16) mJ_141 (by decide +kernel) t4 h8.1 h8.2 rfl rfl ?_
    obtain ⟨r9, S10, h11, hr⟩ := nk_bde hr
    refine nk_callS (ci := 0) (n := 1) (x := 520) (len := 3) (j' := 140) (q' := 1) (r := r9) (S' := S10) (L2 := [(0, nk_i (S6.1 (ja_c l0 45) r5.toNat))]) (rest := []) (st' := [nk_i r9]) (pc' := 19) mJ_141 (by decide +kernel) (by decide +kernel) (Nat.le_of_ble_eq_true rfl) rfl rfl (Nat.le_of_ble_eq_true rfl) mJ_140 (Nat.le_of_ble_eq_true rfl) ja_Tpos rfl (ja_X13_isArrayType_ok zs _ _ _ h11) rfl ?_
    refine nk_icond (c := .eq) (off := 7) (len := 3) (t := 26) (pc' := 22) mJ_141 (by decide +kernel) (by decide +kernel) rfl (fun hc => ?_) (fun hc => ?_)
    · have hr := nk_ifp (c := r9 = 0) hc hr
      refine nk_p (i := .iconst 0) (len := 1) (pc' := 27) mJ_141 (by decide +kernel) (ns_iconst (c := 0) (by decide +kernel)) rfl ?_
      cases hr
      exact nk_iret (ty := .boolean) (len := 1) mJ_141 (by decide +kernel) rfl (nk_nar_z (by decide))
    · have hr := nk_ifn (c := r9 = 0) hc hr
      refine nk_p (i := .iconst 1) (len := 1) (pc' := 23) mJ_141 (by decide +kernel) (ns_iconst (c := 1) (by decide +kernel)) rfl ?_
      refine nk_p (i := .goto 4) (len := 3) (pc' := 27) mJ_141 (by decide +kernel) (ns_goto (by decide +kernel)) rfl ?_
      cases hr
      exact nk_iret (ty := .boolean) (len := 1) mJ_141 (by decide +kernel) rfl (nk_nar_z (by decide))
/-! SafeCodeModel isHeld (IJ)Z -/
noncomputable def ja_X13_isHeld_b277 (rec143 : Nat → Int → Int → Nat → Int → nk_S → Option (Int × nk_S)) (l0 : Nat) (l1 : Int) (l2 : Int) (l4 : Nat) (l5 : Int) (l6 : Int) (S : nk_S) : Option (Int × nk_S) :=
  if 0 ≤ l1 ∧ l1 < 20480 then
  if (nk_iand (nk_ishr (S.1 (ja_c l4 43) l1.toNat) l5) 1) = 1 then
    if l2 = 1099511627776 then
      nk_lt (nk_w (l5 + 1)) fun v5 =>
      rec143 l0 l1 l2 l4 v5 S
    else
      nk_bd (ja_X13_isArrayValue l0 l2 S) fun r7 S8 =>
      if r7 = 0 then
        some (0, S8)
      else
        nk_bd (ja_X13_objectOf l2 S8) fun r11 S12 =>
        if 0 ≤ r11 ∧ r11 < 2000 then
        if (S12.1 (ja_c l0 48) r11.toNat) = l6 then
          nk_lt (nk_w (l5 + 1)) fun v15 =>
          rec143 l0 l1 l2 l4 v15 S12
        else
          some (0, S12)
        else none
  else
    nk_lt (nk_w (l5 + 1)) fun v3 =>
    rec143 l0 l1 l2 l4 v3 S
  else none
theorem ja_X13_isHeld_b277_ok (zs : List Int32) {rec143 : Nat → Int → Int → Nat → Int → nk_S → Option (Int × nk_S)} (hrec143 : ∀ (l0 : Nat) (l1 : Int) (l2 : Int) (l4 : Nat) (l5 : Int) (S : nk_S) (R : Int × nk_S), nk_cl ja_Tt l0 = some 13 → nk_cl ja_Tt l4 = some 12 → rec143 l0 l1 l2 l4 l5 S = some R → nk_K ja_Tt mi_Γ (mi_ev zs) 1 148 143 [(0, nk_r l0), (1, nk_i l1), (2, nk_l l2), (4, nk_r l4), (5, nk_i l5)] [] S R) : ∀ (l0 : Nat) (l1 : Int) (l2 : Int) (l4 : Nat) (l5 : Int) (l6 : Int) (S : nk_S) (R : Int × nk_S), nk_cl ja_Tt l0 = some 13 → nk_cl ja_Tt l4 = some 12 → ja_X13_isHeld_b277 rec143 l0 l1 l2 l4 l5 l6 S = some R → nk_K ja_Tt mi_Γ (mi_ev zs) 1 148 277 [(0, nk_r l0), (1, nk_i l1), (2, nk_l l2), (4, nk_r l4), (5, nk_i l5), (6, nk_l l6)] [] S R := by
  intro l0 l1 l2 l4 l5 l6 S R t_l0 t_l4 hr
  unfold ja_X13_isHeld_b277 at hr
  refine nk_p (i := .aload 4) (len := 2) (pc' := 279) mJ_148 (by decide +kernel) (ns_aload 3 rfl) rfl ?_
  refine nk_getC (f := (4, 1, 20480)) (x := 538) (len := 3) (ci := 12) (k := 43) (pc' := 282) ja_okT mJ_148 (by decide +kernel) (by decide +kernel) (by decide +kernel) (by decide) t_l4 rfl ?_
  have t1 : nk_ar ja_Tt (ja_c l4 43) = some (1, 20480) := nk_ta ja_okT t_l4 (by decide +kernel)
  refine nk_p (i := .iload_n 1) (len := 1) (pc' := 283) mJ_148 (by decide +kernel) (ns_iload_n 1 rfl rfl) rfl ?_
  obtain ⟨h2, hr⟩ := nk_cke hr
  refine nk_iald (len := 1) (N := 20480) (pc' := 284) mJ_148 (by decide +kernel) t1 h2.1 h2.2 rfl rfl ?_
  refine nk_p (i := .iload 5) (len := 2) (pc' := 286) mJ_148 (by decide +kernel) (ns_iload 4 rfl) rfl ?_
  refine nk_p (i := .ishr) (len := 1) (pc' := 287) mJ_148 (by decide +kernel) ns_ishr rfl ?_
  refine nk_p (i := .iconst 1) (len := 1) (pc' := 288) mJ_148 (by decide +kernel) (ns_iconst (c := 1) (by decide +kernel)) rfl ?_
  refine nk_p (i := .iand) (len := 1) (pc' := 289) mJ_148 (by decide +kernel) ns_iand rfl ?_
  refine nk_p (i := .iconst 1) (len := 1) (pc' := 290) mJ_148 (by decide +kernel) (ns_iconst (c := 1) (by decide +kernel)) rfl ?_
  refine nk_icmp (c := .ne) (off := 37) (len := 3) (t := 327) (pc' := 293) mJ_148 (by decide +kernel) (by decide +kernel) rfl (fun hc => ?_) (fun hc => ?_)
  · have hr := nk_ifn (c := (nk_iand (nk_ishr (S.1 (ja_c l4 43) l1.toNat) l5) 1) = 1) hc hr
    obtain ⟨v3, h4, hr⟩ := nk_lte hr
    refine nk_p (i := .iinc 5 1) (len := 3) (pc' := 330) mJ_148 (by decide +kernel) (ns_iinc (c := 1) (L' := [(5, nk_i v3), (0, nk_r l0), (1, nk_i l1), (2, nk_l l2), (4, nk_r l4), (6, nk_l l6)]) 4 rfl (by decide +kernel) h4 rfl (by decide +kernel)) rfl ?_
    refine nk_p (i := .goto (-187)) (len := 3) (pc' := 143) mJ_148 (by decide +kernel) (ns_goto (by decide +kernel)) rfl ?_
    refine nk_sub [1, 2, 3, 4, 0] (L' := [(0, nk_r l0), (1, nk_i l1), (2, nk_l l2), (4, nk_r l4), (5, nk_i v3)]) rfl ?_
    exact hrec143 _ _ _ _ _ _ _ t_l0 t_l4 hr
  · have hr := nk_ifp (c := (nk_iand (nk_ishr (S.1 (ja_c l4 43) l1.toNat) l5) 1) = 1) (Decidable.of_not_not hc) hr
    refine nk_p (i := .lload_n 2) (len := 1) (pc' := 294) mJ_148 (by decide +kernel) (ns_lload_n 2 rfl rfl) rfl ?_
    refine nk_ldc2 (x := 846) (len := 3) (X := 1099511627776) (v := 1099511627776) (pc' := 297) mJ_148 (by decide +kernel) (by decide +kernel) (by decide +kernel) rfl ?_
    refine nk_p (i := .lcmp) (len := 1) (pc' := 298) mJ_148 (by decide +kernel) ns_lcmp rfl ?_
    refine nk_lcond (c := .eq) (off := 29) (len := 3) (t := 327) (pc' := 301) mJ_148 (by decide +kernel) (by decide +kernel) rfl (fun hc => ?_) (fun hc => ?_)
    · have hr := nk_ifp (c := l2 = 1099511627776) hc hr
      obtain ⟨v5, h6, hr⟩ := nk_lte hr
      refine nk_p (i := .iinc 5 1) (len := 3) (pc' := 330) mJ_148 (by decide +kernel) (ns_iinc (c := 1) (L' := [(5, nk_i v5), (0, nk_r l0), (1, nk_i l1), (2, nk_l l2), (4, nk_r l4), (6, nk_l l6)]) 4 rfl (by decide +kernel) h6 rfl (by decide +kernel)) rfl ?_
      refine nk_p (i := .goto (-187)) (len := 3) (pc' := 143) mJ_148 (by decide +kernel) (ns_goto (by decide +kernel)) rfl ?_
      refine nk_sub [1, 2, 3, 4, 0] (L' := [(0, nk_r l0), (1, nk_i l1), (2, nk_l l2), (4, nk_r l4), (5, nk_i v5)]) rfl ?_
      exact hrec143 _ _ _ _ _ _ _ t_l0 t_l4 hr
    · have hr := nk_ifn (c := l2 = 1099511627776) hc hr
      refine nk_p (i := .aload_n 0) (len := 1) (pc' := 302) mJ_148 (by decide +kernel) (ns_aload_n 0 rfl rfl) rfl ?_
      refine nk_p (i := .lload_n 2) (len := 1) (pc' := 303) mJ_148 (by decide +kernel) (ns_lload_n 2 rfl rfl) rfl ?_
      obtain ⟨r7, S8, h9, hr⟩ := nk_bde hr
      refine nk_callV (ci := 13) (n := 1) (x := 868) (len := 3) (j' := 141) (q' := 1) (r := r7) (S' := S8) (L2 := [(0, nk_r l0), (1, nk_l l2)]) (rest := []) (st' := [nk_i r7]) (pc' := 306) mJ_148 (by decide +kernel) (by decide +kernel) rfl rfl t_l0 (Nat.le_of_ble_eq_true rfl) mJ_141 (Nat.le_of_ble_eq_true rfl) rfl (ja_X13_isArrayValue_ok zs _ _ _ _ t_l0 h9) rfl ?_
      refine nk_icond (c := .eq) (off := 19) (len := 3) (t := 325) (pc' := 309) mJ_148 (by decide +kernel) (by decide +kernel) rfl (fun hc => ?_) (fun hc => ?_)
      · have hr := nk_ifp (c := r7 = 0) hc hr
        refine nk_p (i := .iconst 0) (len := 1) (pc' := 326) mJ_148 (by decide +kernel) (ns_iconst (c := 0) (by decide +kernel)) rfl ?_
        cases hr
        exact nk_iret (ty := .boolean) (len := 1) mJ_148 (by decide +kernel) rfl (nk_nar_z (by decide))
      · have hr := nk_ifn (c := r7 = 0) hc hr
        refine nk_p (i := .aload_n 0) (len := 1) (pc' := 310) mJ_148 (by decide +kernel) (ns_aload_n 0 rfl rfl) rfl ?_
        refine nk_getC (f := (4, 1, 2000)) (x := 123) (len := 3) (ci := 13) (k := 48) (pc' := 313) ja_okT mJ_148 (by decide +kernel) (by decide +kernel) (by decide +kernel) (by decide) t_l0 rfl ?_
        have t10 : nk_ar ja_Tt (ja_c l0 48) = some (1, 2000) := nk_ta ja_okT t_l0 (by decide +kernel)
        refine nk_p (i := .lload_n 2) (len := 1) (pc' := 314) mJ_148 (by decide +kernel) (ns_lload_n 2 rfl rfl) rfl ?_
        obtain ⟨r11, S12, h13, hr⟩ := nk_bde hr
        refine nk_callS (ci := 0) (n := 1) (x := 852) (len := 3) (j' := 200) (q' := 1) (r := r11) (S' := S12) (L2 := [(0, nk_l l2)]) (rest := [nk_r (ja_c l0 48)]) (st' := [nk_i r11, nk_r (ja_c l0 48)]) (pc' := 317) mJ_148 (by decide +kernel) (by decide +kernel) (Nat.le_of_ble_eq_true rfl) rfl rfl (Nat.le_of_ble_eq_true rfl) mJ_200 (Nat.le_of_ble_eq_true rfl) ja_Tpos rfl (ja_X13_objectOf_ok zs _ _ _ h13) rfl ?_
        obtain ⟨h14, hr⟩ := nk_cke hr
        refine nk_iald (len := 1) (N := 2000) (pc' := 318) mJ_148 (by decide +kernel) t10 h14.1 h14.2 rfl rfl ?_
        refine nk_p (i := .i2l) (len := 1) (pc' := 319) mJ_148 (by decide +kernel) ns_i2l rfl ?_
        refine nk_p (i := .lload 6) (len := 2) (pc' := 321) mJ_148 (by decide +kernel) (ns_lload 5 rfl) rfl ?_
        refine nk_p (i := .lcmp) (len := 1) (pc' := 322) mJ_148 (by decide +kernel) ns_lcmp rfl ?_
        refine nk_lcond (c := .eq) (off := 5) (len := 3) (t := 327) (pc' := 325) mJ_148 (by decide +kernel) (by decide +kernel) rfl (fun hc => ?_) (fun hc => ?_)
        · have hr := nk_ifp (c := (S12.1 (ja_c l0 48) r11.toNat) = l6) hc hr
          obtain ⟨v15, h16, hr⟩ := nk_lte hr
          refine nk_p (i := .iinc 5 1) (len := 3) (pc' := 330) mJ_148 (by decide +kernel) (ns_iinc (c := 1) (L' := [(5, nk_i v15), (0, nk_r l0), (1, nk_i l1), (2, nk_l l2), (4, nk_r l4), (6, nk_l l6)]) 4 rfl (by decide +kernel) h16 rfl (by decide +kernel)) rfl ?_
          refine nk_p (i := .goto (-187)) (len := 3) (pc' := 143) mJ_148 (by decide +kernel) (ns_goto (by decide +kernel)) rfl ?_
          refine nk_sub [1, 2, 3, 4, 0] (L' := [(0, nk_r l0), (1, nk_i l1), (2, nk_l l2), (4, nk_r l4), (5, nk_i v15)]) rfl ?_
          exact hrec143 _ _ _ _ _ _ _ t_l0 t_l4 hr
        · have hr := nk_ifn (c := (S12.1 (ja_c l0 48) r11.toNat) = l6) hc hr
          refine nk_p (i := .iconst 0) (len := 1) (pc' := 326) mJ_148 (by decide +kernel) (ns_iconst (c := 0) (by decide +kernel)) rfl ?_
          cases hr
          exact nk_iret (ty := .boolean) (len := 1) mJ_148 (by decide +kernel) rfl (nk_nar_z (by decide))
noncomputable def ja_X13_isHeld_b238 (rec143 : Nat → Int → Int → Nat → Int → nk_S → Option (Int × nk_S)) (l0 : Nat) (l1 : Int) (l2 : Int) (l4 : Nat) (l5 : Int) (l6 : Int) (l8 : Int) (S : nk_S) : Option (Int × nk_S) :=
  if 0 ≤ l1 ∧ l1 < 20480 then
  if (nk_iand (nk_ishr (S.1 (ja_c l4 42) l1.toNat) l5) 1) = 1 then
    if l8 = 0 then
      some (0, S)
    else
      nk_bd (ja_X13_objectOf l6 S) fun r4 S5 =>
      if 0 ≤ r4 ∧ r4 < 2000 then
      if l2 = (S5.1 (ja_c l0 48) r4.toNat) then
        ja_X13_isHeld_b277 rec143 l0 l1 l2 l4 l5 l6 S5
      else
        some (0, S5)
      else none
  else
    ja_X13_isHeld_b277 rec143 l0 l1 l2 l4 l5 l6 S
  else none
theorem ja_X13_isHeld_b238_ok (zs : List Int32) {rec143 : Nat → Int → Int → Nat → Int → nk_S → Option (Int × nk_S)} (hrec143 : ∀ (l0 : Nat) (l1 : Int) (l2 : Int) (l4 : Nat) (l5 : Int) (S : nk_S) (R : Int × nk_S), nk_cl ja_Tt l0 = some 13 → nk_cl ja_Tt l4 = some 12 → rec143 l0 l1 l2 l4 l5 S = some R → nk_K ja_Tt mi_Γ (mi_ev zs) 1 148 143 [(0, nk_r l0), (1, nk_i l1), (2, nk_l l2), (4, nk_r l4), (5, nk_i l5)] [] S R) : ∀ (l0 : Nat) (l1 : Int) (l2 : Int) (l4 : Nat) (l5 : Int) (l6 : Int) (l8 : Int) (S : nk_S) (R : Int × nk_S), nk_cl ja_Tt l0 = some 13 → nk_cl ja_Tt l4 = some 12 → ja_X13_isHeld_b238 rec143 l0 l1 l2 l4 l5 l6 l8 S = some R → nk_K ja_Tt mi_Γ (mi_ev zs) 1 148 238 [(0, nk_r l0), (1, nk_i l1), (2, nk_l l2), (4, nk_r l4), (5, nk_i l5), (6, nk_l l6), (8, nk_i l8)] [] S R := by
  intro l0 l1 l2 l4 l5 l6 l8 S R t_l0 t_l4 hr
  unfold ja_X13_isHeld_b238 at hr
  refine nk_p (i := .aload 4) (len := 2) (pc' := 240) mJ_148 (by decide +kernel) (ns_aload 3 rfl) rfl ?_
  refine nk_getC (f := (4, 1, 20480)) (x := 537) (len := 3) (ci := 12) (k := 42) (pc' := 243) ja_okT mJ_148 (by decide +kernel) (by decide +kernel) (by decide +kernel) (by decide) t_l4 rfl ?_
  have t1 : nk_ar ja_Tt (ja_c l4 42) = some (1, 20480) := nk_ta ja_okT t_l4 (by decide +kernel)
  refine nk_p (i := .iload_n 1) (len := 1) (pc' := 244) mJ_148 (by decide +kernel) (ns_iload_n 1 rfl rfl) rfl ?_
  obtain ⟨h2, hr⟩ := nk_cke hr
  refine nk_iald (len := 1) (N := 20480) (pc' := 245) mJ_148 (by decide +kernel) t1 h2.1 h2.2 rfl rfl ?_
  refine nk_p (i := .iload 5) (len := 2) (pc' := 247) mJ_148 (by decide +kernel) (ns_iload 4 rfl) rfl ?_
  refine nk_p (i := .ishr) (len := 1) (pc' := 248) mJ_148 (by decide +kernel) ns_ishr rfl ?_
  refine nk_p (i := .iconst 1) (len := 1) (pc' := 249) mJ_148 (by decide +kernel) (ns_iconst (c := 1) (by decide +kernel)) rfl ?_
  refine nk_p (i := .iand) (len := 1) (pc' := 250) mJ_148 (by decide +kernel) ns_iand rfl ?_
  refine nk_p (i := .iconst 1) (len := 1) (pc' := 251) mJ_148 (by decide +kernel) (ns_iconst (c := 1) (by decide +kernel)) rfl ?_
  refine nk_icmp (c := .ne) (off := 26) (len := 3) (t := 277) (pc' := 254) mJ_148 (by decide +kernel) (by decide +kernel) rfl (fun hc => ?_) (fun hc => ?_)
  · have hr := nk_ifn (c := (nk_iand (nk_ishr (S.1 (ja_c l4 42) l1.toNat) l5) 1) = 1) hc hr
    refine nk_sub [0, 1, 2, 3, 4, 5] (L' := [(0, nk_r l0), (1, nk_i l1), (2, nk_l l2), (4, nk_r l4), (5, nk_i l5), (6, nk_l l6)]) rfl ?_
    exact ja_X13_isHeld_b277_ok zs hrec143 _ _ _ _ _ _ _ _ t_l0 t_l4 hr
  · have hr := nk_ifp (c := (nk_iand (nk_ishr (S.1 (ja_c l4 42) l1.toNat) l5) 1) = 1) (Decidable.of_not_not hc) hr
    refine nk_p (i := .iload 8) (len := 2) (pc' := 256) mJ_148 (by decide +kernel) (ns_iload 6 rfl) rfl ?_
    refine nk_icond (c := .eq) (off := 19) (len := 3) (t := 275) (pc' := 259) mJ_148 (by decide +kernel) (by decide +kernel) rfl (fun hc => ?_) (fun hc => ?_)
    · have hr := nk_ifp (c := l8 = 0) hc hr
      refine nk_p (i := .iconst 0) (len := 1) (pc' := 276) mJ_148 (by decide +kernel) (ns_iconst (c := 0) (by decide +kernel)) rfl ?_
      cases hr
      exact nk_iret (ty := .boolean) (len := 1) mJ_148 (by decide +kernel) rfl (nk_nar_z (by decide))
    · have hr := nk_ifn (c := l8 = 0) hc hr
      refine nk_p (i := .lload_n 2) (len := 1) (pc' := 260) mJ_148 (by decide +kernel) (ns_lload_n 2 rfl rfl) rfl ?_
      refine nk_p (i := .aload_n 0) (len := 1) (pc' := 261) mJ_148 (by decide +kernel) (ns_aload_n 0 rfl rfl) rfl ?_
      refine nk_getC (f := (4, 1, 2000)) (x := 123) (len := 3) (ci := 13) (k := 48) (pc' := 264) ja_okT mJ_148 (by decide +kernel) (by decide +kernel) (by decide +kernel) (by decide) t_l0 rfl ?_
      have t3 : nk_ar ja_Tt (ja_c l0 48) = some (1, 2000) := nk_ta ja_okT t_l0 (by decide +kernel)
      refine nk_p (i := .lload 6) (len := 2) (pc' := 266) mJ_148 (by decide +kernel) (ns_lload 5 rfl) rfl ?_
      obtain ⟨r4, S5, h6, hr⟩ := nk_bde hr
      refine nk_callS (ci := 0) (n := 1) (x := 852) (len := 3) (j' := 200) (q' := 1) (r := r4) (S' := S5) (L2 := [(0, nk_l l6)]) (rest := [nk_r (ja_c l0 48), nk_l l2]) (st' := [nk_i r4, nk_r (ja_c l0 48), nk_l l2]) (pc' := 269) mJ_148 (by decide +kernel) (by decide +kernel) (Nat.le_of_ble_eq_true rfl) rfl rfl (Nat.le_of_ble_eq_true rfl) mJ_200 (Nat.le_of_ble_eq_true rfl) ja_Tpos rfl (ja_X13_objectOf_ok zs _ _ _ h6) rfl ?_
      obtain ⟨h7, hr⟩ := nk_cke hr
      refine nk_iald (len := 1) (N := 2000) (pc' := 270) mJ_148 (by decide +kernel) t3 h7.1 h7.2 rfl rfl ?_
      refine nk_p (i := .i2l) (len := 1) (pc' := 271) mJ_148 (by decide +kernel) ns_i2l rfl ?_
      refine nk_p (i := .lcmp) (len := 1) (pc' := 272) mJ_148 (by decide +kernel) ns_lcmp rfl ?_
      refine nk_lcond (c := .eq) (off := 5) (len := 3) (t := 277) (pc' := 275) mJ_148 (by decide +kernel) (by decide +kernel) rfl (fun hc => ?_) (fun hc => ?_)
      · have hr := nk_ifp (c := l2 = (S5.1 (ja_c l0 48) r4.toNat)) hc hr
        refine nk_sub [0, 1, 2, 3, 4, 5] (L' := [(0, nk_r l0), (1, nk_i l1), (2, nk_l l2), (4, nk_r l4), (5, nk_i l5), (6, nk_l l6)]) rfl ?_
        exact ja_X13_isHeld_b277_ok zs hrec143 _ _ _ _ _ _ _ _ t_l0 t_l4 hr
      · have hr := nk_ifn (c := l2 = (S5.1 (ja_c l0 48) r4.toNat)) hc hr
        refine nk_p (i := .iconst 0) (len := 1) (pc' := 276) mJ_148 (by decide +kernel) (ns_iconst (c := 0) (by decide +kernel)) rfl ?_
        cases hr
        exact nk_iret (ty := .boolean) (len := 1) mJ_148 (by decide +kernel) rfl (nk_nar_z (by decide))
noncomputable def ja_X13_isHeld_b199 (rec143 : Nat → Int → Int → Nat → Int → nk_S → Option (Int × nk_S)) (l0 : Nat) (l1 : Int) (l2 : Int) (l4 : Nat) (l5 : Int) (l6 : Int) (l8 : Int) (S : nk_S) : Option (Int × nk_S) :=
  if 0 ≤ l1 ∧ l1 < 20480 then
  if (nk_iand (nk_ishr (S.1 (ja_c l4 41) l1.toNat) l5) 1) = 1 then
    if l8 = 0 then
      some (0, S)
    else
      nk_bd (ja_X13_objectOf l6 S) fun r4 S5 =>
      if 0 ≤ r4 ∧ r4 < 2000 then
      if l2 < (S5.1 (ja_c l0 48) r4.toNat) then
        ja_X13_isHeld_b238 rec143 l0 l1 l2 l4 l5 l6 l8 S5
      else
        some (0, S5)
      else none
  else
    ja_X13_isHeld_b238 rec143 l0 l1 l2 l4 l5 l6 l8 S
  else none
theorem ja_X13_isHeld_b199_ok (zs : List Int32) {rec143 : Nat → Int → Int → Nat → Int → nk_S → Option (Int × nk_S)} (hrec143 : ∀ (l0 : Nat) (l1 : Int) (l2 : Int) (l4 : Nat) (l5 : Int) (S : nk_S) (R : Int × nk_S), nk_cl ja_Tt l0 = some 13 → nk_cl ja_Tt l4 = some 12 → rec143 l0 l1 l2 l4 l5 S = some R → nk_K ja_Tt mi_Γ (mi_ev zs) 1 148 143 [(0, nk_r l0), (1, nk_i l1), (2, nk_l l2), (4, nk_r l4), (5, nk_i l5)] [] S R) : ∀ (l0 : Nat) (l1 : Int) (l2 : Int) (l4 : Nat) (l5 : Int) (l6 : Int) (l8 : Int) (S : nk_S) (R : Int × nk_S), nk_cl ja_Tt l0 = some 13 → nk_cl ja_Tt l4 = some 12 → ja_X13_isHeld_b199 rec143 l0 l1 l2 l4 l5 l6 l8 S = some R → nk_K ja_Tt mi_Γ (mi_ev zs) 1 148 199 [(0, nk_r l0), (1, nk_i l1), (2, nk_l l2), (4, nk_r l4), (5, nk_i l5), (6, nk_l l6), (8, nk_i l8)] [] S R := by
  intro l0 l1 l2 l4 l5 l6 l8 S R t_l0 t_l4 hr
  unfold ja_X13_isHeld_b199 at hr
  refine nk_p (i := .aload 4) (len := 2) (pc' := 201) mJ_148 (by decide +kernel) (ns_aload 3 rfl) rfl ?_
  refine nk_getC (f := (4, 1, 20480)) (x := 536) (len := 3) (ci := 12) (k := 41) (pc' := 204) ja_okT mJ_148 (by decide +kernel) (by decide +kernel) (by decide +kernel) (by decide) t_l4 rfl ?_
  have t1 : nk_ar ja_Tt (ja_c l4 41) = some (1, 20480) := nk_ta ja_okT t_l4 (by decide +kernel)
  refine nk_p (i := .iload_n 1) (len := 1) (pc' := 205) mJ_148 (by decide +kernel) (ns_iload_n 1 rfl rfl) rfl ?_
  obtain ⟨h2, hr⟩ := nk_cke hr
  refine nk_iald (len := 1) (N := 20480) (pc' := 206) mJ_148 (by decide +kernel) t1 h2.1 h2.2 rfl rfl ?_
  refine nk_p (i := .iload 5) (len := 2) (pc' := 208) mJ_148 (by decide +kernel) (ns_iload 4 rfl) rfl ?_
  refine nk_p (i := .ishr) (len := 1) (pc' := 209) mJ_148 (by decide +kernel) ns_ishr rfl ?_
  refine nk_p (i := .iconst 1) (len := 1) (pc' := 210) mJ_148 (by decide +kernel) (ns_iconst (c := 1) (by decide +kernel)) rfl ?_
  refine nk_p (i := .iand) (len := 1) (pc' := 211) mJ_148 (by decide +kernel) ns_iand rfl ?_
  refine nk_p (i := .iconst 1) (len := 1) (pc' := 212) mJ_148 (by decide +kernel) (ns_iconst (c := 1) (by decide +kernel)) rfl ?_
  refine nk_icmp (c := .ne) (off := 26) (len := 3) (t := 238) (pc' := 215) mJ_148 (by decide +kernel) (by decide +kernel) rfl (fun hc => ?_) (fun hc => ?_)
  · have hr := nk_ifn (c := (nk_iand (nk_ishr (S.1 (ja_c l4 41) l1.toNat) l5) 1) = 1) hc hr
    exact ja_X13_isHeld_b238_ok zs hrec143 _ _ _ _ _ _ _ _ _ t_l0 t_l4 hr
  · have hr := nk_ifp (c := (nk_iand (nk_ishr (S.1 (ja_c l4 41) l1.toNat) l5) 1) = 1) (Decidable.of_not_not hc) hr
    refine nk_p (i := .iload 8) (len := 2) (pc' := 217) mJ_148 (by decide +kernel) (ns_iload 6 rfl) rfl ?_
    refine nk_icond (c := .eq) (off := 19) (len := 3) (t := 236) (pc' := 220) mJ_148 (by decide +kernel) (by decide +kernel) rfl (fun hc => ?_) (fun hc => ?_)
    · have hr := nk_ifp (c := l8 = 0) hc hr
      refine nk_p (i := .iconst 0) (len := 1) (pc' := 237) mJ_148 (by decide +kernel) (ns_iconst (c := 0) (by decide +kernel)) rfl ?_
      cases hr
      exact nk_iret (ty := .boolean) (len := 1) mJ_148 (by decide +kernel) rfl (nk_nar_z (by decide))
    · have hr := nk_ifn (c := l8 = 0) hc hr
      refine nk_p (i := .lload_n 2) (len := 1) (pc' := 221) mJ_148 (by decide +kernel) (ns_lload_n 2 rfl rfl) rfl ?_
      refine nk_p (i := .aload_n 0) (len := 1) (pc' := 222) mJ_148 (by decide +kernel) (ns_aload_n 0 rfl rfl) rfl ?_
      refine nk_getC (f := (4, 1, 2000)) (x := 123) (len := 3) (ci := 13) (k := 48) (pc' := 225) ja_okT mJ_148 (by decide +kernel) (by decide +kernel) (by decide +kernel) (by decide) t_l0 rfl ?_
      have t3 : nk_ar ja_Tt (ja_c l0 48) = some (1, 2000) := nk_ta ja_okT t_l0 (by decide +kernel)
      refine nk_p (i := .lload 6) (len := 2) (pc' := 227) mJ_148 (by decide +kernel) (ns_lload 5 rfl) rfl ?_
      obtain ⟨r4, S5, h6, hr⟩ := nk_bde hr
      refine nk_callS (ci := 0) (n := 1) (x := 852) (len := 3) (j' := 200) (q' := 1) (r := r4) (S' := S5) (L2 := [(0, nk_l l6)]) (rest := [nk_r (ja_c l0 48), nk_l l2]) (st' := [nk_i r4, nk_r (ja_c l0 48), nk_l l2]) (pc' := 230) mJ_148 (by decide +kernel) (by decide +kernel) (Nat.le_of_ble_eq_true rfl) rfl rfl (Nat.le_of_ble_eq_true rfl) mJ_200 (Nat.le_of_ble_eq_true rfl) ja_Tpos rfl (ja_X13_objectOf_ok zs _ _ _ h6) rfl ?_
      obtain ⟨h7, hr⟩ := nk_cke hr
      refine nk_iald (len := 1) (N := 2000) (pc' := 231) mJ_148 (by decide +kernel) t3 h7.1 h7.2 rfl rfl ?_
      refine nk_p (i := .i2l) (len := 1) (pc' := 232) mJ_148 (by decide +kernel) ns_i2l rfl ?_
      refine nk_p (i := .lcmp) (len := 1) (pc' := 233) mJ_148 (by decide +kernel) ns_lcmp rfl ?_
      refine nk_lcond (c := .lt) (off := 5) (len := 3) (t := 238) (pc' := 236) mJ_148 (by decide +kernel) (by decide +kernel) rfl (fun hc => ?_) (fun hc => ?_)
      · have hr := nk_ifp (c := l2 < (S5.1 (ja_c l0 48) r4.toNat)) hc hr
        exact ja_X13_isHeld_b238_ok zs hrec143 _ _ _ _ _ _ _ _ _ t_l0 t_l4 hr
      · have hr := nk_ifn (c := l2 < (S5.1 (ja_c l0 48) r4.toNat)) hc hr
        refine nk_p (i := .iconst 0) (len := 1) (pc' := 237) mJ_148 (by decide +kernel) (ns_iconst (c := 0) (by decide +kernel)) rfl ?_
        cases hr
        exact nk_iret (ty := .boolean) (len := 1) mJ_148 (by decide +kernel) rfl (nk_nar_z (by decide))
noncomputable def ja_X13_isHeld_b143 (rec143 : Nat → Int → Int → Nat → Int → nk_S → Option (Int × nk_S)) (l0 : Nat) (l1 : Int) (l2 : Int) (l4 : Nat) (l5 : Int) (S : nk_S) : Option (Int × nk_S) :=
  if 12 ≤ l5 then
    some (1, S)
  else
    nk_bd (ja_X13_local l0 l5 S) fun r1 S2 =>
    nk_bd (ja_X13_isArrayValue l0 r1 S2) fun r4 S5 =>
    if 0 ≤ l1 ∧ l1 < 20480 then
    if (nk_iand (nk_ishr (S5.1 (ja_c l4 40) l1.toNat) l5) 1) = 1 then
      nk_bd (ja_X13_isInt r1 S5) fun r9 S10 =>
      if r9 = 0 then
        some (0, S10)
      else
        if l2 < r1 then
          ja_X13_isHeld_b199 rec143 l0 l1 l2 l4 l5 r1 r4 S10
        else
          some (0, S10)
    else
      ja_X13_isHeld_b199 rec143 l0 l1 l2 l4 l5 r1 r4 S5
    else none
theorem ja_X13_isHeld_b143_ok (zs : List Int32) {rec143 : Nat → Int → Int → Nat → Int → nk_S → Option (Int × nk_S)} (hrec143 : ∀ (l0 : Nat) (l1 : Int) (l2 : Int) (l4 : Nat) (l5 : Int) (S : nk_S) (R : Int × nk_S), nk_cl ja_Tt l0 = some 13 → nk_cl ja_Tt l4 = some 12 → rec143 l0 l1 l2 l4 l5 S = some R → nk_K ja_Tt mi_Γ (mi_ev zs) 1 148 143 [(0, nk_r l0), (1, nk_i l1), (2, nk_l l2), (4, nk_r l4), (5, nk_i l5)] [] S R) : ∀ (l0 : Nat) (l1 : Int) (l2 : Int) (l4 : Nat) (l5 : Int) (S : nk_S) (R : Int × nk_S), nk_cl ja_Tt l0 = some 13 → nk_cl ja_Tt l4 = some 12 → ja_X13_isHeld_b143 rec143 l0 l1 l2 l4 l5 S = some R → nk_K ja_Tt mi_Γ (mi_ev zs) 1 148 143 [(0, nk_r l0), (1, nk_i l1), (2, nk_l l2), (4, nk_r l4), (5, nk_i l5)] [] S R := by
  intro l0 l1 l2 l4 l5 S R t_l0 t_l4 hr
  unfold ja_X13_isHeld_b143 at hr
  refine nk_p (i := .iload 5) (len := 2) (pc' := 145) mJ_148 (by decide +kernel) (ns_iload 4 rfl) rfl ?_
  refine nk_p (i := .bipush 12) (len := 2) (pc' := 147) mJ_148 (by decide +kernel) (ns_bipush (c := 12) (by decide +kernel)) rfl ?_
  refine nk_icmp (c := .ge) (off := 186) (len := 3) (t := 333) (pc' := 150) mJ_148 (by decide +kernel) (by decide +kernel) rfl (fun hc => ?_) (fun hc => ?_)
  · have hr := nk_ifp (c := 12 ≤ l5) hc hr
    refine nk_p (i := .iconst 1) (len := 1) (pc' := 334) mJ_148 (by decide +kernel) (ns_iconst (c := 1) (by decide +kernel)) rfl ?_
    cases hr
    exact nk_iret (ty := .boolean) (len := 1) mJ_148 (by decide +kernel) rfl (nk_nar_z (by decide))
  · have hr := nk_ifn (c := 12 ≤ l5) hc hr
    refine nk_p (i := .aload_n 0) (len := 1) (pc' := 151) mJ_148 (by decide +kernel) (ns_aload_n 0 rfl rfl) rfl ?_
    refine nk_p (i := .iload 5) (len := 2) (pc' := 153) mJ_148 (by decide +kernel) (ns_iload 4 rfl) rfl ?_
    obtain ⟨r1, S2, h3, hr⟩ := nk_bde hr
    refine nk_callV (ci := 13) (n := 1) (x := 856) (len := 3) (j' := 185) (q' := 2) (r := r1) (S' := S2) (L2 := [(0, nk_r l0), (1, nk_i l5)]) (rest := []) (st' := [nk_l r1]) (pc' := 156) mJ_148 (by decide +kernel) (by decide +kernel) rfl rfl t_l0 (Nat.le_of_ble_eq_true rfl) mJ_185 (Nat.le_of_ble_eq_true rfl) rfl (ja_X13_local_ok zs _ _ _ _ t_l0 h3) rfl ?_
    refine nk_p (i := .lstore 6) (len := 2) (pc' := 158) mJ_148 (by decide +kernel) (ns_lstore (L' := [(6, nk_l r1), (0, nk_r l0), (1, nk_i l1), (2, nk_l l2), (4, nk_r l4), (5, nk_i l5)]) rfl rfl (by decide +kernel)) rfl ?_
    refine nk_p (i := .aload_n 0) (len := 1) (pc' := 159) mJ_148 (by decide +kernel) (ns_aload_n 1 rfl rfl) rfl ?_
    refine nk_p (i := .lload 6) (len := 2) (pc' := 161) mJ_148 (by decide +kernel) (ns_lload 0 rfl) rfl ?_
    obtain ⟨r4, S5, h6, hr⟩ := nk_bde hr
    refine nk_callV (ci := 13) (n := 1) (x := 868) (len := 3) (j' := 141) (q' := 1) (r := r4) (S' := S5) (L2 := [(0, nk_r l0), (1, nk_l r1)]) (rest := []) (st' := [nk_i r4]) (pc' := 164) mJ_148 (by decide +kernel) (by decide +kernel) rfl rfl t_l0 (Nat.le_of_ble_eq_true rfl) mJ_141 (Nat.le_of_ble_eq_true rfl) rfl (ja_X13_isArrayValue_ok zs _ _ _ _ t_l0 h6) rfl ?_
    refine nk_p (i := .istore 8) (len := 2) (pc' := 166) mJ_148 (by decide +kernel) (ns_istore (L' := [(8, nk_i r4), (6, nk_l r1), (0, nk_r l0), (1, nk_i l1), (2, nk_l l2), (4, nk_r l4), (5, nk_i l5)]) rfl rfl (by decide +kernel)) rfl ?_
    refine nk_p (i := .aload 4) (len := 2) (pc' := 168) mJ_148 (by decide +kernel) (ns_aload 5 rfl) rfl ?_
    refine nk_getC (f := (4, 1, 20480)) (x := 535) (len := 3) (ci := 12) (k := 40) (pc' := 171) ja_okT mJ_148 (by decide +kernel) (by decide +kernel) (by decide +kernel) (by decide) t_l4 rfl ?_
    have t7 : nk_ar ja_Tt (ja_c l4 40) = some (1, 20480) := nk_ta ja_okT t_l4 (by decide +kernel)
    refine nk_p (i := .iload_n 1) (len := 1) (pc' := 172) mJ_148 (by decide +kernel) (ns_iload_n 3 rfl rfl) rfl ?_
    obtain ⟨h8, hr⟩ := nk_cke hr
    refine nk_iald (len := 1) (N := 20480) (pc' := 173) mJ_148 (by decide +kernel) t7 h8.1 h8.2 rfl rfl ?_
    refine nk_p (i := .iload 5) (len := 2) (pc' := 175) mJ_148 (by decide +kernel) (ns_iload 6 rfl) rfl ?_
    refine nk_p (i := .ishr) (len := 1) (pc' := 176) mJ_148 (by decide +kernel) ns_ishr rfl ?_
    refine nk_p (i := .iconst 1) (len := 1) (pc' := 177) mJ_148 (by decide +kernel) (ns_iconst (c := 1) (by decide +kernel)) rfl ?_
    refine nk_p (i := .iand) (len := 1) (pc' := 178) mJ_148 (by decide +kernel) ns_iand rfl ?_
    refine nk_p (i := .iconst 1) (len := 1) (pc' := 179) mJ_148 (by decide +kernel) (ns_iconst (c := 1) (by decide +kernel)) rfl ?_
    refine nk_icmp (c := .ne) (off := 20) (len := 3) (t := 199) (pc' := 182) mJ_148 (by decide +kernel) (by decide +kernel) rfl (fun hc => ?_) (fun hc => ?_)
    · have hr := nk_ifn (c := (nk_iand (nk_ishr (S5.1 (ja_c l4 40) l1.toNat) l5) 1) = 1) hc hr
      refine nk_sub [2, 3, 4, 5, 6, 1, 0] (L' := [(0, nk_r l0), (1, nk_i l1), (2, nk_l l2), (4, nk_r l4), (5, nk_i l5), (6, nk_l r1), (8, nk_i r4)]) rfl ?_
      exact ja_X13_isHeld_b199_ok zs hrec143 _ _ _ _ _ _ _ _ _ t_l0 t_l4 hr
    · have hr := nk_ifp (c := (nk_iand (nk_ishr (S5.1 (ja_c l4 40) l1.toNat) l5) 1) = 1) (Decidable.of_not_not hc) hr
      refine nk_p (i := .lload 6) (len := 2) (pc' := 184) mJ_148 (by decide +kernel) (ns_lload 1 rfl) rfl ?_
      obtain ⟨r9, S10, h11, hr⟩ := nk_bde hr
      refine nk_callS (ci := 0) (n := 1) (x := 862) (len := 3) (j' := 149) (q' := 1) (r := r9) (S' := S10) (L2 := [(0, nk_l r1)]) (rest := []) (st' := [nk_i r9]) (pc' := 187) mJ_148 (by decide +kernel) (by decide +kernel) (Nat.le_of_ble_eq_true rfl) rfl rfl (Nat.le_of_ble_eq_true rfl) mJ_149 (Nat.le_of_ble_eq_true rfl) ja_Tpos rfl (ja_X13_isInt_ok zs _ _ _ h11) rfl ?_
      refine nk_icond (c := .eq) (off := 10) (len := 3) (t := 197) (pc' := 190) mJ_148 (by decide +kernel) (by decide +kernel) rfl (fun hc => ?_) (fun hc => ?_)
      · have hr := nk_ifp (c := r9 = 0) hc hr
        refine nk_p (i := .iconst 0) (len := 1) (pc' := 198) mJ_148 (by decide +kernel) (ns_iconst (c := 0) (by decide +kernel)) rfl ?_
        cases hr
        exact nk_iret (ty := .boolean) (len := 1) mJ_148 (by decide +kernel) rfl (nk_nar_z (by decide))
      · have hr := nk_ifn (c := r9 = 0) hc hr
        refine nk_p (i := .lload_n 2) (len := 1) (pc' := 191) mJ_148 (by decide +kernel) (ns_lload_n 4 rfl rfl) rfl ?_
        refine nk_p (i := .lload 6) (len := 2) (pc' := 193) mJ_148 (by decide +kernel) (ns_lload 1 rfl) rfl ?_
        refine nk_p (i := .lcmp) (len := 1) (pc' := 194) mJ_148 (by decide +kernel) ns_lcmp rfl ?_
        refine nk_lcond (c := .lt) (off := 5) (len := 3) (t := 199) (pc' := 197) mJ_148 (by decide +kernel) (by decide +kernel) rfl (fun hc => ?_) (fun hc => ?_)
        · have hr := nk_ifp (c := l2 < r1) hc hr
          refine nk_sub [2, 3, 4, 5, 6, 1, 0] (L' := [(0, nk_r l0), (1, nk_i l1), (2, nk_l l2), (4, nk_r l4), (5, nk_i l5), (6, nk_l r1), (8, nk_i r4)]) rfl ?_
          exact ja_X13_isHeld_b199_ok zs hrec143 _ _ _ _ _ _ _ _ _ t_l0 t_l4 hr
        · have hr := nk_ifn (c := l2 < r1) hc hr
          refine nk_p (i := .iconst 0) (len := 1) (pc' := 198) mJ_148 (by decide +kernel) (ns_iconst (c := 0) (by decide +kernel)) rfl ?_
          cases hr
          exact nk_iret (ty := .boolean) (len := 1) mJ_148 (by decide +kernel) rfl (nk_nar_z (by decide))
noncomputable def ja_X13_isHeld_L143 : Nat → Nat → Int → Int → Nat → Int → nk_S → Option (Int × nk_S)
  | 0, _, _, _, _, _, _ => none
  | n + 1, l0, l1, l2, l4, l5, S => ja_X13_isHeld_b143 (ja_X13_isHeld_L143 n) l0 l1 l2 l4 l5 S
theorem ja_X13_isHeld_L143_ok (zs : List Int32) : ∀ n : Nat, ∀ (l0 : Nat) (l1 : Int) (l2 : Int) (l4 : Nat) (l5 : Int) (S : nk_S) (R : Int × nk_S), nk_cl ja_Tt l0 = some 13 → nk_cl ja_Tt l4 = some 12 → ja_X13_isHeld_L143 n l0 l1 l2 l4 l5 S = some R → nk_K ja_Tt mi_Γ (mi_ev zs) 1 148 143 [(0, nk_r l0), (1, nk_i l1), (2, nk_l l2), (4, nk_r l4), (5, nk_i l5)] [] S R := by
  intro n
  induction n with
  | zero => intro _ _ _ _ _ _ _ _ _ hr; cases hr
  | succ n ih => intro l0 l1 l2 l4 l5 S R t_l0 t_l4 hr; exact ja_X13_isHeld_b143_ok zs ih l0 l1 l2 l4 l5 S R t_l0 t_l4 hr
noncomputable def ja_X13_isHeld_b112 (l0 : Nat) (l1 : Int) (l2 : Int) (l4 : Nat) (S : nk_S) : Option (Int × nk_S) :=
  if 0 ≤ l1 ∧ l1 < 20480 then
  if (S.1 (ja_c l4 39) l1.toNat) < 0 then
    ja_X13_isHeld_L143 nk_big l0 l1 l2 l4 0 S
  else
    nk_bd (ja_X13_local l0 (S.1 (ja_c l4 39) l1.toNat) S) fun r3 S4 =>
    if r3 = l2 then
      ja_X13_isHeld_L143 nk_big l0 l1 l2 l4 0 S4
    else
      some (0, S4)
  else none
theorem ja_X13_isHeld_b112_ok (zs : List Int32) : ∀ (l0 : Nat) (l1 : Int) (l2 : Int) (l4 : Nat) (S : nk_S) (R : Int × nk_S), nk_cl ja_Tt l0 = some 13 → nk_cl ja_Tt l4 = some 12 → ja_X13_isHeld_b112 l0 l1 l2 l4 S = some R → nk_K ja_Tt mi_Γ (mi_ev zs) 1 148 112 [(0, nk_r l0), (1, nk_i l1), (2, nk_l l2), (4, nk_r l4)] [] S R := by
  intro l0 l1 l2 l4 S R t_l0 t_l4 hr
  unfold ja_X13_isHeld_b112 at hr
  refine nk_p (i := .aload 4) (len := 2) (pc' := 114) mJ_148 (by decide +kernel) (ns_aload 3 rfl) rfl ?_
  refine nk_getC (f := (4, 0, 20480)) (x := 533) (len := 3) (ci := 12) (k := 39) (pc' := 117) ja_okT mJ_148 (by decide +kernel) (by decide +kernel) (by decide +kernel) (by decide) t_l4 rfl ?_
  have t1 : nk_ar ja_Tt (ja_c l4 39) = some (0, 20480) := nk_ta ja_okT t_l4 (by decide +kernel)
  refine nk_p (i := .iload_n 1) (len := 1) (pc' := 118) mJ_148 (by decide +kernel) (ns_iload_n 1 rfl rfl) rfl ?_
  obtain ⟨h2, hr⟩ := nk_cke hr
  refine nk_bald (t := 0) (len := 1) (N := 20480) (pc' := 119) mJ_148 (by decide +kernel) t1 (by decide) h2.1 h2.2 rfl rfl ?_
  refine nk_icond (c := .lt) (off := 21) (len := 3) (t := 140) (pc' := 122) mJ_148 (by decide +kernel) (by decide +kernel) rfl (fun hc => ?_) (fun hc => ?_)
  · have hr := nk_ifp (c := (S.1 (ja_c l4 39) l1.toNat) < 0) hc hr
    refine nk_p (i := .iconst 0) (len := 1) (pc' := 141) mJ_148 (by decide +kernel) (ns_iconst (c := 0) (by decide +kernel)) rfl ?_
    refine nk_p (i := .istore 5) (len := 2) (pc' := 143) mJ_148 (by decide +kernel) (ns_istore (L' := [(5, nk_i 0), (0, nk_r l0), (1, nk_i l1), (2, nk_l l2), (4, nk_r l4)]) rfl rfl (by decide +kernel)) rfl ?_
    refine nk_sub [1, 2, 3, 4, 0] (L' := [(0, nk_r l0), (1, nk_i l1), (2, nk_l l2), (4, nk_r l4), (5, nk_i 0)]) rfl ?_
    exact ja_X13_isHeld_L143_ok zs nk_big _ _ _ _ _ _ _ t_l0 t_l4 hr
  · have hr := nk_ifn (c := (S.1 (ja_c l4 39) l1.toNat) < 0) hc hr
    refine nk_p (i := .aload_n 0) (len := 1) (pc' := 123) mJ_148 (by decide +kernel) (ns_aload_n 0 rfl rfl) rfl ?_
    refine nk_p (i := .aload 4) (len := 2) (pc' := 125) mJ_148 (by decide +kernel) (ns_aload 3 rfl) rfl ?_
    refine nk_getC (f := (4, 0, 20480)) (x := 533) (len := 3) (ci := 12) (k := 39) (pc' := 128) ja_okT mJ_148 (by decide +kernel) (by decide +kernel) (by decide +kernel) (by decide) t_l4 rfl ?_
    refine nk_p (i := .iload_n 1) (len := 1) (pc' := 129) mJ_148 (by decide +kernel) (ns_iload_n 1 rfl rfl) rfl ?_
    refine nk_bald (t := 0) (len := 1) (N := 20480) (pc' := 130) mJ_148 (by decide +kernel) t1 (by decide) h2.1 h2.2 rfl rfl ?_
    obtain ⟨r3, S4, h5, hr⟩ := nk_bde hr
    refine nk_callV (ci := 13) (n := 1) (x := 856) (len := 3) (j' := 185) (q' := 2) (r := r3) (S' := S4) (L2 := [(0, nk_r l0), (1, nk_i (S.1 (ja_c l4 39) l1.toNat))]) (rest := []) (st' := [nk_l r3]) (pc' := 133) mJ_148 (by decide +kernel) (by decide +kernel) rfl rfl t_l0 (Nat.le_of_ble_eq_true rfl) mJ_185 (Nat.le_of_ble_eq_true rfl) rfl (ja_X13_local_ok zs _ _ _ _ t_l0 h5) rfl ?_
    refine nk_p (i := .lload_n 2) (len := 1) (pc' := 134) mJ_148 (by decide +kernel) (ns_lload_n 2 rfl rfl) rfl ?_
    refine nk_p (i := .lcmp) (len := 1) (pc' := 135) mJ_148 (by decide +kernel) ns_lcmp rfl ?_
    refine nk_lcond (c := .eq) (off := 5) (len := 3) (t := 140) (pc' := 138) mJ_148 (by decide +kernel) (by decide +kernel) rfl (fun hc => ?_) (fun hc => ?_)
    · have hr := nk_ifp (c := r3 = l2) hc hr
      refine nk_p (i := .iconst 0) (len := 1) (pc' := 141) mJ_148 (by decide +kernel) (ns_iconst (c := 0) (by decide +kernel)) rfl ?_
      refine nk_p (i := .istore 5) (len := 2) (pc' := 143) mJ_148 (by decide +kernel) (ns_istore (L' := [(5, nk_i 0), (0, nk_r l0), (1, nk_i l1), (2, nk_l l2), (4, nk_r l4)]) rfl rfl (by decide +kernel)) rfl ?_
      refine nk_sub [1, 2, 3, 4, 0] (L' := [(0, nk_r l0), (1, nk_i l1), (2, nk_l l2), (4, nk_r l4), (5, nk_i 0)]) rfl ?_
      exact ja_X13_isHeld_L143_ok zs nk_big _ _ _ _ _ _ _ t_l0 t_l4 hr
    · have hr := nk_ifn (c := r3 = l2) hc hr
      refine nk_p (i := .iconst 0) (len := 1) (pc' := 139) mJ_148 (by decide +kernel) (ns_iconst (c := 0) (by decide +kernel)) rfl ?_
      cases hr
      exact nk_iret (ty := .boolean) (len := 1) mJ_148 (by decide +kernel) rfl (nk_nar_z (by decide))
noncomputable def ja_X13_isHeld_b64 (l0 : Nat) (l1 : Int) (l2 : Int) (l4 : Nat) (S : nk_S) : Option (Int × nk_S) :=
  if 0 ≤ l1 ∧ l1 < 20480 then
  if (S.1 (ja_c l4 35) l1.toNat) = 2 then
    nk_bd (ja_X13_isInt l2 S) fun r3 S4 =>
    if r3 = 0 then
      if l2 = 1125899906842624 then
        some (0, S4)
      else
        nk_bd (ja_X13_siteOf l0 l2 S4) fun r7 S8 =>
        if (nk_land (nk_lshr (S4.1 (ja_c l4 38) l1.toNat) r7) 1) = 0 then
          some (0, S8)
        else
          ja_X13_isHeld_b112 l0 l1 l2 l4 S8
    else
      some (0, S4)
  else
    ja_X13_isHeld_b112 l0 l1 l2 l4 S
  else none
theorem ja_X13_isHeld_b64_ok (zs : List Int32) : ∀ (l0 : Nat) (l1 : Int) (l2 : Int) (l4 : Nat) (S : nk_S) (R : Int × nk_S), nk_cl ja_Tt l0 = some 13 → nk_cl ja_Tt l4 = some 12 → ja_X13_isHeld_b64 l0 l1 l2 l4 S = some R → nk_K ja_Tt mi_Γ (mi_ev zs) 1 148 64 [(0, nk_r l0), (1, nk_i l1), (2, nk_l l2), (4, nk_r l4)] [] S R := by
  intro l0 l1 l2 l4 S R t_l0 t_l4 hr
  unfold ja_X13_isHeld_b64 at hr
  refine nk_p (i := .aload 4) (len := 2) (pc' := 66) mJ_148 (by decide +kernel) (ns_aload 3 rfl) rfl ?_
  refine nk_getC (f := (4, 0, 20480)) (x := 529) (len := 3) (ci := 12) (k := 35) (pc' := 69) ja_okT mJ_148 (by decide +kernel) (by decide +kernel) (by decide +kernel) (by decide) t_l4 rfl ?_
  have t1 : nk_ar ja_Tt (ja_c l4 35) = some (0, 20480) := nk_ta ja_okT t_l4 (by decide +kernel)
  refine nk_p (i := .iload_n 1) (len := 1) (pc' := 70) mJ_148 (by decide +kernel) (ns_iload_n 1 rfl rfl) rfl ?_
  obtain ⟨h2, hr⟩ := nk_cke hr
  refine nk_bald (t := 0) (len := 1) (N := 20480) (pc' := 71) mJ_148 (by decide +kernel) t1 (by decide) h2.1 h2.2 rfl rfl ?_
  refine nk_p (i := .iconst 2) (len := 1) (pc' := 72) mJ_148 (by decide +kernel) (ns_iconst (c := 2) (by decide +kernel)) rfl ?_
  refine nk_icmp (c := .ne) (off := 40) (len := 3) (t := 112) (pc' := 75) mJ_148 (by decide +kernel) (by decide +kernel) rfl (fun hc => ?_) (fun hc => ?_)
  · have hr := nk_ifn (c := (S.1 (ja_c l4 35) l1.toNat) = 2) hc hr
    exact ja_X13_isHeld_b112_ok zs _ _ _ _ _ _ t_l0 t_l4 hr
  · have hr := nk_ifp (c := (S.1 (ja_c l4 35) l1.toNat) = 2) (Decidable.of_not_not hc) hr
    refine nk_p (i := .lload_n 2) (len := 1) (pc' := 76) mJ_148 (by decide +kernel) (ns_lload_n 2 rfl rfl) rfl ?_
    obtain ⟨r3, S4, h5, hr⟩ := nk_bde hr
    refine nk_callS (ci := 0) (n := 1) (x := 862) (len := 3) (j' := 149) (q' := 1) (r := r3) (S' := S4) (L2 := [(0, nk_l l2)]) (rest := []) (st' := [nk_i r3]) (pc' := 79) mJ_148 (by decide +kernel) (by decide +kernel) (Nat.le_of_ble_eq_true rfl) rfl rfl (Nat.le_of_ble_eq_true rfl) mJ_149 (Nat.le_of_ble_eq_true rfl) ja_Tpos rfl (ja_X13_isInt_ok zs _ _ _ h5) rfl ?_
    refine nk_icond (c := .ne) (off := 31) (len := 3) (t := 110) (pc' := 82) mJ_148 (by decide +kernel) (by decide +kernel) rfl (fun hc => ?_) (fun hc => ?_)
    · have hr := nk_ifn (c := r3 = 0) hc hr
      refine nk_p (i := .iconst 0) (len := 1) (pc' := 111) mJ_148 (by decide +kernel) (ns_iconst (c := 0) (by decide +kernel)) rfl ?_
      cases hr
      exact nk_iret (ty := .boolean) (len := 1) mJ_148 (by decide +kernel) rfl (nk_nar_z (by decide))
    · have hr := nk_ifp (c := r3 = 0) (Decidable.of_not_not hc) hr
      refine nk_p (i := .lload_n 2) (len := 1) (pc' := 83) mJ_148 (by decide +kernel) (ns_lload_n 2 rfl rfl) rfl ?_
      refine nk_ldc2 (x := 844) (len := 3) (X := 1125899906842624) (v := 1125899906842624) (pc' := 86) mJ_148 (by decide +kernel) (by decide +kernel) (by decide +kernel) rfl ?_
      refine nk_p (i := .lcmp) (len := 1) (pc' := 87) mJ_148 (by decide +kernel) ns_lcmp rfl ?_
      refine nk_lcond (c := .eq) (off := 23) (len := 3) (t := 110) (pc' := 90) mJ_148 (by decide +kernel) (by decide +kernel) rfl (fun hc => ?_) (fun hc => ?_)
      · have hr := nk_ifp (c := l2 = 1125899906842624) hc hr
        refine nk_p (i := .iconst 0) (len := 1) (pc' := 111) mJ_148 (by decide +kernel) (ns_iconst (c := 0) (by decide +kernel)) rfl ?_
        cases hr
        exact nk_iret (ty := .boolean) (len := 1) mJ_148 (by decide +kernel) rfl (nk_nar_z (by decide))
      · have hr := nk_ifn (c := l2 = 1125899906842624) hc hr
        refine nk_p (i := .aload 4) (len := 2) (pc' := 92) mJ_148 (by decide +kernel) (ns_aload 3 rfl) rfl ?_
        refine nk_getC (f := (4, 2, 20480)) (x := 532) (len := 3) (ci := 12) (k := 38) (pc' := 95) ja_okT mJ_148 (by decide +kernel) (by decide +kernel) (by decide +kernel) (by decide) t_l4 rfl ?_
        have t6 : nk_ar ja_Tt (ja_c l4 38) = some (2, 20480) := nk_ta ja_okT t_l4 (by decide +kernel)
        refine nk_p (i := .iload_n 1) (len := 1) (pc' := 96) mJ_148 (by decide +kernel) (ns_iload_n 1 rfl rfl) rfl ?_
        refine nk_lald (len := 1) (N := 20480) (pc' := 97) mJ_148 (by decide +kernel) t6 h2.1 h2.2 rfl rfl ?_
        refine nk_p (i := .aload_n 0) (len := 1) (pc' := 98) mJ_148 (by decide +kernel) (ns_aload_n 0 rfl rfl) rfl ?_
        refine nk_p (i := .lload_n 2) (len := 1) (pc' := 99) mJ_148 (by decide +kernel) (ns_lload_n 2 rfl rfl) rfl ?_
        obtain ⟨r7, S8, h9, hr⟩ := nk_bde hr
        refine nk_callV (ci := 13) (n := 1) (x := 865) (len := 3) (j' := 223) (q' := 1) (r := r7) (S' := S8) (L2 := [(0, nk_r l0), (1, nk_l l2)]) (rest := [nk_l (S4.1 (ja_c l4 38) l1.toNat)]) (st' := [nk_i r7, nk_l (S4.1 (ja_c l4 38) l1.toNat)]) (pc' := 102) mJ_148 (by decide +kernel) (by decide +kernel) rfl rfl t_l0 (Nat.le_of_ble_eq_true rfl) mJ_223 (Nat.le_of_ble_eq_true rfl) rfl (ja_X13_siteOf_ok zs _ _ _ _ t_l0 h9) rfl ?_
        refine nk_p (i := .lshr) (len := 1) (pc' := 103) mJ_148 (by decide +kernel) ns_lshr rfl ?_
        refine nk_p (i := .lconst 1) (len := 1) (pc' := 104) mJ_148 (by decide +kernel) (ns_lconst (c := 1) (by decide +kernel)) rfl ?_
        refine nk_p (i := .land) (len := 1) (pc' := 105) mJ_148 (by decide +kernel) ns_land rfl ?_
        refine nk_p (i := .lconst 0) (len := 1) (pc' := 106) mJ_148 (by decide +kernel) (ns_lconst (c := 0) (by decide +kernel)) rfl ?_
        refine nk_p (i := .lcmp) (len := 1) (pc' := 107) mJ_148 (by decide +kernel) ns_lcmp rfl ?_
        refine nk_lcond (c := .ne) (off := 5) (len := 3) (t := 112) (pc' := 110) mJ_148 (by decide +kernel) (by decide +kernel) rfl (fun hc => ?_) (fun hc => ?_)
        · have hr := nk_ifn (c := (nk_land (nk_lshr (S4.1 (ja_c l4 38) l1.toNat) r7) 1) = 0) hc hr
          exact ja_X13_isHeld_b112_ok zs _ _ _ _ _ _ t_l0 t_l4 hr
        · have hr := nk_ifp (c := (nk_land (nk_lshr (S4.1 (ja_c l4 38) l1.toNat) r7) 1) = 0) (Decidable.of_not_not hc) hr
          refine nk_p (i := .iconst 0) (len := 1) (pc' := 111) mJ_148 (by decide +kernel) (ns_iconst (c := 0) (by decide +kernel)) rfl ?_
          cases hr
          exact nk_iret (ty := .boolean) (len := 1) mJ_148 (by decide +kernel) rfl (nk_nar_z (by decide))
noncomputable def ja_X13_isHeld (l0 : Nat) (l1 : Int) (l2 : Int) (S : nk_S) : Option (Int × nk_S) :=
  if 0 ≤ l1 ∧ l1 < 20480 then
  if (S.1 (ja_c (S.2 l0 0) 35) l1.toNat) = 0 then
    some (1, S)
  else
    if (S.1 (ja_c (S.2 l0 0) 35) l1.toNat) = 1 then
      nk_bd (ja_X13_isInt l2 S) fun r4 S5 =>
      if r4 = 0 then
        some (0, S5)
      else
        if l2 < (S5.1 (ja_c (S.2 l0 0) 36) l1.toNat) then
          some (0, S5)
        else
          if l2 ≤ (S5.1 (ja_c (S.2 l0 0) 37) l1.toNat) then
            ja_X13_isHeld_b64 l0 l1 l2 (S.2 l0 0) S5
          else
            some (0, S5)
    else
      ja_X13_isHeld_b64 l0 l1 l2 (S.2 l0 0) S
  else none
theorem ja_X13_isHeld_ok (zs : List Int32) : ∀ (l0 : Nat) (l1 : Int) (l2 : Int) (S : nk_S) (R : Int × nk_S), nk_cl ja_Tt l0 = some 13 → ja_X13_isHeld l0 l1 l2 S = some R → nk_K ja_Tt mi_Γ (mi_ev zs) 1 148 0 [(0, nk_r l0), (1, nk_i l1), (2, nk_l l2)] [] S R := by
  intro l0 l1 l2 S R t_l0 hr
  unfold ja_X13_isHeld at hr
  refine nk_p (i := .aload_n 0) (len := 1) (pc' := 1) mJ_148 (by decide +kernel) (ns_aload_n 0 rfl rfl) rfl ?_
  refine nk_getM (cj := 12) (z := 0) (x := 12) (len := 3) (ci := 13) (k := 0) (pc' := 4) ja_okT mJ_148 (by decide +kernel) (by decide +kernel) (by decide +kernel) t_l0 rfl (fun t1 => ?_)
  refine nk_p (i := .astore 4) (len := 2) (pc' := 6) mJ_148 (by decide +kernel) (ns_astore (L' := [(4, nk_r (S.2 l0 0)), (0, nk_r l0), (1, nk_i l1), (2, nk_l l2)]) rfl (by decide +kernel)) rfl ?_
  refine nk_p (i := .aload 4) (len := 2) (pc' := 8) mJ_148 (by decide +kernel) (ns_aload 0 rfl) rfl ?_
  refine nk_getC (f := (4, 0, 20480)) (x := 529) (len := 3) (ci := 12) (k := 35) (pc' := 11) ja_okT mJ_148 (by decide +kernel) (by decide +kernel) (by decide +kernel) (by decide) t1 rfl ?_
  have t2 : nk_ar ja_Tt (ja_c (S.2 l0 0) 35) = some (0, 20480) := nk_ta ja_okT t1 (by decide +kernel)
  refine nk_p (i := .iload_n 1) (len := 1) (pc' := 12) mJ_148 (by decide +kernel) (ns_iload_n 2 rfl rfl) rfl ?_
  obtain ⟨h3, hr⟩ := nk_cke hr
  refine nk_bald (t := 0) (len := 1) (N := 20480) (pc' := 13) mJ_148 (by decide +kernel) t2 (by decide) h3.1 h3.2 rfl rfl ?_
  refine nk_icond (c := .ne) (off := 5) (len := 3) (t := 18) (pc' := 16) mJ_148 (by decide +kernel) (by decide +kernel) rfl (fun hc => ?_) (fun hc => ?_)
  · have hr := nk_ifn (c := (S.1 (ja_c (S.2 l0 0) 35) l1.toNat) = 0) hc hr
    refine nk_p (i := .aload 4) (len := 2) (pc' := 20) mJ_148 (by decide +kernel) (ns_aload 0 rfl) rfl ?_
    refine nk_getC (f := (4, 0, 20480)) (x := 529) (len := 3) (ci := 12) (k := 35) (pc' := 23) ja_okT mJ_148 (by decide +kernel) (by decide +kernel) (by decide +kernel) (by decide) t1 rfl ?_
    refine nk_p (i := .iload_n 1) (len := 1) (pc' := 24) mJ_148 (by decide +kernel) (ns_iload_n 2 rfl rfl) rfl ?_
    refine nk_bald (t := 0) (len := 1) (N := 20480) (pc' := 25) mJ_148 (by decide +kernel) t2 (by decide) h3.1 h3.2 rfl rfl ?_
    refine nk_p (i := .iconst 1) (len := 1) (pc' := 26) mJ_148 (by decide +kernel) (ns_iconst (c := 1) (by decide +kernel)) rfl ?_
    refine nk_icmp (c := .ne) (off := 38) (len := 3) (t := 64) (pc' := 29) mJ_148 (by decide +kernel) (by decide +kernel) rfl (fun hc => ?_) (fun hc => ?_)
    · have hr := nk_ifn (c := (S.1 (ja_c (S.2 l0 0) 35) l1.toNat) = 1) hc hr
      refine nk_sub [1, 2, 3, 0] (L' := [(0, nk_r l0), (1, nk_i l1), (2, nk_l l2), (4, nk_r (S.2 l0 0))]) rfl ?_
      exact ja_X13_isHeld_b64_ok zs _ _ _ _ _ _ t_l0 t1 hr
    · have hr := nk_ifp (c := (S.1 (ja_c (S.2 l0 0) 35) l1.toNat) = 1) (Decidable.of_not_not hc) hr
      refine nk_p (i := .lload_n 2) (len := 1) (pc' := 30) mJ_148 (by decide +kernel) (ns_lload_n 3 rfl rfl) rfl ?_
      obtain ⟨r4, S5, h6, hr⟩ := nk_bde hr
      refine nk_callS (ci := 0) (n := 1) (x := 862) (len := 3) (j' := 149) (q' := 1) (r := r4) (S' := S5) (L2 := [(0, nk_l l2)]) (rest := []) (st' := [nk_i r4]) (pc' := 33) mJ_148 (by decide +kernel) (by decide +kernel) (Nat.le_of_ble_eq_true rfl) rfl rfl (Nat.le_of_ble_eq_true rfl) mJ_149 (Nat.le_of_ble_eq_true rfl) ja_Tpos rfl (ja_X13_isInt_ok zs _ _ _ h6) rfl ?_
      refine nk_icond (c := .eq) (off := 29) (len := 3) (t := 62) (pc' := 36) mJ_148 (by decide +kernel) (by decide +kernel) rfl (fun hc => ?_) (fun hc => ?_)
      · have hr := nk_ifp (c := r4 = 0) hc hr
        refine nk_p (i := .iconst 0) (len := 1) (pc' := 63) mJ_148 (by decide +kernel) (ns_iconst (c := 0) (by decide +kernel)) rfl ?_
        cases hr
        exact nk_iret (ty := .boolean) (len := 1) mJ_148 (by decide +kernel) rfl (nk_nar_z (by decide))
      · have hr := nk_ifn (c := r4 = 0) hc hr
        refine nk_p (i := .lload_n 2) (len := 1) (pc' := 37) mJ_148 (by decide +kernel) (ns_lload_n 3 rfl rfl) rfl ?_
        refine nk_p (i := .aload 4) (len := 2) (pc' := 39) mJ_148 (by decide +kernel) (ns_aload 0 rfl) rfl ?_
        refine nk_getC (f := (4, 1, 20480)) (x := 530) (len := 3) (ci := 12) (k := 36) (pc' := 42) ja_okT mJ_148 (by decide +kernel) (by decide +kernel) (by decide +kernel) (by decide) t1 rfl ?_
        have t7 : nk_ar ja_Tt (ja_c (S.2 l0 0) 36) = some (1, 20480) := nk_ta ja_okT t1 (by decide +kernel)
        refine nk_p (i := .iload_n 1) (len := 1) (pc' := 43) mJ_148 (by decide +kernel) (ns_iload_n 2 rfl rfl) rfl ?_
        refine nk_iald (len := 1) (N := 20480) (pc' := 44) mJ_148 (by decide +kernel) t7 h3.1 h3.2 rfl rfl ?_
        refine nk_p (i := .i2l) (len := 1) (pc' := 45) mJ_148 (by decide +kernel) ns_i2l rfl ?_
        refine nk_p (i := .lcmp) (len := 1) (pc' := 46) mJ_148 (by decide +kernel) ns_lcmp rfl ?_
        refine nk_lcond (c := .lt) (off := 16) (len := 3) (t := 62) (pc' := 49) mJ_148 (by decide +kernel) (by decide +kernel) rfl (fun hc => ?_) (fun hc => ?_)
        · have hr := nk_ifp (c := l2 < (S5.1 (ja_c (S.2 l0 0) 36) l1.toNat)) hc hr
          refine nk_p (i := .iconst 0) (len := 1) (pc' := 63) mJ_148 (by decide +kernel) (ns_iconst (c := 0) (by decide +kernel)) rfl ?_
          cases hr
          exact nk_iret (ty := .boolean) (len := 1) mJ_148 (by decide +kernel) rfl (nk_nar_z (by decide))
        · have hr := nk_ifn (c := l2 < (S5.1 (ja_c (S.2 l0 0) 36) l1.toNat)) hc hr
          refine nk_p (i := .lload_n 2) (len := 1) (pc' := 50) mJ_148 (by decide +kernel) (ns_lload_n 3 rfl rfl) rfl ?_
          refine nk_p (i := .aload 4) (len := 2) (pc' := 52) mJ_148 (by decide +kernel) (ns_aload 0 rfl) rfl ?_
          refine nk_getC (f := (4, 1, 20480)) (x := 531) (len := 3) (ci := 12) (k := 37) (pc' := 55) ja_okT mJ_148 (by decide +kernel) (by decide +kernel) (by decide +kernel) (by decide) t1 rfl ?_
          have t8 : nk_ar ja_Tt (ja_c (S.2 l0 0) 37) = some (1, 20480) := nk_ta ja_okT t1 (by decide +kernel)
          refine nk_p (i := .iload_n 1) (len := 1) (pc' := 56) mJ_148 (by decide +kernel) (ns_iload_n 2 rfl rfl) rfl ?_
          refine nk_iald (len := 1) (N := 20480) (pc' := 57) mJ_148 (by decide +kernel) t8 h3.1 h3.2 rfl rfl ?_
          refine nk_p (i := .i2l) (len := 1) (pc' := 58) mJ_148 (by decide +kernel) ns_i2l rfl ?_
          refine nk_p (i := .lcmp) (len := 1) (pc' := 59) mJ_148 (by decide +kernel) ns_lcmp rfl ?_
          refine nk_lcond (c := .le) (off := 5) (len := 3) (t := 64) (pc' := 62) mJ_148 (by decide +kernel) (by decide +kernel) rfl (fun hc => ?_) (fun hc => ?_)
          · have hr := nk_ifp (c := l2 ≤ (S5.1 (ja_c (S.2 l0 0) 37) l1.toNat)) hc hr
            refine nk_sub [1, 2, 3, 0] (L' := [(0, nk_r l0), (1, nk_i l1), (2, nk_l l2), (4, nk_r (S.2 l0 0))]) rfl ?_
            exact ja_X13_isHeld_b64_ok zs _ _ _ _ _ _ t_l0 t1 hr
          · have hr := nk_ifn (c := l2 ≤ (S5.1 (ja_c (S.2 l0 0) 37) l1.toNat)) hc hr
            refine nk_p (i := .iconst 0) (len := 1) (pc' := 63) mJ_148 (by decide +kernel) (ns_iconst (c := 0) (by decide +kernel)) rfl ?_
            cases hr
            exact nk_iret (ty := .boolean) (len := 1) mJ_148 (by decide +kernel) rfl (nk_nar_z (by decide))
  · have hr := nk_ifp (c := (S.1 (ja_c (S.2 l0 0) 35) l1.toNat) = 0) (Decidable.of_not_not hc) hr
    refine nk_p (i := .iconst 1) (len := 1) (pc' := 17) mJ_148 (by decide +kernel) (ns_iconst (c := 1) (by decide +kernel)) rfl ?_
    cases hr
    exact nk_iret (ty := .boolean) (len := 1) mJ_148 (by decide +kernel) rfl (nk_nar_z (by decide))
/-! SafeCodeModel holds (I)Z -/
noncomputable def ja_X13_holds_b88 (rec39 : Nat → Int → Int → nk_S → Option (Int × nk_S)) (l0 : Nat) (l1 : Int) (l2 : Int) (s0 : Int) (S : nk_S) : Option (Int × nk_S) :=
  nk_bd (ja_X13_isHeld l0 (nk_w ((nk_w (l1 * 20)) + l2)) s0 S) fun r1 S2 =>
  if r1 = 0 then
    some (0, S2)
  else
    nk_lt (nk_w (l2 + 1)) fun v4 =>
    rec39 l0 l1 v4 S2
theorem ja_X13_holds_b88_ok (zs : List Int32) {rec39 : Nat → Int → Int → nk_S → Option (Int × nk_S)} (hrec39 : ∀ (l0 : Nat) (l1 : Int) (l2 : Int) (S : nk_S) (R : Int × nk_S), nk_cl ja_Tt l0 = some 13 → rec39 l0 l1 l2 S = some R → nk_K ja_Tt mi_Γ (mi_ev zs) 1 133 39 [(0, nk_r l0), (1, nk_i l1), (2, nk_i l2)] [] S R) : ∀ (l0 : Nat) (l1 : Int) (l2 : Int) (s0 : Int) (S : nk_S) (R : Int × nk_S), nk_cl ja_Tt l0 = some 13 → ja_X13_holds_b88 rec39 l0 l1 l2 s0 S = some R → nk_K ja_Tt mi_Γ (mi_ev zs) 1 133 88 [(0, nk_r l0), (1, nk_i l1), (2, nk_i l2)] [nk_l s0] S R := by
  intro l0 l1 l2 s0 S R t_l0 hr
  unfold ja_X13_holds_b88 at hr
  refine nk_p (i := .lstore_n 3) (len := 1) (pc' := 89) mJ_133 (by decide +kernel) (ns_lstore_n (L' := [(3, nk_l s0), (0, nk_r l0), (1, nk_i l1), (2, nk_i l2)]) rfl rfl rfl (by decide +kernel)) rfl ?_
  refine nk_p (i := .aload_n 0) (len := 1) (pc' := 90) mJ_133 (by decide +kernel) (ns_aload_n 1 rfl rfl) rfl ?_
  refine nk_p (i := .iload_n 1) (len := 1) (pc' := 91) mJ_133 (by decide +kernel) (ns_iload_n 2 rfl rfl) rfl ?_
  refine nk_p (i := .bipush 20) (len := 2) (pc' := 93) mJ_133 (by decide +kernel) (ns_bipush (c := 20) (by decide +kernel)) rfl ?_
  refine nk_p (i := .imul) (len := 1) (pc' := 94) mJ_133 (by decide +kernel) ns_imul rfl ?_
  refine nk_p (i := .iload_n 2) (len := 1) (pc' := 95) mJ_133 (by decide +kernel) (ns_iload_n 3 rfl rfl) rfl ?_
  refine nk_p (i := .iadd) (len := 1) (pc' := 96) mJ_133 (by decide +kernel) ns_iadd rfl ?_
  refine nk_p (i := .lload_n 3) (len := 1) (pc' := 97) mJ_133 (by decide +kernel) (ns_lload_n 0 rfl rfl) rfl ?_
  obtain ⟨r1, S2, h3, hr⟩ := nk_bde hr
  refine nk_callV (ci := 13) (n := 2) (x := 859) (len := 3) (j' := 148) (q' := 1) (r := r1) (S' := S2) (L2 := [(0, nk_r l0), (1, nk_i (nk_w ((nk_w (l1 * 20)) + l2))), (2, nk_l s0)]) (rest := []) (st' := [nk_i r1]) (pc' := 100) mJ_133 (by decide +kernel) (by decide +kernel) rfl rfl t_l0 (Nat.le_of_ble_eq_true rfl) mJ_148 (Nat.le_of_ble_eq_true rfl) rfl (ja_X13_isHeld_ok zs _ _ _ _ _ t_l0 h3) rfl ?_
  refine nk_icond (c := .ne) (off := 5) (len := 3) (t := 105) (pc' := 103) mJ_133 (by decide +kernel) (by decide +kernel) rfl (fun hc => ?_) (fun hc => ?_)
  · have hr := nk_ifn (c := r1 = 0) hc hr
    obtain ⟨v4, h5, hr⟩ := nk_lte hr
    refine nk_p (i := .iinc 2 1) (len := 3) (pc' := 108) mJ_133 (by decide +kernel) (ns_iinc (c := 1) (L' := [(2, nk_i v4), (3, nk_l s0), (0, nk_r l0), (1, nk_i l1)]) 3 rfl (by decide +kernel) h5 rfl (by decide +kernel)) rfl ?_
    refine nk_p (i := .goto (-69)) (len := 3) (pc' := 39) mJ_133 (by decide +kernel) (ns_goto (by decide +kernel)) rfl ?_
    refine nk_sub [2, 3, 0] (L' := [(0, nk_r l0), (1, nk_i l1), (2, nk_i v4)]) rfl ?_
    exact hrec39 _ _ _ _ _ t_l0 hr
  · have hr := nk_ifp (c := r1 = 0) (Decidable.of_not_not hc) hr
    refine nk_p (i := .iconst 0) (len := 1) (pc' := 104) mJ_133 (by decide +kernel) (ns_iconst (c := 0) (by decide +kernel)) rfl ?_
    cases hr
    exact nk_iret (ty := .boolean) (len := 1) mJ_133 (by decide +kernel) rfl (nk_nar_z (by decide))
noncomputable def ja_X13_holds_b39 (rec39 : Nat → Int → Int → nk_S → Option (Int × nk_S)) (l0 : Nat) (l1 : Int) (l2 : Int) (S : nk_S) : Option (Int × nk_S) :=
  if 0 ≤ l1 ∧ l1 < 1024 then
  if (nk_w (12 + (S.1 (ja_c (S.2 l0 0) 26) l1.toNat))) ≤ l2 then
    some (1, S)
  else
    if 12 ≤ l2 then
      if 0 ≤ (nk_w ((nk_w ((nk_w ((nk_w ((S.1 l0 52) - 1)) * 8)) + l2)) - 12)) ∧ (nk_w ((nk_w ((nk_w ((nk_w ((S.1 l0 52) - 1)) * 8)) + l2)) - 12)) < 512 then
      ja_X13_holds_b88 rec39 l0 l1 l2 (S.1 (ja_c l0 42) (nk_w ((nk_w ((nk_w ((nk_w ((S.1 l0 52) - 1)) * 8)) + l2)) - 12)).toNat) S
      else none
    else
      nk_bd (ja_X13_local l0 l2 S) fun r6 S7 =>
      ja_X13_holds_b88 rec39 l0 l1 l2 r6 S7
  else none
theorem ja_X13_holds_b39_ok (zs : List Int32) {rec39 : Nat → Int → Int → nk_S → Option (Int × nk_S)} (hrec39 : ∀ (l0 : Nat) (l1 : Int) (l2 : Int) (S : nk_S) (R : Int × nk_S), nk_cl ja_Tt l0 = some 13 → rec39 l0 l1 l2 S = some R → nk_K ja_Tt mi_Γ (mi_ev zs) 1 133 39 [(0, nk_r l0), (1, nk_i l1), (2, nk_i l2)] [] S R) : ∀ (l0 : Nat) (l1 : Int) (l2 : Int) (S : nk_S) (R : Int × nk_S), nk_cl ja_Tt l0 = some 13 → ja_X13_holds_b39 rec39 l0 l1 l2 S = some R → nk_K ja_Tt mi_Γ (mi_ev zs) 1 133 39 [(0, nk_r l0), (1, nk_i l1), (2, nk_i l2)] [] S R := by
  intro l0 l1 l2 S R t_l0 hr
  unfold ja_X13_holds_b39 at hr
  refine nk_p (i := .iload_n 2) (len := 1) (pc' := 40) mJ_133 (by decide +kernel) (ns_iload_n 2 rfl rfl) rfl ?_
  refine nk_p (i := .bipush 12) (len := 2) (pc' := 42) mJ_133 (by decide +kernel) (ns_bipush (c := 12) (by decide +kernel)) rfl ?_
  refine nk_p (i := .aload_n 0) (len := 1) (pc' := 43) mJ_133 (by decide +kernel) (ns_aload_n 0 rfl rfl) rfl ?_
  refine nk_getM (cj := 12) (z := 0) (x := 12) (len := 3) (ci := 13) (k := 0) (pc' := 46) ja_okT mJ_133 (by decide +kernel) (by decide +kernel) (by decide +kernel) t_l0 rfl (fun t1 => ?_)
  refine nk_getC (f := (4, 1, 1024)) (x := 474) (len := 3) (ci := 12) (k := 26) (pc' := 49) ja_okT mJ_133 (by decide +kernel) (by decide +kernel) (by decide +kernel) (by decide) t1 rfl ?_
  have t2 : nk_ar ja_Tt (ja_c (S.2 l0 0) 26) = some (1, 1024) := nk_ta ja_okT t1 (by decide +kernel)
  refine nk_p (i := .iload_n 1) (len := 1) (pc' := 50) mJ_133 (by decide +kernel) (ns_iload_n 1 rfl rfl) rfl ?_
  obtain ⟨h3, hr⟩ := nk_cke hr
  refine nk_iald (len := 1) (N := 1024) (pc' := 51) mJ_133 (by decide +kernel) t2 h3.1 h3.2 rfl rfl ?_
  refine nk_p (i := .iadd) (len := 1) (pc' := 52) mJ_133 (by decide +kernel) ns_iadd rfl ?_
  refine nk_icmp (c := .ge) (off := 59) (len := 3) (t := 111) (pc' := 55) mJ_133 (by decide +kernel) (by decide +kernel) rfl (fun hc => ?_) (fun hc => ?_)
  · have hr := nk_ifp (c := (nk_w (12 + (S.1 (ja_c (S.2 l0 0) 26) l1.toNat))) ≤ l2) hc hr
    refine nk_p (i := .iconst 1) (len := 1) (pc' := 112) mJ_133 (by decide +kernel) (ns_iconst (c := 1) (by decide +kernel)) rfl ?_
    cases hr
    exact nk_iret (ty := .boolean) (len := 1) mJ_133 (by decide +kernel) rfl (nk_nar_z (by decide))
  · have hr := nk_ifn (c := (nk_w (12 + (S.1 (ja_c (S.2 l0 0) 26) l1.toNat))) ≤ l2) hc hr
    refine nk_p (i := .iload_n 2) (len := 1) (pc' := 56) mJ_133 (by decide +kernel) (ns_iload_n 2 rfl rfl) rfl ?_
    refine nk_p (i := .bipush 12) (len := 2) (pc' := 58) mJ_133 (by decide +kernel) (ns_bipush (c := 12) (by decide +kernel)) rfl ?_
    refine nk_icmp (c := .ge) (off := 11) (len := 3) (t := 69) (pc' := 61) mJ_133 (by decide +kernel) (by decide +kernel) rfl (fun hc => ?_) (fun hc => ?_)
    · have hr := nk_ifp (c := 12 ≤ l2) hc hr
      refine nk_p (i := .aload_n 0) (len := 1) (pc' := 70) mJ_133 (by decide +kernel) (ns_aload_n 0 rfl rfl) rfl ?_
      refine nk_getC (f := (4, 2, 512)) (x := 105) (len := 3) (ci := 13) (k := 42) (pc' := 73) ja_okT mJ_133 (by decide +kernel) (by decide +kernel) (by decide +kernel) (by decide) t_l0 rfl ?_
      have t4 : nk_ar ja_Tt (ja_c l0 42) = some (2, 512) := nk_ta ja_okT t_l0 (by decide +kernel)
      refine nk_p (i := .aload_n 0) (len := 1) (pc' := 74) mJ_133 (by decide +kernel) (ns_aload_n 0 rfl rfl) rfl ?_
      refine nk_getI (y := (0, 0)) (x := 823) (len := 3) (ci := 13) (k := 52) (pc' := 77) ja_okT mJ_133 (by decide +kernel) (by decide +kernel) (by decide +kernel) t_l0 rfl ?_
      refine nk_p (i := .iconst 1) (len := 1) (pc' := 78) mJ_133 (by decide +kernel) (ns_iconst (c := 1) (by decide +kernel)) rfl ?_
      refine nk_p (i := .isub) (len := 1) (pc' := 79) mJ_133 (by decide +kernel) ns_isub rfl ?_
      refine nk_p (i := .bipush 8) (len := 2) (pc' := 81) mJ_133 (by decide +kernel) (ns_bipush (c := 8) (by decide +kernel)) rfl ?_
      refine nk_p (i := .imul) (len := 1) (pc' := 82) mJ_133 (by decide +kernel) ns_imul rfl ?_
      refine nk_p (i := .iload_n 2) (len := 1) (pc' := 83) mJ_133 (by decide +kernel) (ns_iload_n 2 rfl rfl) rfl ?_
      refine nk_p (i := .iadd) (len := 1) (pc' := 84) mJ_133 (by decide +kernel) ns_iadd rfl ?_
      refine nk_p (i := .bipush 12) (len := 2) (pc' := 86) mJ_133 (by decide +kernel) (ns_bipush (c := 12) (by decide +kernel)) rfl ?_
      refine nk_p (i := .isub) (len := 1) (pc' := 87) mJ_133 (by decide +kernel) ns_isub rfl ?_
      obtain ⟨h5, hr⟩ := nk_cke hr
      refine nk_lald (len := 1) (N := 512) (pc' := 88) mJ_133 (by decide +kernel) t4 h5.1 h5.2 rfl rfl ?_
      exact ja_X13_holds_b88_ok zs hrec39 _ _ _ _ _ _ t_l0 hr
    · have hr := nk_ifn (c := 12 ≤ l2) hc hr
      refine nk_p (i := .aload_n 0) (len := 1) (pc' := 62) mJ_133 (by decide +kernel) (ns_aload_n 0 rfl rfl) rfl ?_
      refine nk_p (i := .iload_n 2) (len := 1) (pc' := 63) mJ_133 (by decide +kernel) (ns_iload_n 2 rfl rfl) rfl ?_
      obtain ⟨r6, S7, h8, hr⟩ := nk_bde hr
      refine nk_callV (ci := 13) (n := 1) (x := 856) (len := 3) (j' := 185) (q' := 2) (r := r6) (S' := S7) (L2 := [(0, nk_r l0), (1, nk_i l2)]) (rest := []) (st' := [nk_l r6]) (pc' := 66) mJ_133 (by decide +kernel) (by decide +kernel) rfl rfl t_l0 (Nat.le_of_ble_eq_true rfl) mJ_185 (Nat.le_of_ble_eq_true rfl) rfl (ja_X13_local_ok zs _ _ _ _ t_l0 h8) rfl ?_
      refine nk_p (i := .goto 22) (len := 3) (pc' := 88) mJ_133 (by decide +kernel) (ns_goto (by decide +kernel)) rfl ?_
      exact ja_X13_holds_b88_ok zs hrec39 _ _ _ _ _ _ t_l0 hr
noncomputable def ja_X13_holds_L39 : Nat → Nat → Int → Int → nk_S → Option (Int × nk_S)
  | 0, _, _, _, _ => none
  | n + 1, l0, l1, l2, S => ja_X13_holds_b39 (ja_X13_holds_L39 n) l0 l1 l2 S
theorem ja_X13_holds_L39_ok (zs : List Int32) : ∀ n : Nat, ∀ (l0 : Nat) (l1 : Int) (l2 : Int) (S : nk_S) (R : Int × nk_S), nk_cl ja_Tt l0 = some 13 → ja_X13_holds_L39 n l0 l1 l2 S = some R → nk_K ja_Tt mi_Γ (mi_ev zs) 1 133 39 [(0, nk_r l0), (1, nk_i l1), (2, nk_i l2)] [] S R := by
  intro n
  induction n with
  | zero => intro _ _ _ _ _ _ hr; cases hr
  | succ n ih => intro l0 l1 l2 S R t_l0 hr; exact ja_X13_holds_b39_ok zs ih l0 l1 l2 S R t_l0 hr
noncomputable def ja_X13_holds (l0 : Nat) (l1 : Int) (S : nk_S) : Option (Int × nk_S) :=
  if 0 ≤ l1 ∧ l1 < 1024 then
  if (S.1 (ja_c (S.2 l0 0) 34) l1.toNat) = 0 then
    some (0, S)
  else
    if 0 ≤ (nk_w ((S.1 l0 52) - 1)) ∧ (nk_w ((S.1 l0 52) - 1)) < 64 then
    if (S.1 (ja_c (S.2 l0 0) 26) l1.toNat) = (S.1 (ja_c l0 43) (nk_w ((S.1 l0 52) - 1)).toNat) then
      ja_X13_holds_L39 nk_big l0 l1 0 S
    else
      some (0, S)
    else none
  else none
theorem ja_X13_holds_ok (zs : List Int32) : ∀ (l0 : Nat) (l1 : Int) (S : nk_S) (R : Int × nk_S), nk_cl ja_Tt l0 = some 13 → ja_X13_holds l0 l1 S = some R → nk_K ja_Tt mi_Γ (mi_ev zs) 1 133 0 [(0, nk_r l0), (1, nk_i l1)] [] S R := by
  intro l0 l1 S R t_l0 hr
  unfold ja_X13_holds at hr
  refine nk_p (i := .aload_n 0) (len := 1) (pc' := 1) mJ_133 (by decide +kernel) (ns_aload_n 0 rfl rfl) rfl ?_
  refine nk_getM (cj := 12) (z := 0) (x := 12) (len := 3) (ci := 13) (k := 0) (pc' := 4) ja_okT mJ_133 (by decide +kernel) (by decide +kernel) (by decide +kernel) t_l0 rfl (fun t1 => ?_)
  refine nk_getC (f := (4, 3, 1024)) (x := 539) (len := 3) (ci := 12) (k := 34) (pc' := 7) ja_okT mJ_133 (by decide +kernel) (by decide +kernel) (by decide +kernel) (by decide) t1 rfl ?_
  have t2 : nk_ar ja_Tt (ja_c (S.2 l0 0) 34) = some (3, 1024) := nk_ta ja_okT t1 (by decide +kernel)
  refine nk_p (i := .iload_n 1) (len := 1) (pc' := 8) mJ_133 (by decide +kernel) (ns_iload_n 1 rfl rfl) rfl ?_
  obtain ⟨h3, hr⟩ := nk_cke hr
  refine nk_bald (t := 3) (len := 1) (N := 1024) (pc' := 9) mJ_133 (by decide +kernel) t2 (by decide) h3.1 h3.2 rfl rfl ?_
  refine nk_icond (c := .eq) (off := 26) (len := 3) (t := 35) (pc' := 12) mJ_133 (by decide +kernel) (by decide +kernel) rfl (fun hc => ?_) (fun hc => ?_)
  · have hr := nk_ifp (c := (S.1 (ja_c (S.2 l0 0) 34) l1.toNat) = 0) hc hr
    refine nk_p (i := .iconst 0) (len := 1) (pc' := 36) mJ_133 (by decide +kernel) (ns_iconst (c := 0) (by decide +kernel)) rfl ?_
    cases hr
    exact nk_iret (ty := .boolean) (len := 1) mJ_133 (by decide +kernel) rfl (nk_nar_z (by decide))
  · have hr := nk_ifn (c := (S.1 (ja_c (S.2 l0 0) 34) l1.toNat) = 0) hc hr
    refine nk_p (i := .aload_n 0) (len := 1) (pc' := 13) mJ_133 (by decide +kernel) (ns_aload_n 0 rfl rfl) rfl ?_
    refine nk_getM (cj := 12) (z := 0) (x := 12) (len := 3) (ci := 13) (k := 0) (pc' := 16) ja_okT mJ_133 (by decide +kernel) (by decide +kernel) (by decide +kernel) t_l0 rfl (fun t4 => ?_)
    refine nk_getC (f := (4, 1, 1024)) (x := 474) (len := 3) (ci := 12) (k := 26) (pc' := 19) ja_okT mJ_133 (by decide +kernel) (by decide +kernel) (by decide +kernel) (by decide) t4 rfl ?_
    have t5 : nk_ar ja_Tt (ja_c (S.2 l0 0) 26) = some (1, 1024) := nk_ta ja_okT t4 (by decide +kernel)
    refine nk_p (i := .iload_n 1) (len := 1) (pc' := 20) mJ_133 (by decide +kernel) (ns_iload_n 1 rfl rfl) rfl ?_
    refine nk_iald (len := 1) (N := 1024) (pc' := 21) mJ_133 (by decide +kernel) t5 h3.1 h3.2 rfl rfl ?_
    refine nk_p (i := .aload_n 0) (len := 1) (pc' := 22) mJ_133 (by decide +kernel) (ns_aload_n 0 rfl rfl) rfl ?_
    refine nk_getC (f := (4, 1, 64)) (x := 108) (len := 3) (ci := 13) (k := 43) (pc' := 25) ja_okT mJ_133 (by decide +kernel) (by decide +kernel) (by decide +kernel) (by decide) t_l0 rfl ?_
    have t6 : nk_ar ja_Tt (ja_c l0 43) = some (1, 64) := nk_ta ja_okT t_l0 (by decide +kernel)
    refine nk_p (i := .aload_n 0) (len := 1) (pc' := 26) mJ_133 (by decide +kernel) (ns_aload_n 0 rfl rfl) rfl ?_
    refine nk_getI (y := (0, 0)) (x := 823) (len := 3) (ci := 13) (k := 52) (pc' := 29) ja_okT mJ_133 (by decide +kernel) (by decide +kernel) (by decide +kernel) t_l0 rfl ?_
    refine nk_p (i := .iconst 1) (len := 1) (pc' := 30) mJ_133 (by decide +kernel) (ns_iconst (c := 1) (by decide +kernel)) rfl ?_
    refine nk_p (i := .isub) (len := 1) (pc' := 31) mJ_133 (by decide +kernel) ns_isub rfl ?_
    obtain ⟨h7, hr⟩ := nk_cke hr
    refine nk_iald (len := 1) (N := 64) (pc' := 32) mJ_133 (by decide +kernel) t6 h7.1 h7.2 rfl rfl ?_
    refine nk_icmp (c := .eq) (off := 5) (len := 3) (t := 37) (pc' := 35) mJ_133 (by decide +kernel) (by decide +kernel) rfl (fun hc => ?_) (fun hc => ?_)
    · have hr := nk_ifp (c := (S.1 (ja_c (S.2 l0 0) 26) l1.toNat) = (S.1 (ja_c l0 43) (nk_w ((S.1 l0 52) - 1)).toNat)) hc hr
      refine nk_p (i := .iconst 0) (len := 1) (pc' := 38) mJ_133 (by decide +kernel) (ns_iconst (c := 0) (by decide +kernel)) rfl ?_
      refine nk_p (i := .istore_n 2) (len := 1) (pc' := 39) mJ_133 (by decide +kernel) (ns_istore_n (L' := [(2, nk_i 0), (0, nk_r l0), (1, nk_i l1)]) rfl rfl rfl (by decide +kernel)) rfl ?_
      refine nk_sub [1, 2, 0] (L' := [(0, nk_r l0), (1, nk_i l1), (2, nk_i 0)]) rfl ?_
      exact ja_X13_holds_L39_ok zs nk_big _ _ _ _ _ t_l0 hr
    · have hr := nk_ifn (c := (S.1 (ja_c (S.2 l0 0) 26) l1.toNat) = (S.1 (ja_c l0 43) (nk_w ((S.1 l0 52) - 1)).toNat)) hc hr
      refine nk_p (i := .iconst 0) (len := 1) (pc' := 36) mJ_133 (by decide +kernel) (ns_iconst (c := 0) (by decide +kernel)) rfl ?_
      cases hr
      exact nk_iret (ty := .boolean) (len := 1) mJ_133 (by decide +kernel) rfl (nk_nar_z (by decide))
/-! SafeCodeModel input (I)Z -/
noncomputable def ja_X13_input (l0 : Nat) (l1 : Int) (S : nk_S) : Option (Int × nk_S) :=
  if (S.1 l0 55) = 256 then
    some (0, S)
  else
    if 0 ≤ (S.1 l0 55) ∧ (S.1 l0 55) < 256 then
    nk_lt (nk_wi S (ja_c l0 50) (S.1 l0 55).toNat l1) fun S3 =>
    nk_lt (nk_wi S3 l0 55 (nk_w ((S3.1 l0 55) + 1))) fun S5 =>
    some (1, S5)
    else none
theorem ja_X13_input_ok (zs : List Int32) : ∀ (l0 : Nat) (l1 : Int) (S : nk_S) (R : Int × nk_S), nk_cl ja_Tt l0 = some 13 → ja_X13_input l0 l1 S = some R → nk_K ja_Tt mi_Γ (mi_ev zs) 1 137 0 [(0, nk_r l0), (1, nk_i l1)] [] S R := by
  intro l0 l1 S R t_l0 hr
  unfold ja_X13_input at hr
  refine nk_p (i := .aload_n 0) (len := 1) (pc' := 1) mJ_137 (by decide +kernel) (ns_aload_n 0 rfl rfl) rfl ?_
  refine nk_getI (y := (0, 0)) (x := 805) (len := 3) (ci := 13) (k := 55) (pc' := 4) ja_okT mJ_137 (by decide +kernel) (by decide +kernel) (by decide +kernel) t_l0 rfl ?_
  refine nk_p (i := .sipush 256) (len := 3) (pc' := 7) mJ_137 (by decide +kernel) (ns_sipush (c := 256) (by decide +kernel)) rfl ?_
  refine nk_icmp (c := .ne) (off := 5) (len := 3) (t := 12) (pc' := 10) mJ_137 (by decide +kernel) (by decide +kernel) rfl (fun hc => ?_) (fun hc => ?_)
  · have hr := nk_ifn (c := (S.1 l0 55) = 256) hc hr
    refine nk_p (i := .aload_n 0) (len := 1) (pc' := 13) mJ_137 (by decide +kernel) (ns_aload_n 0 rfl rfl) rfl ?_
    refine nk_getC (f := (4, 1, 256)) (x := 129) (len := 3) (ci := 13) (k := 50) (pc' := 16) ja_okT mJ_137 (by decide +kernel) (by decide +kernel) (by decide +kernel) (by decide) t_l0 rfl ?_
    have t1 : nk_ar ja_Tt (ja_c l0 50) = some (1, 256) := nk_ta ja_okT t_l0 (by decide +kernel)
    refine nk_p (i := .aload_n 0) (len := 1) (pc' := 17) mJ_137 (by decide +kernel) (ns_aload_n 0 rfl rfl) rfl ?_
    refine nk_getI (y := (0, 0)) (x := 805) (len := 3) (ci := 13) (k := 55) (pc' := 20) ja_okT mJ_137 (by decide +kernel) (by decide +kernel) (by decide +kernel) t_l0 rfl ?_
    refine nk_p (i := .iload_n 1) (len := 1) (pc' := 21) mJ_137 (by decide +kernel) (ns_iload_n 1 rfl rfl) rfl ?_
    obtain ⟨h2, hr⟩ := nk_cke hr
    obtain ⟨S3, h4, hr⟩ := nk_lte hr
    refine nk_iast (len := 1) (N := 256) (pc' := 22) mJ_137 (by decide +kernel) t1 h2.1 h2.2 rfl rfl h4 ?_
    refine nk_p (i := .aload_n 0) (len := 1) (pc' := 23) mJ_137 (by decide +kernel) (ns_aload_n 0 rfl rfl) rfl ?_
    refine nk_p (i := .dup) (len := 1) (pc' := 24) mJ_137 (by decide +kernel) (ns_dup rfl) rfl ?_
    refine nk_getI (y := (0, 0)) (x := 805) (len := 3) (ci := 13) (k := 55) (pc' := 27) ja_okT mJ_137 (by decide +kernel) (by decide +kernel) (by decide +kernel) t_l0 rfl ?_
    refine nk_p (i := .iconst 1) (len := 1) (pc' := 28) mJ_137 (by decide +kernel) (ns_iconst (c := 1) (by decide +kernel)) rfl ?_
    refine nk_p (i := .iadd) (len := 1) (pc' := 29) mJ_137 (by decide +kernel) ns_iadd rfl ?_
    obtain ⟨S5, h6, hr⟩ := nk_lte hr
    refine nk_putI (y := (0, 0)) (ty := .int) (x := 805) (len := 3) (ci := 13) (k := 55) (pc' := 32) ja_okT mJ_137 (by decide +kernel) (by decide +kernel) (by decide +kernel) t_l0 (Or.inl rfl) rfl h6 ?_
    refine nk_p (i := .iconst 1) (len := 1) (pc' := 33) mJ_137 (by decide +kernel) (ns_iconst (c := 1) (by decide +kernel)) rfl ?_
    cases hr
    exact nk_iret (ty := .boolean) (len := 1) mJ_137 (by decide +kernel) rfl (nk_nar_z (by decide))
  · have hr := nk_ifp (c := (S.1 l0 55) = 256) (Decidable.of_not_not hc) hr
    refine nk_p (i := .iconst 0) (len := 1) (pc' := 11) mJ_137 (by decide +kernel) (ns_iconst (c := 0) (by decide +kernel)) rfl ?_
    cases hr
    exact nk_iret (ty := .boolean) (len := 1) mJ_137 (by decide +kernel) rfl (nk_nar_z (by decide))
/-! SafeCodeModel lengths (II)I -/
noncomputable def ja_X13_lengths (l0 : Nat) (l1 : Int) (l2 : Int) (S : nk_S) : Option (Int × nk_S) :=
  if (S.1 l0 2) = 0 then
    some ((-1), S)
  else
    if l1 < 0 then
      some ((-1), S)
    else
      if (S.1 (S.2 l0 0) 4) ≤ l1 then
        some ((-1), S)
      else
        if 0 ≤ (nk_w (2646 + l1)) ∧ (nk_w (2646 + l1)) < 3324 then
        if (S.1 (ja_c (S.2 l0 0) 46) (nk_w (2646 + l1)).toNat) = 0 then
          some ((-1), S)
        else
          if l2 = 0 then
            some ((S.1 (ja_c (S.2 l0 0) 47) (nk_w (2646 + l1)).toNat), S)
          else
            if l2 = 1 then
              some ((S.1 (ja_c (S.2 l0 0) 48) (nk_w (2646 + l1)).toNat), S)
            else
              some ((-1), S)
        else none
theorem ja_X13_lengths_ok (zs : List Int32) : ∀ (l0 : Nat) (l1 : Int) (l2 : Int) (S : nk_S) (R : Int × nk_S), nk_cl ja_Tt l0 = some 13 → ja_X13_lengths l0 l1 l2 S = some R → nk_K ja_Tt mi_Γ (mi_ev zs) 1 180 0 [(0, nk_r l0), (1, nk_i l1), (2, nk_i l2)] [] S R := by
  intro l0 l1 l2 S R t_l0 hr
  unfold ja_X13_lengths at hr
  refine nk_p (i := .aload_n 0) (len := 1) (pc' := 1) mJ_180 (by decide +kernel) (ns_aload_n 0 rfl rfl) rfl ?_
  refine nk_getI (y := (0, 0)) (x := 794) (len := 3) (ci := 13) (k := 2) (pc' := 4) ja_okT mJ_180 (by decide +kernel) (by decide +kernel) (by decide +kernel) t_l0 rfl ?_
  refine nk_icond (c := .eq) (off := 34) (len := 3) (t := 38) (pc' := 7) mJ_180 (by decide +kernel) (by decide +kernel) rfl (fun hc => ?_) (fun hc => ?_)
  · have hr := nk_ifp (c := (S.1 l0 2) = 0) hc hr
    refine nk_p (i := .iconst (-1)) (len := 1) (pc' := 39) mJ_180 (by decide +kernel) (ns_iconst (c := (-1)) (by decide +kernel)) rfl ?_
    cases hr
    exact nk_iret (ty := .int) (len := 1) mJ_180 (by decide +kernel) rfl (nk_nar_i _)
  · have hr := nk_ifn (c := (S.1 l0 2) = 0) hc hr
    refine nk_p (i := .iload_n 1) (len := 1) (pc' := 8) mJ_180 (by decide +kernel) (ns_iload_n 1 rfl rfl) rfl ?_
    refine nk_icond (c := .lt) (off := 30) (len := 3) (t := 38) (pc' := 11) mJ_180 (by decide +kernel) (by decide +kernel) rfl (fun hc => ?_) (fun hc => ?_)
    · have hr := nk_ifp (c := l1 < 0) hc hr
      refine nk_p (i := .iconst (-1)) (len := 1) (pc' := 39) mJ_180 (by decide +kernel) (ns_iconst (c := (-1)) (by decide +kernel)) rfl ?_
      cases hr
      exact nk_iret (ty := .int) (len := 1) mJ_180 (by decide +kernel) rfl (nk_nar_i _)
    · have hr := nk_ifn (c := l1 < 0) hc hr
      refine nk_p (i := .iload_n 1) (len := 1) (pc' := 12) mJ_180 (by decide +kernel) (ns_iload_n 1 rfl rfl) rfl ?_
      refine nk_p (i := .aload_n 0) (len := 1) (pc' := 13) mJ_180 (by decide +kernel) (ns_aload_n 0 rfl rfl) rfl ?_
      refine nk_getM (cj := 12) (z := 0) (x := 12) (len := 3) (ci := 13) (k := 0) (pc' := 16) ja_okT mJ_180 (by decide +kernel) (by decide +kernel) (by decide +kernel) t_l0 rfl (fun t1 => ?_)
      refine nk_getI (y := (0, 0)) (x := 356) (len := 3) (ci := 12) (k := 4) (pc' := 19) ja_okT mJ_180 (by decide +kernel) (by decide +kernel) (by decide +kernel) t1 rfl ?_
      refine nk_icmp (c := .ge) (off := 19) (len := 3) (t := 38) (pc' := 22) mJ_180 (by decide +kernel) (by decide +kernel) rfl (fun hc => ?_) (fun hc => ?_)
      · have hr := nk_ifp (c := (S.1 (S.2 l0 0) 4) ≤ l1) hc hr
        refine nk_p (i := .iconst (-1)) (len := 1) (pc' := 39) mJ_180 (by decide +kernel) (ns_iconst (c := (-1)) (by decide +kernel)) rfl ?_
        cases hr
        exact nk_iret (ty := .int) (len := 1) mJ_180 (by decide +kernel) rfl (nk_nar_i _)
      · have hr := nk_ifn (c := (S.1 (S.2 l0 0) 4) ≤ l1) hc hr
        refine nk_p (i := .aload_n 0) (len := 1) (pc' := 23) mJ_180 (by decide +kernel) (ns_aload_n 0 rfl rfl) rfl ?_
        refine nk_getM (cj := 12) (z := 0) (x := 12) (len := 3) (ci := 13) (k := 0) (pc' := 26) ja_okT mJ_180 (by decide +kernel) (by decide +kernel) (by decide +kernel) t_l0 rfl (fun t2 => ?_)
        refine nk_getC (f := (4, 0, 3324)) (x := 576) (len := 3) (ci := 12) (k := 46) (pc' := 29) ja_okT mJ_180 (by decide +kernel) (by decide +kernel) (by decide +kernel) (by decide) t2 rfl ?_
        have t3 : nk_ar ja_Tt (ja_c (S.2 l0 0) 46) = some (0, 3324) := nk_ta ja_okT t2 (by decide +kernel)
        refine nk_p (i := .sipush 2646) (len := 3) (pc' := 32) mJ_180 (by decide +kernel) (ns_sipush (c := 2646) (by decide +kernel)) rfl ?_
        refine nk_p (i := .iload_n 1) (len := 1) (pc' := 33) mJ_180 (by decide +kernel) (ns_iload_n 1 rfl rfl) rfl ?_
        refine nk_p (i := .iadd) (len := 1) (pc' := 34) mJ_180 (by decide +kernel) ns_iadd rfl ?_
        obtain ⟨h4, hr⟩ := nk_cke hr
        refine nk_bald (t := 0) (len := 1) (N := 3324) (pc' := 35) mJ_180 (by decide +kernel) t3 (by decide) h4.1 h4.2 rfl rfl ?_
        refine nk_icond (c := .ne) (off := 5) (len := 3) (t := 40) (pc' := 38) mJ_180 (by decide +kernel) (by decide +kernel) rfl (fun hc => ?_) (fun hc => ?_)
        · have hr := nk_ifn (c := (S.1 (ja_c (S.2 l0 0) 46) (nk_w (2646 + l1)).toNat) = 0) hc hr
          refine nk_p (i := .iload_n 2) (len := 1) (pc' := 41) mJ_180 (by decide +kernel) (ns_iload_n 2 rfl rfl) rfl ?_
          refine nk_icond (c := .ne) (off := 19) (len := 3) (t := 60) (pc' := 44) mJ_180 (by decide +kernel) (by decide +kernel) rfl (fun hc => ?_) (fun hc => ?_)
          · have hr := nk_ifn (c := l2 = 0) hc hr
            refine nk_p (i := .iload_n 2) (len := 1) (pc' := 61) mJ_180 (by decide +kernel) (ns_iload_n 2 rfl rfl) rfl ?_
            refine nk_p (i := .iconst 1) (len := 1) (pc' := 62) mJ_180 (by decide +kernel) (ns_iconst (c := 1) (by decide +kernel)) rfl ?_
            refine nk_icmp (c := .ne) (off := 19) (len := 3) (t := 81) (pc' := 65) mJ_180 (by decide +kernel) (by decide +kernel) rfl (fun hc => ?_) (fun hc => ?_)
            · have hr := nk_ifn (c := l2 = 1) hc hr
              refine nk_p (i := .iconst (-1)) (len := 1) (pc' := 82) mJ_180 (by decide +kernel) (ns_iconst (c := (-1)) (by decide +kernel)) rfl ?_
              cases hr
              exact nk_iret (ty := .int) (len := 1) mJ_180 (by decide +kernel) rfl (nk_nar_i _)
            · have hr := nk_ifp (c := l2 = 1) (Decidable.of_not_not hc) hr
              refine nk_p (i := .aload_n 0) (len := 1) (pc' := 66) mJ_180 (by decide +kernel) (ns_aload_n 0 rfl rfl) rfl ?_
              refine nk_getM (cj := 12) (z := 0) (x := 12) (len := 3) (ci := 13) (k := 0) (pc' := 69) ja_okT mJ_180 (by decide +kernel) (by decide +kernel) (by decide +kernel) t_l0 rfl (fun t5 => ?_)
              refine nk_getC (f := (4, 1, 3324)) (x := 582) (len := 3) (ci := 12) (k := 48) (pc' := 72) ja_okT mJ_180 (by decide +kernel) (by decide +kernel) (by decide +kernel) (by decide) t5 rfl ?_
              have t6 : nk_ar ja_Tt (ja_c (S.2 l0 0) 48) = some (1, 3324) := nk_ta ja_okT t5 (by decide +kernel)
              refine nk_p (i := .sipush 2646) (len := 3) (pc' := 75) mJ_180 (by decide +kernel) (ns_sipush (c := 2646) (by decide +kernel)) rfl ?_
              refine nk_p (i := .iload_n 1) (len := 1) (pc' := 76) mJ_180 (by decide +kernel) (ns_iload_n 1 rfl rfl) rfl ?_
              refine nk_p (i := .iadd) (len := 1) (pc' := 77) mJ_180 (by decide +kernel) ns_iadd rfl ?_
              refine nk_iald (len := 1) (N := 3324) (pc' := 78) mJ_180 (by decide +kernel) t6 h4.1 h4.2 rfl rfl ?_
              refine nk_p (i := .goto 4) (len := 3) (pc' := 82) mJ_180 (by decide +kernel) (ns_goto (by decide +kernel)) rfl ?_
              cases hr
              exact nk_iret (ty := .int) (len := 1) mJ_180 (by decide +kernel) rfl (nk_nar_i _)
          · have hr := nk_ifp (c := l2 = 0) (Decidable.of_not_not hc) hr
            refine nk_p (i := .aload_n 0) (len := 1) (pc' := 45) mJ_180 (by decide +kernel) (ns_aload_n 0 rfl rfl) rfl ?_
            refine nk_getM (cj := 12) (z := 0) (x := 12) (len := 3) (ci := 13) (k := 0) (pc' := 48) ja_okT mJ_180 (by decide +kernel) (by decide +kernel) (by decide +kernel) t_l0 rfl (fun t7 => ?_)
            refine nk_getC (f := (4, 1, 3324)) (x := 579) (len := 3) (ci := 12) (k := 47) (pc' := 51) ja_okT mJ_180 (by decide +kernel) (by decide +kernel) (by decide +kernel) (by decide) t7 rfl ?_
            have t8 : nk_ar ja_Tt (ja_c (S.2 l0 0) 47) = some (1, 3324) := nk_ta ja_okT t7 (by decide +kernel)
            refine nk_p (i := .sipush 2646) (len := 3) (pc' := 54) mJ_180 (by decide +kernel) (ns_sipush (c := 2646) (by decide +kernel)) rfl ?_
            refine nk_p (i := .iload_n 1) (len := 1) (pc' := 55) mJ_180 (by decide +kernel) (ns_iload_n 1 rfl rfl) rfl ?_
            refine nk_p (i := .iadd) (len := 1) (pc' := 56) mJ_180 (by decide +kernel) ns_iadd rfl ?_
            refine nk_iald (len := 1) (N := 3324) (pc' := 57) mJ_180 (by decide +kernel) t8 h4.1 h4.2 rfl rfl ?_
            refine nk_p (i := .goto 25) (len := 3) (pc' := 82) mJ_180 (by decide +kernel) (ns_goto (by decide +kernel)) rfl ?_
            cases hr
            exact nk_iret (ty := .int) (len := 1) mJ_180 (by decide +kernel) rfl (nk_nar_i _)
        · have hr := nk_ifp (c := (S.1 (ja_c (S.2 l0 0) 46) (nk_w (2646 + l1)).toNat) = 0) (Decidable.of_not_not hc) hr
          refine nk_p (i := .iconst (-1)) (len := 1) (pc' := 39) mJ_180 (by decide +kernel) (ns_iconst (c := (-1)) (by decide +kernel)) rfl ?_
          cases hr
          exact nk_iret (ty := .int) (len := 1) mJ_180 (by decide +kernel) rfl (nk_nar_i _)
/-! SafeCodeModel ordered (LSafeCodeModel$Program;III)Z -/
noncomputable def ja_X13_ordered_b160 (l0 : Nat) (l2 : Int) (l3 : Int) (S : nk_S) : Option (Int × nk_S) :=
  if 0 ≤ l2 ∧ l2 < 24 then
  if 0 ≤ l3 ∧ l3 < 24 then
  nk_lt (nk_wi S (ja_c l0 32) l2.toNat (nk_ior (S.1 (ja_c l0 32) l2.toNat) (S.1 (ja_c l0 33) l3.toNat))) fun S5 =>
  some (1, S5)
  else none
  else none
theorem ja_X13_ordered_b160_ok (zs : List Int32) : ∀ (l0 : Nat) (l2 : Int) (l3 : Int) (S : nk_S) (R : Int × nk_S), nk_cl ja_Tt l0 = some 13 → ja_X13_ordered_b160 l0 l2 l3 S = some R → nk_K ja_Tt mi_Γ (mi_ev zs) 1 204 160 [(0, nk_r l0), (2, nk_i l2), (3, nk_i l3)] [] S R := by
  intro l0 l2 l3 S R t_l0 hr
  unfold ja_X13_ordered_b160 at hr
  refine nk_p (i := .aload_n 0) (len := 1) (pc' := 161) mJ_204 (by decide +kernel) (ns_aload_n 0 rfl rfl) rfl ?_
  refine nk_getC (f := (4, 1, 24)) (x := 90) (len := 3) (ci := 13) (k := 32) (pc' := 164) ja_okT mJ_204 (by decide +kernel) (by decide +kernel) (by decide +kernel) (by decide) t_l0 rfl ?_
  have t1 : nk_ar ja_Tt (ja_c l0 32) = some (1, 24) := nk_ta ja_okT t_l0 (by decide +kernel)
  refine nk_p (i := .iload_n 2) (len := 1) (pc' := 165) mJ_204 (by decide +kernel) (ns_iload_n 1 rfl rfl) rfl ?_
  refine nk_p (i := .dup2) (len := 1) (pc' := 166) mJ_204 (by decide +kernel) (ns_dup2 rfl rfl) rfl ?_
  obtain ⟨h2, hr⟩ := nk_cke hr
  refine nk_iald (len := 1) (N := 24) (pc' := 167) mJ_204 (by decide +kernel) t1 h2.1 h2.2 rfl rfl ?_
  refine nk_p (i := .aload_n 0) (len := 1) (pc' := 168) mJ_204 (by decide +kernel) (ns_aload_n 0 rfl rfl) rfl ?_
  refine nk_getC (f := (4, 1, 24)) (x := 93) (len := 3) (ci := 13) (k := 33) (pc' := 171) ja_okT mJ_204 (by decide +kernel) (by decide +kernel) (by decide +kernel) (by decide) t_l0 rfl ?_
  have t3 : nk_ar ja_Tt (ja_c l0 33) = some (1, 24) := nk_ta ja_okT t_l0 (by decide +kernel)
  refine nk_p (i := .iload_n 3) (len := 1) (pc' := 172) mJ_204 (by decide +kernel) (ns_iload_n 2 rfl rfl) rfl ?_
  obtain ⟨h4, hr⟩ := nk_cke hr
  refine nk_iald (len := 1) (N := 24) (pc' := 173) mJ_204 (by decide +kernel) t3 h4.1 h4.2 rfl rfl ?_
  refine nk_p (i := .ior) (len := 1) (pc' := 174) mJ_204 (by decide +kernel) ns_ior rfl ?_
  obtain ⟨S5, h6, hr⟩ := nk_lte hr
  refine nk_iast (len := 1) (N := 24) (pc' := 175) mJ_204 (by decide +kernel) t1 h2.1 h2.2 rfl rfl h6 ?_
  refine nk_p (i := .iconst 1) (len := 1) (pc' := 176) mJ_204 (by decide +kernel) (ns_iconst (c := 1) (by decide +kernel)) rfl ?_
  cases hr
  exact nk_iret (ty := .boolean) (len := 1) mJ_204 (by decide +kernel) rfl (nk_nar_z (by decide))
noncomputable def ja_X13_ordered_b59 (l0 : Nat) (l1 : Nat) (l2 : Int) (l3 : Int) (l4 : Int) (l5 : Int) (l7 : Int) (S : nk_S) : Option (Int × nk_S) :=
  if 0 ≤ l3 ∧ l3 < 24 then
  if l7 ≤ (S.1 (ja_c l0 28) l3.toNat) then
    nk_bd (ja_X13_notBelow l1 l5 S) fun r3 S4 =>
    if 0 ≤ l2 ∧ l2 < 24 then
    nk_lt (nk_wi S4 (ja_c l0 28) l2.toNat r3) fun S7 =>
    nk_bd (ja_X13_notAbove l1 l7 S7) fun r10 S11 =>
    nk_lt (nk_wi S11 (ja_c l0 27) l3.toNat r10) fun S13 =>
    nk_lt (nk_wi S13 (ja_c l0 31) l2.toNat (nk_ior (S13.1 (ja_c l0 31) l2.toNat) (S13.1 (ja_c l0 31) l3.toNat))) fun S16 =>
    nk_lt (nk_wi S16 (ja_c l0 32) l2.toNat (nk_ior (S16.1 (ja_c l0 32) l2.toNat) (S16.1 (ja_c l0 32) l3.toNat))) fun S19 =>
    if l4 = 1 then
      if (S19.1 (ja_c l0 30) l3.toNat) < 0 then
        ja_X13_ordered_b160 l0 l2 l3 S19
      else
        nk_lt (nk_wi S19 (ja_c l0 31) l2.toNat (nk_ior (S19.1 (ja_c l0 31) l2.toNat) (nk_ishl 1 (S19.1 (ja_c l0 30) l3.toNat)))) fun S22 =>
        ja_X13_ordered_b160 l0 l2 l3 S22
    else
      some (1, S19)
    else none
  else
    some (0, S)
  else none
theorem ja_X13_ordered_b59_ok (zs : List Int32) : ∀ (l0 : Nat) (l1 : Nat) (l2 : Int) (l3 : Int) (l4 : Int) (l5 : Int) (l7 : Int) (S : nk_S) (R : Int × nk_S), nk_cl ja_Tt l0 = some 13 → nk_cl ja_Tt l1 = some 12 → ja_X13_ordered_b59 l0 l1 l2 l3 l4 l5 l7 S = some R → nk_K ja_Tt mi_Γ (mi_ev zs) 1 204 59 [(0, nk_r l0), (1, nk_r l1), (2, nk_i l2), (3, nk_i l3), (4, nk_i l4), (5, nk_l l5), (7, nk_l l7)] [] S R := by
  intro l0 l1 l2 l3 l4 l5 l7 S R t_l0 t_l1 hr
  unfold ja_X13_ordered_b59 at hr
  refine nk_p (i := .lload 7) (len := 2) (pc' := 61) mJ_204 (by decide +kernel) (ns_lload 6 rfl) rfl ?_
  refine nk_p (i := .aload_n 0) (len := 1) (pc' := 62) mJ_204 (by decide +kernel) (ns_aload_n 0 rfl rfl) rfl ?_
  refine nk_getC (f := (4, 1, 24)) (x := 77) (len := 3) (ci := 13) (k := 28) (pc' := 65) ja_okT mJ_204 (by decide +kernel) (by decide +kernel) (by decide +kernel) (by decide) t_l0 rfl ?_
  have t1 : nk_ar ja_Tt (ja_c l0 28) = some (1, 24) := nk_ta ja_okT t_l0 (by decide +kernel)
  refine nk_p (i := .iload_n 3) (len := 1) (pc' := 66) mJ_204 (by decide +kernel) (ns_iload_n 3 rfl rfl) rfl ?_
  obtain ⟨h2, hr⟩ := nk_cke hr
  refine nk_iald (len := 1) (N := 24) (pc' := 67) mJ_204 (by decide +kernel) t1 h2.1 h2.2 rfl rfl ?_
  refine nk_p (i := .i2l) (len := 1) (pc' := 68) mJ_204 (by decide +kernel) ns_i2l rfl ?_
  refine nk_p (i := .lcmp) (len := 1) (pc' := 69) mJ_204 (by decide +kernel) ns_lcmp rfl ?_
  refine nk_lcond (c := .le) (off := 5) (len := 3) (t := 74) (pc' := 72) mJ_204 (by decide +kernel) (by decide +kernel) rfl (fun hc => ?_) (fun hc => ?_)
  · have hr := nk_ifp (c := l7 ≤ (S.1 (ja_c l0 28) l3.toNat)) hc hr
    refine nk_p (i := .aload_n 0) (len := 1) (pc' := 75) mJ_204 (by decide +kernel) (ns_aload_n 0 rfl rfl) rfl ?_
    refine nk_getC (f := (4, 1, 24)) (x := 77) (len := 3) (ci := 13) (k := 28) (pc' := 78) ja_okT mJ_204 (by decide +kernel) (by decide +kernel) (by decide +kernel) (by decide) t_l0 rfl ?_
    refine nk_p (i := .iload_n 2) (len := 1) (pc' := 79) mJ_204 (by decide +kernel) (ns_iload_n 2 rfl rfl) rfl ?_
    refine nk_p (i := .aload_n 1) (len := 1) (pc' := 80) mJ_204 (by decide +kernel) (ns_aload_n 1 rfl rfl) rfl ?_
    refine nk_p (i := .lload 5) (len := 2) (pc' := 82) mJ_204 (by decide +kernel) (ns_lload 5 rfl) rfl ?_
    obtain ⟨r3, S4, h5, hr⟩ := nk_bde hr
    refine nk_callS (ci := 0) (n := 2) (x := 568) (len := 3) (j' := 196) (q' := 1) (r := r3) (S' := S4) (L2 := [(0, nk_r l1), (1, nk_l l5)]) (rest := [nk_i l2, nk_r (ja_c l0 28)]) (st' := [nk_i r3, nk_i l2, nk_r (ja_c l0 28)]) (pc' := 85) mJ_204 (by decide +kernel) (by decide +kernel) (Nat.le_of_ble_eq_true rfl) rfl rfl (Nat.le_of_ble_eq_true rfl) mJ_196 (Nat.le_of_ble_eq_true rfl) ja_Tpos rfl (ja_X13_notBelow_ok zs _ _ _ _ t_l1 h5) rfl ?_
    obtain ⟨h6, hr⟩ := nk_cke hr
    obtain ⟨S7, h8, hr⟩ := nk_lte hr
    refine nk_iast (len := 1) (N := 24) (pc' := 86) mJ_204 (by decide +kernel) t1 h6.1 h6.2 rfl rfl h8 ?_
    refine nk_p (i := .aload_n 0) (len := 1) (pc' := 87) mJ_204 (by decide +kernel) (ns_aload_n 0 rfl rfl) rfl ?_
    refine nk_getC (f := (4, 1, 24)) (x := 74) (len := 3) (ci := 13) (k := 27) (pc' := 90) ja_okT mJ_204 (by decide +kernel) (by decide +kernel) (by decide +kernel) (by decide) t_l0 rfl ?_
    have t9 : nk_ar ja_Tt (ja_c l0 27) = some (1, 24) := nk_ta ja_okT t_l0 (by decide +kernel)
    refine nk_p (i := .iload_n 3) (len := 1) (pc' := 91) mJ_204 (by decide +kernel) (ns_iload_n 3 rfl rfl) rfl ?_
    refine nk_p (i := .aload_n 1) (len := 1) (pc' := 92) mJ_204 (by decide +kernel) (ns_aload_n 1 rfl rfl) rfl ?_
    refine nk_p (i := .lload 7) (len := 2) (pc' := 94) mJ_204 (by decide +kernel) (ns_lload 6 rfl) rfl ?_
    obtain ⟨r10, S11, h12, hr⟩ := nk_bde hr
    refine nk_callS (ci := 0) (n := 2) (x := 563) (len := 3) (j' := 195) (q' := 1) (r := r10) (S' := S11) (L2 := [(0, nk_r l1), (1, nk_l l7)]) (rest := [nk_i l3, nk_r (ja_c l0 27)]) (st' := [nk_i r10, nk_i l3, nk_r (ja_c l0 27)]) (pc' := 97) mJ_204 (by decide +kernel) (by decide +kernel) (Nat.le_of_ble_eq_true rfl) rfl rfl (Nat.le_of_ble_eq_true rfl) mJ_195 (Nat.le_of_ble_eq_true rfl) ja_Tpos rfl (ja_X13_notAbove_ok zs _ _ _ _ t_l1 h12) rfl ?_
    obtain ⟨S13, h14, hr⟩ := nk_lte hr
    refine nk_iast (len := 1) (N := 24) (pc' := 98) mJ_204 (by decide +kernel) t9 h2.1 h2.2 rfl rfl h14 ?_
    refine nk_p (i := .aload_n 0) (len := 1) (pc' := 99) mJ_204 (by decide +kernel) (ns_aload_n 0 rfl rfl) rfl ?_
    refine nk_getC (f := (4, 1, 24)) (x := 87) (len := 3) (ci := 13) (k := 31) (pc' := 102) ja_okT mJ_204 (by decide +kernel) (by decide +kernel) (by decide +kernel) (by decide) t_l0 rfl ?_
    have t15 : nk_ar ja_Tt (ja_c l0 31) = some (1, 24) := nk_ta ja_okT t_l0 (by decide +kernel)
    refine nk_p (i := .iload_n 2) (len := 1) (pc' := 103) mJ_204 (by decide +kernel) (ns_iload_n 2 rfl rfl) rfl ?_
    refine nk_p (i := .dup2) (len := 1) (pc' := 104) mJ_204 (by decide +kernel) (ns_dup2 rfl rfl) rfl ?_
    refine nk_iald (len := 1) (N := 24) (pc' := 105) mJ_204 (by decide +kernel) t15 h6.1 h6.2 rfl rfl ?_
    refine nk_p (i := .aload_n 0) (len := 1) (pc' := 106) mJ_204 (by decide +kernel) (ns_aload_n 0 rfl rfl) rfl ?_
    refine nk_getC (f := (4, 1, 24)) (x := 87) (len := 3) (ci := 13) (k := 31) (pc' := 109) ja_okT mJ_204 (by decide +kernel) (by decide +kernel) (by decide +kernel) (by decide) t_l0 rfl ?_
    refine nk_p (i := .iload_n 3) (len := 1) (pc' := 110) mJ_204 (by decide +kernel) (ns_iload_n 3 rfl rfl) rfl ?_
    refine nk_iald (len := 1) (N := 24) (pc' := 111) mJ_204 (by decide +kernel) t15 h2.1 h2.2 rfl rfl ?_
    refine nk_p (i := .ior) (len := 1) (pc' := 112) mJ_204 (by decide +kernel) ns_ior rfl ?_
    obtain ⟨S16, h17, hr⟩ := nk_lte hr
    refine nk_iast (len := 1) (N := 24) (pc' := 113) mJ_204 (by decide +kernel) t15 h6.1 h6.2 rfl rfl h17 ?_
    refine nk_p (i := .aload_n 0) (len := 1) (pc' := 114) mJ_204 (by decide +kernel) (ns_aload_n 0 rfl rfl) rfl ?_
    refine nk_getC (f := (4, 1, 24)) (x := 90) (len := 3) (ci := 13) (k := 32) (pc' := 117) ja_okT mJ_204 (by decide +kernel) (by decide +kernel) (by decide +kernel) (by decide) t_l0 rfl ?_
    have t18 : nk_ar ja_Tt (ja_c l0 32) = some (1, 24) := nk_ta ja_okT t_l0 (by decide +kernel)
    refine nk_p (i := .iload_n 2) (len := 1) (pc' := 118) mJ_204 (by decide +kernel) (ns_iload_n 2 rfl rfl) rfl ?_
    refine nk_p (i := .dup2) (len := 1) (pc' := 119) mJ_204 (by decide +kernel) (ns_dup2 rfl rfl) rfl ?_
    refine nk_iald (len := 1) (N := 24) (pc' := 120) mJ_204 (by decide +kernel) t18 h6.1 h6.2 rfl rfl ?_
    refine nk_p (i := .aload_n 0) (len := 1) (pc' := 121) mJ_204 (by decide +kernel) (ns_aload_n 0 rfl rfl) rfl ?_
    refine nk_getC (f := (4, 1, 24)) (x := 90) (len := 3) (ci := 13) (k := 32) (pc' := 124) ja_okT mJ_204 (by decide +kernel) (by decide +kernel) (by decide +kernel) (by decide) t_l0 rfl ?_
    refine nk_p (i := .iload_n 3) (len := 1) (pc' := 125) mJ_204 (by decide +kernel) (ns_iload_n 3 rfl rfl) rfl ?_
    refine nk_iald (len := 1) (N := 24) (pc' := 126) mJ_204 (by decide +kernel) t18 h2.1 h2.2 rfl rfl ?_
    refine nk_p (i := .ior) (len := 1) (pc' := 127) mJ_204 (by decide +kernel) ns_ior rfl ?_
    obtain ⟨S19, h20, hr⟩ := nk_lte hr
    refine nk_iast (len := 1) (N := 24) (pc' := 128) mJ_204 (by decide +kernel) t18 h6.1 h6.2 rfl rfl h20 ?_
    refine nk_p (i := .iload 4) (len := 2) (pc' := 130) mJ_204 (by decide +kernel) (ns_iload 4 rfl) rfl ?_
    refine nk_p (i := .iconst 1) (len := 1) (pc' := 131) mJ_204 (by decide +kernel) (ns_iconst (c := 1) (by decide +kernel)) rfl ?_
    refine nk_icmp (c := .ne) (off := 44) (len := 3) (t := 175) (pc' := 134) mJ_204 (by decide +kernel) (by decide +kernel) rfl (fun hc => ?_) (fun hc => ?_)
    · have hr := nk_ifn (c := l4 = 1) hc hr
      refine nk_p (i := .iconst 1) (len := 1) (pc' := 176) mJ_204 (by decide +kernel) (ns_iconst (c := 1) (by decide +kernel)) rfl ?_
      cases hr
      exact nk_iret (ty := .boolean) (len := 1) mJ_204 (by decide +kernel) rfl (nk_nar_z (by decide))
    · have hr := nk_ifp (c := l4 = 1) (Decidable.of_not_not hc) hr
      refine nk_p (i := .aload_n 0) (len := 1) (pc' := 135) mJ_204 (by decide +kernel) (ns_aload_n 0 rfl rfl) rfl ?_
      refine nk_getC (f := (4, 1, 24)) (x := 84) (len := 3) (ci := 13) (k := 30) (pc' := 138) ja_okT mJ_204 (by decide +kernel) (by decide +kernel) (by decide +kernel) (by decide) t_l0 rfl ?_
      have t21 : nk_ar ja_Tt (ja_c l0 30) = some (1, 24) := nk_ta ja_okT t_l0 (by decide +kernel)
      refine nk_p (i := .iload_n 3) (len := 1) (pc' := 139) mJ_204 (by decide +kernel) (ns_iload_n 3 rfl rfl) rfl ?_
      refine nk_iald (len := 1) (N := 24) (pc' := 140) mJ_204 (by decide +kernel) t21 h2.1 h2.2 rfl rfl ?_
      refine nk_icond (c := .lt) (off := 20) (len := 3) (t := 160) (pc' := 143) mJ_204 (by decide +kernel) (by decide +kernel) rfl (fun hc => ?_) (fun hc => ?_)
      · have hr := nk_ifp (c := (S19.1 (ja_c l0 30) l3.toNat) < 0) hc hr
        refine nk_sub [0, 2, 3] (L' := [(0, nk_r l0), (2, nk_i l2), (3, nk_i l3)]) rfl ?_
        exact ja_X13_ordered_b160_ok zs _ _ _ _ _ t_l0 hr
      · have hr := nk_ifn (c := (S19.1 (ja_c l0 30) l3.toNat) < 0) hc hr
        refine nk_p (i := .aload_n 0) (len := 1) (pc' := 144) mJ_204 (by decide +kernel) (ns_aload_n 0 rfl rfl) rfl ?_
        refine nk_getC (f := (4, 1, 24)) (x := 87) (len := 3) (ci := 13) (k := 31) (pc' := 147) ja_okT mJ_204 (by decide +kernel) (by decide +kernel) (by decide +kernel) (by decide) t_l0 rfl ?_
        refine nk_p (i := .iload_n 2) (len := 1) (pc' := 148) mJ_204 (by decide +kernel) (ns_iload_n 2 rfl rfl) rfl ?_
        refine nk_p (i := .dup2) (len := 1) (pc' := 149) mJ_204 (by decide +kernel) (ns_dup2 rfl rfl) rfl ?_
        refine nk_iald (len := 1) (N := 24) (pc' := 150) mJ_204 (by decide +kernel) t15 h6.1 h6.2 rfl rfl ?_
        refine nk_p (i := .iconst 1) (len := 1) (pc' := 151) mJ_204 (by decide +kernel) (ns_iconst (c := 1) (by decide +kernel)) rfl ?_
        refine nk_p (i := .aload_n 0) (len := 1) (pc' := 152) mJ_204 (by decide +kernel) (ns_aload_n 0 rfl rfl) rfl ?_
        refine nk_getC (f := (4, 1, 24)) (x := 84) (len := 3) (ci := 13) (k := 30) (pc' := 155) ja_okT mJ_204 (by decide +kernel) (by decide +kernel) (by decide +kernel) (by decide) t_l0 rfl ?_
        refine nk_p (i := .iload_n 3) (len := 1) (pc' := 156) mJ_204 (by decide +kernel) (ns_iload_n 3 rfl rfl) rfl ?_
        refine nk_iald (len := 1) (N := 24) (pc' := 157) mJ_204 (by decide +kernel) t21 h2.1 h2.2 rfl rfl ?_
        refine nk_p (i := .ishl) (len := 1) (pc' := 158) mJ_204 (by decide +kernel) ns_ishl rfl ?_
        refine nk_p (i := .ior) (len := 1) (pc' := 159) mJ_204 (by decide +kernel) ns_ior rfl ?_
        obtain ⟨S22, h23, hr⟩ := nk_lte hr
        refine nk_iast (len := 1) (N := 24) (pc' := 160) mJ_204 (by decide +kernel) t15 h6.1 h6.2 rfl rfl h23 ?_
        refine nk_sub [0, 2, 3] (L' := [(0, nk_r l0), (2, nk_i l2), (3, nk_i l3)]) rfl ?_
        exact ja_X13_ordered_b160_ok zs _ _ _ _ _ t_l0 hr
  · have hr := nk_ifn (c := l7 ≤ (S.1 (ja_c l0 28) l3.toNat)) hc hr
    refine nk_p (i := .iconst 0) (len := 1) (pc' := 73) mJ_204 (by decide +kernel) (ns_iconst (c := 0) (by decide +kernel)) rfl ?_
    cases hr
    exact nk_iret (ty := .boolean) (len := 1) mJ_204 (by decide +kernel) rfl (nk_nar_z (by decide))
noncomputable def ja_X13_ordered (l0 : Nat) (l1 : Nat) (l2 : Int) (l3 : Int) (l4 : Int) (S : nk_S) : Option (Int × nk_S) :=
  if 0 ≤ l2 ∧ l2 < 24 then
  if 0 ≤ l3 ∧ l3 < 24 then
  nk_bd (ja_J9_min_f86c9 (S.1 (ja_c l0 28) l2.toNat) (nk_W ((S.1 (ja_c l0 28) l3.toNat) - l4)) S) fun r4 S5 =>
  nk_bd (ja_J9_max_f86c9 (S5.1 (ja_c l0 27) l3.toNat) (nk_W ((S5.1 (ja_c l0 27) l2.toNat) + l4)) S5) fun r8 S9 =>
  if r4 < (S9.1 (ja_c l0 27) l2.toNat) then
    some (0, S9)
  else
    ja_X13_ordered_b59 l0 l1 l2 l3 l4 r4 r8 S9
  else none
  else none
theorem ja_X13_ordered_ok (zs : List Int32) : ∀ (l0 : Nat) (l1 : Nat) (l2 : Int) (l3 : Int) (l4 : Int) (S : nk_S) (R : Int × nk_S), nk_cl ja_Tt l0 = some 13 → nk_cl ja_Tt l1 = some 12 → ja_X13_ordered l0 l1 l2 l3 l4 S = some R → nk_K ja_Tt mi_Γ (mi_ev zs) 1 204 0 [(0, nk_r l0), (1, nk_r l1), (2, nk_i l2), (3, nk_i l3), (4, nk_i l4)] [] S R := by
  intro l0 l1 l2 l3 l4 S R t_l0 t_l1 hr
  unfold ja_X13_ordered at hr
  refine nk_p (i := .aload_n 0) (len := 1) (pc' := 1) mJ_204 (by decide +kernel) (ns_aload_n 0 rfl rfl) rfl ?_
  refine nk_getC (f := (4, 1, 24)) (x := 77) (len := 3) (ci := 13) (k := 28) (pc' := 4) ja_okT mJ_204 (by decide +kernel) (by decide +kernel) (by decide +kernel) (by decide) t_l0 rfl ?_
  have t1 : nk_ar ja_Tt (ja_c l0 28) = some (1, 24) := nk_ta ja_okT t_l0 (by decide +kernel)
  refine nk_p (i := .iload_n 2) (len := 1) (pc' := 5) mJ_204 (by decide +kernel) (ns_iload_n 2 rfl rfl) rfl ?_
  obtain ⟨h2, hr⟩ := nk_cke hr
  refine nk_iald (len := 1) (N := 24) (pc' := 6) mJ_204 (by decide +kernel) t1 h2.1 h2.2 rfl rfl ?_
  refine nk_p (i := .i2l) (len := 1) (pc' := 7) mJ_204 (by decide +kernel) ns_i2l rfl ?_
  refine nk_p (i := .aload_n 0) (len := 1) (pc' := 8) mJ_204 (by decide +kernel) (ns_aload_n 0 rfl rfl) rfl ?_
  refine nk_getC (f := (4, 1, 24)) (x := 77) (len := 3) (ci := 13) (k := 28) (pc' := 11) ja_okT mJ_204 (by decide +kernel) (by decide +kernel) (by decide +kernel) (by decide) t_l0 rfl ?_
  refine nk_p (i := .iload_n 3) (len := 1) (pc' := 12) mJ_204 (by decide +kernel) (ns_iload_n 3 rfl rfl) rfl ?_
  obtain ⟨h3, hr⟩ := nk_cke hr
  refine nk_iald (len := 1) (N := 24) (pc' := 13) mJ_204 (by decide +kernel) t1 h3.1 h3.2 rfl rfl ?_
  refine nk_p (i := .i2l) (len := 1) (pc' := 14) mJ_204 (by decide +kernel) ns_i2l rfl ?_
  refine nk_p (i := .iload 4) (len := 2) (pc' := 16) mJ_204 (by decide +kernel) (ns_iload 4 rfl) rfl ?_
  refine nk_p (i := .i2l) (len := 1) (pc' := 17) mJ_204 (by decide +kernel) ns_i2l rfl ?_
  refine nk_p (i := .lsub) (len := 1) (pc' := 18) mJ_204 (by decide +kernel) ns_lsub rfl ?_
  obtain ⟨r4, S5, h6, hr⟩ := nk_bde hr
  refine nk_callS (ci := 0) (n := 2) (x := 676) (len := 3) (j' := 19) (q' := 2) (r := r4) (S' := S5) (L2 := [(0, nk_l (S.1 (ja_c l0 28) l2.toNat)), (2, nk_l (nk_W ((S.1 (ja_c l0 28) l3.toNat) - l4)))]) (rest := []) (st' := [nk_l r4]) (pc' := 21) mJ_204 (by decide +kernel) (by decide +kernel) (Nat.le_of_ble_eq_true rfl) rfl rfl (Nat.le_of_ble_eq_true rfl) mJ_19 (Nat.le_of_ble_eq_true rfl) ja_Tpos rfl (ja_J9_min_f86c9_ok zs _ _ _ _ h6) rfl ?_
  refine nk_p (i := .lstore 5) (len := 2) (pc' := 23) mJ_204 (by decide +kernel) (ns_lstore (L' := [(5, nk_l r4), (0, nk_r l0), (1, nk_r l1), (2, nk_i l2), (3, nk_i l3), (4, nk_i l4)]) rfl rfl (by decide +kernel)) rfl ?_
  refine nk_p (i := .aload_n 0) (len := 1) (pc' := 24) mJ_204 (by decide +kernel) (ns_aload_n 1 rfl rfl) rfl ?_
  refine nk_getC (f := (4, 1, 24)) (x := 74) (len := 3) (ci := 13) (k := 27) (pc' := 27) ja_okT mJ_204 (by decide +kernel) (by decide +kernel) (by decide +kernel) (by decide) t_l0 rfl ?_
  have t7 : nk_ar ja_Tt (ja_c l0 27) = some (1, 24) := nk_ta ja_okT t_l0 (by decide +kernel)
  refine nk_p (i := .iload_n 3) (len := 1) (pc' := 28) mJ_204 (by decide +kernel) (ns_iload_n 4 rfl rfl) rfl ?_
  refine nk_iald (len := 1) (N := 24) (pc' := 29) mJ_204 (by decide +kernel) t7 h3.1 h3.2 rfl rfl ?_
  refine nk_p (i := .i2l) (len := 1) (pc' := 30) mJ_204 (by decide +kernel) ns_i2l rfl ?_
  refine nk_p (i := .aload_n 0) (len := 1) (pc' := 31) mJ_204 (by decide +kernel) (ns_aload_n 1 rfl rfl) rfl ?_
  refine nk_getC (f := (4, 1, 24)) (x := 74) (len := 3) (ci := 13) (k := 27) (pc' := 34) ja_okT mJ_204 (by decide +kernel) (by decide +kernel) (by decide +kernel) (by decide) t_l0 rfl ?_
  refine nk_p (i := .iload_n 2) (len := 1) (pc' := 35) mJ_204 (by decide +kernel) (ns_iload_n 3 rfl rfl) rfl ?_
  refine nk_iald (len := 1) (N := 24) (pc' := 36) mJ_204 (by decide +kernel) t7 h2.1 h2.2 rfl rfl ?_
  refine nk_p (i := .i2l) (len := 1) (pc' := 37) mJ_204 (by decide +kernel) ns_i2l rfl ?_
  refine nk_p (i := .iload 4) (len := 2) (pc' := 39) mJ_204 (by decide +kernel) (ns_iload 5 rfl) rfl ?_
  refine nk_p (i := .i2l) (len := 1) (pc' := 40) mJ_204 (by decide +kernel) ns_i2l rfl ?_
  refine nk_p (i := .ladd) (len := 1) (pc' := 41) mJ_204 (by decide +kernel) ns_ladd rfl ?_
  obtain ⟨r8, S9, h10, hr⟩ := nk_bde hr
  refine nk_callS (ci := 0) (n := 2) (x := 679) (len := 3) (j' := 17) (q' := 2) (r := r8) (S' := S9) (L2 := [(0, nk_l (S5.1 (ja_c l0 27) l3.toNat)), (2, nk_l (nk_W ((S5.1 (ja_c l0 27) l2.toNat) + l4)))]) (rest := []) (st' := [nk_l r8]) (pc' := 44) mJ_204 (by decide +kernel) (by decide +kernel) (Nat.le_of_ble_eq_true rfl) rfl rfl (Nat.le_of_ble_eq_true rfl) mJ_17 (Nat.le_of_ble_eq_true rfl) ja_Tpos rfl (ja_J9_max_f86c9_ok zs _ _ _ _ h10) rfl ?_
  refine nk_p (i := .lstore 7) (len := 2) (pc' := 46) mJ_204 (by decide +kernel) (ns_lstore (L' := [(7, nk_l r8), (5, nk_l r4), (0, nk_r l0), (1, nk_r l1), (2, nk_i l2), (3, nk_i l3), (4, nk_i l4)]) rfl rfl (by decide +kernel)) rfl ?_
  refine nk_p (i := .lload 5) (len := 2) (pc' := 48) mJ_204 (by decide +kernel) (ns_lload 1 rfl) rfl ?_
  refine nk_p (i := .aload_n 0) (len := 1) (pc' := 49) mJ_204 (by decide +kernel) (ns_aload_n 2 rfl rfl) rfl ?_
  refine nk_getC (f := (4, 1, 24)) (x := 74) (len := 3) (ci := 13) (k := 27) (pc' := 52) ja_okT mJ_204 (by decide +kernel) (by decide +kernel) (by decide +kernel) (by decide) t_l0 rfl ?_
  refine nk_p (i := .iload_n 2) (len := 1) (pc' := 53) mJ_204 (by decide +kernel) (ns_iload_n 4 rfl rfl) rfl ?_
  refine nk_iald (len := 1) (N := 24) (pc' := 54) mJ_204 (by decide +kernel) t7 h2.1 h2.2 rfl rfl ?_
  refine nk_p (i := .i2l) (len := 1) (pc' := 55) mJ_204 (by decide +kernel) ns_i2l rfl ?_
  refine nk_p (i := .lcmp) (len := 1) (pc' := 56) mJ_204 (by decide +kernel) ns_lcmp rfl ?_
  refine nk_lcond (c := .lt) (off := 16) (len := 3) (t := 72) (pc' := 59) mJ_204 (by decide +kernel) (by decide +kernel) rfl (fun hc => ?_) (fun hc => ?_)
  · have hr := nk_ifp (c := r4 < (S9.1 (ja_c l0 27) l2.toNat)) hc hr
    refine nk_p (i := .iconst 0) (len := 1) (pc' := 73) mJ_204 (by decide +kernel) (ns_iconst (c := 0) (by decide +kernel)) rfl ?_
    cases hr
    exact nk_iret (ty := .boolean) (len := 1) mJ_204 (by decide +kernel) rfl (nk_nar_z (by decide))
  · have hr := nk_ifn (c := r4 < (S9.1 (ja_c l0 27) l2.toNat)) hc hr
    refine nk_sub [2, 3, 4, 5, 6, 1, 0] (L' := [(0, nk_r l0), (1, nk_r l1), (2, nk_i l2), (3, nk_i l3), (4, nk_i l4), (5, nk_l r4), (7, nk_l r8)]) rfl ?_
    exact ja_X13_ordered_b59_ok zs _ _ _ _ _ _ _ _ _ t_l0 t_l1 hr
/-! SafeCodeModel rangeToLocal (I)Z -/
noncomputable def ja_X13_rangeToLocal_b13 (l0 : Nat) (l1 : Int) (l2 : Int) (S : nk_S) : Option (Int × nk_S) :=
  if 0 ≤ l2 ∧ l2 < 24 then
  if 0 ≤ l1 ∧ l1 < 24 then
  nk_bd (ja_J9_max_7cf53 (S.1 (ja_c l0 27) l2.toNat) (S.1 (ja_c l0 27) l1.toNat) S) fun r4 S5 =>
  nk_lt (nk_wi S5 (ja_c l0 27) l2.toNat r4) fun S7 =>
  nk_bd (ja_J9_min_7cf53 (S7.1 (ja_c l0 28) l2.toNat) (S7.1 (ja_c l0 28) l1.toNat) S7) fun r10 S11 =>
  nk_lt (nk_wi S11 (ja_c l0 28) l2.toNat r10) fun S13 =>
  nk_lt (nk_wi S13 (ja_c l0 31) l2.toNat (nk_ior (S13.1 (ja_c l0 31) l2.toNat) (S13.1 (ja_c l0 31) l1.toNat))) fun S16 =>
  nk_lt (nk_wi S16 (ja_c l0 32) l2.toNat (nk_ior (S16.1 (ja_c l0 32) l2.toNat) (S16.1 (ja_c l0 32) l1.toNat))) fun S19 =>
  nk_lt (nk_wi S19 (ja_c l0 33) l2.toNat (nk_ior (S19.1 (ja_c l0 33) l2.toNat) (S19.1 (ja_c l0 33) l1.toNat))) fun S22 =>
  if (S22.1 (ja_c l0 28) l2.toNat) < (S22.1 (ja_c l0 27) l2.toNat) then
    some (0, S22)
  else
    some (1, S22)
  else none
  else none
theorem ja_X13_rangeToLocal_b13_ok (zs : List Int32) : ∀ (l0 : Nat) (l1 : Int) (l2 : Int) (S : nk_S) (R : Int × nk_S), nk_cl ja_Tt l0 = some 13 → ja_X13_rangeToLocal_b13 l0 l1 l2 S = some R → nk_K ja_Tt mi_Γ (mi_ev zs) 1 217 13 [(0, nk_r l0), (1, nk_i l1), (2, nk_i l2)] [] S R := by
  intro l0 l1 l2 S R t_l0 hr
  unfold ja_X13_rangeToLocal_b13 at hr
  refine nk_p (i := .aload_n 0) (len := 1) (pc' := 14) mJ_217 (by decide +kernel) (ns_aload_n 0 rfl rfl) rfl ?_
  refine nk_getC (f := (4, 1, 24)) (x := 74) (len := 3) (ci := 13) (k := 27) (pc' := 17) ja_okT mJ_217 (by decide +kernel) (by decide +kernel) (by decide +kernel) (by decide) t_l0 rfl ?_
  have t1 : nk_ar ja_Tt (ja_c l0 27) = some (1, 24) := nk_ta ja_okT t_l0 (by decide +kernel)
  refine nk_p (i := .iload_n 2) (len := 1) (pc' := 18) mJ_217 (by decide +kernel) (ns_iload_n 2 rfl rfl) rfl ?_
  refine nk_p (i := .aload_n 0) (len := 1) (pc' := 19) mJ_217 (by decide +kernel) (ns_aload_n 0 rfl rfl) rfl ?_
  refine nk_getC (f := (4, 1, 24)) (x := 74) (len := 3) (ci := 13) (k := 27) (pc' := 22) ja_okT mJ_217 (by decide +kernel) (by decide +kernel) (by decide +kernel) (by decide) t_l0 rfl ?_
  refine nk_p (i := .iload_n 2) (len := 1) (pc' := 23) mJ_217 (by decide +kernel) (ns_iload_n 2 rfl rfl) rfl ?_
  obtain ⟨h2, hr⟩ := nk_cke hr
  refine nk_iald (len := 1) (N := 24) (pc' := 24) mJ_217 (by decide +kernel) t1 h2.1 h2.2 rfl rfl ?_
  refine nk_p (i := .aload_n 0) (len := 1) (pc' := 25) mJ_217 (by decide +kernel) (ns_aload_n 0 rfl rfl) rfl ?_
  refine nk_getC (f := (4, 1, 24)) (x := 74) (len := 3) (ci := 13) (k := 27) (pc' := 28) ja_okT mJ_217 (by decide +kernel) (by decide +kernel) (by decide +kernel) (by decide) t_l0 rfl ?_
  refine nk_p (i := .iload_n 1) (len := 1) (pc' := 29) mJ_217 (by decide +kernel) (ns_iload_n 1 rfl rfl) rfl ?_
  obtain ⟨h3, hr⟩ := nk_cke hr
  refine nk_iald (len := 1) (N := 24) (pc' := 30) mJ_217 (by decide +kernel) t1 h3.1 h3.2 rfl rfl ?_
  obtain ⟨r4, S5, h6, hr⟩ := nk_bde hr
  refine nk_callS (ci := 0) (n := 2) (x := 557) (len := 3) (j' := 16) (q' := 1) (r := r4) (S' := S5) (L2 := [(0, nk_i (S.1 (ja_c l0 27) l2.toNat)), (1, nk_i (S.1 (ja_c l0 27) l1.toNat))]) (rest := [nk_i l2, nk_r (ja_c l0 27)]) (st' := [nk_i r4, nk_i l2, nk_r (ja_c l0 27)]) (pc' := 33) mJ_217 (by decide +kernel) (by decide +kernel) (Nat.le_of_ble_eq_true rfl) rfl rfl (Nat.le_of_ble_eq_true rfl) mJ_16 (Nat.le_of_ble_eq_true rfl) ja_Tpos rfl (ja_J9_max_7cf53_ok zs _ _ _ _ h6) rfl ?_
  obtain ⟨S7, h8, hr⟩ := nk_lte hr
  refine nk_iast (len := 1) (N := 24) (pc' := 34) mJ_217 (by decide +kernel) t1 h2.1 h2.2 rfl rfl h8 ?_
  refine nk_p (i := .aload_n 0) (len := 1) (pc' := 35) mJ_217 (by decide +kernel) (ns_aload_n 0 rfl rfl) rfl ?_
  refine nk_getC (f := (4, 1, 24)) (x := 77) (len := 3) (ci := 13) (k := 28) (pc' := 38) ja_okT mJ_217 (by decide +kernel) (by decide +kernel) (by decide +kernel) (by decide) t_l0 rfl ?_
  have t9 : nk_ar ja_Tt (ja_c l0 28) = some (1, 24) := nk_ta ja_okT t_l0 (by decide +kernel)
  refine nk_p (i := .iload_n 2) (len := 1) (pc' := 39) mJ_217 (by decide +kernel) (ns_iload_n 2 rfl rfl) rfl ?_
  refine nk_p (i := .aload_n 0) (len := 1) (pc' := 40) mJ_217 (by decide +kernel) (ns_aload_n 0 rfl rfl) rfl ?_
  refine nk_getC (f := (4, 1, 24)) (x := 77) (len := 3) (ci := 13) (k := 28) (pc' := 43) ja_okT mJ_217 (by decide +kernel) (by decide +kernel) (by decide +kernel) (by decide) t_l0 rfl ?_
  refine nk_p (i := .iload_n 2) (len := 1) (pc' := 44) mJ_217 (by decide +kernel) (ns_iload_n 2 rfl rfl) rfl ?_
  refine nk_iald (len := 1) (N := 24) (pc' := 45) mJ_217 (by decide +kernel) t9 h2.1 h2.2 rfl rfl ?_
  refine nk_p (i := .aload_n 0) (len := 1) (pc' := 46) mJ_217 (by decide +kernel) (ns_aload_n 0 rfl rfl) rfl ?_
  refine nk_getC (f := (4, 1, 24)) (x := 77) (len := 3) (ci := 13) (k := 28) (pc' := 49) ja_okT mJ_217 (by decide +kernel) (by decide +kernel) (by decide +kernel) (by decide) t_l0 rfl ?_
  refine nk_p (i := .iload_n 1) (len := 1) (pc' := 50) mJ_217 (by decide +kernel) (ns_iload_n 1 rfl rfl) rfl ?_
  refine nk_iald (len := 1) (N := 24) (pc' := 51) mJ_217 (by decide +kernel) t9 h3.1 h3.2 rfl rfl ?_
  obtain ⟨r10, S11, h12, hr⟩ := nk_bde hr
  refine nk_callS (ci := 0) (n := 2) (x := 551) (len := 3) (j' := 18) (q' := 1) (r := r10) (S' := S11) (L2 := [(0, nk_i (S7.1 (ja_c l0 28) l2.toNat)), (1, nk_i (S7.1 (ja_c l0 28) l1.toNat))]) (rest := [nk_i l2, nk_r (ja_c l0 28)]) (st' := [nk_i r10, nk_i l2, nk_r (ja_c l0 28)]) (pc' := 54) mJ_217 (by decide +kernel) (by decide +kernel) (Nat.le_of_ble_eq_true rfl) rfl rfl (Nat.le_of_ble_eq_true rfl) mJ_18 (Nat.le_of_ble_eq_true rfl) ja_Tpos rfl (ja_J9_min_7cf53_ok zs _ _ _ _ h12) rfl ?_
  obtain ⟨S13, h14, hr⟩ := nk_lte hr
  refine nk_iast (len := 1) (N := 24) (pc' := 55) mJ_217 (by decide +kernel) t9 h2.1 h2.2 rfl rfl h14 ?_
  refine nk_p (i := .aload_n 0) (len := 1) (pc' := 56) mJ_217 (by decide +kernel) (ns_aload_n 0 rfl rfl) rfl ?_
  refine nk_getC (f := (4, 1, 24)) (x := 87) (len := 3) (ci := 13) (k := 31) (pc' := 59) ja_okT mJ_217 (by decide +kernel) (by decide +kernel) (by decide +kernel) (by decide) t_l0 rfl ?_
  have t15 : nk_ar ja_Tt (ja_c l0 31) = some (1, 24) := nk_ta ja_okT t_l0 (by decide +kernel)
  refine nk_p (i := .iload_n 2) (len := 1) (pc' := 60) mJ_217 (by decide +kernel) (ns_iload_n 2 rfl rfl) rfl ?_
  refine nk_p (i := .dup2) (len := 1) (pc' := 61) mJ_217 (by decide +kernel) (ns_dup2 rfl rfl) rfl ?_
  refine nk_iald (len := 1) (N := 24) (pc' := 62) mJ_217 (by decide +kernel) t15 h2.1 h2.2 rfl rfl ?_
  refine nk_p (i := .aload_n 0) (len := 1) (pc' := 63) mJ_217 (by decide +kernel) (ns_aload_n 0 rfl rfl) rfl ?_
  refine nk_getC (f := (4, 1, 24)) (x := 87) (len := 3) (ci := 13) (k := 31) (pc' := 66) ja_okT mJ_217 (by decide +kernel) (by decide +kernel) (by decide +kernel) (by decide) t_l0 rfl ?_
  refine nk_p (i := .iload_n 1) (len := 1) (pc' := 67) mJ_217 (by decide +kernel) (ns_iload_n 1 rfl rfl) rfl ?_
  refine nk_iald (len := 1) (N := 24) (pc' := 68) mJ_217 (by decide +kernel) t15 h3.1 h3.2 rfl rfl ?_
  refine nk_p (i := .ior) (len := 1) (pc' := 69) mJ_217 (by decide +kernel) ns_ior rfl ?_
  obtain ⟨S16, h17, hr⟩ := nk_lte hr
  refine nk_iast (len := 1) (N := 24) (pc' := 70) mJ_217 (by decide +kernel) t15 h2.1 h2.2 rfl rfl h17 ?_
  refine nk_p (i := .aload_n 0) (len := 1) (pc' := 71) mJ_217 (by decide +kernel) (ns_aload_n 0 rfl rfl) rfl ?_
  refine nk_getC (f := (4, 1, 24)) (x := 90) (len := 3) (ci := 13) (k := 32) (pc' := 74) ja_okT mJ_217 (by decide +kernel) (by decide +kernel) (by decide +kernel) (by decide) t_l0 rfl ?_
  have t18 : nk_ar ja_Tt (ja_c l0 32) = some (1, 24) := nk_ta ja_okT t_l0 (by decide +kernel)
  refine nk_p (i := .iload_n 2) (len := 1) (pc' := 75) mJ_217 (by decide +kernel) (ns_iload_n 2 rfl rfl) rfl ?_
  refine nk_p (i := .dup2) (len := 1) (pc' := 76) mJ_217 (by decide +kernel) (ns_dup2 rfl rfl) rfl ?_
  refine nk_iald (len := 1) (N := 24) (pc' := 77) mJ_217 (by decide +kernel) t18 h2.1 h2.2 rfl rfl ?_
  refine nk_p (i := .aload_n 0) (len := 1) (pc' := 78) mJ_217 (by decide +kernel) (ns_aload_n 0 rfl rfl) rfl ?_
  refine nk_getC (f := (4, 1, 24)) (x := 90) (len := 3) (ci := 13) (k := 32) (pc' := 81) ja_okT mJ_217 (by decide +kernel) (by decide +kernel) (by decide +kernel) (by decide) t_l0 rfl ?_
  refine nk_p (i := .iload_n 1) (len := 1) (pc' := 82) mJ_217 (by decide +kernel) (ns_iload_n 1 rfl rfl) rfl ?_
  refine nk_iald (len := 1) (N := 24) (pc' := 83) mJ_217 (by decide +kernel) t18 h3.1 h3.2 rfl rfl ?_
  refine nk_p (i := .ior) (len := 1) (pc' := 84) mJ_217 (by decide +kernel) ns_ior rfl ?_
  obtain ⟨S19, h20, hr⟩ := nk_lte hr
  refine nk_iast (len := 1) (N := 24) (pc' := 85) mJ_217 (by decide +kernel) t18 h2.1 h2.2 rfl rfl h20 ?_
  refine nk_p (i := .aload_n 0) (len := 1) (pc' := 86) mJ_217 (by decide +kernel) (ns_aload_n 0 rfl rfl) rfl ?_
  refine nk_getC (f := (4, 1, 24)) (x := 93) (len := 3) (ci := 13) (k := 33) (pc' := 89) ja_okT mJ_217 (by decide +kernel) (by decide +kernel) (by decide +kernel) (by decide) t_l0 rfl ?_
  have t21 : nk_ar ja_Tt (ja_c l0 33) = some (1, 24) := nk_ta ja_okT t_l0 (by decide +kernel)
  refine nk_p (i := .iload_n 2) (len := 1) (pc' := 90) mJ_217 (by decide +kernel) (ns_iload_n 2 rfl rfl) rfl ?_
  refine nk_p (i := .dup2) (len := 1) (pc' := 91) mJ_217 (by decide +kernel) (ns_dup2 rfl rfl) rfl ?_
  refine nk_iald (len := 1) (N := 24) (pc' := 92) mJ_217 (by decide +kernel) t21 h2.1 h2.2 rfl rfl ?_
  refine nk_p (i := .aload_n 0) (len := 1) (pc' := 93) mJ_217 (by decide +kernel) (ns_aload_n 0 rfl rfl) rfl ?_
  refine nk_getC (f := (4, 1, 24)) (x := 93) (len := 3) (ci := 13) (k := 33) (pc' := 96) ja_okT mJ_217 (by decide +kernel) (by decide +kernel) (by decide +kernel) (by decide) t_l0 rfl ?_
  refine nk_p (i := .iload_n 1) (len := 1) (pc' := 97) mJ_217 (by decide +kernel) (ns_iload_n 1 rfl rfl) rfl ?_
  refine nk_iald (len := 1) (N := 24) (pc' := 98) mJ_217 (by decide +kernel) t21 h3.1 h3.2 rfl rfl ?_
  refine nk_p (i := .ior) (len := 1) (pc' := 99) mJ_217 (by decide +kernel) ns_ior rfl ?_
  obtain ⟨S22, h23, hr⟩ := nk_lte hr
  refine nk_iast (len := 1) (N := 24) (pc' := 100) mJ_217 (by decide +kernel) t21 h2.1 h2.2 rfl rfl h23 ?_
  refine nk_p (i := .aload_n 0) (len := 1) (pc' := 101) mJ_217 (by decide +kernel) (ns_aload_n 0 rfl rfl) rfl ?_
  refine nk_getC (f := (4, 1, 24)) (x := 74) (len := 3) (ci := 13) (k := 27) (pc' := 104) ja_okT mJ_217 (by decide +kernel) (by decide +kernel) (by decide +kernel) (by decide) t_l0 rfl ?_
  refine nk_p (i := .iload_n 2) (len := 1) (pc' := 105) mJ_217 (by decide +kernel) (ns_iload_n 2 rfl rfl) rfl ?_
  refine nk_iald (len := 1) (N := 24) (pc' := 106) mJ_217 (by decide +kernel) t1 h2.1 h2.2 rfl rfl ?_
  refine nk_p (i := .aload_n 0) (len := 1) (pc' := 107) mJ_217 (by decide +kernel) (ns_aload_n 0 rfl rfl) rfl ?_
  refine nk_getC (f := (4, 1, 24)) (x := 77) (len := 3) (ci := 13) (k := 28) (pc' := 110) ja_okT mJ_217 (by decide +kernel) (by decide +kernel) (by decide +kernel) (by decide) t_l0 rfl ?_
  refine nk_p (i := .iload_n 2) (len := 1) (pc' := 111) mJ_217 (by decide +kernel) (ns_iload_n 2 rfl rfl) rfl ?_
  refine nk_iald (len := 1) (N := 24) (pc' := 112) mJ_217 (by decide +kernel) t9 h2.1 h2.2 rfl rfl ?_
  refine nk_icmp (c := .gt) (off := 7) (len := 3) (t := 119) (pc' := 115) mJ_217 (by decide +kernel) (by decide +kernel) rfl (fun hc => ?_) (fun hc => ?_)
  · have hr := nk_ifp (c := (S22.1 (ja_c l0 28) l2.toNat) < (S22.1 (ja_c l0 27) l2.toNat)) hc hr
    refine nk_p (i := .iconst 0) (len := 1) (pc' := 120) mJ_217 (by decide +kernel) (ns_iconst (c := 0) (by decide +kernel)) rfl ?_
    cases hr
    exact nk_iret (ty := .boolean) (len := 1) mJ_217 (by decide +kernel) rfl (nk_nar_z (by decide))
  · have hr := nk_ifn (c := (S22.1 (ja_c l0 28) l2.toNat) < (S22.1 (ja_c l0 27) l2.toNat)) hc hr
    refine nk_p (i := .iconst 1) (len := 1) (pc' := 116) mJ_217 (by decide +kernel) (ns_iconst (c := 1) (by decide +kernel)) rfl ?_
    refine nk_p (i := .goto 4) (len := 3) (pc' := 120) mJ_217 (by decide +kernel) (ns_goto (by decide +kernel)) rfl ?_
    cases hr
    exact nk_iret (ty := .boolean) (len := 1) mJ_217 (by decide +kernel) rfl (nk_nar_z (by decide))
noncomputable def ja_X13_rangeToLocal (l0 : Nat) (l1 : Int) (S : nk_S) : Option (Int × nk_S) :=
  if 0 ≤ l1 ∧ l1 < 24 then
  nk_lt (S.1 (ja_c l0 30) l1.toNat) fun v3 =>
  if 0 ≤ v3 then
    ja_X13_rangeToLocal_b13 l0 l1 v3 S
  else
    some (1, S)
  else none
theorem ja_X13_rangeToLocal_ok (zs : List Int32) : ∀ (l0 : Nat) (l1 : Int) (S : nk_S) (R : Int × nk_S), nk_cl ja_Tt l0 = some 13 → ja_X13_rangeToLocal l0 l1 S = some R → nk_K ja_Tt mi_Γ (mi_ev zs) 1 217 0 [(0, nk_r l0), (1, nk_i l1)] [] S R := by
  intro l0 l1 S R t_l0 hr
  unfold ja_X13_rangeToLocal at hr
  refine nk_p (i := .aload_n 0) (len := 1) (pc' := 1) mJ_217 (by decide +kernel) (ns_aload_n 0 rfl rfl) rfl ?_
  refine nk_getC (f := (4, 1, 24)) (x := 84) (len := 3) (ci := 13) (k := 30) (pc' := 4) ja_okT mJ_217 (by decide +kernel) (by decide +kernel) (by decide +kernel) (by decide) t_l0 rfl ?_
  have t1 : nk_ar ja_Tt (ja_c l0 30) = some (1, 24) := nk_ta ja_okT t_l0 (by decide +kernel)
  refine nk_p (i := .iload_n 1) (len := 1) (pc' := 5) mJ_217 (by decide +kernel) (ns_iload_n 1 rfl rfl) rfl ?_
  obtain ⟨h2, hr⟩ := nk_cke hr
  refine nk_iald (len := 1) (N := 24) (pc' := 6) mJ_217 (by decide +kernel) t1 h2.1 h2.2 rfl rfl ?_
  obtain ⟨v3, h4, hr⟩ := nk_lte hr
  refine nk_p (i := .istore_n 2) (len := 1) (pc' := 7) mJ_217 (by decide +kernel) (ns_istore_n (L' := [(2, nk_i v3), (0, nk_r l0), (1, nk_i l1)]) h4 rfl rfl (by decide +kernel)) rfl ?_
  refine nk_p (i := .iload_n 2) (len := 1) (pc' := 8) mJ_217 (by decide +kernel) (ns_iload_n 0 rfl rfl) rfl ?_
  refine nk_icond (c := .ge) (off := 5) (len := 3) (t := 13) (pc' := 11) mJ_217 (by decide +kernel) (by decide +kernel) rfl (fun hc => ?_) (fun hc => ?_)
  · have hr := nk_ifp (c := 0 ≤ v3) hc hr
    refine nk_sub [1, 2, 0] (L' := [(0, nk_r l0), (1, nk_i l1), (2, nk_i v3)]) rfl ?_
    exact ja_X13_rangeToLocal_b13_ok zs _ _ _ _ _ t_l0 hr
  · have hr := nk_ifn (c := 0 ≤ v3) hc hr
    refine nk_p (i := .iconst 1) (len := 1) (pc' := 12) mJ_217 (by decide +kernel) (ns_iconst (c := 1) (by decide +kernel)) rfl ?_
    cases hr
    exact nk_iret (ty := .boolean) (len := 1) mJ_217 (by decide +kernel) rfl (nk_nar_z (by decide))
/-! SafeCodeModel way (LSafeCodeModel$Program;I)Z -/
noncomputable def ja_X13_way_b243 (l0 : Nat) (l3 : Int) (l4 : Int) (S : nk_S) : Option (Int × nk_S) :=
  nk_lt (nk_wi S l0 25 (nk_w ((S.1 l0 25) - 2))) fun S1 =>
  nk_bd (ja_X13_rangeToLocal l0 l4 S1) fun r3 S4 =>
  if r3 = 0 then
    some (0, S4)
  else
    nk_bd (ja_X13_rangeToLocal l0 l3 S4) fun r6 S7 =>
    if r6 = 0 then
      some (0, S7)
    else
      some (1, S7)
theorem ja_X13_way_b243_ok (zs : List Int32) : ∀ (l0 : Nat) (l3 : Int) (l4 : Int) (S : nk_S) (R : Int × nk_S), nk_cl ja_Tt l0 = some 13 → ja_X13_way_b243 l0 l3 l4 S = some R → nk_K ja_Tt mi_Γ (mi_ev zs) 1 242 243 [(0, nk_r l0), (3, nk_i l3), (4, nk_i l4)] [] S R := by
  intro l0 l3 l4 S R t_l0 hr
  unfold ja_X13_way_b243 at hr
  refine nk_p (i := .aload_n 0) (len := 1) (pc' := 244) mJ_242 (by decide +kernel) (ns_aload_n 0 rfl rfl) rfl ?_
  refine nk_p (i := .dup) (len := 1) (pc' := 245) mJ_242 (by decide +kernel) (ns_dup rfl) rfl ?_
  refine nk_getI (y := (0, 0)) (x := 495) (len := 3) (ci := 13) (k := 25) (pc' := 248) ja_okT mJ_242 (by decide +kernel) (by decide +kernel) (by decide +kernel) t_l0 rfl ?_
  refine nk_p (i := .iconst 2) (len := 1) (pc' := 249) mJ_242 (by decide +kernel) (ns_iconst (c := 2) (by decide +kernel)) rfl ?_
  refine nk_p (i := .isub) (len := 1) (pc' := 250) mJ_242 (by decide +kernel) ns_isub rfl ?_
  obtain ⟨S1, h2, hr⟩ := nk_lte hr
  refine nk_putI (y := (0, 0)) (ty := .int) (x := 495) (len := 3) (ci := 13) (k := 25) (pc' := 253) ja_okT mJ_242 (by decide +kernel) (by decide +kernel) (by decide +kernel) t_l0 (Or.inl rfl) rfl h2 ?_
  refine nk_p (i := .aload_n 0) (len := 1) (pc' := 254) mJ_242 (by decide +kernel) (ns_aload_n 0 rfl rfl) rfl ?_
  refine nk_p (i := .iload 4) (len := 2) (pc' := 256) mJ_242 (by decide +kernel) (ns_iload 2 rfl) rfl ?_
  obtain ⟨r3, S4, h5, hr⟩ := nk_bde hr
  refine nk_callV (ci := 13) (n := 1) (x := 673) (len := 3) (j' := 217) (q' := 1) (r := r3) (S' := S4) (L2 := [(0, nk_r l0), (1, nk_i l4)]) (rest := []) (st' := [nk_i r3]) (pc' := 259) mJ_242 (by decide +kernel) (by decide +kernel) rfl rfl t_l0 (Nat.le_of_ble_eq_true rfl) mJ_217 (Nat.le_of_ble_eq_true rfl) rfl (ja_X13_rangeToLocal_ok zs _ _ _ _ t_l0 h5) rfl ?_
  refine nk_icond (c := .eq) (off := 15) (len := 3) (t := 274) (pc' := 262) mJ_242 (by decide +kernel) (by decide +kernel) rfl (fun hc => ?_) (fun hc => ?_)
  · have hr := nk_ifp (c := r3 = 0) hc hr
    refine nk_p (i := .iconst 0) (len := 1) (pc' := 275) mJ_242 (by decide +kernel) (ns_iconst (c := 0) (by decide +kernel)) rfl ?_
    cases hr
    exact nk_iret (ty := .boolean) (len := 1) mJ_242 (by decide +kernel) rfl (nk_nar_z (by decide))
  · have hr := nk_ifn (c := r3 = 0) hc hr
    refine nk_p (i := .aload_n 0) (len := 1) (pc' := 263) mJ_242 (by decide +kernel) (ns_aload_n 0 rfl rfl) rfl ?_
    refine nk_p (i := .iload_n 3) (len := 1) (pc' := 264) mJ_242 (by decide +kernel) (ns_iload_n 1 rfl rfl) rfl ?_
    obtain ⟨r6, S7, h8, hr⟩ := nk_bde hr
    refine nk_callV (ci := 13) (n := 1) (x := 673) (len := 3) (j' := 217) (q' := 1) (r := r6) (S' := S7) (L2 := [(0, nk_r l0), (1, nk_i l3)]) (rest := []) (st' := [nk_i r6]) (pc' := 267) mJ_242 (by decide +kernel) (by decide +kernel) rfl rfl t_l0 (Nat.le_of_ble_eq_true rfl) mJ_217 (Nat.le_of_ble_eq_true rfl) rfl (ja_X13_rangeToLocal_ok zs _ _ _ _ t_l0 h8) rfl ?_
    refine nk_icond (c := .eq) (off := 7) (len := 3) (t := 274) (pc' := 270) mJ_242 (by decide +kernel) (by decide +kernel) rfl (fun hc => ?_) (fun hc => ?_)
    · have hr := nk_ifp (c := r6 = 0) hc hr
      refine nk_p (i := .iconst 0) (len := 1) (pc' := 275) mJ_242 (by decide +kernel) (ns_iconst (c := 0) (by decide +kernel)) rfl ?_
      cases hr
      exact nk_iret (ty := .boolean) (len := 1) mJ_242 (by decide +kernel) rfl (nk_nar_z (by decide))
    · have hr := nk_ifn (c := r6 = 0) hc hr
      refine nk_p (i := .iconst 1) (len := 1) (pc' := 271) mJ_242 (by decide +kernel) (ns_iconst (c := 1) (by decide +kernel)) rfl ?_
      refine nk_p (i := .goto 4) (len := 3) (pc' := 275) mJ_242 (by decide +kernel) (ns_goto (by decide +kernel)) rfl ?_
      cases hr
      exact nk_iret (ty := .boolean) (len := 1) mJ_242 (by decide +kernel) rfl (nk_nar_z (by decide))
noncomputable def ja_X13_way_b230 (l0 : Nat) (l1 : Nat) (l3 : Int) (l4 : Int) (S : nk_S) : Option (Int × nk_S) :=
  nk_bd (ja_X13_apart l0 l1 l4 l3 S) fun r1 S2 =>
  if r1 = 0 then
    some (0, S2)
  else
    ja_X13_way_b243 l0 l3 l4 S2
theorem ja_X13_way_b230_ok (zs : List Int32) : ∀ (l0 : Nat) (l1 : Nat) (l3 : Int) (l4 : Int) (S : nk_S) (R : Int × nk_S), nk_cl ja_Tt l0 = some 13 → nk_cl ja_Tt l1 = some 12 → ja_X13_way_b230 l0 l1 l3 l4 S = some R → nk_K ja_Tt mi_Γ (mi_ev zs) 1 242 230 [(0, nk_r l0), (1, nk_r l1), (3, nk_i l3), (4, nk_i l4)] [] S R := by
  intro l0 l1 l3 l4 S R t_l0 t_l1 hr
  unfold ja_X13_way_b230 at hr
  refine nk_p (i := .aload_n 0) (len := 1) (pc' := 231) mJ_242 (by decide +kernel) (ns_aload_n 0 rfl rfl) rfl ?_
  refine nk_p (i := .aload_n 1) (len := 1) (pc' := 232) mJ_242 (by decide +kernel) (ns_aload_n 1 rfl rfl) rfl ?_
  refine nk_p (i := .iload 4) (len := 2) (pc' := 234) mJ_242 (by decide +kernel) (ns_iload 3 rfl) rfl ?_
  refine nk_p (i := .iload_n 3) (len := 1) (pc' := 235) mJ_242 (by decide +kernel) (ns_iload_n 2 rfl rfl) rfl ?_
  obtain ⟨r1, S2, h3, hr⟩ := nk_bde hr
  refine nk_callV (ci := 13) (n := 3) (x := 670) (len := 3) (j' := 84) (q' := 1) (r := r1) (S' := S2) (L2 := [(0, nk_r l0), (1, nk_r l1), (2, nk_i l4), (3, nk_i l3)]) (rest := []) (st' := [nk_i r1]) (pc' := 238) mJ_242 (by decide +kernel) (by decide +kernel) rfl rfl t_l0 (Nat.le_of_ble_eq_true rfl) mJ_84 (Nat.le_of_ble_eq_true rfl) rfl (ja_X13_apart_ok zs _ _ _ _ _ _ t_l0 t_l1 h3) rfl ?_
  refine nk_icond (c := .ne) (off := 5) (len := 3) (t := 243) (pc' := 241) mJ_242 (by decide +kernel) (by decide +kernel) rfl (fun hc => ?_) (fun hc => ?_)
  · have hr := nk_ifn (c := r1 = 0) hc hr
    refine nk_sub [0, 2, 3] (L' := [(0, nk_r l0), (3, nk_i l3), (4, nk_i l4)]) rfl ?_
    exact ja_X13_way_b243_ok zs _ _ _ _ _ t_l0 hr
  · have hr := nk_ifp (c := r1 = 0) (Decidable.of_not_not hc) hr
    refine nk_p (i := .iconst 0) (len := 1) (pc' := 242) mJ_242 (by decide +kernel) (ns_iconst (c := 0) (by decide +kernel)) rfl ?_
    cases hr
    exact nk_iret (ty := .boolean) (len := 1) mJ_242 (by decide +kernel) rfl (nk_nar_z (by decide))
noncomputable def ja_X13_way_b186 (l0 : Nat) (l3 : Int) (l4 : Int) (s0 : Nat) (s1 : Nat) (s2 : Int) (s3 : Int) (s4 : Int) (S : nk_S) : Option (Int × nk_S) :=
  nk_bd (ja_X13_ordered s0 s1 s2 s3 s4 S) fun r1 S2 =>
  if r1 = 0 then
    some (0, S2)
  else
    ja_X13_way_b243 l0 l3 l4 S2
theorem ja_X13_way_b186_ok (zs : List Int32) : ∀ (l0 : Nat) (l3 : Int) (l4 : Int) (s0 : Nat) (s1 : Nat) (s2 : Int) (s3 : Int) (s4 : Int) (S : nk_S) (R : Int × nk_S), nk_cl ja_Tt l0 = some 13 → nk_cl ja_Tt s0 = some 13 → nk_cl ja_Tt s1 = some 12 → ja_X13_way_b186 l0 l3 l4 s0 s1 s2 s3 s4 S = some R → nk_K ja_Tt mi_Γ (mi_ev zs) 1 242 186 [(0, nk_r l0), (3, nk_i l3), (4, nk_i l4)] [nk_i s4, nk_i s3, nk_i s2, nk_r s1, nk_r s0] S R := by
  intro l0 l3 l4 s0 s1 s2 s3 s4 S R t_l0 t_s0 t_s1 hr
  unfold ja_X13_way_b186 at hr
  obtain ⟨r1, S2, h3, hr⟩ := nk_bde hr
  refine nk_callV (ci := 13) (n := 4) (x := 664) (len := 3) (j' := 204) (q' := 1) (r := r1) (S' := S2) (L2 := [(0, nk_r s0), (1, nk_r s1), (2, nk_i s2), (3, nk_i s3), (4, nk_i s4)]) (rest := []) (st' := [nk_i r1]) (pc' := 189) mJ_242 (by decide +kernel) (by decide +kernel) rfl rfl t_s0 (Nat.le_of_ble_eq_true rfl) mJ_204 (Nat.le_of_ble_eq_true rfl) rfl (ja_X13_ordered_ok zs _ _ _ _ _ _ _ t_s0 t_s1 h3) rfl ?_
  refine nk_icond (c := .ne) (off := 54) (len := 3) (t := 243) (pc' := 192) mJ_242 (by decide +kernel) (by decide +kernel) rfl (fun hc => ?_) (fun hc => ?_)
  · have hr := nk_ifn (c := r1 = 0) hc hr
    exact ja_X13_way_b243_ok zs _ _ _ _ _ t_l0 hr
  · have hr := nk_ifp (c := r1 = 0) (Decidable.of_not_not hc) hr
    refine nk_p (i := .iconst 0) (len := 1) (pc' := 193) mJ_242 (by decide +kernel) (ns_iconst (c := 0) (by decide +kernel)) rfl ?_
    cases hr
    exact nk_iret (ty := .boolean) (len := 1) mJ_242 (by decide +kernel) rfl (nk_nar_z (by decide))
noncomputable def ja_X13_way_b170 (l0 : Nat) (l1 : Nat) (l2 : Int) (l3 : Int) (l4 : Int) (S : nk_S) : Option (Int × nk_S) :=
  if l2 = 22 then
    ja_X13_way_b186 l0 l3 l4 l0 l1 l4 l3 1 S
  else
    ja_X13_way_b186 l0 l3 l4 l0 l1 l4 l3 0 S
theorem ja_X13_way_b170_ok (zs : List Int32) : ∀ (l0 : Nat) (l1 : Nat) (l2 : Int) (l3 : Int) (l4 : Int) (S : nk_S) (R : Int × nk_S), nk_cl ja_Tt l0 = some 13 → nk_cl ja_Tt l1 = some 12 → ja_X13_way_b170 l0 l1 l2 l3 l4 S = some R → nk_K ja_Tt mi_Γ (mi_ev zs) 1 242 170 [(0, nk_r l0), (1, nk_r l1), (2, nk_i l2), (3, nk_i l3), (4, nk_i l4)] [] S R := by
  intro l0 l1 l2 l3 l4 S R t_l0 t_l1 hr
  unfold ja_X13_way_b170 at hr
  refine nk_p (i := .aload_n 0) (len := 1) (pc' := 171) mJ_242 (by decide +kernel) (ns_aload_n 0 rfl rfl) rfl ?_
  refine nk_p (i := .aload_n 1) (len := 1) (pc' := 172) mJ_242 (by decide +kernel) (ns_aload_n 1 rfl rfl) rfl ?_
  refine nk_p (i := .iload 4) (len := 2) (pc' := 174) mJ_242 (by decide +kernel) (ns_iload 4 rfl) rfl ?_
  refine nk_p (i := .iload_n 3) (len := 1) (pc' := 175) mJ_242 (by decide +kernel) (ns_iload_n 3 rfl rfl) rfl ?_
  refine nk_p (i := .iload_n 2) (len := 1) (pc' := 176) mJ_242 (by decide +kernel) (ns_iload_n 2 rfl rfl) rfl ?_
  refine nk_p (i := .bipush 22) (len := 2) (pc' := 178) mJ_242 (by decide +kernel) (ns_bipush (c := 22) (by decide +kernel)) rfl ?_
  refine nk_icmp (c := .ne) (off := 7) (len := 3) (t := 185) (pc' := 181) mJ_242 (by decide +kernel) (by decide +kernel) rfl (fun hc => ?_) (fun hc => ?_)
  · have hr := nk_ifn (c := l2 = 22) hc hr
    refine nk_p (i := .iconst 0) (len := 1) (pc' := 186) mJ_242 (by decide +kernel) (ns_iconst (c := 0) (by decide +kernel)) rfl ?_
    refine nk_sub [0, 3, 4] (L' := [(0, nk_r l0), (3, nk_i l3), (4, nk_i l4)]) rfl ?_
    exact ja_X13_way_b186_ok zs _ _ _ _ _ _ _ _ _ _ t_l0 t_l0 t_l1 hr
  · have hr := nk_ifp (c := l2 = 22) (Decidable.of_not_not hc) hr
    refine nk_p (i := .iconst 1) (len := 1) (pc' := 182) mJ_242 (by decide +kernel) (ns_iconst (c := 1) (by decide +kernel)) rfl ?_
    refine nk_p (i := .goto 4) (len := 3) (pc' := 186) mJ_242 (by decide +kernel) (ns_goto (by decide +kernel)) rfl ?_
    refine nk_sub [0, 3, 4] (L' := [(0, nk_r l0), (3, nk_i l3), (4, nk_i l4)]) rfl ?_
    exact ja_X13_way_b186_ok zs _ _ _ _ _ _ _ _ _ _ t_l0 t_l0 t_l1 hr
noncomputable def ja_X13_way_b210 (l0 : Nat) (l3 : Int) (l4 : Int) (s0 : Nat) (s1 : Nat) (s2 : Int) (s3 : Int) (s4 : Int) (S : nk_S) : Option (Int × nk_S) :=
  nk_bd (ja_X13_ordered s0 s1 s2 s3 s4 S) fun r1 S2 =>
  if r1 = 0 then
    some (0, S2)
  else
    ja_X13_way_b243 l0 l3 l4 S2
theorem ja_X13_way_b210_ok (zs : List Int32) : ∀ (l0 : Nat) (l3 : Int) (l4 : Int) (s0 : Nat) (s1 : Nat) (s2 : Int) (s3 : Int) (s4 : Int) (S : nk_S) (R : Int × nk_S), nk_cl ja_Tt l0 = some 13 → nk_cl ja_Tt s0 = some 13 → nk_cl ja_Tt s1 = some 12 → ja_X13_way_b210 l0 l3 l4 s0 s1 s2 s3 s4 S = some R → nk_K ja_Tt mi_Γ (mi_ev zs) 1 242 210 [(0, nk_r l0), (3, nk_i l3), (4, nk_i l4)] [nk_i s4, nk_i s3, nk_i s2, nk_r s1, nk_r s0] S R := by
  intro l0 l3 l4 s0 s1 s2 s3 s4 S R t_l0 t_s0 t_s1 hr
  unfold ja_X13_way_b210 at hr
  obtain ⟨r1, S2, h3, hr⟩ := nk_bde hr
  refine nk_callV (ci := 13) (n := 4) (x := 664) (len := 3) (j' := 204) (q' := 1) (r := r1) (S' := S2) (L2 := [(0, nk_r s0), (1, nk_r s1), (2, nk_i s2), (3, nk_i s3), (4, nk_i s4)]) (rest := []) (st' := [nk_i r1]) (pc' := 213) mJ_242 (by decide +kernel) (by decide +kernel) rfl rfl t_s0 (Nat.le_of_ble_eq_true rfl) mJ_204 (Nat.le_of_ble_eq_true rfl) rfl (ja_X13_ordered_ok zs _ _ _ _ _ _ _ t_s0 t_s1 h3) rfl ?_
  refine nk_icond (c := .ne) (off := 30) (len := 3) (t := 243) (pc' := 216) mJ_242 (by decide +kernel) (by decide +kernel) rfl (fun hc => ?_) (fun hc => ?_)
  · have hr := nk_ifn (c := r1 = 0) hc hr
    exact ja_X13_way_b243_ok zs _ _ _ _ _ t_l0 hr
  · have hr := nk_ifp (c := r1 = 0) (Decidable.of_not_not hc) hr
    refine nk_p (i := .iconst 0) (len := 1) (pc' := 217) mJ_242 (by decide +kernel) (ns_iconst (c := 0) (by decide +kernel)) rfl ?_
    cases hr
    exact nk_iret (ty := .boolean) (len := 1) mJ_242 (by decide +kernel) rfl (nk_nar_z (by decide))
noncomputable def ja_X13_way_b194 (l0 : Nat) (l1 : Nat) (l2 : Int) (l3 : Int) (l4 : Int) (S : nk_S) : Option (Int × nk_S) :=
  if l2 = 24 then
    ja_X13_way_b210 l0 l3 l4 l0 l1 l3 l4 1 S
  else
    ja_X13_way_b210 l0 l3 l4 l0 l1 l3 l4 0 S
theorem ja_X13_way_b194_ok (zs : List Int32) : ∀ (l0 : Nat) (l1 : Nat) (l2 : Int) (l3 : Int) (l4 : Int) (S : nk_S) (R : Int × nk_S), nk_cl ja_Tt l0 = some 13 → nk_cl ja_Tt l1 = some 12 → ja_X13_way_b194 l0 l1 l2 l3 l4 S = some R → nk_K ja_Tt mi_Γ (mi_ev zs) 1 242 194 [(0, nk_r l0), (1, nk_r l1), (2, nk_i l2), (3, nk_i l3), (4, nk_i l4)] [] S R := by
  intro l0 l1 l2 l3 l4 S R t_l0 t_l1 hr
  unfold ja_X13_way_b194 at hr
  refine nk_p (i := .aload_n 0) (len := 1) (pc' := 195) mJ_242 (by decide +kernel) (ns_aload_n 0 rfl rfl) rfl ?_
  refine nk_p (i := .aload_n 1) (len := 1) (pc' := 196) mJ_242 (by decide +kernel) (ns_aload_n 1 rfl rfl) rfl ?_
  refine nk_p (i := .iload_n 3) (len := 1) (pc' := 197) mJ_242 (by decide +kernel) (ns_iload_n 3 rfl rfl) rfl ?_
  refine nk_p (i := .iload 4) (len := 2) (pc' := 199) mJ_242 (by decide +kernel) (ns_iload 4 rfl) rfl ?_
  refine nk_p (i := .iload_n 2) (len := 1) (pc' := 200) mJ_242 (by decide +kernel) (ns_iload_n 2 rfl rfl) rfl ?_
  refine nk_p (i := .bipush 24) (len := 2) (pc' := 202) mJ_242 (by decide +kernel) (ns_bipush (c := 24) (by decide +kernel)) rfl ?_
  refine nk_icmp (c := .ne) (off := 7) (len := 3) (t := 209) (pc' := 205) mJ_242 (by decide +kernel) (by decide +kernel) rfl (fun hc => ?_) (fun hc => ?_)
  · have hr := nk_ifn (c := l2 = 24) hc hr
    refine nk_p (i := .iconst 0) (len := 1) (pc' := 210) mJ_242 (by decide +kernel) (ns_iconst (c := 0) (by decide +kernel)) rfl ?_
    refine nk_sub [0, 3, 4] (L' := [(0, nk_r l0), (3, nk_i l3), (4, nk_i l4)]) rfl ?_
    exact ja_X13_way_b210_ok zs _ _ _ _ _ _ _ _ _ _ t_l0 t_l0 t_l1 hr
  · have hr := nk_ifp (c := l2 = 24) (Decidable.of_not_not hc) hr
    refine nk_p (i := .iconst 1) (len := 1) (pc' := 206) mJ_242 (by decide +kernel) (ns_iconst (c := 1) (by decide +kernel)) rfl ?_
    refine nk_p (i := .goto 4) (len := 3) (pc' := 210) mJ_242 (by decide +kernel) (ns_goto (by decide +kernel)) rfl ?_
    refine nk_sub [0, 3, 4] (L' := [(0, nk_r l0), (3, nk_i l3), (4, nk_i l4)]) rfl ?_
    exact ja_X13_way_b210_ok zs _ _ _ _ _ _ _ _ _ _ t_l0 t_l0 t_l1 hr
noncomputable def ja_X13_way_b99 (s0 : Nat) (s1 : Int) (s2 : Int) (S : nk_S) : Option (Int × nk_S) :=
  nk_bd (ja_X13_keeps s0 s1 s2 S) fun r1 S2 =>
  if r1 = 0 ∨ r1 = 1 then
  some (r1, S2)
  else none
theorem ja_X13_way_b99_ok (zs : List Int32) : ∀ (s0 : Nat) (s1 : Int) (s2 : Int) (S : nk_S) (R : Int × nk_S), nk_cl ja_Tt s0 = some 13 → ja_X13_way_b99 s0 s1 s2 S = some R → nk_K ja_Tt mi_Γ (mi_ev zs) 1 242 99 [] [nk_l s2, nk_i s1, nk_r s0] S R := by
  intro s0 s1 s2 S R t_s0 hr
  unfold ja_X13_way_b99 at hr
  obtain ⟨r1, S2, h3, hr⟩ := nk_bde hr
  refine nk_callV (ci := 13) (n := 2) (x := 660) (len := 3) (j' := 170) (q' := 1) (r := r1) (S' := S2) (L2 := [(0, nk_r s0), (1, nk_i s1), (2, nk_l s2)]) (rest := []) (st' := [nk_i r1]) (pc' := 102) mJ_242 (by decide +kernel) (by decide +kernel) rfl rfl t_s0 (Nat.le_of_ble_eq_true rfl) mJ_170 (Nat.le_of_ble_eq_true rfl) rfl (ja_X13_keeps_ok zs _ _ _ _ _ t_s0 h3) rfl ?_
  obtain ⟨h4, hr⟩ := nk_cke hr
  cases hr
  exact nk_iret (ty := .boolean) (len := 1) mJ_242 (by decide +kernel) rfl (nk_nar_z h4)
noncomputable def ja_X13_way_b72 (l0 : Nat) (l2 : Int) (l3 : Int) (S : nk_S) : Option (Int × nk_S) :=
  nk_lt (nk_wi S l0 25 (nk_w ((S.1 l0 25) - 1))) fun S1 =>
  if l2 = 26 then
    ja_X13_way_b99 l0 l3 4611686018427387904 S1
  else
    ja_X13_way_b99 l0 l3 (-4611686018427387905) S1
theorem ja_X13_way_b72_ok (zs : List Int32) : ∀ (l0 : Nat) (l2 : Int) (l3 : Int) (S : nk_S) (R : Int × nk_S), nk_cl ja_Tt l0 = some 13 → ja_X13_way_b72 l0 l2 l3 S = some R → nk_K ja_Tt mi_Γ (mi_ev zs) 1 242 72 [(0, nk_r l0), (2, nk_i l2), (3, nk_i l3)] [] S R := by
  intro l0 l2 l3 S R t_l0 hr
  unfold ja_X13_way_b72 at hr
  refine nk_p (i := .aload_n 0) (len := 1) (pc' := 73) mJ_242 (by decide +kernel) (ns_aload_n 0 rfl rfl) rfl ?_
  refine nk_p (i := .dup) (len := 1) (pc' := 74) mJ_242 (by decide +kernel) (ns_dup rfl) rfl ?_
  refine nk_getI (y := (0, 0)) (x := 495) (len := 3) (ci := 13) (k := 25) (pc' := 77) ja_okT mJ_242 (by decide +kernel) (by decide +kernel) (by decide +kernel) t_l0 rfl ?_
  refine nk_p (i := .iconst 1) (len := 1) (pc' := 78) mJ_242 (by decide +kernel) (ns_iconst (c := 1) (by decide +kernel)) rfl ?_
  refine nk_p (i := .isub) (len := 1) (pc' := 79) mJ_242 (by decide +kernel) ns_isub rfl ?_
  obtain ⟨S1, h2, hr⟩ := nk_lte hr
  refine nk_putI (y := (0, 0)) (ty := .int) (x := 495) (len := 3) (ci := 13) (k := 25) (pc' := 82) ja_okT mJ_242 (by decide +kernel) (by decide +kernel) (by decide +kernel) t_l0 (Or.inl rfl) rfl h2 ?_
  refine nk_p (i := .aload_n 0) (len := 1) (pc' := 83) mJ_242 (by decide +kernel) (ns_aload_n 0 rfl rfl) rfl ?_
  refine nk_p (i := .iload_n 3) (len := 1) (pc' := 84) mJ_242 (by decide +kernel) (ns_iload_n 2 rfl rfl) rfl ?_
  refine nk_p (i := .iload_n 2) (len := 1) (pc' := 85) mJ_242 (by decide +kernel) (ns_iload_n 1 rfl rfl) rfl ?_
  refine nk_p (i := .bipush 26) (len := 2) (pc' := 87) mJ_242 (by decide +kernel) (ns_bipush (c := 26) (by decide +kernel)) rfl ?_
  refine nk_icmp (c := .ne) (off := 9) (len := 3) (t := 96) (pc' := 90) mJ_242 (by decide +kernel) (by decide +kernel) rfl (fun hc => ?_) (fun hc => ?_)
  · have hr := nk_ifn (c := l2 = 26) hc hr
    refine nk_ldc2 (x := 658) (len := 3) (X := (-4611686018427387905)) (v := (-4611686018427387905)) (pc' := 99) mJ_242 (by decide +kernel) (by decide +kernel) (by decide +kernel) rfl ?_
    refine nk_sub [] (L' := []) rfl ?_
    exact ja_X13_way_b99_ok zs _ _ _ _ _ t_l0 hr
  · have hr := nk_ifp (c := l2 = 26) (Decidable.of_not_not hc) hr
    refine nk_ldc2 (x := 599) (len := 3) (X := 4611686018427387904) (v := 4611686018427387904) (pc' := 93) mJ_242 (by decide +kernel) (by decide +kernel) (by decide +kernel) rfl ?_
    refine nk_p (i := .goto 6) (len := 3) (pc' := 99) mJ_242 (by decide +kernel) (ns_goto (by decide +kernel)) rfl ?_
    refine nk_sub [] (L' := []) rfl ?_
    exact ja_X13_way_b99_ok zs _ _ _ _ _ t_l0 hr
noncomputable def ja_X13_way_b103 (l0 : Nat) (l2 : Int) (l3 : Int) (l4 : Int) (S : nk_S) : Option (Int × nk_S) :=
  nk_lt (nk_wi S l0 25 (nk_w ((S.1 l0 25) - 2))) fun S1 =>
  if l2 = 29 then
    some (1, S1)
  else
    if 0 ≤ l4 ∧ l4 < 24 then
    if 0 ≤ l3 ∧ l3 < 24 then
    nk_bd (ja_X13_keeps l0 l4 (nk_land (S1.1 (ja_c l0 29) l4.toNat) (S1.1 (ja_c l0 29) l3.toNat)) S1) fun r6 S7 =>
    if r6 = 0 then
      some (0, S7)
    else
      nk_bd (ja_X13_keeps l0 l3 (nk_land (S7.1 (ja_c l0 29) l4.toNat) (S7.1 (ja_c l0 29) l3.toNat)) S7) fun r9 S10 =>
      if r9 = 0 then
        some (0, S10)
      else
        some (1, S10)
    else none
    else none
theorem ja_X13_way_b103_ok (zs : List Int32) : ∀ (l0 : Nat) (l2 : Int) (l3 : Int) (l4 : Int) (S : nk_S) (R : Int × nk_S), nk_cl ja_Tt l0 = some 13 → ja_X13_way_b103 l0 l2 l3 l4 S = some R → nk_K ja_Tt mi_Γ (mi_ev zs) 1 242 103 [(0, nk_r l0), (2, nk_i l2), (3, nk_i l3), (4, nk_i l4)] [] S R := by
  intro l0 l2 l3 l4 S R t_l0 hr
  unfold ja_X13_way_b103 at hr
  refine nk_p (i := .aload_n 0) (len := 1) (pc' := 104) mJ_242 (by decide +kernel) (ns_aload_n 0 rfl rfl) rfl ?_
  refine nk_p (i := .dup) (len := 1) (pc' := 105) mJ_242 (by decide +kernel) (ns_dup rfl) rfl ?_
  refine nk_getI (y := (0, 0)) (x := 495) (len := 3) (ci := 13) (k := 25) (pc' := 108) ja_okT mJ_242 (by decide +kernel) (by decide +kernel) (by decide +kernel) t_l0 rfl ?_
  refine nk_p (i := .iconst 2) (len := 1) (pc' := 109) mJ_242 (by decide +kernel) (ns_iconst (c := 2) (by decide +kernel)) rfl ?_
  refine nk_p (i := .isub) (len := 1) (pc' := 110) mJ_242 (by decide +kernel) ns_isub rfl ?_
  obtain ⟨S1, h2, hr⟩ := nk_lte hr
  refine nk_putI (y := (0, 0)) (ty := .int) (x := 495) (len := 3) (ci := 13) (k := 25) (pc' := 113) ja_okT mJ_242 (by decide +kernel) (by decide +kernel) (by decide +kernel) t_l0 (Or.inl rfl) rfl h2 ?_
  refine nk_p (i := .iload_n 2) (len := 1) (pc' := 114) mJ_242 (by decide +kernel) (ns_iload_n 1 rfl rfl) rfl ?_
  refine nk_p (i := .bipush 29) (len := 2) (pc' := 116) mJ_242 (by decide +kernel) (ns_bipush (c := 29) (by decide +kernel)) rfl ?_
  refine nk_icmp (c := .eq) (off := 48) (len := 3) (t := 164) (pc' := 119) mJ_242 (by decide +kernel) (by decide +kernel) rfl (fun hc => ?_) (fun hc => ?_)
  · have hr := nk_ifp (c := l2 = 29) hc hr
    refine nk_p (i := .iconst 1) (len := 1) (pc' := 165) mJ_242 (by decide +kernel) (ns_iconst (c := 1) (by decide +kernel)) rfl ?_
    refine nk_p (i := .goto 4) (len := 3) (pc' := 169) mJ_242 (by decide +kernel) (ns_goto (by decide +kernel)) rfl ?_
    cases hr
    exact nk_iret (ty := .boolean) (len := 1) mJ_242 (by decide +kernel) rfl (nk_nar_z (by decide))
  · have hr := nk_ifn (c := l2 = 29) hc hr
    refine nk_p (i := .aload_n 0) (len := 1) (pc' := 120) mJ_242 (by decide +kernel) (ns_aload_n 0 rfl rfl) rfl ?_
    refine nk_p (i := .iload 4) (len := 2) (pc' := 122) mJ_242 (by decide +kernel) (ns_iload 3 rfl) rfl ?_
    refine nk_p (i := .aload_n 0) (len := 1) (pc' := 123) mJ_242 (by decide +kernel) (ns_aload_n 0 rfl rfl) rfl ?_
    refine nk_getC (f := (4, 2, 24)) (x := 80) (len := 3) (ci := 13) (k := 29) (pc' := 126) ja_okT mJ_242 (by decide +kernel) (by decide +kernel) (by decide +kernel) (by decide) t_l0 rfl ?_
    have t3 : nk_ar ja_Tt (ja_c l0 29) = some (2, 24) := nk_ta ja_okT t_l0 (by decide +kernel)
    refine nk_p (i := .iload 4) (len := 2) (pc' := 128) mJ_242 (by decide +kernel) (ns_iload 3 rfl) rfl ?_
    obtain ⟨h4, hr⟩ := nk_cke hr
    refine nk_lald (len := 1) (N := 24) (pc' := 129) mJ_242 (by decide +kernel) t3 h4.1 h4.2 rfl rfl ?_
    refine nk_p (i := .aload_n 0) (len := 1) (pc' := 130) mJ_242 (by decide +kernel) (ns_aload_n 0 rfl rfl) rfl ?_
    refine nk_getC (f := (4, 2, 24)) (x := 80) (len := 3) (ci := 13) (k := 29) (pc' := 133) ja_okT mJ_242 (by decide +kernel) (by decide +kernel) (by decide +kernel) (by decide) t_l0 rfl ?_
    refine nk_p (i := .iload_n 3) (len := 1) (pc' := 134) mJ_242 (by decide +kernel) (ns_iload_n 2 rfl rfl) rfl ?_
    obtain ⟨h5, hr⟩ := nk_cke hr
    refine nk_lald (len := 1) (N := 24) (pc' := 135) mJ_242 (by decide +kernel) t3 h5.1 h5.2 rfl rfl ?_
    refine nk_p (i := .land) (len := 1) (pc' := 136) mJ_242 (by decide +kernel) ns_land rfl ?_
    obtain ⟨r6, S7, h8, hr⟩ := nk_bde hr
    refine nk_callV (ci := 13) (n := 2) (x := 660) (len := 3) (j' := 170) (q' := 1) (r := r6) (S' := S7) (L2 := [(0, nk_r l0), (1, nk_i l4), (2, nk_l (nk_land (S1.1 (ja_c l0 29) l4.toNat) (S1.1 (ja_c l0 29) l3.toNat)))]) (rest := []) (st' := [nk_i r6]) (pc' := 139) mJ_242 (by decide +kernel) (by decide +kernel) rfl rfl t_l0 (Nat.le_of_ble_eq_true rfl) mJ_170 (Nat.le_of_ble_eq_true rfl) rfl (ja_X13_keeps_ok zs _ _ _ _ _ t_l0 h8) rfl ?_
    refine nk_icond (c := .eq) (off := 29) (len := 3) (t := 168) (pc' := 142) mJ_242 (by decide +kernel) (by decide +kernel) rfl (fun hc => ?_) (fun hc => ?_)
    · have hr := nk_ifp (c := r6 = 0) hc hr
      refine nk_p (i := .iconst 0) (len := 1) (pc' := 169) mJ_242 (by decide +kernel) (ns_iconst (c := 0) (by decide +kernel)) rfl ?_
      cases hr
      exact nk_iret (ty := .boolean) (len := 1) mJ_242 (by decide +kernel) rfl (nk_nar_z (by decide))
    · have hr := nk_ifn (c := r6 = 0) hc hr
      refine nk_p (i := .aload_n 0) (len := 1) (pc' := 143) mJ_242 (by decide +kernel) (ns_aload_n 0 rfl rfl) rfl ?_
      refine nk_p (i := .iload_n 3) (len := 1) (pc' := 144) mJ_242 (by decide +kernel) (ns_iload_n 2 rfl rfl) rfl ?_
      refine nk_p (i := .aload_n 0) (len := 1) (pc' := 145) mJ_242 (by decide +kernel) (ns_aload_n 0 rfl rfl) rfl ?_
      refine nk_getC (f := (4, 2, 24)) (x := 80) (len := 3) (ci := 13) (k := 29) (pc' := 148) ja_okT mJ_242 (by decide +kernel) (by decide +kernel) (by decide +kernel) (by decide) t_l0 rfl ?_
      refine nk_p (i := .iload 4) (len := 2) (pc' := 150) mJ_242 (by decide +kernel) (ns_iload 3 rfl) rfl ?_
      refine nk_lald (len := 1) (N := 24) (pc' := 151) mJ_242 (by decide +kernel) t3 h4.1 h4.2 rfl rfl ?_
      refine nk_p (i := .aload_n 0) (len := 1) (pc' := 152) mJ_242 (by decide +kernel) (ns_aload_n 0 rfl rfl) rfl ?_
      refine nk_getC (f := (4, 2, 24)) (x := 80) (len := 3) (ci := 13) (k := 29) (pc' := 155) ja_okT mJ_242 (by decide +kernel) (by decide +kernel) (by decide +kernel) (by decide) t_l0 rfl ?_
      refine nk_p (i := .iload_n 3) (len := 1) (pc' := 156) mJ_242 (by decide +kernel) (ns_iload_n 2 rfl rfl) rfl ?_
      refine nk_lald (len := 1) (N := 24) (pc' := 157) mJ_242 (by decide +kernel) t3 h5.1 h5.2 rfl rfl ?_
      refine nk_p (i := .land) (len := 1) (pc' := 158) mJ_242 (by decide +kernel) ns_land rfl ?_
      obtain ⟨r9, S10, h11, hr⟩ := nk_bde hr
      refine nk_callV (ci := 13) (n := 2) (x := 660) (len := 3) (j' := 170) (q' := 1) (r := r9) (S' := S10) (L2 := [(0, nk_r l0), (1, nk_i l3), (2, nk_l (nk_land (S7.1 (ja_c l0 29) l4.toNat) (S7.1 (ja_c l0 29) l3.toNat)))]) (rest := []) (st' := [nk_i r9]) (pc' := 161) mJ_242 (by decide +kernel) (by decide +kernel) rfl rfl t_l0 (Nat.le_of_ble_eq_true rfl) mJ_170 (Nat.le_of_ble_eq_true rfl) rfl (ja_X13_keeps_ok zs _ _ _ _ _ t_l0 h11) rfl ?_
      refine nk_icond (c := .eq) (off := 7) (len := 3) (t := 168) (pc' := 164) mJ_242 (by decide +kernel) (by decide +kernel) rfl (fun hc => ?_) (fun hc => ?_)
      · have hr := nk_ifp (c := r9 = 0) hc hr
        refine nk_p (i := .iconst 0) (len := 1) (pc' := 169) mJ_242 (by decide +kernel) (ns_iconst (c := 0) (by decide +kernel)) rfl ?_
        cases hr
        exact nk_iret (ty := .boolean) (len := 1) mJ_242 (by decide +kernel) rfl (nk_nar_z (by decide))
      · have hr := nk_ifn (c := r9 = 0) hc hr
        refine nk_p (i := .iconst 1) (len := 1) (pc' := 165) mJ_242 (by decide +kernel) (ns_iconst (c := 1) (by decide +kernel)) rfl ?_
        refine nk_p (i := .goto 4) (len := 3) (pc' := 169) mJ_242 (by decide +kernel) (ns_goto (by decide +kernel)) rfl ?_
        cases hr
        exact nk_iret (ty := .boolean) (len := 1) mJ_242 (by decide +kernel) rfl (nk_nar_z (by decide))
noncomputable def ja_X13_way (l0 : Nat) (l1 : Nat) (l2 : Int) (S : nk_S) : Option (Int × nk_S) :=
  nk_lt (nk_w ((S.1 l0 25) - 1)) fun v1 =>
  nk_lt (nk_w ((S.1 l0 25) - 2)) fun v3 =>
  if l2 = 20 then
    nk_bd (ja_X13_alike l0 v3 v1 S) fun r5 S6 =>
    if r5 = 0 then
      some (0, S6)
    else
      ja_X13_way_b243 l0 v1 v3 S6
  else
  if l2 = 21 then
    ja_X13_way_b230 l0 l1 v1 v3 S
  else
  if l2 = 22 then
    ja_X13_way_b170 l0 l1 l2 v1 v3 S
  else
  if l2 = 23 then
    ja_X13_way_b170 l0 l1 l2 v1 v3 S
  else
  if l2 = 24 then
    ja_X13_way_b194 l0 l1 l2 v1 v3 S
  else
  if l2 = 25 then
    ja_X13_way_b194 l0 l1 l2 v1 v3 S
  else
  if l2 = 26 then
    ja_X13_way_b72 l0 l2 v1 S
  else
  if l2 = 27 then
    ja_X13_way_b72 l0 l2 v1 S
  else
  if l2 = 28 then
    ja_X13_way_b103 l0 l2 v1 v3 S
  else
  if l2 = 29 then
    ja_X13_way_b103 l0 l2 v1 v3 S
  else
  ja_X13_way_b230 l0 l1 v1 v3 S
theorem ja_X13_way_ok (zs : List Int32) : ∀ (l0 : Nat) (l1 : Nat) (l2 : Int) (S : nk_S) (R : Int × nk_S), nk_cl ja_Tt l0 = some 13 → nk_cl ja_Tt l1 = some 12 → ja_X13_way l0 l1 l2 S = some R → nk_K ja_Tt mi_Γ (mi_ev zs) 1 242 0 [(0, nk_r l0), (1, nk_r l1), (2, nk_i l2)] [] S R := by
  intro l0 l1 l2 S R t_l0 t_l1 hr
  unfold ja_X13_way at hr
  refine nk_p (i := .aload_n 0) (len := 1) (pc' := 1) mJ_242 (by decide +kernel) (ns_aload_n 0 rfl rfl) rfl ?_
  refine nk_getI (y := (0, 0)) (x := 495) (len := 3) (ci := 13) (k := 25) (pc' := 4) ja_okT mJ_242 (by decide +kernel) (by decide +kernel) (by decide +kernel) t_l0 rfl ?_
  refine nk_p (i := .iconst 1) (len := 1) (pc' := 5) mJ_242 (by decide +kernel) (ns_iconst (c := 1) (by decide +kernel)) rfl ?_
  refine nk_p (i := .isub) (len := 1) (pc' := 6) mJ_242 (by decide +kernel) ns_isub rfl ?_
  obtain ⟨v1, h2, hr⟩ := nk_lte hr
  refine nk_p (i := .istore_n 3) (len := 1) (pc' := 7) mJ_242 (by decide +kernel) (ns_istore_n (L' := [(3, nk_i v1), (0, nk_r l0), (1, nk_r l1), (2, nk_i l2)]) h2 rfl rfl (by decide +kernel)) rfl ?_
  refine nk_p (i := .aload_n 0) (len := 1) (pc' := 8) mJ_242 (by decide +kernel) (ns_aload_n 1 rfl rfl) rfl ?_
  refine nk_getI (y := (0, 0)) (x := 495) (len := 3) (ci := 13) (k := 25) (pc' := 11) ja_okT mJ_242 (by decide +kernel) (by decide +kernel) (by decide +kernel) t_l0 rfl ?_
  refine nk_p (i := .iconst 2) (len := 1) (pc' := 12) mJ_242 (by decide +kernel) (ns_iconst (c := 2) (by decide +kernel)) rfl ?_
  refine nk_p (i := .isub) (len := 1) (pc' := 13) mJ_242 (by decide +kernel) ns_isub rfl ?_
  obtain ⟨v3, h4, hr⟩ := nk_lte hr
  refine nk_p (i := .istore 4) (len := 2) (pc' := 15) mJ_242 (by decide +kernel) (ns_istore (L' := [(4, nk_i v3), (3, nk_i v1), (0, nk_r l0), (1, nk_r l1), (2, nk_i l2)]) h4 rfl (by decide +kernel)) rfl ?_
  refine nk_p (i := .iload_n 2) (len := 1) (pc' := 16) mJ_242 (by decide +kernel) (ns_iload_n 4 rfl rfl) rfl ?_
  by_cases hc0 : l2 = 20
  · have hr := nk_ifp hc0 hr
    refine nk_p (i := .tableswitch 214 20 29 #[202, 214, 154, 154, 178, 178, 56, 56, 87, 87]) (len := 56) (pc' := 218) mJ_242 (by decide +kernel) (ns_tsw (V := 20) hc0 (by decide +kernel)) rfl ?_
    refine nk_p (i := .aload_n 0) (len := 1) (pc' := 219) mJ_242 (by decide +kernel) (ns_aload_n 2 rfl rfl) rfl ?_
    refine nk_p (i := .iload 4) (len := 2) (pc' := 221) mJ_242 (by decide +kernel) (ns_iload 0 rfl) rfl ?_
    refine nk_p (i := .iload_n 3) (len := 1) (pc' := 222) mJ_242 (by decide +kernel) (ns_iload_n 1 rfl rfl) rfl ?_
    obtain ⟨r5, S6, h7, hr⟩ := nk_bde hr
    refine nk_callV (ci := 13) (n := 2) (x := 667) (len := 3) (j' := 82) (q' := 1) (r := r5) (S' := S6) (L2 := [(0, nk_r l0), (1, nk_i v3), (2, nk_i v1)]) (rest := []) (st' := [nk_i r5]) (pc' := 225) mJ_242 (by decide +kernel) (by decide +kernel) rfl rfl t_l0 (Nat.le_of_ble_eq_true rfl) mJ_82 (Nat.le_of_ble_eq_true rfl) rfl (ja_X13_alike_ok zs _ _ _ _ _ t_l0 h7) rfl ?_
    refine nk_icond (c := .ne) (off := 18) (len := 3) (t := 243) (pc' := 228) mJ_242 (by decide +kernel) (by decide +kernel) rfl (fun hc => ?_) (fun hc => ?_)
    · have hr := nk_ifn (c := r5 = 0) hc hr
      refine nk_sub [2, 1, 0] (L' := [(0, nk_r l0), (3, nk_i v1), (4, nk_i v3)]) rfl ?_
      exact ja_X13_way_b243_ok zs _ _ _ _ _ t_l0 hr
    · have hr := nk_ifp (c := r5 = 0) (Decidable.of_not_not hc) hr
      refine nk_p (i := .iconst 0) (len := 1) (pc' := 229) mJ_242 (by decide +kernel) (ns_iconst (c := 0) (by decide +kernel)) rfl ?_
      cases hr
      exact nk_iret (ty := .boolean) (len := 1) mJ_242 (by decide +kernel) rfl (nk_nar_z (by decide))
  have hr := nk_ifn hc0 hr
  by_cases hc1 : l2 = 21
  · have hr := nk_ifp hc1 hr
    refine nk_p (i := .tableswitch 214 20 29 #[202, 214, 154, 154, 178, 178, 56, 56, 87, 87]) (len := 56) (pc' := 230) mJ_242 (by decide +kernel) (ns_tsw (V := 21) hc1 (by decide +kernel)) rfl ?_
    refine nk_sub [2, 3, 1, 0] (L' := [(0, nk_r l0), (1, nk_r l1), (3, nk_i v1), (4, nk_i v3)]) rfl ?_
    exact ja_X13_way_b230_ok zs _ _ _ _ _ _ t_l0 t_l1 hr
  have hr := nk_ifn hc1 hr
  by_cases hc2 : l2 = 22
  · have hr := nk_ifp hc2 hr
    refine nk_p (i := .tableswitch 214 20 29 #[202, 214, 154, 154, 178, 178, 56, 56, 87, 87]) (len := 56) (pc' := 170) mJ_242 (by decide +kernel) (ns_tsw (V := 22) hc2 (by decide +kernel)) rfl ?_
    refine nk_sub [2, 3, 4, 1, 0] (L' := [(0, nk_r l0), (1, nk_r l1), (2, nk_i l2), (3, nk_i v1), (4, nk_i v3)]) rfl ?_
    exact ja_X13_way_b170_ok zs _ _ _ _ _ _ _ t_l0 t_l1 hr
  have hr := nk_ifn hc2 hr
  by_cases hc3 : l2 = 23
  · have hr := nk_ifp hc3 hr
    refine nk_p (i := .tableswitch 214 20 29 #[202, 214, 154, 154, 178, 178, 56, 56, 87, 87]) (len := 56) (pc' := 170) mJ_242 (by decide +kernel) (ns_tsw (V := 23) hc3 (by decide +kernel)) rfl ?_
    refine nk_sub [2, 3, 4, 1, 0] (L' := [(0, nk_r l0), (1, nk_r l1), (2, nk_i l2), (3, nk_i v1), (4, nk_i v3)]) rfl ?_
    exact ja_X13_way_b170_ok zs _ _ _ _ _ _ _ t_l0 t_l1 hr
  have hr := nk_ifn hc3 hr
  by_cases hc4 : l2 = 24
  · have hr := nk_ifp hc4 hr
    refine nk_p (i := .tableswitch 214 20 29 #[202, 214, 154, 154, 178, 178, 56, 56, 87, 87]) (len := 56) (pc' := 194) mJ_242 (by decide +kernel) (ns_tsw (V := 24) hc4 (by decide +kernel)) rfl ?_
    refine nk_sub [2, 3, 4, 1, 0] (L' := [(0, nk_r l0), (1, nk_r l1), (2, nk_i l2), (3, nk_i v1), (4, nk_i v3)]) rfl ?_
    exact ja_X13_way_b194_ok zs _ _ _ _ _ _ _ t_l0 t_l1 hr
  have hr := nk_ifn hc4 hr
  by_cases hc5 : l2 = 25
  · have hr := nk_ifp hc5 hr
    refine nk_p (i := .tableswitch 214 20 29 #[202, 214, 154, 154, 178, 178, 56, 56, 87, 87]) (len := 56) (pc' := 194) mJ_242 (by decide +kernel) (ns_tsw (V := 25) hc5 (by decide +kernel)) rfl ?_
    refine nk_sub [2, 3, 4, 1, 0] (L' := [(0, nk_r l0), (1, nk_r l1), (2, nk_i l2), (3, nk_i v1), (4, nk_i v3)]) rfl ?_
    exact ja_X13_way_b194_ok zs _ _ _ _ _ _ _ t_l0 t_l1 hr
  have hr := nk_ifn hc5 hr
  by_cases hc6 : l2 = 26
  · have hr := nk_ifp hc6 hr
    refine nk_p (i := .tableswitch 214 20 29 #[202, 214, 154, 154, 178, 178, 56, 56, 87, 87]) (len := 56) (pc' := 72) mJ_242 (by decide +kernel) (ns_tsw (V := 26) hc6 (by decide +kernel)) rfl ?_
    refine nk_sub [2, 4, 1] (L' := [(0, nk_r l0), (2, nk_i l2), (3, nk_i v1)]) rfl ?_
    exact ja_X13_way_b72_ok zs _ _ _ _ _ t_l0 hr
  have hr := nk_ifn hc6 hr
  by_cases hc7 : l2 = 27
  · have hr := nk_ifp hc7 hr
    refine nk_p (i := .tableswitch 214 20 29 #[202, 214, 154, 154, 178, 178, 56, 56, 87, 87]) (len := 56) (pc' := 72) mJ_242 (by decide +kernel) (ns_tsw (V := 27) hc7 (by decide +kernel)) rfl ?_
    refine nk_sub [2, 4, 1] (L' := [(0, nk_r l0), (2, nk_i l2), (3, nk_i v1)]) rfl ?_
    exact ja_X13_way_b72_ok zs _ _ _ _ _ t_l0 hr
  have hr := nk_ifn hc7 hr
  by_cases hc8 : l2 = 28
  · have hr := nk_ifp hc8 hr
    refine nk_p (i := .tableswitch 214 20 29 #[202, 214, 154, 154, 178, 178, 56, 56, 87, 87]) (len := 56) (pc' := 103) mJ_242 (by decide +kernel) (ns_tsw (V := 28) hc8 (by decide +kernel)) rfl ?_
    refine nk_sub [2, 4, 1, 0] (L' := [(0, nk_r l0), (2, nk_i l2), (3, nk_i v1), (4, nk_i v3)]) rfl ?_
    exact ja_X13_way_b103_ok zs _ _ _ _ _ _ t_l0 hr
  have hr := nk_ifn hc8 hr
  by_cases hc9 : l2 = 29
  · have hr := nk_ifp hc9 hr
    refine nk_p (i := .tableswitch 214 20 29 #[202, 214, 154, 154, 178, 178, 56, 56, 87, 87]) (len := 56) (pc' := 103) mJ_242 (by decide +kernel) (ns_tsw (V := 29) hc9 (by decide +kernel)) rfl ?_
    refine nk_sub [2, 4, 1, 0] (L' := [(0, nk_r l0), (2, nk_i l2), (3, nk_i v1), (4, nk_i v3)]) rfl ?_
    exact ja_X13_way_b103_ok zs _ _ _ _ _ _ t_l0 hr
  have hr := nk_ifn hc9 hr
  refine nk_p (i := .tableswitch 214 20 29 #[202, 214, 154, 154, 178, 178, 56, 56, 87, 87]) (len := 56) (pc' := 230) mJ_242 (by decide +kernel) (ns_tsd (by omega) (by decide +kernel)) rfl ?_
  refine nk_sub [2, 3, 1, 0] (L' := [(0, nk_r l0), (1, nk_r l1), (3, nk_i v1), (4, nk_i v3)]) rfl ?_
  exact ja_X13_way_b230_ok zs _ _ _ _ _ _ t_l0 t_l1 hr
