/-! SafeCode$Proof goesOn (II)Z -/
noncomputable def ja_X4_goesOn_b185 (l0 : Nat) (l1 : Int) (l2 : Int) (S : nk_S) : Option (Int × nk_S) :=
  nk_bd (ja_X4_moves l0 l1 l2 S) fun r1 S2 =>
  if r1 = 0 ∨ r1 = 1 then
  some (r1, S2)
  else none
theorem ja_X4_goesOn_b185_ok (zs : List Int32) : ∀ (l0 : Nat) (l1 : Int) (l2 : Int) (S : nk_S) (R : Int × nk_S), nk_cl ja_Tt l0 = some 4 → ja_X4_goesOn_b185 l0 l1 l2 S = some R → nk_K ja_Tt mi_Γ (mi_ev zs) 1 321 185 [(0, nk_r l0), (1, nk_i l1), (2, nk_i l2)] [] S R := by
  intro l0 l1 l2 S R t_l0 hr
  unfold ja_X4_goesOn_b185 at hr
  refine nk_p (i := .aload_n 0) (len := 1) (pc' := 186) mJ_321 (by decide +kernel) (ns_aload_n 0 rfl rfl) rfl ?_
  refine nk_p (i := .iload_n 1) (len := 1) (pc' := 187) mJ_321 (by decide +kernel) (ns_iload_n 1 rfl rfl) rfl ?_
  refine nk_p (i := .iload_n 2) (len := 1) (pc' := 188) mJ_321 (by decide +kernel) (ns_iload_n 2 rfl rfl) rfl ?_
  obtain ⟨r1, S2, h3, hr⟩ := nk_bde hr
  refine nk_callV (ci := 4) (n := 2) (x := 262) (len := 3) (j' := 334) (q' := 1) (r := r1) (S' := S2) (L2 := [(0, nk_r l0), (1, nk_i l1), (2, nk_i l2)]) (rest := []) (st' := [nk_i r1]) (pc' := 191) mJ_321 (by decide +kernel) (by decide +kernel) rfl rfl t_l0 (Nat.le_of_ble_eq_true rfl) mJ_334 (Nat.le_of_ble_eq_true rfl) rfl (ja_X4_moves_ok zs _ _ _ _ _ t_l0 h3) rfl ?_
  obtain ⟨h4, hr⟩ := nk_cke hr
  cases hr
  exact nk_iret (ty := .boolean) (len := 1) mJ_321 (by decide +kernel) rfl (nk_nar_z h4)
noncomputable def ja_X4_goesOn_b139 (l0 : Nat) (l1 : Int) (l2 : Int) (S : nk_S) : Option (Int × nk_S) :=
  nk_bd (ja_X4_usesField l0 l1 l2 S) fun r1 S2 =>
  if r1 = 0 ∨ r1 = 1 then
  some (r1, S2)
  else none
theorem ja_X4_goesOn_b139_ok (zs : List Int32) : ∀ (l0 : Nat) (l1 : Int) (l2 : Int) (S : nk_S) (R : Int × nk_S), nk_cl ja_Tt l0 = some 4 → ja_X4_goesOn_b139 l0 l1 l2 S = some R → nk_K ja_Tt mi_Γ (mi_ev zs) 1 321 139 [(0, nk_r l0), (1, nk_i l1), (2, nk_i l2)] [] S R := by
  intro l0 l1 l2 S R t_l0 hr
  unfold ja_X4_goesOn_b139 at hr
  refine nk_p (i := .aload_n 0) (len := 1) (pc' := 140) mJ_321 (by decide +kernel) (ns_aload_n 0 rfl rfl) rfl ?_
  refine nk_p (i := .iload_n 1) (len := 1) (pc' := 141) mJ_321 (by decide +kernel) (ns_iload_n 1 rfl rfl) rfl ?_
  refine nk_p (i := .iload_n 2) (len := 1) (pc' := 142) mJ_321 (by decide +kernel) (ns_iload_n 2 rfl rfl) rfl ?_
  obtain ⟨r1, S2, h3, hr⟩ := nk_bde hr
  refine nk_callV (ci := 4) (n := 2) (x := 237) (len := 3) (j' := 347) (q' := 1) (r := r1) (S' := S2) (L2 := [(0, nk_r l0), (1, nk_i l1), (2, nk_i l2)]) (rest := []) (st' := [nk_i r1]) (pc' := 145) mJ_321 (by decide +kernel) (by decide +kernel) rfl rfl t_l0 (Nat.le_of_ble_eq_true rfl) mJ_347 (Nat.le_of_ble_eq_true rfl) rfl (ja_X4_usesField_ok zs _ _ _ _ _ t_l0 h3) rfl ?_
  obtain ⟨h4, hr⟩ := nk_cke hr
  cases hr
  exact nk_iret (ty := .boolean) (len := 1) mJ_321 (by decide +kernel) rfl (nk_nar_z h4)
noncomputable def ja_X4_goesOn_b163 (l0 : Nat) (l1 : Int) (l2 : Int) (S : nk_S) : Option (Int × nk_S) :=
  nk_bd (ja_X4_endsBody l0 l1 l2 S) fun r1 S2 =>
  if r1 = 0 ∨ r1 = 1 then
  some (r1, S2)
  else none
theorem ja_X4_goesOn_b163_ok (zs : List Int32) : ∀ (l0 : Nat) (l1 : Int) (l2 : Int) (S : nk_S) (R : Int × nk_S), nk_cl ja_Tt l0 = some 4 → ja_X4_goesOn_b163 l0 l1 l2 S = some R → nk_K ja_Tt mi_Γ (mi_ev zs) 1 321 163 [(0, nk_r l0), (1, nk_i l1), (2, nk_i l2)] [] S R := by
  intro l0 l1 l2 S R t_l0 hr
  unfold ja_X4_goesOn_b163 at hr
  refine nk_p (i := .aload_n 0) (len := 1) (pc' := 164) mJ_321 (by decide +kernel) (ns_aload_n 0 rfl rfl) rfl ?_
  refine nk_p (i := .iload_n 1) (len := 1) (pc' := 165) mJ_321 (by decide +kernel) (ns_iload_n 1 rfl rfl) rfl ?_
  refine nk_p (i := .iload_n 2) (len := 1) (pc' := 166) mJ_321 (by decide +kernel) (ns_iload_n 2 rfl rfl) rfl ?_
  obtain ⟨r1, S2, h3, hr⟩ := nk_bde hr
  refine nk_callV (ci := 4) (n := 2) (x := 249) (len := 3) (j' := 317) (q' := 1) (r := r1) (S' := S2) (L2 := [(0, nk_r l0), (1, nk_i l1), (2, nk_i l2)]) (rest := []) (st' := [nk_i r1]) (pc' := 169) mJ_321 (by decide +kernel) (by decide +kernel) rfl rfl t_l0 (Nat.le_of_ble_eq_true rfl) mJ_317 (Nat.le_of_ble_eq_true rfl) rfl (ja_X4_endsBody_ok zs _ _ _ _ _ t_l0 h3) rfl ?_
  obtain ⟨h4, hr⟩ := nk_cke hr
  cases hr
  exact nk_iret (ty := .boolean) (len := 1) mJ_321 (by decide +kernel) rfl (nk_nar_z h4)
noncomputable def ja_X4_goesOn (l0 : Nat) (l1 : Int) (l2 : Int) (S : nk_S) : Option (Int × nk_S) :=
  if l2 = 19 then
    some (1, S)
  else
  if l2 = 20 then
    ja_X4_goesOn_b185 l0 l1 l2 S
  else
  if l2 = 21 then
    ja_X4_goesOn_b185 l0 l1 l2 S
  else
  if l2 = 22 then
    ja_X4_goesOn_b185 l0 l1 l2 S
  else
  if l2 = 23 then
    ja_X4_goesOn_b185 l0 l1 l2 S
  else
  if l2 = 24 then
    ja_X4_goesOn_b185 l0 l1 l2 S
  else
  if l2 = 25 then
    ja_X4_goesOn_b185 l0 l1 l2 S
  else
  if l2 = 26 then
    ja_X4_goesOn_b185 l0 l1 l2 S
  else
  if l2 = 27 then
    ja_X4_goesOn_b185 l0 l1 l2 S
  else
  if l2 = 28 then
    ja_X4_goesOn_b185 l0 l1 l2 S
  else
  if l2 = 29 then
    ja_X4_goesOn_b185 l0 l1 l2 S
  else
  if l2 = 30 then
    nk_bd (ja_X4_makesObject l0 l1 S) fun r1 S2 =>
    if r1 = 0 ∨ r1 = 1 then
    some (r1, S2)
    else none
  else
  if l2 = 31 then
    nk_bd (ja_X4_makesArray l0 l1 S) fun r5 S6 =>
    if r5 = 0 ∨ r5 = 1 then
    some (r5, S6)
    else none
  else
  if l2 = 32 then
    nk_bd (ja_X4_tellsLength l0 S) fun r9 S10 =>
    if r9 = 0 ∨ r9 = 1 then
    some (r9, S10)
    else none
  else
  if l2 = 33 then
    ja_X4_goesOn_b185 l0 l1 l2 S
  else
  if l2 = 34 then
    ja_X4_goesOn_b185 l0 l1 l2 S
  else
  if l2 = 35 then
    ja_X4_goesOn_b139 l0 l1 l2 S
  else
  if l2 = 36 then
    ja_X4_goesOn_b139 l0 l1 l2 S
  else
  if l2 = 37 then
    nk_bd (ja_X4_casts l0 l1 S) fun r13 S14 =>
    if r13 = 0 ∨ r13 = 1 then
    some (r13, S14)
    else none
  else
  if l2 = 38 then
    nk_bd (ja_X4_tellsType l0 l1 S) fun r17 S18 =>
    if r17 = 0 ∨ r17 = 1 then
    some (r17, S18)
    else none
  else
  if l2 = 39 then
    ja_X4_goesOn_b185 l0 l1 l2 S
  else
  if l2 = 40 then
    ja_X4_goesOn_b185 l0 l1 l2 S
  else
  if l2 = 41 then
    nk_bd (ja_X4_throwsSites l0 S) fun r21 S22 =>
    if r21 = 0 ∨ r21 = 1 then
    some (r21, S22)
    else none
  else
  if l2 = 42 then
    ja_X4_goesOn_b163 l0 l1 l2 S
  else
  if l2 = 43 then
    ja_X4_goesOn_b163 l0 l1 l2 S
  else
  if l2 = 44 then
    nk_bd (ja_X7_push (ja_c l0 2) (-9223372034707292161) 4503599627370496 S) fun r26 S27 =>
    some (1, S27)
  else
  ja_X4_goesOn_b185 l0 l1 l2 S
theorem ja_X4_goesOn_ok (zs : List Int32) : ∀ (l0 : Nat) (l1 : Int) (l2 : Int) (S : nk_S) (R : Int × nk_S), nk_cl ja_Tt l0 = some 4 → ja_X4_goesOn l0 l1 l2 S = some R → nk_K ja_Tt mi_Γ (mi_ev zs) 1 321 0 [(0, nk_r l0), (1, nk_i l1), (2, nk_i l2)] [] S R := by
  intro l0 l1 l2 S R t_l0 hr
  unfold ja_X4_goesOn at hr
  refine nk_p (i := .iload_n 2) (len := 1) (pc' := 1) mJ_321 (by decide +kernel) (ns_iload_n 2 rfl rfl) rfl ?_
  by_cases hc0 : l2 = 19
  · have hr := nk_ifp hc0 hr
    refine nk_p (i := .tableswitch 184 19 44 #[119, 184, 184, 184, 184, 184, 184, 184, 184, 184, 184, 121, 127, 133, 184, 184, 138, 138, 145, 151, 184, 184, 157, 162, 162, 169]) (len := 119) (pc' := 120) mJ_321 (by decide +kernel) (ns_tsw (V := 19) hc0 (by decide +kernel)) rfl ?_
    refine nk_p (i := .iconst 1) (len := 1) (pc' := 121) mJ_321 (by decide +kernel) (ns_iconst (c := 1) (by decide +kernel)) rfl ?_
    cases hr
    exact nk_iret (ty := .boolean) (len := 1) mJ_321 (by decide +kernel) rfl (nk_nar_z (by decide))
  have hr := nk_ifn hc0 hr
  by_cases hc1 : l2 = 20
  · have hr := nk_ifp hc1 hr
    refine nk_p (i := .tableswitch 184 19 44 #[119, 184, 184, 184, 184, 184, 184, 184, 184, 184, 184, 121, 127, 133, 184, 184, 138, 138, 145, 151, 184, 184, 157, 162, 162, 169]) (len := 119) (pc' := 185) mJ_321 (by decide +kernel) (ns_tsw (V := 20) hc1 (by decide +kernel)) rfl ?_
    exact ja_X4_goesOn_b185_ok zs _ _ _ _ _ t_l0 hr
  have hr := nk_ifn hc1 hr
  by_cases hc2 : l2 = 21
  · have hr := nk_ifp hc2 hr
    refine nk_p (i := .tableswitch 184 19 44 #[119, 184, 184, 184, 184, 184, 184, 184, 184, 184, 184, 121, 127, 133, 184, 184, 138, 138, 145, 151, 184, 184, 157, 162, 162, 169]) (len := 119) (pc' := 185) mJ_321 (by decide +kernel) (ns_tsw (V := 21) hc2 (by decide +kernel)) rfl ?_
    exact ja_X4_goesOn_b185_ok zs _ _ _ _ _ t_l0 hr
  have hr := nk_ifn hc2 hr
  by_cases hc3 : l2 = 22
  · have hr := nk_ifp hc3 hr
    refine nk_p (i := .tableswitch 184 19 44 #[119, 184, 184, 184, 184, 184, 184, 184, 184, 184, 184, 121, 127, 133, 184, 184, 138, 138, 145, 151, 184, 184, 157, 162, 162, 169]) (len := 119) (pc' := 185) mJ_321 (by decide +kernel) (ns_tsw (V := 22) hc3 (by decide +kernel)) rfl ?_
    exact ja_X4_goesOn_b185_ok zs _ _ _ _ _ t_l0 hr
  have hr := nk_ifn hc3 hr
  by_cases hc4 : l2 = 23
  · have hr := nk_ifp hc4 hr
    refine nk_p (i := .tableswitch 184 19 44 #[119, 184, 184, 184, 184, 184, 184, 184, 184, 184, 184, 121, 127, 133, 184, 184, 138, 138, 145, 151, 184, 184, 157, 162, 162, 169]) (len := 119) (pc' := 185) mJ_321 (by decide +kernel) (ns_tsw (V := 23) hc4 (by decide +kernel)) rfl ?_
    exact ja_X4_goesOn_b185_ok zs _ _ _ _ _ t_l0 hr
  have hr := nk_ifn hc4 hr
  by_cases hc5 : l2 = 24
  · have hr := nk_ifp hc5 hr
    refine nk_p (i := .tableswitch 184 19 44 #[119, 184, 184, 184, 184, 184, 184, 184, 184, 184, 184, 121, 127, 133, 184, 184, 138, 138, 145, 151, 184, 184, 157, 162, 162, 169]) (len := 119) (pc' := 185) mJ_321 (by decide +kernel) (ns_tsw (V := 24) hc5 (by decide +kernel)) rfl ?_
    exact ja_X4_goesOn_b185_ok zs _ _ _ _ _ t_l0 hr
  have hr := nk_ifn hc5 hr
  by_cases hc6 : l2 = 25
  · have hr := nk_ifp hc6 hr
    refine nk_p (i := .tableswitch 184 19 44 #[119, 184, 184, 184, 184, 184, 184, 184, 184, 184, 184, 121, 127, 133, 184, 184, 138, 138, 145, 151, 184, 184, 157, 162, 162, 169]) (len := 119) (pc' := 185) mJ_321 (by decide +kernel) (ns_tsw (V := 25) hc6 (by decide +kernel)) rfl ?_
    exact ja_X4_goesOn_b185_ok zs _ _ _ _ _ t_l0 hr
  have hr := nk_ifn hc6 hr
  by_cases hc7 : l2 = 26
  · have hr := nk_ifp hc7 hr
    refine nk_p (i := .tableswitch 184 19 44 #[119, 184, 184, 184, 184, 184, 184, 184, 184, 184, 184, 121, 127, 133, 184, 184, 138, 138, 145, 151, 184, 184, 157, 162, 162, 169]) (len := 119) (pc' := 185) mJ_321 (by decide +kernel) (ns_tsw (V := 26) hc7 (by decide +kernel)) rfl ?_
    exact ja_X4_goesOn_b185_ok zs _ _ _ _ _ t_l0 hr
  have hr := nk_ifn hc7 hr
  by_cases hc8 : l2 = 27
  · have hr := nk_ifp hc8 hr
    refine nk_p (i := .tableswitch 184 19 44 #[119, 184, 184, 184, 184, 184, 184, 184, 184, 184, 184, 121, 127, 133, 184, 184, 138, 138, 145, 151, 184, 184, 157, 162, 162, 169]) (len := 119) (pc' := 185) mJ_321 (by decide +kernel) (ns_tsw (V := 27) hc8 (by decide +kernel)) rfl ?_
    exact ja_X4_goesOn_b185_ok zs _ _ _ _ _ t_l0 hr
  have hr := nk_ifn hc8 hr
  by_cases hc9 : l2 = 28
  · have hr := nk_ifp hc9 hr
    refine nk_p (i := .tableswitch 184 19 44 #[119, 184, 184, 184, 184, 184, 184, 184, 184, 184, 184, 121, 127, 133, 184, 184, 138, 138, 145, 151, 184, 184, 157, 162, 162, 169]) (len := 119) (pc' := 185) mJ_321 (by decide +kernel) (ns_tsw (V := 28) hc9 (by decide +kernel)) rfl ?_
    exact ja_X4_goesOn_b185_ok zs _ _ _ _ _ t_l0 hr
  have hr := nk_ifn hc9 hr
  by_cases hc10 : l2 = 29
  · have hr := nk_ifp hc10 hr
    refine nk_p (i := .tableswitch 184 19 44 #[119, 184, 184, 184, 184, 184, 184, 184, 184, 184, 184, 121, 127, 133, 184, 184, 138, 138, 145, 151, 184, 184, 157, 162, 162, 169]) (len := 119) (pc' := 185) mJ_321 (by decide +kernel) (ns_tsw (V := 29) hc10 (by decide +kernel)) rfl ?_
    exact ja_X4_goesOn_b185_ok zs _ _ _ _ _ t_l0 hr
  have hr := nk_ifn hc10 hr
  by_cases hc11 : l2 = 30
  · have hr := nk_ifp hc11 hr
    refine nk_p (i := .tableswitch 184 19 44 #[119, 184, 184, 184, 184, 184, 184, 184, 184, 184, 184, 121, 127, 133, 184, 184, 138, 138, 145, 151, 184, 184, 157, 162, 162, 169]) (len := 119) (pc' := 122) mJ_321 (by decide +kernel) (ns_tsw (V := 30) hc11 (by decide +kernel)) rfl ?_
    refine nk_p (i := .aload_n 0) (len := 1) (pc' := 123) mJ_321 (by decide +kernel) (ns_aload_n 0 rfl rfl) rfl ?_
    refine nk_p (i := .iload_n 1) (len := 1) (pc' := 124) mJ_321 (by decide +kernel) (ns_iload_n 1 rfl rfl) rfl ?_
    obtain ⟨r1, S2, h3, hr⟩ := nk_bde hr
    refine nk_callV (ci := 4) (n := 1) (x := 227) (len := 3) (j' := 333) (q' := 1) (r := r1) (S' := S2) (L2 := [(0, nk_r l0), (1, nk_i l1)]) (rest := []) (st' := [nk_i r1]) (pc' := 127) mJ_321 (by decide +kernel) (by decide +kernel) rfl rfl t_l0 (Nat.le_of_ble_eq_true rfl) mJ_333 (Nat.le_of_ble_eq_true rfl) rfl (ja_X4_makesObject_ok zs _ _ _ _ t_l0 h3) rfl ?_
    obtain ⟨h4, hr⟩ := nk_cke hr
    cases hr
    exact nk_iret (ty := .boolean) (len := 1) mJ_321 (by decide +kernel) rfl (nk_nar_z h4)
  have hr := nk_ifn hc11 hr
  by_cases hc12 : l2 = 31
  · have hr := nk_ifp hc12 hr
    refine nk_p (i := .tableswitch 184 19 44 #[119, 184, 184, 184, 184, 184, 184, 184, 184, 184, 184, 121, 127, 133, 184, 184, 138, 138, 145, 151, 184, 184, 157, 162, 162, 169]) (len := 119) (pc' := 128) mJ_321 (by decide +kernel) (ns_tsw (V := 31) hc12 (by decide +kernel)) rfl ?_
    refine nk_p (i := .aload_n 0) (len := 1) (pc' := 129) mJ_321 (by decide +kernel) (ns_aload_n 0 rfl rfl) rfl ?_
    refine nk_p (i := .iload_n 1) (len := 1) (pc' := 130) mJ_321 (by decide +kernel) (ns_iload_n 1 rfl rfl) rfl ?_
    obtain ⟨r5, S6, h7, hr⟩ := nk_bde hr
    refine nk_callV (ci := 4) (n := 1) (x := 230) (len := 3) (j' := 332) (q' := 1) (r := r5) (S' := S6) (L2 := [(0, nk_r l0), (1, nk_i l1)]) (rest := []) (st' := [nk_i r5]) (pc' := 133) mJ_321 (by decide +kernel) (by decide +kernel) rfl rfl t_l0 (Nat.le_of_ble_eq_true rfl) mJ_332 (Nat.le_of_ble_eq_true rfl) rfl (ja_X4_makesArray_ok zs _ _ _ _ t_l0 h7) rfl ?_
    obtain ⟨h8, hr⟩ := nk_cke hr
    cases hr
    exact nk_iret (ty := .boolean) (len := 1) mJ_321 (by decide +kernel) rfl (nk_nar_z h8)
  have hr := nk_ifn hc12 hr
  by_cases hc13 : l2 = 32
  · have hr := nk_ifp hc13 hr
    refine nk_p (i := .tableswitch 184 19 44 #[119, 184, 184, 184, 184, 184, 184, 184, 184, 184, 184, 121, 127, 133, 184, 184, 138, 138, 145, 151, 184, 184, 157, 162, 162, 169]) (len := 119) (pc' := 134) mJ_321 (by decide +kernel) (ns_tsw (V := 32) hc13 (by decide +kernel)) rfl ?_
    refine nk_p (i := .aload_n 0) (len := 1) (pc' := 135) mJ_321 (by decide +kernel) (ns_aload_n 0 rfl rfl) rfl ?_
    obtain ⟨r9, S10, h11, hr⟩ := nk_bde hr
    refine nk_callV (ci := 4) (n := 0) (x := 233) (len := 3) (j' := 341) (q' := 1) (r := r9) (S' := S10) (L2 := [(0, nk_r l0)]) (rest := []) (st' := [nk_i r9]) (pc' := 138) mJ_321 (by decide +kernel) (by decide +kernel) rfl rfl t_l0 (Nat.le_of_ble_eq_true rfl) mJ_341 (Nat.le_of_ble_eq_true rfl) rfl (ja_X4_tellsLength_ok zs _ _ _ t_l0 h11) rfl ?_
    obtain ⟨h12, hr⟩ := nk_cke hr
    cases hr
    exact nk_iret (ty := .boolean) (len := 1) mJ_321 (by decide +kernel) rfl (nk_nar_z h12)
  have hr := nk_ifn hc13 hr
  by_cases hc14 : l2 = 33
  · have hr := nk_ifp hc14 hr
    refine nk_p (i := .tableswitch 184 19 44 #[119, 184, 184, 184, 184, 184, 184, 184, 184, 184, 184, 121, 127, 133, 184, 184, 138, 138, 145, 151, 184, 184, 157, 162, 162, 169]) (len := 119) (pc' := 185) mJ_321 (by decide +kernel) (ns_tsw (V := 33) hc14 (by decide +kernel)) rfl ?_
    exact ja_X4_goesOn_b185_ok zs _ _ _ _ _ t_l0 hr
  have hr := nk_ifn hc14 hr
  by_cases hc15 : l2 = 34
  · have hr := nk_ifp hc15 hr
    refine nk_p (i := .tableswitch 184 19 44 #[119, 184, 184, 184, 184, 184, 184, 184, 184, 184, 184, 121, 127, 133, 184, 184, 138, 138, 145, 151, 184, 184, 157, 162, 162, 169]) (len := 119) (pc' := 185) mJ_321 (by decide +kernel) (ns_tsw (V := 34) hc15 (by decide +kernel)) rfl ?_
    exact ja_X4_goesOn_b185_ok zs _ _ _ _ _ t_l0 hr
  have hr := nk_ifn hc15 hr
  by_cases hc16 : l2 = 35
  · have hr := nk_ifp hc16 hr
    refine nk_p (i := .tableswitch 184 19 44 #[119, 184, 184, 184, 184, 184, 184, 184, 184, 184, 184, 121, 127, 133, 184, 184, 138, 138, 145, 151, 184, 184, 157, 162, 162, 169]) (len := 119) (pc' := 139) mJ_321 (by decide +kernel) (ns_tsw (V := 35) hc16 (by decide +kernel)) rfl ?_
    exact ja_X4_goesOn_b139_ok zs _ _ _ _ _ t_l0 hr
  have hr := nk_ifn hc16 hr
  by_cases hc17 : l2 = 36
  · have hr := nk_ifp hc17 hr
    refine nk_p (i := .tableswitch 184 19 44 #[119, 184, 184, 184, 184, 184, 184, 184, 184, 184, 184, 121, 127, 133, 184, 184, 138, 138, 145, 151, 184, 184, 157, 162, 162, 169]) (len := 119) (pc' := 139) mJ_321 (by decide +kernel) (ns_tsw (V := 36) hc17 (by decide +kernel)) rfl ?_
    exact ja_X4_goesOn_b139_ok zs _ _ _ _ _ t_l0 hr
  have hr := nk_ifn hc17 hr
  by_cases hc18 : l2 = 37
  · have hr := nk_ifp hc18 hr
    refine nk_p (i := .tableswitch 184 19 44 #[119, 184, 184, 184, 184, 184, 184, 184, 184, 184, 184, 121, 127, 133, 184, 184, 138, 138, 145, 151, 184, 184, 157, 162, 162, 169]) (len := 119) (pc' := 146) mJ_321 (by decide +kernel) (ns_tsw (V := 37) hc18 (by decide +kernel)) rfl ?_
    refine nk_p (i := .aload_n 0) (len := 1) (pc' := 147) mJ_321 (by decide +kernel) (ns_aload_n 0 rfl rfl) rfl ?_
    refine nk_p (i := .iload_n 1) (len := 1) (pc' := 148) mJ_321 (by decide +kernel) (ns_iload_n 1 rfl rfl) rfl ?_
    obtain ⟨r13, S14, h15, hr⟩ := nk_bde hr
    refine nk_callV (ci := 4) (n := 1) (x := 240) (len := 3) (j' := 314) (q' := 1) (r := r13) (S' := S14) (L2 := [(0, nk_r l0), (1, nk_i l1)]) (rest := []) (st' := [nk_i r13]) (pc' := 151) mJ_321 (by decide +kernel) (by decide +kernel) rfl rfl t_l0 (Nat.le_of_ble_eq_true rfl) mJ_314 (Nat.le_of_ble_eq_true rfl) rfl (ja_X4_casts_ok zs _ _ _ _ t_l0 h15) rfl ?_
    obtain ⟨h16, hr⟩ := nk_cke hr
    cases hr
    exact nk_iret (ty := .boolean) (len := 1) mJ_321 (by decide +kernel) rfl (nk_nar_z h16)
  have hr := nk_ifn hc18 hr
  by_cases hc19 : l2 = 38
  · have hr := nk_ifp hc19 hr
    refine nk_p (i := .tableswitch 184 19 44 #[119, 184, 184, 184, 184, 184, 184, 184, 184, 184, 184, 121, 127, 133, 184, 184, 138, 138, 145, 151, 184, 184, 157, 162, 162, 169]) (len := 119) (pc' := 152) mJ_321 (by decide +kernel) (ns_tsw (V := 38) hc19 (by decide +kernel)) rfl ?_
    refine nk_p (i := .aload_n 0) (len := 1) (pc' := 153) mJ_321 (by decide +kernel) (ns_aload_n 0 rfl rfl) rfl ?_
    refine nk_p (i := .iload_n 1) (len := 1) (pc' := 154) mJ_321 (by decide +kernel) (ns_iload_n 1 rfl rfl) rfl ?_
    obtain ⟨r17, S18, h19, hr⟩ := nk_bde hr
    refine nk_callV (ci := 4) (n := 1) (x := 243) (len := 3) (j' := 342) (q' := 1) (r := r17) (S' := S18) (L2 := [(0, nk_r l0), (1, nk_i l1)]) (rest := []) (st' := [nk_i r17]) (pc' := 157) mJ_321 (by decide +kernel) (by decide +kernel) rfl rfl t_l0 (Nat.le_of_ble_eq_true rfl) mJ_342 (Nat.le_of_ble_eq_true rfl) rfl (ja_X4_tellsType_ok zs _ _ _ _ t_l0 h19) rfl ?_
    obtain ⟨h20, hr⟩ := nk_cke hr
    cases hr
    exact nk_iret (ty := .boolean) (len := 1) mJ_321 (by decide +kernel) rfl (nk_nar_z h20)
  have hr := nk_ifn hc19 hr
  by_cases hc20 : l2 = 39
  · have hr := nk_ifp hc20 hr
    refine nk_p (i := .tableswitch 184 19 44 #[119, 184, 184, 184, 184, 184, 184, 184, 184, 184, 184, 121, 127, 133, 184, 184, 138, 138, 145, 151, 184, 184, 157, 162, 162, 169]) (len := 119) (pc' := 185) mJ_321 (by decide +kernel) (ns_tsw (V := 39) hc20 (by decide +kernel)) rfl ?_
    exact ja_X4_goesOn_b185_ok zs _ _ _ _ _ t_l0 hr
  have hr := nk_ifn hc20 hr
  by_cases hc21 : l2 = 40
  · have hr := nk_ifp hc21 hr
    refine nk_p (i := .tableswitch 184 19 44 #[119, 184, 184, 184, 184, 184, 184, 184, 184, 184, 184, 121, 127, 133, 184, 184, 138, 138, 145, 151, 184, 184, 157, 162, 162, 169]) (len := 119) (pc' := 185) mJ_321 (by decide +kernel) (ns_tsw (V := 40) hc21 (by decide +kernel)) rfl ?_
    exact ja_X4_goesOn_b185_ok zs _ _ _ _ _ t_l0 hr
  have hr := nk_ifn hc21 hr
  by_cases hc22 : l2 = 41
  · have hr := nk_ifp hc22 hr
    refine nk_p (i := .tableswitch 184 19 44 #[119, 184, 184, 184, 184, 184, 184, 184, 184, 184, 184, 121, 127, 133, 184, 184, 138, 138, 145, 151, 184, 184, 157, 162, 162, 169]) (len := 119) (pc' := 158) mJ_321 (by decide +kernel) (ns_tsw (V := 41) hc22 (by decide +kernel)) rfl ?_
    refine nk_p (i := .aload_n 0) (len := 1) (pc' := 159) mJ_321 (by decide +kernel) (ns_aload_n 0 rfl rfl) rfl ?_
    obtain ⟨r21, S22, h23, hr⟩ := nk_bde hr
    refine nk_callV (ci := 4) (n := 0) (x := 246) (len := 3) (j' := 344) (q' := 1) (r := r21) (S' := S22) (L2 := [(0, nk_r l0)]) (rest := []) (st' := [nk_i r21]) (pc' := 162) mJ_321 (by decide +kernel) (by decide +kernel) rfl rfl t_l0 (Nat.le_of_ble_eq_true rfl) mJ_344 (Nat.le_of_ble_eq_true rfl) rfl (ja_X4_throwsSites_ok zs _ _ _ t_l0 h23) rfl ?_
    obtain ⟨h24, hr⟩ := nk_cke hr
    cases hr
    exact nk_iret (ty := .boolean) (len := 1) mJ_321 (by decide +kernel) rfl (nk_nar_z h24)
  have hr := nk_ifn hc22 hr
  by_cases hc23 : l2 = 42
  · have hr := nk_ifp hc23 hr
    refine nk_p (i := .tableswitch 184 19 44 #[119, 184, 184, 184, 184, 184, 184, 184, 184, 184, 184, 121, 127, 133, 184, 184, 138, 138, 145, 151, 184, 184, 157, 162, 162, 169]) (len := 119) (pc' := 163) mJ_321 (by decide +kernel) (ns_tsw (V := 42) hc23 (by decide +kernel)) rfl ?_
    exact ja_X4_goesOn_b163_ok zs _ _ _ _ _ t_l0 hr
  have hr := nk_ifn hc23 hr
  by_cases hc24 : l2 = 43
  · have hr := nk_ifp hc24 hr
    refine nk_p (i := .tableswitch 184 19 44 #[119, 184, 184, 184, 184, 184, 184, 184, 184, 184, 184, 121, 127, 133, 184, 184, 138, 138, 145, 151, 184, 184, 157, 162, 162, 169]) (len := 119) (pc' := 163) mJ_321 (by decide +kernel) (ns_tsw (V := 43) hc24 (by decide +kernel)) rfl ?_
    exact ja_X4_goesOn_b163_ok zs _ _ _ _ _ t_l0 hr
  have hr := nk_ifn hc24 hr
  by_cases hc25 : l2 = 44
  · have hr := nk_ifp hc25 hr
    refine nk_p (i := .tableswitch 184 19 44 #[119, 184, 184, 184, 184, 184, 184, 184, 184, 184, 184, 121, 127, 133, 184, 184, 138, 138, 145, 151, 184, 184, 157, 162, 162, 169]) (len := 119) (pc' := 170) mJ_321 (by decide +kernel) (ns_tsw (V := 44) hc25 (by decide +kernel)) rfl ?_
    refine nk_p (i := .aload_n 0) (len := 1) (pc' := 171) mJ_321 (by decide +kernel) (ns_aload_n 0 rfl rfl) rfl ?_
    refine nk_getC (f := (2, 7, 0)) (x := 12) (len := 3) (ci := 4) (k := 2) (pc' := 174) ja_okT mJ_321 (by decide +kernel) (by decide +kernel) (by decide +kernel) (by decide) t_l0 rfl ?_
    have t25 : nk_cl ja_Tt (ja_c l0 2) = some 7 := nk_tc (y := 0) ja_okT t_l0 (by decide +kernel)
    refine nk_ldc2 (x := 254) (len := 3) (X := (-9223372034707292161)) (v := (-9223372034707292161)) (pc' := 177) mJ_321 (by decide +kernel) (by decide +kernel) (by decide +kernel) rfl ?_
    refine nk_ldc2 (x := 256) (len := 3) (X := 4503599627370496) (v := 4503599627370496) (pc' := 180) mJ_321 (by decide +kernel) (by decide +kernel) (by decide +kernel) rfl ?_
    obtain ⟨r26, S27, h28, hr⟩ := nk_bde hr
    refine nk_callV (ci := 7) (n := 2) (x := 258) (len := 3) (j' := 408) (q' := 0) (r := r26) (S' := S27) (L2 := [(0, nk_r (ja_c l0 2)), (1, nk_l (-9223372034707292161)), (3, nk_l 4503599627370496)]) (rest := []) (st' := []) (pc' := 183) mJ_321 (by decide +kernel) (by decide +kernel) rfl rfl t25 (Nat.le_of_ble_eq_true rfl) mJ_408 (Nat.le_of_ble_eq_true rfl) rfl (ja_X7_push_ok zs _ _ _ _ _ t25 h28) rfl ?_
    refine nk_p (i := .iconst 1) (len := 1) (pc' := 184) mJ_321 (by decide +kernel) (ns_iconst (c := 1) (by decide +kernel)) rfl ?_
    cases hr
    exact nk_iret (ty := .boolean) (len := 1) mJ_321 (by decide +kernel) rfl (nk_nar_z (by decide))
  have hr := nk_ifn hc25 hr
  refine nk_p (i := .tableswitch 184 19 44 #[119, 184, 184, 184, 184, 184, 184, 184, 184, 184, 184, 121, 127, 133, 184, 184, 138, 138, 145, 151, 184, 184, 157, 162, 162, 169]) (len := 119) (pc' := 185) mJ_321 (by decide +kernel) (ns_tsd (by omega) (by decide +kernel)) rfl ?_
  exact ja_X4_goesOn_b185_ok zs _ _ _ _ _ t_l0 hr
/-! SafeCode$Store addThrown (IJ)V -/
noncomputable def ja_X8_addThrown (l0 : Nat) (l1 : Int) (l2 : Int) (S : nk_S) : Option (Int × nk_S) :=
  if 0 ≤ l1 ∧ l1 < 48 then
  if (nk_lor (S.1 (ja_c l0 5) l1.toNat) l2) = (S.1 (ja_c l0 5) l1.toNat) then
    some (0, S)
  else
    nk_lt (nk_wi S (ja_c l0 5) l1.toNat (nk_lor (S.1 (ja_c l0 5) l1.toNat) l2)) fun S3 =>
    nk_lt (nk_wi S3 l0 8 (nk_lor (S3.1 l0 8) (nk_lshl 1 l1))) fun S5 =>
    some (0, S5)
  else none
theorem ja_X8_addThrown_ok (zs : List Int32) : ∀ (l0 : Nat) (l1 : Int) (l2 : Int) (S : nk_S) (R : Int × nk_S), nk_cl ja_Tt l0 = some 8 → ja_X8_addThrown l0 l1 l2 S = some R → nk_K ja_Tt mi_Γ (mi_ev zs) 0 417 0 [(0, nk_r l0), (1, nk_i l1), (2, nk_l l2)] [] S R := by
  intro l0 l1 l2 S R t_l0 hr
  unfold ja_X8_addThrown at hr
  refine nk_p (i := .aload_n 0) (len := 1) (pc' := 1) mJ_417 (by decide +kernel) (ns_aload_n 0 rfl rfl) rfl ?_
  refine nk_getC (f := (4, 2, 48)) (x := 28) (len := 3) (ci := 8) (k := 5) (pc' := 4) ja_okT mJ_417 (by decide +kernel) (by decide +kernel) (by decide +kernel) (by decide) t_l0 rfl ?_
  have t1 : nk_ar ja_Tt (ja_c l0 5) = some (2, 48) := nk_ta ja_okT t_l0 (by decide +kernel)
  refine nk_p (i := .iload_n 1) (len := 1) (pc' := 5) mJ_417 (by decide +kernel) (ns_iload_n 1 rfl rfl) rfl ?_
  obtain ⟨h2, hr⟩ := nk_cke hr
  refine nk_lald (len := 1) (N := 48) (pc' := 6) mJ_417 (by decide +kernel) t1 h2.1 h2.2 rfl rfl ?_
  refine nk_p (i := .lload_n 2) (len := 1) (pc' := 7) mJ_417 (by decide +kernel) (ns_lload_n 2 rfl rfl) rfl ?_
  refine nk_p (i := .lor) (len := 1) (pc' := 8) mJ_417 (by decide +kernel) ns_lor rfl ?_
  refine nk_p (i := .aload_n 0) (len := 1) (pc' := 9) mJ_417 (by decide +kernel) (ns_aload_n 0 rfl rfl) rfl ?_
  refine nk_getC (f := (4, 2, 48)) (x := 28) (len := 3) (ci := 8) (k := 5) (pc' := 12) ja_okT mJ_417 (by decide +kernel) (by decide +kernel) (by decide +kernel) (by decide) t_l0 rfl ?_
  refine nk_p (i := .iload_n 1) (len := 1) (pc' := 13) mJ_417 (by decide +kernel) (ns_iload_n 1 rfl rfl) rfl ?_
  refine nk_lald (len := 1) (N := 48) (pc' := 14) mJ_417 (by decide +kernel) t1 h2.1 h2.2 rfl rfl ?_
  refine nk_p (i := .lcmp) (len := 1) (pc' := 15) mJ_417 (by decide +kernel) ns_lcmp rfl ?_
  refine nk_lcond (c := .eq) (off := 25) (len := 3) (t := 40) (pc' := 18) mJ_417 (by decide +kernel) (by decide +kernel) rfl (fun hc => ?_) (fun hc => ?_)
  · have hr := nk_ifp (c := (nk_lor (S.1 (ja_c l0 5) l1.toNat) l2) = (S.1 (ja_c l0 5) l1.toNat)) hc hr
    cases hr
    exact nk_vret (len := 1) mJ_417 (by decide +kernel) rfl
  · have hr := nk_ifn (c := (nk_lor (S.1 (ja_c l0 5) l1.toNat) l2) = (S.1 (ja_c l0 5) l1.toNat)) hc hr
    refine nk_p (i := .aload_n 0) (len := 1) (pc' := 19) mJ_417 (by decide +kernel) (ns_aload_n 0 rfl rfl) rfl ?_
    refine nk_getC (f := (4, 2, 48)) (x := 28) (len := 3) (ci := 8) (k := 5) (pc' := 22) ja_okT mJ_417 (by decide +kernel) (by decide +kernel) (by decide +kernel) (by decide) t_l0 rfl ?_
    refine nk_p (i := .iload_n 1) (len := 1) (pc' := 23) mJ_417 (by decide +kernel) (ns_iload_n 1 rfl rfl) rfl ?_
    refine nk_p (i := .dup2) (len := 1) (pc' := 24) mJ_417 (by decide +kernel) (ns_dup2 rfl rfl) rfl ?_
    refine nk_lald (len := 1) (N := 48) (pc' := 25) mJ_417 (by decide +kernel) t1 h2.1 h2.2 rfl rfl ?_
    refine nk_p (i := .lload_n 2) (len := 1) (pc' := 26) mJ_417 (by decide +kernel) (ns_lload_n 2 rfl rfl) rfl ?_
    refine nk_p (i := .lor) (len := 1) (pc' := 27) mJ_417 (by decide +kernel) ns_lor rfl ?_
    obtain ⟨S3, h4, hr⟩ := nk_lte hr
    refine nk_last (len := 1) (N := 48) (pc' := 28) mJ_417 (by decide +kernel) t1 h2.1 h2.2 rfl rfl h4 ?_
    refine nk_p (i := .aload_n 0) (len := 1) (pc' := 29) mJ_417 (by decide +kernel) (ns_aload_n 0 rfl rfl) rfl ?_
    refine nk_p (i := .dup) (len := 1) (pc' := 30) mJ_417 (by decide +kernel) (ns_dup rfl) rfl ?_
    refine nk_getL (y := (0, 0)) (x := 81) (len := 3) (ci := 8) (k := 8) (pc' := 33) ja_okT mJ_417 (by decide +kernel) (by decide +kernel) (by decide +kernel) t_l0 rfl ?_
    refine nk_p (i := .lconst 1) (len := 1) (pc' := 34) mJ_417 (by decide +kernel) (ns_lconst (c := 1) (by decide +kernel)) rfl ?_
    refine nk_p (i := .iload_n 1) (len := 1) (pc' := 35) mJ_417 (by decide +kernel) (ns_iload_n 1 rfl rfl) rfl ?_
    refine nk_p (i := .lshl) (len := 1) (pc' := 36) mJ_417 (by decide +kernel) ns_lshl rfl ?_
    refine nk_p (i := .lor) (len := 1) (pc' := 37) mJ_417 (by decide +kernel) ns_lor rfl ?_
    obtain ⟨S5, h6, hr⟩ := nk_lte hr
    refine nk_putL (y := (0, 0)) (x := 81) (len := 3) (ci := 8) (k := 8) (pc' := 40) ja_okT mJ_417 (by decide +kernel) (by decide +kernel) (by decide +kernel) t_l0 rfl h6 ?_
    cases hr
    exact nk_vret (len := 1) mJ_417 (by decide +kernel) rfl
/-! SafeCode$Proof throwLoose (I)V -/
noncomputable def ja_X4_throwLoose_b144 (l0 : Nat) (l1 : Int) (l2 : Int) (l3 : Int) (S : nk_S) : Option (Int × nk_S) :=
  if 0 ≤ l1 ∧ l1 < 1024 then
  nk_lt (nk_wi S (ja_c l0 5) l1.toNat l3) fun S3 =>
  nk_bd (ja_X8_addThrown (ja_c l0 3) l2 l3 S3) fun r6 S7 =>
  some (0, S7)
  else none
theorem ja_X4_throwLoose_b144_ok (zs : List Int32) : ∀ (l0 : Nat) (l1 : Int) (l2 : Int) (l3 : Int) (S : nk_S) (R : Int × nk_S), nk_cl ja_Tt l0 = some 4 → ja_X4_throwLoose_b144 l0 l1 l2 l3 S = some R → nk_K ja_Tt mi_Γ (mi_ev zs) 0 343 144 [(0, nk_r l0), (1, nk_i l1), (2, nk_i l2), (3, nk_l l3)] [] S R := by
  intro l0 l1 l2 l3 S R t_l0 hr
  unfold ja_X4_throwLoose_b144 at hr
  refine nk_p (i := .aload_n 0) (len := 1) (pc' := 145) mJ_343 (by decide +kernel) (ns_aload_n 0 rfl rfl) rfl ?_
  refine nk_getC (f := (4, 2, 1024)) (x := 29) (len := 3) (ci := 4) (k := 5) (pc' := 148) ja_okT mJ_343 (by decide +kernel) (by decide +kernel) (by decide +kernel) (by decide) t_l0 rfl ?_
  have t1 : nk_ar ja_Tt (ja_c l0 5) = some (2, 1024) := nk_ta ja_okT t_l0 (by decide +kernel)
  refine nk_p (i := .iload_n 1) (len := 1) (pc' := 149) mJ_343 (by decide +kernel) (ns_iload_n 1 rfl rfl) rfl ?_
  refine nk_p (i := .lload_n 3) (len := 1) (pc' := 150) mJ_343 (by decide +kernel) (ns_lload_n 3 rfl rfl) rfl ?_
  obtain ⟨h2, hr⟩ := nk_cke hr
  obtain ⟨S3, h4, hr⟩ := nk_lte hr
  refine nk_last (len := 1) (N := 1024) (pc' := 151) mJ_343 (by decide +kernel) t1 h2.1 h2.2 rfl rfl h4 ?_
  refine nk_p (i := .aload_n 0) (len := 1) (pc' := 152) mJ_343 (by decide +kernel) (ns_aload_n 0 rfl rfl) rfl ?_
  refine nk_getC (f := (2, 8, 0)) (x := 21) (len := 3) (ci := 4) (k := 3) (pc' := 155) ja_okT mJ_343 (by decide +kernel) (by decide +kernel) (by decide +kernel) (by decide) t_l0 rfl ?_
  have t5 : nk_cl ja_Tt (ja_c l0 3) = some 8 := nk_tc (y := 0) ja_okT t_l0 (by decide +kernel)
  refine nk_p (i := .iload_n 2) (len := 1) (pc' := 156) mJ_343 (by decide +kernel) (ns_iload_n 2 rfl rfl) rfl ?_
  refine nk_p (i := .lload_n 3) (len := 1) (pc' := 157) mJ_343 (by decide +kernel) (ns_lload_n 3 rfl rfl) rfl ?_
  obtain ⟨r6, S7, h8, hr⟩ := nk_bde hr
  refine nk_callV (ci := 8) (n := 2) (x := 286) (len := 3) (j' := 417) (q' := 0) (r := r6) (S' := S7) (L2 := [(0, nk_r (ja_c l0 3)), (1, nk_i l2), (2, nk_l l3)]) (rest := []) (st' := []) (pc' := 160) mJ_343 (by decide +kernel) (by decide +kernel) rfl rfl t5 (Nat.le_of_ble_eq_true rfl) mJ_417 (Nat.le_of_ble_eq_true rfl) rfl (ja_X8_addThrown_ok zs _ _ _ _ _ t5 h8) rfl ?_
  cases hr
  exact nk_vret (len := 1) mJ_343 (by decide +kernel) rfl
noncomputable def ja_X4_throwLoose_b78 (rec29 : Nat → Int → Int → Int → Int → nk_S → Option (Int × nk_S)) (l0 : Nat) (l1 : Int) (l2 : Int) (l3 : Int) (l5 : Int) (s0 : Int) (S : nk_S) : Option (Int × nk_S) :=
  if s0 = 0 then
    nk_lt (nk_w (l5 + 1)) fun v1 =>
    rec29 l0 l1 l2 l3 v1 S
  else
    nk_bd (ja_X4_bring l0 l1 S) fun r3 S4 =>
    nk_lt (nk_wi S4 (ja_c l0 2) 7 0) fun S7 =>
    nk_bd (ja_X7_push (ja_c l0 2) s0 9007199254740992 S7) fun r9 S10 =>
    if 0 ≤ l5 ∧ l5 < 64 then
    nk_bd (ja_X7_arrive (ja_c l0 2) (S10.1 (ja_c (S10.2 l0 0) 15) l5.toNat) S10) fun r15 S16 =>
    nk_lt (nk_land l3 (nk_lxor s0 (-1))) fun v18 =>
    nk_lt (nk_w (l5 + 1)) fun v20 =>
    rec29 l0 l1 l2 v18 v20 S16
    else none
theorem ja_X4_throwLoose_b78_ok (zs : List Int32) {rec29 : Nat → Int → Int → Int → Int → nk_S → Option (Int × nk_S)} (hrec29 : ∀ (l0 : Nat) (l1 : Int) (l2 : Int) (l3 : Int) (l5 : Int) (S : nk_S) (R : Int × nk_S), nk_cl ja_Tt l0 = some 4 → rec29 l0 l1 l2 l3 l5 S = some R → nk_K ja_Tt mi_Γ (mi_ev zs) 0 343 29 [(0, nk_r l0), (1, nk_i l1), (2, nk_i l2), (3, nk_l l3), (5, nk_i l5)] [] S R) : ∀ (l0 : Nat) (l1 : Int) (l2 : Int) (l3 : Int) (l5 : Int) (s0 : Int) (S : nk_S) (R : Int × nk_S), nk_cl ja_Tt l0 = some 4 → ja_X4_throwLoose_b78 rec29 l0 l1 l2 l3 l5 s0 S = some R → nk_K ja_Tt mi_Γ (mi_ev zs) 0 343 78 [(0, nk_r l0), (1, nk_i l1), (2, nk_i l2), (3, nk_l l3), (5, nk_i l5)] [nk_l s0] S R := by
  intro l0 l1 l2 l3 l5 s0 S R t_l0 hr
  unfold ja_X4_throwLoose_b78 at hr
  refine nk_p (i := .lstore 6) (len := 2) (pc' := 80) mJ_343 (by decide +kernel) (ns_lstore (L' := [(6, nk_l s0), (0, nk_r l0), (1, nk_i l1), (2, nk_i l2), (3, nk_l l3), (5, nk_i l5)]) rfl rfl (by decide +kernel)) rfl ?_
  refine nk_p (i := .lload 6) (len := 2) (pc' := 82) mJ_343 (by decide +kernel) (ns_lload 0 rfl) rfl ?_
  refine nk_p (i := .lconst 0) (len := 1) (pc' := 83) mJ_343 (by decide +kernel) (ns_lconst (c := 0) (by decide +kernel)) rfl ?_
  refine nk_p (i := .lcmp) (len := 1) (pc' := 84) mJ_343 (by decide +kernel) ns_lcmp rfl ?_
  refine nk_lcond (c := .eq) (off := 54) (len := 3) (t := 138) (pc' := 87) mJ_343 (by decide +kernel) (by decide +kernel) rfl (fun hc => ?_) (fun hc => ?_)
  · have hr := nk_ifp (c := s0 = 0) hc hr
    obtain ⟨v1, h2, hr⟩ := nk_lte hr
    refine nk_p (i := .iinc 5 1) (len := 3) (pc' := 141) mJ_343 (by decide +kernel) (ns_iinc (c := 1) (L' := [(5, nk_i v1), (6, nk_l s0), (0, nk_r l0), (1, nk_i l1), (2, nk_i l2), (3, nk_l l3)]) 5 rfl (by decide +kernel) h2 rfl (by decide +kernel)) rfl ?_
    refine nk_p (i := .goto (-112)) (len := 3) (pc' := 29) mJ_343 (by decide +kernel) (ns_goto (by decide +kernel)) rfl ?_
    refine nk_sub [2, 3, 4, 5, 0] (L' := [(0, nk_r l0), (1, nk_i l1), (2, nk_i l2), (3, nk_l l3), (5, nk_i v1)]) rfl ?_
    exact hrec29 _ _ _ _ _ _ _ t_l0 hr
  · have hr := nk_ifn (c := s0 = 0) hc hr
    refine nk_p (i := .aload_n 0) (len := 1) (pc' := 88) mJ_343 (by decide +kernel) (ns_aload_n 1 rfl rfl) rfl ?_
    refine nk_p (i := .iload_n 1) (len := 1) (pc' := 89) mJ_343 (by decide +kernel) (ns_iload_n 2 rfl rfl) rfl ?_
    obtain ⟨r3, S4, h5, hr⟩ := nk_bde hr
    refine nk_callV (ci := 4) (n := 1) (x := 183) (len := 3) (j' := 311) (q' := 0) (r := r3) (S' := S4) (L2 := [(0, nk_r l0), (1, nk_i l1)]) (rest := []) (st' := []) (pc' := 92) mJ_343 (by decide +kernel) (by decide +kernel) rfl rfl t_l0 (Nat.le_of_ble_eq_true rfl) mJ_311 (Nat.le_of_ble_eq_true rfl) rfl (ja_X4_bring_ok zs _ _ _ _ t_l0 h5) rfl ?_
    refine nk_p (i := .aload_n 0) (len := 1) (pc' := 93) mJ_343 (by decide +kernel) (ns_aload_n 1 rfl rfl) rfl ?_
    refine nk_getC (f := (2, 7, 0)) (x := 12) (len := 3) (ci := 4) (k := 2) (pc' := 96) ja_okT mJ_343 (by decide +kernel) (by decide +kernel) (by decide +kernel) (by decide) t_l0 rfl ?_
    have t6 : nk_cl ja_Tt (ja_c l0 2) = some 7 := nk_tc (y := 0) ja_okT t_l0 (by decide +kernel)
    refine nk_p (i := .iconst 0) (len := 1) (pc' := 97) mJ_343 (by decide +kernel) (ns_iconst (c := 0) (by decide +kernel)) rfl ?_
    obtain ⟨S7, h8, hr⟩ := nk_lte hr
    refine nk_putI (y := (0, 0)) (ty := .int) (x := 277) (len := 3) (ci := 7) (k := 7) (pc' := 100) ja_okT mJ_343 (by decide +kernel) (by decide +kernel) (by decide +kernel) t6 (Or.inl rfl) rfl h8 ?_
    refine nk_p (i := .aload_n 0) (len := 1) (pc' := 101) mJ_343 (by decide +kernel) (ns_aload_n 1 rfl rfl) rfl ?_
    refine nk_getC (f := (2, 7, 0)) (x := 12) (len := 3) (ci := 4) (k := 2) (pc' := 104) ja_okT mJ_343 (by decide +kernel) (by decide +kernel) (by decide +kernel) (by decide) t_l0 rfl ?_
    refine nk_p (i := .lload 6) (len := 2) (pc' := 106) mJ_343 (by decide +kernel) (ns_lload 0 rfl) rfl ?_
    refine nk_ldc2 (x := 279) (len := 3) (X := 9007199254740992) (v := 9007199254740992) (pc' := 109) mJ_343 (by decide +kernel) (by decide +kernel) (by decide +kernel) rfl ?_
    obtain ⟨r9, S10, h11, hr⟩ := nk_bde hr
    refine nk_callV (ci := 7) (n := 2) (x := 258) (len := 3) (j' := 408) (q' := 0) (r := r9) (S' := S10) (L2 := [(0, nk_r (ja_c l0 2)), (1, nk_l s0), (3, nk_l 9007199254740992)]) (rest := []) (st' := []) (pc' := 112) mJ_343 (by decide +kernel) (by decide +kernel) rfl rfl t6 (Nat.le_of_ble_eq_true rfl) mJ_408 (Nat.le_of_ble_eq_true rfl) rfl (ja_X7_push_ok zs _ _ _ _ _ t6 h11) rfl ?_
    refine nk_p (i := .aload_n 0) (len := 1) (pc' := 113) mJ_343 (by decide +kernel) (ns_aload_n 1 rfl rfl) rfl ?_
    refine nk_getC (f := (2, 7, 0)) (x := 12) (len := 3) (ci := 4) (k := 2) (pc' := 116) ja_okT mJ_343 (by decide +kernel) (by decide +kernel) (by decide +kernel) (by decide) t_l0 rfl ?_
    refine nk_p (i := .aload_n 0) (len := 1) (pc' := 117) mJ_343 (by decide +kernel) (ns_aload_n 1 rfl rfl) rfl ?_
    refine nk_getM (cj := 3) (z := 0) (x := 42) (len := 3) (ci := 4) (k := 0) (pc' := 120) ja_okT mJ_343 (by decide +kernel) (by decide +kernel) (by decide +kernel) t_l0 rfl (fun t12 => ?_)
    refine nk_getC (f := (4, 1, 64)) (x := 281) (len := 3) (ci := 3) (k := 15) (pc' := 123) ja_okT mJ_343 (by decide +kernel) (by decide +kernel) (by decide +kernel) (by decide) t12 rfl ?_
    have t13 : nk_ar ja_Tt (ja_c (S10.2 l0 0) 15) = some (1, 64) := nk_ta ja_okT t12 (by decide +kernel)
    refine nk_p (i := .iload 5) (len := 2) (pc' := 125) mJ_343 (by decide +kernel) (ns_iload 5 rfl) rfl ?_
    obtain ⟨h14, hr⟩ := nk_cke hr
    refine nk_iald (len := 1) (N := 64) (pc' := 126) mJ_343 (by decide +kernel) t13 h14.1 h14.2 rfl rfl ?_
    obtain ⟨r15, S16, h17, hr⟩ := nk_bde hr
    refine nk_callV (ci := 7) (n := 1) (x := 265) (len := 3) (j' := 396) (q' := 0) (r := r15) (S' := S16) (L2 := [(0, nk_r (ja_c l0 2)), (1, nk_i (S10.1 (ja_c (S10.2 l0 0) 15) l5.toNat))]) (rest := []) (st' := []) (pc' := 129) mJ_343 (by decide +kernel) (by decide +kernel) rfl rfl t6 (Nat.le_of_ble_eq_true rfl) mJ_396 (Nat.le_of_ble_eq_true rfl) rfl (ja_X7_arrive_ok zs _ _ _ _ t6 h17) rfl ?_
    refine nk_p (i := .lload_n 3) (len := 1) (pc' := 130) mJ_343 (by decide +kernel) (ns_lload_n 4 rfl rfl) rfl ?_
    refine nk_p (i := .lload 6) (len := 2) (pc' := 132) mJ_343 (by decide +kernel) (ns_lload 0 rfl) rfl ?_
    refine nk_ldc2 (x := 284) (len := 3) (X := (-1)) (v := (-1)) (pc' := 135) mJ_343 (by decide +kernel) (by decide +kernel) (by decide +kernel) rfl ?_
    refine nk_p (i := .lxor) (len := 1) (pc' := 136) mJ_343 (by decide +kernel) ns_lxor rfl ?_
    refine nk_p (i := .land) (len := 1) (pc' := 137) mJ_343 (by decide +kernel) ns_land rfl ?_
    obtain ⟨v18, h19, hr⟩ := nk_lte hr
    refine nk_p (i := .lstore_n 3) (len := 1) (pc' := 138) mJ_343 (by decide +kernel) (ns_lstore_n (L' := [(3, nk_l v18), (6, nk_l s0), (0, nk_r l0), (1, nk_i l1), (2, nk_i l2), (5, nk_i l5)]) h19 rfl rfl (by decide +kernel)) rfl ?_
    obtain ⟨v20, h21, hr⟩ := nk_lte hr
    refine nk_p (i := .iinc 5 1) (len := 3) (pc' := 141) mJ_343 (by decide +kernel) (ns_iinc (c := 1) (L' := [(5, nk_i v20), (3, nk_l v18), (6, nk_l s0), (0, nk_r l0), (1, nk_i l1), (2, nk_i l2)]) 5 rfl (by decide +kernel) h21 rfl (by decide +kernel)) rfl ?_
    refine nk_p (i := .goto (-112)) (len := 3) (pc' := 29) mJ_343 (by decide +kernel) (ns_goto (by decide +kernel)) rfl ?_
    refine nk_sub [3, 4, 5, 1, 0] (L' := [(0, nk_r l0), (1, nk_i l1), (2, nk_i l2), (3, nk_l v18), (5, nk_i v20)]) rfl ?_
    exact hrec29 _ _ _ _ _ _ _ t_l0 hr
noncomputable def ja_X4_throwLoose_b29 (rec29 : Nat → Int → Int → Int → Int → nk_S → Option (Int × nk_S)) (l0 : Nat) (l1 : Int) (l2 : Int) (l3 : Int) (l5 : Int) (S : nk_S) : Option (Int × nk_S) :=
  if 0 ≤ l2 ∧ l2 < 48 then
  if (S.1 (ja_c (ja_c (S.2 l0 0) 1) 13) l2.toNat) ≤ l5 then
    ja_X4_throwLoose_b144 l0 l1 l2 l3 S
  else
    if l3 = 0 then
      ja_X4_throwLoose_b144 l0 l1 l2 l3 S
    else
      nk_bd (ja_X3_covers (S.2 l0 0) l5 l1 S) fun r6 S7 =>
      if r6 = 0 then
        ja_X4_throwLoose_b78 rec29 l0 l1 l2 l3 l5 0 S7
      else
        if 0 ≤ l5 ∧ l5 < 64 then
        ja_X4_throwLoose_b78 rec29 l0 l1 l2 l3 l5 (nk_land l3 (S7.1 (ja_c l0 7) l5.toNat)) S7
        else none
  else none
theorem ja_X4_throwLoose_b29_ok (zs : List Int32) {rec29 : Nat → Int → Int → Int → Int → nk_S → Option (Int × nk_S)} (hrec29 : ∀ (l0 : Nat) (l1 : Int) (l2 : Int) (l3 : Int) (l5 : Int) (S : nk_S) (R : Int × nk_S), nk_cl ja_Tt l0 = some 4 → rec29 l0 l1 l2 l3 l5 S = some R → nk_K ja_Tt mi_Γ (mi_ev zs) 0 343 29 [(0, nk_r l0), (1, nk_i l1), (2, nk_i l2), (3, nk_l l3), (5, nk_i l5)] [] S R) : ∀ (l0 : Nat) (l1 : Int) (l2 : Int) (l3 : Int) (l5 : Int) (S : nk_S) (R : Int × nk_S), nk_cl ja_Tt l0 = some 4 → ja_X4_throwLoose_b29 rec29 l0 l1 l2 l3 l5 S = some R → nk_K ja_Tt mi_Γ (mi_ev zs) 0 343 29 [(0, nk_r l0), (1, nk_i l1), (2, nk_i l2), (3, nk_l l3), (5, nk_i l5)] [] S R := by
  intro l0 l1 l2 l3 l5 S R t_l0 hr
  unfold ja_X4_throwLoose_b29 at hr
  refine nk_p (i := .iload 5) (len := 2) (pc' := 31) mJ_343 (by decide +kernel) (ns_iload 4 rfl) rfl ?_
  refine nk_p (i := .aload_n 0) (len := 1) (pc' := 32) mJ_343 (by decide +kernel) (ns_aload_n 0 rfl rfl) rfl ?_
  refine nk_getM (cj := 3) (z := 0) (x := 42) (len := 3) (ci := 4) (k := 0) (pc' := 35) ja_okT mJ_343 (by decide +kernel) (by decide +kernel) (by decide +kernel) t_l0 rfl (fun t1 => ?_)
  refine nk_getC (f := (2, 0, 0)) (x := 71) (len := 3) (ci := 3) (k := 1) (pc' := 38) ja_okT mJ_343 (by decide +kernel) (by decide +kernel) (by decide +kernel) (by decide) t1 rfl ?_
  have t2 : nk_cl ja_Tt (ja_c (S.2 l0 0) 1) = some 0 := nk_tc (y := 0) ja_okT t1 (by decide +kernel)
  refine nk_getC (f := (4, 1, 48)) (x := 271) (len := 3) (ci := 0) (k := 13) (pc' := 41) ja_okT mJ_343 (by decide +kernel) (by decide +kernel) (by decide +kernel) (by decide) t2 rfl ?_
  have t3 : nk_ar ja_Tt (ja_c (ja_c (S.2 l0 0) 1) 13) = some (1, 48) := nk_ta ja_okT t2 (by decide +kernel)
  refine nk_p (i := .iload_n 2) (len := 1) (pc' := 42) mJ_343 (by decide +kernel) (ns_iload_n 2 rfl rfl) rfl ?_
  obtain ⟨h4, hr⟩ := nk_cke hr
  refine nk_iald (len := 1) (N := 48) (pc' := 43) mJ_343 (by decide +kernel) t3 h4.1 h4.2 rfl rfl ?_
  refine nk_icmp (c := .ge) (off := 101) (len := 3) (t := 144) (pc' := 46) mJ_343 (by decide +kernel) (by decide +kernel) rfl (fun hc => ?_) (fun hc => ?_)
  · have hr := nk_ifp (c := (S.1 (ja_c (ja_c (S.2 l0 0) 1) 13) l2.toNat) ≤ l5) hc hr
    refine nk_sub [0, 1, 2, 3] (L' := [(0, nk_r l0), (1, nk_i l1), (2, nk_i l2), (3, nk_l l3)]) rfl ?_
    exact ja_X4_throwLoose_b144_ok zs _ _ _ _ _ _ t_l0 hr
  · have hr := nk_ifn (c := (S.1 (ja_c (ja_c (S.2 l0 0) 1) 13) l2.toNat) ≤ l5) hc hr
    refine nk_p (i := .lload_n 3) (len := 1) (pc' := 47) mJ_343 (by decide +kernel) (ns_lload_n 3 rfl rfl) rfl ?_
    refine nk_p (i := .lconst 0) (len := 1) (pc' := 48) mJ_343 (by decide +kernel) (ns_lconst (c := 0) (by decide +kernel)) rfl ?_
    refine nk_p (i := .lcmp) (len := 1) (pc' := 49) mJ_343 (by decide +kernel) ns_lcmp rfl ?_
    refine nk_lcond (c := .eq) (off := 95) (len := 3) (t := 144) (pc' := 52) mJ_343 (by decide +kernel) (by decide +kernel) rfl (fun hc => ?_) (fun hc => ?_)
    · have hr := nk_ifp (c := l3 = 0) hc hr
      refine nk_sub [0, 1, 2, 3] (L' := [(0, nk_r l0), (1, nk_i l1), (2, nk_i l2), (3, nk_l l3)]) rfl ?_
      exact ja_X4_throwLoose_b144_ok zs _ _ _ _ _ _ t_l0 hr
    · have hr := nk_ifn (c := l3 = 0) hc hr
      refine nk_p (i := .aload_n 0) (len := 1) (pc' := 53) mJ_343 (by decide +kernel) (ns_aload_n 0 rfl rfl) rfl ?_
      refine nk_getM (cj := 3) (z := 0) (x := 42) (len := 3) (ci := 4) (k := 0) (pc' := 56) ja_okT mJ_343 (by decide +kernel) (by decide +kernel) (by decide +kernel) t_l0 rfl (fun t5 => ?_)
      refine nk_p (i := .iload 5) (len := 2) (pc' := 58) mJ_343 (by decide +kernel) (ns_iload 4 rfl) rfl ?_
      refine nk_p (i := .iload_n 1) (len := 1) (pc' := 59) mJ_343 (by decide +kernel) (ns_iload_n 1 rfl rfl) rfl ?_
      obtain ⟨r6, S7, h8, hr⟩ := nk_bde hr
      refine nk_callV (ci := 3) (n := 2) (x := 274) (len := 3) (j' := 302) (q' := 1) (r := r6) (S' := S7) (L2 := [(0, nk_r (S.2 l0 0)), (1, nk_i l5), (2, nk_i l1)]) (rest := []) (st' := [nk_i r6]) (pc' := 62) mJ_343 (by decide +kernel) (by decide +kernel) rfl rfl t5 (Nat.le_of_ble_eq_true rfl) mJ_302 (Nat.le_of_ble_eq_true rfl) rfl (ja_X3_covers_ok zs _ _ _ _ _ t5 h8) rfl ?_
      refine nk_icond (c := .eq) (off := 15) (len := 3) (t := 77) (pc' := 65) mJ_343 (by decide +kernel) (by decide +kernel) rfl (fun hc => ?_) (fun hc => ?_)
      · have hr := nk_ifp (c := r6 = 0) hc hr
        refine nk_p (i := .lconst 0) (len := 1) (pc' := 78) mJ_343 (by decide +kernel) (ns_lconst (c := 0) (by decide +kernel)) rfl ?_
        exact ja_X4_throwLoose_b78_ok zs hrec29 _ _ _ _ _ _ _ _ t_l0 hr
      · have hr := nk_ifn (c := r6 = 0) hc hr
        refine nk_p (i := .lload_n 3) (len := 1) (pc' := 66) mJ_343 (by decide +kernel) (ns_lload_n 3 rfl rfl) rfl ?_
        refine nk_p (i := .aload_n 0) (len := 1) (pc' := 67) mJ_343 (by decide +kernel) (ns_aload_n 0 rfl rfl) rfl ?_
        refine nk_getC (f := (4, 2, 64)) (x := 36) (len := 3) (ci := 4) (k := 7) (pc' := 70) ja_okT mJ_343 (by decide +kernel) (by decide +kernel) (by decide +kernel) (by decide) t_l0 rfl ?_
        have t9 : nk_ar ja_Tt (ja_c l0 7) = some (2, 64) := nk_ta ja_okT t_l0 (by decide +kernel)
        refine nk_p (i := .iload 5) (len := 2) (pc' := 72) mJ_343 (by decide +kernel) (ns_iload 4 rfl) rfl ?_
        obtain ⟨h10, hr⟩ := nk_cke hr
        refine nk_lald (len := 1) (N := 64) (pc' := 73) mJ_343 (by decide +kernel) t9 h10.1 h10.2 rfl rfl ?_
        refine nk_p (i := .land) (len := 1) (pc' := 74) mJ_343 (by decide +kernel) ns_land rfl ?_
        refine nk_p (i := .goto 4) (len := 3) (pc' := 78) mJ_343 (by decide +kernel) (ns_goto (by decide +kernel)) rfl ?_
        exact ja_X4_throwLoose_b78_ok zs hrec29 _ _ _ _ _ _ _ _ t_l0 hr
noncomputable def ja_X4_throwLoose_L29 : Nat → Nat → Int → Int → Int → Int → nk_S → Option (Int × nk_S)
  | 0, _, _, _, _, _, _ => none
  | n + 1, l0, l1, l2, l3, l5, S => ja_X4_throwLoose_b29 (ja_X4_throwLoose_L29 n) l0 l1 l2 l3 l5 S
theorem ja_X4_throwLoose_L29_ok (zs : List Int32) : ∀ n : Nat, ∀ (l0 : Nat) (l1 : Int) (l2 : Int) (l3 : Int) (l5 : Int) (S : nk_S) (R : Int × nk_S), nk_cl ja_Tt l0 = some 4 → ja_X4_throwLoose_L29 n l0 l1 l2 l3 l5 S = some R → nk_K ja_Tt mi_Γ (mi_ev zs) 0 343 29 [(0, nk_r l0), (1, nk_i l1), (2, nk_i l2), (3, nk_l l3), (5, nk_i l5)] [] S R := by
  intro n
  induction n with
  | zero => intro _ _ _ _ _ _ _ _ hr; cases hr
  | succ n ih => intro l0 l1 l2 l3 l5 S R t_l0 hr; exact ja_X4_throwLoose_b29_ok zs ih l0 l1 l2 l3 l5 S R t_l0 hr
noncomputable def ja_X4_throwLoose (l0 : Nat) (l1 : Int) (S : nk_S) : Option (Int × nk_S) :=
  if 0 ≤ l1 ∧ l1 < 1024 then
  nk_lt (S.1 (ja_c (S.2 l0 0) 8) l1.toNat) fun v4 =>
  nk_lt (S.1 l0 10) fun v6 =>
  if 0 ≤ v4 ∧ v4 < 48 then
  nk_lt (S.1 (ja_c (ja_c (S.2 l0 0) 1) 12) v4.toNat) fun v12 =>
  ja_X4_throwLoose_L29 nk_big l0 l1 v4 v6 v12 S
  else none
  else none
theorem ja_X4_throwLoose_ok (zs : List Int32) : ∀ (l0 : Nat) (l1 : Int) (S : nk_S) (R : Int × nk_S), nk_cl ja_Tt l0 = some 4 → ja_X4_throwLoose l0 l1 S = some R → nk_K ja_Tt mi_Γ (mi_ev zs) 0 343 0 [(0, nk_r l0), (1, nk_i l1)] [] S R := by
  intro l0 l1 S R t_l0 hr
  unfold ja_X4_throwLoose at hr
  refine nk_p (i := .aload_n 0) (len := 1) (pc' := 1) mJ_343 (by decide +kernel) (ns_aload_n 0 rfl rfl) rfl ?_
  refine nk_getM (cj := 3) (z := 0) (x := 42) (len := 3) (ci := 4) (k := 0) (pc' := 4) ja_okT mJ_343 (by decide +kernel) (by decide +kernel) (by decide +kernel) t_l0 rfl (fun t1 => ?_)
  refine nk_getC (f := (4, 1, 1024)) (x := 176) (len := 3) (ci := 3) (k := 8) (pc' := 7) ja_okT mJ_343 (by decide +kernel) (by decide +kernel) (by decide +kernel) (by decide) t1 rfl ?_
  have t2 : nk_ar ja_Tt (ja_c (S.2 l0 0) 8) = some (1, 1024) := nk_ta ja_okT t1 (by decide +kernel)
  refine nk_p (i := .iload_n 1) (len := 1) (pc' := 8) mJ_343 (by decide +kernel) (ns_iload_n 1 rfl rfl) rfl ?_
  obtain ⟨h3, hr⟩ := nk_cke hr
  refine nk_iald (len := 1) (N := 1024) (pc' := 9) mJ_343 (by decide +kernel) t2 h3.1 h3.2 rfl rfl ?_
  obtain ⟨v4, h5, hr⟩ := nk_lte hr
  refine nk_p (i := .istore_n 2) (len := 1) (pc' := 10) mJ_343 (by decide +kernel) (ns_istore_n (L' := [(2, nk_i v4), (0, nk_r l0), (1, nk_i l1)]) h5 rfl rfl (by decide +kernel)) rfl ?_
  refine nk_p (i := .aload_n 0) (len := 1) (pc' := 11) mJ_343 (by decide +kernel) (ns_aload_n 1 rfl rfl) rfl ?_
  refine nk_getL (y := (0, 0)) (x := 188) (len := 3) (ci := 4) (k := 10) (pc' := 14) ja_okT mJ_343 (by decide +kernel) (by decide +kernel) (by decide +kernel) t_l0 rfl ?_
  obtain ⟨v6, h7, hr⟩ := nk_lte hr
  refine nk_p (i := .lstore_n 3) (len := 1) (pc' := 15) mJ_343 (by decide +kernel) (ns_lstore_n (L' := [(3, nk_l v6), (2, nk_i v4), (0, nk_r l0), (1, nk_i l1)]) h7 rfl rfl (by decide +kernel)) rfl ?_
  refine nk_p (i := .aload_n 0) (len := 1) (pc' := 16) mJ_343 (by decide +kernel) (ns_aload_n 2 rfl rfl) rfl ?_
  refine nk_getM (cj := 3) (z := 0) (x := 42) (len := 3) (ci := 4) (k := 0) (pc' := 19) ja_okT mJ_343 (by decide +kernel) (by decide +kernel) (by decide +kernel) t_l0 rfl (fun t8 => ?_)
  refine nk_getC (f := (2, 0, 0)) (x := 71) (len := 3) (ci := 3) (k := 1) (pc' := 22) ja_okT mJ_343 (by decide +kernel) (by decide +kernel) (by decide +kernel) (by decide) t8 rfl ?_
  have t9 : nk_cl ja_Tt (ja_c (S.2 l0 0) 1) = some 0 := nk_tc (y := 0) ja_okT t8 (by decide +kernel)
  refine nk_getC (f := (4, 1, 48)) (x := 268) (len := 3) (ci := 0) (k := 12) (pc' := 25) ja_okT mJ_343 (by decide +kernel) (by decide +kernel) (by decide +kernel) (by decide) t9 rfl ?_
  have t10 : nk_ar ja_Tt (ja_c (ja_c (S.2 l0 0) 1) 12) = some (1, 48) := nk_ta ja_okT t9 (by decide +kernel)
  refine nk_p (i := .iload_n 2) (len := 1) (pc' := 26) mJ_343 (by decide +kernel) (ns_iload_n 1 rfl rfl) rfl ?_
  obtain ⟨h11, hr⟩ := nk_cke hr
  refine nk_iald (len := 1) (N := 48) (pc' := 27) mJ_343 (by decide +kernel) t10 h11.1 h11.2 rfl rfl ?_
  obtain ⟨v12, h13, hr⟩ := nk_lte hr
  refine nk_p (i := .istore 5) (len := 2) (pc' := 29) mJ_343 (by decide +kernel) (ns_istore (L' := [(5, nk_i v12), (3, nk_l v6), (2, nk_i v4), (0, nk_r l0), (1, nk_i l1)]) h13 rfl (by decide +kernel)) rfl ?_
  refine nk_sub [3, 4, 2, 1, 0] (L' := [(0, nk_r l0), (1, nk_i l1), (2, nk_i v4), (3, nk_l v6), (5, nk_i v12)]) rfl ?_
  exact ja_X4_throwLoose_L29_ok zs nk_big _ _ _ _ _ _ _ t_l0 hr
/-! SafeCode$Proof look (I)V -/
noncomputable def ja_X4_look_b321 (l0 : Nat) (l1 : Int) (s0 : Nat) (s1 : Int) (s2 : Int) (S : nk_S) : Option (Int × nk_S) :=
  if 0 ≤ s1 ∧ s1 < 1024 then
  nk_lt (nk_wi S s0 s1.toNat s2) fun S2 =>
  nk_bd (ja_X4_throwLoose l0 l1 S2) fun r4 S5 =>
  some (0, S5)
  else none
theorem ja_X4_look_b321_ok (zs : List Int32) : ∀ (l0 : Nat) (l1 : Int) (s0 : Nat) (s1 : Int) (s2 : Int) (S : nk_S) (R : Int × nk_S), nk_cl ja_Tt l0 = some 4 → nk_ar ja_Tt s0 = some (1, 1024) → ja_X4_look_b321 l0 l1 s0 s1 s2 S = some R → nk_K ja_Tt mi_Γ (mi_ev zs) 0 325 321 [(0, nk_r l0), (1, nk_i l1)] [nk_i s2, nk_i s1, nk_r s0] S R := by
  intro l0 l1 s0 s1 s2 S R t_l0 t_s0 hr
  unfold ja_X4_look_b321 at hr
  obtain ⟨h1, hr⟩ := nk_cke hr
  obtain ⟨S2, h3, hr⟩ := nk_lte hr
  refine nk_iast (len := 1) (N := 1024) (pc' := 322) mJ_325 (by decide +kernel) t_s0 h1.1 h1.2 rfl rfl h3 ?_
  refine nk_p (i := .aload_n 0) (len := 1) (pc' := 323) mJ_325 (by decide +kernel) (ns_aload_n 0 rfl rfl) rfl ?_
  refine nk_p (i := .iload_n 1) (len := 1) (pc' := 324) mJ_325 (by decide +kernel) (ns_iload_n 1 rfl rfl) rfl ?_
  obtain ⟨r4, S5, h6, hr⟩ := nk_bde hr
  refine nk_callV (ci := 4) (n := 1) (x := 224) (len := 3) (j' := 343) (q' := 0) (r := r4) (S' := S5) (L2 := [(0, nk_r l0), (1, nk_i l1)]) (rest := []) (st' := []) (pc' := 327) mJ_325 (by decide +kernel) (by decide +kernel) rfl rfl t_l0 (Nat.le_of_ble_eq_true rfl) mJ_343 (Nat.le_of_ble_eq_true rfl) rfl (ja_X4_throwLoose_ok zs _ _ _ _ t_l0 h6) rfl ?_
  cases hr
  exact nk_vret (len := 1) mJ_325 (by decide +kernel) rfl
noncomputable def ja_X4_look_b294 (l0 : Nat) (l1 : Int) (S : nk_S) : Option (Int × nk_S) :=
  if (S.1 l0 11) = 0 then
    ja_X4_look_b321 l0 l1 (ja_c l0 4) l1 (nk_ior (S.1 l0 9) 512) S
  else
    ja_X4_look_b321 l0 l1 (ja_c l0 4) l1 (S.1 l0 9) S
theorem ja_X4_look_b294_ok (zs : List Int32) : ∀ (l0 : Nat) (l1 : Int) (S : nk_S) (R : Int × nk_S), nk_cl ja_Tt l0 = some 4 → ja_X4_look_b294 l0 l1 S = some R → nk_K ja_Tt mi_Γ (mi_ev zs) 0 325 294 [(0, nk_r l0), (1, nk_i l1)] [] S R := by
  intro l0 l1 S R t_l0 hr
  unfold ja_X4_look_b294 at hr
  refine nk_p (i := .aload_n 0) (len := 1) (pc' := 295) mJ_325 (by decide +kernel) (ns_aload_n 0 rfl rfl) rfl ?_
  refine nk_getC (f := (4, 1, 1024)) (x := 25) (len := 3) (ci := 4) (k := 4) (pc' := 298) ja_okT mJ_325 (by decide +kernel) (by decide +kernel) (by decide +kernel) (by decide) t_l0 rfl ?_
  have t1 : nk_ar ja_Tt (ja_c l0 4) = some (1, 1024) := nk_ta ja_okT t_l0 (by decide +kernel)
  refine nk_p (i := .iload_n 1) (len := 1) (pc' := 299) mJ_325 (by decide +kernel) (ns_iload_n 1 rfl rfl) rfl ?_
  refine nk_p (i := .aload_n 0) (len := 1) (pc' := 300) mJ_325 (by decide +kernel) (ns_aload_n 0 rfl rfl) rfl ?_
  refine nk_getI (y := (0, 0)) (x := 191) (len := 3) (ci := 4) (k := 11) (pc' := 303) ja_okT mJ_325 (by decide +kernel) (by decide +kernel) (by decide +kernel) t_l0 rfl ?_
  refine nk_icond (c := .eq) (off := 10) (len := 3) (t := 313) (pc' := 306) mJ_325 (by decide +kernel) (by decide +kernel) rfl (fun hc => ?_) (fun hc => ?_)
  · have hr := nk_ifp (c := (S.1 l0 11) = 0) hc hr
    refine nk_p (i := .aload_n 0) (len := 1) (pc' := 314) mJ_325 (by decide +kernel) (ns_aload_n 0 rfl rfl) rfl ?_
    refine nk_getI (y := (0, 0)) (x := 185) (len := 3) (ci := 4) (k := 9) (pc' := 317) ja_okT mJ_325 (by decide +kernel) (by decide +kernel) (by decide +kernel) t_l0 rfl ?_
    refine nk_p (i := .sipush 512) (len := 3) (pc' := 320) mJ_325 (by decide +kernel) (ns_sipush (c := 512) (by decide +kernel)) rfl ?_
    refine nk_p (i := .ior) (len := 1) (pc' := 321) mJ_325 (by decide +kernel) ns_ior rfl ?_
    exact ja_X4_look_b321_ok zs _ _ _ _ _ _ _ t_l0 t1 hr
  · have hr := nk_ifn (c := (S.1 l0 11) = 0) hc hr
    refine nk_p (i := .aload_n 0) (len := 1) (pc' := 307) mJ_325 (by decide +kernel) (ns_aload_n 0 rfl rfl) rfl ?_
    refine nk_getI (y := (0, 0)) (x := 185) (len := 3) (ci := 4) (k := 9) (pc' := 310) ja_okT mJ_325 (by decide +kernel) (by decide +kernel) (by decide +kernel) t_l0 rfl ?_
    refine nk_p (i := .goto 11) (len := 3) (pc' := 321) mJ_325 (by decide +kernel) (ns_goto (by decide +kernel)) rfl ?_
    exact ja_X4_look_b321_ok zs _ _ _ _ _ _ _ t_l0 t1 hr
noncomputable def ja_X4_look_b291 (l0 : Nat) (l1 : Int) (s0 : Nat) (s1 : Int) (S : nk_S) : Option (Int × nk_S) :=
  nk_bd (ja_X4_goOn s0 s1 S) fun r1 S2 =>
  ja_X4_look_b294 l0 l1 S2
theorem ja_X4_look_b291_ok (zs : List Int32) : ∀ (l0 : Nat) (l1 : Int) (s0 : Nat) (s1 : Int) (S : nk_S) (R : Int × nk_S), nk_cl ja_Tt l0 = some 4 → nk_cl ja_Tt s0 = some 4 → ja_X4_look_b291 l0 l1 s0 s1 S = some R → nk_K ja_Tt mi_Γ (mi_ev zs) 0 325 291 [(0, nk_r l0), (1, nk_i l1)] [nk_i s1, nk_r s0] S R := by
  intro l0 l1 s0 s1 S R t_l0 t_s0 hr
  unfold ja_X4_look_b291 at hr
  obtain ⟨r1, S2, h3, hr⟩ := nk_bde hr
  refine nk_callV (ci := 4) (n := 1) (x := 221) (len := 3) (j' := 320) (q' := 0) (r := r1) (S' := S2) (L2 := [(0, nk_r s0), (1, nk_i s1)]) (rest := []) (st' := []) (pc' := 294) mJ_325 (by decide +kernel) (by decide +kernel) rfl rfl t_s0 (Nat.le_of_ble_eq_true rfl) mJ_320 (Nat.le_of_ble_eq_true rfl) rfl (ja_X4_goOn_ok zs _ _ _ _ t_s0 h3) rfl ?_
  exact ja_X4_look_b294_ok zs _ _ _ _ t_l0 hr
noncomputable def ja_X4_look_b265 (l0 : Nat) (l1 : Int) (l2 : Int) (l3 : Int) (S : nk_S) : Option (Int × nk_S) :=
  if l3 = 0 then
    ja_X4_look_b294 l0 l1 S
  else
    if l2 = 19 then
      if 0 ≤ l1 ∧ l1 < 1024 then
      ja_X4_look_b291 l0 l1 l0 (S.1 (ja_c (S.2 l0 0) 5) l1.toNat) S
      else none
    else
      ja_X4_look_b291 l0 l1 l0 (nk_w (l1 + 1)) S
theorem ja_X4_look_b265_ok (zs : List Int32) : ∀ (l0 : Nat) (l1 : Int) (l2 : Int) (l3 : Int) (S : nk_S) (R : Int × nk_S), nk_cl ja_Tt l0 = some 4 → ja_X4_look_b265 l0 l1 l2 l3 S = some R → nk_K ja_Tt mi_Γ (mi_ev zs) 0 325 265 [(0, nk_r l0), (1, nk_i l1), (2, nk_i l2), (3, nk_i l3)] [] S R := by
  intro l0 l1 l2 l3 S R t_l0 hr
  unfold ja_X4_look_b265 at hr
  refine nk_p (i := .iload_n 3) (len := 1) (pc' := 266) mJ_325 (by decide +kernel) (ns_iload_n 3 rfl rfl) rfl ?_
  refine nk_icond (c := .eq) (off := 28) (len := 3) (t := 294) (pc' := 269) mJ_325 (by decide +kernel) (by decide +kernel) rfl (fun hc => ?_) (fun hc => ?_)
  · have hr := nk_ifp (c := l3 = 0) hc hr
    refine nk_sub [0, 1] (L' := [(0, nk_r l0), (1, nk_i l1)]) rfl ?_
    exact ja_X4_look_b294_ok zs _ _ _ _ t_l0 hr
  · have hr := nk_ifn (c := l3 = 0) hc hr
    refine nk_p (i := .aload_n 0) (len := 1) (pc' := 270) mJ_325 (by decide +kernel) (ns_aload_n 0 rfl rfl) rfl ?_
    refine nk_p (i := .iload_n 2) (len := 1) (pc' := 271) mJ_325 (by decide +kernel) (ns_iload_n 2 rfl rfl) rfl ?_
    refine nk_p (i := .bipush 19) (len := 2) (pc' := 273) mJ_325 (by decide +kernel) (ns_bipush (c := 19) (by decide +kernel)) rfl ?_
    refine nk_icmp (c := .ne) (off := 15) (len := 3) (t := 288) (pc' := 276) mJ_325 (by decide +kernel) (by decide +kernel) rfl (fun hc => ?_) (fun hc => ?_)
    · have hr := nk_ifn (c := l2 = 19) hc hr
      refine nk_p (i := .iload_n 1) (len := 1) (pc' := 289) mJ_325 (by decide +kernel) (ns_iload_n 1 rfl rfl) rfl ?_
      refine nk_p (i := .iconst 1) (len := 1) (pc' := 290) mJ_325 (by decide +kernel) (ns_iconst (c := 1) (by decide +kernel)) rfl ?_
      refine nk_p (i := .iadd) (len := 1) (pc' := 291) mJ_325 (by decide +kernel) ns_iadd rfl ?_
      refine nk_sub [0, 1] (L' := [(0, nk_r l0), (1, nk_i l1)]) rfl ?_
      exact ja_X4_look_b291_ok zs _ _ _ _ _ _ t_l0 t_l0 hr
    · have hr := nk_ifp (c := l2 = 19) (Decidable.of_not_not hc) hr
      refine nk_p (i := .aload_n 0) (len := 1) (pc' := 277) mJ_325 (by decide +kernel) (ns_aload_n 0 rfl rfl) rfl ?_
      refine nk_getM (cj := 3) (z := 0) (x := 42) (len := 3) (ci := 4) (k := 0) (pc' := 280) ja_okT mJ_325 (by decide +kernel) (by decide +kernel) (by decide +kernel) t_l0 rfl (fun t1 => ?_)
      refine nk_getC (f := (4, 1, 1024)) (x := 113) (len := 3) (ci := 3) (k := 5) (pc' := 283) ja_okT mJ_325 (by decide +kernel) (by decide +kernel) (by decide +kernel) (by decide) t1 rfl ?_
      have t2 : nk_ar ja_Tt (ja_c (S.2 l0 0) 5) = some (1, 1024) := nk_ta ja_okT t1 (by decide +kernel)
      refine nk_p (i := .iload_n 1) (len := 1) (pc' := 284) mJ_325 (by decide +kernel) (ns_iload_n 1 rfl rfl) rfl ?_
      obtain ⟨h3, hr⟩ := nk_cke hr
      refine nk_iald (len := 1) (N := 1024) (pc' := 285) mJ_325 (by decide +kernel) t2 h3.1 h3.2 rfl rfl ?_
      refine nk_p (i := .goto 6) (len := 3) (pc' := 291) mJ_325 (by decide +kernel) (ns_goto (by decide +kernel)) rfl ?_
      refine nk_sub [0, 1] (L' := [(0, nk_r l0), (1, nk_i l1)]) rfl ?_
      exact ja_X4_look_b291_ok zs _ _ _ _ _ _ t_l0 t_l0 hr
noncomputable def ja_X4_look_b129 (l0 : Nat) (l1 : Int) (l2 : Int) (l3 : Int) (s0 : Nat) (s1 : Int) (s2 : Int) (s3 : Int) (S : nk_S) : Option (Int × nk_S) :=
  nk_bd (ja_X4_lookAtNullWay s0 s1 s2 s3 S) fun r1 S2 =>
  ja_X4_look_b265 l0 l1 l2 l3 S2
theorem ja_X4_look_b129_ok (zs : List Int32) : ∀ (l0 : Nat) (l1 : Int) (l2 : Int) (l3 : Int) (s0 : Nat) (s1 : Int) (s2 : Int) (s3 : Int) (S : nk_S) (R : Int × nk_S), nk_cl ja_Tt l0 = some 4 → nk_cl ja_Tt s0 = some 4 → ja_X4_look_b129 l0 l1 l2 l3 s0 s1 s2 s3 S = some R → nk_K ja_Tt mi_Γ (mi_ev zs) 0 325 129 [(0, nk_r l0), (1, nk_i l1), (2, nk_i l2), (3, nk_i l3)] [nk_i s3, nk_i s2, nk_i s1, nk_r s0] S R := by
  intro l0 l1 l2 l3 s0 s1 s2 s3 S R t_l0 t_s0 hr
  unfold ja_X4_look_b129 at hr
  obtain ⟨r1, S2, h3, hr⟩ := nk_bde hr
  refine nk_callV (ci := 4) (n := 3) (x := 201) (len := 3) (j' := 326) (q' := 0) (r := r1) (S' := S2) (L2 := [(0, nk_r s0), (1, nk_i s1), (2, nk_i s2), (3, nk_i s3)]) (rest := []) (st' := []) (pc' := 132) mJ_325 (by decide +kernel) (by decide +kernel) rfl rfl t_s0 (Nat.le_of_ble_eq_true rfl) mJ_326 (Nat.le_of_ble_eq_true rfl) rfl (ja_X4_lookAtNullWay_ok zs _ _ _ _ _ _ t_s0 h3) rfl ?_
  refine nk_p (i := .goto 133) (len := 3) (pc' := 265) mJ_325 (by decide +kernel) (ns_goto (by decide +kernel)) rfl ?_
  exact ja_X4_look_b265_ok zs _ _ _ _ _ _ t_l0 hr
noncomputable def ja_X4_look_b110 (l0 : Nat) (l1 : Int) (l2 : Int) (l3 : Int) (s0 : Nat) (s1 : Int) (s2 : Int) (s3 : Int) (S : nk_S) : Option (Int × nk_S) :=
  nk_bd (ja_X4_lookAtNullWay s0 s1 s2 s3 S) fun r1 S2 =>
  if l2 = 27 then
    ja_X4_look_b129 l0 l1 l2 l3 l0 l1 (nk_w (l1 + 1)) 1 S2
  else
    ja_X4_look_b129 l0 l1 l2 l3 l0 l1 (nk_w (l1 + 1)) 0 S2
theorem ja_X4_look_b110_ok (zs : List Int32) : ∀ (l0 : Nat) (l1 : Int) (l2 : Int) (l3 : Int) (s0 : Nat) (s1 : Int) (s2 : Int) (s3 : Int) (S : nk_S) (R : Int × nk_S), nk_cl ja_Tt l0 = some 4 → nk_cl ja_Tt s0 = some 4 → ja_X4_look_b110 l0 l1 l2 l3 s0 s1 s2 s3 S = some R → nk_K ja_Tt mi_Γ (mi_ev zs) 0 325 110 [(0, nk_r l0), (1, nk_i l1), (2, nk_i l2), (3, nk_i l3)] [nk_i s3, nk_i s2, nk_i s1, nk_r s0] S R := by
  intro l0 l1 l2 l3 s0 s1 s2 s3 S R t_l0 t_s0 hr
  unfold ja_X4_look_b110 at hr
  obtain ⟨r1, S2, h3, hr⟩ := nk_bde hr
  refine nk_callV (ci := 4) (n := 3) (x := 201) (len := 3) (j' := 326) (q' := 0) (r := r1) (S' := S2) (L2 := [(0, nk_r s0), (1, nk_i s1), (2, nk_i s2), (3, nk_i s3)]) (rest := []) (st' := []) (pc' := 113) mJ_325 (by decide +kernel) (by decide +kernel) rfl rfl t_s0 (Nat.le_of_ble_eq_true rfl) mJ_326 (Nat.le_of_ble_eq_true rfl) rfl (ja_X4_lookAtNullWay_ok zs _ _ _ _ _ _ t_s0 h3) rfl ?_
  refine nk_p (i := .aload_n 0) (len := 1) (pc' := 114) mJ_325 (by decide +kernel) (ns_aload_n 0 rfl rfl) rfl ?_
  refine nk_p (i := .iload_n 1) (len := 1) (pc' := 115) mJ_325 (by decide +kernel) (ns_iload_n 1 rfl rfl) rfl ?_
  refine nk_p (i := .iload_n 1) (len := 1) (pc' := 116) mJ_325 (by decide +kernel) (ns_iload_n 1 rfl rfl) rfl ?_
  refine nk_p (i := .iconst 1) (len := 1) (pc' := 117) mJ_325 (by decide +kernel) (ns_iconst (c := 1) (by decide +kernel)) rfl ?_
  refine nk_p (i := .iadd) (len := 1) (pc' := 118) mJ_325 (by decide +kernel) ns_iadd rfl ?_
  refine nk_p (i := .iload_n 2) (len := 1) (pc' := 119) mJ_325 (by decide +kernel) (ns_iload_n 2 rfl rfl) rfl ?_
  refine nk_p (i := .bipush 27) (len := 2) (pc' := 121) mJ_325 (by decide +kernel) (ns_bipush (c := 27) (by decide +kernel)) rfl ?_
  refine nk_icmp (c := .ne) (off := 7) (len := 3) (t := 128) (pc' := 124) mJ_325 (by decide +kernel) (by decide +kernel) rfl (fun hc => ?_) (fun hc => ?_)
  · have hr := nk_ifn (c := l2 = 27) hc hr
    refine nk_p (i := .iconst 0) (len := 1) (pc' := 129) mJ_325 (by decide +kernel) (ns_iconst (c := 0) (by decide +kernel)) rfl ?_
    exact ja_X4_look_b129_ok zs _ _ _ _ _ _ _ _ _ _ t_l0 t_l0 hr
  · have hr := nk_ifp (c := l2 = 27) (Decidable.of_not_not hc) hr
    refine nk_p (i := .iconst 1) (len := 1) (pc' := 125) mJ_325 (by decide +kernel) (ns_iconst (c := 1) (by decide +kernel)) rfl ?_
    refine nk_p (i := .goto 4) (len := 3) (pc' := 129) mJ_325 (by decide +kernel) (ns_goto (by decide +kernel)) rfl ?_
    exact ja_X4_look_b129_ok zs _ _ _ _ _ _ _ _ _ _ t_l0 t_l0 hr
noncomputable def ja_X4_look_b88 (l0 : Nat) (l1 : Int) (l2 : Int) (l3 : Int) (S : nk_S) : Option (Int × nk_S) :=
  if 0 ≤ l1 ∧ l1 < 1024 then
  if l2 = 26 then
    ja_X4_look_b110 l0 l1 l2 l3 l0 l1 (S.1 (ja_c (S.2 l0 0) 5) l1.toNat) 1 S
  else
    ja_X4_look_b110 l0 l1 l2 l3 l0 l1 (S.1 (ja_c (S.2 l0 0) 5) l1.toNat) 0 S
  else none
theorem ja_X4_look_b88_ok (zs : List Int32) : ∀ (l0 : Nat) (l1 : Int) (l2 : Int) (l3 : Int) (S : nk_S) (R : Int × nk_S), nk_cl ja_Tt l0 = some 4 → ja_X4_look_b88 l0 l1 l2 l3 S = some R → nk_K ja_Tt mi_Γ (mi_ev zs) 0 325 88 [(0, nk_r l0), (1, nk_i l1), (2, nk_i l2), (3, nk_i l3)] [] S R := by
  intro l0 l1 l2 l3 S R t_l0 hr
  unfold ja_X4_look_b88 at hr
  refine nk_p (i := .aload_n 0) (len := 1) (pc' := 89) mJ_325 (by decide +kernel) (ns_aload_n 0 rfl rfl) rfl ?_
  refine nk_p (i := .iload_n 1) (len := 1) (pc' := 90) mJ_325 (by decide +kernel) (ns_iload_n 1 rfl rfl) rfl ?_
  refine nk_p (i := .aload_n 0) (len := 1) (pc' := 91) mJ_325 (by decide +kernel) (ns_aload_n 0 rfl rfl) rfl ?_
  refine nk_getM (cj := 3) (z := 0) (x := 42) (len := 3) (ci := 4) (k := 0) (pc' := 94) ja_okT mJ_325 (by decide +kernel) (by decide +kernel) (by decide +kernel) t_l0 rfl (fun t1 => ?_)
  refine nk_getC (f := (4, 1, 1024)) (x := 113) (len := 3) (ci := 3) (k := 5) (pc' := 97) ja_okT mJ_325 (by decide +kernel) (by decide +kernel) (by decide +kernel) (by decide) t1 rfl ?_
  have t2 : nk_ar ja_Tt (ja_c (S.2 l0 0) 5) = some (1, 1024) := nk_ta ja_okT t1 (by decide +kernel)
  refine nk_p (i := .iload_n 1) (len := 1) (pc' := 98) mJ_325 (by decide +kernel) (ns_iload_n 1 rfl rfl) rfl ?_
  obtain ⟨h3, hr⟩ := nk_cke hr
  refine nk_iald (len := 1) (N := 1024) (pc' := 99) mJ_325 (by decide +kernel) t2 h3.1 h3.2 rfl rfl ?_
  refine nk_p (i := .iload_n 2) (len := 1) (pc' := 100) mJ_325 (by decide +kernel) (ns_iload_n 2 rfl rfl) rfl ?_
  refine nk_p (i := .bipush 26) (len := 2) (pc' := 102) mJ_325 (by decide +kernel) (ns_bipush (c := 26) (by decide +kernel)) rfl ?_
  refine nk_icmp (c := .ne) (off := 7) (len := 3) (t := 109) (pc' := 105) mJ_325 (by decide +kernel) (by decide +kernel) rfl (fun hc => ?_) (fun hc => ?_)
  · have hr := nk_ifn (c := l2 = 26) hc hr
    refine nk_p (i := .iconst 0) (len := 1) (pc' := 110) mJ_325 (by decide +kernel) (ns_iconst (c := 0) (by decide +kernel)) rfl ?_
    exact ja_X4_look_b110_ok zs _ _ _ _ _ _ _ _ _ _ t_l0 t_l0 hr
  · have hr := nk_ifp (c := l2 = 26) (Decidable.of_not_not hc) hr
    refine nk_p (i := .iconst 1) (len := 1) (pc' := 106) mJ_325 (by decide +kernel) (ns_iconst (c := 1) (by decide +kernel)) rfl ?_
    refine nk_p (i := .goto 4) (len := 3) (pc' := 110) mJ_325 (by decide +kernel) (ns_goto (by decide +kernel)) rfl ?_
    exact ja_X4_look_b110_ok zs _ _ _ _ _ _ _ _ _ _ t_l0 t_l0 hr
noncomputable def ja_X4_look_b188 (l0 : Nat) (l1 : Int) (l2 : Int) (l3 : Int) (s0 : Nat) (s1 : Int) (s2 : Int) (s3 : Int) (S : nk_S) : Option (Int × nk_S) :=
  nk_bd (ja_X4_lookAtSameWay s0 s1 s2 s3 S) fun r1 S2 =>
  ja_X4_look_b265 l0 l1 l2 l3 S2
theorem ja_X4_look_b188_ok (zs : List Int32) : ∀ (l0 : Nat) (l1 : Int) (l2 : Int) (l3 : Int) (s0 : Nat) (s1 : Int) (s2 : Int) (s3 : Int) (S : nk_S) (R : Int × nk_S), nk_cl ja_Tt l0 = some 4 → nk_cl ja_Tt s0 = some 4 → ja_X4_look_b188 l0 l1 l2 l3 s0 s1 s2 s3 S = some R → nk_K ja_Tt mi_Γ (mi_ev zs) 0 325 188 [(0, nk_r l0), (1, nk_i l1), (2, nk_i l2), (3, nk_i l3)] [nk_i s3, nk_i s2, nk_i s1, nk_r s0] S R := by
  intro l0 l1 l2 l3 s0 s1 s2 s3 S R t_l0 t_s0 hr
  unfold ja_X4_look_b188 at hr
  obtain ⟨r1, S2, h3, hr⟩ := nk_bde hr
  refine nk_callV (ci := 4) (n := 3) (x := 205) (len := 3) (j' := 327) (q' := 0) (r := r1) (S' := S2) (L2 := [(0, nk_r s0), (1, nk_i s1), (2, nk_i s2), (3, nk_i s3)]) (rest := []) (st' := []) (pc' := 191) mJ_325 (by decide +kernel) (by decide +kernel) rfl rfl t_s0 (Nat.le_of_ble_eq_true rfl) mJ_327 (Nat.le_of_ble_eq_true rfl) rfl (ja_X4_lookAtSameWay_ok zs _ _ _ _ _ _ t_s0 h3) rfl ?_
  refine nk_p (i := .goto 74) (len := 3) (pc' := 265) mJ_325 (by decide +kernel) (ns_goto (by decide +kernel)) rfl ?_
  exact ja_X4_look_b265_ok zs _ _ _ _ _ _ t_l0 hr
noncomputable def ja_X4_look_b169 (l0 : Nat) (l1 : Int) (l2 : Int) (l3 : Int) (s0 : Nat) (s1 : Int) (s2 : Int) (s3 : Int) (S : nk_S) : Option (Int × nk_S) :=
  nk_bd (ja_X4_lookAtSameWay s0 s1 s2 s3 S) fun r1 S2 =>
  if l2 = 29 then
    ja_X4_look_b188 l0 l1 l2 l3 l0 l1 (nk_w (l1 + 1)) 1 S2
  else
    ja_X4_look_b188 l0 l1 l2 l3 l0 l1 (nk_w (l1 + 1)) 0 S2
theorem ja_X4_look_b169_ok (zs : List Int32) : ∀ (l0 : Nat) (l1 : Int) (l2 : Int) (l3 : Int) (s0 : Nat) (s1 : Int) (s2 : Int) (s3 : Int) (S : nk_S) (R : Int × nk_S), nk_cl ja_Tt l0 = some 4 → nk_cl ja_Tt s0 = some 4 → ja_X4_look_b169 l0 l1 l2 l3 s0 s1 s2 s3 S = some R → nk_K ja_Tt mi_Γ (mi_ev zs) 0 325 169 [(0, nk_r l0), (1, nk_i l1), (2, nk_i l2), (3, nk_i l3)] [nk_i s3, nk_i s2, nk_i s1, nk_r s0] S R := by
  intro l0 l1 l2 l3 s0 s1 s2 s3 S R t_l0 t_s0 hr
  unfold ja_X4_look_b169 at hr
  obtain ⟨r1, S2, h3, hr⟩ := nk_bde hr
  refine nk_callV (ci := 4) (n := 3) (x := 205) (len := 3) (j' := 327) (q' := 0) (r := r1) (S' := S2) (L2 := [(0, nk_r s0), (1, nk_i s1), (2, nk_i s2), (3, nk_i s3)]) (rest := []) (st' := []) (pc' := 172) mJ_325 (by decide +kernel) (by decide +kernel) rfl rfl t_s0 (Nat.le_of_ble_eq_true rfl) mJ_327 (Nat.le_of_ble_eq_true rfl) rfl (ja_X4_lookAtSameWay_ok zs _ _ _ _ _ _ t_s0 h3) rfl ?_
  refine nk_p (i := .aload_n 0) (len := 1) (pc' := 173) mJ_325 (by decide +kernel) (ns_aload_n 0 rfl rfl) rfl ?_
  refine nk_p (i := .iload_n 1) (len := 1) (pc' := 174) mJ_325 (by decide +kernel) (ns_iload_n 1 rfl rfl) rfl ?_
  refine nk_p (i := .iload_n 1) (len := 1) (pc' := 175) mJ_325 (by decide +kernel) (ns_iload_n 1 rfl rfl) rfl ?_
  refine nk_p (i := .iconst 1) (len := 1) (pc' := 176) mJ_325 (by decide +kernel) (ns_iconst (c := 1) (by decide +kernel)) rfl ?_
  refine nk_p (i := .iadd) (len := 1) (pc' := 177) mJ_325 (by decide +kernel) ns_iadd rfl ?_
  refine nk_p (i := .iload_n 2) (len := 1) (pc' := 178) mJ_325 (by decide +kernel) (ns_iload_n 2 rfl rfl) rfl ?_
  refine nk_p (i := .bipush 29) (len := 2) (pc' := 180) mJ_325 (by decide +kernel) (ns_bipush (c := 29) (by decide +kernel)) rfl ?_
  refine nk_icmp (c := .ne) (off := 7) (len := 3) (t := 187) (pc' := 183) mJ_325 (by decide +kernel) (by decide +kernel) rfl (fun hc => ?_) (fun hc => ?_)
  · have hr := nk_ifn (c := l2 = 29) hc hr
    refine nk_p (i := .iconst 0) (len := 1) (pc' := 188) mJ_325 (by decide +kernel) (ns_iconst (c := 0) (by decide +kernel)) rfl ?_
    exact ja_X4_look_b188_ok zs _ _ _ _ _ _ _ _ _ _ t_l0 t_l0 hr
  · have hr := nk_ifp (c := l2 = 29) (Decidable.of_not_not hc) hr
    refine nk_p (i := .iconst 1) (len := 1) (pc' := 184) mJ_325 (by decide +kernel) (ns_iconst (c := 1) (by decide +kernel)) rfl ?_
    refine nk_p (i := .goto 4) (len := 3) (pc' := 188) mJ_325 (by decide +kernel) (ns_goto (by decide +kernel)) rfl ?_
    exact ja_X4_look_b188_ok zs _ _ _ _ _ _ _ _ _ _ t_l0 t_l0 hr
noncomputable def ja_X4_look_b147 (l0 : Nat) (l1 : Int) (l2 : Int) (l3 : Int) (S : nk_S) : Option (Int × nk_S) :=
  if 0 ≤ l1 ∧ l1 < 1024 then
  if l2 = 28 then
    ja_X4_look_b169 l0 l1 l2 l3 l0 l1 (S.1 (ja_c (S.2 l0 0) 5) l1.toNat) 1 S
  else
    ja_X4_look_b169 l0 l1 l2 l3 l0 l1 (S.1 (ja_c (S.2 l0 0) 5) l1.toNat) 0 S
  else none
theorem ja_X4_look_b147_ok (zs : List Int32) : ∀ (l0 : Nat) (l1 : Int) (l2 : Int) (l3 : Int) (S : nk_S) (R : Int × nk_S), nk_cl ja_Tt l0 = some 4 → ja_X4_look_b147 l0 l1 l2 l3 S = some R → nk_K ja_Tt mi_Γ (mi_ev zs) 0 325 147 [(0, nk_r l0), (1, nk_i l1), (2, nk_i l2), (3, nk_i l3)] [] S R := by
  intro l0 l1 l2 l3 S R t_l0 hr
  unfold ja_X4_look_b147 at hr
  refine nk_p (i := .aload_n 0) (len := 1) (pc' := 148) mJ_325 (by decide +kernel) (ns_aload_n 0 rfl rfl) rfl ?_
  refine nk_p (i := .iload_n 1) (len := 1) (pc' := 149) mJ_325 (by decide +kernel) (ns_iload_n 1 rfl rfl) rfl ?_
  refine nk_p (i := .aload_n 0) (len := 1) (pc' := 150) mJ_325 (by decide +kernel) (ns_aload_n 0 rfl rfl) rfl ?_
  refine nk_getM (cj := 3) (z := 0) (x := 42) (len := 3) (ci := 4) (k := 0) (pc' := 153) ja_okT mJ_325 (by decide +kernel) (by decide +kernel) (by decide +kernel) t_l0 rfl (fun t1 => ?_)
  refine nk_getC (f := (4, 1, 1024)) (x := 113) (len := 3) (ci := 3) (k := 5) (pc' := 156) ja_okT mJ_325 (by decide +kernel) (by decide +kernel) (by decide +kernel) (by decide) t1 rfl ?_
  have t2 : nk_ar ja_Tt (ja_c (S.2 l0 0) 5) = some (1, 1024) := nk_ta ja_okT t1 (by decide +kernel)
  refine nk_p (i := .iload_n 1) (len := 1) (pc' := 157) mJ_325 (by decide +kernel) (ns_iload_n 1 rfl rfl) rfl ?_
  obtain ⟨h3, hr⟩ := nk_cke hr
  refine nk_iald (len := 1) (N := 1024) (pc' := 158) mJ_325 (by decide +kernel) t2 h3.1 h3.2 rfl rfl ?_
  refine nk_p (i := .iload_n 2) (len := 1) (pc' := 159) mJ_325 (by decide +kernel) (ns_iload_n 2 rfl rfl) rfl ?_
  refine nk_p (i := .bipush 28) (len := 2) (pc' := 161) mJ_325 (by decide +kernel) (ns_bipush (c := 28) (by decide +kernel)) rfl ?_
  refine nk_icmp (c := .ne) (off := 7) (len := 3) (t := 168) (pc' := 164) mJ_325 (by decide +kernel) (by decide +kernel) rfl (fun hc => ?_) (fun hc => ?_)
  · have hr := nk_ifn (c := l2 = 28) hc hr
    refine nk_p (i := .iconst 0) (len := 1) (pc' := 169) mJ_325 (by decide +kernel) (ns_iconst (c := 0) (by decide +kernel)) rfl ?_
    exact ja_X4_look_b169_ok zs _ _ _ _ _ _ _ _ _ _ t_l0 t_l0 hr
  · have hr := nk_ifp (c := l2 = 28) (Decidable.of_not_not hc) hr
    refine nk_p (i := .iconst 1) (len := 1) (pc' := 165) mJ_325 (by decide +kernel) (ns_iconst (c := 1) (by decide +kernel)) rfl ?_
    refine nk_p (i := .goto 4) (len := 3) (pc' := 169) mJ_325 (by decide +kernel) (ns_goto (by decide +kernel)) rfl ?_
    exact ja_X4_look_b169_ok zs _ _ _ _ _ _ _ _ _ _ t_l0 t_l0 hr
noncomputable def ja_X4_look_b206 (l0 : Nat) (l1 : Int) (l2 : Int) (S : nk_S) : Option (Int × nk_S) :=
  nk_bd (ja_X4_calls l0 l1 l2 S) fun r1 S2 =>
  ja_X4_look_b265 l0 l1 l2 r1 S2
theorem ja_X4_look_b206_ok (zs : List Int32) : ∀ (l0 : Nat) (l1 : Int) (l2 : Int) (S : nk_S) (R : Int × nk_S), nk_cl ja_Tt l0 = some 4 → ja_X4_look_b206 l0 l1 l2 S = some R → nk_K ja_Tt mi_Γ (mi_ev zs) 0 325 206 [(0, nk_r l0), (1, nk_i l1), (2, nk_i l2)] [] S R := by
  intro l0 l1 l2 S R t_l0 hr
  unfold ja_X4_look_b206 at hr
  refine nk_p (i := .aload_n 0) (len := 1) (pc' := 207) mJ_325 (by decide +kernel) (ns_aload_n 0 rfl rfl) rfl ?_
  refine nk_p (i := .iload_n 1) (len := 1) (pc' := 208) mJ_325 (by decide +kernel) (ns_iload_n 1 rfl rfl) rfl ?_
  refine nk_p (i := .iload_n 2) (len := 1) (pc' := 209) mJ_325 (by decide +kernel) (ns_iload_n 2 rfl rfl) rfl ?_
  obtain ⟨r1, S2, h3, hr⟩ := nk_bde hr
  refine nk_callV (ci := 4) (n := 2) (x := 208) (len := 3) (j' := 313) (q' := 1) (r := r1) (S' := S2) (L2 := [(0, nk_r l0), (1, nk_i l1), (2, nk_i l2)]) (rest := []) (st' := [nk_i r1]) (pc' := 212) mJ_325 (by decide +kernel) (by decide +kernel) rfl rfl t_l0 (Nat.le_of_ble_eq_true rfl) mJ_313 (Nat.le_of_ble_eq_true rfl) rfl (ja_X4_calls_ok zs _ _ _ _ _ t_l0 h3) rfl ?_
  refine nk_p (i := .istore_n 3) (len := 1) (pc' := 213) mJ_325 (by decide +kernel) (ns_istore_n (L' := [(3, nk_i r1), (0, nk_r l0), (1, nk_i l1), (2, nk_i l2)]) rfl rfl rfl (by decide +kernel)) rfl ?_
  refine nk_p (i := .goto 52) (len := 3) (pc' := 265) mJ_325 (by decide +kernel) (ns_goto (by decide +kernel)) rfl ?_
  refine nk_sub [1, 2, 3, 0] (L' := [(0, nk_r l0), (1, nk_i l1), (2, nk_i l2), (3, nk_i r1)]) rfl ?_
  exact ja_X4_look_b265_ok zs _ _ _ _ _ _ t_l0 hr
noncomputable def ja_X4_look_b249 (l0 : Nat) (l1 : Int) (l2 : Int) (S : nk_S) : Option (Int × nk_S) :=
  nk_bd (ja_X4_usesElement l0 l2 S) fun r1 S2 =>
  ja_X4_look_b265 l0 l1 l2 r1 S2
theorem ja_X4_look_b249_ok (zs : List Int32) : ∀ (l0 : Nat) (l1 : Int) (l2 : Int) (S : nk_S) (R : Int × nk_S), nk_cl ja_Tt l0 = some 4 → ja_X4_look_b249 l0 l1 l2 S = some R → nk_K ja_Tt mi_Γ (mi_ev zs) 0 325 249 [(0, nk_r l0), (1, nk_i l1), (2, nk_i l2)] [] S R := by
  intro l0 l1 l2 S R t_l0 hr
  unfold ja_X4_look_b249 at hr
  refine nk_p (i := .aload_n 0) (len := 1) (pc' := 250) mJ_325 (by decide +kernel) (ns_aload_n 0 rfl rfl) rfl ?_
  refine nk_p (i := .iload_n 2) (len := 1) (pc' := 251) mJ_325 (by decide +kernel) (ns_iload_n 2 rfl rfl) rfl ?_
  obtain ⟨r1, S2, h3, hr⟩ := nk_bde hr
  refine nk_callV (ci := 4) (n := 1) (x := 215) (len := 3) (j' := 346) (q' := 1) (r := r1) (S' := S2) (L2 := [(0, nk_r l0), (1, nk_i l2)]) (rest := []) (st' := [nk_i r1]) (pc' := 254) mJ_325 (by decide +kernel) (by decide +kernel) rfl rfl t_l0 (Nat.le_of_ble_eq_true rfl) mJ_346 (Nat.le_of_ble_eq_true rfl) rfl (ja_X4_usesElement_ok zs _ _ _ _ t_l0 h3) rfl ?_
  refine nk_p (i := .istore_n 3) (len := 1) (pc' := 255) mJ_325 (by decide +kernel) (ns_istore_n (L' := [(3, nk_i r1), (0, nk_r l0), (1, nk_i l1), (2, nk_i l2)]) rfl rfl rfl (by decide +kernel)) rfl ?_
  refine nk_p (i := .goto 10) (len := 3) (pc' := 265) mJ_325 (by decide +kernel) (ns_goto (by decide +kernel)) rfl ?_
  refine nk_sub [1, 2, 3, 0] (L' := [(0, nk_r l0), (1, nk_i l1), (2, nk_i l2), (3, nk_i r1)]) rfl ?_
  exact ja_X4_look_b265_ok zs _ _ _ _ _ _ t_l0 hr
noncomputable def ja_X4_look_b237 (l0 : Nat) (l1 : Int) (l2 : Int) (S : nk_S) : Option (Int × nk_S) :=
  if l2 = 33 then
    ja_X4_look_b249 l0 l1 l2 S
  else
    if l2 = 34 then
      ja_X4_look_b249 l0 l1 l2 S
    else
      nk_bd (ja_X4_goesOn l0 l1 l2 S) fun r1 S2 =>
      ja_X4_look_b265 l0 l1 l2 r1 S2
theorem ja_X4_look_b237_ok (zs : List Int32) : ∀ (l0 : Nat) (l1 : Int) (l2 : Int) (S : nk_S) (R : Int × nk_S), nk_cl ja_Tt l0 = some 4 → ja_X4_look_b237 l0 l1 l2 S = some R → nk_K ja_Tt mi_Γ (mi_ev zs) 0 325 237 [(0, nk_r l0), (1, nk_i l1), (2, nk_i l2)] [] S R := by
  intro l0 l1 l2 S R t_l0 hr
  unfold ja_X4_look_b237 at hr
  refine nk_p (i := .iload_n 2) (len := 1) (pc' := 238) mJ_325 (by decide +kernel) (ns_iload_n 2 rfl rfl) rfl ?_
  refine nk_p (i := .bipush 33) (len := 2) (pc' := 240) mJ_325 (by decide +kernel) (ns_bipush (c := 33) (by decide +kernel)) rfl ?_
  refine nk_icmp (c := .eq) (off := 9) (len := 3) (t := 249) (pc' := 243) mJ_325 (by decide +kernel) (by decide +kernel) rfl (fun hc => ?_) (fun hc => ?_)
  · have hr := nk_ifp (c := l2 = 33) hc hr
    exact ja_X4_look_b249_ok zs _ _ _ _ _ t_l0 hr
  · have hr := nk_ifn (c := l2 = 33) hc hr
    refine nk_p (i := .iload_n 2) (len := 1) (pc' := 244) mJ_325 (by decide +kernel) (ns_iload_n 2 rfl rfl) rfl ?_
    refine nk_p (i := .bipush 34) (len := 2) (pc' := 246) mJ_325 (by decide +kernel) (ns_bipush (c := 34) (by decide +kernel)) rfl ?_
    refine nk_icmp (c := .ne) (off := 12) (len := 3) (t := 258) (pc' := 249) mJ_325 (by decide +kernel) (by decide +kernel) rfl (fun hc => ?_) (fun hc => ?_)
    · have hr := nk_ifn (c := l2 = 34) hc hr
      refine nk_p (i := .aload_n 0) (len := 1) (pc' := 259) mJ_325 (by decide +kernel) (ns_aload_n 0 rfl rfl) rfl ?_
      refine nk_p (i := .iload_n 1) (len := 1) (pc' := 260) mJ_325 (by decide +kernel) (ns_iload_n 1 rfl rfl) rfl ?_
      refine nk_p (i := .iload_n 2) (len := 1) (pc' := 261) mJ_325 (by decide +kernel) (ns_iload_n 2 rfl rfl) rfl ?_
      obtain ⟨r1, S2, h3, hr⟩ := nk_bde hr
      refine nk_callV (ci := 4) (n := 2) (x := 218) (len := 3) (j' := 321) (q' := 1) (r := r1) (S' := S2) (L2 := [(0, nk_r l0), (1, nk_i l1), (2, nk_i l2)]) (rest := []) (st' := [nk_i r1]) (pc' := 264) mJ_325 (by decide +kernel) (by decide +kernel) rfl rfl t_l0 (Nat.le_of_ble_eq_true rfl) mJ_321 (Nat.le_of_ble_eq_true rfl) rfl (ja_X4_goesOn_ok zs _ _ _ _ _ t_l0 h3) rfl ?_
      refine nk_p (i := .istore_n 3) (len := 1) (pc' := 265) mJ_325 (by decide +kernel) (ns_istore_n (L' := [(3, nk_i r1), (0, nk_r l0), (1, nk_i l1), (2, nk_i l2)]) rfl rfl rfl (by decide +kernel)) rfl ?_
      refine nk_sub [1, 2, 3, 0] (L' := [(0, nk_r l0), (1, nk_i l1), (2, nk_i l2), (3, nk_i r1)]) rfl ?_
      exact ja_X4_look_b265_ok zs _ _ _ _ _ _ t_l0 hr
    · have hr := nk_ifp (c := l2 = 34) (Decidable.of_not_not hc) hr
      exact ja_X4_look_b249_ok zs _ _ _ _ _ t_l0 hr
noncomputable def ja_X4_look_b76 (l0 : Nat) (l1 : Int) (l2 : Int) (l3 : Int) (S : nk_S) : Option (Int × nk_S) :=
  if l2 = 26 then
    ja_X4_look_b88 l0 l1 l2 l3 S
  else
    if l2 = 27 then
      ja_X4_look_b88 l0 l1 l2 l3 S
    else
      if l2 = 28 then
        ja_X4_look_b147 l0 l1 l2 l3 S
      else
        if l2 = 29 then
          ja_X4_look_b147 l0 l1 l2 l3 S
        else
          if l2 = 39 then
            ja_X4_look_b206 l0 l1 l2 S
          else
            if l2 = 40 then
              ja_X4_look_b206 l0 l1 l2 S
            else
              if l2 < 8 then
                ja_X4_look_b237 l0 l1 l2 S
              else
                if 18 < l2 then
                  ja_X4_look_b237 l0 l1 l2 S
                else
                  nk_bd (ja_X4_calculates l0 l2 S) fun r1 S2 =>
                  ja_X4_look_b265 l0 l1 l2 r1 S2
theorem ja_X4_look_b76_ok (zs : List Int32) : ∀ (l0 : Nat) (l1 : Int) (l2 : Int) (l3 : Int) (S : nk_S) (R : Int × nk_S), nk_cl ja_Tt l0 = some 4 → ja_X4_look_b76 l0 l1 l2 l3 S = some R → nk_K ja_Tt mi_Γ (mi_ev zs) 0 325 76 [(0, nk_r l0), (1, nk_i l1), (2, nk_i l2), (3, nk_i l3)] [] S R := by
  intro l0 l1 l2 l3 S R t_l0 hr
  unfold ja_X4_look_b76 at hr
  refine nk_p (i := .iload_n 2) (len := 1) (pc' := 77) mJ_325 (by decide +kernel) (ns_iload_n 2 rfl rfl) rfl ?_
  refine nk_p (i := .bipush 26) (len := 2) (pc' := 79) mJ_325 (by decide +kernel) (ns_bipush (c := 26) (by decide +kernel)) rfl ?_
  refine nk_icmp (c := .eq) (off := 9) (len := 3) (t := 88) (pc' := 82) mJ_325 (by decide +kernel) (by decide +kernel) rfl (fun hc => ?_) (fun hc => ?_)
  · have hr := nk_ifp (c := l2 = 26) hc hr
    exact ja_X4_look_b88_ok zs _ _ _ _ _ _ t_l0 hr
  · have hr := nk_ifn (c := l2 = 26) hc hr
    refine nk_p (i := .iload_n 2) (len := 1) (pc' := 83) mJ_325 (by decide +kernel) (ns_iload_n 2 rfl rfl) rfl ?_
    refine nk_p (i := .bipush 27) (len := 2) (pc' := 85) mJ_325 (by decide +kernel) (ns_bipush (c := 27) (by decide +kernel)) rfl ?_
    refine nk_icmp (c := .ne) (off := 50) (len := 3) (t := 135) (pc' := 88) mJ_325 (by decide +kernel) (by decide +kernel) rfl (fun hc => ?_) (fun hc => ?_)
    · have hr := nk_ifn (c := l2 = 27) hc hr
      refine nk_p (i := .iload_n 2) (len := 1) (pc' := 136) mJ_325 (by decide +kernel) (ns_iload_n 2 rfl rfl) rfl ?_
      refine nk_p (i := .bipush 28) (len := 2) (pc' := 138) mJ_325 (by decide +kernel) (ns_bipush (c := 28) (by decide +kernel)) rfl ?_
      refine nk_icmp (c := .eq) (off := 9) (len := 3) (t := 147) (pc' := 141) mJ_325 (by decide +kernel) (by decide +kernel) rfl (fun hc => ?_) (fun hc => ?_)
      · have hr := nk_ifp (c := l2 = 28) hc hr
        exact ja_X4_look_b147_ok zs _ _ _ _ _ _ t_l0 hr
      · have hr := nk_ifn (c := l2 = 28) hc hr
        refine nk_p (i := .iload_n 2) (len := 1) (pc' := 142) mJ_325 (by decide +kernel) (ns_iload_n 2 rfl rfl) rfl ?_
        refine nk_p (i := .bipush 29) (len := 2) (pc' := 144) mJ_325 (by decide +kernel) (ns_bipush (c := 29) (by decide +kernel)) rfl ?_
        refine nk_icmp (c := .ne) (off := 50) (len := 3) (t := 194) (pc' := 147) mJ_325 (by decide +kernel) (by decide +kernel) rfl (fun hc => ?_) (fun hc => ?_)
        · have hr := nk_ifn (c := l2 = 29) hc hr
          refine nk_p (i := .iload_n 2) (len := 1) (pc' := 195) mJ_325 (by decide +kernel) (ns_iload_n 2 rfl rfl) rfl ?_
          refine nk_p (i := .bipush 39) (len := 2) (pc' := 197) mJ_325 (by decide +kernel) (ns_bipush (c := 39) (by decide +kernel)) rfl ?_
          refine nk_icmp (c := .eq) (off := 9) (len := 3) (t := 206) (pc' := 200) mJ_325 (by decide +kernel) (by decide +kernel) rfl (fun hc => ?_) (fun hc => ?_)
          · have hr := nk_ifp (c := l2 = 39) hc hr
            refine nk_sub [0, 1, 2] (L' := [(0, nk_r l0), (1, nk_i l1), (2, nk_i l2)]) rfl ?_
            exact ja_X4_look_b206_ok zs _ _ _ _ _ t_l0 hr
          · have hr := nk_ifn (c := l2 = 39) hc hr
            refine nk_p (i := .iload_n 2) (len := 1) (pc' := 201) mJ_325 (by decide +kernel) (ns_iload_n 2 rfl rfl) rfl ?_
            refine nk_p (i := .bipush 40) (len := 2) (pc' := 203) mJ_325 (by decide +kernel) (ns_bipush (c := 40) (by decide +kernel)) rfl ?_
            refine nk_icmp (c := .ne) (off := 13) (len := 3) (t := 216) (pc' := 206) mJ_325 (by decide +kernel) (by decide +kernel) rfl (fun hc => ?_) (fun hc => ?_)
            · have hr := nk_ifn (c := l2 = 40) hc hr
              refine nk_p (i := .iload_n 2) (len := 1) (pc' := 217) mJ_325 (by decide +kernel) (ns_iload_n 2 rfl rfl) rfl ?_
              refine nk_p (i := .bipush 8) (len := 2) (pc' := 219) mJ_325 (by decide +kernel) (ns_bipush (c := 8) (by decide +kernel)) rfl ?_
              refine nk_icmp (c := .lt) (off := 18) (len := 3) (t := 237) (pc' := 222) mJ_325 (by decide +kernel) (by decide +kernel) rfl (fun hc => ?_) (fun hc => ?_)
              · have hr := nk_ifp (c := l2 < 8) hc hr
                refine nk_sub [0, 1, 2] (L' := [(0, nk_r l0), (1, nk_i l1), (2, nk_i l2)]) rfl ?_
                exact ja_X4_look_b237_ok zs _ _ _ _ _ t_l0 hr
              · have hr := nk_ifn (c := l2 < 8) hc hr
                refine nk_p (i := .iload_n 2) (len := 1) (pc' := 223) mJ_325 (by decide +kernel) (ns_iload_n 2 rfl rfl) rfl ?_
                refine nk_p (i := .bipush 18) (len := 2) (pc' := 225) mJ_325 (by decide +kernel) (ns_bipush (c := 18) (by decide +kernel)) rfl ?_
                refine nk_icmp (c := .gt) (off := 12) (len := 3) (t := 237) (pc' := 228) mJ_325 (by decide +kernel) (by decide +kernel) rfl (fun hc => ?_) (fun hc => ?_)
                · have hr := nk_ifp (c := 18 < l2) hc hr
                  refine nk_sub [0, 1, 2] (L' := [(0, nk_r l0), (1, nk_i l1), (2, nk_i l2)]) rfl ?_
                  exact ja_X4_look_b237_ok zs _ _ _ _ _ t_l0 hr
                · have hr := nk_ifn (c := 18 < l2) hc hr
                  refine nk_p (i := .aload_n 0) (len := 1) (pc' := 229) mJ_325 (by decide +kernel) (ns_aload_n 0 rfl rfl) rfl ?_
                  refine nk_p (i := .iload_n 2) (len := 1) (pc' := 230) mJ_325 (by decide +kernel) (ns_iload_n 2 rfl rfl) rfl ?_
                  obtain ⟨r1, S2, h3, hr⟩ := nk_bde hr
                  refine nk_callV (ci := 4) (n := 1) (x := 212) (len := 3) (j' := 312) (q' := 1) (r := r1) (S' := S2) (L2 := [(0, nk_r l0), (1, nk_i l2)]) (rest := []) (st' := [nk_i r1]) (pc' := 233) mJ_325 (by decide +kernel) (by decide +kernel) rfl rfl t_l0 (Nat.le_of_ble_eq_true rfl) mJ_312 (Nat.le_of_ble_eq_true rfl) rfl (ja_X4_calculates_ok zs _ _ _ _ t_l0 h3) rfl ?_
                  refine nk_p (i := .istore_n 3) (len := 1) (pc' := 234) mJ_325 (by decide +kernel) (ns_istore_n (L' := [(3, nk_i r1), (0, nk_r l0), (1, nk_i l1), (2, nk_i l2)]) rfl rfl rfl (by decide +kernel)) rfl ?_
                  refine nk_p (i := .goto 31) (len := 3) (pc' := 265) mJ_325 (by decide +kernel) (ns_goto (by decide +kernel)) rfl ?_
                  refine nk_sub [1, 2, 3, 0] (L' := [(0, nk_r l0), (1, nk_i l1), (2, nk_i l2), (3, nk_i r1)]) rfl ?_
                  exact ja_X4_look_b265_ok zs _ _ _ _ _ _ t_l0 hr
            · have hr := nk_ifp (c := l2 = 40) (Decidable.of_not_not hc) hr
              refine nk_sub [0, 1, 2] (L' := [(0, nk_r l0), (1, nk_i l1), (2, nk_i l2)]) rfl ?_
              exact ja_X4_look_b206_ok zs _ _ _ _ _ t_l0 hr
        · have hr := nk_ifp (c := l2 = 29) (Decidable.of_not_not hc) hr
          exact ja_X4_look_b147_ok zs _ _ _ _ _ _ t_l0 hr
    · have hr := nk_ifp (c := l2 = 27) (Decidable.of_not_not hc) hr
      exact ja_X4_look_b88_ok zs _ _ _ _ _ _ t_l0 hr
noncomputable def ja_X4_look (l0 : Nat) (l1 : Int) (S : nk_S) : Option (Int × nk_S) :=
  if 0 ≤ l1 ∧ l1 < 1024 then
  nk_lt (S.1 (ja_c (S.2 l0 0) 4) l1.toNat) fun v4 =>
  nk_bd (ja_X4_bring l0 l1 S) fun r6 S7 =>
  nk_lt (nk_wi S7 l0 9 256) fun S9 =>
  nk_lt (nk_wi S9 l0 10 0) fun S11 =>
  nk_lt (nk_wi S11 l0 11 0) fun S13 =>
  if v4 < 20 then
    ja_X4_look_b76 l0 l1 v4 0 S13
  else
    if 25 < v4 then
      ja_X4_look_b76 l0 l1 v4 0 S13
    else
      nk_bd (ja_X4_lookAtWay l0 l1 (S13.1 (ja_c (S13.2 l0 0) 5) l1.toNat) v4 S13) fun r17 S18 =>
      nk_bd (ja_X4_contrary v4 S18) fun r20 S21 =>
      nk_bd (ja_X4_lookAtWay l0 l1 (nk_w (l1 + 1)) r20 S21) fun r23 S24 =>
      ja_X4_look_b265 l0 l1 v4 0 S24
  else none
theorem ja_X4_look_ok (zs : List Int32) : ∀ (l0 : Nat) (l1 : Int) (S : nk_S) (R : Int × nk_S), nk_cl ja_Tt l0 = some 4 → ja_X4_look l0 l1 S = some R → nk_K ja_Tt mi_Γ (mi_ev zs) 0 325 0 [(0, nk_r l0), (1, nk_i l1)] [] S R := by
  intro l0 l1 S R t_l0 hr
  unfold ja_X4_look at hr
  refine nk_p (i := .aload_n 0) (len := 1) (pc' := 1) mJ_325 (by decide +kernel) (ns_aload_n 0 rfl rfl) rfl ?_
  refine nk_getM (cj := 3) (z := 0) (x := 42) (len := 3) (ci := 4) (k := 0) (pc' := 4) ja_okT mJ_325 (by decide +kernel) (by decide +kernel) (by decide +kernel) t_l0 rfl (fun t1 => ?_)
  refine nk_getC (f := (4, 1, 1024)) (x := 110) (len := 3) (ci := 3) (k := 4) (pc' := 7) ja_okT mJ_325 (by decide +kernel) (by decide +kernel) (by decide +kernel) (by decide) t1 rfl ?_
  have t2 : nk_ar ja_Tt (ja_c (S.2 l0 0) 4) = some (1, 1024) := nk_ta ja_okT t1 (by decide +kernel)
  refine nk_p (i := .iload_n 1) (len := 1) (pc' := 8) mJ_325 (by decide +kernel) (ns_iload_n 1 rfl rfl) rfl ?_
  obtain ⟨h3, hr⟩ := nk_cke hr
  refine nk_iald (len := 1) (N := 1024) (pc' := 9) mJ_325 (by decide +kernel) t2 h3.1 h3.2 rfl rfl ?_
  obtain ⟨v4, h5, hr⟩ := nk_lte hr
  refine nk_p (i := .istore_n 2) (len := 1) (pc' := 10) mJ_325 (by decide +kernel) (ns_istore_n (L' := [(2, nk_i v4), (0, nk_r l0), (1, nk_i l1)]) h5 rfl rfl (by decide +kernel)) rfl ?_
  refine nk_p (i := .iconst 0) (len := 1) (pc' := 11) mJ_325 (by decide +kernel) (ns_iconst (c := 0) (by decide +kernel)) rfl ?_
  refine nk_p (i := .istore_n 3) (len := 1) (pc' := 12) mJ_325 (by decide +kernel) (ns_istore_n (L' := [(3, nk_i 0), (2, nk_i v4), (0, nk_r l0), (1, nk_i l1)]) rfl rfl rfl (by decide +kernel)) rfl ?_
  refine nk_p (i := .aload_n 0) (len := 1) (pc' := 13) mJ_325 (by decide +kernel) (ns_aload_n 2 rfl rfl) rfl ?_
  refine nk_p (i := .iload_n 1) (len := 1) (pc' := 14) mJ_325 (by decide +kernel) (ns_iload_n 3 rfl rfl) rfl ?_
  obtain ⟨r6, S7, h8, hr⟩ := nk_bde hr
  refine nk_callV (ci := 4) (n := 1) (x := 183) (len := 3) (j' := 311) (q' := 0) (r := r6) (S' := S7) (L2 := [(0, nk_r l0), (1, nk_i l1)]) (rest := []) (st' := []) (pc' := 17) mJ_325 (by decide +kernel) (by decide +kernel) rfl rfl t_l0 (Nat.le_of_ble_eq_true rfl) mJ_311 (Nat.le_of_ble_eq_true rfl) rfl (ja_X4_bring_ok zs _ _ _ _ t_l0 h8) rfl ?_
  refine nk_p (i := .aload_n 0) (len := 1) (pc' := 18) mJ_325 (by decide +kernel) (ns_aload_n 2 rfl rfl) rfl ?_
  refine nk_p (i := .sipush 256) (len := 3) (pc' := 21) mJ_325 (by decide +kernel) (ns_sipush (c := 256) (by decide +kernel)) rfl ?_
  obtain ⟨S9, h10, hr⟩ := nk_lte hr
  refine nk_putI (y := (0, 0)) (ty := .int) (x := 185) (len := 3) (ci := 4) (k := 9) (pc' := 24) ja_okT mJ_325 (by decide +kernel) (by decide +kernel) (by decide +kernel) t_l0 (Or.inl rfl) rfl h10 ?_
  refine nk_p (i := .aload_n 0) (len := 1) (pc' := 25) mJ_325 (by decide +kernel) (ns_aload_n 2 rfl rfl) rfl ?_
  refine nk_p (i := .lconst 0) (len := 1) (pc' := 26) mJ_325 (by decide +kernel) (ns_lconst (c := 0) (by decide +kernel)) rfl ?_
  obtain ⟨S11, h12, hr⟩ := nk_lte hr
  refine nk_putL (y := (0, 0)) (x := 188) (len := 3) (ci := 4) (k := 10) (pc' := 29) ja_okT mJ_325 (by decide +kernel) (by decide +kernel) (by decide +kernel) t_l0 rfl h12 ?_
  refine nk_p (i := .aload_n 0) (len := 1) (pc' := 30) mJ_325 (by decide +kernel) (ns_aload_n 2 rfl rfl) rfl ?_
  refine nk_p (i := .iconst 0) (len := 1) (pc' := 31) mJ_325 (by decide +kernel) (ns_iconst (c := 0) (by decide +kernel)) rfl ?_
  obtain ⟨S13, h14, hr⟩ := nk_lte hr
  refine nk_putI (y := (0, 0)) (ty := .boolean) (x := 191) (len := 3) (ci := 4) (k := 11) (pc' := 34) ja_okT mJ_325 (by decide +kernel) (by decide +kernel) (by decide +kernel) t_l0 (Or.inr ⟨rfl, by decide⟩) rfl h14 ?_
  refine nk_p (i := .iload_n 2) (len := 1) (pc' := 35) mJ_325 (by decide +kernel) (ns_iload_n 1 rfl rfl) rfl ?_
  refine nk_p (i := .bipush 20) (len := 2) (pc' := 37) mJ_325 (by decide +kernel) (ns_bipush (c := 20) (by decide +kernel)) rfl ?_
  refine nk_icmp (c := .lt) (off := 39) (len := 3) (t := 76) (pc' := 40) mJ_325 (by decide +kernel) (by decide +kernel) rfl (fun hc => ?_) (fun hc => ?_)
  · have hr := nk_ifp (c := v4 < 20) hc hr
    refine nk_sub [2, 3, 1, 0] (L' := [(0, nk_r l0), (1, nk_i l1), (2, nk_i v4), (3, nk_i 0)]) rfl ?_
    exact ja_X4_look_b76_ok zs _ _ _ _ _ _ t_l0 hr
  · have hr := nk_ifn (c := v4 < 20) hc hr
    refine nk_p (i := .iload_n 2) (len := 1) (pc' := 41) mJ_325 (by decide +kernel) (ns_iload_n 1 rfl rfl) rfl ?_
    refine nk_p (i := .bipush 25) (len := 2) (pc' := 43) mJ_325 (by decide +kernel) (ns_bipush (c := 25) (by decide +kernel)) rfl ?_
    refine nk_icmp (c := .gt) (off := 33) (len := 3) (t := 76) (pc' := 46) mJ_325 (by decide +kernel) (by decide +kernel) rfl (fun hc => ?_) (fun hc => ?_)
    · have hr := nk_ifp (c := 25 < v4) hc hr
      refine nk_sub [2, 3, 1, 0] (L' := [(0, nk_r l0), (1, nk_i l1), (2, nk_i v4), (3, nk_i 0)]) rfl ?_
      exact ja_X4_look_b76_ok zs _ _ _ _ _ _ t_l0 hr
    · have hr := nk_ifn (c := 25 < v4) hc hr
      refine nk_p (i := .aload_n 0) (len := 1) (pc' := 47) mJ_325 (by decide +kernel) (ns_aload_n 2 rfl rfl) rfl ?_
      refine nk_p (i := .iload_n 1) (len := 1) (pc' := 48) mJ_325 (by decide +kernel) (ns_iload_n 3 rfl rfl) rfl ?_
      refine nk_p (i := .aload_n 0) (len := 1) (pc' := 49) mJ_325 (by decide +kernel) (ns_aload_n 2 rfl rfl) rfl ?_
      refine nk_getM (cj := 3) (z := 0) (x := 42) (len := 3) (ci := 4) (k := 0) (pc' := 52) ja_okT mJ_325 (by decide +kernel) (by decide +kernel) (by decide +kernel) t_l0 rfl (fun t15 => ?_)
      refine nk_getC (f := (4, 1, 1024)) (x := 113) (len := 3) (ci := 3) (k := 5) (pc' := 55) ja_okT mJ_325 (by decide +kernel) (by decide +kernel) (by decide +kernel) (by decide) t15 rfl ?_
      have t16 : nk_ar ja_Tt (ja_c (S13.2 l0 0) 5) = some (1, 1024) := nk_ta ja_okT t15 (by decide +kernel)
      refine nk_p (i := .iload_n 1) (len := 1) (pc' := 56) mJ_325 (by decide +kernel) (ns_iload_n 3 rfl rfl) rfl ?_
      refine nk_iald (len := 1) (N := 1024) (pc' := 57) mJ_325 (by decide +kernel) t16 h3.1 h3.2 rfl rfl ?_
      refine nk_p (i := .iload_n 2) (len := 1) (pc' := 58) mJ_325 (by decide +kernel) (ns_iload_n 1 rfl rfl) rfl ?_
      obtain ⟨r17, S18, h19, hr⟩ := nk_bde hr
      refine nk_callV (ci := 4) (n := 3) (x := 195) (len := 3) (j' := 328) (q' := 0) (r := r17) (S' := S18) (L2 := [(0, nk_r l0), (1, nk_i l1), (2, nk_i (S13.1 (ja_c (S13.2 l0 0) 5) l1.toNat)), (3, nk_i v4)]) (rest := []) (st' := []) (pc' := 61) mJ_325 (by decide +kernel) (by decide +kernel) rfl rfl t_l0 (Nat.le_of_ble_eq_true rfl) mJ_328 (Nat.le_of_ble_eq_true rfl) rfl (ja_X4_lookAtWay_ok zs _ _ _ _ _ _ t_l0 h19) rfl ?_
      refine nk_p (i := .aload_n 0) (len := 1) (pc' := 62) mJ_325 (by decide +kernel) (ns_aload_n 2 rfl rfl) rfl ?_
      refine nk_p (i := .iload_n 1) (len := 1) (pc' := 63) mJ_325 (by decide +kernel) (ns_iload_n 3 rfl rfl) rfl ?_
      refine nk_p (i := .iload_n 1) (len := 1) (pc' := 64) mJ_325 (by decide +kernel) (ns_iload_n 3 rfl rfl) rfl ?_
      refine nk_p (i := .iconst 1) (len := 1) (pc' := 65) mJ_325 (by decide +kernel) (ns_iconst (c := 1) (by decide +kernel)) rfl ?_
      refine nk_p (i := .iadd) (len := 1) (pc' := 66) mJ_325 (by decide +kernel) ns_iadd rfl ?_
      refine nk_p (i := .iload_n 2) (len := 1) (pc' := 67) mJ_325 (by decide +kernel) (ns_iload_n 1 rfl rfl) rfl ?_
      obtain ⟨r20, S21, h22, hr⟩ := nk_bde hr
      refine nk_callS (ci := 0) (n := 1) (x := 198) (len := 3) (j' := 315) (q' := 1) (r := r20) (S' := S21) (L2 := [(0, nk_i v4)]) (rest := [nk_i (nk_w (l1 + 1)), nk_i l1, nk_r l0]) (st' := [nk_i r20, nk_i (nk_w (l1 + 1)), nk_i l1, nk_r l0]) (pc' := 70) mJ_325 (by decide +kernel) (by decide +kernel) (Nat.le_of_ble_eq_true rfl) rfl rfl (Nat.le_of_ble_eq_true rfl) mJ_315 (Nat.le_of_ble_eq_true rfl) ja_Tpos rfl (ja_X4_contrary_ok zs _ _ _ h22) rfl ?_
      obtain ⟨r23, S24, h25, hr⟩ := nk_bde hr
      refine nk_callV (ci := 4) (n := 3) (x := 195) (len := 3) (j' := 328) (q' := 0) (r := r23) (S' := S24) (L2 := [(0, nk_r l0), (1, nk_i l1), (2, nk_i (nk_w (l1 + 1))), (3, nk_i r20)]) (rest := []) (st' := []) (pc' := 73) mJ_325 (by decide +kernel) (by decide +kernel) rfl rfl t_l0 (Nat.le_of_ble_eq_true rfl) mJ_328 (Nat.le_of_ble_eq_true rfl) rfl (ja_X4_lookAtWay_ok zs _ _ _ _ _ _ t_l0 h25) rfl ?_
      refine nk_p (i := .goto 192) (len := 3) (pc' := 265) mJ_325 (by decide +kernel) (ns_goto (by decide +kernel)) rfl ?_
      refine nk_sub [2, 3, 1, 0] (L' := [(0, nk_r l0), (1, nk_i l1), (2, nk_i v4), (3, nk_i 0)]) rfl ?_
      exact ja_X4_look_b265_ok zs _ _ _ _ _ _ t_l0 hr
/-! SafeCode$Proof usesChanged (I)Z -/
noncomputable def ja_X4_usesChanged_b90 (l0 : Nat) (l1 : Int) (S : nk_S) : Option (Int × nk_S) :=
  if 0 ≤ l1 ∧ l1 < 1024 then
  nk_bd (ja_X3_takes (S.2 l0 0) l1 S) fun r5 S6 =>
  nk_lt (nk_w ((nk_w (12 + (S.1 (ja_c (S.2 l0 0) 9) l1.toNat))) - r5)) fun v8 =>
  if 0 ≤ (nk_w ((nk_w (l1 * 20)) + v8)) ∧ (nk_w ((nk_w (l1 * 20)) + v8)) < 20480 then
  if (nk_land (S6.1 (ja_c l0 3) 7) (S6.1 (ja_c (ja_c l0 2) 0) (nk_w ((nk_w (l1 * 20)) + v8)).toNat)) = 0 then
    some (0, S6)
  else
    some (1, S6)
  else none
  else none
theorem ja_X4_usesChanged_b90_ok (zs : List Int32) : ∀ (l0 : Nat) (l1 : Int) (S : nk_S) (R : Int × nk_S), nk_cl ja_Tt l0 = some 4 → ja_X4_usesChanged_b90 l0 l1 S = some R → nk_K ja_Tt mi_Γ (mi_ev zs) 1 345 90 [(0, nk_r l0), (1, nk_i l1)] [] S R := by
  intro l0 l1 S R t_l0 hr
  unfold ja_X4_usesChanged_b90 at hr
  refine nk_p (i := .bipush 12) (len := 2) (pc' := 92) mJ_345 (by decide +kernel) (ns_bipush (c := 12) (by decide +kernel)) rfl ?_
  refine nk_p (i := .aload_n 0) (len := 1) (pc' := 93) mJ_345 (by decide +kernel) (ns_aload_n 0 rfl rfl) rfl ?_
  refine nk_getM (cj := 3) (z := 0) (x := 42) (len := 3) (ci := 4) (k := 0) (pc' := 96) ja_okT mJ_345 (by decide +kernel) (by decide +kernel) (by decide +kernel) t_l0 rfl (fun t1 => ?_)
  refine nk_getC (f := (4, 1, 1024)) (x := 167) (len := 3) (ci := 3) (k := 9) (pc' := 99) ja_okT mJ_345 (by decide +kernel) (by decide +kernel) (by decide +kernel) (by decide) t1 rfl ?_
  have t2 : nk_ar ja_Tt (ja_c (S.2 l0 0) 9) = some (1, 1024) := nk_ta ja_okT t1 (by decide +kernel)
  refine nk_p (i := .iload_n 1) (len := 1) (pc' := 100) mJ_345 (by decide +kernel) (ns_iload_n 1 rfl rfl) rfl ?_
  obtain ⟨h3, hr⟩ := nk_cke hr
  refine nk_iald (len := 1) (N := 1024) (pc' := 101) mJ_345 (by decide +kernel) t2 h3.1 h3.2 rfl rfl ?_
  refine nk_p (i := .iadd) (len := 1) (pc' := 102) mJ_345 (by decide +kernel) ns_iadd rfl ?_
  refine nk_p (i := .aload_n 0) (len := 1) (pc' := 103) mJ_345 (by decide +kernel) (ns_aload_n 0 rfl rfl) rfl ?_
  refine nk_getM (cj := 3) (z := 0) (x := 42) (len := 3) (ci := 4) (k := 0) (pc' := 106) ja_okT mJ_345 (by decide +kernel) (by decide +kernel) (by decide +kernel) t_l0 rfl (fun t4 => ?_)
  refine nk_p (i := .iload_n 1) (len := 1) (pc' := 107) mJ_345 (by decide +kernel) (ns_iload_n 1 rfl rfl) rfl ?_
  obtain ⟨r5, S6, h7, hr⟩ := nk_bde hr
  refine nk_callV (ci := 3) (n := 1) (x := 170) (len := 3) (j' := 308) (q' := 1) (r := r5) (S' := S6) (L2 := [(0, nk_r (S.2 l0 0)), (1, nk_i l1)]) (rest := [nk_i (nk_w (12 + (S.1 (ja_c (S.2 l0 0) 9) l1.toNat)))]) (st' := [nk_i r5, nk_i (nk_w (12 + (S.1 (ja_c (S.2 l0 0) 9) l1.toNat)))]) (pc' := 110) mJ_345 (by decide +kernel) (by decide +kernel) rfl rfl t4 (Nat.le_of_ble_eq_true rfl) mJ_308 (Nat.le_of_ble_eq_true rfl) rfl (ja_X3_takes_ok zs _ _ _ _ t4 h7) rfl ?_
  refine nk_p (i := .isub) (len := 1) (pc' := 111) mJ_345 (by decide +kernel) ns_isub rfl ?_
  obtain ⟨v8, h9, hr⟩ := nk_lte hr
  refine nk_p (i := .istore_n 2) (len := 1) (pc' := 112) mJ_345 (by decide +kernel) (ns_istore_n (L' := [(2, nk_i v8), (0, nk_r l0), (1, nk_i l1)]) h9 rfl rfl (by decide +kernel)) rfl ?_
  refine nk_p (i := .aload_n 0) (len := 1) (pc' := 113) mJ_345 (by decide +kernel) (ns_aload_n 1 rfl rfl) rfl ?_
  refine nk_getC (f := (2, 8, 0)) (x := 21) (len := 3) (ci := 4) (k := 3) (pc' := 116) ja_okT mJ_345 (by decide +kernel) (by decide +kernel) (by decide +kernel) (by decide) t_l0 rfl ?_
  have t10 : nk_cl ja_Tt (ja_c l0 3) = some 8 := nk_tc (y := 0) ja_okT t_l0 (by decide +kernel)
  refine nk_getL (y := (0, 0)) (x := 151) (len := 3) (ci := 8) (k := 7) (pc' := 119) ja_okT mJ_345 (by decide +kernel) (by decide +kernel) (by decide +kernel) t10 rfl ?_
  refine nk_p (i := .aload_n 0) (len := 1) (pc' := 120) mJ_345 (by decide +kernel) (ns_aload_n 1 rfl rfl) rfl ?_
  refine nk_getC (f := (2, 7, 0)) (x := 12) (len := 3) (ci := 4) (k := 2) (pc' := 123) ja_okT mJ_345 (by decide +kernel) (by decide +kernel) (by decide +kernel) (by decide) t_l0 rfl ?_
  have t11 : nk_cl ja_Tt (ja_c l0 2) = some 7 := nk_tc (y := 0) ja_okT t_l0 (by decide +kernel)
  refine nk_getC (f := (4, 2, 20480)) (x := 173) (len := 3) (ci := 7) (k := 0) (pc' := 126) ja_okT mJ_345 (by decide +kernel) (by decide +kernel) (by decide +kernel) (by decide) t11 rfl ?_
  have t12 : nk_ar ja_Tt (ja_c (ja_c l0 2) 0) = some (2, 20480) := nk_ta ja_okT t11 (by decide +kernel)
  refine nk_p (i := .iload_n 1) (len := 1) (pc' := 127) mJ_345 (by decide +kernel) (ns_iload_n 2 rfl rfl) rfl ?_
  refine nk_p (i := .bipush 20) (len := 2) (pc' := 129) mJ_345 (by decide +kernel) (ns_bipush (c := 20) (by decide +kernel)) rfl ?_
  refine nk_p (i := .imul) (len := 1) (pc' := 130) mJ_345 (by decide +kernel) ns_imul rfl ?_
  refine nk_p (i := .iload_n 2) (len := 1) (pc' := 131) mJ_345 (by decide +kernel) (ns_iload_n 0 rfl rfl) rfl ?_
  refine nk_p (i := .iadd) (len := 1) (pc' := 132) mJ_345 (by decide +kernel) ns_iadd rfl ?_
  obtain ⟨h13, hr⟩ := nk_cke hr
  refine nk_lald (len := 1) (N := 20480) (pc' := 133) mJ_345 (by decide +kernel) t12 h13.1 h13.2 rfl rfl ?_
  refine nk_p (i := .land) (len := 1) (pc' := 134) mJ_345 (by decide +kernel) ns_land rfl ?_
  refine nk_p (i := .lconst 0) (len := 1) (pc' := 135) mJ_345 (by decide +kernel) (ns_lconst (c := 0) (by decide +kernel)) rfl ?_
  refine nk_p (i := .lcmp) (len := 1) (pc' := 136) mJ_345 (by decide +kernel) ns_lcmp rfl ?_
  refine nk_lcond (c := .eq) (off := 7) (len := 3) (t := 143) (pc' := 139) mJ_345 (by decide +kernel) (by decide +kernel) rfl (fun hc => ?_) (fun hc => ?_)
  · have hr := nk_ifp (c := (nk_land (S6.1 (ja_c l0 3) 7) (S6.1 (ja_c (ja_c l0 2) 0) (nk_w ((nk_w (l1 * 20)) + v8)).toNat)) = 0) hc hr
    refine nk_p (i := .iconst 0) (len := 1) (pc' := 144) mJ_345 (by decide +kernel) (ns_iconst (c := 0) (by decide +kernel)) rfl ?_
    cases hr
    exact nk_iret (ty := .boolean) (len := 1) mJ_345 (by decide +kernel) rfl (nk_nar_z (by decide))
  · have hr := nk_ifn (c := (nk_land (S6.1 (ja_c l0 3) 7) (S6.1 (ja_c (ja_c l0 2) 0) (nk_w ((nk_w (l1 * 20)) + v8)).toNat)) = 0) hc hr
    refine nk_p (i := .iconst 1) (len := 1) (pc' := 140) mJ_345 (by decide +kernel) (ns_iconst (c := 1) (by decide +kernel)) rfl ?_
    refine nk_p (i := .goto 4) (len := 3) (pc' := 144) mJ_345 (by decide +kernel) (ns_goto (by decide +kernel)) rfl ?_
    cases hr
    exact nk_iret (ty := .boolean) (len := 1) mJ_345 (by decide +kernel) rfl (nk_nar_z (by decide))
noncomputable def ja_X4_usesChanged_b145 (l0 : Nat) (l1 : Int) (S : nk_S) : Option (Int × nk_S) :=
  if 0 ≤ l1 ∧ l1 < 1024 then
  if (nk_land (S.1 (ja_c l0 3) 8) (S.1 (ja_c l0 6) l1.toNat)) = 0 then
    some (0, S)
  else
    some (1, S)
  else none
theorem ja_X4_usesChanged_b145_ok (zs : List Int32) : ∀ (l0 : Nat) (l1 : Int) (S : nk_S) (R : Int × nk_S), nk_cl ja_Tt l0 = some 4 → ja_X4_usesChanged_b145 l0 l1 S = some R → nk_K ja_Tt mi_Γ (mi_ev zs) 1 345 145 [(0, nk_r l0), (1, nk_i l1)] [] S R := by
  intro l0 l1 S R t_l0 hr
  unfold ja_X4_usesChanged_b145 at hr
  refine nk_p (i := .aload_n 0) (len := 1) (pc' := 146) mJ_345 (by decide +kernel) (ns_aload_n 0 rfl rfl) rfl ?_
  refine nk_getC (f := (2, 8, 0)) (x := 21) (len := 3) (ci := 4) (k := 3) (pc' := 149) ja_okT mJ_345 (by decide +kernel) (by decide +kernel) (by decide +kernel) (by decide) t_l0 rfl ?_
  have t1 : nk_cl ja_Tt (ja_c l0 3) = some 8 := nk_tc (y := 0) ja_okT t_l0 (by decide +kernel)
  refine nk_getL (y := (0, 0)) (x := 154) (len := 3) (ci := 8) (k := 8) (pc' := 152) ja_okT mJ_345 (by decide +kernel) (by decide +kernel) (by decide +kernel) t1 rfl ?_
  refine nk_p (i := .aload_n 0) (len := 1) (pc' := 153) mJ_345 (by decide +kernel) (ns_aload_n 0 rfl rfl) rfl ?_
  refine nk_getC (f := (4, 2, 1024)) (x := 33) (len := 3) (ci := 4) (k := 6) (pc' := 156) ja_okT mJ_345 (by decide +kernel) (by decide +kernel) (by decide +kernel) (by decide) t_l0 rfl ?_
  have t2 : nk_ar ja_Tt (ja_c l0 6) = some (2, 1024) := nk_ta ja_okT t_l0 (by decide +kernel)
  refine nk_p (i := .iload_n 1) (len := 1) (pc' := 157) mJ_345 (by decide +kernel) (ns_iload_n 1 rfl rfl) rfl ?_
  obtain ⟨h3, hr⟩ := nk_cke hr
  refine nk_lald (len := 1) (N := 1024) (pc' := 158) mJ_345 (by decide +kernel) t2 h3.1 h3.2 rfl rfl ?_
  refine nk_p (i := .land) (len := 1) (pc' := 159) mJ_345 (by decide +kernel) ns_land rfl ?_
  refine nk_p (i := .lconst 0) (len := 1) (pc' := 160) mJ_345 (by decide +kernel) (ns_lconst (c := 0) (by decide +kernel)) rfl ?_
  refine nk_p (i := .lcmp) (len := 1) (pc' := 161) mJ_345 (by decide +kernel) ns_lcmp rfl ?_
  refine nk_lcond (c := .eq) (off := 7) (len := 3) (t := 168) (pc' := 164) mJ_345 (by decide +kernel) (by decide +kernel) rfl (fun hc => ?_) (fun hc => ?_)
  · have hr := nk_ifp (c := (nk_land (S.1 (ja_c l0 3) 8) (S.1 (ja_c l0 6) l1.toNat)) = 0) hc hr
    refine nk_p (i := .iconst 0) (len := 1) (pc' := 169) mJ_345 (by decide +kernel) (ns_iconst (c := 0) (by decide +kernel)) rfl ?_
    cases hr
    exact nk_iret (ty := .boolean) (len := 1) mJ_345 (by decide +kernel) rfl (nk_nar_z (by decide))
  · have hr := nk_ifn (c := (nk_land (S.1 (ja_c l0 3) 8) (S.1 (ja_c l0 6) l1.toNat)) = 0) hc hr
    refine nk_p (i := .iconst 1) (len := 1) (pc' := 165) mJ_345 (by decide +kernel) (ns_iconst (c := 1) (by decide +kernel)) rfl ?_
    refine nk_p (i := .goto 4) (len := 3) (pc' := 169) mJ_345 (by decide +kernel) (ns_goto (by decide +kernel)) rfl ?_
    cases hr
    exact nk_iret (ty := .boolean) (len := 1) mJ_345 (by decide +kernel) rfl (nk_nar_z (by decide))
noncomputable def ja_X4_usesChanged (l0 : Nat) (l1 : Int) (S : nk_S) : Option (Int × nk_S) :=
  if 0 ≤ l1 ∧ l1 < 1024 then
  nk_lt (S.1 (ja_c (S.2 l0 0) 4) l1.toNat) fun v4 =>
  if v4 = 32 then
    ja_X4_usesChanged_b90 l0 l1 S
  else
  if v4 = 33 then
    ja_X4_usesChanged_b90 l0 l1 S
  else
  if v4 = 34 then
    ja_X4_usesChanged_b90 l0 l1 S
  else
  if v4 = 35 then
    if (nk_land (nk_lushr (S.1 (ja_c l0 3) 6) (S.1 (ja_c (S.2 l0 0) 5) l1.toNat)) 1) = 0 then
      some (0, S)
    else
      some (1, S)
  else
  if v4 = 36 then
    some (0, S)
  else
  if v4 = 37 then
    some (0, S)
  else
  if v4 = 38 then
    some (0, S)
  else
  if v4 = 39 then
    ja_X4_usesChanged_b145 l0 l1 S
  else
  if v4 = 40 then
    ja_X4_usesChanged_b145 l0 l1 S
  else
  some (0, S)
  else none
theorem ja_X4_usesChanged_ok (zs : List Int32) : ∀ (l0 : Nat) (l1 : Int) (S : nk_S) (R : Int × nk_S), nk_cl ja_Tt l0 = some 4 → ja_X4_usesChanged l0 l1 S = some R → nk_K ja_Tt mi_Γ (mi_ev zs) 1 345 0 [(0, nk_r l0), (1, nk_i l1)] [] S R := by
  intro l0 l1 S R t_l0 hr
  unfold ja_X4_usesChanged at hr
  refine nk_p (i := .aload_n 0) (len := 1) (pc' := 1) mJ_345 (by decide +kernel) (ns_aload_n 0 rfl rfl) rfl ?_
  refine nk_getM (cj := 3) (z := 0) (x := 42) (len := 3) (ci := 4) (k := 0) (pc' := 4) ja_okT mJ_345 (by decide +kernel) (by decide +kernel) (by decide +kernel) t_l0 rfl (fun t1 => ?_)
  refine nk_getC (f := (4, 1, 1024)) (x := 110) (len := 3) (ci := 3) (k := 4) (pc' := 7) ja_okT mJ_345 (by decide +kernel) (by decide +kernel) (by decide +kernel) (by decide) t1 rfl ?_
  have t2 : nk_ar ja_Tt (ja_c (S.2 l0 0) 4) = some (1, 1024) := nk_ta ja_okT t1 (by decide +kernel)
  refine nk_p (i := .iload_n 1) (len := 1) (pc' := 8) mJ_345 (by decide +kernel) (ns_iload_n 1 rfl rfl) rfl ?_
  obtain ⟨h3, hr⟩ := nk_cke hr
  refine nk_iald (len := 1) (N := 1024) (pc' := 9) mJ_345 (by decide +kernel) t2 h3.1 h3.2 rfl rfl ?_
  obtain ⟨v4, h5, hr⟩ := nk_lte hr
  rw [← h5]
  by_cases hc0 : v4 = 32
  · have hr := nk_ifp hc0 hr
    refine nk_p (i := .tableswitch 161 32 40 #[81, 81, 81, 51, 161, 161, 161, 136, 136]) (len := 51) (pc' := 90) mJ_345 (by decide +kernel) (ns_tsw (V := 32) hc0 (by decide +kernel)) rfl ?_
    exact ja_X4_usesChanged_b90_ok zs _ _ _ _ t_l0 hr
  have hr := nk_ifn hc0 hr
  by_cases hc1 : v4 = 33
  · have hr := nk_ifp hc1 hr
    refine nk_p (i := .tableswitch 161 32 40 #[81, 81, 81, 51, 161, 161, 161, 136, 136]) (len := 51) (pc' := 90) mJ_345 (by decide +kernel) (ns_tsw (V := 33) hc1 (by decide +kernel)) rfl ?_
    exact ja_X4_usesChanged_b90_ok zs _ _ _ _ t_l0 hr
  have hr := nk_ifn hc1 hr
  by_cases hc2 : v4 = 34
  · have hr := nk_ifp hc2 hr
    refine nk_p (i := .tableswitch 161 32 40 #[81, 81, 81, 51, 161, 161, 161, 136, 136]) (len := 51) (pc' := 90) mJ_345 (by decide +kernel) (ns_tsw (V := 34) hc2 (by decide +kernel)) rfl ?_
    exact ja_X4_usesChanged_b90_ok zs _ _ _ _ t_l0 hr
  have hr := nk_ifn hc2 hr
  by_cases hc3 : v4 = 35
  · have hr := nk_ifp hc3 hr
    refine nk_p (i := .tableswitch 161 32 40 #[81, 81, 81, 51, 161, 161, 161, 136, 136]) (len := 51) (pc' := 60) mJ_345 (by decide +kernel) (ns_tsw (V := 35) hc3 (by decide +kernel)) rfl ?_
    refine nk_p (i := .aload_n 0) (len := 1) (pc' := 61) mJ_345 (by decide +kernel) (ns_aload_n 0 rfl rfl) rfl ?_
    refine nk_getC (f := (2, 8, 0)) (x := 21) (len := 3) (ci := 4) (k := 3) (pc' := 64) ja_okT mJ_345 (by decide +kernel) (by decide +kernel) (by decide +kernel) (by decide) t_l0 rfl ?_
    have t6 : nk_cl ja_Tt (ja_c l0 3) = some 8 := nk_tc (y := 0) ja_okT t_l0 (by decide +kernel)
    refine nk_getL (y := (0, 0)) (x := 147) (len := 3) (ci := 8) (k := 6) (pc' := 67) ja_okT mJ_345 (by decide +kernel) (by decide +kernel) (by decide +kernel) t6 rfl ?_
    refine nk_p (i := .aload_n 0) (len := 1) (pc' := 68) mJ_345 (by decide +kernel) (ns_aload_n 0 rfl rfl) rfl ?_
    refine nk_getM (cj := 3) (z := 0) (x := 42) (len := 3) (ci := 4) (k := 0) (pc' := 71) ja_okT mJ_345 (by decide +kernel) (by decide +kernel) (by decide +kernel) t_l0 rfl (fun t7 => ?_)
    refine nk_getC (f := (4, 1, 1024)) (x := 113) (len := 3) (ci := 3) (k := 5) (pc' := 74) ja_okT mJ_345 (by decide +kernel) (by decide +kernel) (by decide +kernel) (by decide) t7 rfl ?_
    have t8 : nk_ar ja_Tt (ja_c (S.2 l0 0) 5) = some (1, 1024) := nk_ta ja_okT t7 (by decide +kernel)
    refine nk_p (i := .iload_n 1) (len := 1) (pc' := 75) mJ_345 (by decide +kernel) (ns_iload_n 1 rfl rfl) rfl ?_
    refine nk_iald (len := 1) (N := 1024) (pc' := 76) mJ_345 (by decide +kernel) t8 h3.1 h3.2 rfl rfl ?_
    refine nk_p (i := .lushr) (len := 1) (pc' := 77) mJ_345 (by decide +kernel) ns_lushr rfl ?_
    refine nk_p (i := .lconst 1) (len := 1) (pc' := 78) mJ_345 (by decide +kernel) (ns_lconst (c := 1) (by decide +kernel)) rfl ?_
    refine nk_p (i := .land) (len := 1) (pc' := 79) mJ_345 (by decide +kernel) ns_land rfl ?_
    refine nk_p (i := .lconst 0) (len := 1) (pc' := 80) mJ_345 (by decide +kernel) (ns_lconst (c := 0) (by decide +kernel)) rfl ?_
    refine nk_p (i := .lcmp) (len := 1) (pc' := 81) mJ_345 (by decide +kernel) ns_lcmp rfl ?_
    refine nk_lcond (c := .eq) (off := 7) (len := 3) (t := 88) (pc' := 84) mJ_345 (by decide +kernel) (by decide +kernel) rfl (fun hc => ?_) (fun hc => ?_)
    · have hr := nk_ifp (c := (nk_land (nk_lushr (S.1 (ja_c l0 3) 6) (S.1 (ja_c (S.2 l0 0) 5) l1.toNat)) 1) = 0) hc hr
      refine nk_p (i := .iconst 0) (len := 1) (pc' := 89) mJ_345 (by decide +kernel) (ns_iconst (c := 0) (by decide +kernel)) rfl ?_
      cases hr
      exact nk_iret (ty := .boolean) (len := 1) mJ_345 (by decide +kernel) rfl (nk_nar_z (by decide))
    · have hr := nk_ifn (c := (nk_land (nk_lushr (S.1 (ja_c l0 3) 6) (S.1 (ja_c (S.2 l0 0) 5) l1.toNat)) 1) = 0) hc hr
      refine nk_p (i := .iconst 1) (len := 1) (pc' := 85) mJ_345 (by decide +kernel) (ns_iconst (c := 1) (by decide +kernel)) rfl ?_
      refine nk_p (i := .goto 4) (len := 3) (pc' := 89) mJ_345 (by decide +kernel) (ns_goto (by decide +kernel)) rfl ?_
      cases hr
      exact nk_iret (ty := .boolean) (len := 1) mJ_345 (by decide +kernel) rfl (nk_nar_z (by decide))
  have hr := nk_ifn hc3 hr
  by_cases hc4 : v4 = 36
  · have hr := nk_ifp hc4 hr
    refine nk_p (i := .tableswitch 161 32 40 #[81, 81, 81, 51, 161, 161, 161, 136, 136]) (len := 51) (pc' := 170) mJ_345 (by decide +kernel) (ns_tsw (V := 36) hc4 (by decide +kernel)) rfl ?_
    refine nk_p (i := .iconst 0) (len := 1) (pc' := 171) mJ_345 (by decide +kernel) (ns_iconst (c := 0) (by decide +kernel)) rfl ?_
    cases hr
    exact nk_iret (ty := .boolean) (len := 1) mJ_345 (by decide +kernel) rfl (nk_nar_z (by decide))
  have hr := nk_ifn hc4 hr
  by_cases hc5 : v4 = 37
  · have hr := nk_ifp hc5 hr
    refine nk_p (i := .tableswitch 161 32 40 #[81, 81, 81, 51, 161, 161, 161, 136, 136]) (len := 51) (pc' := 170) mJ_345 (by decide +kernel) (ns_tsw (V := 37) hc5 (by decide +kernel)) rfl ?_
    refine nk_p (i := .iconst 0) (len := 1) (pc' := 171) mJ_345 (by decide +kernel) (ns_iconst (c := 0) (by decide +kernel)) rfl ?_
    cases hr
    exact nk_iret (ty := .boolean) (len := 1) mJ_345 (by decide +kernel) rfl (nk_nar_z (by decide))
  have hr := nk_ifn hc5 hr
  by_cases hc6 : v4 = 38
  · have hr := nk_ifp hc6 hr
    refine nk_p (i := .tableswitch 161 32 40 #[81, 81, 81, 51, 161, 161, 161, 136, 136]) (len := 51) (pc' := 170) mJ_345 (by decide +kernel) (ns_tsw (V := 38) hc6 (by decide +kernel)) rfl ?_
    refine nk_p (i := .iconst 0) (len := 1) (pc' := 171) mJ_345 (by decide +kernel) (ns_iconst (c := 0) (by decide +kernel)) rfl ?_
    cases hr
    exact nk_iret (ty := .boolean) (len := 1) mJ_345 (by decide +kernel) rfl (nk_nar_z (by decide))
  have hr := nk_ifn hc6 hr
  by_cases hc7 : v4 = 39
  · have hr := nk_ifp hc7 hr
    refine nk_p (i := .tableswitch 161 32 40 #[81, 81, 81, 51, 161, 161, 161, 136, 136]) (len := 51) (pc' := 145) mJ_345 (by decide +kernel) (ns_tsw (V := 39) hc7 (by decide +kernel)) rfl ?_
    exact ja_X4_usesChanged_b145_ok zs _ _ _ _ t_l0 hr
  have hr := nk_ifn hc7 hr
  by_cases hc8 : v4 = 40
  · have hr := nk_ifp hc8 hr
    refine nk_p (i := .tableswitch 161 32 40 #[81, 81, 81, 51, 161, 161, 161, 136, 136]) (len := 51) (pc' := 145) mJ_345 (by decide +kernel) (ns_tsw (V := 40) hc8 (by decide +kernel)) rfl ?_
    exact ja_X4_usesChanged_b145_ok zs _ _ _ _ t_l0 hr
  have hr := nk_ifn hc8 hr
  refine nk_p (i := .tableswitch 161 32 40 #[81, 81, 81, 51, 161, 161, 161, 136, 136]) (len := 51) (pc' := 170) mJ_345 (by decide +kernel) (ns_tsd (by omega) (by decide +kernel)) rfl ?_
  refine nk_p (i := .iconst 0) (len := 1) (pc' := 171) mJ_345 (by decide +kernel) (ns_iconst (c := 0) (by decide +kernel)) rfl ?_
  cases hr
  exact nk_iret (ty := .boolean) (len := 1) mJ_345 (by decide +kernel) rfl (nk_nar_z (by decide))
/-! SafeCode$Proof wakeUsers ()V -/
noncomputable def ja_X4_wakeUsers_b31 (rec31 : Nat → Int → nk_S → Option (Int × nk_S)) (l0 : Nat) (l1 : Int) (S : nk_S) : Option (Int × nk_S) :=
  if (S.1 (S.2 l0 0) 3) ≤ l1 then
    nk_lt (nk_wi S (ja_c l0 3) 6 0) fun S3 =>
    nk_lt (nk_wi S3 (ja_c l0 3) 7 0) fun S5 =>
    nk_lt (nk_wi S5 (ja_c l0 3) 8 0) fun S7 =>
    some (0, S7)
  else
    if 0 ≤ l1 ∧ l1 < 1024 then
    if (S.1 (ja_c (ja_c l0 2) 2) l1.toNat) = 0 then
      nk_lt (nk_w (l1 + 1)) fun v12 =>
      rec31 l0 v12 S
    else
      nk_bd (ja_X4_usesChanged l0 l1 S) fun r14 S15 =>
      if r14 = 0 then
        nk_lt (nk_w (l1 + 1)) fun v17 =>
        rec31 l0 v17 S15
      else
        nk_bd (ja_X7_wake (ja_c l0 2) l1 S15) fun r19 S20 =>
        nk_lt (nk_w (l1 + 1)) fun v22 =>
        rec31 l0 v22 S20
    else none
theorem ja_X4_wakeUsers_b31_ok (zs : List Int32) {rec31 : Nat → Int → nk_S → Option (Int × nk_S)} (hrec31 : ∀ (l0 : Nat) (l1 : Int) (S : nk_S) (R : Int × nk_S), nk_cl ja_Tt l0 = some 4 → rec31 l0 l1 S = some R → nk_K ja_Tt mi_Γ (mi_ev zs) 0 348 31 [(0, nk_r l0), (1, nk_i l1)] [] S R) : ∀ (l0 : Nat) (l1 : Int) (S : nk_S) (R : Int × nk_S), nk_cl ja_Tt l0 = some 4 → ja_X4_wakeUsers_b31 rec31 l0 l1 S = some R → nk_K ja_Tt mi_Γ (mi_ev zs) 0 348 31 [(0, nk_r l0), (1, nk_i l1)] [] S R := by
  intro l0 l1 S R t_l0 hr
  unfold ja_X4_wakeUsers_b31 at hr
  refine nk_p (i := .iload_n 1) (len := 1) (pc' := 32) mJ_348 (by decide +kernel) (ns_iload_n 1 rfl rfl) rfl ?_
  refine nk_p (i := .aload_n 0) (len := 1) (pc' := 33) mJ_348 (by decide +kernel) (ns_aload_n 0 rfl rfl) rfl ?_
  refine nk_getM (cj := 3) (z := 0) (x := 42) (len := 3) (ci := 4) (k := 0) (pc' := 36) ja_okT mJ_348 (by decide +kernel) (by decide +kernel) (by decide +kernel) t_l0 rfl (fun t1 => ?_)
  refine nk_getI (y := (0, 0)) (x := 104) (len := 3) (ci := 3) (k := 3) (pc' := 39) ja_okT mJ_348 (by decide +kernel) (by decide +kernel) (by decide +kernel) t1 rfl ?_
  refine nk_icmp (c := .ge) (off := 37) (len := 3) (t := 76) (pc' := 42) mJ_348 (by decide +kernel) (by decide +kernel) rfl (fun hc => ?_) (fun hc => ?_)
  · have hr := nk_ifp (c := (S.1 (S.2 l0 0) 3) ≤ l1) hc hr
    refine nk_p (i := .aload_n 0) (len := 1) (pc' := 77) mJ_348 (by decide +kernel) (ns_aload_n 0 rfl rfl) rfl ?_
    refine nk_getC (f := (2, 8, 0)) (x := 21) (len := 3) (ci := 4) (k := 3) (pc' := 80) ja_okT mJ_348 (by decide +kernel) (by decide +kernel) (by decide +kernel) (by decide) t_l0 rfl ?_
    have t2 : nk_cl ja_Tt (ja_c l0 3) = some 8 := nk_tc (y := 0) ja_okT t_l0 (by decide +kernel)
    refine nk_p (i := .lconst 0) (len := 1) (pc' := 81) mJ_348 (by decide +kernel) (ns_lconst (c := 0) (by decide +kernel)) rfl ?_
    obtain ⟨S3, h4, hr⟩ := nk_lte hr
    refine nk_putL (y := (0, 0)) (x := 147) (len := 3) (ci := 8) (k := 6) (pc' := 84) ja_okT mJ_348 (by decide +kernel) (by decide +kernel) (by decide +kernel) t2 rfl h4 ?_
    refine nk_p (i := .aload_n 0) (len := 1) (pc' := 85) mJ_348 (by decide +kernel) (ns_aload_n 0 rfl rfl) rfl ?_
    refine nk_getC (f := (2, 8, 0)) (x := 21) (len := 3) (ci := 4) (k := 3) (pc' := 88) ja_okT mJ_348 (by decide +kernel) (by decide +kernel) (by decide +kernel) (by decide) t_l0 rfl ?_
    refine nk_p (i := .lconst 0) (len := 1) (pc' := 89) mJ_348 (by decide +kernel) (ns_lconst (c := 0) (by decide +kernel)) rfl ?_
    obtain ⟨S5, h6, hr⟩ := nk_lte hr
    refine nk_putL (y := (0, 0)) (x := 151) (len := 3) (ci := 8) (k := 7) (pc' := 92) ja_okT mJ_348 (by decide +kernel) (by decide +kernel) (by decide +kernel) t2 rfl h6 ?_
    refine nk_p (i := .aload_n 0) (len := 1) (pc' := 93) mJ_348 (by decide +kernel) (ns_aload_n 0 rfl rfl) rfl ?_
    refine nk_getC (f := (2, 8, 0)) (x := 21) (len := 3) (ci := 4) (k := 3) (pc' := 96) ja_okT mJ_348 (by decide +kernel) (by decide +kernel) (by decide +kernel) (by decide) t_l0 rfl ?_
    refine nk_p (i := .lconst 0) (len := 1) (pc' := 97) mJ_348 (by decide +kernel) (ns_lconst (c := 0) (by decide +kernel)) rfl ?_
    obtain ⟨S7, h8, hr⟩ := nk_lte hr
    refine nk_putL (y := (0, 0)) (x := 154) (len := 3) (ci := 8) (k := 8) (pc' := 100) ja_okT mJ_348 (by decide +kernel) (by decide +kernel) (by decide +kernel) t2 rfl h8 ?_
    cases hr
    exact nk_vret (len := 1) mJ_348 (by decide +kernel) rfl
  · have hr := nk_ifn (c := (S.1 (S.2 l0 0) 3) ≤ l1) hc hr
    refine nk_p (i := .aload_n 0) (len := 1) (pc' := 43) mJ_348 (by decide +kernel) (ns_aload_n 0 rfl rfl) rfl ?_
    refine nk_getC (f := (2, 7, 0)) (x := 12) (len := 3) (ci := 4) (k := 2) (pc' := 46) ja_okT mJ_348 (by decide +kernel) (by decide +kernel) (by decide +kernel) (by decide) t_l0 rfl ?_
    have t9 : nk_cl ja_Tt (ja_c l0 2) = some 7 := nk_tc (y := 0) ja_okT t_l0 (by decide +kernel)
    refine nk_getC (f := (4, 3, 1024)) (x := 157) (len := 3) (ci := 7) (k := 2) (pc' := 49) ja_okT mJ_348 (by decide +kernel) (by decide +kernel) (by decide +kernel) (by decide) t9 rfl ?_
    have t10 : nk_ar ja_Tt (ja_c (ja_c l0 2) 2) = some (3, 1024) := nk_ta ja_okT t9 (by decide +kernel)
    refine nk_p (i := .iload_n 1) (len := 1) (pc' := 50) mJ_348 (by decide +kernel) (ns_iload_n 1 rfl rfl) rfl ?_
    obtain ⟨h11, hr⟩ := nk_cke hr
    refine nk_bald (t := 3) (len := 1) (N := 1024) (pc' := 51) mJ_348 (by decide +kernel) t10 (by decide) h11.1 h11.2 rfl rfl ?_
    refine nk_icond (c := .eq) (off := 19) (len := 3) (t := 70) (pc' := 54) mJ_348 (by decide +kernel) (by decide +kernel) rfl (fun hc => ?_) (fun hc => ?_)
    · have hr := nk_ifp (c := (S.1 (ja_c (ja_c l0 2) 2) l1.toNat) = 0) hc hr
      obtain ⟨v12, h13, hr⟩ := nk_lte hr
      refine nk_p (i := .iinc 1 1) (len := 3) (pc' := 73) mJ_348 (by decide +kernel) (ns_iinc (c := 1) (L' := [(1, nk_i v12), (0, nk_r l0)]) 1 rfl (by decide +kernel) h13 rfl (by decide +kernel)) rfl ?_
      refine nk_p (i := .goto (-42)) (len := 3) (pc' := 31) mJ_348 (by decide +kernel) (ns_goto (by decide +kernel)) rfl ?_
      refine nk_sub [1, 0] (L' := [(0, nk_r l0), (1, nk_i v12)]) rfl ?_
      exact hrec31 _ _ _ _ t_l0 hr
    · have hr := nk_ifn (c := (S.1 (ja_c (ja_c l0 2) 2) l1.toNat) = 0) hc hr
      refine nk_p (i := .aload_n 0) (len := 1) (pc' := 55) mJ_348 (by decide +kernel) (ns_aload_n 0 rfl rfl) rfl ?_
      refine nk_p (i := .iload_n 1) (len := 1) (pc' := 56) mJ_348 (by decide +kernel) (ns_iload_n 1 rfl rfl) rfl ?_
      obtain ⟨r14, S15, h16, hr⟩ := nk_bde hr
      refine nk_callV (ci := 4) (n := 1) (x := 161) (len := 3) (j' := 345) (q' := 1) (r := r14) (S' := S15) (L2 := [(0, nk_r l0), (1, nk_i l1)]) (rest := []) (st' := [nk_i r14]) (pc' := 59) mJ_348 (by decide +kernel) (by decide +kernel) rfl rfl t_l0 (Nat.le_of_ble_eq_true rfl) mJ_345 (Nat.le_of_ble_eq_true rfl) rfl (ja_X4_usesChanged_ok zs _ _ _ _ t_l0 h16) rfl ?_
      refine nk_icond (c := .eq) (off := 11) (len := 3) (t := 70) (pc' := 62) mJ_348 (by decide +kernel) (by decide +kernel) rfl (fun hc => ?_) (fun hc => ?_)
      · have hr := nk_ifp (c := r14 = 0) hc hr
        obtain ⟨v17, h18, hr⟩ := nk_lte hr
        refine nk_p (i := .iinc 1 1) (len := 3) (pc' := 73) mJ_348 (by decide +kernel) (ns_iinc (c := 1) (L' := [(1, nk_i v17), (0, nk_r l0)]) 1 rfl (by decide +kernel) h18 rfl (by decide +kernel)) rfl ?_
        refine nk_p (i := .goto (-42)) (len := 3) (pc' := 31) mJ_348 (by decide +kernel) (ns_goto (by decide +kernel)) rfl ?_
        refine nk_sub [1, 0] (L' := [(0, nk_r l0), (1, nk_i v17)]) rfl ?_
        exact hrec31 _ _ _ _ t_l0 hr
      · have hr := nk_ifn (c := r14 = 0) hc hr
        refine nk_p (i := .aload_n 0) (len := 1) (pc' := 63) mJ_348 (by decide +kernel) (ns_aload_n 0 rfl rfl) rfl ?_
        refine nk_getC (f := (2, 7, 0)) (x := 12) (len := 3) (ci := 4) (k := 2) (pc' := 66) ja_okT mJ_348 (by decide +kernel) (by decide +kernel) (by decide +kernel) (by decide) t_l0 rfl ?_
        refine nk_p (i := .iload_n 1) (len := 1) (pc' := 67) mJ_348 (by decide +kernel) (ns_iload_n 1 rfl rfl) rfl ?_
        obtain ⟨r19, S20, h21, hr⟩ := nk_bde hr
        refine nk_callV (ci := 7) (n := 1) (x := 164) (len := 3) (j' := 412) (q' := 0) (r := r19) (S' := S20) (L2 := [(0, nk_r (ja_c l0 2)), (1, nk_i l1)]) (rest := []) (st' := []) (pc' := 70) mJ_348 (by decide +kernel) (by decide +kernel) rfl rfl t9 (Nat.le_of_ble_eq_true rfl) mJ_412 (Nat.le_of_ble_eq_true rfl) rfl (ja_X7_wake_ok zs _ _ _ _ t9 h21) rfl ?_
        obtain ⟨v22, h23, hr⟩ := nk_lte hr
        refine nk_p (i := .iinc 1 1) (len := 3) (pc' := 73) mJ_348 (by decide +kernel) (ns_iinc (c := 1) (L' := [(1, nk_i v22), (0, nk_r l0)]) 1 rfl (by decide +kernel) h23 rfl (by decide +kernel)) rfl ?_
        refine nk_p (i := .goto (-42)) (len := 3) (pc' := 31) mJ_348 (by decide +kernel) (ns_goto (by decide +kernel)) rfl ?_
        refine nk_sub [1, 0] (L' := [(0, nk_r l0), (1, nk_i v22)]) rfl ?_
        exact hrec31 _ _ _ _ t_l0 hr
noncomputable def ja_X4_wakeUsers_L31 : Nat → Nat → Int → nk_S → Option (Int × nk_S)
  | 0, _, _, _ => none
  | n + 1, l0, l1, S => ja_X4_wakeUsers_b31 (ja_X4_wakeUsers_L31 n) l0 l1 S
theorem ja_X4_wakeUsers_L31_ok (zs : List Int32) : ∀ n : Nat, ∀ (l0 : Nat) (l1 : Int) (S : nk_S) (R : Int × nk_S), nk_cl ja_Tt l0 = some 4 → ja_X4_wakeUsers_L31 n l0 l1 S = some R → nk_K ja_Tt mi_Γ (mi_ev zs) 0 348 31 [(0, nk_r l0), (1, nk_i l1)] [] S R := by
  intro n
  induction n with
  | zero => intro _ _ _ _ _ hr; cases hr
  | succ n ih => intro l0 l1 S R t_l0 hr; exact ja_X4_wakeUsers_b31_ok zs ih l0 l1 S R t_l0 hr
noncomputable def ja_X4_wakeUsers (l0 : Nat) (S : nk_S) : Option (Int × nk_S) :=
  if (nk_lor (nk_lor (S.1 (ja_c l0 3) 6) (S.1 (ja_c l0 3) 7)) (S.1 (ja_c l0 3) 8)) = 0 then
    some (0, S)
  else
    ja_X4_wakeUsers_L31 nk_big l0 0 S
theorem ja_X4_wakeUsers_ok (zs : List Int32) : ∀ (l0 : Nat) (S : nk_S) (R : Int × nk_S), nk_cl ja_Tt l0 = some 4 → ja_X4_wakeUsers l0 S = some R → nk_K ja_Tt mi_Γ (mi_ev zs) 0 348 0 [(0, nk_r l0)] [] S R := by
  intro l0 S R t_l0 hr
  unfold ja_X4_wakeUsers at hr
  refine nk_p (i := .aload_n 0) (len := 1) (pc' := 1) mJ_348 (by decide +kernel) (ns_aload_n 0 rfl rfl) rfl ?_
  refine nk_getC (f := (2, 8, 0)) (x := 21) (len := 3) (ci := 4) (k := 3) (pc' := 4) ja_okT mJ_348 (by decide +kernel) (by decide +kernel) (by decide +kernel) (by decide) t_l0 rfl ?_
  have t1 : nk_cl ja_Tt (ja_c l0 3) = some 8 := nk_tc (y := 0) ja_okT t_l0 (by decide +kernel)
  refine nk_getL (y := (0, 0)) (x := 147) (len := 3) (ci := 8) (k := 6) (pc' := 7) ja_okT mJ_348 (by decide +kernel) (by decide +kernel) (by decide +kernel) t1 rfl ?_
  refine nk_p (i := .aload_n 0) (len := 1) (pc' := 8) mJ_348 (by decide +kernel) (ns_aload_n 0 rfl rfl) rfl ?_
  refine nk_getC (f := (2, 8, 0)) (x := 21) (len := 3) (ci := 4) (k := 3) (pc' := 11) ja_okT mJ_348 (by decide +kernel) (by decide +kernel) (by decide +kernel) (by decide) t_l0 rfl ?_
  refine nk_getL (y := (0, 0)) (x := 151) (len := 3) (ci := 8) (k := 7) (pc' := 14) ja_okT mJ_348 (by decide +kernel) (by decide +kernel) (by decide +kernel) t1 rfl ?_
  refine nk_p (i := .lor) (len := 1) (pc' := 15) mJ_348 (by decide +kernel) ns_lor rfl ?_
  refine nk_p (i := .aload_n 0) (len := 1) (pc' := 16) mJ_348 (by decide +kernel) (ns_aload_n 0 rfl rfl) rfl ?_
  refine nk_getC (f := (2, 8, 0)) (x := 21) (len := 3) (ci := 4) (k := 3) (pc' := 19) ja_okT mJ_348 (by decide +kernel) (by decide +kernel) (by decide +kernel) (by decide) t_l0 rfl ?_
  refine nk_getL (y := (0, 0)) (x := 154) (len := 3) (ci := 8) (k := 8) (pc' := 22) ja_okT mJ_348 (by decide +kernel) (by decide +kernel) (by decide +kernel) t1 rfl ?_
  refine nk_p (i := .lor) (len := 1) (pc' := 23) mJ_348 (by decide +kernel) ns_lor rfl ?_
  refine nk_p (i := .lconst 0) (len := 1) (pc' := 24) mJ_348 (by decide +kernel) (ns_lconst (c := 0) (by decide +kernel)) rfl ?_
  refine nk_p (i := .lcmp) (len := 1) (pc' := 25) mJ_348 (by decide +kernel) ns_lcmp rfl ?_
  refine nk_lcond (c := .ne) (off := 4) (len := 3) (t := 29) (pc' := 28) mJ_348 (by decide +kernel) (by decide +kernel) rfl (fun hc => ?_) (fun hc => ?_)
  · have hr := nk_ifn (c := (nk_lor (nk_lor (S.1 (ja_c l0 3) 6) (S.1 (ja_c l0 3) 7)) (S.1 (ja_c l0 3) 8)) = 0) hc hr
    refine nk_p (i := .iconst 0) (len := 1) (pc' := 30) mJ_348 (by decide +kernel) (ns_iconst (c := 0) (by decide +kernel)) rfl ?_
    refine nk_p (i := .istore_n 1) (len := 1) (pc' := 31) mJ_348 (by decide +kernel) (ns_istore_n (L' := [(1, nk_i 0), (0, nk_r l0)]) rfl rfl rfl (by decide +kernel)) rfl ?_
    refine nk_sub [1, 0] (L' := [(0, nk_r l0), (1, nk_i 0)]) rfl ?_
    exact ja_X4_wakeUsers_L31_ok zs nk_big _ _ _ _ t_l0 hr
  · have hr := nk_ifp (c := (nk_lor (nk_lor (S.1 (ja_c l0 3) 6) (S.1 (ja_c l0 3) 7)) (S.1 (ja_c l0 3) 8)) = 0) (Decidable.of_not_not hc) hr
    cases hr
    exact nk_vret (len := 1) mJ_348 (by decide +kernel) rfl
/-! SafeCode$Proof prove (LSafeCode$Program;)V -/
noncomputable def ja_X4_prove_b149 (rec103 : Nat → Int → Int → nk_S → Option (Int × nk_S)) (l0 : Nat) (l3 : Int) (l4 : Int) (S : nk_S) : Option (Int × nk_S) :=
  nk_lt (nk_W (l4 + 1)) fun v1 =>
  rec103 l0 l3 v1 S
theorem ja_X4_prove_b149_ok (zs : List Int32) {rec103 : Nat → Int → Int → nk_S → Option (Int × nk_S)} (hrec103 : ∀ (l0 : Nat) (l3 : Int) (l4 : Int) (S : nk_S) (R : Int × nk_S), nk_cl ja_Tt l0 = some 4 → rec103 l0 l3 l4 S = some R → nk_K ja_Tt mi_Γ (mi_ev zs) 0 336 103 [(0, nk_r l0), (3, nk_i l3), (4, nk_l l4)] [] S R) : ∀ (l0 : Nat) (l3 : Int) (l4 : Int) (S : nk_S) (R : Int × nk_S), nk_cl ja_Tt l0 = some 4 → ja_X4_prove_b149 rec103 l0 l3 l4 S = some R → nk_K ja_Tt mi_Γ (mi_ev zs) 0 336 149 [(0, nk_r l0), (3, nk_i l3), (4, nk_l l4)] [] S R := by
  intro l0 l3 l4 S R t_l0 hr
  unfold ja_X4_prove_b149 at hr
  refine nk_p (i := .lload 4) (len := 2) (pc' := 151) mJ_336 (by decide +kernel) (ns_lload 2 rfl) rfl ?_
  refine nk_p (i := .lconst 1) (len := 1) (pc' := 152) mJ_336 (by decide +kernel) (ns_lconst (c := 1) (by decide +kernel)) rfl ?_
  refine nk_p (i := .ladd) (len := 1) (pc' := 153) mJ_336 (by decide +kernel) ns_ladd rfl ?_
  obtain ⟨v1, h2, hr⟩ := nk_lte hr
  refine nk_p (i := .lstore 4) (len := 2) (pc' := 155) mJ_336 (by decide +kernel) (ns_lstore (L' := [(4, nk_l v1), (0, nk_r l0), (3, nk_i l3)]) h2 rfl (by decide +kernel)) rfl ?_
  refine nk_p (i := .goto (-52)) (len := 3) (pc' := 103) mJ_336 (by decide +kernel) (ns_goto (by decide +kernel)) rfl ?_
  refine nk_sub [1, 2, 0] (L' := [(0, nk_r l0), (3, nk_i l3), (4, nk_l v1)]) rfl ?_
  exact hrec103 _ _ _ _ _ t_l0 hr
noncomputable def ja_X4_prove_b103 (rec103 : Nat → Int → Int → nk_S → Option (Int × nk_S)) (l0 : Nat) (l3 : Int) (l4 : Int) (S : nk_S) : Option (Int × nk_S) :=
  if 1099511627776 ≤ l4 then
    some (0, S)
  else
    if l3 < 0 then
      some (0, S)
    else
      nk_bd (ja_X4_look l0 l3 S) fun r1 S2 =>
      nk_bd (ja_X7_takeWaiting (ja_c l0 2) (nk_w (l3 + 1)) S2) fun r5 S6 =>
      if 0 ≤ r5 then
        ja_X4_prove_b149 rec103 l0 r5 l4 S6
      else
        nk_bd (ja_X4_wakeUsers l0 S6) fun r8 S9 =>
        nk_bd (ja_X7_takeWaiting (ja_c l0 2) 0 S9) fun r11 S12 =>
        ja_X4_prove_b149 rec103 l0 r11 l4 S12
theorem ja_X4_prove_b103_ok (zs : List Int32) {rec103 : Nat → Int → Int → nk_S → Option (Int × nk_S)} (hrec103 : ∀ (l0 : Nat) (l3 : Int) (l4 : Int) (S : nk_S) (R : Int × nk_S), nk_cl ja_Tt l0 = some 4 → rec103 l0 l3 l4 S = some R → nk_K ja_Tt mi_Γ (mi_ev zs) 0 336 103 [(0, nk_r l0), (3, nk_i l3), (4, nk_l l4)] [] S R) : ∀ (l0 : Nat) (l3 : Int) (l4 : Int) (S : nk_S) (R : Int × nk_S), nk_cl ja_Tt l0 = some 4 → ja_X4_prove_b103 rec103 l0 l3 l4 S = some R → nk_K ja_Tt mi_Γ (mi_ev zs) 0 336 103 [(0, nk_r l0), (3, nk_i l3), (4, nk_l l4)] [] S R := by
  intro l0 l3 l4 S R t_l0 hr
  unfold ja_X4_prove_b103 at hr
  refine nk_p (i := .lload 4) (len := 2) (pc' := 105) mJ_336 (by decide +kernel) (ns_lload 2 rfl) rfl ?_
  refine nk_ldc2 (x := 95) (len := 3) (X := 1099511627776) (v := 1099511627776) (pc' := 108) mJ_336 (by decide +kernel) (by decide +kernel) (by decide +kernel) rfl ?_
  refine nk_p (i := .lcmp) (len := 1) (pc' := 109) mJ_336 (by decide +kernel) ns_lcmp rfl ?_
  refine nk_lcond (c := .ge) (off := 49) (len := 3) (t := 158) (pc' := 112) mJ_336 (by decide +kernel) (by decide +kernel) rfl (fun hc => ?_) (fun hc => ?_)
  · have hr := nk_ifp (c := 1099511627776 ≤ l4) hc hr
    cases hr
    exact nk_vret (len := 1) mJ_336 (by decide +kernel) rfl
  · have hr := nk_ifn (c := 1099511627776 ≤ l4) hc hr
    refine nk_p (i := .iload_n 3) (len := 1) (pc' := 113) mJ_336 (by decide +kernel) (ns_iload_n 1 rfl rfl) rfl ?_
    refine nk_icond (c := .lt) (off := 45) (len := 3) (t := 158) (pc' := 116) mJ_336 (by decide +kernel) (by decide +kernel) rfl (fun hc => ?_) (fun hc => ?_)
    · have hr := nk_ifp (c := l3 < 0) hc hr
      cases hr
      exact nk_vret (len := 1) mJ_336 (by decide +kernel) rfl
    · have hr := nk_ifn (c := l3 < 0) hc hr
      refine nk_p (i := .aload_n 0) (len := 1) (pc' := 117) mJ_336 (by decide +kernel) (ns_aload_n 0 rfl rfl) rfl ?_
      refine nk_p (i := .iload_n 3) (len := 1) (pc' := 118) mJ_336 (by decide +kernel) (ns_iload_n 1 rfl rfl) rfl ?_
      obtain ⟨r1, S2, h3, hr⟩ := nk_bde hr
      refine nk_callV (ci := 4) (n := 1) (x := 97) (len := 3) (j' := 325) (q' := 0) (r := r1) (S' := S2) (L2 := [(0, nk_r l0), (1, nk_i l3)]) (rest := []) (st' := []) (pc' := 121) mJ_336 (by decide +kernel) (by decide +kernel) rfl rfl t_l0 (Nat.le_of_ble_eq_true rfl) mJ_325 (Nat.le_of_ble_eq_true rfl) rfl (ja_X4_look_ok zs _ _ _ _ t_l0 h3) rfl ?_
      refine nk_p (i := .aload_n 0) (len := 1) (pc' := 122) mJ_336 (by decide +kernel) (ns_aload_n 0 rfl rfl) rfl ?_
      refine nk_getC (f := (2, 7, 0)) (x := 12) (len := 3) (ci := 4) (k := 2) (pc' := 125) ja_okT mJ_336 (by decide +kernel) (by decide +kernel) (by decide +kernel) (by decide) t_l0 rfl ?_
      have t4 : nk_cl ja_Tt (ja_c l0 2) = some 7 := nk_tc (y := 0) ja_okT t_l0 (by decide +kernel)
      refine nk_p (i := .iload_n 3) (len := 1) (pc' := 126) mJ_336 (by decide +kernel) (ns_iload_n 1 rfl rfl) rfl ?_
      refine nk_p (i := .iconst 1) (len := 1) (pc' := 127) mJ_336 (by decide +kernel) (ns_iconst (c := 1) (by decide +kernel)) rfl ?_
      refine nk_p (i := .iadd) (len := 1) (pc' := 128) mJ_336 (by decide +kernel) ns_iadd rfl ?_
      obtain ⟨r5, S6, h7, hr⟩ := nk_bde hr
      refine nk_callV (ci := 7) (n := 1) (x := 91) (len := 3) (j' := 411) (q' := 1) (r := r5) (S' := S6) (L2 := [(0, nk_r (ja_c l0 2)), (1, nk_i (nk_w (l3 + 1)))]) (rest := []) (st' := [nk_i r5]) (pc' := 131) mJ_336 (by decide +kernel) (by decide +kernel) rfl rfl t4 (Nat.le_of_ble_eq_true rfl) mJ_411 (Nat.le_of_ble_eq_true rfl) rfl (ja_X7_takeWaiting_ok zs _ _ _ _ t4 h7) rfl ?_
      refine nk_p (i := .istore_n 3) (len := 1) (pc' := 132) mJ_336 (by decide +kernel) (ns_istore_n (L' := [(3, nk_i r5), (0, nk_r l0), (4, nk_l l4)]) rfl rfl rfl (by decide +kernel)) rfl ?_
      refine nk_p (i := .iload_n 3) (len := 1) (pc' := 133) mJ_336 (by decide +kernel) (ns_iload_n 0 rfl rfl) rfl ?_
      refine nk_icond (c := .ge) (off := 16) (len := 3) (t := 149) (pc' := 136) mJ_336 (by decide +kernel) (by decide +kernel) rfl (fun hc => ?_) (fun hc => ?_)
      · have hr := nk_ifp (c := 0 ≤ r5) hc hr
        refine nk_sub [1, 0, 2] (L' := [(0, nk_r l0), (3, nk_i r5), (4, nk_l l4)]) rfl ?_
        exact ja_X4_prove_b149_ok zs hrec103 _ _ _ _ _ t_l0 hr
      · have hr := nk_ifn (c := 0 ≤ r5) hc hr
        refine nk_p (i := .aload_n 0) (len := 1) (pc' := 137) mJ_336 (by decide +kernel) (ns_aload_n 1 rfl rfl) rfl ?_
        obtain ⟨r8, S9, h10, hr⟩ := nk_bde hr
        refine nk_callV (ci := 4) (n := 0) (x := 101) (len := 3) (j' := 348) (q' := 0) (r := r8) (S' := S9) (L2 := [(0, nk_r l0)]) (rest := []) (st' := []) (pc' := 140) mJ_336 (by decide +kernel) (by decide +kernel) rfl rfl t_l0 (Nat.le_of_ble_eq_true rfl) mJ_348 (Nat.le_of_ble_eq_true rfl) rfl (ja_X4_wakeUsers_ok zs _ _ _ t_l0 h10) rfl ?_
        refine nk_p (i := .aload_n 0) (len := 1) (pc' := 141) mJ_336 (by decide +kernel) (ns_aload_n 1 rfl rfl) rfl ?_
        refine nk_getC (f := (2, 7, 0)) (x := 12) (len := 3) (ci := 4) (k := 2) (pc' := 144) ja_okT mJ_336 (by decide +kernel) (by decide +kernel) (by decide +kernel) (by decide) t_l0 rfl ?_
        refine nk_p (i := .iconst 0) (len := 1) (pc' := 145) mJ_336 (by decide +kernel) (ns_iconst (c := 0) (by decide +kernel)) rfl ?_
        obtain ⟨r11, S12, h13, hr⟩ := nk_bde hr
        refine nk_callV (ci := 7) (n := 1) (x := 91) (len := 3) (j' := 411) (q' := 1) (r := r11) (S' := S12) (L2 := [(0, nk_r (ja_c l0 2)), (1, nk_i 0)]) (rest := []) (st' := [nk_i r11]) (pc' := 148) mJ_336 (by decide +kernel) (by decide +kernel) rfl rfl t4 (Nat.le_of_ble_eq_true rfl) mJ_411 (Nat.le_of_ble_eq_true rfl) rfl (ja_X7_takeWaiting_ok zs _ _ _ _ t4 h13) rfl ?_
        refine nk_p (i := .istore_n 3) (len := 1) (pc' := 149) mJ_336 (by decide +kernel) (ns_istore_n (L' := [(3, nk_i r11), (0, nk_r l0), (4, nk_l l4)]) rfl rfl rfl (by decide +kernel)) rfl ?_
        refine nk_sub [1, 0, 2] (L' := [(0, nk_r l0), (3, nk_i r11), (4, nk_l l4)]) rfl ?_
        exact ja_X4_prove_b149_ok zs hrec103 _ _ _ _ _ t_l0 hr
noncomputable def ja_X4_prove_L103 : Nat → Nat → Int → Int → nk_S → Option (Int × nk_S)
  | 0, _, _, _, _ => none
  | n + 1, l0, l3, l4, S => ja_X4_prove_b103 (ja_X4_prove_L103 n) l0 l3 l4 S
theorem ja_X4_prove_L103_ok (zs : List Int32) : ∀ n : Nat, ∀ (l0 : Nat) (l3 : Int) (l4 : Int) (S : nk_S) (R : Int × nk_S), nk_cl ja_Tt l0 = some 4 → ja_X4_prove_L103 n l0 l3 l4 S = some R → nk_K ja_Tt mi_Γ (mi_ev zs) 0 336 103 [(0, nk_r l0), (3, nk_i l3), (4, nk_l l4)] [] S R := by
  intro n
  induction n with
  | zero => intro _ _ _ _ _ _ hr; cases hr
  | succ n ih => intro l0 l3 l4 S R t_l0 hr; exact ja_X4_prove_b103_ok zs ih l0 l3 l4 S R t_l0 hr
noncomputable def ja_X4_prove (l0 : Nat) (l1 : Nat) (S : nk_S) : Option (Int × nk_S) :=
  nk_lt (nk_wr S l0 0 l1) fun S1 =>
  nk_lt (nk_wr S1 l0 1 (ja_c l1 2)) fun S4 =>
  nk_bd (ja_X1_placeFields (ja_c (S4.2 l0 0) 0) S4) fun r8 S9 =>
  nk_bd (ja_X7_clear (ja_c l0 2) S9) fun r12 S13 =>
  nk_bd (ja_X8_clear (ja_c l0 3) (S13.2 l0 0) S13) fun r17 S18 =>
  nk_bd (ja_X4_findSuiting l0 S18) fun r20 S21 =>
  nk_lt (S21.1 (ja_c (S21.2 l0 0) 1) 1) fun v25 =>
  if 0 ≤ v25 ∧ v25 < 48 then
  nk_bd (ja_X7_enter (ja_c l0 2) (S21.1 (ja_c (ja_c (S21.2 l0 0) 1) 10) v25.toNat) (S21.1 (ja_c (ja_c (S21.2 l0 0) 1) 8) v25.toNat) 12 0 0 S21) fun r32 S33 =>
  nk_bd (ja_X7_takeWaiting (ja_c l0 2) 0 S33) fun r35 S36 =>
  ja_X4_prove_L103 nk_big l0 r35 0 S36
  else none
theorem ja_X4_prove_ok (zs : List Int32) : ∀ (l0 : Nat) (l1 : Nat) (S : nk_S) (R : Int × nk_S), nk_cl ja_Tt l0 = some 4 → nk_cl ja_Tt l1 = some 3 → ja_X4_prove l0 l1 S = some R → nk_K ja_Tt mi_Γ (mi_ev zs) 0 336 0 [(0, nk_r l0), (1, nk_r l1)] [] S R := by
  intro l0 l1 S R t_l0 t_l1 hr
  unfold ja_X4_prove at hr
  refine nk_p (i := .aload_n 0) (len := 1) (pc' := 1) mJ_336 (by decide +kernel) (ns_aload_n 0 rfl rfl) rfl ?_
  refine nk_p (i := .aload_n 1) (len := 1) (pc' := 2) mJ_336 (by decide +kernel) (ns_aload_n 1 rfl rfl) rfl ?_
  obtain ⟨S1, h2, hr⟩ := nk_lte hr
  refine nk_putM (cj := 3) (z := 0) (on := "SafeCode$Program") (x := 42) (len := 3) (ci := 4) (k := 0) (pc' := 5) ja_okT mJ_336 (by decide +kernel) (by decide +kernel) (by decide +kernel) t_l0 t_l1 rfl h2 ?_
  refine nk_p (i := .aload_n 0) (len := 1) (pc' := 6) mJ_336 (by decide +kernel) (ns_aload_n 0 rfl rfl) rfl ?_
  refine nk_p (i := .aload_n 1) (len := 1) (pc' := 7) mJ_336 (by decide +kernel) (ns_aload_n 1 rfl rfl) rfl ?_
  refine nk_getC (f := (2, 5, 0)) (x := 46) (len := 3) (ci := 3) (k := 2) (pc' := 10) ja_okT mJ_336 (by decide +kernel) (by decide +kernel) (by decide +kernel) (by decide) t_l1 rfl ?_
  have t3 : nk_cl ja_Tt (ja_c l1 2) = some 5 := nk_tc (y := 0) ja_okT t_l1 (by decide +kernel)
  obtain ⟨S4, h5, hr⟩ := nk_lte hr
  refine nk_putM (cj := 5) (z := 0) (on := "SafeCode$Ranges") (x := 52) (len := 3) (ci := 4) (k := 1) (pc' := 13) ja_okT mJ_336 (by decide +kernel) (by decide +kernel) (by decide +kernel) t_l0 t3 rfl h5 ?_
  refine nk_p (i := .aload_n 0) (len := 1) (pc' := 14) mJ_336 (by decide +kernel) (ns_aload_n 0 rfl rfl) rfl ?_
  refine nk_getM (cj := 3) (z := 0) (x := 42) (len := 3) (ci := 4) (k := 0) (pc' := 17) ja_okT mJ_336 (by decide +kernel) (by decide +kernel) (by decide +kernel) t_l0 rfl (fun t6 => ?_)
  refine nk_getC (f := (2, 1, 0)) (x := 53) (len := 3) (ci := 3) (k := 0) (pc' := 20) ja_okT mJ_336 (by decide +kernel) (by decide +kernel) (by decide +kernel) (by decide) t6 rfl ?_
  have t7 : nk_cl ja_Tt (ja_c (S4.2 l0 0) 0) = some 1 := nk_tc (y := 0) ja_okT t6 (by decide +kernel)
  obtain ⟨r8, S9, h10, hr⟩ := nk_bde hr
  refine nk_callV (ci := 1) (n := 0) (x := 57) (len := 3) (j' := 259) (q' := 0) (r := r8) (S' := S9) (L2 := [(0, nk_r (ja_c (S4.2 l0 0) 0))]) (rest := []) (st' := []) (pc' := 23) mJ_336 (by decide +kernel) (by decide +kernel) rfl rfl t7 (Nat.le_of_ble_eq_true rfl) mJ_259 (Nat.le_of_ble_eq_true rfl) rfl (ja_X1_placeFields_ok zs _ _ _ t7 h10) rfl ?_
  refine nk_p (i := .aload_n 0) (len := 1) (pc' := 24) mJ_336 (by decide +kernel) (ns_aload_n 0 rfl rfl) rfl ?_
  refine nk_getC (f := (2, 7, 0)) (x := 12) (len := 3) (ci := 4) (k := 2) (pc' := 27) ja_okT mJ_336 (by decide +kernel) (by decide +kernel) (by decide +kernel) (by decide) t_l0 rfl ?_
  have t11 : nk_cl ja_Tt (ja_c l0 2) = some 7 := nk_tc (y := 0) ja_okT t_l0 (by decide +kernel)
  obtain ⟨r12, S13, h14, hr⟩ := nk_bde hr
  refine nk_callV (ci := 7) (n := 0) (x := 62) (len := 3) (j' := 399) (q' := 0) (r := r12) (S' := S13) (L2 := [(0, nk_r (ja_c l0 2))]) (rest := []) (st' := []) (pc' := 30) mJ_336 (by decide +kernel) (by decide +kernel) rfl rfl t11 (Nat.le_of_ble_eq_true rfl) mJ_399 (Nat.le_of_ble_eq_true rfl) rfl (ja_X7_clear_ok zs _ _ _ t11 h14) rfl ?_
  refine nk_p (i := .aload_n 0) (len := 1) (pc' := 31) mJ_336 (by decide +kernel) (ns_aload_n 0 rfl rfl) rfl ?_
  refine nk_getC (f := (2, 8, 0)) (x := 21) (len := 3) (ci := 4) (k := 3) (pc' := 34) ja_okT mJ_336 (by decide +kernel) (by decide +kernel) (by decide +kernel) (by decide) t_l0 rfl ?_
  have t15 : nk_cl ja_Tt (ja_c l0 3) = some 8 := nk_tc (y := 0) ja_okT t_l0 (by decide +kernel)
  refine nk_p (i := .aload_n 0) (len := 1) (pc' := 35) mJ_336 (by decide +kernel) (ns_aload_n 0 rfl rfl) rfl ?_
  refine nk_getM (cj := 3) (z := 0) (x := 42) (len := 3) (ci := 4) (k := 0) (pc' := 38) ja_okT mJ_336 (by decide +kernel) (by decide +kernel) (by decide +kernel) t_l0 rfl (fun t16 => ?_)
  obtain ⟨r17, S18, h19, hr⟩ := nk_bde hr
  refine nk_callV (ci := 8) (n := 1) (x := 65) (len := 3) (j' := 418) (q' := 0) (r := r17) (S' := S18) (L2 := [(0, nk_r (ja_c l0 3)), (1, nk_r (S13.2 l0 0))]) (rest := []) (st' := []) (pc' := 41) mJ_336 (by decide +kernel) (by decide +kernel) rfl rfl t15 (Nat.le_of_ble_eq_true rfl) mJ_418 (Nat.le_of_ble_eq_true rfl) rfl (ja_X8_clear_ok zs _ _ _ _ t15 t16 h19) rfl ?_
  refine nk_p (i := .aload_n 0) (len := 1) (pc' := 42) mJ_336 (by decide +kernel) (ns_aload_n 0 rfl rfl) rfl ?_
  obtain ⟨r20, S21, h22, hr⟩ := nk_bde hr
  refine nk_callV (ci := 4) (n := 0) (x := 68) (len := 3) (j' := 319) (q' := 0) (r := r20) (S' := S21) (L2 := [(0, nk_r l0)]) (rest := []) (st' := []) (pc' := 45) mJ_336 (by decide +kernel) (by decide +kernel) rfl rfl t_l0 (Nat.le_of_ble_eq_true rfl) mJ_319 (Nat.le_of_ble_eq_true rfl) rfl (ja_X4_findSuiting_ok zs _ _ _ t_l0 h22) rfl ?_
  refine nk_p (i := .aload_n 0) (len := 1) (pc' := 46) mJ_336 (by decide +kernel) (ns_aload_n 0 rfl rfl) rfl ?_
  refine nk_getM (cj := 3) (z := 0) (x := 42) (len := 3) (ci := 4) (k := 0) (pc' := 49) ja_okT mJ_336 (by decide +kernel) (by decide +kernel) (by decide +kernel) t_l0 rfl (fun t23 => ?_)
  refine nk_getC (f := (2, 0, 0)) (x := 71) (len := 3) (ci := 3) (k := 1) (pc' := 52) ja_okT mJ_336 (by decide +kernel) (by decide +kernel) (by decide +kernel) (by decide) t23 rfl ?_
  have t24 : nk_cl ja_Tt (ja_c (S21.2 l0 0) 1) = some 0 := nk_tc (y := 0) ja_okT t23 (by decide +kernel)
  refine nk_getI (y := (0, 0)) (x := 75) (len := 3) (ci := 0) (k := 1) (pc' := 55) ja_okT mJ_336 (by decide +kernel) (by decide +kernel) (by decide +kernel) t24 rfl ?_
  obtain ⟨v25, h26, hr⟩ := nk_lte hr
  refine nk_p (i := .istore_n 2) (len := 1) (pc' := 56) mJ_336 (by decide +kernel) (ns_istore_n (L' := [(2, nk_i v25), (0, nk_r l0), (1, nk_r l1)]) h26 rfl rfl (by decide +kernel)) rfl ?_
  refine nk_p (i := .aload_n 0) (len := 1) (pc' := 57) mJ_336 (by decide +kernel) (ns_aload_n 1 rfl rfl) rfl ?_
  refine nk_getC (f := (2, 7, 0)) (x := 12) (len := 3) (ci := 4) (k := 2) (pc' := 60) ja_okT mJ_336 (by decide +kernel) (by decide +kernel) (by decide +kernel) (by decide) t_l0 rfl ?_
  refine nk_p (i := .aload_n 0) (len := 1) (pc' := 61) mJ_336 (by decide +kernel) (ns_aload_n 1 rfl rfl) rfl ?_
  refine nk_getM (cj := 3) (z := 0) (x := 42) (len := 3) (ci := 4) (k := 0) (pc' := 64) ja_okT mJ_336 (by decide +kernel) (by decide +kernel) (by decide +kernel) t_l0 rfl (fun t27 => ?_)
  refine nk_getC (f := (2, 0, 0)) (x := 71) (len := 3) (ci := 3) (k := 1) (pc' := 67) ja_okT mJ_336 (by decide +kernel) (by decide +kernel) (by decide +kernel) (by decide) t27 rfl ?_
  refine nk_getC (f := (4, 1, 48)) (x := 81) (len := 3) (ci := 0) (k := 10) (pc' := 70) ja_okT mJ_336 (by decide +kernel) (by decide +kernel) (by decide +kernel) (by decide) t24 rfl ?_
  have t28 : nk_ar ja_Tt (ja_c (ja_c (S21.2 l0 0) 1) 10) = some (1, 48) := nk_ta ja_okT t24 (by decide +kernel)
  refine nk_p (i := .iload_n 2) (len := 1) (pc' := 71) mJ_336 (by decide +kernel) (ns_iload_n 0 rfl rfl) rfl ?_
  obtain ⟨h29, hr⟩ := nk_cke hr
  refine nk_iald (len := 1) (N := 48) (pc' := 72) mJ_336 (by decide +kernel) t28 h29.1 h29.2 rfl rfl ?_
  refine nk_p (i := .aload_n 0) (len := 1) (pc' := 73) mJ_336 (by decide +kernel) (ns_aload_n 1 rfl rfl) rfl ?_
  refine nk_getM (cj := 3) (z := 0) (x := 42) (len := 3) (ci := 4) (k := 0) (pc' := 76) ja_okT mJ_336 (by decide +kernel) (by decide +kernel) (by decide +kernel) t_l0 rfl (fun t30 => ?_)
  refine nk_getC (f := (2, 0, 0)) (x := 71) (len := 3) (ci := 3) (k := 1) (pc' := 79) ja_okT mJ_336 (by decide +kernel) (by decide +kernel) (by decide +kernel) (by decide) t30 rfl ?_
  refine nk_getC (f := (4, 1, 48)) (x := 84) (len := 3) (ci := 0) (k := 8) (pc' := 82) ja_okT mJ_336 (by decide +kernel) (by decide +kernel) (by decide +kernel) (by decide) t24 rfl ?_
  have t31 : nk_ar ja_Tt (ja_c (ja_c (S21.2 l0 0) 1) 8) = some (1, 48) := nk_ta ja_okT t24 (by decide +kernel)
  refine nk_p (i := .iload_n 2) (len := 1) (pc' := 83) mJ_336 (by decide +kernel) (ns_iload_n 0 rfl rfl) rfl ?_
  refine nk_iald (len := 1) (N := 48) (pc' := 84) mJ_336 (by decide +kernel) t31 h29.1 h29.2 rfl rfl ?_
  refine nk_p (i := .bipush 12) (len := 2) (pc' := 86) mJ_336 (by decide +kernel) (ns_bipush (c := 12) (by decide +kernel)) rfl ?_
  refine nk_p (i := .iconst 0) (len := 1) (pc' := 87) mJ_336 (by decide +kernel) (ns_iconst (c := 0) (by decide +kernel)) rfl ?_
  refine nk_p (i := .lconst 0) (len := 1) (pc' := 88) mJ_336 (by decide +kernel) (ns_lconst (c := 0) (by decide +kernel)) rfl ?_
  obtain ⟨r32, S33, h34, hr⟩ := nk_bde hr
  refine nk_callV (ci := 7) (n := 5) (x := 87) (len := 3) (j' := 402) (q' := 0) (r := r32) (S' := S33) (L2 := [(0, nk_r (ja_c l0 2)), (1, nk_i (S21.1 (ja_c (ja_c (S21.2 l0 0) 1) 10) v25.toNat)), (2, nk_i (S21.1 (ja_c (ja_c (S21.2 l0 0) 1) 8) v25.toNat)), (3, nk_i 12), (4, nk_i 0), (5, nk_l 0)]) (rest := []) (st' := []) (pc' := 91) mJ_336 (by decide +kernel) (by decide +kernel) rfl rfl t11 (Nat.le_of_ble_eq_true rfl) mJ_402 (Nat.le_of_ble_eq_true rfl) rfl (ja_X7_enter_ok zs _ _ _ _ _ _ _ _ t11 h34) rfl ?_
  refine nk_p (i := .aload_n 0) (len := 1) (pc' := 92) mJ_336 (by decide +kernel) (ns_aload_n 1 rfl rfl) rfl ?_
  refine nk_getC (f := (2, 7, 0)) (x := 12) (len := 3) (ci := 4) (k := 2) (pc' := 95) ja_okT mJ_336 (by decide +kernel) (by decide +kernel) (by decide +kernel) (by decide) t_l0 rfl ?_
  refine nk_p (i := .iconst 0) (len := 1) (pc' := 96) mJ_336 (by decide +kernel) (ns_iconst (c := 0) (by decide +kernel)) rfl ?_
  obtain ⟨r35, S36, h37, hr⟩ := nk_bde hr
  refine nk_callV (ci := 7) (n := 1) (x := 91) (len := 3) (j' := 411) (q' := 1) (r := r35) (S' := S36) (L2 := [(0, nk_r (ja_c l0 2)), (1, nk_i 0)]) (rest := []) (st' := [nk_i r35]) (pc' := 99) mJ_336 (by decide +kernel) (by decide +kernel) rfl rfl t11 (Nat.le_of_ble_eq_true rfl) mJ_411 (Nat.le_of_ble_eq_true rfl) rfl (ja_X7_takeWaiting_ok zs _ _ _ _ t11 h37) rfl ?_
  refine nk_p (i := .istore_n 3) (len := 1) (pc' := 100) mJ_336 (by decide +kernel) (ns_istore_n (L' := [(3, nk_i r35), (2, nk_i v25), (0, nk_r l0), (1, nk_r l1)]) rfl rfl rfl (by decide +kernel)) rfl ?_
  refine nk_p (i := .lconst 0) (len := 1) (pc' := 101) mJ_336 (by decide +kernel) (ns_lconst (c := 0) (by decide +kernel)) rfl ?_
  refine nk_p (i := .lstore 4) (len := 2) (pc' := 103) mJ_336 (by decide +kernel) (ns_lstore (L' := [(4, nk_l 0), (3, nk_i r35), (2, nk_i v25), (0, nk_r l0), (1, nk_r l1)]) rfl rfl (by decide +kernel)) rfl ?_
  refine nk_sub [3, 1, 0] (L' := [(0, nk_r l0), (3, nk_i r35), (4, nk_l 0)]) rfl ?_
  exact ja_X4_prove_L103_ok zs nk_big _ _ _ _ _ t_l0 hr
/-! SafeCode load ()I -/
noncomputable def ja_X11_load_b137 (l0 : Nat) (l1 : Int) (S : nk_S) : Option (Int × nk_S) :=
  if l1 = 0 then
    nk_lt (nk_wr S l0 4 (S.2 l0 5)) fun S3 =>
    nk_lt (nk_wr S3 l0 5 (S.2 l0 4)) fun S5 =>
    nk_lt (nk_wi S5 l0 6 1) fun S7 =>
    nk_bd (ja_X4_prove (ja_c l0 10) (S7.2 l0 4) S7) fun r11 S12 =>
    some (l1, S12)
  else
    some (l1, S)
theorem ja_X11_load_b137_ok (zs : List Int32) : ∀ (l0 : Nat) (l1 : Int) (S : nk_S) (R : Int × nk_S), nk_cl ja_Tt l0 = some 11 → ja_X11_load_b137 l0 l1 S = some R → nk_K ja_Tt mi_Γ (mi_ev zs) 1 67 137 [(0, nk_r l0), (1, nk_i l1)] [] S R := by
  intro l0 l1 S R t_l0 hr
  unfold ja_X11_load_b137 at hr
  refine nk_p (i := .iload_n 1) (len := 1) (pc' := 138) mJ_67 (by decide +kernel) (ns_iload_n 1 rfl rfl) rfl ?_
  refine nk_icond (c := .ne) (off := 37) (len := 3) (t := 175) (pc' := 141) mJ_67 (by decide +kernel) (by decide +kernel) rfl (fun hc => ?_) (fun hc => ?_)
  · have hr := nk_ifn (c := l1 = 0) hc hr
    refine nk_p (i := .iload_n 1) (len := 1) (pc' := 176) mJ_67 (by decide +kernel) (ns_iload_n 1 rfl rfl) rfl ?_
    cases hr
    exact nk_iret (ty := .int) (len := 1) mJ_67 (by decide +kernel) rfl (nk_nar_i _)
  · have hr := nk_ifp (c := l1 = 0) (Decidable.of_not_not hc) hr
    refine nk_p (i := .aload_n 0) (len := 1) (pc' := 142) mJ_67 (by decide +kernel) (ns_aload_n 0 rfl rfl) rfl ?_
    refine nk_getM (cj := 3) (z := 0) (x := 23) (len := 3) (ci := 11) (k := 4) (pc' := 145) ja_okT mJ_67 (by decide +kernel) (by decide +kernel) (by decide +kernel) t_l0 rfl (fun t1 => ?_)
    refine nk_p (i := .astore_n 2) (len := 1) (pc' := 146) mJ_67 (by decide +kernel) (ns_astore_n (L' := [(2, nk_r (S.2 l0 4)), (0, nk_r l0), (1, nk_i l1)]) rfl rfl (by decide +kernel)) rfl ?_
    refine nk_p (i := .aload_n 0) (len := 1) (pc' := 147) mJ_67 (by decide +kernel) (ns_aload_n 1 rfl rfl) rfl ?_
    refine nk_p (i := .aload_n 0) (len := 1) (pc' := 148) mJ_67 (by decide +kernel) (ns_aload_n 1 rfl rfl) rfl ?_
    refine nk_getM (cj := 3) (z := 0) (x := 27) (len := 3) (ci := 11) (k := 5) (pc' := 151) ja_okT mJ_67 (by decide +kernel) (by decide +kernel) (by decide +kernel) t_l0 rfl (fun t2 => ?_)
    obtain ⟨S3, h4, hr⟩ := nk_lte hr
    refine nk_putM (cj := 3) (z := 0) (on := "SafeCode$Program") (x := 23) (len := 3) (ci := 11) (k := 4) (pc' := 154) ja_okT mJ_67 (by decide +kernel) (by decide +kernel) (by decide +kernel) t_l0 t2 rfl h4 ?_
    refine nk_p (i := .aload_n 0) (len := 1) (pc' := 155) mJ_67 (by decide +kernel) (ns_aload_n 1 rfl rfl) rfl ?_
    refine nk_p (i := .aload_n 2) (len := 1) (pc' := 156) mJ_67 (by decide +kernel) (ns_aload_n 0 rfl rfl) rfl ?_
    obtain ⟨S5, h6, hr⟩ := nk_lte hr
    refine nk_putM (cj := 3) (z := 0) (on := "SafeCode$Program") (x := 27) (len := 3) (ci := 11) (k := 5) (pc' := 159) ja_okT mJ_67 (by decide +kernel) (by decide +kernel) (by decide +kernel) t_l0 t1 rfl h6 ?_
    refine nk_p (i := .aload_n 0) (len := 1) (pc' := 160) mJ_67 (by decide +kernel) (ns_aload_n 1 rfl rfl) rfl ?_
    refine nk_p (i := .iconst 1) (len := 1) (pc' := 161) mJ_67 (by decide +kernel) (ns_iconst (c := 1) (by decide +kernel)) rfl ?_
    obtain ⟨S7, h8, hr⟩ := nk_lte hr
    refine nk_putI (y := (0, 0)) (ty := .boolean) (x := 108) (len := 3) (ci := 11) (k := 6) (pc' := 164) ja_okT mJ_67 (by decide +kernel) (by decide +kernel) (by decide +kernel) t_l0 (Or.inr ⟨rfl, by decide⟩) rfl h8 ?_
    refine nk_p (i := .aload_n 0) (len := 1) (pc' := 165) mJ_67 (by decide +kernel) (ns_aload_n 1 rfl rfl) rfl ?_
    refine nk_getC (f := (2, 4, 0)) (x := 55) (len := 3) (ci := 11) (k := 10) (pc' := 168) ja_okT mJ_67 (by decide +kernel) (by decide +kernel) (by decide +kernel) (by decide) t_l0 rfl ?_
    have t9 : nk_cl ja_Tt (ja_c l0 10) = some 4 := nk_tc (y := 0) ja_okT t_l0 (by decide +kernel)
    refine nk_p (i := .aload_n 0) (len := 1) (pc' := 169) mJ_67 (by decide +kernel) (ns_aload_n 1 rfl rfl) rfl ?_
    refine nk_getM (cj := 3) (z := 0) (x := 23) (len := 3) (ci := 11) (k := 4) (pc' := 172) ja_okT mJ_67 (by decide +kernel) (by decide +kernel) (by decide +kernel) t_l0 rfl (fun t10 => ?_)
    obtain ⟨r11, S12, h13, hr⟩ := nk_bde hr
    refine nk_callV (ci := 4) (n := 1) (x := 112) (len := 3) (j' := 336) (q' := 0) (r := r11) (S' := S12) (L2 := [(0, nk_r (ja_c l0 10)), (1, nk_r (S7.2 l0 4))]) (rest := []) (st' := []) (pc' := 175) mJ_67 (by decide +kernel) (by decide +kernel) rfl rfl t9 (Nat.le_of_ble_eq_true rfl) mJ_336 (Nat.le_of_ble_eq_true rfl) rfl (ja_X4_prove_ok zs _ _ _ _ t9 t10 h13) rfl ?_
    refine nk_p (i := .iload_n 1) (len := 1) (pc' := 176) mJ_67 (by decide +kernel) (ns_iload_n 2 rfl rfl) rfl ?_
    cases hr
    exact nk_iret (ty := .int) (len := 1) mJ_67 (by decide +kernel) rfl (nk_nar_i _)
noncomputable def ja_X11_load_b136 (l0 : Nat) (s0 : Int) (S : nk_S) : Option (Int × nk_S) :=
  ja_X11_load_b137 l0 s0 S
theorem ja_X11_load_b136_ok (zs : List Int32) : ∀ (l0 : Nat) (s0 : Int) (S : nk_S) (R : Int × nk_S), nk_cl ja_Tt l0 = some 11 → ja_X11_load_b136 l0 s0 S = some R → nk_K ja_Tt mi_Γ (mi_ev zs) 1 67 136 [(0, nk_r l0)] [nk_i s0] S R := by
  intro l0 s0 S R t_l0 hr
  unfold ja_X11_load_b136 at hr
  refine nk_p (i := .istore_n 1) (len := 1) (pc' := 137) mJ_67 (by decide +kernel) (ns_istore_n (L' := [(1, nk_i s0), (0, nk_r l0)]) rfl rfl rfl (by decide +kernel)) rfl ?_
  refine nk_sub [1, 0] (L' := [(0, nk_r l0), (1, nk_i s0)]) rfl ?_
  exact ja_X11_load_b137_ok zs _ _ _ _ t_l0 hr
noncomputable def ja_X11_load_b124 (l0 : Nat) (l2 : Int) (s0 : Nat) (s1 : Int) (S : nk_S) : Option (Int × nk_S) :=
  nk_lt (nk_wi S s0 7 s1) fun S1 =>
  if 0 ≤ l2 then
    ja_X11_load_b136 l0 4 S1
  else
    ja_X11_load_b136 l0 0 S1
theorem ja_X11_load_b124_ok (zs : List Int32) : ∀ (l0 : Nat) (l2 : Int) (s0 : Nat) (s1 : Int) (S : nk_S) (R : Int × nk_S), nk_cl ja_Tt l0 = some 11 → nk_cl ja_Tt s0 = some 11 → ja_X11_load_b124 l0 l2 s0 s1 S = some R → nk_K ja_Tt mi_Γ (mi_ev zs) 1 67 124 [(0, nk_r l0), (2, nk_i l2)] [nk_i s1, nk_r s0] S R := by
  intro l0 l2 s0 s1 S R t_l0 t_s0 hr
  unfold ja_X11_load_b124 at hr
  obtain ⟨S1, h2, hr⟩ := nk_lte hr
  refine nk_putI (y := (0, 0)) (ty := .int) (x := 30) (len := 3) (ci := 11) (k := 7) (pc' := 127) ja_okT mJ_67 (by decide +kernel) (by decide +kernel) (by decide +kernel) t_s0 (Or.inl rfl) rfl h2 ?_
  refine nk_p (i := .iload_n 2) (len := 1) (pc' := 128) mJ_67 (by decide +kernel) (ns_iload_n 1 rfl rfl) rfl ?_
  refine nk_icond (c := .ge) (off := 7) (len := 3) (t := 135) (pc' := 131) mJ_67 (by decide +kernel) (by decide +kernel) rfl (fun hc => ?_) (fun hc => ?_)
  · have hr := nk_ifp (c := 0 ≤ l2) hc hr
    refine nk_p (i := .iconst 4) (len := 1) (pc' := 136) mJ_67 (by decide +kernel) (ns_iconst (c := 4) (by decide +kernel)) rfl ?_
    refine nk_sub [0] (L' := [(0, nk_r l0)]) rfl ?_
    exact ja_X11_load_b136_ok zs _ _ _ _ t_l0 hr
  · have hr := nk_ifn (c := 0 ≤ l2) hc hr
    refine nk_p (i := .iconst 0) (len := 1) (pc' := 132) mJ_67 (by decide +kernel) (ns_iconst (c := 0) (by decide +kernel)) rfl ?_
    refine nk_p (i := .goto 4) (len := 3) (pc' := 136) mJ_67 (by decide +kernel) (ns_goto (by decide +kernel)) rfl ?_
    refine nk_sub [0] (L' := [(0, nk_r l0)]) rfl ?_
    exact ja_X11_load_b136_ok zs _ _ _ _ t_l0 hr
noncomputable def ja_X11_load_b90 (l0 : Nat) (l1 : Int) (S : nk_S) : Option (Int × nk_S) :=
  if l1 = 0 then
    nk_bd (ja_X9_firstWrong (ja_c l0 9) (S.2 l0 5) S) fun r3 S4 =>
    if 0 ≤ r3 then
      if 0 ≤ r3 ∧ r3 < 1024 then
      ja_X11_load_b124 l0 r3 l0 (S4.1 (ja_c (S4.2 l0 5) 7) r3.toNat) S4
      else none
    else
      ja_X11_load_b124 l0 r3 l0 (-1) S4
  else
    ja_X11_load_b137 l0 l1 S
theorem ja_X11_load_b90_ok (zs : List Int32) : ∀ (l0 : Nat) (l1 : Int) (S : nk_S) (R : Int × nk_S), nk_cl ja_Tt l0 = some 11 → ja_X11_load_b90 l0 l1 S = some R → nk_K ja_Tt mi_Γ (mi_ev zs) 1 67 90 [(0, nk_r l0), (1, nk_i l1)] [] S R := by
  intro l0 l1 S R t_l0 hr
  unfold ja_X11_load_b90 at hr
  refine nk_p (i := .iload_n 1) (len := 1) (pc' := 91) mJ_67 (by decide +kernel) (ns_iload_n 1 rfl rfl) rfl ?_
  refine nk_icond (c := .ne) (off := 46) (len := 3) (t := 137) (pc' := 94) mJ_67 (by decide +kernel) (by decide +kernel) rfl (fun hc => ?_) (fun hc => ?_)
  · have hr := nk_ifn (c := l1 = 0) hc hr
    exact ja_X11_load_b137_ok zs _ _ _ _ t_l0 hr
  · have hr := nk_ifp (c := l1 = 0) (Decidable.of_not_not hc) hr
    refine nk_p (i := .aload_n 0) (len := 1) (pc' := 95) mJ_67 (by decide +kernel) (ns_aload_n 0 rfl rfl) rfl ?_
    refine nk_getC (f := (2, 9, 0)) (x := 48) (len := 3) (ci := 11) (k := 9) (pc' := 98) ja_okT mJ_67 (by decide +kernel) (by decide +kernel) (by decide +kernel) (by decide) t_l0 rfl ?_
    have t1 : nk_cl ja_Tt (ja_c l0 9) = some 9 := nk_tc (y := 0) ja_okT t_l0 (by decide +kernel)
    refine nk_p (i := .aload_n 0) (len := 1) (pc' := 99) mJ_67 (by decide +kernel) (ns_aload_n 0 rfl rfl) rfl ?_
    refine nk_getM (cj := 3) (z := 0) (x := 27) (len := 3) (ci := 11) (k := 5) (pc' := 102) ja_okT mJ_67 (by decide +kernel) (by decide +kernel) (by decide +kernel) t_l0 rfl (fun t2 => ?_)
    obtain ⟨r3, S4, h5, hr⟩ := nk_bde hr
    refine nk_callV (ci := 9) (n := 1) (x := 102) (len := 3) (j' := 425) (q' := 1) (r := r3) (S' := S4) (L2 := [(0, nk_r (ja_c l0 9)), (1, nk_r (S.2 l0 5))]) (rest := []) (st' := [nk_i r3]) (pc' := 105) mJ_67 (by decide +kernel) (by decide +kernel) rfl rfl t1 (Nat.le_of_ble_eq_true rfl) mJ_425 (Nat.le_of_ble_eq_true rfl) rfl (ja_X9_firstWrong_ok zs _ _ _ _ t1 t2 h5) rfl ?_
    refine nk_p (i := .istore_n 2) (len := 1) (pc' := 106) mJ_67 (by decide +kernel) (ns_istore_n (L' := [(2, nk_i r3), (0, nk_r l0), (1, nk_i l1)]) rfl rfl rfl (by decide +kernel)) rfl ?_
    refine nk_p (i := .aload_n 0) (len := 1) (pc' := 107) mJ_67 (by decide +kernel) (ns_aload_n 1 rfl rfl) rfl ?_
    refine nk_p (i := .iload_n 2) (len := 1) (pc' := 108) mJ_67 (by decide +kernel) (ns_iload_n 0 rfl rfl) rfl ?_
    refine nk_icond (c := .ge) (off := 7) (len := 3) (t := 115) (pc' := 111) mJ_67 (by decide +kernel) (by decide +kernel) rfl (fun hc => ?_) (fun hc => ?_)
    · have hr := nk_ifp (c := 0 ≤ r3) hc hr
      refine nk_p (i := .aload_n 0) (len := 1) (pc' := 116) mJ_67 (by decide +kernel) (ns_aload_n 1 rfl rfl) rfl ?_
      refine nk_getM (cj := 3) (z := 0) (x := 27) (len := 3) (ci := 11) (k := 5) (pc' := 119) ja_okT mJ_67 (by decide +kernel) (by decide +kernel) (by decide +kernel) t_l0 rfl (fun t6 => ?_)
      refine nk_getC (f := (4, 1, 1024)) (x := 105) (len := 3) (ci := 3) (k := 7) (pc' := 122) ja_okT mJ_67 (by decide +kernel) (by decide +kernel) (by decide +kernel) (by decide) t6 rfl ?_
      have t7 : nk_ar ja_Tt (ja_c (S4.2 l0 5) 7) = some (1, 1024) := nk_ta ja_okT t6 (by decide +kernel)
      refine nk_p (i := .iload_n 2) (len := 1) (pc' := 123) mJ_67 (by decide +kernel) (ns_iload_n 0 rfl rfl) rfl ?_
      obtain ⟨h8, hr⟩ := nk_cke hr
      refine nk_iald (len := 1) (N := 1024) (pc' := 124) mJ_67 (by decide +kernel) t7 h8.1 h8.2 rfl rfl ?_
      refine nk_sub [1, 0] (L' := [(0, nk_r l0), (2, nk_i r3)]) rfl ?_
      exact ja_X11_load_b124_ok zs _ _ _ _ _ _ t_l0 t_l0 hr
    · have hr := nk_ifn (c := 0 ≤ r3) hc hr
      refine nk_p (i := .iconst (-1)) (len := 1) (pc' := 112) mJ_67 (by decide +kernel) (ns_iconst (c := (-1)) (by decide +kernel)) rfl ?_
      refine nk_p (i := .goto 12) (len := 3) (pc' := 124) mJ_67 (by decide +kernel) (ns_goto (by decide +kernel)) rfl ?_
      refine nk_sub [1, 0] (L' := [(0, nk_r l0), (2, nk_i r3)]) rfl ?_
      exact ja_X11_load_b124_ok zs _ _ _ _ _ _ t_l0 t_l0 hr
noncomputable def ja_X11_load_b89 (l0 : Nat) (s0 : Int) (S : nk_S) : Option (Int × nk_S) :=
  ja_X11_load_b90 l0 s0 S
theorem ja_X11_load_b89_ok (zs : List Int32) : ∀ (l0 : Nat) (s0 : Int) (S : nk_S) (R : Int × nk_S), nk_cl ja_Tt l0 = some 11 → ja_X11_load_b89 l0 s0 S = some R → nk_K ja_Tt mi_Γ (mi_ev zs) 1 67 89 [(0, nk_r l0)] [nk_i s0] S R := by
  intro l0 s0 S R t_l0 hr
  unfold ja_X11_load_b89 at hr
  refine nk_p (i := .istore_n 1) (len := 1) (pc' := 90) mJ_67 (by decide +kernel) (ns_istore_n (L' := [(1, nk_i s0), (0, nk_r l0)]) rfl rfl rfl (by decide +kernel)) rfl ?_
  refine nk_sub [1, 0] (L' := [(0, nk_r l0), (1, nk_i s0)]) rfl ?_
  exact ja_X11_load_b90_ok zs _ _ _ _ t_l0 hr
noncomputable def ja_X11_load_b58 (l0 : Nat) (l1 : Int) (S : nk_S) : Option (Int × nk_S) :=
  if l1 = 0 then
    nk_bd (ja_X6_resolveNames (ja_c l0 8) (S.2 l0 5) S) fun r3 S4 =>
    nk_lt (nk_wi S4 l0 7 r3) fun S6 =>
    if 0 ≤ (S6.1 l0 7) then
      ja_X11_load_b89 l0 3 S6
    else
      ja_X11_load_b89 l0 0 S6
  else
    ja_X11_load_b90 l0 l1 S
theorem ja_X11_load_b58_ok (zs : List Int32) : ∀ (l0 : Nat) (l1 : Int) (S : nk_S) (R : Int × nk_S), nk_cl ja_Tt l0 = some 11 → ja_X11_load_b58 l0 l1 S = some R → nk_K ja_Tt mi_Γ (mi_ev zs) 1 67 58 [(0, nk_r l0), (1, nk_i l1)] [] S R := by
  intro l0 l1 S R t_l0 hr
  unfold ja_X11_load_b58 at hr
  refine nk_p (i := .iload_n 1) (len := 1) (pc' := 59) mJ_67 (by decide +kernel) (ns_iload_n 1 rfl rfl) rfl ?_
  refine nk_icond (c := .ne) (off := 31) (len := 3) (t := 90) (pc' := 62) mJ_67 (by decide +kernel) (by decide +kernel) rfl (fun hc => ?_) (fun hc => ?_)
  · have hr := nk_ifn (c := l1 = 0) hc hr
    exact ja_X11_load_b90_ok zs _ _ _ _ t_l0 hr
  · have hr := nk_ifp (c := l1 = 0) (Decidable.of_not_not hc) hr
    refine nk_p (i := .aload_n 0) (len := 1) (pc' := 63) mJ_67 (by decide +kernel) (ns_aload_n 0 rfl rfl) rfl ?_
    refine nk_p (i := .aload_n 0) (len := 1) (pc' := 64) mJ_67 (by decide +kernel) (ns_aload_n 0 rfl rfl) rfl ?_
    refine nk_getC (f := (2, 6, 0)) (x := 39) (len := 3) (ci := 11) (k := 8) (pc' := 67) ja_okT mJ_67 (by decide +kernel) (by decide +kernel) (by decide +kernel) (by decide) t_l0 rfl ?_
    have t1 : nk_cl ja_Tt (ja_c l0 8) = some 6 := nk_tc (y := 0) ja_okT t_l0 (by decide +kernel)
    refine nk_p (i := .aload_n 0) (len := 1) (pc' := 68) mJ_67 (by decide +kernel) (ns_aload_n 0 rfl rfl) rfl ?_
    refine nk_getM (cj := 3) (z := 0) (x := 27) (len := 3) (ci := 11) (k := 5) (pc' := 71) ja_okT mJ_67 (by decide +kernel) (by decide +kernel) (by decide +kernel) t_l0 rfl (fun t2 => ?_)
    obtain ⟨r3, S4, h5, hr⟩ := nk_bde hr
    refine nk_callV (ci := 6) (n := 1) (x := 98) (len := 3) (j' := 383) (q' := 1) (r := r3) (S' := S4) (L2 := [(0, nk_r (ja_c l0 8)), (1, nk_r (S.2 l0 5))]) (rest := [nk_r l0]) (st' := [nk_i r3, nk_r l0]) (pc' := 74) mJ_67 (by decide +kernel) (by decide +kernel) rfl rfl t1 (Nat.le_of_ble_eq_true rfl) mJ_383 (Nat.le_of_ble_eq_true rfl) rfl (ja_X6_resolveNames_ok zs _ _ _ _ t1 t2 h5) rfl ?_
    obtain ⟨S6, h7, hr⟩ := nk_lte hr
    refine nk_putI (y := (0, 0)) (ty := .int) (x := 30) (len := 3) (ci := 11) (k := 7) (pc' := 77) ja_okT mJ_67 (by decide +kernel) (by decide +kernel) (by decide +kernel) t_l0 (Or.inl rfl) rfl h7 ?_
    refine nk_p (i := .aload_n 0) (len := 1) (pc' := 78) mJ_67 (by decide +kernel) (ns_aload_n 0 rfl rfl) rfl ?_
    refine nk_getI (y := (0, 0)) (x := 30) (len := 3) (ci := 11) (k := 7) (pc' := 81) ja_okT mJ_67 (by decide +kernel) (by decide +kernel) (by decide +kernel) t_l0 rfl ?_
    refine nk_icond (c := .ge) (off := 7) (len := 3) (t := 88) (pc' := 84) mJ_67 (by decide +kernel) (by decide +kernel) rfl (fun hc => ?_) (fun hc => ?_)
    · have hr := nk_ifp (c := 0 ≤ (S6.1 l0 7)) hc hr
      refine nk_p (i := .iconst 3) (len := 1) (pc' := 89) mJ_67 (by decide +kernel) (ns_iconst (c := 3) (by decide +kernel)) rfl ?_
      refine nk_sub [0] (L' := [(0, nk_r l0)]) rfl ?_
      exact ja_X11_load_b89_ok zs _ _ _ _ t_l0 hr
    · have hr := nk_ifn (c := 0 ≤ (S6.1 l0 7)) hc hr
      refine nk_p (i := .iconst 0) (len := 1) (pc' := 85) mJ_67 (by decide +kernel) (ns_iconst (c := 0) (by decide +kernel)) rfl ?_
      refine nk_p (i := .goto 4) (len := 3) (pc' := 89) mJ_67 (by decide +kernel) (ns_goto (by decide +kernel)) rfl ?_
      refine nk_sub [0] (L' := [(0, nk_r l0)]) rfl ?_
      exact ja_X11_load_b89_ok zs _ _ _ _ t_l0 hr
noncomputable def ja_X11_load_b57 (l0 : Nat) (s0 : Int) (S : nk_S) : Option (Int × nk_S) :=
  ja_X11_load_b58 l0 s0 S
theorem ja_X11_load_b57_ok (zs : List Int32) : ∀ (l0 : Nat) (s0 : Int) (S : nk_S) (R : Int × nk_S), nk_cl ja_Tt l0 = some 11 → ja_X11_load_b57 l0 s0 S = some R → nk_K ja_Tt mi_Γ (mi_ev zs) 1 67 57 [(0, nk_r l0)] [nk_i s0] S R := by
  intro l0 s0 S R t_l0 hr
  unfold ja_X11_load_b57 at hr
  refine nk_p (i := .istore_n 1) (len := 1) (pc' := 58) mJ_67 (by decide +kernel) (ns_istore_n (L' := [(1, nk_i s0), (0, nk_r l0)]) rfl rfl rfl (by decide +kernel)) rfl ?_
  refine nk_sub [1, 0] (L' := [(0, nk_r l0), (1, nk_i s0)]) rfl ?_
  exact ja_X11_load_b58_ok zs _ _ _ _ t_l0 hr
noncomputable def ja_X11_load_b30 (l0 : Nat) (l1 : Int) (S : nk_S) : Option (Int × nk_S) :=
  if l1 = 0 then
    nk_bd (ja_X6_checkForm (ja_c l0 8) S) fun r2 S3 =>
    nk_lt (nk_wi S3 l0 7 r2) fun S5 =>
    if 0 ≤ (S5.1 l0 7) then
      ja_X11_load_b57 l0 2 S5
    else
      ja_X11_load_b57 l0 0 S5
  else
    ja_X11_load_b58 l0 l1 S
theorem ja_X11_load_b30_ok (zs : List Int32) : ∀ (l0 : Nat) (l1 : Int) (S : nk_S) (R : Int × nk_S), nk_cl ja_Tt l0 = some 11 → ja_X11_load_b30 l0 l1 S = some R → nk_K ja_Tt mi_Γ (mi_ev zs) 1 67 30 [(0, nk_r l0), (1, nk_i l1)] [] S R := by
  intro l0 l1 S R t_l0 hr
  unfold ja_X11_load_b30 at hr
  refine nk_p (i := .iload_n 1) (len := 1) (pc' := 31) mJ_67 (by decide +kernel) (ns_iload_n 1 rfl rfl) rfl ?_
  refine nk_icond (c := .ne) (off := 27) (len := 3) (t := 58) (pc' := 34) mJ_67 (by decide +kernel) (by decide +kernel) rfl (fun hc => ?_) (fun hc => ?_)
  · have hr := nk_ifn (c := l1 = 0) hc hr
    exact ja_X11_load_b58_ok zs _ _ _ _ t_l0 hr
  · have hr := nk_ifp (c := l1 = 0) (Decidable.of_not_not hc) hr
    refine nk_p (i := .aload_n 0) (len := 1) (pc' := 35) mJ_67 (by decide +kernel) (ns_aload_n 0 rfl rfl) rfl ?_
    refine nk_p (i := .aload_n 0) (len := 1) (pc' := 36) mJ_67 (by decide +kernel) (ns_aload_n 0 rfl rfl) rfl ?_
    refine nk_getC (f := (2, 6, 0)) (x := 39) (len := 3) (ci := 11) (k := 8) (pc' := 39) ja_okT mJ_67 (by decide +kernel) (by decide +kernel) (by decide +kernel) (by decide) t_l0 rfl ?_
    have t1 : nk_cl ja_Tt (ja_c l0 8) = some 6 := nk_tc (y := 0) ja_okT t_l0 (by decide +kernel)
    obtain ⟨r2, S3, h4, hr⟩ := nk_bde hr
    refine nk_callV (ci := 6) (n := 0) (x := 94) (len := 3) (j' := 373) (q' := 1) (r := r2) (S' := S3) (L2 := [(0, nk_r (ja_c l0 8))]) (rest := [nk_r l0]) (st' := [nk_i r2, nk_r l0]) (pc' := 42) mJ_67 (by decide +kernel) (by decide +kernel) rfl rfl t1 (Nat.le_of_ble_eq_true rfl) mJ_373 (Nat.le_of_ble_eq_true rfl) rfl (ja_X6_checkForm_ok zs _ _ _ t1 h4) rfl ?_
    obtain ⟨S5, h6, hr⟩ := nk_lte hr
    refine nk_putI (y := (0, 0)) (ty := .int) (x := 30) (len := 3) (ci := 11) (k := 7) (pc' := 45) ja_okT mJ_67 (by decide +kernel) (by decide +kernel) (by decide +kernel) t_l0 (Or.inl rfl) rfl h6 ?_
    refine nk_p (i := .aload_n 0) (len := 1) (pc' := 46) mJ_67 (by decide +kernel) (ns_aload_n 0 rfl rfl) rfl ?_
    refine nk_getI (y := (0, 0)) (x := 30) (len := 3) (ci := 11) (k := 7) (pc' := 49) ja_okT mJ_67 (by decide +kernel) (by decide +kernel) (by decide +kernel) t_l0 rfl ?_
    refine nk_icond (c := .ge) (off := 7) (len := 3) (t := 56) (pc' := 52) mJ_67 (by decide +kernel) (by decide +kernel) rfl (fun hc => ?_) (fun hc => ?_)
    · have hr := nk_ifp (c := 0 ≤ (S5.1 l0 7)) hc hr
      refine nk_p (i := .iconst 2) (len := 1) (pc' := 57) mJ_67 (by decide +kernel) (ns_iconst (c := 2) (by decide +kernel)) rfl ?_
      refine nk_sub [0] (L' := [(0, nk_r l0)]) rfl ?_
      exact ja_X11_load_b57_ok zs _ _ _ _ t_l0 hr
    · have hr := nk_ifn (c := 0 ≤ (S5.1 l0 7)) hc hr
      refine nk_p (i := .iconst 0) (len := 1) (pc' := 53) mJ_67 (by decide +kernel) (ns_iconst (c := 0) (by decide +kernel)) rfl ?_
      refine nk_p (i := .goto 4) (len := 3) (pc' := 57) mJ_67 (by decide +kernel) (ns_goto (by decide +kernel)) rfl ?_
      refine nk_sub [0] (L' := [(0, nk_r l0)]) rfl ?_
      exact ja_X11_load_b57_ok zs _ _ _ _ t_l0 hr
noncomputable def ja_X11_load (l0 : Nat) (S : nk_S) : Option (Int × nk_S) :=
  nk_lt (nk_wi S l0 7 (-1)) fun S1 =>
  nk_bd (ja_X10_cutText (ja_c l0 3) S1) fun r4 S5 =>
  if r4 = 0 then
    nk_lt (nk_wi S5 l0 7 (S5.1 (ja_c l0 3) 4)) fun S7 =>
    ja_X11_load_b30 l0 1 S7
  else
    ja_X11_load_b30 l0 0 S5
theorem ja_X11_load_ok (zs : List Int32) : ∀ (l0 : Nat) (S : nk_S) (R : Int × nk_S), nk_cl ja_Tt l0 = some 11 → ja_X11_load l0 S = some R → nk_K ja_Tt mi_Γ (mi_ev zs) 1 67 0 [(0, nk_r l0)] [] S R := by
  intro l0 S R t_l0 hr
  unfold ja_X11_load at hr
  refine nk_p (i := .iconst 0) (len := 1) (pc' := 1) mJ_67 (by decide +kernel) (ns_iconst (c := 0) (by decide +kernel)) rfl ?_
  refine nk_p (i := .istore_n 1) (len := 1) (pc' := 2) mJ_67 (by decide +kernel) (ns_istore_n (L' := [(1, nk_i 0), (0, nk_r l0)]) rfl rfl rfl (by decide +kernel)) rfl ?_
  refine nk_p (i := .aload_n 0) (len := 1) (pc' := 3) mJ_67 (by decide +kernel) (ns_aload_n 1 rfl rfl) rfl ?_
  refine nk_p (i := .iconst (-1)) (len := 1) (pc' := 4) mJ_67 (by decide +kernel) (ns_iconst (c := (-1)) (by decide +kernel)) rfl ?_
  obtain ⟨S1, h2, hr⟩ := nk_lte hr
  refine nk_putI (y := (0, 0)) (ty := .int) (x := 30) (len := 3) (ci := 11) (k := 7) (pc' := 7) ja_okT mJ_67 (by decide +kernel) (by decide +kernel) (by decide +kernel) t_l0 (Or.inl rfl) rfl h2 ?_
  refine nk_p (i := .aload_n 0) (len := 1) (pc' := 8) mJ_67 (by decide +kernel) (ns_aload_n 1 rfl rfl) rfl ?_
  refine nk_getC (f := (2, 10, 0)) (x := 16) (len := 3) (ci := 11) (k := 3) (pc' := 11) ja_okT mJ_67 (by decide +kernel) (by decide +kernel) (by decide +kernel) (by decide) t_l0 rfl ?_
  have t3 : nk_cl ja_Tt (ja_c l0 3) = some 10 := nk_tc (y := 0) ja_okT t_l0 (by decide +kernel)
  obtain ⟨r4, S5, h6, hr⟩ := nk_bde hr
  refine nk_callV (ci := 10) (n := 0) (x := 87) (len := 3) (j' := 34) (q' := 1) (r := r4) (S' := S5) (L2 := [(0, nk_r (ja_c l0 3))]) (rest := []) (st' := [nk_i r4]) (pc' := 14) mJ_67 (by decide +kernel) (by decide +kernel) rfl rfl t3 (Nat.le_of_ble_eq_true rfl) mJ_34 (Nat.le_of_ble_eq_true rfl) rfl (ja_X10_cutText_ok zs _ _ _ t3 h6) rfl ?_
  refine nk_icond (c := .ne) (off := 16) (len := 3) (t := 30) (pc' := 17) mJ_67 (by decide +kernel) (by decide +kernel) rfl (fun hc => ?_) (fun hc => ?_)
  · have hr := nk_ifn (c := r4 = 0) hc hr
    refine nk_sub [1, 0] (L' := [(0, nk_r l0), (1, nk_i 0)]) rfl ?_
    exact ja_X11_load_b30_ok zs _ _ _ _ t_l0 hr
  · have hr := nk_ifp (c := r4 = 0) (Decidable.of_not_not hc) hr
    refine nk_p (i := .iconst 1) (len := 1) (pc' := 18) mJ_67 (by decide +kernel) (ns_iconst (c := 1) (by decide +kernel)) rfl ?_
    refine nk_p (i := .istore_n 1) (len := 1) (pc' := 19) mJ_67 (by decide +kernel) (ns_istore_n (L' := [(1, nk_i 1), (0, nk_r l0)]) rfl rfl rfl (by decide +kernel)) rfl ?_
    refine nk_p (i := .aload_n 0) (len := 1) (pc' := 20) mJ_67 (by decide +kernel) (ns_aload_n 1 rfl rfl) rfl ?_
    refine nk_p (i := .aload_n 0) (len := 1) (pc' := 21) mJ_67 (by decide +kernel) (ns_aload_n 1 rfl rfl) rfl ?_
    refine nk_getC (f := (2, 10, 0)) (x := 16) (len := 3) (ci := 11) (k := 3) (pc' := 24) ja_okT mJ_67 (by decide +kernel) (by decide +kernel) (by decide +kernel) (by decide) t_l0 rfl ?_
    refine nk_getI (y := (0, 0)) (x := 91) (len := 3) (ci := 10) (k := 4) (pc' := 27) ja_okT mJ_67 (by decide +kernel) (by decide +kernel) (by decide +kernel) t3 rfl ?_
    obtain ⟨S7, h8, hr⟩ := nk_lte hr
    refine nk_putI (y := (0, 0)) (ty := .int) (x := 30) (len := 3) (ci := 11) (k := 7) (pc' := 30) ja_okT mJ_67 (by decide +kernel) (by decide +kernel) (by decide +kernel) t_l0 (Or.inl rfl) rfl h8 ?_
    refine nk_sub [1, 0] (L' := [(0, nk_r l0), (1, nk_i 1)]) rfl ?_
    exact ja_X11_load_b30_ok zs _ _ _ _ t_l0 hr
/-! SafeCode low (II)I -/
noncomputable def ja_X11_low (l0 : Nat) (l1 : Int) (l2 : Int) (S : nk_S) : Option (Int × nk_S) :=
  nk_bd (ja_X11_factsAt l0 l1 l2 S) fun r1 S2 =>
  if (nk_land r1 4503599627370496) = 0 then
    some (0, S2)
  else
    nk_bd (ja_X11_valueAt l0 l1 l2 S2) fun r4 S5 =>
    nk_bd (ja_X5_lowest r4 S5) fun r7 S8 =>
    some (r7, S8)
theorem ja_X11_low_ok (zs : List Int32) : ∀ (l0 : Nat) (l1 : Int) (l2 : Int) (S : nk_S) (R : Int × nk_S), nk_cl ja_Tt l0 = some 11 → ja_X11_low l0 l1 l2 S = some R → nk_K ja_Tt mi_Γ (mi_ev zs) 1 68 0 [(0, nk_r l0), (1, nk_i l1), (2, nk_i l2)] [] S R := by
  intro l0 l1 l2 S R t_l0 hr
  unfold ja_X11_low at hr
  refine nk_p (i := .aload_n 0) (len := 1) (pc' := 1) mJ_68 (by decide +kernel) (ns_aload_n 0 rfl rfl) rfl ?_
  refine nk_p (i := .iload_n 1) (len := 1) (pc' := 2) mJ_68 (by decide +kernel) (ns_iload_n 1 rfl rfl) rfl ?_
  refine nk_p (i := .iload_n 2) (len := 1) (pc' := 3) mJ_68 (by decide +kernel) (ns_iload_n 2 rfl rfl) rfl ?_
  obtain ⟨r1, S2, h3, hr⟩ := nk_bde hr
  refine nk_callV (ci := 11) (n := 2) (x := 194) (len := 3) (j' := 57) (q' := 2) (r := r1) (S' := S2) (L2 := [(0, nk_r l0), (1, nk_i l1), (2, nk_i l2)]) (rest := []) (st' := [nk_l r1]) (pc' := 6) mJ_68 (by decide +kernel) (by decide +kernel) rfl rfl t_l0 (Nat.le_of_ble_eq_true rfl) mJ_57 (Nat.le_of_ble_eq_true rfl) rfl (ja_X11_factsAt_ok zs _ _ _ _ _ t_l0 h3) rfl ?_
  refine nk_ldc2 (x := 198) (len := 3) (X := 4503599627370496) (v := 4503599627370496) (pc' := 9) mJ_68 (by decide +kernel) (by decide +kernel) (by decide +kernel) rfl ?_
  refine nk_p (i := .land) (len := 1) (pc' := 10) mJ_68 (by decide +kernel) ns_land rfl ?_
  refine nk_p (i := .lconst 0) (len := 1) (pc' := 11) mJ_68 (by decide +kernel) (ns_lconst (c := 0) (by decide +kernel)) rfl ?_
  refine nk_p (i := .lcmp) (len := 1) (pc' := 12) mJ_68 (by decide +kernel) ns_lcmp rfl ?_
  refine nk_lcond (c := .ne) (off := 7) (len := 3) (t := 19) (pc' := 15) mJ_68 (by decide +kernel) (by decide +kernel) rfl (fun hc => ?_) (fun hc => ?_)
  · have hr := nk_ifn (c := (nk_land r1 4503599627370496) = 0) hc hr
    refine nk_p (i := .aload_n 0) (len := 1) (pc' := 20) mJ_68 (by decide +kernel) (ns_aload_n 0 rfl rfl) rfl ?_
    refine nk_p (i := .iload_n 1) (len := 1) (pc' := 21) mJ_68 (by decide +kernel) (ns_iload_n 1 rfl rfl) rfl ?_
    refine nk_p (i := .iload_n 2) (len := 1) (pc' := 22) mJ_68 (by decide +kernel) (ns_iload_n 2 rfl rfl) rfl ?_
    obtain ⟨r4, S5, h6, hr⟩ := nk_bde hr
    refine nk_callV (ci := 11) (n := 2) (x := 200) (len := 3) (j' := 78) (q' := 2) (r := r4) (S' := S5) (L2 := [(0, nk_r l0), (1, nk_i l1), (2, nk_i l2)]) (rest := []) (st' := [nk_l r4]) (pc' := 25) mJ_68 (by decide +kernel) (by decide +kernel) rfl rfl t_l0 (Nat.le_of_ble_eq_true rfl) mJ_78 (Nat.le_of_ble_eq_true rfl) rfl (ja_X11_valueAt_ok zs _ _ _ _ _ t_l0 h6) rfl ?_
    obtain ⟨r7, S8, h9, hr⟩ := nk_bde hr
    refine nk_callS (ci := 0) (n := 1) (x := 203) (len := 3) (j' := 363) (q' := 1) (r := r7) (S' := S8) (L2 := [(0, nk_l r4)]) (rest := []) (st' := [nk_i r7]) (pc' := 28) mJ_68 (by decide +kernel) (by decide +kernel) (Nat.le_of_ble_eq_true rfl) rfl rfl (Nat.le_of_ble_eq_true rfl) mJ_363 (Nat.le_of_ble_eq_true rfl) ja_Tpos rfl (ja_X5_lowest_ok zs _ _ _ h9) rfl ?_
    cases hr
    exact nk_iret (ty := .int) (len := 1) mJ_68 (by decide +kernel) rfl (nk_nar_i _)
  · have hr := nk_ifp (c := (nk_land r1 4503599627370496) = 0) (Decidable.of_not_not hc) hr
    refine nk_p (i := .iconst 0) (len := 1) (pc' := 16) mJ_68 (by decide +kernel) (ns_iconst (c := 0) (by decide +kernel)) rfl ?_
    refine nk_p (i := .goto 12) (len := 3) (pc' := 28) mJ_68 (by decide +kernel) (ns_goto (by decide +kernel)) rfl ?_
    cases hr
    exact nk_iret (ty := .int) (len := 1) mJ_68 (by decide +kernel) rfl (nk_nar_i _)
/-! SafeCode out (I)I -/
noncomputable def ja_X11_out (l0 : Nat) (l1 : Int) (S : nk_S) : Option (Int × nk_S) :=
  if l1 < 0 then
    some (0, S)
  else
    if 256 ≤ l1 then
      some (0, S)
    else
      if l1 < (S.1 (ja_c l0 13) 17) then
        if 0 ≤ l1 ∧ l1 < 256 then
        some ((S.1 (ja_c (ja_c l0 13) 18) l1.toNat), S)
        else none
      else
        some (0, S)
theorem ja_X11_out_ok (zs : List Int32) : ∀ (l0 : Nat) (l1 : Int) (S : nk_S) (R : Int × nk_S), nk_cl ja_Tt l0 = some 11 → ja_X11_out l0 l1 S = some R → nk_K ja_Tt mi_Γ (mi_ev zs) 1 69 0 [(0, nk_r l0), (1, nk_i l1)] [] S R := by
  intro l0 l1 S R t_l0 hr
  unfold ja_X11_out at hr
  refine nk_p (i := .iload_n 1) (len := 1) (pc' := 1) mJ_69 (by decide +kernel) (ns_iload_n 1 rfl rfl) rfl ?_
  refine nk_icond (c := .lt) (off := 21) (len := 3) (t := 22) (pc' := 4) mJ_69 (by decide +kernel) (by decide +kernel) rfl (fun hc => ?_) (fun hc => ?_)
  · have hr := nk_ifp (c := l1 < 0) hc hr
    refine nk_p (i := .iconst 0) (len := 1) (pc' := 23) mJ_69 (by decide +kernel) (ns_iconst (c := 0) (by decide +kernel)) rfl ?_
    refine nk_p (i := .goto 12) (len := 3) (pc' := 35) mJ_69 (by decide +kernel) (ns_goto (by decide +kernel)) rfl ?_
    cases hr
    exact nk_iret (ty := .int) (len := 1) mJ_69 (by decide +kernel) rfl (nk_nar_i _)
  · have hr := nk_ifn (c := l1 < 0) hc hr
    refine nk_p (i := .iload_n 1) (len := 1) (pc' := 5) mJ_69 (by decide +kernel) (ns_iload_n 1 rfl rfl) rfl ?_
    refine nk_p (i := .sipush 256) (len := 3) (pc' := 8) mJ_69 (by decide +kernel) (ns_sipush (c := 256) (by decide +kernel)) rfl ?_
    refine nk_icmp (c := .ge) (off := 14) (len := 3) (t := 22) (pc' := 11) mJ_69 (by decide +kernel) (by decide +kernel) rfl (fun hc => ?_) (fun hc => ?_)
    · have hr := nk_ifp (c := 256 ≤ l1) hc hr
      refine nk_p (i := .iconst 0) (len := 1) (pc' := 23) mJ_69 (by decide +kernel) (ns_iconst (c := 0) (by decide +kernel)) rfl ?_
      refine nk_p (i := .goto 12) (len := 3) (pc' := 35) mJ_69 (by decide +kernel) (ns_goto (by decide +kernel)) rfl ?_
      cases hr
      exact nk_iret (ty := .int) (len := 1) mJ_69 (by decide +kernel) rfl (nk_nar_i _)
    · have hr := nk_ifn (c := 256 ≤ l1) hc hr
      refine nk_p (i := .iload_n 1) (len := 1) (pc' := 12) mJ_69 (by decide +kernel) (ns_iload_n 1 rfl rfl) rfl ?_
      refine nk_p (i := .aload_n 0) (len := 1) (pc' := 13) mJ_69 (by decide +kernel) (ns_aload_n 0 rfl rfl) rfl ?_
      refine nk_getC (f := (2, 2, 0)) (x := 68) (len := 3) (ci := 11) (k := 13) (pc' := 16) ja_okT mJ_69 (by decide +kernel) (by decide +kernel) (by decide +kernel) (by decide) t_l0 rfl ?_
      have t1 : nk_cl ja_Tt (ja_c l0 13) = some 2 := nk_tc (y := 0) ja_okT t_l0 (by decide +kernel)
      refine nk_getI (y := (0, 0)) (x := 246) (len := 3) (ci := 2) (k := 17) (pc' := 19) ja_okT mJ_69 (by decide +kernel) (by decide +kernel) (by decide +kernel) t1 rfl ?_
      refine nk_icmp (c := .lt) (off := 7) (len := 3) (t := 26) (pc' := 22) mJ_69 (by decide +kernel) (by decide +kernel) rfl (fun hc => ?_) (fun hc => ?_)
      · have hr := nk_ifp (c := l1 < (S.1 (ja_c l0 13) 17)) hc hr
        refine nk_p (i := .aload_n 0) (len := 1) (pc' := 27) mJ_69 (by decide +kernel) (ns_aload_n 0 rfl rfl) rfl ?_
        refine nk_getC (f := (2, 2, 0)) (x := 68) (len := 3) (ci := 11) (k := 13) (pc' := 30) ja_okT mJ_69 (by decide +kernel) (by decide +kernel) (by decide +kernel) (by decide) t_l0 rfl ?_
        refine nk_getC (f := (4, 1, 256)) (x := 249) (len := 3) (ci := 2) (k := 18) (pc' := 33) ja_okT mJ_69 (by decide +kernel) (by decide +kernel) (by decide +kernel) (by decide) t1 rfl ?_
        have t2 : nk_ar ja_Tt (ja_c (ja_c l0 13) 18) = some (1, 256) := nk_ta ja_okT t1 (by decide +kernel)
        refine nk_p (i := .iload_n 1) (len := 1) (pc' := 34) mJ_69 (by decide +kernel) (ns_iload_n 1 rfl rfl) rfl ?_
        obtain ⟨h3, hr⟩ := nk_cke hr
        refine nk_iald (len := 1) (N := 256) (pc' := 35) mJ_69 (by decide +kernel) t2 h3.1 h3.2 rfl rfl ?_
        cases hr
        exact nk_iret (ty := .int) (len := 1) mJ_69 (by decide +kernel) rfl (nk_nar_i _)
      · have hr := nk_ifn (c := l1 < (S.1 (ja_c l0 13) 17)) hc hr
        refine nk_p (i := .iconst 0) (len := 1) (pc' := 23) mJ_69 (by decide +kernel) (ns_iconst (c := 0) (by decide +kernel)) rfl ?_
        refine nk_p (i := .goto 12) (len := 3) (pc' := 35) mJ_69 (by decide +kernel) (ns_goto (by decide +kernel)) rfl ?_
        cases hr
        exact nk_iret (ty := .int) (len := 1) mJ_69 (by decide +kernel) rfl (nk_nar_i _)
/-! SafeCode place ()I -/
noncomputable def ja_X11_place (l0 : Nat) (S : nk_S) : Option (Int × nk_S) :=
  some ((S.1 (ja_c l0 13) 15), S)
theorem ja_X11_place_ok (zs : List Int32) : ∀ (l0 : Nat) (S : nk_S) (R : Int × nk_S), nk_cl ja_Tt l0 = some 11 → ja_X11_place l0 S = some R → nk_K ja_Tt mi_Γ (mi_ev zs) 1 70 0 [(0, nk_r l0)] [] S R := by
  intro l0 S R t_l0 hr
  unfold ja_X11_place at hr
  refine nk_p (i := .aload_n 0) (len := 1) (pc' := 1) mJ_70 (by decide +kernel) (ns_aload_n 0 rfl rfl) rfl ?_
  refine nk_getC (f := (2, 2, 0)) (x := 68) (len := 3) (ci := 11) (k := 13) (pc' := 4) ja_okT mJ_70 (by decide +kernel) (by decide +kernel) (by decide +kernel) (by decide) t_l0 rfl ?_
  have t1 : nk_cl ja_Tt (ja_c l0 13) = some 2 := nk_tc (y := 0) ja_okT t_l0 (by decide +kernel)
  refine nk_getI (y := (0, 0)) (x := 240) (len := 3) (ci := 2) (k := 15) (pc' := 7) ja_okT mJ_70 (by decide +kernel) (by decide +kernel) (by decide +kernel) t1 rfl ?_
  cases hr
  exact nk_iret (ty := .int) (len := 1) mJ_70 (by decide +kernel) rfl (nk_nar_i _)
/-! SafeCode$Machine beginBody (I)V -/
noncomputable def ja_X2_beginBody_b2 (rec2 : Nat → Int → Int → nk_S → Option (Int × nk_S)) (l0 : Nat) (l1 : Int) (l2 : Int) (S : nk_S) : Option (Int × nk_S) :=
  if 20 ≤ l2 then
    if 0 ≤ l1 ∧ l1 < 48 then
    if 0 ≤ (S.1 l0 5) ∧ (S.1 l0 5) < 64 then
    nk_lt (nk_wi S (ja_c l0 3) (S.1 l0 5).toNat (S.1 (ja_c (ja_c (S.2 l0 1) 1) 10) l1.toNat)) fun S7 =>
    if 0 ≤ (S7.1 l0 5) ∧ (S7.1 l0 5) < 64 then
    nk_lt (nk_wi S7 (ja_c l0 4) (S7.1 l0 5).toNat 0) fun S11 =>
    some (0, S11)
    else none
    else none
    else none
  else
    if 0 ≤ (nk_w ((nk_w ((S.1 l0 5) * 20)) + l2)) ∧ (nk_w ((nk_w ((S.1 l0 5) * 20)) + l2)) < 1280 then
    nk_lt (nk_wi S (ja_c l0 2) (nk_w ((nk_w ((S.1 l0 5) * 20)) + l2)).toNat 0) fun S15 =>
    nk_lt (nk_w (l2 + 1)) fun v17 =>
    rec2 l0 l1 v17 S15
    else none
theorem ja_X2_beginBody_b2_ok (zs : List Int32) {rec2 : Nat → Int → Int → nk_S → Option (Int × nk_S)} (hrec2 : ∀ (l0 : Nat) (l1 : Int) (l2 : Int) (S : nk_S) (R : Int × nk_S), nk_cl ja_Tt l0 = some 2 → rec2 l0 l1 l2 S = some R → nk_K ja_Tt mi_Γ (mi_ev zs) 0 262 2 [(0, nk_r l0), (1, nk_i l1), (2, nk_i l2)] [] S R) : ∀ (l0 : Nat) (l1 : Int) (l2 : Int) (S : nk_S) (R : Int × nk_S), nk_cl ja_Tt l0 = some 2 → ja_X2_beginBody_b2 rec2 l0 l1 l2 S = some R → nk_K ja_Tt mi_Γ (mi_ev zs) 0 262 2 [(0, nk_r l0), (1, nk_i l1), (2, nk_i l2)] [] S R := by
  intro l0 l1 l2 S R t_l0 hr
  unfold ja_X2_beginBody_b2 at hr
  refine nk_p (i := .iload_n 2) (len := 1) (pc' := 3) mJ_262 (by decide +kernel) (ns_iload_n 2 rfl rfl) rfl ?_
  refine nk_p (i := .bipush 20) (len := 2) (pc' := 5) mJ_262 (by decide +kernel) (ns_bipush (c := 20) (by decide +kernel)) rfl ?_
  refine nk_icmp (c := .ge) (off := 24) (len := 3) (t := 29) (pc' := 8) mJ_262 (by decide +kernel) (by decide +kernel) rfl (fun hc => ?_) (fun hc => ?_)
  · have hr := nk_ifp (c := 20 ≤ l2) hc hr
    refine nk_p (i := .aload_n 0) (len := 1) (pc' := 30) mJ_262 (by decide +kernel) (ns_aload_n 0 rfl rfl) rfl ?_
    refine nk_getC (f := (4, 1, 64)) (x := 15) (len := 3) (ci := 2) (k := 3) (pc' := 33) ja_okT mJ_262 (by decide +kernel) (by decide +kernel) (by decide +kernel) (by decide) t_l0 rfl ?_
    have t1 : nk_ar ja_Tt (ja_c l0 3) = some (1, 64) := nk_ta ja_okT t_l0 (by decide +kernel)
    refine nk_p (i := .aload_n 0) (len := 1) (pc' := 34) mJ_262 (by decide +kernel) (ns_aload_n 0 rfl rfl) rfl ?_
    refine nk_getI (y := (0, 0)) (x := 52) (len := 3) (ci := 2) (k := 5) (pc' := 37) ja_okT mJ_262 (by decide +kernel) (by decide +kernel) (by decide +kernel) t_l0 rfl ?_
    refine nk_p (i := .aload_n 0) (len := 1) (pc' := 38) mJ_262 (by decide +kernel) (ns_aload_n 0 rfl rfl) rfl ?_
    refine nk_getM (cj := 3) (z := 0) (x := 41) (len := 3) (ci := 2) (k := 1) (pc' := 41) ja_okT mJ_262 (by decide +kernel) (by decide +kernel) (by decide +kernel) t_l0 rfl (fun t2 => ?_)
    refine nk_getC (f := (2, 0, 0)) (x := 70) (len := 3) (ci := 3) (k := 1) (pc' := 44) ja_okT mJ_262 (by decide +kernel) (by decide +kernel) (by decide +kernel) (by decide) t2 rfl ?_
    have t3 : nk_cl ja_Tt (ja_c (S.2 l0 1) 1) = some 0 := nk_tc (y := 0) ja_okT t2 (by decide +kernel)
    refine nk_getC (f := (4, 1, 48)) (x := 107) (len := 3) (ci := 0) (k := 10) (pc' := 47) ja_okT mJ_262 (by decide +kernel) (by decide +kernel) (by decide +kernel) (by decide) t3 rfl ?_
    have t4 : nk_ar ja_Tt (ja_c (ja_c (S.2 l0 1) 1) 10) = some (1, 48) := nk_ta ja_okT t3 (by decide +kernel)
    refine nk_p (i := .iload_n 1) (len := 1) (pc' := 48) mJ_262 (by decide +kernel) (ns_iload_n 1 rfl rfl) rfl ?_
    obtain ⟨h5, hr⟩ := nk_cke hr
    refine nk_iald (len := 1) (N := 48) (pc' := 49) mJ_262 (by decide +kernel) t4 h5.1 h5.2 rfl rfl ?_
    obtain ⟨h6, hr⟩ := nk_cke hr
    obtain ⟨S7, h8, hr⟩ := nk_lte hr
    refine nk_iast (len := 1) (N := 64) (pc' := 50) mJ_262 (by decide +kernel) t1 h6.1 h6.2 rfl rfl h8 ?_
    refine nk_p (i := .aload_n 0) (len := 1) (pc' := 51) mJ_262 (by decide +kernel) (ns_aload_n 0 rfl rfl) rfl ?_
    refine nk_getC (f := (4, 1, 64)) (x := 19) (len := 3) (ci := 2) (k := 4) (pc' := 54) ja_okT mJ_262 (by decide +kernel) (by decide +kernel) (by decide +kernel) (by decide) t_l0 rfl ?_
    have t9 : nk_ar ja_Tt (ja_c l0 4) = some (1, 64) := nk_ta ja_okT t_l0 (by decide +kernel)
    refine nk_p (i := .aload_n 0) (len := 1) (pc' := 55) mJ_262 (by decide +kernel) (ns_aload_n 0 rfl rfl) rfl ?_
    refine nk_getI (y := (0, 0)) (x := 52) (len := 3) (ci := 2) (k := 5) (pc' := 58) ja_okT mJ_262 (by decide +kernel) (by decide +kernel) (by decide +kernel) t_l0 rfl ?_
    refine nk_p (i := .iconst 0) (len := 1) (pc' := 59) mJ_262 (by decide +kernel) (ns_iconst (c := 0) (by decide +kernel)) rfl ?_
    obtain ⟨h10, hr⟩ := nk_cke hr
    obtain ⟨S11, h12, hr⟩ := nk_lte hr
    refine nk_iast (len := 1) (N := 64) (pc' := 60) mJ_262 (by decide +kernel) t9 h10.1 h10.2 rfl rfl h12 ?_
    cases hr
    exact nk_vret (len := 1) mJ_262 (by decide +kernel) rfl
  · have hr := nk_ifn (c := 20 ≤ l2) hc hr
    refine nk_p (i := .aload_n 0) (len := 1) (pc' := 9) mJ_262 (by decide +kernel) (ns_aload_n 0 rfl rfl) rfl ?_
    refine nk_getC (f := (4, 2, 1280)) (x := 9) (len := 3) (ci := 2) (k := 2) (pc' := 12) ja_okT mJ_262 (by decide +kernel) (by decide +kernel) (by decide +kernel) (by decide) t_l0 rfl ?_
    have t13 : nk_ar ja_Tt (ja_c l0 2) = some (2, 1280) := nk_ta ja_okT t_l0 (by decide +kernel)
    refine nk_p (i := .aload_n 0) (len := 1) (pc' := 13) mJ_262 (by decide +kernel) (ns_aload_n 0 rfl rfl) rfl ?_
    refine nk_getI (y := (0, 0)) (x := 52) (len := 3) (ci := 2) (k := 5) (pc' := 16) ja_okT mJ_262 (by decide +kernel) (by decide +kernel) (by decide +kernel) t_l0 rfl ?_
    refine nk_p (i := .bipush 20) (len := 2) (pc' := 18) mJ_262 (by decide +kernel) (ns_bipush (c := 20) (by decide +kernel)) rfl ?_
    refine nk_p (i := .imul) (len := 1) (pc' := 19) mJ_262 (by decide +kernel) ns_imul rfl ?_
    refine nk_p (i := .iload_n 2) (len := 1) (pc' := 20) mJ_262 (by decide +kernel) (ns_iload_n 2 rfl rfl) rfl ?_
    refine nk_p (i := .iadd) (len := 1) (pc' := 21) mJ_262 (by decide +kernel) ns_iadd rfl ?_
    refine nk_p (i := .lconst 0) (len := 1) (pc' := 22) mJ_262 (by decide +kernel) (ns_lconst (c := 0) (by decide +kernel)) rfl ?_
    obtain ⟨h14, hr⟩ := nk_cke hr
    obtain ⟨S15, h16, hr⟩ := nk_lte hr
    refine nk_last (len := 1) (N := 1280) (pc' := 23) mJ_262 (by decide +kernel) t13 h14.1 h14.2 rfl rfl h16 ?_
    obtain ⟨v17, h18, hr⟩ := nk_lte hr
    refine nk_p (i := .iinc 2 1) (len := 3) (pc' := 26) mJ_262 (by decide +kernel) (ns_iinc (c := 1) (L' := [(2, nk_i v17), (0, nk_r l0), (1, nk_i l1)]) 2 rfl (by decide +kernel) h18 rfl (by decide +kernel)) rfl ?_
    refine nk_p (i := .goto (-24)) (len := 3) (pc' := 2) mJ_262 (by decide +kernel) (ns_goto (by decide +kernel)) rfl ?_
    refine nk_sub [1, 2, 0] (L' := [(0, nk_r l0), (1, nk_i l1), (2, nk_i v17)]) rfl ?_
    exact hrec2 _ _ _ _ _ t_l0 hr
noncomputable def ja_X2_beginBody_L2 : Nat → Nat → Int → Int → nk_S → Option (Int × nk_S)
  | 0, _, _, _, _ => none
  | n + 1, l0, l1, l2, S => ja_X2_beginBody_b2 (ja_X2_beginBody_L2 n) l0 l1 l2 S
theorem ja_X2_beginBody_L2_ok (zs : List Int32) : ∀ n : Nat, ∀ (l0 : Nat) (l1 : Int) (l2 : Int) (S : nk_S) (R : Int × nk_S), nk_cl ja_Tt l0 = some 2 → ja_X2_beginBody_L2 n l0 l1 l2 S = some R → nk_K ja_Tt mi_Γ (mi_ev zs) 0 262 2 [(0, nk_r l0), (1, nk_i l1), (2, nk_i l2)] [] S R := by
  intro n
  induction n with
  | zero => intro _ _ _ _ _ _ hr; cases hr
  | succ n ih => intro l0 l1 l2 S R t_l0 hr; exact ja_X2_beginBody_b2_ok zs ih l0 l1 l2 S R t_l0 hr
noncomputable def ja_X2_beginBody (l0 : Nat) (l1 : Int) (S : nk_S) : Option (Int × nk_S) :=
  ja_X2_beginBody_L2 nk_big l0 l1 0 S
theorem ja_X2_beginBody_ok (zs : List Int32) : ∀ (l0 : Nat) (l1 : Int) (S : nk_S) (R : Int × nk_S), nk_cl ja_Tt l0 = some 2 → ja_X2_beginBody l0 l1 S = some R → nk_K ja_Tt mi_Γ (mi_ev zs) 0 262 0 [(0, nk_r l0), (1, nk_i l1)] [] S R := by
  intro l0 l1 S R t_l0 hr
  unfold ja_X2_beginBody at hr
  refine nk_p (i := .iconst 0) (len := 1) (pc' := 1) mJ_262 (by decide +kernel) (ns_iconst (c := 0) (by decide +kernel)) rfl ?_
  refine nk_p (i := .istore_n 2) (len := 1) (pc' := 2) mJ_262 (by decide +kernel) (ns_istore_n (L' := [(2, nk_i 0), (0, nk_r l0), (1, nk_i l1)]) rfl rfl rfl (by decide +kernel)) rfl ?_
  refine nk_sub [1, 2, 0] (L' := [(0, nk_r l0), (1, nk_i l1), (2, nk_i 0)]) rfl ?_
  exact ja_X2_beginBody_L2_ok zs nk_big _ _ _ _ _ t_l0 hr
/-! SafeCode$Machine finish (II)V -/
noncomputable def ja_X2_finish (l0 : Nat) (l1 : Int) (l2 : Int) (S : nk_S) : Option (Int × nk_S) :=
  nk_lt (nk_wi S l0 12 l1) fun S1 =>
  nk_lt (nk_wi S1 l0 15 l2) fun S3 =>
  some (0, S3)
theorem ja_X2_finish_ok (zs : List Int32) : ∀ (l0 : Nat) (l1 : Int) (l2 : Int) (S : nk_S) (R : Int × nk_S), nk_cl ja_Tt l0 = some 2 → ja_X2_finish l0 l1 l2 S = some R → nk_K ja_Tt mi_Γ (mi_ev zs) 0 270 0 [(0, nk_r l0), (1, nk_i l1), (2, nk_i l2)] [] S R := by
  intro l0 l1 l2 S R t_l0 hr
  unfold ja_X2_finish at hr
  refine nk_p (i := .aload_n 0) (len := 1) (pc' := 1) mJ_270 (by decide +kernel) (ns_aload_n 0 rfl rfl) rfl ?_
  refine nk_p (i := .iload_n 1) (len := 1) (pc' := 2) mJ_270 (by decide +kernel) (ns_iload_n 1 rfl rfl) rfl ?_
  obtain ⟨S1, h2, hr⟩ := nk_lte hr
  refine nk_putI (y := (0, 0)) (ty := .int) (x := 61) (len := 3) (ci := 2) (k := 12) (pc' := 5) ja_okT mJ_270 (by decide +kernel) (by decide +kernel) (by decide +kernel) t_l0 (Or.inl rfl) rfl h2 ?_
  refine nk_p (i := .aload_n 0) (len := 1) (pc' := 6) mJ_270 (by decide +kernel) (ns_aload_n 0 rfl rfl) rfl ?_
  refine nk_p (i := .iload_n 2) (len := 1) (pc' := 7) mJ_270 (by decide +kernel) (ns_iload_n 2 rfl rfl) rfl ?_
  obtain ⟨S3, h4, hr⟩ := nk_lte hr
  refine nk_putI (y := (0, 0)) (ty := .int) (x := 31) (len := 3) (ci := 2) (k := 15) (pc' := 10) ja_okT mJ_270 (by decide +kernel) (by decide +kernel) (by decide +kernel) t_l0 (Or.inl rfl) rfl h4 ?_
  cases hr
  exact nk_vret (len := 1) mJ_270 (by decide +kernel) rfl
/-! SafeCode$Machine typeOf (I)I -/
noncomputable def ja_X2_typeOf (l0 : Nat) (l1 : Int) (S : nk_S) : Option (Int × nk_S) :=
  if 0 ≤ (nk_w (l1 - 1)) ∧ (nk_w (l1 - 1)) < 2000 then
  if 0 ≤ (S.1 (ja_c l0 6) (nk_w (l1 - 1)).toNat) ∧ (S.1 (ja_c l0 6) (nk_w (l1 - 1)).toNat) < 54 then
  some ((S.1 (ja_c (S.2 l0 1) 11) (S.1 (ja_c l0 6) (nk_w (l1 - 1)).toNat).toNat), S)
  else none
  else none
theorem ja_X2_typeOf_ok (zs : List Int32) : ∀ (l0 : Nat) (l1 : Int) (S : nk_S) (R : Int × nk_S), nk_cl ja_Tt l0 = some 2 → ja_X2_typeOf l0 l1 S = some R → nk_K ja_Tt mi_Γ (mi_ev zs) 1 292 0 [(0, nk_r l0), (1, nk_i l1)] [] S R := by
  intro l0 l1 S R t_l0 hr
  unfold ja_X2_typeOf at hr
  refine nk_p (i := .aload_n 0) (len := 1) (pc' := 1) mJ_292 (by decide +kernel) (ns_aload_n 0 rfl rfl) rfl ?_
  refine nk_getM (cj := 3) (z := 0) (x := 41) (len := 3) (ci := 2) (k := 1) (pc' := 4) ja_okT mJ_292 (by decide +kernel) (by decide +kernel) (by decide +kernel) t_l0 rfl (fun t1 => ?_)
  refine nk_getC (f := (4, 1, 54)) (x := 220) (len := 3) (ci := 3) (k := 11) (pc' := 7) ja_okT mJ_292 (by decide +kernel) (by decide +kernel) (by decide +kernel) (by decide) t1 rfl ?_
  have t2 : nk_ar ja_Tt (ja_c (S.2 l0 1) 11) = some (1, 54) := nk_ta ja_okT t1 (by decide +kernel)
  refine nk_p (i := .aload_n 0) (len := 1) (pc' := 8) mJ_292 (by decide +kernel) (ns_aload_n 0 rfl rfl) rfl ?_
  refine nk_getC (f := (4, 1, 2000)) (x := 22) (len := 3) (ci := 2) (k := 6) (pc' := 11) ja_okT mJ_292 (by decide +kernel) (by decide +kernel) (by decide +kernel) (by decide) t_l0 rfl ?_
  have t3 : nk_ar ja_Tt (ja_c l0 6) = some (1, 2000) := nk_ta ja_okT t_l0 (by decide +kernel)
  refine nk_p (i := .iload_n 1) (len := 1) (pc' := 12) mJ_292 (by decide +kernel) (ns_iload_n 1 rfl rfl) rfl ?_
  refine nk_p (i := .iconst 1) (len := 1) (pc' := 13) mJ_292 (by decide +kernel) (ns_iconst (c := 1) (by decide +kernel)) rfl ?_
  refine nk_p (i := .isub) (len := 1) (pc' := 14) mJ_292 (by decide +kernel) ns_isub rfl ?_
  obtain ⟨h4, hr⟩ := nk_cke hr
  refine nk_iald (len := 1) (N := 2000) (pc' := 15) mJ_292 (by decide +kernel) t3 h4.1 h4.2 rfl rfl ?_
  obtain ⟨h5, hr⟩ := nk_cke hr
  refine nk_iald (len := 1) (N := 54) (pc' := 16) mJ_292 (by decide +kernel) t2 h5.1 h5.2 rfl rfl ?_
  cases hr
  exact nk_iret (ty := .int) (len := 1) mJ_292 (by decide +kernel) rfl (nk_nar_i _)
/-! SafeCode$Machine extentOf (I)I -/
noncomputable def ja_X2_extentOf (l0 : Nat) (l1 : Int) (S : nk_S) : Option (Int × nk_S) :=
  if 0 ≤ l1 ∧ l1 < 2001 then
  if 0 ≤ (nk_w (l1 - 1)) ∧ (nk_w (l1 - 1)) < 2001 then
  some ((nk_w ((S.1 (ja_c l0 7) l1.toNat) - (S.1 (ja_c l0 7) (nk_w (l1 - 1)).toNat))), S)
  else none
  else none
theorem ja_X2_extentOf_ok (zs : List Int32) : ∀ (l0 : Nat) (l1 : Int) (S : nk_S) (R : Int × nk_S), nk_cl ja_Tt l0 = some 2 → ja_X2_extentOf l0 l1 S = some R → nk_K ja_Tt mi_Γ (mi_ev zs) 1 269 0 [(0, nk_r l0), (1, nk_i l1)] [] S R := by
  intro l0 l1 S R t_l0 hr
  unfold ja_X2_extentOf at hr
  refine nk_p (i := .aload_n 0) (len := 1) (pc' := 1) mJ_269 (by decide +kernel) (ns_aload_n 0 rfl rfl) rfl ?_
  refine nk_getC (f := (4, 1, 2001)) (x := 25) (len := 3) (ci := 2) (k := 7) (pc' := 4) ja_okT mJ_269 (by decide +kernel) (by decide +kernel) (by decide +kernel) (by decide) t_l0 rfl ?_
  have t1 : nk_ar ja_Tt (ja_c l0 7) = some (1, 2001) := nk_ta ja_okT t_l0 (by decide +kernel)
  refine nk_p (i := .iload_n 1) (len := 1) (pc' := 5) mJ_269 (by decide +kernel) (ns_iload_n 1 rfl rfl) rfl ?_
  obtain ⟨h2, hr⟩ := nk_cke hr
  refine nk_iald (len := 1) (N := 2001) (pc' := 6) mJ_269 (by decide +kernel) t1 h2.1 h2.2 rfl rfl ?_
  refine nk_p (i := .aload_n 0) (len := 1) (pc' := 7) mJ_269 (by decide +kernel) (ns_aload_n 0 rfl rfl) rfl ?_
  refine nk_getC (f := (4, 1, 2001)) (x := 25) (len := 3) (ci := 2) (k := 7) (pc' := 10) ja_okT mJ_269 (by decide +kernel) (by decide +kernel) (by decide +kernel) (by decide) t_l0 rfl ?_
  refine nk_p (i := .iload_n 1) (len := 1) (pc' := 11) mJ_269 (by decide +kernel) (ns_iload_n 1 rfl rfl) rfl ?_
  refine nk_p (i := .iconst 1) (len := 1) (pc' := 12) mJ_269 (by decide +kernel) (ns_iconst (c := 1) (by decide +kernel)) rfl ?_
  refine nk_p (i := .isub) (len := 1) (pc' := 13) mJ_269 (by decide +kernel) ns_isub rfl ?_
  obtain ⟨h3, hr⟩ := nk_cke hr
  refine nk_iald (len := 1) (N := 2001) (pc' := 14) mJ_269 (by decide +kernel) t1 h3.1 h3.2 rfl rfl ?_
  refine nk_p (i := .isub) (len := 1) (pc' := 15) mJ_269 (by decide +kernel) ns_isub rfl ?_
  cases hr
  exact nk_iret (ty := .int) (len := 1) mJ_269 (by decide +kernel) rfl (nk_nar_i _)
/-! SafeCode$Machine lengthOf (J)I -/
noncomputable def ja_X2_lengthOf_b34 (l0 : Nat) (l3 : Int) (s0 : Int) (S : nk_S) : Option (Int × nk_S) :=
  if s0 = 0 then
    some ((-1), S)
  else
    nk_bd (ja_X2_extentOf l0 l3 S) fun r1 S2 =>
    some (r1, S2)
theorem ja_X2_lengthOf_b34_ok (zs : List Int32) : ∀ (l0 : Nat) (l3 : Int) (s0 : Int) (S : nk_S) (R : Int × nk_S), nk_cl ja_Tt l0 = some 2 → ja_X2_lengthOf_b34 l0 l3 s0 S = some R → nk_K ja_Tt mi_Γ (mi_ev zs) 1 280 34 [(0, nk_r l0), (3, nk_i l3)] [nk_i s0] S R := by
  intro l0 l3 s0 S R t_l0 hr
  unfold ja_X2_lengthOf_b34 at hr
  refine nk_p (i := .istore 4) (len := 2) (pc' := 36) mJ_280 (by decide +kernel) (ns_istore (L' := [(4, nk_i s0), (0, nk_r l0), (3, nk_i l3)]) rfl rfl (by decide +kernel)) rfl ?_
  refine nk_p (i := .iload 4) (len := 2) (pc' := 38) mJ_280 (by decide +kernel) (ns_iload 0 rfl) rfl ?_
  refine nk_icond (c := .eq) (off := 11) (len := 3) (t := 49) (pc' := 41) mJ_280 (by decide +kernel) (by decide +kernel) rfl (fun hc => ?_) (fun hc => ?_)
  · have hr := nk_ifp (c := s0 = 0) hc hr
    refine nk_p (i := .iconst (-1)) (len := 1) (pc' := 50) mJ_280 (by decide +kernel) (ns_iconst (c := (-1)) (by decide +kernel)) rfl ?_
    cases hr
    exact nk_iret (ty := .int) (len := 1) mJ_280 (by decide +kernel) rfl (nk_nar_i _)
  · have hr := nk_ifn (c := s0 = 0) hc hr
    refine nk_p (i := .aload_n 0) (len := 1) (pc' := 42) mJ_280 (by decide +kernel) (ns_aload_n 1 rfl rfl) rfl ?_
    refine nk_p (i := .iload_n 3) (len := 1) (pc' := 43) mJ_280 (by decide +kernel) (ns_iload_n 2 rfl rfl) rfl ?_
    obtain ⟨r1, S2, h3, hr⟩ := nk_bde hr
    refine nk_callV (ci := 2) (n := 1) (x := 144) (len := 3) (j' := 269) (q' := 1) (r := r1) (S' := S2) (L2 := [(0, nk_r l0), (1, nk_i l3)]) (rest := []) (st' := [nk_i r1]) (pc' := 46) mJ_280 (by decide +kernel) (by decide +kernel) rfl rfl t_l0 (Nat.le_of_ble_eq_true rfl) mJ_269 (Nat.le_of_ble_eq_true rfl) rfl (ja_X2_extentOf_ok zs _ _ _ _ t_l0 h3) rfl ?_
    refine nk_p (i := .goto 4) (len := 3) (pc' := 50) mJ_280 (by decide +kernel) (ns_goto (by decide +kernel)) rfl ?_
    cases hr
    exact nk_iret (ty := .int) (len := 1) mJ_280 (by decide +kernel) rfl (nk_nar_i _)
noncomputable def ja_X2_lengthOf_b33 (l0 : Nat) (l3 : Int) (S : nk_S) : Option (Int × nk_S) :=
  ja_X2_lengthOf_b34 l0 l3 0 S
theorem ja_X2_lengthOf_b33_ok (zs : List Int32) : ∀ (l0 : Nat) (l3 : Int) (S : nk_S) (R : Int × nk_S), nk_cl ja_Tt l0 = some 2 → ja_X2_lengthOf_b33 l0 l3 S = some R → nk_K ja_Tt mi_Γ (mi_ev zs) 1 280 33 [(0, nk_r l0), (3, nk_i l3)] [] S R := by
  intro l0 l3 S R t_l0 hr
  unfold ja_X2_lengthOf_b33 at hr
  refine nk_p (i := .iconst 0) (len := 1) (pc' := 34) mJ_280 (by decide +kernel) (ns_iconst (c := 0) (by decide +kernel)) rfl ?_
  exact ja_X2_lengthOf_b34_ok zs _ _ _ _ _ t_l0 hr
noncomputable def ja_X2_lengthOf (l0 : Nat) (l1 : Int) (S : nk_S) : Option (Int × nk_S) :=
  nk_lt (nk_w l1) fun v1 =>
  if (nk_lushr l1 32) = 2 then
    if v1 = 0 then
      ja_X2_lengthOf_b33 l0 v1 S
    else
      nk_bd (ja_X2_typeOf l0 v1 S) fun r3 S4 =>
      nk_bd (ja_X1_isArray r3 S4) fun r6 S7 =>
      if r6 = 0 then
        ja_X2_lengthOf_b33 l0 v1 S7
      else
        ja_X2_lengthOf_b34 l0 v1 1 S7
  else
    ja_X2_lengthOf_b33 l0 v1 S
theorem ja_X2_lengthOf_ok (zs : List Int32) : ∀ (l0 : Nat) (l1 : Int) (S : nk_S) (R : Int × nk_S), nk_cl ja_Tt l0 = some 2 → ja_X2_lengthOf l0 l1 S = some R → nk_K ja_Tt mi_Γ (mi_ev zs) 1 280 0 [(0, nk_r l0), (1, nk_l l1)] [] S R := by
  intro l0 l1 S R t_l0 hr
  unfold ja_X2_lengthOf at hr
  refine nk_p (i := .lload_n 1) (len := 1) (pc' := 1) mJ_280 (by decide +kernel) (ns_lload_n 1 rfl rfl) rfl ?_
  refine nk_p (i := .l2i) (len := 1) (pc' := 2) mJ_280 (by decide +kernel) ns_l2i rfl ?_
  obtain ⟨v1, h2, hr⟩ := nk_lte hr
  refine nk_p (i := .istore_n 3) (len := 1) (pc' := 3) mJ_280 (by decide +kernel) (ns_istore_n (L' := [(3, nk_i v1), (0, nk_r l0), (1, nk_l l1)]) h2 rfl rfl (by decide +kernel)) rfl ?_
  refine nk_p (i := .lload_n 1) (len := 1) (pc' := 4) mJ_280 (by decide +kernel) (ns_lload_n 2 rfl rfl) rfl ?_
  refine nk_p (i := .bipush 32) (len := 2) (pc' := 6) mJ_280 (by decide +kernel) (ns_bipush (c := 32) (by decide +kernel)) rfl ?_
  refine nk_p (i := .lushr) (len := 1) (pc' := 7) mJ_280 (by decide +kernel) ns_lushr rfl ?_
  refine nk_ldc2 (x := 325) (len := 3) (X := 2) (v := 2) (pc' := 10) mJ_280 (by decide +kernel) (by decide +kernel) (by decide +kernel) rfl ?_
  refine nk_p (i := .lcmp) (len := 1) (pc' := 11) mJ_280 (by decide +kernel) ns_lcmp rfl ?_
  refine nk_lcond (c := .ne) (off := 22) (len := 3) (t := 33) (pc' := 14) mJ_280 (by decide +kernel) (by decide +kernel) rfl (fun hc => ?_) (fun hc => ?_)
  · have hr := nk_ifn (c := (nk_lushr l1 32) = 2) hc hr
    refine nk_sub [1, 0] (L' := [(0, nk_r l0), (3, nk_i v1)]) rfl ?_
    exact ja_X2_lengthOf_b33_ok zs _ _ _ _ t_l0 hr
  · have hr := nk_ifp (c := (nk_lushr l1 32) = 2) (Decidable.of_not_not hc) hr
    refine nk_p (i := .iload_n 3) (len := 1) (pc' := 15) mJ_280 (by decide +kernel) (ns_iload_n 0 rfl rfl) rfl ?_
    refine nk_icond (c := .eq) (off := 18) (len := 3) (t := 33) (pc' := 18) mJ_280 (by decide +kernel) (by decide +kernel) rfl (fun hc => ?_) (fun hc => ?_)
    · have hr := nk_ifp (c := v1 = 0) hc hr
      refine nk_sub [1, 0] (L' := [(0, nk_r l0), (3, nk_i v1)]) rfl ?_
      exact ja_X2_lengthOf_b33_ok zs _ _ _ _ t_l0 hr
    · have hr := nk_ifn (c := v1 = 0) hc hr
      refine nk_p (i := .aload_n 0) (len := 1) (pc' := 19) mJ_280 (by decide +kernel) (ns_aload_n 1 rfl rfl) rfl ?_
      refine nk_p (i := .iload_n 3) (len := 1) (pc' := 20) mJ_280 (by decide +kernel) (ns_iload_n 0 rfl rfl) rfl ?_
      obtain ⟨r3, S4, h5, hr⟩ := nk_bde hr
      refine nk_callV (ci := 2) (n := 1) (x := 248) (len := 3) (j' := 292) (q' := 1) (r := r3) (S' := S4) (L2 := [(0, nk_r l0), (1, nk_i v1)]) (rest := []) (st' := [nk_i r3]) (pc' := 23) mJ_280 (by decide +kernel) (by decide +kernel) rfl rfl t_l0 (Nat.le_of_ble_eq_true rfl) mJ_292 (Nat.le_of_ble_eq_true rfl) rfl (ja_X2_typeOf_ok zs _ _ _ _ t_l0 h5) rfl ?_
      obtain ⟨r6, S7, h8, hr⟩ := nk_bde hr
      refine nk_callS (ci := 0) (n := 1) (x := 327) (len := 3) (j' := 255) (q' := 1) (r := r6) (S' := S7) (L2 := [(0, nk_i r3)]) (rest := []) (st' := [nk_i r6]) (pc' := 26) mJ_280 (by decide +kernel) (by decide +kernel) (Nat.le_of_ble_eq_true rfl) rfl rfl (Nat.le_of_ble_eq_true rfl) mJ_255 (Nat.le_of_ble_eq_true rfl) ja_Tpos rfl (ja_X1_isArray_ok zs _ _ _ h8) rfl ?_
      refine nk_icond (c := .eq) (off := 7) (len := 3) (t := 33) (pc' := 29) mJ_280 (by decide +kernel) (by decide +kernel) rfl (fun hc => ?_) (fun hc => ?_)
      · have hr := nk_ifp (c := r6 = 0) hc hr
        refine nk_sub [1, 0] (L' := [(0, nk_r l0), (3, nk_i v1)]) rfl ?_
        exact ja_X2_lengthOf_b33_ok zs _ _ _ _ t_l0 hr
      · have hr := nk_ifn (c := r6 = 0) hc hr
        refine nk_p (i := .iconst 1) (len := 1) (pc' := 30) mJ_280 (by decide +kernel) (ns_iconst (c := 1) (by decide +kernel)) rfl ?_
        refine nk_p (i := .goto 4) (len := 3) (pc' := 34) mJ_280 (by decide +kernel) (ns_goto (by decide +kernel)) rfl ?_
        refine nk_sub [1, 0] (L' := [(0, nk_r l0), (3, nk_i v1)]) rfl ?_
        exact ja_X2_lengthOf_b34_ok zs _ _ _ _ _ t_l0 hr
/-! SafeCode$Machine areSetsAsProved (JJ)Z -/
noncomputable def ja_X2_areSetsAsProved_b174 (rec14 : Nat → Int → Int → Int → Int → nk_S → Option (Int × nk_S)) (l0 : Nat) (l1 : Int) (l5 : Int) (l6 : Int) (l7 : Int) (s0 : Int) (S : nk_S) : Option (Int × nk_S) :=
  if s0 = 0 then
    nk_lt (nk_w (l7 + 1)) fun v1 =>
    rec14 l0 l1 l5 l6 v1 S
  else
    some (0, S)
theorem ja_X2_areSetsAsProved_b174_ok (zs : List Int32) {rec14 : Nat → Int → Int → Int → Int → nk_S → Option (Int × nk_S)} (hrec14 : ∀ (l0 : Nat) (l1 : Int) (l5 : Int) (l6 : Int) (l7 : Int) (S : nk_S) (R : Int × nk_S), nk_cl ja_Tt l0 = some 2 → rec14 l0 l1 l5 l6 l7 S = some R → nk_K ja_Tt mi_Γ (mi_ev zs) 1 261 14 [(0, nk_r l0), (1, nk_l l1), (5, nk_i l5), (6, nk_i l6), (7, nk_i l7)] [] S R) : ∀ (l0 : Nat) (l1 : Int) (l5 : Int) (l6 : Int) (l7 : Int) (s0 : Int) (S : nk_S) (R : Int × nk_S), nk_cl ja_Tt l0 = some 2 → ja_X2_areSetsAsProved_b174 rec14 l0 l1 l5 l6 l7 s0 S = some R → nk_K ja_Tt mi_Γ (mi_ev zs) 1 261 174 [(0, nk_r l0), (1, nk_l l1), (5, nk_i l5), (6, nk_i l6), (7, nk_i l7)] [nk_i s0] S R := by
  intro l0 l1 l5 l6 l7 s0 S R t_l0 hr
  unfold ja_X2_areSetsAsProved_b174 at hr
  refine nk_p (i := .istore 14) (len := 2) (pc' := 176) mJ_261 (by decide +kernel) (ns_istore (L' := [(14, nk_i s0), (0, nk_r l0), (1, nk_l l1), (5, nk_i l5), (6, nk_i l6), (7, nk_i l7)]) rfl rfl (by decide +kernel)) rfl ?_
  refine nk_p (i := .iload 14) (len := 2) (pc' := 178) mJ_261 (by decide +kernel) (ns_iload 0 rfl) rfl ?_
  refine nk_icond (c := .eq) (off := 5) (len := 3) (t := 183) (pc' := 181) mJ_261 (by decide +kernel) (by decide +kernel) rfl (fun hc => ?_) (fun hc => ?_)
  · have hr := nk_ifp (c := s0 = 0) hc hr
    obtain ⟨v1, h2, hr⟩ := nk_lte hr
    refine nk_p (i := .iinc 7 1) (len := 3) (pc' := 186) mJ_261 (by decide +kernel) (ns_iinc (c := 1) (L' := [(7, nk_i v1), (14, nk_i s0), (0, nk_r l0), (1, nk_l l1), (5, nk_i l5), (6, nk_i l6)]) 5 rfl (by decide +kernel) h2 rfl (by decide +kernel)) rfl ?_
    refine nk_p (i := .goto (-172)) (len := 3) (pc' := 14) mJ_261 (by decide +kernel) (ns_goto (by decide +kernel)) rfl ?_
    refine nk_sub [2, 3, 4, 5, 0] (L' := [(0, nk_r l0), (1, nk_l l1), (5, nk_i l5), (6, nk_i l6), (7, nk_i v1)]) rfl ?_
    exact hrec14 _ _ _ _ _ _ _ t_l0 hr
  · have hr := nk_ifn (c := s0 = 0) hc hr
    refine nk_p (i := .iconst 0) (len := 1) (pc' := 182) mJ_261 (by decide +kernel) (ns_iconst (c := 0) (by decide +kernel)) rfl ?_
    cases hr
    exact nk_iret (ty := .boolean) (len := 1) mJ_261 (by decide +kernel) rfl (nk_nar_z (by decide))
noncomputable def ja_X2_areSetsAsProved_b173 (rec14 : Nat → Int → Int → Int → Int → nk_S → Option (Int × nk_S)) (l0 : Nat) (l1 : Int) (l5 : Int) (l6 : Int) (l7 : Int) (S : nk_S) : Option (Int × nk_S) :=
  ja_X2_areSetsAsProved_b174 rec14 l0 l1 l5 l6 l7 0 S
theorem ja_X2_areSetsAsProved_b173_ok (zs : List Int32) {rec14 : Nat → Int → Int → Int → Int → nk_S → Option (Int × nk_S)} (hrec14 : ∀ (l0 : Nat) (l1 : Int) (l5 : Int) (l6 : Int) (l7 : Int) (S : nk_S) (R : Int × nk_S), nk_cl ja_Tt l0 = some 2 → rec14 l0 l1 l5 l6 l7 S = some R → nk_K ja_Tt mi_Γ (mi_ev zs) 1 261 14 [(0, nk_r l0), (1, nk_l l1), (5, nk_i l5), (6, nk_i l6), (7, nk_i l7)] [] S R) : ∀ (l0 : Nat) (l1 : Int) (l5 : Int) (l6 : Int) (l7 : Int) (S : nk_S) (R : Int × nk_S), nk_cl ja_Tt l0 = some 2 → ja_X2_areSetsAsProved_b173 rec14 l0 l1 l5 l6 l7 S = some R → nk_K ja_Tt mi_Γ (mi_ev zs) 1 261 173 [(0, nk_r l0), (1, nk_l l1), (5, nk_i l5), (6, nk_i l6), (7, nk_i l7)] [] S R := by
  intro l0 l1 l5 l6 l7 S R t_l0 hr
  unfold ja_X2_areSetsAsProved_b173 at hr
  refine nk_p (i := .iconst 0) (len := 1) (pc' := 174) mJ_261 (by decide +kernel) (ns_iconst (c := 0) (by decide +kernel)) rfl ?_
  exact ja_X2_areSetsAsProved_b174_ok zs hrec14 _ _ _ _ _ _ _ _ t_l0 hr
noncomputable def ja_X2_areSetsAsProved_b169 (rec14 : Nat → Int → Int → Int → Int → nk_S → Option (Int × nk_S)) (l0 : Nat) (l1 : Int) (l5 : Int) (l6 : Int) (l7 : Int) (S : nk_S) : Option (Int × nk_S) :=
  ja_X2_areSetsAsProved_b174 rec14 l0 l1 l5 l6 l7 1 S
theorem ja_X2_areSetsAsProved_b169_ok (zs : List Int32) {rec14 : Nat → Int → Int → Int → Int → nk_S → Option (Int × nk_S)} (hrec14 : ∀ (l0 : Nat) (l1 : Int) (l5 : Int) (l6 : Int) (l7 : Int) (S : nk_S) (R : Int × nk_S), nk_cl ja_Tt l0 = some 2 → rec14 l0 l1 l5 l6 l7 S = some R → nk_K ja_Tt mi_Γ (mi_ev zs) 1 261 14 [(0, nk_r l0), (1, nk_l l1), (5, nk_i l5), (6, nk_i l6), (7, nk_i l7)] [] S R) : ∀ (l0 : Nat) (l1 : Int) (l5 : Int) (l6 : Int) (l7 : Int) (S : nk_S) (R : Int × nk_S), nk_cl ja_Tt l0 = some 2 → ja_X2_areSetsAsProved_b169 rec14 l0 l1 l5 l6 l7 S = some R → nk_K ja_Tt mi_Γ (mi_ev zs) 1 261 169 [(0, nk_r l0), (1, nk_l l1), (5, nk_i l5), (6, nk_i l6), (7, nk_i l7)] [] S R := by
  intro l0 l1 l5 l6 l7 S R t_l0 hr
  unfold ja_X2_areSetsAsProved_b169 at hr
  refine nk_p (i := .iconst 1) (len := 1) (pc' := 170) mJ_261 (by decide +kernel) (ns_iconst (c := 1) (by decide +kernel)) rfl ?_
  refine nk_p (i := .goto 4) (len := 3) (pc' := 174) mJ_261 (by decide +kernel) (ns_goto (by decide +kernel)) rfl ?_
  exact ja_X2_areSetsAsProved_b174_ok zs hrec14 _ _ _ _ _ _ _ _ t_l0 hr
noncomputable def ja_X2_areSetsAsProved_b139 (rec14 : Nat → Int → Int → Int → Int → nk_S → Option (Int × nk_S)) (l0 : Nat) (l1 : Int) (l5 : Int) (l6 : Int) (l7 : Int) (l8 : Int) (l10 : Int) (l12 : Int) (S : nk_S) : Option (Int × nk_S) :=
  if (nk_land (nk_lushr l12 36) 1) = 0 then
    ja_X2_areSetsAsProved_b173 rec14 l0 l1 l5 l6 l7 S
  else
    if l10 = 0 then
      ja_X2_areSetsAsProved_b169 rec14 l0 l1 l5 l6 l7 S
    else
      if l6 < 0 then
        ja_X2_areSetsAsProved_b169 rec14 l0 l1 l5 l6 l7 S
      else
        if l6 = (nk_w l8) then
          ja_X2_areSetsAsProved_b173 rec14 l0 l1 l5 l6 l7 S
        else
          ja_X2_areSetsAsProved_b169 rec14 l0 l1 l5 l6 l7 S
theorem ja_X2_areSetsAsProved_b139_ok (zs : List Int32) {rec14 : Nat → Int → Int → Int → Int → nk_S → Option (Int × nk_S)} (hrec14 : ∀ (l0 : Nat) (l1 : Int) (l5 : Int) (l6 : Int) (l7 : Int) (S : nk_S) (R : Int × nk_S), nk_cl ja_Tt l0 = some 2 → rec14 l0 l1 l5 l6 l7 S = some R → nk_K ja_Tt mi_Γ (mi_ev zs) 1 261 14 [(0, nk_r l0), (1, nk_l l1), (5, nk_i l5), (6, nk_i l6), (7, nk_i l7)] [] S R) : ∀ (l0 : Nat) (l1 : Int) (l5 : Int) (l6 : Int) (l7 : Int) (l8 : Int) (l10 : Int) (l12 : Int) (S : nk_S) (R : Int × nk_S), nk_cl ja_Tt l0 = some 2 → ja_X2_areSetsAsProved_b139 rec14 l0 l1 l5 l6 l7 l8 l10 l12 S = some R → nk_K ja_Tt mi_Γ (mi_ev zs) 1 261 139 [(0, nk_r l0), (1, nk_l l1), (5, nk_i l5), (6, nk_i l6), (7, nk_i l7), (8, nk_l l8), (10, nk_i l10), (12, nk_l l12)] [] S R := by
  intro l0 l1 l5 l6 l7 l8 l10 l12 S R t_l0 hr
  unfold ja_X2_areSetsAsProved_b139 at hr
  refine nk_p (i := .lload 12) (len := 2) (pc' := 141) mJ_261 (by decide +kernel) (ns_lload 7 rfl) rfl ?_
  refine nk_p (i := .bipush 36) (len := 2) (pc' := 143) mJ_261 (by decide +kernel) (ns_bipush (c := 36) (by decide +kernel)) rfl ?_
  refine nk_p (i := .lushr) (len := 1) (pc' := 144) mJ_261 (by decide +kernel) ns_lushr rfl ?_
  refine nk_p (i := .lconst 1) (len := 1) (pc' := 145) mJ_261 (by decide +kernel) (ns_lconst (c := 1) (by decide +kernel)) rfl ?_
  refine nk_p (i := .land) (len := 1) (pc' := 146) mJ_261 (by decide +kernel) ns_land rfl ?_
  refine nk_p (i := .lconst 0) (len := 1) (pc' := 147) mJ_261 (by decide +kernel) (ns_lconst (c := 0) (by decide +kernel)) rfl ?_
  refine nk_p (i := .lcmp) (len := 1) (pc' := 148) mJ_261 (by decide +kernel) ns_lcmp rfl ?_
  refine nk_lcond (c := .eq) (off := 25) (len := 3) (t := 173) (pc' := 151) mJ_261 (by decide +kernel) (by decide +kernel) rfl (fun hc => ?_) (fun hc => ?_)
  · have hr := nk_ifp (c := (nk_land (nk_lushr l12 36) 1) = 0) hc hr
    refine nk_sub [0, 1, 2, 3, 4] (L' := [(0, nk_r l0), (1, nk_l l1), (5, nk_i l5), (6, nk_i l6), (7, nk_i l7)]) rfl ?_
    exact ja_X2_areSetsAsProved_b173_ok zs hrec14 _ _ _ _ _ _ _ t_l0 hr
  · have hr := nk_ifn (c := (nk_land (nk_lushr l12 36) 1) = 0) hc hr
    refine nk_p (i := .iload 10) (len := 2) (pc' := 153) mJ_261 (by decide +kernel) (ns_iload 6 rfl) rfl ?_
    refine nk_icond (c := .eq) (off := 16) (len := 3) (t := 169) (pc' := 156) mJ_261 (by decide +kernel) (by decide +kernel) rfl (fun hc => ?_) (fun hc => ?_)
    · have hr := nk_ifp (c := l10 = 0) hc hr
      refine nk_sub [0, 1, 2, 3, 4] (L' := [(0, nk_r l0), (1, nk_l l1), (5, nk_i l5), (6, nk_i l6), (7, nk_i l7)]) rfl ?_
      exact ja_X2_areSetsAsProved_b169_ok zs hrec14 _ _ _ _ _ _ _ t_l0 hr
    · have hr := nk_ifn (c := l10 = 0) hc hr
      refine nk_p (i := .iload 6) (len := 2) (pc' := 158) mJ_261 (by decide +kernel) (ns_iload 3 rfl) rfl ?_
      refine nk_icond (c := .lt) (off := 11) (len := 3) (t := 169) (pc' := 161) mJ_261 (by decide +kernel) (by decide +kernel) rfl (fun hc => ?_) (fun hc => ?_)
      · have hr := nk_ifp (c := l6 < 0) hc hr
        refine nk_sub [0, 1, 2, 3, 4] (L' := [(0, nk_r l0), (1, nk_l l1), (5, nk_i l5), (6, nk_i l6), (7, nk_i l7)]) rfl ?_
        exact ja_X2_areSetsAsProved_b169_ok zs hrec14 _ _ _ _ _ _ _ t_l0 hr
      · have hr := nk_ifn (c := l6 < 0) hc hr
        refine nk_p (i := .iload 6) (len := 2) (pc' := 163) mJ_261 (by decide +kernel) (ns_iload 3 rfl) rfl ?_
        refine nk_p (i := .lload 8) (len := 2) (pc' := 165) mJ_261 (by decide +kernel) (ns_lload 5 rfl) rfl ?_
        refine nk_p (i := .l2i) (len := 1) (pc' := 166) mJ_261 (by decide +kernel) ns_l2i rfl ?_
        refine nk_icmp (c := .eq) (off := 7) (len := 3) (t := 173) (pc' := 169) mJ_261 (by decide +kernel) (by decide +kernel) rfl (fun hc => ?_) (fun hc => ?_)
        · have hr := nk_ifp (c := l6 = (nk_w l8)) hc hr
          refine nk_sub [0, 1, 2, 3, 4] (L' := [(0, nk_r l0), (1, nk_l l1), (5, nk_i l5), (6, nk_i l6), (7, nk_i l7)]) rfl ?_
          exact ja_X2_areSetsAsProved_b173_ok zs hrec14 _ _ _ _ _ _ _ t_l0 hr
        · have hr := nk_ifn (c := l6 = (nk_w l8)) hc hr
          refine nk_sub [0, 1, 2, 3, 4] (L' := [(0, nk_r l0), (1, nk_l l1), (5, nk_i l5), (6, nk_i l6), (7, nk_i l7)]) rfl ?_
          exact ja_X2_areSetsAsProved_b169_ok zs hrec14 _ _ _ _ _ _ _ t_l0 hr
noncomputable def ja_X2_areSetsAsProved_b115 (rec14 : Nat → Int → Int → Int → Int → nk_S → Option (Int × nk_S)) (l0 : Nat) (l1 : Int) (l5 : Int) (l6 : Int) (l7 : Int) (l8 : Int) (l10 : Int) (l11 : Int) (l12 : Int) (S : nk_S) : Option (Int × nk_S) :=
  if (nk_land (nk_lushr l12 24) 1) = 0 then
    ja_X2_areSetsAsProved_b139 rec14 l0 l1 l5 l6 l7 l8 l10 l12 S
  else
    if l11 < 0 then
      ja_X2_areSetsAsProved_b169 rec14 l0 l1 l5 l6 l7 S
    else
      if l5 = l11 then
        ja_X2_areSetsAsProved_b139 rec14 l0 l1 l5 l6 l7 l8 l10 l12 S
      else
        ja_X2_areSetsAsProved_b169 rec14 l0 l1 l5 l6 l7 S
theorem ja_X2_areSetsAsProved_b115_ok (zs : List Int32) {rec14 : Nat → Int → Int → Int → Int → nk_S → Option (Int × nk_S)} (hrec14 : ∀ (l0 : Nat) (l1 : Int) (l5 : Int) (l6 : Int) (l7 : Int) (S : nk_S) (R : Int × nk_S), nk_cl ja_Tt l0 = some 2 → rec14 l0 l1 l5 l6 l7 S = some R → nk_K ja_Tt mi_Γ (mi_ev zs) 1 261 14 [(0, nk_r l0), (1, nk_l l1), (5, nk_i l5), (6, nk_i l6), (7, nk_i l7)] [] S R) : ∀ (l0 : Nat) (l1 : Int) (l5 : Int) (l6 : Int) (l7 : Int) (l8 : Int) (l10 : Int) (l11 : Int) (l12 : Int) (S : nk_S) (R : Int × nk_S), nk_cl ja_Tt l0 = some 2 → ja_X2_areSetsAsProved_b115 rec14 l0 l1 l5 l6 l7 l8 l10 l11 l12 S = some R → nk_K ja_Tt mi_Γ (mi_ev zs) 1 261 115 [(0, nk_r l0), (1, nk_l l1), (5, nk_i l5), (6, nk_i l6), (7, nk_i l7), (8, nk_l l8), (10, nk_i l10), (11, nk_i l11), (12, nk_l l12)] [] S R := by
  intro l0 l1 l5 l6 l7 l8 l10 l11 l12 S R t_l0 hr
  unfold ja_X2_areSetsAsProved_b115 at hr
  refine nk_p (i := .lload 12) (len := 2) (pc' := 117) mJ_261 (by decide +kernel) (ns_lload 8 rfl) rfl ?_
  refine nk_p (i := .bipush 24) (len := 2) (pc' := 119) mJ_261 (by decide +kernel) (ns_bipush (c := 24) (by decide +kernel)) rfl ?_
  refine nk_p (i := .lushr) (len := 1) (pc' := 120) mJ_261 (by decide +kernel) ns_lushr rfl ?_
  refine nk_p (i := .lconst 1) (len := 1) (pc' := 121) mJ_261 (by decide +kernel) (ns_lconst (c := 1) (by decide +kernel)) rfl ?_
  refine nk_p (i := .land) (len := 1) (pc' := 122) mJ_261 (by decide +kernel) ns_land rfl ?_
  refine nk_p (i := .lconst 0) (len := 1) (pc' := 123) mJ_261 (by decide +kernel) (ns_lconst (c := 0) (by decide +kernel)) rfl ?_
  refine nk_p (i := .lcmp) (len := 1) (pc' := 124) mJ_261 (by decide +kernel) ns_lcmp rfl ?_
  refine nk_lcond (c := .eq) (off := 15) (len := 3) (t := 139) (pc' := 127) mJ_261 (by decide +kernel) (by decide +kernel) rfl (fun hc => ?_) (fun hc => ?_)
  · have hr := nk_ifp (c := (nk_land (nk_lushr l12 24) 1) = 0) hc hr
    refine nk_sub [0, 1, 2, 3, 4, 5, 6, 8] (L' := [(0, nk_r l0), (1, nk_l l1), (5, nk_i l5), (6, nk_i l6), (7, nk_i l7), (8, nk_l l8), (10, nk_i l10), (12, nk_l l12)]) rfl ?_
    exact ja_X2_areSetsAsProved_b139_ok zs hrec14 _ _ _ _ _ _ _ _ _ _ t_l0 hr
  · have hr := nk_ifn (c := (nk_land (nk_lushr l12 24) 1) = 0) hc hr
    refine nk_p (i := .iload 11) (len := 2) (pc' := 129) mJ_261 (by decide +kernel) (ns_iload 7 rfl) rfl ?_
    refine nk_icond (c := .lt) (off := 40) (len := 3) (t := 169) (pc' := 132) mJ_261 (by decide +kernel) (by decide +kernel) rfl (fun hc => ?_) (fun hc => ?_)
    · have hr := nk_ifp (c := l11 < 0) hc hr
      refine nk_sub [0, 1, 2, 3, 4] (L' := [(0, nk_r l0), (1, nk_l l1), (5, nk_i l5), (6, nk_i l6), (7, nk_i l7)]) rfl ?_
      exact ja_X2_areSetsAsProved_b169_ok zs hrec14 _ _ _ _ _ _ _ t_l0 hr
    · have hr := nk_ifn (c := l11 < 0) hc hr
      refine nk_p (i := .iload 5) (len := 2) (pc' := 134) mJ_261 (by decide +kernel) (ns_iload 2 rfl) rfl ?_
      refine nk_p (i := .iload 11) (len := 2) (pc' := 136) mJ_261 (by decide +kernel) (ns_iload 7 rfl) rfl ?_
      refine nk_icmp (c := .ne) (off := 33) (len := 3) (t := 169) (pc' := 139) mJ_261 (by decide +kernel) (by decide +kernel) rfl (fun hc => ?_) (fun hc => ?_)
      · have hr := nk_ifn (c := l5 = l11) hc hr
        refine nk_sub [0, 1, 2, 3, 4] (L' := [(0, nk_r l0), (1, nk_l l1), (5, nk_i l5), (6, nk_i l6), (7, nk_i l7)]) rfl ?_
        exact ja_X2_areSetsAsProved_b169_ok zs hrec14 _ _ _ _ _ _ _ t_l0 hr
      · have hr := nk_ifp (c := l5 = l11) (Decidable.of_not_not hc) hr
        refine nk_sub [0, 1, 2, 3, 4, 5, 6, 8] (L' := [(0, nk_r l0), (1, nk_l l1), (5, nk_i l5), (6, nk_i l6), (7, nk_i l7), (8, nk_l l8), (10, nk_i l10), (12, nk_l l12)]) rfl ?_
        exact ja_X2_areSetsAsProved_b139_ok zs hrec14 _ _ _ _ _ _ _ _ _ _ t_l0 hr
noncomputable def ja_X2_areSetsAsProved_b91 (rec14 : Nat → Int → Int → Int → Int → nk_S → Option (Int × nk_S)) (l0 : Nat) (l1 : Int) (l5 : Int) (l6 : Int) (l7 : Int) (l8 : Int) (l10 : Int) (l11 : Int) (l12 : Int) (S : nk_S) : Option (Int × nk_S) :=
  if (nk_land (nk_lushr l12 12) 1) = 0 then
    ja_X2_areSetsAsProved_b115 rec14 l0 l1 l5 l6 l7 l8 l10 l11 l12 S
  else
    if l11 < 0 then
      ja_X2_areSetsAsProved_b169 rec14 l0 l1 l5 l6 l7 S
    else
      if l11 ≤ l5 then
        ja_X2_areSetsAsProved_b169 rec14 l0 l1 l5 l6 l7 S
      else
        ja_X2_areSetsAsProved_b115 rec14 l0 l1 l5 l6 l7 l8 l10 l11 l12 S
theorem ja_X2_areSetsAsProved_b91_ok (zs : List Int32) {rec14 : Nat → Int → Int → Int → Int → nk_S → Option (Int × nk_S)} (hrec14 : ∀ (l0 : Nat) (l1 : Int) (l5 : Int) (l6 : Int) (l7 : Int) (S : nk_S) (R : Int × nk_S), nk_cl ja_Tt l0 = some 2 → rec14 l0 l1 l5 l6 l7 S = some R → nk_K ja_Tt mi_Γ (mi_ev zs) 1 261 14 [(0, nk_r l0), (1, nk_l l1), (5, nk_i l5), (6, nk_i l6), (7, nk_i l7)] [] S R) : ∀ (l0 : Nat) (l1 : Int) (l5 : Int) (l6 : Int) (l7 : Int) (l8 : Int) (l10 : Int) (l11 : Int) (l12 : Int) (S : nk_S) (R : Int × nk_S), nk_cl ja_Tt l0 = some 2 → ja_X2_areSetsAsProved_b91 rec14 l0 l1 l5 l6 l7 l8 l10 l11 l12 S = some R → nk_K ja_Tt mi_Γ (mi_ev zs) 1 261 91 [(0, nk_r l0), (1, nk_l l1), (5, nk_i l5), (6, nk_i l6), (7, nk_i l7), (8, nk_l l8), (10, nk_i l10), (11, nk_i l11), (12, nk_l l12)] [] S R := by
  intro l0 l1 l5 l6 l7 l8 l10 l11 l12 S R t_l0 hr
  unfold ja_X2_areSetsAsProved_b91 at hr
  refine nk_p (i := .lload 12) (len := 2) (pc' := 93) mJ_261 (by decide +kernel) (ns_lload 8 rfl) rfl ?_
  refine nk_p (i := .bipush 12) (len := 2) (pc' := 95) mJ_261 (by decide +kernel) (ns_bipush (c := 12) (by decide +kernel)) rfl ?_
  refine nk_p (i := .lushr) (len := 1) (pc' := 96) mJ_261 (by decide +kernel) ns_lushr rfl ?_
  refine nk_p (i := .lconst 1) (len := 1) (pc' := 97) mJ_261 (by decide +kernel) (ns_lconst (c := 1) (by decide +kernel)) rfl ?_
  refine nk_p (i := .land) (len := 1) (pc' := 98) mJ_261 (by decide +kernel) ns_land rfl ?_
  refine nk_p (i := .lconst 0) (len := 1) (pc' := 99) mJ_261 (by decide +kernel) (ns_lconst (c := 0) (by decide +kernel)) rfl ?_
  refine nk_p (i := .lcmp) (len := 1) (pc' := 100) mJ_261 (by decide +kernel) ns_lcmp rfl ?_
  refine nk_lcond (c := .eq) (off := 15) (len := 3) (t := 115) (pc' := 103) mJ_261 (by decide +kernel) (by decide +kernel) rfl (fun hc => ?_) (fun hc => ?_)
  · have hr := nk_ifp (c := (nk_land (nk_lushr l12 12) 1) = 0) hc hr
    exact ja_X2_areSetsAsProved_b115_ok zs hrec14 _ _ _ _ _ _ _ _ _ _ _ t_l0 hr
  · have hr := nk_ifn (c := (nk_land (nk_lushr l12 12) 1) = 0) hc hr
    refine nk_p (i := .iload 11) (len := 2) (pc' := 105) mJ_261 (by decide +kernel) (ns_iload 7 rfl) rfl ?_
    refine nk_icond (c := .lt) (off := 64) (len := 3) (t := 169) (pc' := 108) mJ_261 (by decide +kernel) (by decide +kernel) rfl (fun hc => ?_) (fun hc => ?_)
    · have hr := nk_ifp (c := l11 < 0) hc hr
      refine nk_sub [0, 1, 2, 3, 4] (L' := [(0, nk_r l0), (1, nk_l l1), (5, nk_i l5), (6, nk_i l6), (7, nk_i l7)]) rfl ?_
      exact ja_X2_areSetsAsProved_b169_ok zs hrec14 _ _ _ _ _ _ _ t_l0 hr
    · have hr := nk_ifn (c := l11 < 0) hc hr
      refine nk_p (i := .iload 5) (len := 2) (pc' := 110) mJ_261 (by decide +kernel) (ns_iload 2 rfl) rfl ?_
      refine nk_p (i := .iload 11) (len := 2) (pc' := 112) mJ_261 (by decide +kernel) (ns_iload 7 rfl) rfl ?_
      refine nk_icmp (c := .ge) (off := 57) (len := 3) (t := 169) (pc' := 115) mJ_261 (by decide +kernel) (by decide +kernel) rfl (fun hc => ?_) (fun hc => ?_)
      · have hr := nk_ifp (c := l11 ≤ l5) hc hr
        refine nk_sub [0, 1, 2, 3, 4] (L' := [(0, nk_r l0), (1, nk_l l1), (5, nk_i l5), (6, nk_i l6), (7, nk_i l7)]) rfl ?_
        exact ja_X2_areSetsAsProved_b169_ok zs hrec14 _ _ _ _ _ _ _ t_l0 hr
      · have hr := nk_ifn (c := l11 ≤ l5) hc hr
        exact ja_X2_areSetsAsProved_b115_ok zs hrec14 _ _ _ _ _ _ _ _ _ _ _ t_l0 hr
noncomputable def ja_X2_areSetsAsProved_b53 (rec14 : Nat → Int → Int → Int → Int → nk_S → Option (Int × nk_S)) (l0 : Nat) (l1 : Int) (l5 : Int) (l6 : Int) (l7 : Int) (l8 : Int) (s0 : Int) (S : nk_S) : Option (Int × nk_S) :=
  nk_bd (ja_X2_lengthOf l0 l8 S) fun r1 S2 =>
  nk_lt (nk_lushr l1 l7) fun v4 =>
  if (nk_land v4 1) = 0 then
    ja_X2_areSetsAsProved_b91 rec14 l0 l1 l5 l6 l7 l8 s0 r1 v4 S2
  else
    if s0 = 0 then
      ja_X2_areSetsAsProved_b169 rec14 l0 l1 l5 l6 l7 S2
    else
      if (nk_w l8) ≤ l5 then
        ja_X2_areSetsAsProved_b169 rec14 l0 l1 l5 l6 l7 S2
      else
        ja_X2_areSetsAsProved_b91 rec14 l0 l1 l5 l6 l7 l8 s0 r1 v4 S2
theorem ja_X2_areSetsAsProved_b53_ok (zs : List Int32) {rec14 : Nat → Int → Int → Int → Int → nk_S → Option (Int × nk_S)} (hrec14 : ∀ (l0 : Nat) (l1 : Int) (l5 : Int) (l6 : Int) (l7 : Int) (S : nk_S) (R : Int × nk_S), nk_cl ja_Tt l0 = some 2 → rec14 l0 l1 l5 l6 l7 S = some R → nk_K ja_Tt mi_Γ (mi_ev zs) 1 261 14 [(0, nk_r l0), (1, nk_l l1), (5, nk_i l5), (6, nk_i l6), (7, nk_i l7)] [] S R) : ∀ (l0 : Nat) (l1 : Int) (l5 : Int) (l6 : Int) (l7 : Int) (l8 : Int) (s0 : Int) (S : nk_S) (R : Int × nk_S), nk_cl ja_Tt l0 = some 2 → ja_X2_areSetsAsProved_b53 rec14 l0 l1 l5 l6 l7 l8 s0 S = some R → nk_K ja_Tt mi_Γ (mi_ev zs) 1 261 53 [(0, nk_r l0), (1, nk_l l1), (5, nk_i l5), (6, nk_i l6), (7, nk_i l7), (8, nk_l l8)] [nk_i s0] S R := by
  intro l0 l1 l5 l6 l7 l8 s0 S R t_l0 hr
  unfold ja_X2_areSetsAsProved_b53 at hr
  refine nk_p (i := .istore 10) (len := 2) (pc' := 55) mJ_261 (by decide +kernel) (ns_istore (L' := [(10, nk_i s0), (0, nk_r l0), (1, nk_l l1), (5, nk_i l5), (6, nk_i l6), (7, nk_i l7), (8, nk_l l8)]) rfl rfl (by decide +kernel)) rfl ?_
  refine nk_p (i := .aload_n 0) (len := 1) (pc' := 56) mJ_261 (by decide +kernel) (ns_aload_n 1 rfl rfl) rfl ?_
  refine nk_p (i := .lload 8) (len := 2) (pc' := 58) mJ_261 (by decide +kernel) (ns_lload 6 rfl) rfl ?_
  obtain ⟨r1, S2, h3, hr⟩ := nk_bde hr
  refine nk_callV (ci := 2) (n := 1) (x := 322) (len := 3) (j' := 280) (q' := 1) (r := r1) (S' := S2) (L2 := [(0, nk_r l0), (1, nk_l l8)]) (rest := []) (st' := [nk_i r1]) (pc' := 61) mJ_261 (by decide +kernel) (by decide +kernel) rfl rfl t_l0 (Nat.le_of_ble_eq_true rfl) mJ_280 (Nat.le_of_ble_eq_true rfl) rfl (ja_X2_lengthOf_ok zs _ _ _ _ t_l0 h3) rfl ?_
  refine nk_p (i := .istore 11) (len := 2) (pc' := 63) mJ_261 (by decide +kernel) (ns_istore (L' := [(11, nk_i r1), (10, nk_i s0), (0, nk_r l0), (1, nk_l l1), (5, nk_i l5), (6, nk_i l6), (7, nk_i l7), (8, nk_l l8)]) rfl rfl (by decide +kernel)) rfl ?_
  refine nk_p (i := .lload_n 1) (len := 1) (pc' := 64) mJ_261 (by decide +kernel) (ns_lload_n 3 rfl rfl) rfl ?_
  refine nk_p (i := .iload 7) (len := 2) (pc' := 66) mJ_261 (by decide +kernel) (ns_iload 6 rfl) rfl ?_
  refine nk_p (i := .lushr) (len := 1) (pc' := 67) mJ_261 (by decide +kernel) ns_lushr rfl ?_
  obtain ⟨v4, h5, hr⟩ := nk_lte hr
  refine nk_p (i := .lstore 12) (len := 2) (pc' := 69) mJ_261 (by decide +kernel) (ns_lstore (L' := [(12, nk_l v4), (11, nk_i r1), (10, nk_i s0), (0, nk_r l0), (1, nk_l l1), (5, nk_i l5), (6, nk_i l6), (7, nk_i l7), (8, nk_l l8)]) h5 rfl (by decide +kernel)) rfl ?_
  refine nk_p (i := .lload 12) (len := 2) (pc' := 71) mJ_261 (by decide +kernel) (ns_lload 0 rfl) rfl ?_
  refine nk_p (i := .lconst 1) (len := 1) (pc' := 72) mJ_261 (by decide +kernel) (ns_lconst (c := 1) (by decide +kernel)) rfl ?_
  refine nk_p (i := .land) (len := 1) (pc' := 73) mJ_261 (by decide +kernel) ns_land rfl ?_
  refine nk_p (i := .lconst 0) (len := 1) (pc' := 74) mJ_261 (by decide +kernel) (ns_lconst (c := 0) (by decide +kernel)) rfl ?_
  refine nk_p (i := .lcmp) (len := 1) (pc' := 75) mJ_261 (by decide +kernel) ns_lcmp rfl ?_
  refine nk_lcond (c := .eq) (off := 16) (len := 3) (t := 91) (pc' := 78) mJ_261 (by decide +kernel) (by decide +kernel) rfl (fun hc => ?_) (fun hc => ?_)
  · have hr := nk_ifp (c := (nk_land v4 1) = 0) hc hr
    refine nk_sub [3, 4, 5, 6, 7, 8, 2, 1, 0] (L' := [(0, nk_r l0), (1, nk_l l1), (5, nk_i l5), (6, nk_i l6), (7, nk_i l7), (8, nk_l l8), (10, nk_i s0), (11, nk_i r1), (12, nk_l v4)]) rfl ?_
    exact ja_X2_areSetsAsProved_b91_ok zs hrec14 _ _ _ _ _ _ _ _ _ _ _ t_l0 hr
  · have hr := nk_ifn (c := (nk_land v4 1) = 0) hc hr
    refine nk_p (i := .iload 10) (len := 2) (pc' := 80) mJ_261 (by decide +kernel) (ns_iload 2 rfl) rfl ?_
    refine nk_icond (c := .eq) (off := 89) (len := 3) (t := 169) (pc' := 83) mJ_261 (by decide +kernel) (by decide +kernel) rfl (fun hc => ?_) (fun hc => ?_)
    · have hr := nk_ifp (c := s0 = 0) hc hr
      refine nk_sub [3, 4, 5, 6, 7] (L' := [(0, nk_r l0), (1, nk_l l1), (5, nk_i l5), (6, nk_i l6), (7, nk_i l7)]) rfl ?_
      exact ja_X2_areSetsAsProved_b169_ok zs hrec14 _ _ _ _ _ _ _ t_l0 hr
    · have hr := nk_ifn (c := s0 = 0) hc hr
      refine nk_p (i := .iload 5) (len := 2) (pc' := 85) mJ_261 (by decide +kernel) (ns_iload 5 rfl) rfl ?_
      refine nk_p (i := .lload 8) (len := 2) (pc' := 87) mJ_261 (by decide +kernel) (ns_lload 8 rfl) rfl ?_
      refine nk_p (i := .l2i) (len := 1) (pc' := 88) mJ_261 (by decide +kernel) ns_l2i rfl ?_
      refine nk_icmp (c := .ge) (off := 81) (len := 3) (t := 169) (pc' := 91) mJ_261 (by decide +kernel) (by decide +kernel) rfl (fun hc => ?_) (fun hc => ?_)
      · have hr := nk_ifp (c := (nk_w l8) ≤ l5) hc hr
        refine nk_sub [3, 4, 5, 6, 7] (L' := [(0, nk_r l0), (1, nk_l l1), (5, nk_i l5), (6, nk_i l6), (7, nk_i l7)]) rfl ?_
        exact ja_X2_areSetsAsProved_b169_ok zs hrec14 _ _ _ _ _ _ _ t_l0 hr
      · have hr := nk_ifn (c := (nk_w l8) ≤ l5) hc hr
        refine nk_sub [3, 4, 5, 6, 7, 8, 2, 1, 0] (L' := [(0, nk_r l0), (1, nk_l l1), (5, nk_i l5), (6, nk_i l6), (7, nk_i l7), (8, nk_l l8), (10, nk_i s0), (11, nk_i r1), (12, nk_l v4)]) rfl ?_
        exact ja_X2_areSetsAsProved_b91_ok zs hrec14 _ _ _ _ _ _ _ _ _ _ _ t_l0 hr
noncomputable def ja_X2_areSetsAsProved_b14 (rec14 : Nat → Int → Int → Int → Int → nk_S → Option (Int × nk_S)) (l0 : Nat) (l1 : Int) (l5 : Int) (l6 : Int) (l7 : Int) (S : nk_S) : Option (Int × nk_S) :=
  if 12 ≤ l7 then
    some (1, S)
  else
    if 0 ≤ (nk_w ((nk_w ((S.1 l0 5) * 20)) + l7)) ∧ (nk_w ((nk_w ((S.1 l0 5) * 20)) + l7)) < 1280 then
    nk_lt (S.1 (ja_c l0 2) (nk_w ((nk_w ((S.1 l0 5) * 20)) + l7)).toNat) fun v3 =>
    if (nk_lushr v3 32) = 1 then
      ja_X2_areSetsAsProved_b53 rec14 l0 l1 l5 l6 l7 v3 1 S
    else
      ja_X2_areSetsAsProved_b53 rec14 l0 l1 l5 l6 l7 v3 0 S
    else none
theorem ja_X2_areSetsAsProved_b14_ok (zs : List Int32) {rec14 : Nat → Int → Int → Int → Int → nk_S → Option (Int × nk_S)} (hrec14 : ∀ (l0 : Nat) (l1 : Int) (l5 : Int) (l6 : Int) (l7 : Int) (S : nk_S) (R : Int × nk_S), nk_cl ja_Tt l0 = some 2 → rec14 l0 l1 l5 l6 l7 S = some R → nk_K ja_Tt mi_Γ (mi_ev zs) 1 261 14 [(0, nk_r l0), (1, nk_l l1), (5, nk_i l5), (6, nk_i l6), (7, nk_i l7)] [] S R) : ∀ (l0 : Nat) (l1 : Int) (l5 : Int) (l6 : Int) (l7 : Int) (S : nk_S) (R : Int × nk_S), nk_cl ja_Tt l0 = some 2 → ja_X2_areSetsAsProved_b14 rec14 l0 l1 l5 l6 l7 S = some R → nk_K ja_Tt mi_Γ (mi_ev zs) 1 261 14 [(0, nk_r l0), (1, nk_l l1), (5, nk_i l5), (6, nk_i l6), (7, nk_i l7)] [] S R := by
  intro l0 l1 l5 l6 l7 S R t_l0 hr
  unfold ja_X2_areSetsAsProved_b14 at hr
  refine nk_p (i := .iload 7) (len := 2) (pc' := 16) mJ_261 (by decide +kernel) (ns_iload 4 rfl) rfl ?_
  refine nk_p (i := .bipush 12) (len := 2) (pc' := 18) mJ_261 (by decide +kernel) (ns_bipush (c := 12) (by decide +kernel)) rfl ?_
  refine nk_icmp (c := .ge) (off := 171) (len := 3) (t := 189) (pc' := 21) mJ_261 (by decide +kernel) (by decide +kernel) rfl (fun hc => ?_) (fun hc => ?_)
  · have hr := nk_ifp (c := 12 ≤ l7) hc hr
    refine nk_p (i := .iconst 1) (len := 1) (pc' := 190) mJ_261 (by decide +kernel) (ns_iconst (c := 1) (by decide +kernel)) rfl ?_
    cases hr
    exact nk_iret (ty := .boolean) (len := 1) mJ_261 (by decide +kernel) rfl (nk_nar_z (by decide))
  · have hr := nk_ifn (c := 12 ≤ l7) hc hr
    refine nk_p (i := .aload_n 0) (len := 1) (pc' := 22) mJ_261 (by decide +kernel) (ns_aload_n 0 rfl rfl) rfl ?_
    refine nk_getC (f := (4, 2, 1280)) (x := 9) (len := 3) (ci := 2) (k := 2) (pc' := 25) ja_okT mJ_261 (by decide +kernel) (by decide +kernel) (by decide +kernel) (by decide) t_l0 rfl ?_
    have t1 : nk_ar ja_Tt (ja_c l0 2) = some (2, 1280) := nk_ta ja_okT t_l0 (by decide +kernel)
    refine nk_p (i := .aload_n 0) (len := 1) (pc' := 26) mJ_261 (by decide +kernel) (ns_aload_n 0 rfl rfl) rfl ?_
    refine nk_getI (y := (0, 0)) (x := 52) (len := 3) (ci := 2) (k := 5) (pc' := 29) ja_okT mJ_261 (by decide +kernel) (by decide +kernel) (by decide +kernel) t_l0 rfl ?_
    refine nk_p (i := .bipush 20) (len := 2) (pc' := 31) mJ_261 (by decide +kernel) (ns_bipush (c := 20) (by decide +kernel)) rfl ?_
    refine nk_p (i := .imul) (len := 1) (pc' := 32) mJ_261 (by decide +kernel) ns_imul rfl ?_
    refine nk_p (i := .iload 7) (len := 2) (pc' := 34) mJ_261 (by decide +kernel) (ns_iload 4 rfl) rfl ?_
    refine nk_p (i := .iadd) (len := 1) (pc' := 35) mJ_261 (by decide +kernel) ns_iadd rfl ?_
    obtain ⟨h2, hr⟩ := nk_cke hr
    refine nk_lald (len := 1) (N := 1280) (pc' := 36) mJ_261 (by decide +kernel) t1 h2.1 h2.2 rfl rfl ?_
    obtain ⟨v3, h4, hr⟩ := nk_lte hr
    refine nk_p (i := .lstore 8) (len := 2) (pc' := 38) mJ_261 (by decide +kernel) (ns_lstore (L' := [(8, nk_l v3), (0, nk_r l0), (1, nk_l l1), (5, nk_i l5), (6, nk_i l6), (7, nk_i l7)]) h4 rfl (by decide +kernel)) rfl ?_
    refine nk_p (i := .lload 8) (len := 2) (pc' := 40) mJ_261 (by decide +kernel) (ns_lload 0 rfl) rfl ?_
    refine nk_p (i := .bipush 32) (len := 2) (pc' := 42) mJ_261 (by decide +kernel) (ns_bipush (c := 32) (by decide +kernel)) rfl ?_
    refine nk_p (i := .lushr) (len := 1) (pc' := 43) mJ_261 (by decide +kernel) ns_lushr rfl ?_
    refine nk_p (i := .lconst 1) (len := 1) (pc' := 44) mJ_261 (by decide +kernel) (ns_lconst (c := 1) (by decide +kernel)) rfl ?_
    refine nk_p (i := .lcmp) (len := 1) (pc' := 45) mJ_261 (by decide +kernel) ns_lcmp rfl ?_
    refine nk_lcond (c := .ne) (off := 7) (len := 3) (t := 52) (pc' := 48) mJ_261 (by decide +kernel) (by decide +kernel) rfl (fun hc => ?_) (fun hc => ?_)
    · have hr := nk_ifn (c := (nk_lushr v3 32) = 1) hc hr
      refine nk_p (i := .iconst 0) (len := 1) (pc' := 53) mJ_261 (by decide +kernel) (ns_iconst (c := 0) (by decide +kernel)) rfl ?_
      refine nk_sub [1, 2, 3, 4, 5, 0] (L' := [(0, nk_r l0), (1, nk_l l1), (5, nk_i l5), (6, nk_i l6), (7, nk_i l7), (8, nk_l v3)]) rfl ?_
      exact ja_X2_areSetsAsProved_b53_ok zs hrec14 _ _ _ _ _ _ _ _ _ t_l0 hr
    · have hr := nk_ifp (c := (nk_lushr v3 32) = 1) (Decidable.of_not_not hc) hr
      refine nk_p (i := .iconst 1) (len := 1) (pc' := 49) mJ_261 (by decide +kernel) (ns_iconst (c := 1) (by decide +kernel)) rfl ?_
      refine nk_p (i := .goto 4) (len := 3) (pc' := 53) mJ_261 (by decide +kernel) (ns_goto (by decide +kernel)) rfl ?_
      refine nk_sub [1, 2, 3, 4, 5, 0] (L' := [(0, nk_r l0), (1, nk_l l1), (5, nk_i l5), (6, nk_i l6), (7, nk_i l7), (8, nk_l v3)]) rfl ?_
      exact ja_X2_areSetsAsProved_b53_ok zs hrec14 _ _ _ _ _ _ _ _ _ t_l0 hr
noncomputable def ja_X2_areSetsAsProved_L14 : Nat → Nat → Int → Int → Int → Int → nk_S → Option (Int × nk_S)
  | 0, _, _, _, _, _, _ => none
  | n + 1, l0, l1, l5, l6, l7, S => ja_X2_areSetsAsProved_b14 (ja_X2_areSetsAsProved_L14 n) l0 l1 l5 l6 l7 S
theorem ja_X2_areSetsAsProved_L14_ok (zs : List Int32) : ∀ n : Nat, ∀ (l0 : Nat) (l1 : Int) (l5 : Int) (l6 : Int) (l7 : Int) (S : nk_S) (R : Int × nk_S), nk_cl ja_Tt l0 = some 2 → ja_X2_areSetsAsProved_L14 n l0 l1 l5 l6 l7 S = some R → nk_K ja_Tt mi_Γ (mi_ev zs) 1 261 14 [(0, nk_r l0), (1, nk_l l1), (5, nk_i l5), (6, nk_i l6), (7, nk_i l7)] [] S R := by
  intro n
  induction n with
  | zero => intro _ _ _ _ _ _ _ _ hr; cases hr
  | succ n ih => intro l0 l1 l5 l6 l7 S R t_l0 hr; exact ja_X2_areSetsAsProved_b14_ok zs ih l0 l1 l5 l6 l7 S R t_l0 hr
noncomputable def ja_X2_areSetsAsProved (l0 : Nat) (l1 : Int) (l3 : Int) (S : nk_S) : Option (Int × nk_S) :=
  nk_lt (nk_w l3) fun v1 =>
  nk_bd (ja_X2_lengthOf l0 l3 S) fun r3 S4 =>
  ja_X2_areSetsAsProved_L14 nk_big l0 l1 v1 r3 0 S4
theorem ja_X2_areSetsAsProved_ok (zs : List Int32) : ∀ (l0 : Nat) (l1 : Int) (l3 : Int) (S : nk_S) (R : Int × nk_S), nk_cl ja_Tt l0 = some 2 → ja_X2_areSetsAsProved l0 l1 l3 S = some R → nk_K ja_Tt mi_Γ (mi_ev zs) 1 261 0 [(0, nk_r l0), (1, nk_l l1), (3, nk_l l3)] [] S R := by
  intro l0 l1 l3 S R t_l0 hr
  unfold ja_X2_areSetsAsProved at hr
  refine nk_p (i := .lload_n 3) (len := 1) (pc' := 1) mJ_261 (by decide +kernel) (ns_lload_n 2 rfl rfl) rfl ?_
  refine nk_p (i := .l2i) (len := 1) (pc' := 2) mJ_261 (by decide +kernel) ns_l2i rfl ?_
  obtain ⟨v1, h2, hr⟩ := nk_lte hr
  refine nk_p (i := .istore 5) (len := 2) (pc' := 4) mJ_261 (by decide +kernel) (ns_istore (L' := [(5, nk_i v1), (0, nk_r l0), (1, nk_l l1), (3, nk_l l3)]) h2 rfl (by decide +kernel)) rfl ?_
  refine nk_p (i := .aload_n 0) (len := 1) (pc' := 5) mJ_261 (by decide +kernel) (ns_aload_n 1 rfl rfl) rfl ?_
  refine nk_p (i := .lload_n 3) (len := 1) (pc' := 6) mJ_261 (by decide +kernel) (ns_lload_n 3 rfl rfl) rfl ?_
  obtain ⟨r3, S4, h5, hr⟩ := nk_bde hr
  refine nk_callV (ci := 2) (n := 1) (x := 322) (len := 3) (j' := 280) (q' := 1) (r := r3) (S' := S4) (L2 := [(0, nk_r l0), (1, nk_l l3)]) (rest := []) (st' := [nk_i r3]) (pc' := 9) mJ_261 (by decide +kernel) (by decide +kernel) rfl rfl t_l0 (Nat.le_of_ble_eq_true rfl) mJ_280 (Nat.le_of_ble_eq_true rfl) rfl (ja_X2_lengthOf_ok zs _ _ _ _ t_l0 h5) rfl ?_
  refine nk_p (i := .istore 6) (len := 2) (pc' := 11) mJ_261 (by decide +kernel) (ns_istore (L' := [(6, nk_i r3), (5, nk_i v1), (0, nk_r l0), (1, nk_l l1), (3, nk_l l3)]) rfl rfl (by decide +kernel)) rfl ?_
  refine nk_p (i := .iconst 0) (len := 1) (pc' := 12) mJ_261 (by decide +kernel) (ns_iconst (c := 0) (by decide +kernel)) rfl ?_
  refine nk_p (i := .istore 7) (len := 2) (pc' := 14) mJ_261 (by decide +kernel) (ns_istore (L' := [(7, nk_i 0), (6, nk_i r3), (5, nk_i v1), (0, nk_r l0), (1, nk_l l1), (3, nk_l l3)]) rfl rfl (by decide +kernel)) rfl ?_
  refine nk_sub [3, 4, 2, 1, 0] (L' := [(0, nk_r l0), (1, nk_l l1), (5, nk_i v1), (6, nk_i r3), (7, nk_i 0)]) rfl ?_
  exact ja_X2_areSetsAsProved_L14_ok zs nk_big _ _ _ _ _ _ _ t_l0 hr
/-! SafeCode$Machine isSlotAsProved (IJ)Z -/
noncomputable def ja_X2_isSlotAsProved_b202 (l0 : Nat) (l2 : Int) (l4 : Int) (l10 : Int) (s0 : Int) (S : nk_S) : Option (Int × nk_S) :=
  if l10 = 0 then
    some (0, S)
  else
    if s0 = 0 then
      some (0, S)
    else
      if (nk_land l4 281474976710655) = 0 then
        some (1, S)
      else
        nk_bd (ja_X2_areSetsAsProved l0 l4 l2 S) fun r1 S2 =>
        if r1 = 0 then
          some (0, S2)
        else
          some (1, S2)
theorem ja_X2_isSlotAsProved_b202_ok (zs : List Int32) : ∀ (l0 : Nat) (l2 : Int) (l4 : Int) (l10 : Int) (s0 : Int) (S : nk_S) (R : Int × nk_S), nk_cl ja_Tt l0 = some 2 → ja_X2_isSlotAsProved_b202 l0 l2 l4 l10 s0 S = some R → nk_K ja_Tt mi_Γ (mi_ev zs) 1 276 202 [(0, nk_r l0), (2, nk_l l2), (4, nk_l l4), (10, nk_i l10)] [nk_i s0] S R := by
  intro l0 l2 l4 l10 s0 S R t_l0 hr
  unfold ja_X2_isSlotAsProved_b202 at hr
  refine nk_p (i := .istore 12) (len := 2) (pc' := 204) mJ_276 (by decide +kernel) (ns_istore (L' := [(12, nk_i s0), (0, nk_r l0), (2, nk_l l2), (4, nk_l l4), (10, nk_i l10)]) rfl rfl (by decide +kernel)) rfl ?_
  refine nk_p (i := .iload 10) (len := 2) (pc' := 206) mJ_276 (by decide +kernel) (ns_iload 4 rfl) rfl ?_
  refine nk_icond (c := .eq) (off := 33) (len := 3) (t := 239) (pc' := 209) mJ_276 (by decide +kernel) (by decide +kernel) rfl (fun hc => ?_) (fun hc => ?_)
  · have hr := nk_ifp (c := l10 = 0) hc hr
    refine nk_p (i := .iconst 0) (len := 1) (pc' := 240) mJ_276 (by decide +kernel) (ns_iconst (c := 0) (by decide +kernel)) rfl ?_
    cases hr
    exact nk_iret (ty := .boolean) (len := 1) mJ_276 (by decide +kernel) rfl (nk_nar_z (by decide))
  · have hr := nk_ifn (c := l10 = 0) hc hr
    refine nk_p (i := .iload 12) (len := 2) (pc' := 211) mJ_276 (by decide +kernel) (ns_iload 0 rfl) rfl ?_
    refine nk_icond (c := .eq) (off := 28) (len := 3) (t := 239) (pc' := 214) mJ_276 (by decide +kernel) (by decide +kernel) rfl (fun hc => ?_) (fun hc => ?_)
    · have hr := nk_ifp (c := s0 = 0) hc hr
      refine nk_p (i := .iconst 0) (len := 1) (pc' := 240) mJ_276 (by decide +kernel) (ns_iconst (c := 0) (by decide +kernel)) rfl ?_
      cases hr
      exact nk_iret (ty := .boolean) (len := 1) mJ_276 (by decide +kernel) rfl (nk_nar_z (by decide))
    · have hr := nk_ifn (c := s0 = 0) hc hr
      refine nk_p (i := .lload 4) (len := 2) (pc' := 216) mJ_276 (by decide +kernel) (ns_lload 3 rfl) rfl ?_
      refine nk_ldc2 (x := 316) (len := 3) (X := 281474976710655) (v := 281474976710655) (pc' := 219) mJ_276 (by decide +kernel) (by decide +kernel) (by decide +kernel) rfl ?_
      refine nk_p (i := .land) (len := 1) (pc' := 220) mJ_276 (by decide +kernel) ns_land rfl ?_
      refine nk_p (i := .lconst 0) (len := 1) (pc' := 221) mJ_276 (by decide +kernel) (ns_lconst (c := 0) (by decide +kernel)) rfl ?_
      refine nk_p (i := .lcmp) (len := 1) (pc' := 222) mJ_276 (by decide +kernel) ns_lcmp rfl ?_
      refine nk_lcond (c := .eq) (off := 13) (len := 3) (t := 235) (pc' := 225) mJ_276 (by decide +kernel) (by decide +kernel) rfl (fun hc => ?_) (fun hc => ?_)
      · have hr := nk_ifp (c := (nk_land l4 281474976710655) = 0) hc hr
        refine nk_p (i := .iconst 1) (len := 1) (pc' := 236) mJ_276 (by decide +kernel) (ns_iconst (c := 1) (by decide +kernel)) rfl ?_
        refine nk_p (i := .goto 4) (len := 3) (pc' := 240) mJ_276 (by decide +kernel) (ns_goto (by decide +kernel)) rfl ?_
        cases hr
        exact nk_iret (ty := .boolean) (len := 1) mJ_276 (by decide +kernel) rfl (nk_nar_z (by decide))
      · have hr := nk_ifn (c := (nk_land l4 281474976710655) = 0) hc hr
        refine nk_p (i := .aload_n 0) (len := 1) (pc' := 226) mJ_276 (by decide +kernel) (ns_aload_n 1 rfl rfl) rfl ?_
        refine nk_p (i := .lload 4) (len := 2) (pc' := 228) mJ_276 (by decide +kernel) (ns_lload 3 rfl) rfl ?_
        refine nk_p (i := .lload_n 2) (len := 1) (pc' := 229) mJ_276 (by decide +kernel) (ns_lload_n 2 rfl rfl) rfl ?_
        obtain ⟨r1, S2, h3, hr⟩ := nk_bde hr
        refine nk_callV (ci := 2) (n := 2) (x := 318) (len := 3) (j' := 261) (q' := 1) (r := r1) (S' := S2) (L2 := [(0, nk_r l0), (1, nk_l l4), (3, nk_l l2)]) (rest := []) (st' := [nk_i r1]) (pc' := 232) mJ_276 (by decide +kernel) (by decide +kernel) rfl rfl t_l0 (Nat.le_of_ble_eq_true rfl) mJ_261 (Nat.le_of_ble_eq_true rfl) rfl (ja_X2_areSetsAsProved_ok zs _ _ _ _ _ t_l0 h3) rfl ?_
        refine nk_icond (c := .eq) (off := 7) (len := 3) (t := 239) (pc' := 235) mJ_276 (by decide +kernel) (by decide +kernel) rfl (fun hc => ?_) (fun hc => ?_)
        · have hr := nk_ifp (c := r1 = 0) hc hr
          refine nk_p (i := .iconst 0) (len := 1) (pc' := 240) mJ_276 (by decide +kernel) (ns_iconst (c := 0) (by decide +kernel)) rfl ?_
          cases hr
          exact nk_iret (ty := .boolean) (len := 1) mJ_276 (by decide +kernel) rfl (nk_nar_z (by decide))
        · have hr := nk_ifn (c := r1 = 0) hc hr
          refine nk_p (i := .iconst 1) (len := 1) (pc' := 236) mJ_276 (by decide +kernel) (ns_iconst (c := 1) (by decide +kernel)) rfl ?_
          refine nk_p (i := .goto 4) (len := 3) (pc' := 240) mJ_276 (by decide +kernel) (ns_goto (by decide +kernel)) rfl ?_
          cases hr
          exact nk_iret (ty := .boolean) (len := 1) mJ_276 (by decide +kernel) rfl (nk_nar_z (by decide))
noncomputable def ja_X2_isSlotAsProved_b197 (l0 : Nat) (l2 : Int) (l4 : Int) (l10 : Int) (S : nk_S) : Option (Int × nk_S) :=
  ja_X2_isSlotAsProved_b202 l0 l2 l4 l10 1 S
theorem ja_X2_isSlotAsProved_b197_ok (zs : List Int32) : ∀ (l0 : Nat) (l2 : Int) (l4 : Int) (l10 : Int) (S : nk_S) (R : Int × nk_S), nk_cl ja_Tt l0 = some 2 → ja_X2_isSlotAsProved_b197 l0 l2 l4 l10 S = some R → nk_K ja_Tt mi_Γ (mi_ev zs) 1 276 197 [(0, nk_r l0), (2, nk_l l2), (4, nk_l l4), (10, nk_i l10)] [] S R := by
  intro l0 l2 l4 l10 S R t_l0 hr
  unfold ja_X2_isSlotAsProved_b197 at hr
  refine nk_p (i := .iconst 1) (len := 1) (pc' := 198) mJ_276 (by decide +kernel) (ns_iconst (c := 1) (by decide +kernel)) rfl ?_
  refine nk_p (i := .goto 4) (len := 3) (pc' := 202) mJ_276 (by decide +kernel) (ns_goto (by decide +kernel)) rfl ?_
  exact ja_X2_isSlotAsProved_b202_ok zs _ _ _ _ _ _ _ t_l0 hr
noncomputable def ja_X2_isSlotAsProved_b165 (l0 : Nat) (l2 : Int) (l4 : Int) (l10 : Int) (S : nk_S) : Option (Int × nk_S) :=
  nk_bd (ja_X7_copyOf l4 S) fun r1 S2 =>
  if r1 < 0 then
    ja_X2_isSlotAsProved_b197 l0 l2 l4 l10 S2
  else
    if 0 ≤ (nk_w ((nk_w ((S2.1 l0 5) * 20)) + r1)) ∧ (nk_w ((nk_w ((S2.1 l0 5) * 20)) + r1)) < 1280 then
    if (S2.1 (ja_c l0 2) (nk_w ((nk_w ((S2.1 l0 5) * 20)) + r1)).toNat) = l2 then
      ja_X2_isSlotAsProved_b197 l0 l2 l4 l10 S2
    else
      ja_X2_isSlotAsProved_b202 l0 l2 l4 l10 0 S2
    else none
theorem ja_X2_isSlotAsProved_b165_ok (zs : List Int32) : ∀ (l0 : Nat) (l2 : Int) (l4 : Int) (l10 : Int) (S : nk_S) (R : Int × nk_S), nk_cl ja_Tt l0 = some 2 → ja_X2_isSlotAsProved_b165 l0 l2 l4 l10 S = some R → nk_K ja_Tt mi_Γ (mi_ev zs) 1 276 165 [(0, nk_r l0), (2, nk_l l2), (4, nk_l l4), (10, nk_i l10)] [] S R := by
  intro l0 l2 l4 l10 S R t_l0 hr
  unfold ja_X2_isSlotAsProved_b165 at hr
  refine nk_p (i := .lload 4) (len := 2) (pc' := 167) mJ_276 (by decide +kernel) (ns_lload 2 rfl) rfl ?_
  obtain ⟨r1, S2, h3, hr⟩ := nk_bde hr
  refine nk_callS (ci := 0) (n := 1) (x := 313) (len := 3) (j' := 400) (q' := 1) (r := r1) (S' := S2) (L2 := [(0, nk_l l4)]) (rest := []) (st' := [nk_i r1]) (pc' := 170) mJ_276 (by decide +kernel) (by decide +kernel) (Nat.le_of_ble_eq_true rfl) rfl rfl (Nat.le_of_ble_eq_true rfl) mJ_400 (Nat.le_of_ble_eq_true rfl) ja_Tpos rfl (ja_X7_copyOf_ok zs _ _ _ h3) rfl ?_
  refine nk_p (i := .istore 11) (len := 2) (pc' := 172) mJ_276 (by decide +kernel) (ns_istore (L' := [(11, nk_i r1), (0, nk_r l0), (2, nk_l l2), (4, nk_l l4), (10, nk_i l10)]) rfl rfl (by decide +kernel)) rfl ?_
  refine nk_p (i := .iload 11) (len := 2) (pc' := 174) mJ_276 (by decide +kernel) (ns_iload 0 rfl) rfl ?_
  refine nk_icond (c := .lt) (off := 23) (len := 3) (t := 197) (pc' := 177) mJ_276 (by decide +kernel) (by decide +kernel) rfl (fun hc => ?_) (fun hc => ?_)
  · have hr := nk_ifp (c := r1 < 0) hc hr
    refine nk_sub [1, 2, 3, 4] (L' := [(0, nk_r l0), (2, nk_l l2), (4, nk_l l4), (10, nk_i l10)]) rfl ?_
    exact ja_X2_isSlotAsProved_b197_ok zs _ _ _ _ _ _ t_l0 hr
  · have hr := nk_ifn (c := r1 < 0) hc hr
    refine nk_p (i := .aload_n 0) (len := 1) (pc' := 178) mJ_276 (by decide +kernel) (ns_aload_n 1 rfl rfl) rfl ?_
    refine nk_getC (f := (4, 2, 1280)) (x := 9) (len := 3) (ci := 2) (k := 2) (pc' := 181) ja_okT mJ_276 (by decide +kernel) (by decide +kernel) (by decide +kernel) (by decide) t_l0 rfl ?_
    have t4 : nk_ar ja_Tt (ja_c l0 2) = some (2, 1280) := nk_ta ja_okT t_l0 (by decide +kernel)
    refine nk_p (i := .aload_n 0) (len := 1) (pc' := 182) mJ_276 (by decide +kernel) (ns_aload_n 1 rfl rfl) rfl ?_
    refine nk_getI (y := (0, 0)) (x := 52) (len := 3) (ci := 2) (k := 5) (pc' := 185) ja_okT mJ_276 (by decide +kernel) (by decide +kernel) (by decide +kernel) t_l0 rfl ?_
    refine nk_p (i := .bipush 20) (len := 2) (pc' := 187) mJ_276 (by decide +kernel) (ns_bipush (c := 20) (by decide +kernel)) rfl ?_
    refine nk_p (i := .imul) (len := 1) (pc' := 188) mJ_276 (by decide +kernel) ns_imul rfl ?_
    refine nk_p (i := .iload 11) (len := 2) (pc' := 190) mJ_276 (by decide +kernel) (ns_iload 0 rfl) rfl ?_
    refine nk_p (i := .iadd) (len := 1) (pc' := 191) mJ_276 (by decide +kernel) ns_iadd rfl ?_
    obtain ⟨h5, hr⟩ := nk_cke hr
    refine nk_lald (len := 1) (N := 1280) (pc' := 192) mJ_276 (by decide +kernel) t4 h5.1 h5.2 rfl rfl ?_
    refine nk_p (i := .lload_n 2) (len := 1) (pc' := 193) mJ_276 (by decide +kernel) (ns_lload_n 2 rfl rfl) rfl ?_
    refine nk_p (i := .lcmp) (len := 1) (pc' := 194) mJ_276 (by decide +kernel) ns_lcmp rfl ?_
    refine nk_lcond (c := .ne) (off := 7) (len := 3) (t := 201) (pc' := 197) mJ_276 (by decide +kernel) (by decide +kernel) rfl (fun hc => ?_) (fun hc => ?_)
    · have hr := nk_ifn (c := (S2.1 (ja_c l0 2) (nk_w ((nk_w ((S2.1 l0 5) * 20)) + r1)).toNat) = l2) hc hr
      refine nk_p (i := .iconst 0) (len := 1) (pc' := 202) mJ_276 (by decide +kernel) (ns_iconst (c := 0) (by decide +kernel)) rfl ?_
      refine nk_sub [1, 2, 3, 4] (L' := [(0, nk_r l0), (2, nk_l l2), (4, nk_l l4), (10, nk_i l10)]) rfl ?_
      exact ja_X2_isSlotAsProved_b202_ok zs _ _ _ _ _ _ _ t_l0 hr
    · have hr := nk_ifp (c := (S2.1 (ja_c l0 2) (nk_w ((nk_w ((S2.1 l0 5) * 20)) + r1)).toNat) = l2) (Decidable.of_not_not hc) hr
      refine nk_sub [1, 2, 3, 4] (L' := [(0, nk_r l0), (2, nk_l l2), (4, nk_l l4), (10, nk_i l10)]) rfl ?_
      exact ja_X2_isSlotAsProved_b197_ok zs _ _ _ _ _ _ t_l0 hr
noncomputable def ja_X2_isSlotAsProved_b163 (l0 : Nat) (l2 : Int) (l4 : Int) (s0 : Int) (S : nk_S) : Option (Int × nk_S) :=
  ja_X2_isSlotAsProved_b165 l0 l2 l4 s0 S
theorem ja_X2_isSlotAsProved_b163_ok (zs : List Int32) : ∀ (l0 : Nat) (l2 : Int) (l4 : Int) (s0 : Int) (S : nk_S) (R : Int × nk_S), nk_cl ja_Tt l0 = some 2 → ja_X2_isSlotAsProved_b163 l0 l2 l4 s0 S = some R → nk_K ja_Tt mi_Γ (mi_ev zs) 1 276 163 [(0, nk_r l0), (2, nk_l l2), (4, nk_l l4)] [nk_i s0] S R := by
  intro l0 l2 l4 s0 S R t_l0 hr
  unfold ja_X2_isSlotAsProved_b163 at hr
  refine nk_p (i := .istore 10) (len := 2) (pc' := 165) mJ_276 (by decide +kernel) (ns_istore (L' := [(10, nk_i s0), (0, nk_r l0), (2, nk_l l2), (4, nk_l l4)]) rfl rfl (by decide +kernel)) rfl ?_
  refine nk_sub [1, 2, 3, 0] (L' := [(0, nk_r l0), (2, nk_l l2), (4, nk_l l4), (10, nk_i s0)]) rfl ?_
  exact ja_X2_isSlotAsProved_b165_ok zs _ _ _ _ _ _ t_l0 hr
noncomputable def ja_X2_isSlotAsProved_b152 (l0 : Nat) (l2 : Int) (l4 : Int) (s0 : Int) (s1 : Int) (S : nk_S) : Option (Int × nk_S) :=
  if (nk_land s0 s1) = 0 then
    ja_X2_isSlotAsProved_b163 l0 l2 l4 0 S
  else
    ja_X2_isSlotAsProved_b163 l0 l2 l4 1 S
theorem ja_X2_isSlotAsProved_b152_ok (zs : List Int32) : ∀ (l0 : Nat) (l2 : Int) (l4 : Int) (s0 : Int) (s1 : Int) (S : nk_S) (R : Int × nk_S), nk_cl ja_Tt l0 = some 2 → ja_X2_isSlotAsProved_b152 l0 l2 l4 s0 s1 S = some R → nk_K ja_Tt mi_Γ (mi_ev zs) 1 276 152 [(0, nk_r l0), (2, nk_l l2), (4, nk_l l4)] [nk_l s1, nk_l s0] S R := by
  intro l0 l2 l4 s0 s1 S R t_l0 hr
  unfold ja_X2_isSlotAsProved_b152 at hr
  refine nk_p (i := .land) (len := 1) (pc' := 153) mJ_276 (by decide +kernel) ns_land rfl ?_
  refine nk_p (i := .lconst 0) (len := 1) (pc' := 154) mJ_276 (by decide +kernel) (ns_lconst (c := 0) (by decide +kernel)) rfl ?_
  refine nk_p (i := .lcmp) (len := 1) (pc' := 155) mJ_276 (by decide +kernel) ns_lcmp rfl ?_
  refine nk_lcond (c := .eq) (off := 7) (len := 3) (t := 162) (pc' := 158) mJ_276 (by decide +kernel) (by decide +kernel) rfl (fun hc => ?_) (fun hc => ?_)
  · have hr := nk_ifp (c := (nk_land s0 s1) = 0) hc hr
    refine nk_p (i := .iconst 0) (len := 1) (pc' := 163) mJ_276 (by decide +kernel) (ns_iconst (c := 0) (by decide +kernel)) rfl ?_
    exact ja_X2_isSlotAsProved_b163_ok zs _ _ _ _ _ _ t_l0 hr
  · have hr := nk_ifn (c := (nk_land s0 s1) = 0) hc hr
    refine nk_p (i := .iconst 1) (len := 1) (pc' := 159) mJ_276 (by decide +kernel) (ns_iconst (c := 1) (by decide +kernel)) rfl ?_
    refine nk_p (i := .goto 4) (len := 3) (pc' := 163) mJ_276 (by decide +kernel) (ns_goto (by decide +kernel)) rfl ?_
    exact ja_X2_isSlotAsProved_b163_ok zs _ _ _ _ _ _ t_l0 hr
noncomputable def ja_X2_isSlotAsProved_b123 (l0 : Nat) (l2 : Int) (l4 : Int) (s0 : Int) (S : nk_S) : Option (Int × nk_S) :=
  ja_X2_isSlotAsProved_b165 l0 l2 l4 s0 S
theorem ja_X2_isSlotAsProved_b123_ok (zs : List Int32) : ∀ (l0 : Nat) (l2 : Int) (l4 : Int) (s0 : Int) (S : nk_S) (R : Int × nk_S), nk_cl ja_Tt l0 = some 2 → ja_X2_isSlotAsProved_b123 l0 l2 l4 s0 S = some R → nk_K ja_Tt mi_Γ (mi_ev zs) 1 276 123 [(0, nk_r l0), (2, nk_l l2), (4, nk_l l4)] [nk_i s0] S R := by
  intro l0 l2 l4 s0 S R t_l0 hr
  unfold ja_X2_isSlotAsProved_b123 at hr
  refine nk_p (i := .istore 10) (len := 2) (pc' := 125) mJ_276 (by decide +kernel) (ns_istore (L' := [(10, nk_i s0), (0, nk_r l0), (2, nk_l l2), (4, nk_l l4)]) rfl rfl (by decide +kernel)) rfl ?_
  refine nk_p (i := .goto 40) (len := 3) (pc' := 165) mJ_276 (by decide +kernel) (ns_goto (by decide +kernel)) rfl ?_
  refine nk_sub [1, 2, 3, 0] (L' := [(0, nk_r l0), (2, nk_l l2), (4, nk_l l4), (10, nk_i s0)]) rfl ?_
  exact ja_X2_isSlotAsProved_b165_ok zs _ _ _ _ _ _ t_l0 hr
noncomputable def ja_X2_isSlotAsProved_b122 (l0 : Nat) (l2 : Int) (l4 : Int) (S : nk_S) : Option (Int × nk_S) :=
  ja_X2_isSlotAsProved_b123 l0 l2 l4 0 S
theorem ja_X2_isSlotAsProved_b122_ok (zs : List Int32) : ∀ (l0 : Nat) (l2 : Int) (l4 : Int) (S : nk_S) (R : Int × nk_S), nk_cl ja_Tt l0 = some 2 → ja_X2_isSlotAsProved_b122 l0 l2 l4 S = some R → nk_K ja_Tt mi_Γ (mi_ev zs) 1 276 122 [(0, nk_r l0), (2, nk_l l2), (4, nk_l l4)] [] S R := by
  intro l0 l2 l4 S R t_l0 hr
  unfold ja_X2_isSlotAsProved_b122 at hr
  refine nk_p (i := .iconst 0) (len := 1) (pc' := 123) mJ_276 (by decide +kernel) (ns_iconst (c := 0) (by decide +kernel)) rfl ?_
  exact ja_X2_isSlotAsProved_b123_ok zs _ _ _ _ _ _ t_l0 hr
noncomputable def ja_X2_isSlotAsProved_b79 (l0 : Nat) (l2 : Int) (l4 : Int) (l6 : Int) (l8 : Int) (l9 : Int) (s0 : Int) (s1 : Int) (S : nk_S) : Option (Int × nk_S) :=
  if s0 = s1 then
    if (nk_lushr l2 32) = 0 then
      some (0, S)
    else
      if l8 = 0 then
        if l9 = 0 then
          ja_X2_isSlotAsProved_b152 l0 l2 l4 l6 4611686018427387904 S
        else
          if 0 ≤ (nk_w (l9 - 1)) ∧ (nk_w (l9 - 1)) < 2000 then
          ja_X2_isSlotAsProved_b152 l0 l2 l4 l6 (nk_lshl 1 (S.1 (ja_c l0 6) (nk_w (l9 - 1)).toNat)) S
          else none
      else
        nk_bd (ja_X5_lowest l6 S) fun r3 S4 =>
        if l9 < r3 then
          ja_X2_isSlotAsProved_b122 l0 l2 l4 S4
        else
          nk_bd (ja_X5_highest l6 S4) fun r6 S7 =>
          if r6 < l9 then
            ja_X2_isSlotAsProved_b122 l0 l2 l4 S7
          else
            ja_X2_isSlotAsProved_b123 l0 l2 l4 1 S7
  else
    some (0, S)
theorem ja_X2_isSlotAsProved_b79_ok (zs : List Int32) : ∀ (l0 : Nat) (l2 : Int) (l4 : Int) (l6 : Int) (l8 : Int) (l9 : Int) (s0 : Int) (s1 : Int) (S : nk_S) (R : Int × nk_S), nk_cl ja_Tt l0 = some 2 → ja_X2_isSlotAsProved_b79 l0 l2 l4 l6 l8 l9 s0 s1 S = some R → nk_K ja_Tt mi_Γ (mi_ev zs) 1 276 79 [(0, nk_r l0), (2, nk_l l2), (4, nk_l l4), (6, nk_l l6), (8, nk_i l8), (9, nk_i l9)] [nk_i s1, nk_i s0] S R := by
  intro l0 l2 l4 l6 l8 l9 s0 s1 S R t_l0 hr
  unfold ja_X2_isSlotAsProved_b79 at hr
  refine nk_icmp (c := .ne) (off := 12) (len := 3) (t := 91) (pc' := 82) mJ_276 (by decide +kernel) (by decide +kernel) rfl (fun hc => ?_) (fun hc => ?_)
  · have hr := nk_ifn (c := s0 = s1) hc hr
    refine nk_p (i := .iconst 0) (len := 1) (pc' := 92) mJ_276 (by decide +kernel) (ns_iconst (c := 0) (by decide +kernel)) rfl ?_
    cases hr
    exact nk_iret (ty := .boolean) (len := 1) mJ_276 (by decide +kernel) rfl (nk_nar_z (by decide))
  · have hr := nk_ifp (c := s0 = s1) (Decidable.of_not_not hc) hr
    refine nk_p (i := .lload_n 2) (len := 1) (pc' := 83) mJ_276 (by decide +kernel) (ns_lload_n 1 rfl rfl) rfl ?_
    refine nk_p (i := .bipush 32) (len := 2) (pc' := 85) mJ_276 (by decide +kernel) (ns_bipush (c := 32) (by decide +kernel)) rfl ?_
    refine nk_p (i := .lushr) (len := 1) (pc' := 86) mJ_276 (by decide +kernel) ns_lushr rfl ?_
    refine nk_p (i := .lconst 0) (len := 1) (pc' := 87) mJ_276 (by decide +kernel) (ns_lconst (c := 0) (by decide +kernel)) rfl ?_
    refine nk_p (i := .lcmp) (len := 1) (pc' := 88) mJ_276 (by decide +kernel) ns_lcmp rfl ?_
    refine nk_lcond (c := .ne) (off := 5) (len := 3) (t := 93) (pc' := 91) mJ_276 (by decide +kernel) (by decide +kernel) rfl (fun hc => ?_) (fun hc => ?_)
    · have hr := nk_ifn (c := (nk_lushr l2 32) = 0) hc hr
      refine nk_p (i := .iload 8) (len := 2) (pc' := 95) mJ_276 (by decide +kernel) (ns_iload 4 rfl) rfl ?_
      refine nk_icond (c := .eq) (off := 33) (len := 3) (t := 128) (pc' := 98) mJ_276 (by decide +kernel) (by decide +kernel) rfl (fun hc => ?_) (fun hc => ?_)
      · have hr := nk_ifp (c := l8 = 0) hc hr
        refine nk_p (i := .lload 6) (len := 2) (pc' := 130) mJ_276 (by decide +kernel) (ns_lload 3 rfl) rfl ?_
        refine nk_p (i := .iload 9) (len := 2) (pc' := 132) mJ_276 (by decide +kernel) (ns_iload 5 rfl) rfl ?_
        refine nk_icond (c := .ne) (off := 9) (len := 3) (t := 141) (pc' := 135) mJ_276 (by decide +kernel) (by decide +kernel) rfl (fun hc => ?_) (fun hc => ?_)
        · have hr := nk_ifn (c := l9 = 0) hc hr
          refine nk_p (i := .lconst 1) (len := 1) (pc' := 142) mJ_276 (by decide +kernel) (ns_lconst (c := 1) (by decide +kernel)) rfl ?_
          refine nk_p (i := .aload_n 0) (len := 1) (pc' := 143) mJ_276 (by decide +kernel) (ns_aload_n 0 rfl rfl) rfl ?_
          refine nk_getC (f := (4, 1, 2000)) (x := 22) (len := 3) (ci := 2) (k := 6) (pc' := 146) ja_okT mJ_276 (by decide +kernel) (by decide +kernel) (by decide +kernel) (by decide) t_l0 rfl ?_
          have t1 : nk_ar ja_Tt (ja_c l0 6) = some (1, 2000) := nk_ta ja_okT t_l0 (by decide +kernel)
          refine nk_p (i := .iload 9) (len := 2) (pc' := 148) mJ_276 (by decide +kernel) (ns_iload 5 rfl) rfl ?_
          refine nk_p (i := .iconst 1) (len := 1) (pc' := 149) mJ_276 (by decide +kernel) (ns_iconst (c := 1) (by decide +kernel)) rfl ?_
          refine nk_p (i := .isub) (len := 1) (pc' := 150) mJ_276 (by decide +kernel) ns_isub rfl ?_
          obtain ⟨h2, hr⟩ := nk_cke hr
          refine nk_iald (len := 1) (N := 2000) (pc' := 151) mJ_276 (by decide +kernel) t1 h2.1 h2.2 rfl rfl ?_
          refine nk_p (i := .lshl) (len := 1) (pc' := 152) mJ_276 (by decide +kernel) ns_lshl rfl ?_
          refine nk_sub [0, 1, 2] (L' := [(0, nk_r l0), (2, nk_l l2), (4, nk_l l4)]) rfl ?_
          exact ja_X2_isSlotAsProved_b152_ok zs _ _ _ _ _ _ _ t_l0 hr
        · have hr := nk_ifp (c := l9 = 0) (Decidable.of_not_not hc) hr
          refine nk_ldc2 (x := 311) (len := 3) (X := 4611686018427387904) (v := 4611686018427387904) (pc' := 138) mJ_276 (by decide +kernel) (by decide +kernel) (by decide +kernel) rfl ?_
          refine nk_p (i := .goto 14) (len := 3) (pc' := 152) mJ_276 (by decide +kernel) (ns_goto (by decide +kernel)) rfl ?_
          refine nk_sub [0, 1, 2] (L' := [(0, nk_r l0), (2, nk_l l2), (4, nk_l l4)]) rfl ?_
          exact ja_X2_isSlotAsProved_b152_ok zs _ _ _ _ _ _ _ t_l0 hr
      · have hr := nk_ifn (c := l8 = 0) hc hr
        refine nk_p (i := .iload 9) (len := 2) (pc' := 100) mJ_276 (by decide +kernel) (ns_iload 5 rfl) rfl ?_
        refine nk_p (i := .lload 6) (len := 2) (pc' := 102) mJ_276 (by decide +kernel) (ns_lload 3 rfl) rfl ?_
        obtain ⟨r3, S4, h5, hr⟩ := nk_bde hr
        refine nk_callS (ci := 0) (n := 1) (x := 302) (len := 3) (j' := 363) (q' := 1) (r := r3) (S' := S4) (L2 := [(0, nk_l l6)]) (rest := [nk_i l9]) (st' := [nk_i r3, nk_i l9]) (pc' := 105) mJ_276 (by decide +kernel) (by decide +kernel) (Nat.le_of_ble_eq_true rfl) rfl rfl (Nat.le_of_ble_eq_true rfl) mJ_363 (Nat.le_of_ble_eq_true rfl) ja_Tpos rfl (ja_X5_lowest_ok zs _ _ _ h5) rfl ?_
        refine nk_icmp (c := .lt) (off := 17) (len := 3) (t := 122) (pc' := 108) mJ_276 (by decide +kernel) (by decide +kernel) rfl (fun hc => ?_) (fun hc => ?_)
        · have hr := nk_ifp (c := l9 < r3) hc hr
          refine nk_sub [0, 1, 2] (L' := [(0, nk_r l0), (2, nk_l l2), (4, nk_l l4)]) rfl ?_
          exact ja_X2_isSlotAsProved_b122_ok zs _ _ _ _ _ t_l0 hr
        · have hr := nk_ifn (c := l9 < r3) hc hr
          refine nk_p (i := .iload 9) (len := 2) (pc' := 110) mJ_276 (by decide +kernel) (ns_iload 5 rfl) rfl ?_
          refine nk_p (i := .lload 6) (len := 2) (pc' := 112) mJ_276 (by decide +kernel) (ns_lload 3 rfl) rfl ?_
          obtain ⟨r6, S7, h8, hr⟩ := nk_bde hr
          refine nk_callS (ci := 0) (n := 1) (x := 308) (len := 3) (j' := 356) (q' := 1) (r := r6) (S' := S7) (L2 := [(0, nk_l l6)]) (rest := [nk_i l9]) (st' := [nk_i r6, nk_i l9]) (pc' := 115) mJ_276 (by decide +kernel) (by decide +kernel) (Nat.le_of_ble_eq_true rfl) rfl rfl (Nat.le_of_ble_eq_true rfl) mJ_356 (Nat.le_of_ble_eq_true rfl) ja_Tpos rfl (ja_X5_highest_ok zs _ _ _ h8) rfl ?_
          refine nk_icmp (c := .gt) (off := 7) (len := 3) (t := 122) (pc' := 118) mJ_276 (by decide +kernel) (by decide +kernel) rfl (fun hc => ?_) (fun hc => ?_)
          · have hr := nk_ifp (c := r6 < l9) hc hr
            refine nk_sub [0, 1, 2] (L' := [(0, nk_r l0), (2, nk_l l2), (4, nk_l l4)]) rfl ?_
            exact ja_X2_isSlotAsProved_b122_ok zs _ _ _ _ _ t_l0 hr
          · have hr := nk_ifn (c := r6 < l9) hc hr
            refine nk_p (i := .iconst 1) (len := 1) (pc' := 119) mJ_276 (by decide +kernel) (ns_iconst (c := 1) (by decide +kernel)) rfl ?_
            refine nk_p (i := .goto 4) (len := 3) (pc' := 123) mJ_276 (by decide +kernel) (ns_goto (by decide +kernel)) rfl ?_
            refine nk_sub [0, 1, 2] (L' := [(0, nk_r l0), (2, nk_l l2), (4, nk_l l4)]) rfl ?_
            exact ja_X2_isSlotAsProved_b123_ok zs _ _ _ _ _ _ t_l0 hr
    · have hr := nk_ifp (c := (nk_lushr l2 32) = 0) (Decidable.of_not_not hc) hr
      refine nk_p (i := .iconst 0) (len := 1) (pc' := 92) mJ_276 (by decide +kernel) (ns_iconst (c := 0) (by decide +kernel)) rfl ?_
      cases hr
      exact nk_iret (ty := .boolean) (len := 1) mJ_276 (by decide +kernel) rfl (nk_nar_z (by decide))
noncomputable def ja_X2_isSlotAsProved_b57 (l0 : Nat) (l2 : Int) (l4 : Int) (l6 : Int) (s0 : Int) (S : nk_S) : Option (Int × nk_S) :=
  nk_lt (nk_w l2) fun v1 =>
  if (nk_lushr l2 32) = 1 then
    ja_X2_isSlotAsProved_b79 l0 l2 l4 l6 s0 v1 s0 1 S
  else
    ja_X2_isSlotAsProved_b79 l0 l2 l4 l6 s0 v1 s0 0 S
theorem ja_X2_isSlotAsProved_b57_ok (zs : List Int32) : ∀ (l0 : Nat) (l2 : Int) (l4 : Int) (l6 : Int) (s0 : Int) (S : nk_S) (R : Int × nk_S), nk_cl ja_Tt l0 = some 2 → ja_X2_isSlotAsProved_b57 l0 l2 l4 l6 s0 S = some R → nk_K ja_Tt mi_Γ (mi_ev zs) 1 276 57 [(0, nk_r l0), (2, nk_l l2), (4, nk_l l4), (6, nk_l l6)] [nk_i s0] S R := by
  intro l0 l2 l4 l6 s0 S R t_l0 hr
  unfold ja_X2_isSlotAsProved_b57 at hr
  refine nk_p (i := .istore 8) (len := 2) (pc' := 59) mJ_276 (by decide +kernel) (ns_istore (L' := [(8, nk_i s0), (0, nk_r l0), (2, nk_l l2), (4, nk_l l4), (6, nk_l l6)]) rfl rfl (by decide +kernel)) rfl ?_
  refine nk_p (i := .lload_n 2) (len := 1) (pc' := 60) mJ_276 (by decide +kernel) (ns_lload_n 2 rfl rfl) rfl ?_
  refine nk_p (i := .l2i) (len := 1) (pc' := 61) mJ_276 (by decide +kernel) ns_l2i rfl ?_
  obtain ⟨v1, h2, hr⟩ := nk_lte hr
  refine nk_p (i := .istore 9) (len := 2) (pc' := 63) mJ_276 (by decide +kernel) (ns_istore (L' := [(9, nk_i v1), (8, nk_i s0), (0, nk_r l0), (2, nk_l l2), (4, nk_l l4), (6, nk_l l6)]) h2 rfl (by decide +kernel)) rfl ?_
  refine nk_p (i := .iload 8) (len := 2) (pc' := 65) mJ_276 (by decide +kernel) (ns_iload 1 rfl) rfl ?_
  refine nk_p (i := .lload_n 2) (len := 1) (pc' := 66) mJ_276 (by decide +kernel) (ns_lload_n 3 rfl rfl) rfl ?_
  refine nk_p (i := .bipush 32) (len := 2) (pc' := 68) mJ_276 (by decide +kernel) (ns_bipush (c := 32) (by decide +kernel)) rfl ?_
  refine nk_p (i := .lushr) (len := 1) (pc' := 69) mJ_276 (by decide +kernel) ns_lushr rfl ?_
  refine nk_p (i := .lconst 1) (len := 1) (pc' := 70) mJ_276 (by decide +kernel) (ns_lconst (c := 1) (by decide +kernel)) rfl ?_
  refine nk_p (i := .lcmp) (len := 1) (pc' := 71) mJ_276 (by decide +kernel) ns_lcmp rfl ?_
  refine nk_lcond (c := .ne) (off := 7) (len := 3) (t := 78) (pc' := 74) mJ_276 (by decide +kernel) (by decide +kernel) rfl (fun hc => ?_) (fun hc => ?_)
  · have hr := nk_ifn (c := (nk_lushr l2 32) = 1) hc hr
    refine nk_p (i := .iconst 0) (len := 1) (pc' := 79) mJ_276 (by decide +kernel) (ns_iconst (c := 0) (by decide +kernel)) rfl ?_
    refine nk_sub [2, 3, 4, 5, 1, 0] (L' := [(0, nk_r l0), (2, nk_l l2), (4, nk_l l4), (6, nk_l l6), (8, nk_i s0), (9, nk_i v1)]) rfl ?_
    exact ja_X2_isSlotAsProved_b79_ok zs _ _ _ _ _ _ _ _ _ _ t_l0 hr
  · have hr := nk_ifp (c := (nk_lushr l2 32) = 1) (Decidable.of_not_not hc) hr
    refine nk_p (i := .iconst 1) (len := 1) (pc' := 75) mJ_276 (by decide +kernel) (ns_iconst (c := 1) (by decide +kernel)) rfl ?_
    refine nk_p (i := .goto 4) (len := 3) (pc' := 79) mJ_276 (by decide +kernel) (ns_goto (by decide +kernel)) rfl ?_
    refine nk_sub [2, 3, 4, 5, 1, 0] (L' := [(0, nk_r l0), (2, nk_l l2), (4, nk_l l4), (6, nk_l l6), (8, nk_i s0), (9, nk_i v1)]) rfl ?_
    exact ja_X2_isSlotAsProved_b79_ok zs _ _ _ _ _ _ _ _ _ _ t_l0 hr
noncomputable def ja_X2_isSlotAsProved (l0 : Nat) (l1 : Int) (l2 : Int) (S : nk_S) : Option (Int × nk_S) :=
  if 0 ≤ l1 ∧ l1 < 20480 then
  nk_lt (S.1 (ja_c (ja_c (ja_c l0 0) 2) 1) l1.toNat) fun v5 =>
  if (nk_land v5 13510798882111488) = 0 then
    some (1, S)
  else
    nk_lt (S.1 (ja_c (ja_c (ja_c l0 0) 2) 0) l1.toNat) fun v8 =>
    if (nk_land v5 4503599627370496) = 0 then
      ja_X2_isSlotAsProved_b57 l0 l2 v5 v8 0 S
    else
      ja_X2_isSlotAsProved_b57 l0 l2 v5 v8 1 S
  else none
theorem ja_X2_isSlotAsProved_ok (zs : List Int32) : ∀ (l0 : Nat) (l1 : Int) (l2 : Int) (S : nk_S) (R : Int × nk_S), nk_cl ja_Tt l0 = some 2 → ja_X2_isSlotAsProved l0 l1 l2 S = some R → nk_K ja_Tt mi_Γ (mi_ev zs) 1 276 0 [(0, nk_r l0), (1, nk_i l1), (2, nk_l l2)] [] S R := by
  intro l0 l1 l2 S R t_l0 hr
  unfold ja_X2_isSlotAsProved at hr
  refine nk_p (i := .aload_n 0) (len := 1) (pc' := 1) mJ_276 (by decide +kernel) (ns_aload_n 0 rfl rfl) rfl ?_
  refine nk_getC (f := (2, 4, 0)) (x := 45) (len := 3) (ci := 2) (k := 0) (pc' := 4) ja_okT mJ_276 (by decide +kernel) (by decide +kernel) (by decide +kernel) (by decide) t_l0 rfl ?_
  have t1 : nk_cl ja_Tt (ja_c l0 0) = some 4 := nk_tc (y := 0) ja_okT t_l0 (by decide +kernel)
  refine nk_getC (f := (2, 7, 0)) (x := 275) (len := 3) (ci := 4) (k := 2) (pc' := 7) ja_okT mJ_276 (by decide +kernel) (by decide +kernel) (by decide +kernel) (by decide) t1 rfl ?_
  have t2 : nk_cl ja_Tt (ja_c (ja_c l0 0) 2) = some 7 := nk_tc (y := 0) ja_okT t1 (by decide +kernel)
  refine nk_getC (f := (4, 2, 20480)) (x := 292) (len := 3) (ci := 7) (k := 1) (pc' := 10) ja_okT mJ_276 (by decide +kernel) (by decide +kernel) (by decide +kernel) (by decide) t2 rfl ?_
  have t3 : nk_ar ja_Tt (ja_c (ja_c (ja_c l0 0) 2) 1) = some (2, 20480) := nk_ta ja_okT t2 (by decide +kernel)
  refine nk_p (i := .iload_n 1) (len := 1) (pc' := 11) mJ_276 (by decide +kernel) (ns_iload_n 1 rfl rfl) rfl ?_
  obtain ⟨h4, hr⟩ := nk_cke hr
  refine nk_lald (len := 1) (N := 20480) (pc' := 12) mJ_276 (by decide +kernel) t3 h4.1 h4.2 rfl rfl ?_
  obtain ⟨v5, h6, hr⟩ := nk_lte hr
  refine nk_p (i := .lstore 4) (len := 2) (pc' := 14) mJ_276 (by decide +kernel) (ns_lstore (L' := [(4, nk_l v5), (0, nk_r l0), (1, nk_i l1), (2, nk_l l2)]) h6 rfl (by decide +kernel)) rfl ?_
  refine nk_p (i := .lload 4) (len := 2) (pc' := 16) mJ_276 (by decide +kernel) (ns_lload 0 rfl) rfl ?_
  refine nk_ldc2 (x := 295) (len := 3) (X := 13510798882111488) (v := 13510798882111488) (pc' := 19) mJ_276 (by decide +kernel) (by decide +kernel) (by decide +kernel) rfl ?_
  refine nk_p (i := .land) (len := 1) (pc' := 20) mJ_276 (by decide +kernel) ns_land rfl ?_
  refine nk_p (i := .lconst 0) (len := 1) (pc' := 21) mJ_276 (by decide +kernel) (ns_lconst (c := 0) (by decide +kernel)) rfl ?_
  refine nk_p (i := .lcmp) (len := 1) (pc' := 22) mJ_276 (by decide +kernel) ns_lcmp rfl ?_
  refine nk_lcond (c := .ne) (off := 5) (len := 3) (t := 27) (pc' := 25) mJ_276 (by decide +kernel) (by decide +kernel) rfl (fun hc => ?_) (fun hc => ?_)
  · have hr := nk_ifn (c := (nk_land v5 13510798882111488) = 0) hc hr
    refine nk_p (i := .aload_n 0) (len := 1) (pc' := 28) mJ_276 (by decide +kernel) (ns_aload_n 1 rfl rfl) rfl ?_
    refine nk_getC (f := (2, 4, 0)) (x := 45) (len := 3) (ci := 2) (k := 0) (pc' := 31) ja_okT mJ_276 (by decide +kernel) (by decide +kernel) (by decide +kernel) (by decide) t_l0 rfl ?_
    refine nk_getC (f := (2, 7, 0)) (x := 275) (len := 3) (ci := 4) (k := 2) (pc' := 34) ja_okT mJ_276 (by decide +kernel) (by decide +kernel) (by decide +kernel) (by decide) t1 rfl ?_
    refine nk_getC (f := (4, 2, 20480)) (x := 297) (len := 3) (ci := 7) (k := 0) (pc' := 37) ja_okT mJ_276 (by decide +kernel) (by decide +kernel) (by decide +kernel) (by decide) t2 rfl ?_
    have t7 : nk_ar ja_Tt (ja_c (ja_c (ja_c l0 0) 2) 0) = some (2, 20480) := nk_ta ja_okT t2 (by decide +kernel)
    refine nk_p (i := .iload_n 1) (len := 1) (pc' := 38) mJ_276 (by decide +kernel) (ns_iload_n 2 rfl rfl) rfl ?_
    refine nk_lald (len := 1) (N := 20480) (pc' := 39) mJ_276 (by decide +kernel) t7 h4.1 h4.2 rfl rfl ?_
    obtain ⟨v8, h9, hr⟩ := nk_lte hr
    refine nk_p (i := .lstore 6) (len := 2) (pc' := 41) mJ_276 (by decide +kernel) (ns_lstore (L' := [(6, nk_l v8), (4, nk_l v5), (0, nk_r l0), (1, nk_i l1), (2, nk_l l2)]) h9 rfl (by decide +kernel)) rfl ?_
    refine nk_p (i := .lload 4) (len := 2) (pc' := 43) mJ_276 (by decide +kernel) (ns_lload 1 rfl) rfl ?_
    refine nk_ldc2 (x := 300) (len := 3) (X := 4503599627370496) (v := 4503599627370496) (pc' := 46) mJ_276 (by decide +kernel) (by decide +kernel) (by decide +kernel) rfl ?_
    refine nk_p (i := .land) (len := 1) (pc' := 47) mJ_276 (by decide +kernel) ns_land rfl ?_
    refine nk_p (i := .lconst 0) (len := 1) (pc' := 48) mJ_276 (by decide +kernel) (ns_lconst (c := 0) (by decide +kernel)) rfl ?_
    refine nk_p (i := .lcmp) (len := 1) (pc' := 49) mJ_276 (by decide +kernel) ns_lcmp rfl ?_
    refine nk_lcond (c := .eq) (off := 7) (len := 3) (t := 56) (pc' := 52) mJ_276 (by decide +kernel) (by decide +kernel) rfl (fun hc => ?_) (fun hc => ?_)
    · have hr := nk_ifp (c := (nk_land v5 4503599627370496) = 0) hc hr
      refine nk_p (i := .iconst 0) (len := 1) (pc' := 57) mJ_276 (by decide +kernel) (ns_iconst (c := 0) (by decide +kernel)) rfl ?_
      refine nk_sub [2, 4, 1, 0] (L' := [(0, nk_r l0), (2, nk_l l2), (4, nk_l v5), (6, nk_l v8)]) rfl ?_
      exact ja_X2_isSlotAsProved_b57_ok zs _ _ _ _ _ _ _ t_l0 hr
    · have hr := nk_ifn (c := (nk_land v5 4503599627370496) = 0) hc hr
      refine nk_p (i := .iconst 1) (len := 1) (pc' := 53) mJ_276 (by decide +kernel) (ns_iconst (c := 1) (by decide +kernel)) rfl ?_
      refine nk_p (i := .goto 4) (len := 3) (pc' := 57) mJ_276 (by decide +kernel) (ns_goto (by decide +kernel)) rfl ?_
      refine nk_sub [2, 4, 1, 0] (L' := [(0, nk_r l0), (2, nk_l l2), (4, nk_l v5), (6, nk_l v8)]) rfl ?_
      exact ja_X2_isSlotAsProved_b57_ok zs _ _ _ _ _ _ _ t_l0 hr
  · have hr := nk_ifp (c := (nk_land v5 13510798882111488) = 0) (Decidable.of_not_not hc) hr
    refine nk_p (i := .iconst 1) (len := 1) (pc' := 26) mJ_276 (by decide +kernel) (ns_iconst (c := 1) (by decide +kernel)) rfl ?_
    cases hr
    exact nk_iret (ty := .boolean) (len := 1) mJ_276 (by decide +kernel) rfl (nk_nar_z (by decide))
