/-! SafeCode$Ranges lowest (J)I -/
noncomputable def ja_X5_lowest (l0 : Int) (S : nk_S) : Option (Int × nk_S) :=
  some ((nk_w (nk_lshr l0 32)), S)
theorem ja_X5_lowest_ok (zs : List Int32) : ∀ (l0 : Int) (S : nk_S) (R : Int × nk_S), ja_X5_lowest l0 S = some R → nk_K ja_Tt mi_Γ (mi_ev zs) 1 363 0 [(0, nk_l l0)] [] S R := by
  intro l0 S R hr
  unfold ja_X5_lowest at hr
  refine nk_p (i := .lload_n 0) (len := 1) (pc' := 1) mJ_363 (by decide +kernel) (ns_lload_n 0 rfl rfl) rfl ?_
  refine nk_p (i := .bipush 32) (len := 2) (pc' := 3) mJ_363 (by decide +kernel) (ns_bipush (c := 32) (by decide +kernel)) rfl ?_
  refine nk_p (i := .lshr) (len := 1) (pc' := 4) mJ_363 (by decide +kernel) ns_lshr rfl ?_
  refine nk_p (i := .l2i) (len := 1) (pc' := 5) mJ_363 (by decide +kernel) ns_l2i rfl ?_
  cases hr
  exact nk_iret (ty := .int) (len := 1) mJ_363 (by decide +kernel) rfl (nk_nar_i _)
/-! SafeCode lengths (II)I -/
noncomputable def ja_X11_lengths (l0 : Nat) (l1 : Int) (l2 : Int) (S : nk_S) : Option (Int × nk_S) :=
  if (S.1 l0 6) = 0 then
    some ((-1), S)
  else
    if l1 < 0 then
      some ((-1), S)
    else
      if (S.1 (S.2 l0 4) 10) ≤ l1 then
        some ((-1), S)
      else
        if l2 < 0 then
          some ((-1), S)
        else
          if l2 ≤ 1 then
            if 0 ≤ l1 ∧ l1 < 48 then
            nk_lt (S.1 (ja_c (ja_c (ja_c l0 10) 3) 2) l1.toNat) fun v6 =>
            nk_bd (ja_X5_isNothing v6 S) fun r8 S9 =>
            if r8 = 0 then
              if l2 = 0 then
                nk_bd (ja_X5_lowest v6 S9) fun r14 S15 =>
                some (r14, S15)
              else
                nk_bd (ja_X5_highest v6 S9) fun r11 S12 =>
                some (r11, S12)
            else
              some ((-1), S9)
            else none
          else
            some ((-1), S)
theorem ja_X11_lengths_ok (zs : List Int32) : ∀ (l0 : Nat) (l1 : Int) (l2 : Int) (S : nk_S) (R : Int × nk_S), nk_cl ja_Tt l0 = some 11 → ja_X11_lengths l0 l1 l2 S = some R → nk_K ja_Tt mi_Γ (mi_ev zs) 1 66 0 [(0, nk_r l0), (1, nk_i l1), (2, nk_i l2)] [] S R := by
  intro l0 l1 l2 S R t_l0 hr
  unfold ja_X11_lengths at hr
  refine nk_p (i := .aload_n 0) (len := 1) (pc' := 1) mJ_66 (by decide +kernel) (ns_aload_n 0 rfl rfl) rfl ?_
  refine nk_getI (y := (0, 0)) (x := 108) (len := 3) (ci := 11) (k := 6) (pc' := 4) ja_okT mJ_66 (by decide +kernel) (by decide +kernel) (by decide +kernel) t_l0 rfl ?_
  refine nk_icond (c := .eq) (off := 27) (len := 3) (t := 31) (pc' := 7) mJ_66 (by decide +kernel) (by decide +kernel) rfl (fun hc => ?_) (fun hc => ?_)
  · have hr := nk_ifp (c := (S.1 l0 6) = 0) hc hr
    refine nk_p (i := .iconst (-1)) (len := 1) (pc' := 32) mJ_66 (by decide +kernel) (ns_iconst (c := (-1)) (by decide +kernel)) rfl ?_
    cases hr
    exact nk_iret (ty := .int) (len := 1) mJ_66 (by decide +kernel) rfl (nk_nar_i _)
  · have hr := nk_ifn (c := (S.1 l0 6) = 0) hc hr
    refine nk_p (i := .iload_n 1) (len := 1) (pc' := 8) mJ_66 (by decide +kernel) (ns_iload_n 1 rfl rfl) rfl ?_
    refine nk_icond (c := .lt) (off := 23) (len := 3) (t := 31) (pc' := 11) mJ_66 (by decide +kernel) (by decide +kernel) rfl (fun hc => ?_) (fun hc => ?_)
    · have hr := nk_ifp (c := l1 < 0) hc hr
      refine nk_p (i := .iconst (-1)) (len := 1) (pc' := 32) mJ_66 (by decide +kernel) (ns_iconst (c := (-1)) (by decide +kernel)) rfl ?_
      cases hr
      exact nk_iret (ty := .int) (len := 1) mJ_66 (by decide +kernel) rfl (nk_nar_i _)
    · have hr := nk_ifn (c := l1 < 0) hc hr
      refine nk_p (i := .iload_n 1) (len := 1) (pc' := 12) mJ_66 (by decide +kernel) (ns_iload_n 1 rfl rfl) rfl ?_
      refine nk_p (i := .aload_n 0) (len := 1) (pc' := 13) mJ_66 (by decide +kernel) (ns_aload_n 0 rfl rfl) rfl ?_
      refine nk_getM (cj := 3) (z := 0) (x := 23) (len := 3) (ci := 11) (k := 4) (pc' := 16) ja_okT mJ_66 (by decide +kernel) (by decide +kernel) (by decide +kernel) t_l0 rfl (fun t1 => ?_)
      refine nk_getI (y := (0, 0)) (x := 118) (len := 3) (ci := 3) (k := 10) (pc' := 19) ja_okT mJ_66 (by decide +kernel) (by decide +kernel) (by decide +kernel) t1 rfl ?_
      refine nk_icmp (c := .ge) (off := 12) (len := 3) (t := 31) (pc' := 22) mJ_66 (by decide +kernel) (by decide +kernel) rfl (fun hc => ?_) (fun hc => ?_)
      · have hr := nk_ifp (c := (S.1 (S.2 l0 4) 10) ≤ l1) hc hr
        refine nk_p (i := .iconst (-1)) (len := 1) (pc' := 32) mJ_66 (by decide +kernel) (ns_iconst (c := (-1)) (by decide +kernel)) rfl ?_
        cases hr
        exact nk_iret (ty := .int) (len := 1) mJ_66 (by decide +kernel) rfl (nk_nar_i _)
      · have hr := nk_ifn (c := (S.1 (S.2 l0 4) 10) ≤ l1) hc hr
        refine nk_p (i := .iload_n 2) (len := 1) (pc' := 23) mJ_66 (by decide +kernel) (ns_iload_n 2 rfl rfl) rfl ?_
        refine nk_icond (c := .lt) (off := 8) (len := 3) (t := 31) (pc' := 26) mJ_66 (by decide +kernel) (by decide +kernel) rfl (fun hc => ?_) (fun hc => ?_)
        · have hr := nk_ifp (c := l2 < 0) hc hr
          refine nk_p (i := .iconst (-1)) (len := 1) (pc' := 32) mJ_66 (by decide +kernel) (ns_iconst (c := (-1)) (by decide +kernel)) rfl ?_
          cases hr
          exact nk_iret (ty := .int) (len := 1) mJ_66 (by decide +kernel) rfl (nk_nar_i _)
        · have hr := nk_ifn (c := l2 < 0) hc hr
          refine nk_p (i := .iload_n 2) (len := 1) (pc' := 27) mJ_66 (by decide +kernel) (ns_iload_n 2 rfl rfl) rfl ?_
          refine nk_p (i := .iconst 1) (len := 1) (pc' := 28) mJ_66 (by decide +kernel) (ns_iconst (c := 1) (by decide +kernel)) rfl ?_
          refine nk_icmp (c := .le) (off := 5) (len := 3) (t := 33) (pc' := 31) mJ_66 (by decide +kernel) (by decide +kernel) rfl (fun hc => ?_) (fun hc => ?_)
          · have hr := nk_ifp (c := l2 ≤ 1) hc hr
            refine nk_p (i := .aload_n 0) (len := 1) (pc' := 34) mJ_66 (by decide +kernel) (ns_aload_n 0 rfl rfl) rfl ?_
            refine nk_getC (f := (2, 4, 0)) (x := 55) (len := 3) (ci := 11) (k := 10) (pc' := 37) ja_okT mJ_66 (by decide +kernel) (by decide +kernel) (by decide +kernel) (by decide) t_l0 rfl ?_
            have t2 : nk_cl ja_Tt (ja_c l0 10) = some 4 := nk_tc (y := 0) ja_okT t_l0 (by decide +kernel)
            refine nk_getC (f := (2, 8, 0)) (x := 153) (len := 3) (ci := 4) (k := 3) (pc' := 40) ja_okT mJ_66 (by decide +kernel) (by decide +kernel) (by decide +kernel) (by decide) t2 rfl ?_
            have t3 : nk_cl ja_Tt (ja_c (ja_c l0 10) 3) = some 8 := nk_tc (y := 0) ja_okT t2 (by decide +kernel)
            refine nk_getC (f := (4, 2, 48)) (x := 217) (len := 3) (ci := 8) (k := 2) (pc' := 43) ja_okT mJ_66 (by decide +kernel) (by decide +kernel) (by decide +kernel) (by decide) t3 rfl ?_
            have t4 : nk_ar ja_Tt (ja_c (ja_c (ja_c l0 10) 3) 2) = some (2, 48) := nk_ta ja_okT t3 (by decide +kernel)
            refine nk_p (i := .iload_n 1) (len := 1) (pc' := 44) mJ_66 (by decide +kernel) (ns_iload_n 1 rfl rfl) rfl ?_
            obtain ⟨h5, hr⟩ := nk_cke hr
            refine nk_lald (len := 1) (N := 48) (pc' := 45) mJ_66 (by decide +kernel) t4 h5.1 h5.2 rfl rfl ?_
            obtain ⟨v6, h7, hr⟩ := nk_lte hr
            refine nk_p (i := .lstore_n 3) (len := 1) (pc' := 46) mJ_66 (by decide +kernel) (ns_lstore_n (L' := [(3, nk_l v6), (0, nk_r l0), (1, nk_i l1), (2, nk_i l2)]) h7 rfl rfl (by decide +kernel)) rfl ?_
            refine nk_p (i := .lload_n 3) (len := 1) (pc' := 47) mJ_66 (by decide +kernel) (ns_lload_n 0 rfl rfl) rfl ?_
            obtain ⟨r8, S9, h10, hr⟩ := nk_bde hr
            refine nk_callS (ci := 0) (n := 1) (x := 220) (len := 3) (j' := 360) (q' := 1) (r := r8) (S' := S9) (L2 := [(0, nk_l v6)]) (rest := []) (st' := [nk_i r8]) (pc' := 50) mJ_66 (by decide +kernel) (by decide +kernel) (Nat.le_of_ble_eq_true rfl) rfl rfl (Nat.le_of_ble_eq_true rfl) mJ_360 (Nat.le_of_ble_eq_true rfl) ja_Tpos rfl (ja_X5_isNothing_ok zs _ _ _ h10) rfl ?_
            refine nk_icond (c := .eq) (off := 5) (len := 3) (t := 55) (pc' := 53) mJ_66 (by decide +kernel) (by decide +kernel) rfl (fun hc => ?_) (fun hc => ?_)
            · have hr := nk_ifp (c := r8 = 0) hc hr
              refine nk_p (i := .iload_n 2) (len := 1) (pc' := 56) mJ_66 (by decide +kernel) (ns_iload_n 3 rfl rfl) rfl ?_
              refine nk_icond (c := .ne) (off := 10) (len := 3) (t := 66) (pc' := 59) mJ_66 (by decide +kernel) (by decide +kernel) rfl (fun hc => ?_) (fun hc => ?_)
              · have hr := nk_ifn (c := l2 = 0) hc hr
                refine nk_p (i := .lload_n 3) (len := 1) (pc' := 67) mJ_66 (by decide +kernel) (ns_lload_n 0 rfl rfl) rfl ?_
                obtain ⟨r11, S12, h13, hr⟩ := nk_bde hr
                refine nk_callS (ci := 0) (n := 1) (x := 207) (len := 3) (j' := 356) (q' := 1) (r := r11) (S' := S12) (L2 := [(0, nk_l v6)]) (rest := []) (st' := [nk_i r11]) (pc' := 70) mJ_66 (by decide +kernel) (by decide +kernel) (Nat.le_of_ble_eq_true rfl) rfl rfl (Nat.le_of_ble_eq_true rfl) mJ_356 (Nat.le_of_ble_eq_true rfl) ja_Tpos rfl (ja_X5_highest_ok zs _ _ _ h13) rfl ?_
                cases hr
                exact nk_iret (ty := .int) (len := 1) mJ_66 (by decide +kernel) rfl (nk_nar_i _)
              · have hr := nk_ifp (c := l2 = 0) (Decidable.of_not_not hc) hr
                refine nk_p (i := .lload_n 3) (len := 1) (pc' := 60) mJ_66 (by decide +kernel) (ns_lload_n 0 rfl rfl) rfl ?_
                obtain ⟨r14, S15, h16, hr⟩ := nk_bde hr
                refine nk_callS (ci := 0) (n := 1) (x := 203) (len := 3) (j' := 363) (q' := 1) (r := r14) (S' := S15) (L2 := [(0, nk_l v6)]) (rest := []) (st' := [nk_i r14]) (pc' := 63) mJ_66 (by decide +kernel) (by decide +kernel) (Nat.le_of_ble_eq_true rfl) rfl rfl (Nat.le_of_ble_eq_true rfl) mJ_363 (Nat.le_of_ble_eq_true rfl) ja_Tpos rfl (ja_X5_lowest_ok zs _ _ _ h16) rfl ?_
                refine nk_p (i := .goto 7) (len := 3) (pc' := 70) mJ_66 (by decide +kernel) (ns_goto (by decide +kernel)) rfl ?_
                cases hr
                exact nk_iret (ty := .int) (len := 1) mJ_66 (by decide +kernel) rfl (nk_nar_i _)
            · have hr := nk_ifn (c := r8 = 0) hc hr
              refine nk_p (i := .iconst (-1)) (len := 1) (pc' := 54) mJ_66 (by decide +kernel) (ns_iconst (c := (-1)) (by decide +kernel)) rfl ?_
              cases hr
              exact nk_iret (ty := .int) (len := 1) mJ_66 (by decide +kernel) rfl (nk_nar_i _)
          · have hr := nk_ifn (c := l2 ≤ 1) hc hr
            refine nk_p (i := .iconst (-1)) (len := 1) (pc' := 32) mJ_66 (by decide +kernel) (ns_iconst (c := (-1)) (by decide +kernel)) rfl ?_
            cases hr
            exact nk_iret (ty := .int) (len := 1) mJ_66 (by decide +kernel) rfl (nk_nar_i _)
/-! SafeCode$Reader step (Z)Z -/
noncomputable def ja_X6_step (l0 : Nat) (l1 : Int) (S : nk_S) : Option (Int × nk_S) :=
  if l1 = 0 then
    if l1 = 0 ∨ l1 = 1 then
    some (l1, S)
    else none
  else
    nk_lt (nk_wi S l0 2 (nk_w ((S.1 l0 2) + 1))) fun S2 =>
    if l1 = 0 ∨ l1 = 1 then
    some (l1, S2)
    else none
theorem ja_X6_step_ok (zs : List Int32) : ∀ (l0 : Nat) (l1 : Int) (S : nk_S) (R : Int × nk_S), nk_cl ja_Tt l0 = some 6 → ja_X6_step l0 l1 S = some R → nk_K ja_Tt mi_Γ (mi_ev zs) 1 385 0 [(0, nk_r l0), (1, nk_i l1)] [] S R := by
  intro l0 l1 S R t_l0 hr
  unfold ja_X6_step at hr
  refine nk_p (i := .iload_n 1) (len := 1) (pc' := 1) mJ_385 (by decide +kernel) (ns_iload_n 1 rfl rfl) rfl ?_
  refine nk_icond (c := .eq) (off := 13) (len := 3) (t := 14) (pc' := 4) mJ_385 (by decide +kernel) (by decide +kernel) rfl (fun hc => ?_) (fun hc => ?_)
  · have hr := nk_ifp (c := l1 = 0) hc hr
    refine nk_p (i := .iload_n 1) (len := 1) (pc' := 15) mJ_385 (by decide +kernel) (ns_iload_n 1 rfl rfl) rfl ?_
    obtain ⟨h1, hr⟩ := nk_cke hr
    cases hr
    exact nk_iret (ty := .boolean) (len := 1) mJ_385 (by decide +kernel) rfl (nk_nar_z h1)
  · have hr := nk_ifn (c := l1 = 0) hc hr
    refine nk_p (i := .aload_n 0) (len := 1) (pc' := 5) mJ_385 (by decide +kernel) (ns_aload_n 0 rfl rfl) rfl ?_
    refine nk_p (i := .dup) (len := 1) (pc' := 6) mJ_385 (by decide +kernel) (ns_dup rfl) rfl ?_
    refine nk_getI (y := (0, 0)) (x := 19) (len := 3) (ci := 6) (k := 2) (pc' := 9) ja_okT mJ_385 (by decide +kernel) (by decide +kernel) (by decide +kernel) t_l0 rfl ?_
    refine nk_p (i := .iconst 1) (len := 1) (pc' := 10) mJ_385 (by decide +kernel) (ns_iconst (c := 1) (by decide +kernel)) rfl ?_
    refine nk_p (i := .iadd) (len := 1) (pc' := 11) mJ_385 (by decide +kernel) ns_iadd rfl ?_
    obtain ⟨S2, h3, hr⟩ := nk_lte hr
    refine nk_putI (y := (0, 0)) (ty := .int) (x := 19) (len := 3) (ci := 6) (k := 2) (pc' := 14) ja_okT mJ_385 (by decide +kernel) (by decide +kernel) (by decide +kernel) t_l0 (Or.inl rfl) rfl h3 ?_
    refine nk_p (i := .iload_n 1) (len := 1) (pc' := 15) mJ_385 (by decide +kernel) (ns_iload_n 1 rfl rfl) rfl ?_
    obtain ⟨h4, hr⟩ := nk_cke hr
    cases hr
    exact nk_iret (ty := .boolean) (len := 1) mJ_385 (by decide +kernel) rfl (nk_nar_z h4)
/-! SafeCode$Reader takesWord (I)Z -/
noncomputable def ja_X6_takesWord_b21 (s0 : Nat) (s1 : Int) (S : nk_S) : Option (Int × nk_S) :=
  nk_bd (ja_X6_step s0 s1 S) fun r1 S2 =>
  if r1 = 0 ∨ r1 = 1 then
  some (r1, S2)
  else none
theorem ja_X6_takesWord_b21_ok (zs : List Int32) : ∀ (s0 : Nat) (s1 : Int) (S : nk_S) (R : Int × nk_S), nk_cl ja_Tt s0 = some 6 → ja_X6_takesWord_b21 s0 s1 S = some R → nk_K ja_Tt mi_Γ (mi_ev zs) 1 392 21 [] [nk_i s1, nk_r s0] S R := by
  intro s0 s1 S R t_s0 hr
  unfold ja_X6_takesWord_b21 at hr
  obtain ⟨r1, S2, h3, hr⟩ := nk_bde hr
  refine nk_callV (ci := 6) (n := 1) (x := 42) (len := 3) (j' := 385) (q' := 1) (r := r1) (S' := S2) (L2 := [(0, nk_r s0), (1, nk_i s1)]) (rest := []) (st' := [nk_i r1]) (pc' := 24) mJ_392 (by decide +kernel) (by decide +kernel) rfl rfl t_s0 (Nat.le_of_ble_eq_true rfl) mJ_385 (Nat.le_of_ble_eq_true rfl) rfl (ja_X6_step_ok zs _ _ _ _ t_s0 h3) rfl ?_
  obtain ⟨h4, hr⟩ := nk_cke hr
  cases hr
  exact nk_iret (ty := .boolean) (len := 1) mJ_392 (by decide +kernel) rfl (nk_nar_z h4)
noncomputable def ja_X6_takesWord (l0 : Nat) (l1 : Int) (S : nk_S) : Option (Int × nk_S) :=
  nk_bd (ja_X10_at (ja_c l0 0) (S.1 l0 2) S) fun r2 S3 =>
  if r2 = l1 then
    ja_X6_takesWord_b21 l0 1 S3
  else
    ja_X6_takesWord_b21 l0 0 S3
theorem ja_X6_takesWord_ok (zs : List Int32) : ∀ (l0 : Nat) (l1 : Int) (S : nk_S) (R : Int × nk_S), nk_cl ja_Tt l0 = some 6 → ja_X6_takesWord l0 l1 S = some R → nk_K ja_Tt mi_Γ (mi_ev zs) 1 392 0 [(0, nk_r l0), (1, nk_i l1)] [] S R := by
  intro l0 l1 S R t_l0 hr
  unfold ja_X6_takesWord at hr
  refine nk_p (i := .aload_n 0) (len := 1) (pc' := 1) mJ_392 (by decide +kernel) (ns_aload_n 0 rfl rfl) rfl ?_
  refine nk_p (i := .aload_n 0) (len := 1) (pc' := 2) mJ_392 (by decide +kernel) (ns_aload_n 0 rfl rfl) rfl ?_
  refine nk_getC (f := (2, 10, 0)) (x := 9) (len := 3) (ci := 6) (k := 0) (pc' := 5) ja_okT mJ_392 (by decide +kernel) (by decide +kernel) (by decide +kernel) (by decide) t_l0 rfl ?_
  have t1 : nk_cl ja_Tt (ja_c l0 0) = some 10 := nk_tc (y := 0) ja_okT t_l0 (by decide +kernel)
  refine nk_p (i := .aload_n 0) (len := 1) (pc' := 6) mJ_392 (by decide +kernel) (ns_aload_n 0 rfl rfl) rfl ?_
  refine nk_getI (y := (0, 0)) (x := 19) (len := 3) (ci := 6) (k := 2) (pc' := 9) ja_okT mJ_392 (by decide +kernel) (by decide +kernel) (by decide +kernel) t_l0 rfl ?_
  obtain ⟨r2, S3, h4, hr⟩ := nk_bde hr
  refine nk_callV (ci := 10) (n := 1) (x := 39) (len := 3) (j' := 32) (q' := 1) (r := r2) (S' := S3) (L2 := [(0, nk_r (ja_c l0 0)), (1, nk_i (S.1 l0 2))]) (rest := [nk_r l0]) (st' := [nk_i r2, nk_r l0]) (pc' := 12) mJ_392 (by decide +kernel) (by decide +kernel) rfl rfl t1 (Nat.le_of_ble_eq_true rfl) mJ_32 (Nat.le_of_ble_eq_true rfl) rfl (ja_X10_at_ok zs _ _ _ _ t1 h4) rfl ?_
  refine nk_p (i := .iload_n 1) (len := 1) (pc' := 13) mJ_392 (by decide +kernel) (ns_iload_n 1 rfl rfl) rfl ?_
  refine nk_icmp (c := .ne) (off := 7) (len := 3) (t := 20) (pc' := 16) mJ_392 (by decide +kernel) (by decide +kernel) rfl (fun hc => ?_) (fun hc => ?_)
  · have hr := nk_ifn (c := r2 = l1) hc hr
    refine nk_p (i := .iconst 0) (len := 1) (pc' := 21) mJ_392 (by decide +kernel) (ns_iconst (c := 0) (by decide +kernel)) rfl ?_
    refine nk_sub [] (L' := []) rfl ?_
    exact ja_X6_takesWord_b21_ok zs _ _ _ _ t_l0 hr
  · have hr := nk_ifp (c := r2 = l1) (Decidable.of_not_not hc) hr
    refine nk_p (i := .iconst 1) (len := 1) (pc' := 17) mJ_392 (by decide +kernel) (ns_iconst (c := 1) (by decide +kernel)) rfl ?_
    refine nk_p (i := .goto 4) (len := 3) (pc' := 21) mJ_392 (by decide +kernel) (ns_goto (by decide +kernel)) rfl ?_
    refine nk_sub [] (L' := []) rfl ?_
    exact ja_X6_takesWord_b21_ok zs _ _ _ _ t_l0 hr
/-! SafeCode$Reader takesShape (I)Z -/
noncomputable def ja_X6_takesShape (l0 : Nat) (l1 : Int) (S : nk_S) : Option (Int × nk_S) :=
  nk_bd (ja_X10_at (ja_c l0 0) (S.1 l0 2) S) fun r2 S3 =>
  nk_bd (ja_X10_hasShape (ja_c l0 0) r2 l1 S3) fun r5 S6 =>
  nk_bd (ja_X6_step l0 r5 S6) fun r8 S9 =>
  if r8 = 0 ∨ r8 = 1 then
  some (r8, S9)
  else none
theorem ja_X6_takesShape_ok (zs : List Int32) : ∀ (l0 : Nat) (l1 : Int) (S : nk_S) (R : Int × nk_S), nk_cl ja_Tt l0 = some 6 → ja_X6_takesShape l0 l1 S = some R → nk_K ja_Tt mi_Γ (mi_ev zs) 1 390 0 [(0, nk_r l0), (1, nk_i l1)] [] S R := by
  intro l0 l1 S R t_l0 hr
  unfold ja_X6_takesShape at hr
  refine nk_p (i := .aload_n 0) (len := 1) (pc' := 1) mJ_390 (by decide +kernel) (ns_aload_n 0 rfl rfl) rfl ?_
  refine nk_p (i := .aload_n 0) (len := 1) (pc' := 2) mJ_390 (by decide +kernel) (ns_aload_n 0 rfl rfl) rfl ?_
  refine nk_getC (f := (2, 10, 0)) (x := 9) (len := 3) (ci := 6) (k := 0) (pc' := 5) ja_okT mJ_390 (by decide +kernel) (by decide +kernel) (by decide +kernel) (by decide) t_l0 rfl ?_
  have t1 : nk_cl ja_Tt (ja_c l0 0) = some 10 := nk_tc (y := 0) ja_okT t_l0 (by decide +kernel)
  refine nk_p (i := .aload_n 0) (len := 1) (pc' := 6) mJ_390 (by decide +kernel) (ns_aload_n 0 rfl rfl) rfl ?_
  refine nk_getC (f := (2, 10, 0)) (x := 9) (len := 3) (ci := 6) (k := 0) (pc' := 9) ja_okT mJ_390 (by decide +kernel) (by decide +kernel) (by decide +kernel) (by decide) t_l0 rfl ?_
  refine nk_p (i := .aload_n 0) (len := 1) (pc' := 10) mJ_390 (by decide +kernel) (ns_aload_n 0 rfl rfl) rfl ?_
  refine nk_getI (y := (0, 0)) (x := 19) (len := 3) (ci := 6) (k := 2) (pc' := 13) ja_okT mJ_390 (by decide +kernel) (by decide +kernel) (by decide +kernel) t_l0 rfl ?_
  obtain ⟨r2, S3, h4, hr⟩ := nk_bde hr
  refine nk_callV (ci := 10) (n := 1) (x := 39) (len := 3) (j' := 32) (q' := 1) (r := r2) (S' := S3) (L2 := [(0, nk_r (ja_c l0 0)), (1, nk_i (S.1 l0 2))]) (rest := [nk_r (ja_c l0 0), nk_r l0]) (st' := [nk_i r2, nk_r (ja_c l0 0), nk_r l0]) (pc' := 16) mJ_390 (by decide +kernel) (by decide +kernel) rfl rfl t1 (Nat.le_of_ble_eq_true rfl) mJ_32 (Nat.le_of_ble_eq_true rfl) rfl (ja_X10_at_ok zs _ _ _ _ t1 h4) rfl ?_
  refine nk_p (i := .iload_n 1) (len := 1) (pc' := 17) mJ_390 (by decide +kernel) (ns_iload_n 1 rfl rfl) rfl ?_
  obtain ⟨r5, S6, h7, hr⟩ := nk_bde hr
  refine nk_callV (ci := 10) (n := 2) (x := 46) (len := 3) (j' := 37) (q' := 1) (r := r5) (S' := S6) (L2 := [(0, nk_r (ja_c l0 0)), (1, nk_i r2), (2, nk_i l1)]) (rest := [nk_r l0]) (st' := [nk_i r5, nk_r l0]) (pc' := 20) mJ_390 (by decide +kernel) (by decide +kernel) rfl rfl t1 (Nat.le_of_ble_eq_true rfl) mJ_37 (Nat.le_of_ble_eq_true rfl) rfl (ja_X10_hasShape_ok zs _ _ _ _ _ t1 h7) rfl ?_
  obtain ⟨r8, S9, h10, hr⟩ := nk_bde hr
  refine nk_callV (ci := 6) (n := 1) (x := 42) (len := 3) (j' := 385) (q' := 1) (r := r8) (S' := S9) (L2 := [(0, nk_r l0), (1, nk_i r5)]) (rest := []) (st' := [nk_i r8]) (pc' := 23) mJ_390 (by decide +kernel) (by decide +kernel) rfl rfl t_l0 (Nat.le_of_ble_eq_true rfl) mJ_385 (Nat.le_of_ble_eq_true rfl) rfl (ja_X6_step_ok zs _ _ _ _ t_l0 h10) rfl ?_
  obtain ⟨h11, hr⟩ := nk_cke hr
  cases hr
  exact nk_iret (ty := .boolean) (len := 1) mJ_390 (by decide +kernel) rfl (nk_nar_z h11)
/-! SafeCode$Reader takesType ()Z -/
noncomputable def ja_X6_takesType (l0 : Nat) (S : nk_S) : Option (Int × nk_S) :=
  nk_bd (ja_X10_at (ja_c l0 0) (S.1 l0 2) S) fun r2 S3 =>
  nk_bd (ja_X10_isType (ja_c l0 0) r2 S3) fun r5 S6 =>
  nk_bd (ja_X6_step l0 r5 S6) fun r8 S9 =>
  if r8 = 0 ∨ r8 = 1 then
  some (r8, S9)
  else none
theorem ja_X6_takesType_ok (zs : List Int32) : ∀ (l0 : Nat) (S : nk_S) (R : Int × nk_S), nk_cl ja_Tt l0 = some 6 → ja_X6_takesType l0 S = some R → nk_K ja_Tt mi_Γ (mi_ev zs) 1 391 0 [(0, nk_r l0)] [] S R := by
  intro l0 S R t_l0 hr
  unfold ja_X6_takesType at hr
  refine nk_p (i := .aload_n 0) (len := 1) (pc' := 1) mJ_391 (by decide +kernel) (ns_aload_n 0 rfl rfl) rfl ?_
  refine nk_p (i := .aload_n 0) (len := 1) (pc' := 2) mJ_391 (by decide +kernel) (ns_aload_n 0 rfl rfl) rfl ?_
  refine nk_getC (f := (2, 10, 0)) (x := 9) (len := 3) (ci := 6) (k := 0) (pc' := 5) ja_okT mJ_391 (by decide +kernel) (by decide +kernel) (by decide +kernel) (by decide) t_l0 rfl ?_
  have t1 : nk_cl ja_Tt (ja_c l0 0) = some 10 := nk_tc (y := 0) ja_okT t_l0 (by decide +kernel)
  refine nk_p (i := .aload_n 0) (len := 1) (pc' := 6) mJ_391 (by decide +kernel) (ns_aload_n 0 rfl rfl) rfl ?_
  refine nk_getC (f := (2, 10, 0)) (x := 9) (len := 3) (ci := 6) (k := 0) (pc' := 9) ja_okT mJ_391 (by decide +kernel) (by decide +kernel) (by decide +kernel) (by decide) t_l0 rfl ?_
  refine nk_p (i := .aload_n 0) (len := 1) (pc' := 10) mJ_391 (by decide +kernel) (ns_aload_n 0 rfl rfl) rfl ?_
  refine nk_getI (y := (0, 0)) (x := 19) (len := 3) (ci := 6) (k := 2) (pc' := 13) ja_okT mJ_391 (by decide +kernel) (by decide +kernel) (by decide +kernel) t_l0 rfl ?_
  obtain ⟨r2, S3, h4, hr⟩ := nk_bde hr
  refine nk_callV (ci := 10) (n := 1) (x := 39) (len := 3) (j' := 32) (q' := 1) (r := r2) (S' := S3) (L2 := [(0, nk_r (ja_c l0 0)), (1, nk_i (S.1 l0 2))]) (rest := [nk_r (ja_c l0 0), nk_r l0]) (st' := [nk_i r2, nk_r (ja_c l0 0), nk_r l0]) (pc' := 16) mJ_391 (by decide +kernel) (by decide +kernel) rfl rfl t1 (Nat.le_of_ble_eq_true rfl) mJ_32 (Nat.le_of_ble_eq_true rfl) rfl (ja_X10_at_ok zs _ _ _ _ t1 h4) rfl ?_
  obtain ⟨r5, S6, h7, hr⟩ := nk_bde hr
  refine nk_callV (ci := 10) (n := 1) (x := 50) (len := 3) (j' := 40) (q' := 1) (r := r5) (S' := S6) (L2 := [(0, nk_r (ja_c l0 0)), (1, nk_i r2)]) (rest := [nk_r l0]) (st' := [nk_i r5, nk_r l0]) (pc' := 19) mJ_391 (by decide +kernel) (by decide +kernel) rfl rfl t1 (Nat.le_of_ble_eq_true rfl) mJ_40 (Nat.le_of_ble_eq_true rfl) rfl (ja_X10_isType_ok zs _ _ _ _ t1 h7) rfl ?_
  obtain ⟨r8, S9, h10, hr⟩ := nk_bde hr
  refine nk_callV (ci := 6) (n := 1) (x := 42) (len := 3) (j' := 385) (q' := 1) (r := r8) (S' := S9) (L2 := [(0, nk_r l0), (1, nk_i r5)]) (rest := []) (st' := [nk_i r8]) (pc' := 22) mJ_391 (by decide +kernel) (by decide +kernel) rfl rfl t_l0 (Nat.le_of_ble_eq_true rfl) mJ_385 (Nat.le_of_ble_eq_true rfl) rfl (ja_X6_step_ok zs _ _ _ _ t_l0 h10) rfl ?_
  obtain ⟨h11, hr⟩ := nk_cke hr
  cases hr
  exact nk_iret (ty := .boolean) (len := 1) mJ_391 (by decide +kernel) rfl (nk_nar_z h11)
/-! SafeCode$Reader takesHead ()Z -/
noncomputable def ja_X6_takesHead_b92 (l0 : Nat) (S : nk_S) : Option (Int × nk_S) :=
  nk_bd (ja_X6_takesShape l0 3 S) fun r1 S2 =>
  if r1 = 0 then
    some (0, S2)
  else
    nk_bd (ja_X6_takesWord l0 57 S2) fun r4 S5 =>
    if r4 = 0 then
      some (0, S5)
    else
      some (1, S5)
theorem ja_X6_takesHead_b92_ok (zs : List Int32) : ∀ (l0 : Nat) (S : nk_S) (R : Int × nk_S), nk_cl ja_Tt l0 = some 6 → ja_X6_takesHead_b92 l0 S = some R → nk_K ja_Tt mi_Γ (mi_ev zs) 1 386 92 [(0, nk_r l0)] [] S R := by
  intro l0 S R t_l0 hr
  unfold ja_X6_takesHead_b92 at hr
  refine nk_p (i := .aload_n 0) (len := 1) (pc' := 93) mJ_386 (by decide +kernel) (ns_aload_n 0 rfl rfl) rfl ?_
  refine nk_p (i := .iconst 3) (len := 1) (pc' := 94) mJ_386 (by decide +kernel) (ns_iconst (c := 3) (by decide +kernel)) rfl ?_
  obtain ⟨r1, S2, h3, hr⟩ := nk_bde hr
  refine nk_callV (ci := 6) (n := 1) (x := 32) (len := 3) (j' := 390) (q' := 1) (r := r1) (S' := S2) (L2 := [(0, nk_r l0), (1, nk_i 3)]) (rest := []) (st' := [nk_i r1]) (pc' := 97) mJ_386 (by decide +kernel) (by decide +kernel) rfl rfl t_l0 (Nat.le_of_ble_eq_true rfl) mJ_390 (Nat.le_of_ble_eq_true rfl) rfl (ja_X6_takesShape_ok zs _ _ _ _ t_l0 h3) rfl ?_
  refine nk_icond (c := .eq) (off := 16) (len := 3) (t := 113) (pc' := 100) mJ_386 (by decide +kernel) (by decide +kernel) rfl (fun hc => ?_) (fun hc => ?_)
  · have hr := nk_ifp (c := r1 = 0) hc hr
    refine nk_p (i := .iconst 0) (len := 1) (pc' := 114) mJ_386 (by decide +kernel) (ns_iconst (c := 0) (by decide +kernel)) rfl ?_
    cases hr
    exact nk_iret (ty := .boolean) (len := 1) mJ_386 (by decide +kernel) rfl (nk_nar_z (by decide))
  · have hr := nk_ifn (c := r1 = 0) hc hr
    refine nk_p (i := .aload_n 0) (len := 1) (pc' := 101) mJ_386 (by decide +kernel) (ns_aload_n 0 rfl rfl) rfl ?_
    refine nk_p (i := .bipush 57) (len := 2) (pc' := 103) mJ_386 (by decide +kernel) (ns_bipush (c := 57) (by decide +kernel)) rfl ?_
    obtain ⟨r4, S5, h6, hr⟩ := nk_bde hr
    refine nk_callV (ci := 6) (n := 1) (x := 28) (len := 3) (j' := 392) (q' := 1) (r := r4) (S' := S5) (L2 := [(0, nk_r l0), (1, nk_i 57)]) (rest := []) (st' := [nk_i r4]) (pc' := 106) mJ_386 (by decide +kernel) (by decide +kernel) rfl rfl t_l0 (Nat.le_of_ble_eq_true rfl) mJ_392 (Nat.le_of_ble_eq_true rfl) rfl (ja_X6_takesWord_ok zs _ _ _ _ t_l0 h6) rfl ?_
    refine nk_icond (c := .eq) (off := 7) (len := 3) (t := 113) (pc' := 109) mJ_386 (by decide +kernel) (by decide +kernel) rfl (fun hc => ?_) (fun hc => ?_)
    · have hr := nk_ifp (c := r4 = 0) hc hr
      refine nk_p (i := .iconst 0) (len := 1) (pc' := 114) mJ_386 (by decide +kernel) (ns_iconst (c := 0) (by decide +kernel)) rfl ?_
      cases hr
      exact nk_iret (ty := .boolean) (len := 1) mJ_386 (by decide +kernel) rfl (nk_nar_z (by decide))
    · have hr := nk_ifn (c := r4 = 0) hc hr
      refine nk_p (i := .iconst 1) (len := 1) (pc' := 110) mJ_386 (by decide +kernel) (ns_iconst (c := 1) (by decide +kernel)) rfl ?_
      refine nk_p (i := .goto 4) (len := 3) (pc' := 114) mJ_386 (by decide +kernel) (ns_goto (by decide +kernel)) rfl ?_
      cases hr
      exact nk_iret (ty := .boolean) (len := 1) mJ_386 (by decide +kernel) rfl (nk_nar_z (by decide))
noncomputable def ja_X6_takesHead_b67 (l0 : Nat) (S : nk_S) : Option (Int × nk_S) :=
  nk_bd (ja_X6_takesWord l0 56 S) fun r1 S2 =>
  if r1 = 0 then
    some (0, S2)
  else
    nk_bd (ja_X6_takesWord l0 53 S2) fun r4 S5 =>
    if r4 = 0 then
      nk_bd (ja_X6_takesType l0 S5) fun r7 S8 =>
      if r7 = 0 then
        some (0, S8)
      else
        ja_X6_takesHead_b92 l0 S8
    else
      ja_X6_takesHead_b92 l0 S5
theorem ja_X6_takesHead_b67_ok (zs : List Int32) : ∀ (l0 : Nat) (S : nk_S) (R : Int × nk_S), nk_cl ja_Tt l0 = some 6 → ja_X6_takesHead_b67 l0 S = some R → nk_K ja_Tt mi_Γ (mi_ev zs) 1 386 67 [(0, nk_r l0)] [] S R := by
  intro l0 S R t_l0 hr
  unfold ja_X6_takesHead_b67 at hr
  refine nk_p (i := .aload_n 0) (len := 1) (pc' := 68) mJ_386 (by decide +kernel) (ns_aload_n 0 rfl rfl) rfl ?_
  refine nk_p (i := .bipush 56) (len := 2) (pc' := 70) mJ_386 (by decide +kernel) (ns_bipush (c := 56) (by decide +kernel)) rfl ?_
  obtain ⟨r1, S2, h3, hr⟩ := nk_bde hr
  refine nk_callV (ci := 6) (n := 1) (x := 28) (len := 3) (j' := 392) (q' := 1) (r := r1) (S' := S2) (L2 := [(0, nk_r l0), (1, nk_i 56)]) (rest := []) (st' := [nk_i r1]) (pc' := 73) mJ_386 (by decide +kernel) (by decide +kernel) rfl rfl t_l0 (Nat.le_of_ble_eq_true rfl) mJ_392 (Nat.le_of_ble_eq_true rfl) rfl (ja_X6_takesWord_ok zs _ _ _ _ t_l0 h3) rfl ?_
  refine nk_icond (c := .eq) (off := 40) (len := 3) (t := 113) (pc' := 76) mJ_386 (by decide +kernel) (by decide +kernel) rfl (fun hc => ?_) (fun hc => ?_)
  · have hr := nk_ifp (c := r1 = 0) hc hr
    refine nk_p (i := .iconst 0) (len := 1) (pc' := 114) mJ_386 (by decide +kernel) (ns_iconst (c := 0) (by decide +kernel)) rfl ?_
    cases hr
    exact nk_iret (ty := .boolean) (len := 1) mJ_386 (by decide +kernel) rfl (nk_nar_z (by decide))
  · have hr := nk_ifn (c := r1 = 0) hc hr
    refine nk_p (i := .aload_n 0) (len := 1) (pc' := 77) mJ_386 (by decide +kernel) (ns_aload_n 0 rfl rfl) rfl ?_
    refine nk_p (i := .bipush 53) (len := 2) (pc' := 79) mJ_386 (by decide +kernel) (ns_bipush (c := 53) (by decide +kernel)) rfl ?_
    obtain ⟨r4, S5, h6, hr⟩ := nk_bde hr
    refine nk_callV (ci := 6) (n := 1) (x := 28) (len := 3) (j' := 392) (q' := 1) (r := r4) (S' := S5) (L2 := [(0, nk_r l0), (1, nk_i 53)]) (rest := []) (st' := [nk_i r4]) (pc' := 82) mJ_386 (by decide +kernel) (by decide +kernel) rfl rfl t_l0 (Nat.le_of_ble_eq_true rfl) mJ_392 (Nat.le_of_ble_eq_true rfl) rfl (ja_X6_takesWord_ok zs _ _ _ _ t_l0 h6) rfl ?_
    refine nk_icond (c := .ne) (off := 10) (len := 3) (t := 92) (pc' := 85) mJ_386 (by decide +kernel) (by decide +kernel) rfl (fun hc => ?_) (fun hc => ?_)
    · have hr := nk_ifn (c := r4 = 0) hc hr
      exact ja_X6_takesHead_b92_ok zs _ _ _ t_l0 hr
    · have hr := nk_ifp (c := r4 = 0) (Decidable.of_not_not hc) hr
      refine nk_p (i := .aload_n 0) (len := 1) (pc' := 86) mJ_386 (by decide +kernel) (ns_aload_n 0 rfl rfl) rfl ?_
      obtain ⟨r7, S8, h9, hr⟩ := nk_bde hr
      refine nk_callV (ci := 6) (n := 0) (x := 53) (len := 3) (j' := 391) (q' := 1) (r := r7) (S' := S8) (L2 := [(0, nk_r l0)]) (rest := []) (st' := [nk_i r7]) (pc' := 89) mJ_386 (by decide +kernel) (by decide +kernel) rfl rfl t_l0 (Nat.le_of_ble_eq_true rfl) mJ_391 (Nat.le_of_ble_eq_true rfl) rfl (ja_X6_takesType_ok zs _ _ _ t_l0 h9) rfl ?_
      refine nk_icond (c := .eq) (off := 24) (len := 3) (t := 113) (pc' := 92) mJ_386 (by decide +kernel) (by decide +kernel) rfl (fun hc => ?_) (fun hc => ?_)
      · have hr := nk_ifp (c := r7 = 0) hc hr
        refine nk_p (i := .iconst 0) (len := 1) (pc' := 114) mJ_386 (by decide +kernel) (ns_iconst (c := 0) (by decide +kernel)) rfl ?_
        cases hr
        exact nk_iret (ty := .boolean) (len := 1) mJ_386 (by decide +kernel) rfl (nk_nar_z (by decide))
      · have hr := nk_ifn (c := r7 = 0) hc hr
        exact ja_X6_takesHead_b92_ok zs _ _ _ t_l0 hr
noncomputable def ja_X6_takesHead_b19 (rec19 : Nat → nk_S → Option (Int × nk_S)) (l0 : Nat) (S : nk_S) : Option (Int × nk_S) :=
  if (S.1 (ja_c l0 0) 4) ≤ (S.1 l0 2) then
    ja_X6_takesHead_b67 l0 S
  else
    nk_bd (ja_X10_at (ja_c l0 0) (S.1 l0 2) S) fun r2 S3 =>
    nk_bd (ja_X10_isType (ja_c l0 0) r2 S3) fun r5 S6 =>
    if r5 = 0 then
      ja_X6_takesHead_b67 l0 S6
    else
      nk_lt (nk_wi S6 l0 2 (nk_w ((S6.1 l0 2) + 1))) fun S8 =>
      rec19 l0 S8
theorem ja_X6_takesHead_b19_ok (zs : List Int32) {rec19 : Nat → nk_S → Option (Int × nk_S)} (hrec19 : ∀ (l0 : Nat) (S : nk_S) (R : Int × nk_S), nk_cl ja_Tt l0 = some 6 → rec19 l0 S = some R → nk_K ja_Tt mi_Γ (mi_ev zs) 1 386 19 [(0, nk_r l0)] [] S R) : ∀ (l0 : Nat) (S : nk_S) (R : Int × nk_S), nk_cl ja_Tt l0 = some 6 → ja_X6_takesHead_b19 rec19 l0 S = some R → nk_K ja_Tt mi_Γ (mi_ev zs) 1 386 19 [(0, nk_r l0)] [] S R := by
  intro l0 S R t_l0 hr
  unfold ja_X6_takesHead_b19 at hr
  refine nk_p (i := .aload_n 0) (len := 1) (pc' := 20) mJ_386 (by decide +kernel) (ns_aload_n 0 rfl rfl) rfl ?_
  refine nk_getI (y := (0, 0)) (x := 19) (len := 3) (ci := 6) (k := 2) (pc' := 23) ja_okT mJ_386 (by decide +kernel) (by decide +kernel) (by decide +kernel) t_l0 rfl ?_
  refine nk_p (i := .aload_n 0) (len := 1) (pc' := 24) mJ_386 (by decide +kernel) (ns_aload_n 0 rfl rfl) rfl ?_
  refine nk_getC (f := (2, 10, 0)) (x := 9) (len := 3) (ci := 6) (k := 0) (pc' := 27) ja_okT mJ_386 (by decide +kernel) (by decide +kernel) (by decide +kernel) (by decide) t_l0 rfl ?_
  have t1 : nk_cl ja_Tt (ja_c l0 0) = some 10 := nk_tc (y := 0) ja_okT t_l0 (by decide +kernel)
  refine nk_getI (y := (0, 0)) (x := 23) (len := 3) (ci := 10) (k := 4) (pc' := 30) ja_okT mJ_386 (by decide +kernel) (by decide +kernel) (by decide +kernel) t1 rfl ?_
  refine nk_icmp (c := .ge) (off := 37) (len := 3) (t := 67) (pc' := 33) mJ_386 (by decide +kernel) (by decide +kernel) rfl (fun hc => ?_) (fun hc => ?_)
  · have hr := nk_ifp (c := (S.1 (ja_c l0 0) 4) ≤ (S.1 l0 2)) hc hr
    exact ja_X6_takesHead_b67_ok zs _ _ _ t_l0 hr
  · have hr := nk_ifn (c := (S.1 (ja_c l0 0) 4) ≤ (S.1 l0 2)) hc hr
    refine nk_p (i := .aload_n 0) (len := 1) (pc' := 34) mJ_386 (by decide +kernel) (ns_aload_n 0 rfl rfl) rfl ?_
    refine nk_getC (f := (2, 10, 0)) (x := 9) (len := 3) (ci := 6) (k := 0) (pc' := 37) ja_okT mJ_386 (by decide +kernel) (by decide +kernel) (by decide +kernel) (by decide) t_l0 rfl ?_
    refine nk_p (i := .aload_n 0) (len := 1) (pc' := 38) mJ_386 (by decide +kernel) (ns_aload_n 0 rfl rfl) rfl ?_
    refine nk_getC (f := (2, 10, 0)) (x := 9) (len := 3) (ci := 6) (k := 0) (pc' := 41) ja_okT mJ_386 (by decide +kernel) (by decide +kernel) (by decide +kernel) (by decide) t_l0 rfl ?_
    refine nk_p (i := .aload_n 0) (len := 1) (pc' := 42) mJ_386 (by decide +kernel) (ns_aload_n 0 rfl rfl) rfl ?_
    refine nk_getI (y := (0, 0)) (x := 19) (len := 3) (ci := 6) (k := 2) (pc' := 45) ja_okT mJ_386 (by decide +kernel) (by decide +kernel) (by decide +kernel) t_l0 rfl ?_
    obtain ⟨r2, S3, h4, hr⟩ := nk_bde hr
    refine nk_callV (ci := 10) (n := 1) (x := 39) (len := 3) (j' := 32) (q' := 1) (r := r2) (S' := S3) (L2 := [(0, nk_r (ja_c l0 0)), (1, nk_i (S.1 l0 2))]) (rest := [nk_r (ja_c l0 0)]) (st' := [nk_i r2, nk_r (ja_c l0 0)]) (pc' := 48) mJ_386 (by decide +kernel) (by decide +kernel) rfl rfl t1 (Nat.le_of_ble_eq_true rfl) mJ_32 (Nat.le_of_ble_eq_true rfl) rfl (ja_X10_at_ok zs _ _ _ _ t1 h4) rfl ?_
    obtain ⟨r5, S6, h7, hr⟩ := nk_bde hr
    refine nk_callV (ci := 10) (n := 1) (x := 50) (len := 3) (j' := 40) (q' := 1) (r := r5) (S' := S6) (L2 := [(0, nk_r (ja_c l0 0)), (1, nk_i r2)]) (rest := []) (st' := [nk_i r5]) (pc' := 51) mJ_386 (by decide +kernel) (by decide +kernel) rfl rfl t1 (Nat.le_of_ble_eq_true rfl) mJ_40 (Nat.le_of_ble_eq_true rfl) rfl (ja_X10_isType_ok zs _ _ _ _ t1 h7) rfl ?_
    refine nk_icond (c := .eq) (off := 16) (len := 3) (t := 67) (pc' := 54) mJ_386 (by decide +kernel) (by decide +kernel) rfl (fun hc => ?_) (fun hc => ?_)
    · have hr := nk_ifp (c := r5 = 0) hc hr
      exact ja_X6_takesHead_b67_ok zs _ _ _ t_l0 hr
    · have hr := nk_ifn (c := r5 = 0) hc hr
      refine nk_p (i := .aload_n 0) (len := 1) (pc' := 55) mJ_386 (by decide +kernel) (ns_aload_n 0 rfl rfl) rfl ?_
      refine nk_p (i := .dup) (len := 1) (pc' := 56) mJ_386 (by decide +kernel) (ns_dup rfl) rfl ?_
      refine nk_getI (y := (0, 0)) (x := 19) (len := 3) (ci := 6) (k := 2) (pc' := 59) ja_okT mJ_386 (by decide +kernel) (by decide +kernel) (by decide +kernel) t_l0 rfl ?_
      refine nk_p (i := .iconst 1) (len := 1) (pc' := 60) mJ_386 (by decide +kernel) (ns_iconst (c := 1) (by decide +kernel)) rfl ?_
      refine nk_p (i := .iadd) (len := 1) (pc' := 61) mJ_386 (by decide +kernel) ns_iadd rfl ?_
      obtain ⟨S8, h9, hr⟩ := nk_lte hr
      refine nk_putI (y := (0, 0)) (ty := .int) (x := 19) (len := 3) (ci := 6) (k := 2) (pc' := 64) ja_okT mJ_386 (by decide +kernel) (by decide +kernel) (by decide +kernel) t_l0 (Or.inl rfl) rfl h9 ?_
      refine nk_p (i := .goto (-45)) (len := 3) (pc' := 19) mJ_386 (by decide +kernel) (ns_goto (by decide +kernel)) rfl ?_
      exact hrec19 _ _ _ t_l0 hr
noncomputable def ja_X6_takesHead_L19 : Nat → Nat → nk_S → Option (Int × nk_S)
  | 0, _, _ => none
  | n + 1, l0, S => ja_X6_takesHead_b19 (ja_X6_takesHead_L19 n) l0 S
theorem ja_X6_takesHead_L19_ok (zs : List Int32) : ∀ n : Nat, ∀ (l0 : Nat) (S : nk_S) (R : Int × nk_S), nk_cl ja_Tt l0 = some 6 → ja_X6_takesHead_L19 n l0 S = some R → nk_K ja_Tt mi_Γ (mi_ev zs) 1 386 19 [(0, nk_r l0)] [] S R := by
  intro n
  induction n with
  | zero => intro _ _ _ _ hr; cases hr
  | succ n ih => intro l0 S R t_l0 hr; exact ja_X6_takesHead_b19_ok zs ih l0 S R t_l0 hr
noncomputable def ja_X6_takesHead (l0 : Nat) (S : nk_S) : Option (Int × nk_S) :=
  nk_bd (ja_X6_takesShape l0 1 S) fun r1 S2 =>
  if r1 = 0 then
    some (0, S2)
  else
    nk_bd (ja_X6_takesWord l0 55 S2) fun r4 S5 =>
    if r4 = 0 then
      some (0, S5)
    else
      ja_X6_takesHead_L19 nk_big l0 S5
theorem ja_X6_takesHead_ok (zs : List Int32) : ∀ (l0 : Nat) (S : nk_S) (R : Int × nk_S), nk_cl ja_Tt l0 = some 6 → ja_X6_takesHead l0 S = some R → nk_K ja_Tt mi_Γ (mi_ev zs) 1 386 0 [(0, nk_r l0)] [] S R := by
  intro l0 S R t_l0 hr
  unfold ja_X6_takesHead at hr
  refine nk_p (i := .aload_n 0) (len := 1) (pc' := 1) mJ_386 (by decide +kernel) (ns_aload_n 0 rfl rfl) rfl ?_
  refine nk_p (i := .iconst 1) (len := 1) (pc' := 2) mJ_386 (by decide +kernel) (ns_iconst (c := 1) (by decide +kernel)) rfl ?_
  obtain ⟨r1, S2, h3, hr⟩ := nk_bde hr
  refine nk_callV (ci := 6) (n := 1) (x := 32) (len := 3) (j' := 390) (q' := 1) (r := r1) (S' := S2) (L2 := [(0, nk_r l0), (1, nk_i 1)]) (rest := []) (st' := [nk_i r1]) (pc' := 5) mJ_386 (by decide +kernel) (by decide +kernel) rfl rfl t_l0 (Nat.le_of_ble_eq_true rfl) mJ_390 (Nat.le_of_ble_eq_true rfl) rfl (ja_X6_takesShape_ok zs _ _ _ _ t_l0 h3) rfl ?_
  refine nk_icond (c := .eq) (off := 12) (len := 3) (t := 17) (pc' := 8) mJ_386 (by decide +kernel) (by decide +kernel) rfl (fun hc => ?_) (fun hc => ?_)
  · have hr := nk_ifp (c := r1 = 0) hc hr
    refine nk_p (i := .iconst 0) (len := 1) (pc' := 18) mJ_386 (by decide +kernel) (ns_iconst (c := 0) (by decide +kernel)) rfl ?_
    cases hr
    exact nk_iret (ty := .boolean) (len := 1) mJ_386 (by decide +kernel) rfl (nk_nar_z (by decide))
  · have hr := nk_ifn (c := r1 = 0) hc hr
    refine nk_p (i := .aload_n 0) (len := 1) (pc' := 9) mJ_386 (by decide +kernel) (ns_aload_n 0 rfl rfl) rfl ?_
    refine nk_p (i := .bipush 55) (len := 2) (pc' := 11) mJ_386 (by decide +kernel) (ns_bipush (c := 55) (by decide +kernel)) rfl ?_
    obtain ⟨r4, S5, h6, hr⟩ := nk_bde hr
    refine nk_callV (ci := 6) (n := 1) (x := 28) (len := 3) (j' := 392) (q' := 1) (r := r4) (S' := S5) (L2 := [(0, nk_r l0), (1, nk_i 55)]) (rest := []) (st' := [nk_i r4]) (pc' := 14) mJ_386 (by decide +kernel) (by decide +kernel) rfl rfl t_l0 (Nat.le_of_ble_eq_true rfl) mJ_392 (Nat.le_of_ble_eq_true rfl) rfl (ja_X6_takesWord_ok zs _ _ _ _ t_l0 h6) rfl ?_
    refine nk_icond (c := .ne) (off := 5) (len := 3) (t := 19) (pc' := 17) mJ_386 (by decide +kernel) (by decide +kernel) rfl (fun hc => ?_) (fun hc => ?_)
    · have hr := nk_ifn (c := r4 = 0) hc hr
      exact ja_X6_takesHead_L19_ok zs nk_big _ _ _ t_l0 hr
    · have hr := nk_ifp (c := r4 = 0) (Decidable.of_not_not hc) hr
      refine nk_p (i := .iconst 0) (len := 1) (pc' := 18) mJ_386 (by decide +kernel) (ns_iconst (c := 0) (by decide +kernel)) rfl ?_
      cases hr
      exact nk_iret (ty := .boolean) (len := 1) mJ_386 (by decide +kernel) rfl (nk_nar_z (by decide))
/-! SafeCode$Reader takesOperands (I)Z -/
noncomputable def ja_X6_takesOperands_b60 (l0 : Nat) (S : nk_S) : Option (Int × nk_S) :=
  nk_bd (ja_X6_takesShape l0 3 S) fun r1 S2 =>
  if r1 = 0 ∨ r1 = 1 then
  some (r1, S2)
  else none
theorem ja_X6_takesOperands_b60_ok (zs : List Int32) : ∀ (l0 : Nat) (S : nk_S) (R : Int × nk_S), nk_cl ja_Tt l0 = some 6 → ja_X6_takesOperands_b60 l0 S = some R → nk_K ja_Tt mi_Γ (mi_ev zs) 1 389 60 [(0, nk_r l0)] [] S R := by
  intro l0 S R t_l0 hr
  unfold ja_X6_takesOperands_b60 at hr
  refine nk_p (i := .aload_n 0) (len := 1) (pc' := 61) mJ_389 (by decide +kernel) (ns_aload_n 0 rfl rfl) rfl ?_
  refine nk_p (i := .iconst 3) (len := 1) (pc' := 62) mJ_389 (by decide +kernel) (ns_iconst (c := 3) (by decide +kernel)) rfl ?_
  obtain ⟨r1, S2, h3, hr⟩ := nk_bde hr
  refine nk_callV (ci := 6) (n := 1) (x := 32) (len := 3) (j' := 390) (q' := 1) (r := r1) (S' := S2) (L2 := [(0, nk_r l0), (1, nk_i 3)]) (rest := []) (st' := [nk_i r1]) (pc' := 65) mJ_389 (by decide +kernel) (by decide +kernel) rfl rfl t_l0 (Nat.le_of_ble_eq_true rfl) mJ_390 (Nat.le_of_ble_eq_true rfl) rfl (ja_X6_takesShape_ok zs _ _ _ _ t_l0 h3) rfl ?_
  obtain ⟨h4, hr⟩ := nk_cke hr
  cases hr
  exact nk_iret (ty := .boolean) (len := 1) mJ_389 (by decide +kernel) rfl (nk_nar_z h4)
noncomputable def ja_X6_takesOperands (l0 : Nat) (l1 : Int) (S : nk_S) : Option (Int × nk_S) :=
  nk_bd (ja_X10_at (ja_c l0 0) (S.1 l0 2) S) fun r2 S3 =>
  if l1 = 1 then
    ja_X6_takesOperands_b60 l0 S3
  else
  if l1 = 2 then
    ja_X6_takesOperands_b60 l0 S3
  else
  if l1 = 3 then
    nk_bd (ja_X6_takesShape l0 3 S3) fun r5 S6 =>
    if r5 = 0 then
      some (0, S6)
    else
      nk_bd (ja_X6_takesShape l0 3 S6) fun r8 S9 =>
      if r8 = 0 then
        some (0, S9)
      else
        some (1, S9)
  else
  if l1 = 4 then
    nk_bd (ja_X6_takesShape l0 1 S3) fun r11 S12 =>
    if r11 = 0 ∨ r11 = 1 then
    some (r11, S12)
    else none
  else
  if l1 = 5 then
    nk_bd (ja_X6_takesShape l0 2 S3) fun r15 S16 =>
    if r15 = 0 ∨ r15 = 1 then
    some (r15, S16)
    else none
  else
  if l1 = 6 then
    nk_bd (ja_X6_takesWord l0 52 S3) fun r19 S20 =>
    if r19 = 0 then
      nk_bd (ja_X6_takesShape l0 2 S20) fun r22 S23 =>
      if r22 = 0 then
        some (0, S23)
      else
        some (1, S23)
    else
      some (1, S20)
  else
  if l1 = 7 then
    if r2 = 52 then
      some (0, S3)
    else
      nk_bd (ja_X6_takesType l0 S3) fun r25 S26 =>
      if r25 = 0 then
        some (0, S26)
      else
        some (1, S26)
  else
  if l1 = 8 then
    nk_bd (ja_X6_takesShape l0 5 S3) fun r28 S29 =>
    if r28 = 0 ∨ r28 = 1 then
    some (r28, S29)
    else none
  else
  some (1, S3)
theorem ja_X6_takesOperands_ok (zs : List Int32) : ∀ (l0 : Nat) (l1 : Int) (S : nk_S) (R : Int × nk_S), nk_cl ja_Tt l0 = some 6 → ja_X6_takesOperands l0 l1 S = some R → nk_K ja_Tt mi_Γ (mi_ev zs) 1 389 0 [(0, nk_r l0), (1, nk_i l1)] [] S R := by
  intro l0 l1 S R t_l0 hr
  unfold ja_X6_takesOperands at hr
  refine nk_p (i := .aload_n 0) (len := 1) (pc' := 1) mJ_389 (by decide +kernel) (ns_aload_n 0 rfl rfl) rfl ?_
  refine nk_getC (f := (2, 10, 0)) (x := 9) (len := 3) (ci := 6) (k := 0) (pc' := 4) ja_okT mJ_389 (by decide +kernel) (by decide +kernel) (by decide +kernel) (by decide) t_l0 rfl ?_
  have t1 : nk_cl ja_Tt (ja_c l0 0) = some 10 := nk_tc (y := 0) ja_okT t_l0 (by decide +kernel)
  refine nk_p (i := .aload_n 0) (len := 1) (pc' := 5) mJ_389 (by decide +kernel) (ns_aload_n 0 rfl rfl) rfl ?_
  refine nk_getI (y := (0, 0)) (x := 19) (len := 3) (ci := 6) (k := 2) (pc' := 8) ja_okT mJ_389 (by decide +kernel) (by decide +kernel) (by decide +kernel) t_l0 rfl ?_
  obtain ⟨r2, S3, h4, hr⟩ := nk_bde hr
  refine nk_callV (ci := 10) (n := 1) (x := 39) (len := 3) (j' := 32) (q' := 1) (r := r2) (S' := S3) (L2 := [(0, nk_r (ja_c l0 0)), (1, nk_i (S.1 l0 2))]) (rest := []) (st' := [nk_i r2]) (pc' := 11) mJ_389 (by decide +kernel) (by decide +kernel) rfl rfl t1 (Nat.le_of_ble_eq_true rfl) mJ_32 (Nat.le_of_ble_eq_true rfl) rfl (ja_X10_at_ok zs _ _ _ _ t1 h4) rfl ?_
  refine nk_p (i := .istore_n 2) (len := 1) (pc' := 12) mJ_389 (by decide +kernel) (ns_istore_n (L' := [(2, nk_i r2), (0, nk_r l0), (1, nk_i l1)]) rfl rfl rfl (by decide +kernel)) rfl ?_
  refine nk_p (i := .iload_n 1) (len := 1) (pc' := 13) mJ_389 (by decide +kernel) (ns_iload_n 2 rfl rfl) rfl ?_
  by_cases hc0 : l1 = 1
  · have hr := nk_ifp hc0 hr
    refine nk_p (i := .tableswitch 135 1 8 #[47, 47, 53, 75, 81, 87, 110, 129]) (len := 47) (pc' := 60) mJ_389 (by decide +kernel) (ns_tsw (V := 1) hc0 (by decide +kernel)) rfl ?_
    refine nk_sub [1] (L' := [(0, nk_r l0)]) rfl ?_
    exact ja_X6_takesOperands_b60_ok zs _ _ _ t_l0 hr
  have hr := nk_ifn hc0 hr
  by_cases hc1 : l1 = 2
  · have hr := nk_ifp hc1 hr
    refine nk_p (i := .tableswitch 135 1 8 #[47, 47, 53, 75, 81, 87, 110, 129]) (len := 47) (pc' := 60) mJ_389 (by decide +kernel) (ns_tsw (V := 2) hc1 (by decide +kernel)) rfl ?_
    refine nk_sub [1] (L' := [(0, nk_r l0)]) rfl ?_
    exact ja_X6_takesOperands_b60_ok zs _ _ _ t_l0 hr
  have hr := nk_ifn hc1 hr
  by_cases hc2 : l1 = 3
  · have hr := nk_ifp hc2 hr
    refine nk_p (i := .tableswitch 135 1 8 #[47, 47, 53, 75, 81, 87, 110, 129]) (len := 47) (pc' := 66) mJ_389 (by decide +kernel) (ns_tsw (V := 3) hc2 (by decide +kernel)) rfl ?_
    refine nk_p (i := .aload_n 0) (len := 1) (pc' := 67) mJ_389 (by decide +kernel) (ns_aload_n 1 rfl rfl) rfl ?_
    refine nk_p (i := .iconst 3) (len := 1) (pc' := 68) mJ_389 (by decide +kernel) (ns_iconst (c := 3) (by decide +kernel)) rfl ?_
    obtain ⟨r5, S6, h7, hr⟩ := nk_bde hr
    refine nk_callV (ci := 6) (n := 1) (x := 32) (len := 3) (j' := 390) (q' := 1) (r := r5) (S' := S6) (L2 := [(0, nk_r l0), (1, nk_i 3)]) (rest := []) (st' := [nk_i r5]) (pc' := 71) mJ_389 (by decide +kernel) (by decide +kernel) rfl rfl t_l0 (Nat.le_of_ble_eq_true rfl) mJ_390 (Nat.le_of_ble_eq_true rfl) rfl (ja_X6_takesShape_ok zs _ _ _ _ t_l0 h7) rfl ?_
    refine nk_icond (c := .eq) (off := 15) (len := 3) (t := 86) (pc' := 74) mJ_389 (by decide +kernel) (by decide +kernel) rfl (fun hc => ?_) (fun hc => ?_)
    · have hr := nk_ifp (c := r5 = 0) hc hr
      refine nk_p (i := .iconst 0) (len := 1) (pc' := 87) mJ_389 (by decide +kernel) (ns_iconst (c := 0) (by decide +kernel)) rfl ?_
      cases hr
      exact nk_iret (ty := .boolean) (len := 1) mJ_389 (by decide +kernel) rfl (nk_nar_z (by decide))
    · have hr := nk_ifn (c := r5 = 0) hc hr
      refine nk_p (i := .aload_n 0) (len := 1) (pc' := 75) mJ_389 (by decide +kernel) (ns_aload_n 1 rfl rfl) rfl ?_
      refine nk_p (i := .iconst 3) (len := 1) (pc' := 76) mJ_389 (by decide +kernel) (ns_iconst (c := 3) (by decide +kernel)) rfl ?_
      obtain ⟨r8, S9, h10, hr⟩ := nk_bde hr
      refine nk_callV (ci := 6) (n := 1) (x := 32) (len := 3) (j' := 390) (q' := 1) (r := r8) (S' := S9) (L2 := [(0, nk_r l0), (1, nk_i 3)]) (rest := []) (st' := [nk_i r8]) (pc' := 79) mJ_389 (by decide +kernel) (by decide +kernel) rfl rfl t_l0 (Nat.le_of_ble_eq_true rfl) mJ_390 (Nat.le_of_ble_eq_true rfl) rfl (ja_X6_takesShape_ok zs _ _ _ _ t_l0 h10) rfl ?_
      refine nk_icond (c := .eq) (off := 7) (len := 3) (t := 86) (pc' := 82) mJ_389 (by decide +kernel) (by decide +kernel) rfl (fun hc => ?_) (fun hc => ?_)
      · have hr := nk_ifp (c := r8 = 0) hc hr
        refine nk_p (i := .iconst 0) (len := 1) (pc' := 87) mJ_389 (by decide +kernel) (ns_iconst (c := 0) (by decide +kernel)) rfl ?_
        cases hr
        exact nk_iret (ty := .boolean) (len := 1) mJ_389 (by decide +kernel) rfl (nk_nar_z (by decide))
      · have hr := nk_ifn (c := r8 = 0) hc hr
        refine nk_p (i := .iconst 1) (len := 1) (pc' := 83) mJ_389 (by decide +kernel) (ns_iconst (c := 1) (by decide +kernel)) rfl ?_
        refine nk_p (i := .goto 4) (len := 3) (pc' := 87) mJ_389 (by decide +kernel) (ns_goto (by decide +kernel)) rfl ?_
        cases hr
        exact nk_iret (ty := .boolean) (len := 1) mJ_389 (by decide +kernel) rfl (nk_nar_z (by decide))
  have hr := nk_ifn hc2 hr
  by_cases hc3 : l1 = 4
  · have hr := nk_ifp hc3 hr
    refine nk_p (i := .tableswitch 135 1 8 #[47, 47, 53, 75, 81, 87, 110, 129]) (len := 47) (pc' := 88) mJ_389 (by decide +kernel) (ns_tsw (V := 4) hc3 (by decide +kernel)) rfl ?_
    refine nk_p (i := .aload_n 0) (len := 1) (pc' := 89) mJ_389 (by decide +kernel) (ns_aload_n 1 rfl rfl) rfl ?_
    refine nk_p (i := .iconst 1) (len := 1) (pc' := 90) mJ_389 (by decide +kernel) (ns_iconst (c := 1) (by decide +kernel)) rfl ?_
    obtain ⟨r11, S12, h13, hr⟩ := nk_bde hr
    refine nk_callV (ci := 6) (n := 1) (x := 32) (len := 3) (j' := 390) (q' := 1) (r := r11) (S' := S12) (L2 := [(0, nk_r l0), (1, nk_i 1)]) (rest := []) (st' := [nk_i r11]) (pc' := 93) mJ_389 (by decide +kernel) (by decide +kernel) rfl rfl t_l0 (Nat.le_of_ble_eq_true rfl) mJ_390 (Nat.le_of_ble_eq_true rfl) rfl (ja_X6_takesShape_ok zs _ _ _ _ t_l0 h13) rfl ?_
    obtain ⟨h14, hr⟩ := nk_cke hr
    cases hr
    exact nk_iret (ty := .boolean) (len := 1) mJ_389 (by decide +kernel) rfl (nk_nar_z h14)
  have hr := nk_ifn hc3 hr
  by_cases hc4 : l1 = 5
  · have hr := nk_ifp hc4 hr
    refine nk_p (i := .tableswitch 135 1 8 #[47, 47, 53, 75, 81, 87, 110, 129]) (len := 47) (pc' := 94) mJ_389 (by decide +kernel) (ns_tsw (V := 5) hc4 (by decide +kernel)) rfl ?_
    refine nk_p (i := .aload_n 0) (len := 1) (pc' := 95) mJ_389 (by decide +kernel) (ns_aload_n 1 rfl rfl) rfl ?_
    refine nk_p (i := .iconst 2) (len := 1) (pc' := 96) mJ_389 (by decide +kernel) (ns_iconst (c := 2) (by decide +kernel)) rfl ?_
    obtain ⟨r15, S16, h17, hr⟩ := nk_bde hr
    refine nk_callV (ci := 6) (n := 1) (x := 32) (len := 3) (j' := 390) (q' := 1) (r := r15) (S' := S16) (L2 := [(0, nk_r l0), (1, nk_i 2)]) (rest := []) (st' := [nk_i r15]) (pc' := 99) mJ_389 (by decide +kernel) (by decide +kernel) rfl rfl t_l0 (Nat.le_of_ble_eq_true rfl) mJ_390 (Nat.le_of_ble_eq_true rfl) rfl (ja_X6_takesShape_ok zs _ _ _ _ t_l0 h17) rfl ?_
    obtain ⟨h18, hr⟩ := nk_cke hr
    cases hr
    exact nk_iret (ty := .boolean) (len := 1) mJ_389 (by decide +kernel) rfl (nk_nar_z h18)
  have hr := nk_ifn hc4 hr
  by_cases hc5 : l1 = 6
  · have hr := nk_ifp hc5 hr
    refine nk_p (i := .tableswitch 135 1 8 #[47, 47, 53, 75, 81, 87, 110, 129]) (len := 47) (pc' := 100) mJ_389 (by decide +kernel) (ns_tsw (V := 6) hc5 (by decide +kernel)) rfl ?_
    refine nk_p (i := .aload_n 0) (len := 1) (pc' := 101) mJ_389 (by decide +kernel) (ns_aload_n 1 rfl rfl) rfl ?_
    refine nk_p (i := .bipush 52) (len := 2) (pc' := 103) mJ_389 (by decide +kernel) (ns_bipush (c := 52) (by decide +kernel)) rfl ?_
    obtain ⟨r19, S20, h21, hr⟩ := nk_bde hr
    refine nk_callV (ci := 6) (n := 1) (x := 28) (len := 3) (j' := 392) (q' := 1) (r := r19) (S' := S20) (L2 := [(0, nk_r l0), (1, nk_i 52)]) (rest := []) (st' := [nk_i r19]) (pc' := 106) mJ_389 (by decide +kernel) (by decide +kernel) rfl rfl t_l0 (Nat.le_of_ble_eq_true rfl) mJ_392 (Nat.le_of_ble_eq_true rfl) rfl (ja_X6_takesWord_ok zs _ _ _ _ t_l0 h21) rfl ?_
    refine nk_icond (c := .ne) (off := 11) (len := 3) (t := 117) (pc' := 109) mJ_389 (by decide +kernel) (by decide +kernel) rfl (fun hc => ?_) (fun hc => ?_)
    · have hr := nk_ifn (c := r19 = 0) hc hr
      refine nk_p (i := .iconst 1) (len := 1) (pc' := 118) mJ_389 (by decide +kernel) (ns_iconst (c := 1) (by decide +kernel)) rfl ?_
      refine nk_p (i := .goto 4) (len := 3) (pc' := 122) mJ_389 (by decide +kernel) (ns_goto (by decide +kernel)) rfl ?_
      cases hr
      exact nk_iret (ty := .boolean) (len := 1) mJ_389 (by decide +kernel) rfl (nk_nar_z (by decide))
    · have hr := nk_ifp (c := r19 = 0) (Decidable.of_not_not hc) hr
      refine nk_p (i := .aload_n 0) (len := 1) (pc' := 110) mJ_389 (by decide +kernel) (ns_aload_n 1 rfl rfl) rfl ?_
      refine nk_p (i := .iconst 2) (len := 1) (pc' := 111) mJ_389 (by decide +kernel) (ns_iconst (c := 2) (by decide +kernel)) rfl ?_
      obtain ⟨r22, S23, h24, hr⟩ := nk_bde hr
      refine nk_callV (ci := 6) (n := 1) (x := 32) (len := 3) (j' := 390) (q' := 1) (r := r22) (S' := S23) (L2 := [(0, nk_r l0), (1, nk_i 2)]) (rest := []) (st' := [nk_i r22]) (pc' := 114) mJ_389 (by decide +kernel) (by decide +kernel) rfl rfl t_l0 (Nat.le_of_ble_eq_true rfl) mJ_390 (Nat.le_of_ble_eq_true rfl) rfl (ja_X6_takesShape_ok zs _ _ _ _ t_l0 h24) rfl ?_
      refine nk_icond (c := .eq) (off := 7) (len := 3) (t := 121) (pc' := 117) mJ_389 (by decide +kernel) (by decide +kernel) rfl (fun hc => ?_) (fun hc => ?_)
      · have hr := nk_ifp (c := r22 = 0) hc hr
        refine nk_p (i := .iconst 0) (len := 1) (pc' := 122) mJ_389 (by decide +kernel) (ns_iconst (c := 0) (by decide +kernel)) rfl ?_
        cases hr
        exact nk_iret (ty := .boolean) (len := 1) mJ_389 (by decide +kernel) rfl (nk_nar_z (by decide))
      · have hr := nk_ifn (c := r22 = 0) hc hr
        refine nk_p (i := .iconst 1) (len := 1) (pc' := 118) mJ_389 (by decide +kernel) (ns_iconst (c := 1) (by decide +kernel)) rfl ?_
        refine nk_p (i := .goto 4) (len := 3) (pc' := 122) mJ_389 (by decide +kernel) (ns_goto (by decide +kernel)) rfl ?_
        cases hr
        exact nk_iret (ty := .boolean) (len := 1) mJ_389 (by decide +kernel) rfl (nk_nar_z (by decide))
  have hr := nk_ifn hc5 hr
  by_cases hc6 : l1 = 7
  · have hr := nk_ifp hc6 hr
    refine nk_p (i := .tableswitch 135 1 8 #[47, 47, 53, 75, 81, 87, 110, 129]) (len := 47) (pc' := 123) mJ_389 (by decide +kernel) (ns_tsw (V := 7) hc6 (by decide +kernel)) rfl ?_
    refine nk_p (i := .iload_n 2) (len := 1) (pc' := 124) mJ_389 (by decide +kernel) (ns_iload_n 0 rfl rfl) rfl ?_
    refine nk_p (i := .bipush 52) (len := 2) (pc' := 126) mJ_389 (by decide +kernel) (ns_bipush (c := 52) (by decide +kernel)) rfl ?_
    refine nk_icmp (c := .eq) (off := 14) (len := 3) (t := 140) (pc' := 129) mJ_389 (by decide +kernel) (by decide +kernel) rfl (fun hc => ?_) (fun hc => ?_)
    · have hr := nk_ifp (c := r2 = 52) hc hr
      refine nk_p (i := .iconst 0) (len := 1) (pc' := 141) mJ_389 (by decide +kernel) (ns_iconst (c := 0) (by decide +kernel)) rfl ?_
      cases hr
      exact nk_iret (ty := .boolean) (len := 1) mJ_389 (by decide +kernel) rfl (nk_nar_z (by decide))
    · have hr := nk_ifn (c := r2 = 52) hc hr
      refine nk_p (i := .aload_n 0) (len := 1) (pc' := 130) mJ_389 (by decide +kernel) (ns_aload_n 1 rfl rfl) rfl ?_
      obtain ⟨r25, S26, h27, hr⟩ := nk_bde hr
      refine nk_callV (ci := 6) (n := 0) (x := 53) (len := 3) (j' := 391) (q' := 1) (r := r25) (S' := S26) (L2 := [(0, nk_r l0)]) (rest := []) (st' := [nk_i r25]) (pc' := 133) mJ_389 (by decide +kernel) (by decide +kernel) rfl rfl t_l0 (Nat.le_of_ble_eq_true rfl) mJ_391 (Nat.le_of_ble_eq_true rfl) rfl (ja_X6_takesType_ok zs _ _ _ t_l0 h27) rfl ?_
      refine nk_icond (c := .eq) (off := 7) (len := 3) (t := 140) (pc' := 136) mJ_389 (by decide +kernel) (by decide +kernel) rfl (fun hc => ?_) (fun hc => ?_)
      · have hr := nk_ifp (c := r25 = 0) hc hr
        refine nk_p (i := .iconst 0) (len := 1) (pc' := 141) mJ_389 (by decide +kernel) (ns_iconst (c := 0) (by decide +kernel)) rfl ?_
        cases hr
        exact nk_iret (ty := .boolean) (len := 1) mJ_389 (by decide +kernel) rfl (nk_nar_z (by decide))
      · have hr := nk_ifn (c := r25 = 0) hc hr
        refine nk_p (i := .iconst 1) (len := 1) (pc' := 137) mJ_389 (by decide +kernel) (ns_iconst (c := 1) (by decide +kernel)) rfl ?_
        refine nk_p (i := .goto 4) (len := 3) (pc' := 141) mJ_389 (by decide +kernel) (ns_goto (by decide +kernel)) rfl ?_
        cases hr
        exact nk_iret (ty := .boolean) (len := 1) mJ_389 (by decide +kernel) rfl (nk_nar_z (by decide))
  have hr := nk_ifn hc6 hr
  by_cases hc7 : l1 = 8
  · have hr := nk_ifp hc7 hr
    refine nk_p (i := .tableswitch 135 1 8 #[47, 47, 53, 75, 81, 87, 110, 129]) (len := 47) (pc' := 142) mJ_389 (by decide +kernel) (ns_tsw (V := 8) hc7 (by decide +kernel)) rfl ?_
    refine nk_p (i := .aload_n 0) (len := 1) (pc' := 143) mJ_389 (by decide +kernel) (ns_aload_n 1 rfl rfl) rfl ?_
    refine nk_p (i := .iconst 5) (len := 1) (pc' := 144) mJ_389 (by decide +kernel) (ns_iconst (c := 5) (by decide +kernel)) rfl ?_
    obtain ⟨r28, S29, h30, hr⟩ := nk_bde hr
    refine nk_callV (ci := 6) (n := 1) (x := 32) (len := 3) (j' := 390) (q' := 1) (r := r28) (S' := S29) (L2 := [(0, nk_r l0), (1, nk_i 5)]) (rest := []) (st' := [nk_i r28]) (pc' := 147) mJ_389 (by decide +kernel) (by decide +kernel) rfl rfl t_l0 (Nat.le_of_ble_eq_true rfl) mJ_390 (Nat.le_of_ble_eq_true rfl) rfl (ja_X6_takesShape_ok zs _ _ _ _ t_l0 h30) rfl ?_
    obtain ⟨h31, hr⟩ := nk_cke hr
    cases hr
    exact nk_iret (ty := .boolean) (len := 1) mJ_389 (by decide +kernel) rfl (nk_nar_z h31)
  have hr := nk_ifn hc7 hr
  refine nk_p (i := .tableswitch 135 1 8 #[47, 47, 53, 75, 81, 87, 110, 129]) (len := 47) (pc' := 148) mJ_389 (by decide +kernel) (ns_tsd (by omega) (by decide +kernel)) rfl ?_
  refine nk_p (i := .iconst 1) (len := 1) (pc' := 149) mJ_389 (by decide +kernel) (ns_iconst (c := 1) (by decide +kernel)) rfl ?_
  cases hr
  exact nk_iret (ty := .boolean) (len := 1) mJ_389 (by decide +kernel) rfl (nk_nar_z (by decide))
/-! SafeCode$Reader takesLines ()Z -/
noncomputable def ja_X6_takesLines_b192 (rec2 : Nat → Int → nk_S → Option (Int × nk_S)) (l0 : Nat) (l1 : Int) (l4 : Int) (S : nk_S) : Option (Int × nk_S) :=
  if l4 = 0 then
    some (0, S)
  else
    nk_lt (nk_w (l1 + 1)) fun v1 =>
    rec2 l0 v1 S
theorem ja_X6_takesLines_b192_ok (zs : List Int32) {rec2 : Nat → Int → nk_S → Option (Int × nk_S)} (hrec2 : ∀ (l0 : Nat) (l1 : Int) (S : nk_S) (R : Int × nk_S), nk_cl ja_Tt l0 = some 6 → rec2 l0 l1 S = some R → nk_K ja_Tt mi_Γ (mi_ev zs) 1 387 2 [(0, nk_r l0), (1, nk_i l1)] [] S R) : ∀ (l0 : Nat) (l1 : Int) (l4 : Int) (S : nk_S) (R : Int × nk_S), nk_cl ja_Tt l0 = some 6 → ja_X6_takesLines_b192 rec2 l0 l1 l4 S = some R → nk_K ja_Tt mi_Γ (mi_ev zs) 1 387 192 [(0, nk_r l0), (1, nk_i l1), (4, nk_i l4)] [] S R := by
  intro l0 l1 l4 S R t_l0 hr
  unfold ja_X6_takesLines_b192 at hr
  refine nk_p (i := .iload 4) (len := 2) (pc' := 194) mJ_387 (by decide +kernel) (ns_iload 2 rfl) rfl ?_
  refine nk_icond (c := .ne) (off := 5) (len := 3) (t := 199) (pc' := 197) mJ_387 (by decide +kernel) (by decide +kernel) rfl (fun hc => ?_) (fun hc => ?_)
  · have hr := nk_ifn (c := l4 = 0) hc hr
    obtain ⟨v1, h2, hr⟩ := nk_lte hr
    refine nk_p (i := .iinc 1 1) (len := 3) (pc' := 202) mJ_387 (by decide +kernel) (ns_iinc (c := 1) (L' := [(1, nk_i v1), (0, nk_r l0), (4, nk_i l4)]) 1 rfl (by decide +kernel) h2 rfl (by decide +kernel)) rfl ?_
    refine nk_p (i := .goto (-200)) (len := 3) (pc' := 2) mJ_387 (by decide +kernel) (ns_goto (by decide +kernel)) rfl ?_
    refine nk_sub [1, 0] (L' := [(0, nk_r l0), (1, nk_i v1)]) rfl ?_
    exact hrec2 _ _ _ _ t_l0 hr
  · have hr := nk_ifp (c := l4 = 0) (Decidable.of_not_not hc) hr
    refine nk_p (i := .iconst 0) (len := 1) (pc' := 198) mJ_387 (by decide +kernel) (ns_iconst (c := 0) (by decide +kernel)) rfl ?_
    cases hr
    exact nk_iret (ty := .boolean) (len := 1) mJ_387 (by decide +kernel) rfl (nk_nar_z (by decide))
noncomputable def ja_X6_takesLines_b183 (rec2 : Nat → Int → nk_S → Option (Int × nk_S)) (l0 : Nat) (l1 : Int) (l3 : Int) (S : nk_S) : Option (Int × nk_S) :=
  nk_bd (ja_X6_step l0 l3 S) fun r1 S2 =>
  ja_X6_takesLines_b192 rec2 l0 l1 0 S2
theorem ja_X6_takesLines_b183_ok (zs : List Int32) {rec2 : Nat → Int → nk_S → Option (Int × nk_S)} (hrec2 : ∀ (l0 : Nat) (l1 : Int) (S : nk_S) (R : Int × nk_S), nk_cl ja_Tt l0 = some 6 → rec2 l0 l1 S = some R → nk_K ja_Tt mi_Γ (mi_ev zs) 1 387 2 [(0, nk_r l0), (1, nk_i l1)] [] S R) : ∀ (l0 : Nat) (l1 : Int) (l3 : Int) (S : nk_S) (R : Int × nk_S), nk_cl ja_Tt l0 = some 6 → ja_X6_takesLines_b183 rec2 l0 l1 l3 S = some R → nk_K ja_Tt mi_Γ (mi_ev zs) 1 387 183 [(0, nk_r l0), (1, nk_i l1), (3, nk_i l3)] [] S R := by
  intro l0 l1 l3 S R t_l0 hr
  unfold ja_X6_takesLines_b183 at hr
  refine nk_p (i := .aload_n 0) (len := 1) (pc' := 184) mJ_387 (by decide +kernel) (ns_aload_n 0 rfl rfl) rfl ?_
  refine nk_p (i := .iload_n 3) (len := 1) (pc' := 185) mJ_387 (by decide +kernel) (ns_iload_n 2 rfl rfl) rfl ?_
  obtain ⟨r1, S2, h3, hr⟩ := nk_bde hr
  refine nk_callV (ci := 6) (n := 1) (x := 42) (len := 3) (j' := 385) (q' := 1) (r := r1) (S' := S2) (L2 := [(0, nk_r l0), (1, nk_i l3)]) (rest := []) (st' := [nk_i r1]) (pc' := 188) mJ_387 (by decide +kernel) (by decide +kernel) rfl rfl t_l0 (Nat.le_of_ble_eq_true rfl) mJ_385 (Nat.le_of_ble_eq_true rfl) rfl (ja_X6_step_ok zs _ _ _ _ t_l0 h3) rfl ?_
  refine nk_p (i := .pop) (len := 1) (pc' := 189) mJ_387 (by decide +kernel) (ns_pop rfl) rfl ?_
  refine nk_p (i := .iconst 0) (len := 1) (pc' := 190) mJ_387 (by decide +kernel) (ns_iconst (c := 0) (by decide +kernel)) rfl ?_
  refine nk_p (i := .istore 4) (len := 2) (pc' := 192) mJ_387 (by decide +kernel) (ns_istore (L' := [(4, nk_i 0), (0, nk_r l0), (1, nk_i l1), (3, nk_i l3)]) rfl rfl (by decide +kernel)) rfl ?_
  refine nk_sub [1, 2, 0] (L' := [(0, nk_r l0), (1, nk_i l1), (4, nk_i 0)]) rfl ?_
  exact ja_X6_takesLines_b192_ok zs hrec2 _ _ _ _ _ t_l0 hr
noncomputable def ja_X6_takesLines_b178 (rec2 : Nat → Int → nk_S → Option (Int × nk_S)) (l0 : Nat) (l1 : Int) (s0 : Int) (S : nk_S) : Option (Int × nk_S) :=
  ja_X6_takesLines_b192 rec2 l0 l1 s0 S
theorem ja_X6_takesLines_b178_ok (zs : List Int32) {rec2 : Nat → Int → nk_S → Option (Int × nk_S)} (hrec2 : ∀ (l0 : Nat) (l1 : Int) (S : nk_S) (R : Int × nk_S), nk_cl ja_Tt l0 = some 6 → rec2 l0 l1 S = some R → nk_K ja_Tt mi_Γ (mi_ev zs) 1 387 2 [(0, nk_r l0), (1, nk_i l1)] [] S R) : ∀ (l0 : Nat) (l1 : Int) (s0 : Int) (S : nk_S) (R : Int × nk_S), nk_cl ja_Tt l0 = some 6 → ja_X6_takesLines_b178 rec2 l0 l1 s0 S = some R → nk_K ja_Tt mi_Γ (mi_ev zs) 1 387 178 [(0, nk_r l0), (1, nk_i l1)] [nk_i s0] S R := by
  intro l0 l1 s0 S R t_l0 hr
  unfold ja_X6_takesLines_b178 at hr
  refine nk_p (i := .istore 4) (len := 2) (pc' := 180) mJ_387 (by decide +kernel) (ns_istore (L' := [(4, nk_i s0), (0, nk_r l0), (1, nk_i l1)]) rfl rfl (by decide +kernel)) rfl ?_
  refine nk_p (i := .goto 12) (len := 3) (pc' := 192) mJ_387 (by decide +kernel) (ns_goto (by decide +kernel)) rfl ?_
  refine nk_sub [1, 2, 0] (L' := [(0, nk_r l0), (1, nk_i l1), (4, nk_i s0)]) rfl ?_
  exact ja_X6_takesLines_b192_ok zs hrec2 _ _ _ _ _ t_l0 hr
noncomputable def ja_X6_takesLines_b177 (rec2 : Nat → Int → nk_S → Option (Int × nk_S)) (l0 : Nat) (l1 : Int) (S : nk_S) : Option (Int × nk_S) :=
  ja_X6_takesLines_b178 rec2 l0 l1 0 S
theorem ja_X6_takesLines_b177_ok (zs : List Int32) {rec2 : Nat → Int → nk_S → Option (Int × nk_S)} (hrec2 : ∀ (l0 : Nat) (l1 : Int) (S : nk_S) (R : Int × nk_S), nk_cl ja_Tt l0 = some 6 → rec2 l0 l1 S = some R → nk_K ja_Tt mi_Γ (mi_ev zs) 1 387 2 [(0, nk_r l0), (1, nk_i l1)] [] S R) : ∀ (l0 : Nat) (l1 : Int) (S : nk_S) (R : Int × nk_S), nk_cl ja_Tt l0 = some 6 → ja_X6_takesLines_b177 rec2 l0 l1 S = some R → nk_K ja_Tt mi_Γ (mi_ev zs) 1 387 177 [(0, nk_r l0), (1, nk_i l1)] [] S R := by
  intro l0 l1 S R t_l0 hr
  unfold ja_X6_takesLines_b177 at hr
  refine nk_p (i := .iconst 0) (len := 1) (pc' := 178) mJ_387 (by decide +kernel) (ns_iconst (c := 0) (by decide +kernel)) rfl ?_
  exact ja_X6_takesLines_b178_ok zs hrec2 _ _ _ _ _ t_l0 hr
noncomputable def ja_X6_takesLines_b138 (rec2 : Nat → Int → nk_S → Option (Int × nk_S)) (l0 : Nat) (l1 : Int) (s0 : Int) (S : nk_S) : Option (Int × nk_S) :=
  ja_X6_takesLines_b192 rec2 l0 l1 s0 S
theorem ja_X6_takesLines_b138_ok (zs : List Int32) {rec2 : Nat → Int → nk_S → Option (Int × nk_S)} (hrec2 : ∀ (l0 : Nat) (l1 : Int) (S : nk_S) (R : Int × nk_S), nk_cl ja_Tt l0 = some 6 → rec2 l0 l1 S = some R → nk_K ja_Tt mi_Γ (mi_ev zs) 1 387 2 [(0, nk_r l0), (1, nk_i l1)] [] S R) : ∀ (l0 : Nat) (l1 : Int) (s0 : Int) (S : nk_S) (R : Int × nk_S), nk_cl ja_Tt l0 = some 6 → ja_X6_takesLines_b138 rec2 l0 l1 s0 S = some R → nk_K ja_Tt mi_Γ (mi_ev zs) 1 387 138 [(0, nk_r l0), (1, nk_i l1)] [nk_i s0] S R := by
  intro l0 l1 s0 S R t_l0 hr
  unfold ja_X6_takesLines_b138 at hr
  refine nk_p (i := .istore 4) (len := 2) (pc' := 140) mJ_387 (by decide +kernel) (ns_istore (L' := [(4, nk_i s0), (0, nk_r l0), (1, nk_i l1)]) rfl rfl (by decide +kernel)) rfl ?_
  refine nk_p (i := .goto 52) (len := 3) (pc' := 192) mJ_387 (by decide +kernel) (ns_goto (by decide +kernel)) rfl ?_
  refine nk_sub [1, 2, 0] (L' := [(0, nk_r l0), (1, nk_i l1), (4, nk_i s0)]) rfl ?_
  exact ja_X6_takesLines_b192_ok zs hrec2 _ _ _ _ _ t_l0 hr
noncomputable def ja_X6_takesLines_b137 (rec2 : Nat → Int → nk_S → Option (Int × nk_S)) (l0 : Nat) (l1 : Int) (S : nk_S) : Option (Int × nk_S) :=
  ja_X6_takesLines_b138 rec2 l0 l1 0 S
theorem ja_X6_takesLines_b137_ok (zs : List Int32) {rec2 : Nat → Int → nk_S → Option (Int × nk_S)} (hrec2 : ∀ (l0 : Nat) (l1 : Int) (S : nk_S) (R : Int × nk_S), nk_cl ja_Tt l0 = some 6 → rec2 l0 l1 S = some R → nk_K ja_Tt mi_Γ (mi_ev zs) 1 387 2 [(0, nk_r l0), (1, nk_i l1)] [] S R) : ∀ (l0 : Nat) (l1 : Int) (S : nk_S) (R : Int × nk_S), nk_cl ja_Tt l0 = some 6 → ja_X6_takesLines_b137 rec2 l0 l1 S = some R → nk_K ja_Tt mi_Γ (mi_ev zs) 1 387 137 [(0, nk_r l0), (1, nk_i l1)] [] S R := by
  intro l0 l1 S R t_l0 hr
  unfold ja_X6_takesLines_b137 at hr
  refine nk_p (i := .iconst 0) (len := 1) (pc' := 138) mJ_387 (by decide +kernel) (ns_iconst (c := 0) (by decide +kernel)) rfl ?_
  exact ja_X6_takesLines_b138_ok zs hrec2 _ _ _ _ _ t_l0 hr
noncomputable def ja_X6_takesLines_b82 (rec2 : Nat → Int → nk_S → Option (Int × nk_S)) (l0 : Nat) (l1 : Int) (s0 : Int) (S : nk_S) : Option (Int × nk_S) :=
  ja_X6_takesLines_b192 rec2 l0 l1 s0 S
theorem ja_X6_takesLines_b82_ok (zs : List Int32) {rec2 : Nat → Int → nk_S → Option (Int × nk_S)} (hrec2 : ∀ (l0 : Nat) (l1 : Int) (S : nk_S) (R : Int × nk_S), nk_cl ja_Tt l0 = some 6 → rec2 l0 l1 S = some R → nk_K ja_Tt mi_Γ (mi_ev zs) 1 387 2 [(0, nk_r l0), (1, nk_i l1)] [] S R) : ∀ (l0 : Nat) (l1 : Int) (s0 : Int) (S : nk_S) (R : Int × nk_S), nk_cl ja_Tt l0 = some 6 → ja_X6_takesLines_b82 rec2 l0 l1 s0 S = some R → nk_K ja_Tt mi_Γ (mi_ev zs) 1 387 82 [(0, nk_r l0), (1, nk_i l1)] [nk_i s0] S R := by
  intro l0 l1 s0 S R t_l0 hr
  unfold ja_X6_takesLines_b82 at hr
  refine nk_p (i := .istore 4) (len := 2) (pc' := 84) mJ_387 (by decide +kernel) (ns_istore (L' := [(4, nk_i s0), (0, nk_r l0), (1, nk_i l1)]) rfl rfl (by decide +kernel)) rfl ?_
  refine nk_p (i := .goto 108) (len := 3) (pc' := 192) mJ_387 (by decide +kernel) (ns_goto (by decide +kernel)) rfl ?_
  refine nk_sub [1, 2, 0] (L' := [(0, nk_r l0), (1, nk_i l1), (4, nk_i s0)]) rfl ?_
  exact ja_X6_takesLines_b192_ok zs hrec2 _ _ _ _ _ t_l0 hr
noncomputable def ja_X6_takesLines_b81 (rec2 : Nat → Int → nk_S → Option (Int × nk_S)) (l0 : Nat) (l1 : Int) (S : nk_S) : Option (Int × nk_S) :=
  ja_X6_takesLines_b82 rec2 l0 l1 0 S
theorem ja_X6_takesLines_b81_ok (zs : List Int32) {rec2 : Nat → Int → nk_S → Option (Int × nk_S)} (hrec2 : ∀ (l0 : Nat) (l1 : Int) (S : nk_S) (R : Int × nk_S), nk_cl ja_Tt l0 = some 6 → rec2 l0 l1 S = some R → nk_K ja_Tt mi_Γ (mi_ev zs) 1 387 2 [(0, nk_r l0), (1, nk_i l1)] [] S R) : ∀ (l0 : Nat) (l1 : Int) (S : nk_S) (R : Int × nk_S), nk_cl ja_Tt l0 = some 6 → ja_X6_takesLines_b81 rec2 l0 l1 S = some R → nk_K ja_Tt mi_Γ (mi_ev zs) 1 387 81 [(0, nk_r l0), (1, nk_i l1)] [] S R := by
  intro l0 l1 S R t_l0 hr
  unfold ja_X6_takesLines_b81 at hr
  refine nk_p (i := .iconst 0) (len := 1) (pc' := 82) mJ_387 (by decide +kernel) (ns_iconst (c := 0) (by decide +kernel)) rfl ?_
  exact ja_X6_takesLines_b82_ok zs hrec2 _ _ _ _ _ t_l0 hr
noncomputable def ja_X6_takesLines_b33 (rec2 : Nat → Int → nk_S → Option (Int × nk_S)) (l0 : Nat) (l1 : Int) (l2 : Int) (S : nk_S) : Option (Int × nk_S) :=
  nk_bd (ja_X10_hasShape (ja_c l0 0) l2 1 S) fun r2 S3 =>
  nk_bd (ja_X10_at (ja_c l0 0) (nk_w ((S3.1 l0 2) + 1)) S3) fun r5 S6 =>
  if r5 = 59 then
    nk_bd (ja_X6_step l0 r2 S6) fun r30 S31 =>
    if r30 = 0 then
      ja_X6_takesLines_b81 rec2 l0 l1 S31
    else
      nk_bd (ja_X6_step l0 1 S31) fun r33 S34 =>
      if r33 = 0 then
        ja_X6_takesLines_b81 rec2 l0 l1 S34
      else
        ja_X6_takesLines_b82 rec2 l0 l1 1 S34
  else
    if l2 = 46 then
      nk_bd (ja_X6_step l0 1 S6) fun r15 S16 =>
      if r15 = 0 then
        ja_X6_takesLines_b137 rec2 l0 l1 S16
      else
        nk_bd (ja_X6_takesShape l0 1 S16) fun r18 S19 =>
        if r18 = 0 then
          ja_X6_takesLines_b137 rec2 l0 l1 S19
        else
          nk_bd (ja_X6_takesShape l0 1 S19) fun r21 S22 =>
          if r21 = 0 then
            ja_X6_takesLines_b137 rec2 l0 l1 S22
          else
            nk_bd (ja_X6_takesShape l0 1 S22) fun r24 S25 =>
            if r24 = 0 then
              ja_X6_takesLines_b137 rec2 l0 l1 S25
            else
              nk_bd (ja_X6_takesShape l0 2 S25) fun r27 S28 =>
              if r27 = 0 then
                ja_X6_takesLines_b137 rec2 l0 l1 S28
              else
                ja_X6_takesLines_b138 rec2 l0 l1 1 S28
    else
      if l2 < 0 then
        ja_X6_takesLines_b183 rec2 l0 l1 r2 S6
      else
        if 46 ≤ l2 then
          ja_X6_takesLines_b183 rec2 l0 l1 r2 S6
        else
          nk_bd (ja_X6_step l0 1 S6) fun r8 S9 =>
          if r8 = 0 then
            ja_X6_takesLines_b177 rec2 l0 l1 S9
          else
            if 0 ≤ l2 ∧ l2 < 46 then
            nk_bd (ja_X6_takesOperands l0 (((ja_ob 45).getD l2.toNat 0).toInt) S9) fun r12 S13 =>
            if r12 = 0 then
              ja_X6_takesLines_b177 rec2 l0 l1 S13
            else
              ja_X6_takesLines_b178 rec2 l0 l1 1 S13
            else none
theorem ja_X6_takesLines_b33_ok (zs : List Int32) {rec2 : Nat → Int → nk_S → Option (Int × nk_S)} (hrec2 : ∀ (l0 : Nat) (l1 : Int) (S : nk_S) (R : Int × nk_S), nk_cl ja_Tt l0 = some 6 → rec2 l0 l1 S = some R → nk_K ja_Tt mi_Γ (mi_ev zs) 1 387 2 [(0, nk_r l0), (1, nk_i l1)] [] S R) : ∀ (l0 : Nat) (l1 : Int) (l2 : Int) (S : nk_S) (R : Int × nk_S), nk_cl ja_Tt l0 = some 6 → ja_X6_takesLines_b33 rec2 l0 l1 l2 S = some R → nk_K ja_Tt mi_Γ (mi_ev zs) 1 387 33 [(0, nk_r l0), (1, nk_i l1), (2, nk_i l2)] [] S R := by
  intro l0 l1 l2 S R t_l0 hr
  unfold ja_X6_takesLines_b33 at hr
  refine nk_p (i := .aload_n 0) (len := 1) (pc' := 34) mJ_387 (by decide +kernel) (ns_aload_n 0 rfl rfl) rfl ?_
  refine nk_getC (f := (2, 10, 0)) (x := 9) (len := 3) (ci := 6) (k := 0) (pc' := 37) ja_okT mJ_387 (by decide +kernel) (by decide +kernel) (by decide +kernel) (by decide) t_l0 rfl ?_
  have t1 : nk_cl ja_Tt (ja_c l0 0) = some 10 := nk_tc (y := 0) ja_okT t_l0 (by decide +kernel)
  refine nk_p (i := .iload_n 2) (len := 1) (pc' := 38) mJ_387 (by decide +kernel) (ns_iload_n 2 rfl rfl) rfl ?_
  refine nk_p (i := .iconst 1) (len := 1) (pc' := 39) mJ_387 (by decide +kernel) (ns_iconst (c := 1) (by decide +kernel)) rfl ?_
  obtain ⟨r2, S3, h4, hr⟩ := nk_bde hr
  refine nk_callV (ci := 10) (n := 2) (x := 46) (len := 3) (j' := 37) (q' := 1) (r := r2) (S' := S3) (L2 := [(0, nk_r (ja_c l0 0)), (1, nk_i l2), (2, nk_i 1)]) (rest := []) (st' := [nk_i r2]) (pc' := 42) mJ_387 (by decide +kernel) (by decide +kernel) rfl rfl t1 (Nat.le_of_ble_eq_true rfl) mJ_37 (Nat.le_of_ble_eq_true rfl) rfl (ja_X10_hasShape_ok zs _ _ _ _ _ t1 h4) rfl ?_
  refine nk_p (i := .istore_n 3) (len := 1) (pc' := 43) mJ_387 (by decide +kernel) (ns_istore_n (L' := [(3, nk_i r2), (0, nk_r l0), (1, nk_i l1), (2, nk_i l2)]) rfl rfl rfl (by decide +kernel)) rfl ?_
  refine nk_p (i := .aload_n 0) (len := 1) (pc' := 44) mJ_387 (by decide +kernel) (ns_aload_n 1 rfl rfl) rfl ?_
  refine nk_getC (f := (2, 10, 0)) (x := 9) (len := 3) (ci := 6) (k := 0) (pc' := 47) ja_okT mJ_387 (by decide +kernel) (by decide +kernel) (by decide +kernel) (by decide) t_l0 rfl ?_
  refine nk_p (i := .aload_n 0) (len := 1) (pc' := 48) mJ_387 (by decide +kernel) (ns_aload_n 1 rfl rfl) rfl ?_
  refine nk_getI (y := (0, 0)) (x := 19) (len := 3) (ci := 6) (k := 2) (pc' := 51) ja_okT mJ_387 (by decide +kernel) (by decide +kernel) (by decide +kernel) t_l0 rfl ?_
  refine nk_p (i := .iconst 1) (len := 1) (pc' := 52) mJ_387 (by decide +kernel) (ns_iconst (c := 1) (by decide +kernel)) rfl ?_
  refine nk_p (i := .iadd) (len := 1) (pc' := 53) mJ_387 (by decide +kernel) ns_iadd rfl ?_
  obtain ⟨r5, S6, h7, hr⟩ := nk_bde hr
  refine nk_callV (ci := 10) (n := 1) (x := 39) (len := 3) (j' := 32) (q' := 1) (r := r5) (S' := S6) (L2 := [(0, nk_r (ja_c l0 0)), (1, nk_i (nk_w ((S3.1 l0 2) + 1)))]) (rest := []) (st' := [nk_i r5]) (pc' := 56) mJ_387 (by decide +kernel) (by decide +kernel) rfl rfl t1 (Nat.le_of_ble_eq_true rfl) mJ_32 (Nat.le_of_ble_eq_true rfl) rfl (ja_X10_at_ok zs _ _ _ _ t1 h7) rfl ?_
  refine nk_p (i := .bipush 59) (len := 2) (pc' := 58) mJ_387 (by decide +kernel) (ns_bipush (c := 59) (by decide +kernel)) rfl ?_
  refine nk_icmp (c := .ne) (off := 29) (len := 3) (t := 87) (pc' := 61) mJ_387 (by decide +kernel) (by decide +kernel) rfl (fun hc => ?_) (fun hc => ?_)
  · have hr := nk_ifn (c := r5 = 59) hc hr
    refine nk_p (i := .iload_n 2) (len := 1) (pc' := 88) mJ_387 (by decide +kernel) (ns_iload_n 3 rfl rfl) rfl ?_
    refine nk_p (i := .bipush 46) (len := 2) (pc' := 90) mJ_387 (by decide +kernel) (ns_bipush (c := 46) (by decide +kernel)) rfl ?_
    refine nk_icmp (c := .ne) (off := 53) (len := 3) (t := 143) (pc' := 93) mJ_387 (by decide +kernel) (by decide +kernel) rfl (fun hc => ?_) (fun hc => ?_)
    · have hr := nk_ifn (c := l2 = 46) hc hr
      refine nk_p (i := .iload_n 2) (len := 1) (pc' := 144) mJ_387 (by decide +kernel) (ns_iload_n 3 rfl rfl) rfl ?_
      refine nk_icond (c := .lt) (off := 39) (len := 3) (t := 183) (pc' := 147) mJ_387 (by decide +kernel) (by decide +kernel) rfl (fun hc => ?_) (fun hc => ?_)
      · have hr := nk_ifp (c := l2 < 0) hc hr
        refine nk_sub [1, 2, 0] (L' := [(0, nk_r l0), (1, nk_i l1), (3, nk_i r2)]) rfl ?_
        exact ja_X6_takesLines_b183_ok zs hrec2 _ _ _ _ _ t_l0 hr
      · have hr := nk_ifn (c := l2 < 0) hc hr
        refine nk_p (i := .iload_n 2) (len := 1) (pc' := 148) mJ_387 (by decide +kernel) (ns_iload_n 3 rfl rfl) rfl ?_
        refine nk_p (i := .bipush 46) (len := 2) (pc' := 150) mJ_387 (by decide +kernel) (ns_bipush (c := 46) (by decide +kernel)) rfl ?_
        refine nk_icmp (c := .ge) (off := 33) (len := 3) (t := 183) (pc' := 153) mJ_387 (by decide +kernel) (by decide +kernel) rfl (fun hc => ?_) (fun hc => ?_)
        · have hr := nk_ifp (c := 46 ≤ l2) hc hr
          refine nk_sub [1, 2, 0] (L' := [(0, nk_r l0), (1, nk_i l1), (3, nk_i r2)]) rfl ?_
          exact ja_X6_takesLines_b183_ok zs hrec2 _ _ _ _ _ t_l0 hr
        · have hr := nk_ifn (c := 46 ≤ l2) hc hr
          refine nk_p (i := .aload_n 0) (len := 1) (pc' := 154) mJ_387 (by decide +kernel) (ns_aload_n 1 rfl rfl) rfl ?_
          refine nk_p (i := .iconst 1) (len := 1) (pc' := 155) mJ_387 (by decide +kernel) (ns_iconst (c := 1) (by decide +kernel)) rfl ?_
          obtain ⟨r8, S9, h10, hr⟩ := nk_bde hr
          refine nk_callV (ci := 6) (n := 1) (x := 42) (len := 3) (j' := 385) (q' := 1) (r := r8) (S' := S9) (L2 := [(0, nk_r l0), (1, nk_i 1)]) (rest := []) (st' := [nk_i r8]) (pc' := 158) mJ_387 (by decide +kernel) (by decide +kernel) rfl rfl t_l0 (Nat.le_of_ble_eq_true rfl) mJ_385 (Nat.le_of_ble_eq_true rfl) rfl (ja_X6_step_ok zs _ _ _ _ t_l0 h10) rfl ?_
          refine nk_icond (c := .eq) (off := 19) (len := 3) (t := 177) (pc' := 161) mJ_387 (by decide +kernel) (by decide +kernel) rfl (fun hc => ?_) (fun hc => ?_)
          · have hr := nk_ifp (c := r8 = 0) hc hr
            refine nk_sub [1, 2] (L' := [(0, nk_r l0), (1, nk_i l1)]) rfl ?_
            exact ja_X6_takesLines_b177_ok zs hrec2 _ _ _ _ t_l0 hr
          · have hr := nk_ifn (c := r8 = 0) hc hr
            refine nk_p (i := .aload_n 0) (len := 1) (pc' := 162) mJ_387 (by decide +kernel) (ns_aload_n 1 rfl rfl) rfl ?_
            refine nk_gsto (x := 62) (len := 3) (pc' := 165) (s1 := "SafeCode") (s2 := "OPERANDS") (s3 := "[I") (k := 45) mJ_387 (by decide +kernel) (by decide +kernel) rfl ?_
            refine nk_p (i := .iload_n 2) (len := 1) (pc' := 166) mJ_387 (by decide +kernel) (ns_iload_n 3 rfl rfl) rfl ?_
            obtain ⟨h11, hr⟩ := nk_cke hr
            refine nk_oiald (len := 1) (xs := ja_ob 45) (N := 46) (pc' := 167) mJ_387 (by decide +kernel) rfl h11.1 h11.2 rfl rfl ?_
            obtain ⟨r12, S13, h14, hr⟩ := nk_bde hr
            refine nk_callV (ci := 6) (n := 1) (x := 66) (len := 3) (j' := 389) (q' := 1) (r := r12) (S' := S13) (L2 := [(0, nk_r l0), (1, nk_i ((ja_ob 45).getD l2.toNat 0).toInt)]) (rest := []) (st' := [nk_i r12]) (pc' := 170) mJ_387 (by decide +kernel) (by decide +kernel) rfl rfl t_l0 (Nat.le_of_ble_eq_true rfl) mJ_389 (Nat.le_of_ble_eq_true rfl) rfl (ja_X6_takesOperands_ok zs _ _ _ _ t_l0 h14) rfl ?_
            refine nk_icond (c := .eq) (off := 7) (len := 3) (t := 177) (pc' := 173) mJ_387 (by decide +kernel) (by decide +kernel) rfl (fun hc => ?_) (fun hc => ?_)
            · have hr := nk_ifp (c := r12 = 0) hc hr
              refine nk_sub [1, 2] (L' := [(0, nk_r l0), (1, nk_i l1)]) rfl ?_
              exact ja_X6_takesLines_b177_ok zs hrec2 _ _ _ _ t_l0 hr
            · have hr := nk_ifn (c := r12 = 0) hc hr
              refine nk_p (i := .iconst 1) (len := 1) (pc' := 174) mJ_387 (by decide +kernel) (ns_iconst (c := 1) (by decide +kernel)) rfl ?_
              refine nk_p (i := .goto 4) (len := 3) (pc' := 178) mJ_387 (by decide +kernel) (ns_goto (by decide +kernel)) rfl ?_
              refine nk_sub [1, 2] (L' := [(0, nk_r l0), (1, nk_i l1)]) rfl ?_
              exact ja_X6_takesLines_b178_ok zs hrec2 _ _ _ _ _ t_l0 hr
    · have hr := nk_ifp (c := l2 = 46) (Decidable.of_not_not hc) hr
      refine nk_p (i := .aload_n 0) (len := 1) (pc' := 94) mJ_387 (by decide +kernel) (ns_aload_n 1 rfl rfl) rfl ?_
      refine nk_p (i := .iconst 1) (len := 1) (pc' := 95) mJ_387 (by decide +kernel) (ns_iconst (c := 1) (by decide +kernel)) rfl ?_
      obtain ⟨r15, S16, h17, hr⟩ := nk_bde hr
      refine nk_callV (ci := 6) (n := 1) (x := 42) (len := 3) (j' := 385) (q' := 1) (r := r15) (S' := S16) (L2 := [(0, nk_r l0), (1, nk_i 1)]) (rest := []) (st' := [nk_i r15]) (pc' := 98) mJ_387 (by decide +kernel) (by decide +kernel) rfl rfl t_l0 (Nat.le_of_ble_eq_true rfl) mJ_385 (Nat.le_of_ble_eq_true rfl) rfl (ja_X6_step_ok zs _ _ _ _ t_l0 h17) rfl ?_
      refine nk_icond (c := .eq) (off := 39) (len := 3) (t := 137) (pc' := 101) mJ_387 (by decide +kernel) (by decide +kernel) rfl (fun hc => ?_) (fun hc => ?_)
      · have hr := nk_ifp (c := r15 = 0) hc hr
        refine nk_sub [1, 2] (L' := [(0, nk_r l0), (1, nk_i l1)]) rfl ?_
        exact ja_X6_takesLines_b137_ok zs hrec2 _ _ _ _ t_l0 hr
      · have hr := nk_ifn (c := r15 = 0) hc hr
        refine nk_p (i := .aload_n 0) (len := 1) (pc' := 102) mJ_387 (by decide +kernel) (ns_aload_n 1 rfl rfl) rfl ?_
        refine nk_p (i := .iconst 1) (len := 1) (pc' := 103) mJ_387 (by decide +kernel) (ns_iconst (c := 1) (by decide +kernel)) rfl ?_
        obtain ⟨r18, S19, h20, hr⟩ := nk_bde hr
        refine nk_callV (ci := 6) (n := 1) (x := 32) (len := 3) (j' := 390) (q' := 1) (r := r18) (S' := S19) (L2 := [(0, nk_r l0), (1, nk_i 1)]) (rest := []) (st' := [nk_i r18]) (pc' := 106) mJ_387 (by decide +kernel) (by decide +kernel) rfl rfl t_l0 (Nat.le_of_ble_eq_true rfl) mJ_390 (Nat.le_of_ble_eq_true rfl) rfl (ja_X6_takesShape_ok zs _ _ _ _ t_l0 h20) rfl ?_
        refine nk_icond (c := .eq) (off := 31) (len := 3) (t := 137) (pc' := 109) mJ_387 (by decide +kernel) (by decide +kernel) rfl (fun hc => ?_) (fun hc => ?_)
        · have hr := nk_ifp (c := r18 = 0) hc hr
          refine nk_sub [1, 2] (L' := [(0, nk_r l0), (1, nk_i l1)]) rfl ?_
          exact ja_X6_takesLines_b137_ok zs hrec2 _ _ _ _ t_l0 hr
        · have hr := nk_ifn (c := r18 = 0) hc hr
          refine nk_p (i := .aload_n 0) (len := 1) (pc' := 110) mJ_387 (by decide +kernel) (ns_aload_n 1 rfl rfl) rfl ?_
          refine nk_p (i := .iconst 1) (len := 1) (pc' := 111) mJ_387 (by decide +kernel) (ns_iconst (c := 1) (by decide +kernel)) rfl ?_
          obtain ⟨r21, S22, h23, hr⟩ := nk_bde hr
          refine nk_callV (ci := 6) (n := 1) (x := 32) (len := 3) (j' := 390) (q' := 1) (r := r21) (S' := S22) (L2 := [(0, nk_r l0), (1, nk_i 1)]) (rest := []) (st' := [nk_i r21]) (pc' := 114) mJ_387 (by decide +kernel) (by decide +kernel) rfl rfl t_l0 (Nat.le_of_ble_eq_true rfl) mJ_390 (Nat.le_of_ble_eq_true rfl) rfl (ja_X6_takesShape_ok zs _ _ _ _ t_l0 h23) rfl ?_
          refine nk_icond (c := .eq) (off := 23) (len := 3) (t := 137) (pc' := 117) mJ_387 (by decide +kernel) (by decide +kernel) rfl (fun hc => ?_) (fun hc => ?_)
          · have hr := nk_ifp (c := r21 = 0) hc hr
            refine nk_sub [1, 2] (L' := [(0, nk_r l0), (1, nk_i l1)]) rfl ?_
            exact ja_X6_takesLines_b137_ok zs hrec2 _ _ _ _ t_l0 hr
          · have hr := nk_ifn (c := r21 = 0) hc hr
            refine nk_p (i := .aload_n 0) (len := 1) (pc' := 118) mJ_387 (by decide +kernel) (ns_aload_n 1 rfl rfl) rfl ?_
            refine nk_p (i := .iconst 1) (len := 1) (pc' := 119) mJ_387 (by decide +kernel) (ns_iconst (c := 1) (by decide +kernel)) rfl ?_
            obtain ⟨r24, S25, h26, hr⟩ := nk_bde hr
            refine nk_callV (ci := 6) (n := 1) (x := 32) (len := 3) (j' := 390) (q' := 1) (r := r24) (S' := S25) (L2 := [(0, nk_r l0), (1, nk_i 1)]) (rest := []) (st' := [nk_i r24]) (pc' := 122) mJ_387 (by decide +kernel) (by decide +kernel) rfl rfl t_l0 (Nat.le_of_ble_eq_true rfl) mJ_390 (Nat.le_of_ble_eq_true rfl) rfl (ja_X6_takesShape_ok zs _ _ _ _ t_l0 h26) rfl ?_
            refine nk_icond (c := .eq) (off := 15) (len := 3) (t := 137) (pc' := 125) mJ_387 (by decide +kernel) (by decide +kernel) rfl (fun hc => ?_) (fun hc => ?_)
            · have hr := nk_ifp (c := r24 = 0) hc hr
              refine nk_sub [1, 2] (L' := [(0, nk_r l0), (1, nk_i l1)]) rfl ?_
              exact ja_X6_takesLines_b137_ok zs hrec2 _ _ _ _ t_l0 hr
            · have hr := nk_ifn (c := r24 = 0) hc hr
              refine nk_p (i := .aload_n 0) (len := 1) (pc' := 126) mJ_387 (by decide +kernel) (ns_aload_n 1 rfl rfl) rfl ?_
              refine nk_p (i := .iconst 2) (len := 1) (pc' := 127) mJ_387 (by decide +kernel) (ns_iconst (c := 2) (by decide +kernel)) rfl ?_
              obtain ⟨r27, S28, h29, hr⟩ := nk_bde hr
              refine nk_callV (ci := 6) (n := 1) (x := 32) (len := 3) (j' := 390) (q' := 1) (r := r27) (S' := S28) (L2 := [(0, nk_r l0), (1, nk_i 2)]) (rest := []) (st' := [nk_i r27]) (pc' := 130) mJ_387 (by decide +kernel) (by decide +kernel) rfl rfl t_l0 (Nat.le_of_ble_eq_true rfl) mJ_390 (Nat.le_of_ble_eq_true rfl) rfl (ja_X6_takesShape_ok zs _ _ _ _ t_l0 h29) rfl ?_
              refine nk_icond (c := .eq) (off := 7) (len := 3) (t := 137) (pc' := 133) mJ_387 (by decide +kernel) (by decide +kernel) rfl (fun hc => ?_) (fun hc => ?_)
              · have hr := nk_ifp (c := r27 = 0) hc hr
                refine nk_sub [1, 2] (L' := [(0, nk_r l0), (1, nk_i l1)]) rfl ?_
                exact ja_X6_takesLines_b137_ok zs hrec2 _ _ _ _ t_l0 hr
              · have hr := nk_ifn (c := r27 = 0) hc hr
                refine nk_p (i := .iconst 1) (len := 1) (pc' := 134) mJ_387 (by decide +kernel) (ns_iconst (c := 1) (by decide +kernel)) rfl ?_
                refine nk_p (i := .goto 4) (len := 3) (pc' := 138) mJ_387 (by decide +kernel) (ns_goto (by decide +kernel)) rfl ?_
                refine nk_sub [1, 2] (L' := [(0, nk_r l0), (1, nk_i l1)]) rfl ?_
                exact ja_X6_takesLines_b138_ok zs hrec2 _ _ _ _ _ t_l0 hr
  · have hr := nk_ifp (c := r5 = 59) (Decidable.of_not_not hc) hr
    refine nk_p (i := .aload_n 0) (len := 1) (pc' := 62) mJ_387 (by decide +kernel) (ns_aload_n 1 rfl rfl) rfl ?_
    refine nk_p (i := .iload_n 3) (len := 1) (pc' := 63) mJ_387 (by decide +kernel) (ns_iload_n 0 rfl rfl) rfl ?_
    obtain ⟨r30, S31, h32, hr⟩ := nk_bde hr
    refine nk_callV (ci := 6) (n := 1) (x := 42) (len := 3) (j' := 385) (q' := 1) (r := r30) (S' := S31) (L2 := [(0, nk_r l0), (1, nk_i r2)]) (rest := []) (st' := [nk_i r30]) (pc' := 66) mJ_387 (by decide +kernel) (by decide +kernel) rfl rfl t_l0 (Nat.le_of_ble_eq_true rfl) mJ_385 (Nat.le_of_ble_eq_true rfl) rfl (ja_X6_step_ok zs _ _ _ _ t_l0 h32) rfl ?_
    refine nk_icond (c := .eq) (off := 15) (len := 3) (t := 81) (pc' := 69) mJ_387 (by decide +kernel) (by decide +kernel) rfl (fun hc => ?_) (fun hc => ?_)
    · have hr := nk_ifp (c := r30 = 0) hc hr
      refine nk_sub [1, 2] (L' := [(0, nk_r l0), (1, nk_i l1)]) rfl ?_
      exact ja_X6_takesLines_b81_ok zs hrec2 _ _ _ _ t_l0 hr
    · have hr := nk_ifn (c := r30 = 0) hc hr
      refine nk_p (i := .aload_n 0) (len := 1) (pc' := 70) mJ_387 (by decide +kernel) (ns_aload_n 1 rfl rfl) rfl ?_
      refine nk_p (i := .iconst 1) (len := 1) (pc' := 71) mJ_387 (by decide +kernel) (ns_iconst (c := 1) (by decide +kernel)) rfl ?_
      obtain ⟨r33, S34, h35, hr⟩ := nk_bde hr
      refine nk_callV (ci := 6) (n := 1) (x := 42) (len := 3) (j' := 385) (q' := 1) (r := r33) (S' := S34) (L2 := [(0, nk_r l0), (1, nk_i 1)]) (rest := []) (st' := [nk_i r33]) (pc' := 74) mJ_387 (by decide +kernel) (by decide +kernel) rfl rfl t_l0 (Nat.le_of_ble_eq_true rfl) mJ_385 (Nat.le_of_ble_eq_true rfl) rfl (ja_X6_step_ok zs _ _ _ _ t_l0 h35) rfl ?_
      refine nk_icond (c := .eq) (off := 7) (len := 3) (t := 81) (pc' := 77) mJ_387 (by decide +kernel) (by decide +kernel) rfl (fun hc => ?_) (fun hc => ?_)
      · have hr := nk_ifp (c := r33 = 0) hc hr
        refine nk_sub [1, 2] (L' := [(0, nk_r l0), (1, nk_i l1)]) rfl ?_
        exact ja_X6_takesLines_b81_ok zs hrec2 _ _ _ _ t_l0 hr
      · have hr := nk_ifn (c := r33 = 0) hc hr
        refine nk_p (i := .iconst 1) (len := 1) (pc' := 78) mJ_387 (by decide +kernel) (ns_iconst (c := 1) (by decide +kernel)) rfl ?_
        refine nk_p (i := .goto 4) (len := 3) (pc' := 82) mJ_387 (by decide +kernel) (ns_goto (by decide +kernel)) rfl ?_
        refine nk_sub [1, 2] (L' := [(0, nk_r l0), (1, nk_i l1)]) rfl ?_
        exact ja_X6_takesLines_b82_ok zs hrec2 _ _ _ _ _ t_l0 hr
noncomputable def ja_X6_takesLines_b2 (rec2 : Nat → Int → nk_S → Option (Int × nk_S)) (l0 : Nat) (l1 : Int) (S : nk_S) : Option (Int × nk_S) :=
  if 16000 ≤ l1 then
    some (0, S)
  else
    nk_bd (ja_X10_at (ja_c l0 0) (S.1 l0 2) S) fun r2 S3 =>
    if r2 = 58 then
      nk_bd (ja_X6_step l0 1 S3) fun r5 S6 =>
      if r5 = 0 ∨ r5 = 1 then
      some (r5, S6)
      else none
    else
      ja_X6_takesLines_b33 rec2 l0 l1 r2 S3
theorem ja_X6_takesLines_b2_ok (zs : List Int32) {rec2 : Nat → Int → nk_S → Option (Int × nk_S)} (hrec2 : ∀ (l0 : Nat) (l1 : Int) (S : nk_S) (R : Int × nk_S), nk_cl ja_Tt l0 = some 6 → rec2 l0 l1 S = some R → nk_K ja_Tt mi_Γ (mi_ev zs) 1 387 2 [(0, nk_r l0), (1, nk_i l1)] [] S R) : ∀ (l0 : Nat) (l1 : Int) (S : nk_S) (R : Int × nk_S), nk_cl ja_Tt l0 = some 6 → ja_X6_takesLines_b2 rec2 l0 l1 S = some R → nk_K ja_Tt mi_Γ (mi_ev zs) 1 387 2 [(0, nk_r l0), (1, nk_i l1)] [] S R := by
  intro l0 l1 S R t_l0 hr
  unfold ja_X6_takesLines_b2 at hr
  refine nk_p (i := .iload_n 1) (len := 1) (pc' := 3) mJ_387 (by decide +kernel) (ns_iload_n 1 rfl rfl) rfl ?_
  refine nk_p (i := .sipush 16000) (len := 3) (pc' := 6) mJ_387 (by decide +kernel) (ns_sipush (c := 16000) (by decide +kernel)) rfl ?_
  refine nk_icmp (c := .ge) (off := 199) (len := 3) (t := 205) (pc' := 9) mJ_387 (by decide +kernel) (by decide +kernel) rfl (fun hc => ?_) (fun hc => ?_)
  · have hr := nk_ifp (c := 16000 ≤ l1) hc hr
    refine nk_p (i := .iconst 0) (len := 1) (pc' := 206) mJ_387 (by decide +kernel) (ns_iconst (c := 0) (by decide +kernel)) rfl ?_
    cases hr
    exact nk_iret (ty := .boolean) (len := 1) mJ_387 (by decide +kernel) rfl (nk_nar_z (by decide))
  · have hr := nk_ifn (c := 16000 ≤ l1) hc hr
    refine nk_p (i := .aload_n 0) (len := 1) (pc' := 10) mJ_387 (by decide +kernel) (ns_aload_n 0 rfl rfl) rfl ?_
    refine nk_getC (f := (2, 10, 0)) (x := 9) (len := 3) (ci := 6) (k := 0) (pc' := 13) ja_okT mJ_387 (by decide +kernel) (by decide +kernel) (by decide +kernel) (by decide) t_l0 rfl ?_
    have t1 : nk_cl ja_Tt (ja_c l0 0) = some 10 := nk_tc (y := 0) ja_okT t_l0 (by decide +kernel)
    refine nk_p (i := .aload_n 0) (len := 1) (pc' := 14) mJ_387 (by decide +kernel) (ns_aload_n 0 rfl rfl) rfl ?_
    refine nk_getI (y := (0, 0)) (x := 19) (len := 3) (ci := 6) (k := 2) (pc' := 17) ja_okT mJ_387 (by decide +kernel) (by decide +kernel) (by decide +kernel) t_l0 rfl ?_
    obtain ⟨r2, S3, h4, hr⟩ := nk_bde hr
    refine nk_callV (ci := 10) (n := 1) (x := 39) (len := 3) (j' := 32) (q' := 1) (r := r2) (S' := S3) (L2 := [(0, nk_r (ja_c l0 0)), (1, nk_i (S.1 l0 2))]) (rest := []) (st' := [nk_i r2]) (pc' := 20) mJ_387 (by decide +kernel) (by decide +kernel) rfl rfl t1 (Nat.le_of_ble_eq_true rfl) mJ_32 (Nat.le_of_ble_eq_true rfl) rfl (ja_X10_at_ok zs _ _ _ _ t1 h4) rfl ?_
    refine nk_p (i := .istore_n 2) (len := 1) (pc' := 21) mJ_387 (by decide +kernel) (ns_istore_n (L' := [(2, nk_i r2), (0, nk_r l0), (1, nk_i l1)]) rfl rfl rfl (by decide +kernel)) rfl ?_
    refine nk_p (i := .iload_n 2) (len := 1) (pc' := 22) mJ_387 (by decide +kernel) (ns_iload_n 0 rfl rfl) rfl ?_
    refine nk_p (i := .bipush 58) (len := 2) (pc' := 24) mJ_387 (by decide +kernel) (ns_bipush (c := 58) (by decide +kernel)) rfl ?_
    refine nk_icmp (c := .ne) (off := 9) (len := 3) (t := 33) (pc' := 27) mJ_387 (by decide +kernel) (by decide +kernel) rfl (fun hc => ?_) (fun hc => ?_)
    · have hr := nk_ifn (c := r2 = 58) hc hr
      refine nk_sub [1, 2, 0] (L' := [(0, nk_r l0), (1, nk_i l1), (2, nk_i r2)]) rfl ?_
      exact ja_X6_takesLines_b33_ok zs hrec2 _ _ _ _ _ t_l0 hr
    · have hr := nk_ifp (c := r2 = 58) (Decidable.of_not_not hc) hr
      refine nk_p (i := .aload_n 0) (len := 1) (pc' := 28) mJ_387 (by decide +kernel) (ns_aload_n 1 rfl rfl) rfl ?_
      refine nk_p (i := .iconst 1) (len := 1) (pc' := 29) mJ_387 (by decide +kernel) (ns_iconst (c := 1) (by decide +kernel)) rfl ?_
      obtain ⟨r5, S6, h7, hr⟩ := nk_bde hr
      refine nk_callV (ci := 6) (n := 1) (x := 42) (len := 3) (j' := 385) (q' := 1) (r := r5) (S' := S6) (L2 := [(0, nk_r l0), (1, nk_i 1)]) (rest := []) (st' := [nk_i r5]) (pc' := 32) mJ_387 (by decide +kernel) (by decide +kernel) rfl rfl t_l0 (Nat.le_of_ble_eq_true rfl) mJ_385 (Nat.le_of_ble_eq_true rfl) rfl (ja_X6_step_ok zs _ _ _ _ t_l0 h7) rfl ?_
      obtain ⟨h8, hr⟩ := nk_cke hr
      cases hr
      exact nk_iret (ty := .boolean) (len := 1) mJ_387 (by decide +kernel) rfl (nk_nar_z h8)
noncomputable def ja_X6_takesLines_L2 : Nat → Nat → Int → nk_S → Option (Int × nk_S)
  | 0, _, _, _ => none
  | n + 1, l0, l1, S => ja_X6_takesLines_b2 (ja_X6_takesLines_L2 n) l0 l1 S
theorem ja_X6_takesLines_L2_ok (zs : List Int32) : ∀ n : Nat, ∀ (l0 : Nat) (l1 : Int) (S : nk_S) (R : Int × nk_S), nk_cl ja_Tt l0 = some 6 → ja_X6_takesLines_L2 n l0 l1 S = some R → nk_K ja_Tt mi_Γ (mi_ev zs) 1 387 2 [(0, nk_r l0), (1, nk_i l1)] [] S R := by
  intro n
  induction n with
  | zero => intro _ _ _ _ _ hr; cases hr
  | succ n ih => intro l0 l1 S R t_l0 hr; exact ja_X6_takesLines_b2_ok zs ih l0 l1 S R t_l0 hr
noncomputable def ja_X6_takesLines (l0 : Nat) (S : nk_S) : Option (Int × nk_S) :=
  ja_X6_takesLines_L2 nk_big l0 0 S
theorem ja_X6_takesLines_ok (zs : List Int32) : ∀ (l0 : Nat) (S : nk_S) (R : Int × nk_S), nk_cl ja_Tt l0 = some 6 → ja_X6_takesLines l0 S = some R → nk_K ja_Tt mi_Γ (mi_ev zs) 1 387 0 [(0, nk_r l0)] [] S R := by
  intro l0 S R t_l0 hr
  unfold ja_X6_takesLines at hr
  refine nk_p (i := .iconst 0) (len := 1) (pc' := 1) mJ_387 (by decide +kernel) (ns_iconst (c := 0) (by decide +kernel)) rfl ?_
  refine nk_p (i := .istore_n 1) (len := 1) (pc' := 2) mJ_387 (by decide +kernel) (ns_istore_n (L' := [(1, nk_i 0), (0, nk_r l0)]) rfl rfl rfl (by decide +kernel)) rfl ?_
  refine nk_sub [1, 0] (L' := [(0, nk_r l0), (1, nk_i 0)]) rfl ?_
  exact ja_X6_takesLines_L2_ok zs nk_big _ _ _ _ t_l0 hr
/-! SafeCode$Reader takesMembers ()Z -/
noncomputable def ja_X6_takesMembers_b113 (rec2 : Nat → Int → nk_S → Option (Int × nk_S)) (l0 : Nat) (l1 : Int) (l3 : Int) (S : nk_S) : Option (Int × nk_S) :=
  if l3 = 0 then
    some (0, S)
  else
    nk_lt (nk_w (l1 + 1)) fun v1 =>
    rec2 l0 v1 S
theorem ja_X6_takesMembers_b113_ok (zs : List Int32) {rec2 : Nat → Int → nk_S → Option (Int × nk_S)} (hrec2 : ∀ (l0 : Nat) (l1 : Int) (S : nk_S) (R : Int × nk_S), nk_cl ja_Tt l0 = some 6 → rec2 l0 l1 S = some R → nk_K ja_Tt mi_Γ (mi_ev zs) 1 388 2 [(0, nk_r l0), (1, nk_i l1)] [] S R) : ∀ (l0 : Nat) (l1 : Int) (l3 : Int) (S : nk_S) (R : Int × nk_S), nk_cl ja_Tt l0 = some 6 → ja_X6_takesMembers_b113 rec2 l0 l1 l3 S = some R → nk_K ja_Tt mi_Γ (mi_ev zs) 1 388 113 [(0, nk_r l0), (1, nk_i l1), (3, nk_i l3)] [] S R := by
  intro l0 l1 l3 S R t_l0 hr
  unfold ja_X6_takesMembers_b113 at hr
  refine nk_p (i := .iload_n 3) (len := 1) (pc' := 114) mJ_388 (by decide +kernel) (ns_iload_n 2 rfl rfl) rfl ?_
  refine nk_icond (c := .ne) (off := 5) (len := 3) (t := 119) (pc' := 117) mJ_388 (by decide +kernel) (by decide +kernel) rfl (fun hc => ?_) (fun hc => ?_)
  · have hr := nk_ifn (c := l3 = 0) hc hr
    obtain ⟨v1, h2, hr⟩ := nk_lte hr
    refine nk_p (i := .iinc 1 1) (len := 3) (pc' := 122) mJ_388 (by decide +kernel) (ns_iinc (c := 1) (L' := [(1, nk_i v1), (0, nk_r l0), (3, nk_i l3)]) 1 rfl (by decide +kernel) h2 rfl (by decide +kernel)) rfl ?_
    refine nk_p (i := .goto (-120)) (len := 3) (pc' := 2) mJ_388 (by decide +kernel) (ns_goto (by decide +kernel)) rfl ?_
    refine nk_sub [1, 0] (L' := [(0, nk_r l0), (1, nk_i v1)]) rfl ?_
    exact hrec2 _ _ _ _ t_l0 hr
  · have hr := nk_ifp (c := l3 = 0) (Decidable.of_not_not hc) hr
    refine nk_p (i := .iconst 0) (len := 1) (pc' := 118) mJ_388 (by decide +kernel) (ns_iconst (c := 0) (by decide +kernel)) rfl ?_
    cases hr
    exact nk_iret (ty := .boolean) (len := 1) mJ_388 (by decide +kernel) rfl (nk_nar_z (by decide))
noncomputable def ja_X6_takesMembers_b112 (rec2 : Nat → Int → nk_S → Option (Int × nk_S)) (l0 : Nat) (l1 : Int) (s0 : Int) (S : nk_S) : Option (Int × nk_S) :=
  ja_X6_takesMembers_b113 rec2 l0 l1 s0 S
theorem ja_X6_takesMembers_b112_ok (zs : List Int32) {rec2 : Nat → Int → nk_S → Option (Int × nk_S)} (hrec2 : ∀ (l0 : Nat) (l1 : Int) (S : nk_S) (R : Int × nk_S), nk_cl ja_Tt l0 = some 6 → rec2 l0 l1 S = some R → nk_K ja_Tt mi_Γ (mi_ev zs) 1 388 2 [(0, nk_r l0), (1, nk_i l1)] [] S R) : ∀ (l0 : Nat) (l1 : Int) (s0 : Int) (S : nk_S) (R : Int × nk_S), nk_cl ja_Tt l0 = some 6 → ja_X6_takesMembers_b112 rec2 l0 l1 s0 S = some R → nk_K ja_Tt mi_Γ (mi_ev zs) 1 388 112 [(0, nk_r l0), (1, nk_i l1)] [nk_i s0] S R := by
  intro l0 l1 s0 S R t_l0 hr
  unfold ja_X6_takesMembers_b112 at hr
  refine nk_p (i := .istore_n 3) (len := 1) (pc' := 113) mJ_388 (by decide +kernel) (ns_istore_n (L' := [(3, nk_i s0), (0, nk_r l0), (1, nk_i l1)]) rfl rfl rfl (by decide +kernel)) rfl ?_
  refine nk_sub [1, 2, 0] (L' := [(0, nk_r l0), (1, nk_i l1), (3, nk_i s0)]) rfl ?_
  exact ja_X6_takesMembers_b113_ok zs hrec2 _ _ _ _ _ t_l0 hr
noncomputable def ja_X6_takesMembers_b111 (rec2 : Nat → Int → nk_S → Option (Int × nk_S)) (l0 : Nat) (l1 : Int) (S : nk_S) : Option (Int × nk_S) :=
  ja_X6_takesMembers_b112 rec2 l0 l1 0 S
theorem ja_X6_takesMembers_b111_ok (zs : List Int32) {rec2 : Nat → Int → nk_S → Option (Int × nk_S)} (hrec2 : ∀ (l0 : Nat) (l1 : Int) (S : nk_S) (R : Int × nk_S), nk_cl ja_Tt l0 = some 6 → rec2 l0 l1 S = some R → nk_K ja_Tt mi_Γ (mi_ev zs) 1 388 2 [(0, nk_r l0), (1, nk_i l1)] [] S R) : ∀ (l0 : Nat) (l1 : Int) (S : nk_S) (R : Int × nk_S), nk_cl ja_Tt l0 = some 6 → ja_X6_takesMembers_b111 rec2 l0 l1 S = some R → nk_K ja_Tt mi_Γ (mi_ev zs) 1 388 111 [(0, nk_r l0), (1, nk_i l1)] [] S R := by
  intro l0 l1 S R t_l0 hr
  unfold ja_X6_takesMembers_b111 at hr
  refine nk_p (i := .iconst 0) (len := 1) (pc' := 112) mJ_388 (by decide +kernel) (ns_iconst (c := 0) (by decide +kernel)) rfl ?_
  exact ja_X6_takesMembers_b112_ok zs hrec2 _ _ _ _ _ t_l0 hr
noncomputable def ja_X6_takesMembers_b85 (rec2 : Nat → Int → nk_S → Option (Int × nk_S)) (l0 : Nat) (l1 : Int) (S : nk_S) : Option (Int × nk_S) :=
  nk_bd (ja_X6_step l0 1 S) fun r1 S2 =>
  if r1 = 0 then
    ja_X6_takesMembers_b111 rec2 l0 l1 S2
  else
    nk_bd (ja_X6_takesHead l0 S2) fun r4 S5 =>
    if r4 = 0 then
      ja_X6_takesMembers_b111 rec2 l0 l1 S5
    else
      nk_bd (ja_X6_takesLines l0 S5) fun r7 S8 =>
      if r7 = 0 then
        ja_X6_takesMembers_b111 rec2 l0 l1 S8
      else
        ja_X6_takesMembers_b112 rec2 l0 l1 1 S8
theorem ja_X6_takesMembers_b85_ok (zs : List Int32) {rec2 : Nat → Int → nk_S → Option (Int × nk_S)} (hrec2 : ∀ (l0 : Nat) (l1 : Int) (S : nk_S) (R : Int × nk_S), nk_cl ja_Tt l0 = some 6 → rec2 l0 l1 S = some R → nk_K ja_Tt mi_Γ (mi_ev zs) 1 388 2 [(0, nk_r l0), (1, nk_i l1)] [] S R) : ∀ (l0 : Nat) (l1 : Int) (S : nk_S) (R : Int × nk_S), nk_cl ja_Tt l0 = some 6 → ja_X6_takesMembers_b85 rec2 l0 l1 S = some R → nk_K ja_Tt mi_Γ (mi_ev zs) 1 388 85 [(0, nk_r l0), (1, nk_i l1)] [] S R := by
  intro l0 l1 S R t_l0 hr
  unfold ja_X6_takesMembers_b85 at hr
  refine nk_p (i := .aload_n 0) (len := 1) (pc' := 86) mJ_388 (by decide +kernel) (ns_aload_n 0 rfl rfl) rfl ?_
  refine nk_p (i := .iconst 1) (len := 1) (pc' := 87) mJ_388 (by decide +kernel) (ns_iconst (c := 1) (by decide +kernel)) rfl ?_
  obtain ⟨r1, S2, h3, hr⟩ := nk_bde hr
  refine nk_callV (ci := 6) (n := 1) (x := 42) (len := 3) (j' := 385) (q' := 1) (r := r1) (S' := S2) (L2 := [(0, nk_r l0), (1, nk_i 1)]) (rest := []) (st' := [nk_i r1]) (pc' := 90) mJ_388 (by decide +kernel) (by decide +kernel) rfl rfl t_l0 (Nat.le_of_ble_eq_true rfl) mJ_385 (Nat.le_of_ble_eq_true rfl) rfl (ja_X6_step_ok zs _ _ _ _ t_l0 h3) rfl ?_
  refine nk_icond (c := .eq) (off := 21) (len := 3) (t := 111) (pc' := 93) mJ_388 (by decide +kernel) (by decide +kernel) rfl (fun hc => ?_) (fun hc => ?_)
  · have hr := nk_ifp (c := r1 = 0) hc hr
    exact ja_X6_takesMembers_b111_ok zs hrec2 _ _ _ _ t_l0 hr
  · have hr := nk_ifn (c := r1 = 0) hc hr
    refine nk_p (i := .aload_n 0) (len := 1) (pc' := 94) mJ_388 (by decide +kernel) (ns_aload_n 0 rfl rfl) rfl ?_
    obtain ⟨r4, S5, h6, hr⟩ := nk_bde hr
    refine nk_callV (ci := 6) (n := 0) (x := 56) (len := 3) (j' := 386) (q' := 1) (r := r4) (S' := S5) (L2 := [(0, nk_r l0)]) (rest := []) (st' := [nk_i r4]) (pc' := 97) mJ_388 (by decide +kernel) (by decide +kernel) rfl rfl t_l0 (Nat.le_of_ble_eq_true rfl) mJ_386 (Nat.le_of_ble_eq_true rfl) rfl (ja_X6_takesHead_ok zs _ _ _ t_l0 h6) rfl ?_
    refine nk_icond (c := .eq) (off := 14) (len := 3) (t := 111) (pc' := 100) mJ_388 (by decide +kernel) (by decide +kernel) rfl (fun hc => ?_) (fun hc => ?_)
    · have hr := nk_ifp (c := r4 = 0) hc hr
      exact ja_X6_takesMembers_b111_ok zs hrec2 _ _ _ _ t_l0 hr
    · have hr := nk_ifn (c := r4 = 0) hc hr
      refine nk_p (i := .aload_n 0) (len := 1) (pc' := 101) mJ_388 (by decide +kernel) (ns_aload_n 0 rfl rfl) rfl ?_
      obtain ⟨r7, S8, h9, hr⟩ := nk_bde hr
      refine nk_callV (ci := 6) (n := 0) (x := 59) (len := 3) (j' := 387) (q' := 1) (r := r7) (S' := S8) (L2 := [(0, nk_r l0)]) (rest := []) (st' := [nk_i r7]) (pc' := 104) mJ_388 (by decide +kernel) (by decide +kernel) rfl rfl t_l0 (Nat.le_of_ble_eq_true rfl) mJ_387 (Nat.le_of_ble_eq_true rfl) rfl (ja_X6_takesLines_ok zs _ _ _ t_l0 h9) rfl ?_
      refine nk_icond (c := .eq) (off := 7) (len := 3) (t := 111) (pc' := 107) mJ_388 (by decide +kernel) (by decide +kernel) rfl (fun hc => ?_) (fun hc => ?_)
      · have hr := nk_ifp (c := r7 = 0) hc hr
        exact ja_X6_takesMembers_b111_ok zs hrec2 _ _ _ _ t_l0 hr
      · have hr := nk_ifn (c := r7 = 0) hc hr
        refine nk_p (i := .iconst 1) (len := 1) (pc' := 108) mJ_388 (by decide +kernel) (ns_iconst (c := 1) (by decide +kernel)) rfl ?_
        refine nk_p (i := .goto 4) (len := 3) (pc' := 112) mJ_388 (by decide +kernel) (ns_goto (by decide +kernel)) rfl ?_
        exact ja_X6_takesMembers_b112_ok zs hrec2 _ _ _ _ _ t_l0 hr
noncomputable def ja_X6_takesMembers_b69 (rec2 : Nat → Int → nk_S → Option (Int × nk_S)) (l0 : Nat) (l1 : Int) (s0 : Int) (S : nk_S) : Option (Int × nk_S) :=
  ja_X6_takesMembers_b113 rec2 l0 l1 s0 S
theorem ja_X6_takesMembers_b69_ok (zs : List Int32) {rec2 : Nat → Int → nk_S → Option (Int × nk_S)} (hrec2 : ∀ (l0 : Nat) (l1 : Int) (S : nk_S) (R : Int × nk_S), nk_cl ja_Tt l0 = some 6 → rec2 l0 l1 S = some R → nk_K ja_Tt mi_Γ (mi_ev zs) 1 388 2 [(0, nk_r l0), (1, nk_i l1)] [] S R) : ∀ (l0 : Nat) (l1 : Int) (s0 : Int) (S : nk_S) (R : Int × nk_S), nk_cl ja_Tt l0 = some 6 → ja_X6_takesMembers_b69 rec2 l0 l1 s0 S = some R → nk_K ja_Tt mi_Γ (mi_ev zs) 1 388 69 [(0, nk_r l0), (1, nk_i l1)] [nk_i s0] S R := by
  intro l0 l1 s0 S R t_l0 hr
  unfold ja_X6_takesMembers_b69 at hr
  refine nk_p (i := .istore_n 3) (len := 1) (pc' := 70) mJ_388 (by decide +kernel) (ns_istore_n (L' := [(3, nk_i s0), (0, nk_r l0), (1, nk_i l1)]) rfl rfl rfl (by decide +kernel)) rfl ?_
  refine nk_p (i := .goto 43) (len := 3) (pc' := 113) mJ_388 (by decide +kernel) (ns_goto (by decide +kernel)) rfl ?_
  refine nk_sub [1, 2, 0] (L' := [(0, nk_r l0), (1, nk_i l1), (3, nk_i s0)]) rfl ?_
  exact ja_X6_takesMembers_b113_ok zs hrec2 _ _ _ _ _ t_l0 hr
noncomputable def ja_X6_takesMembers_b68 (rec2 : Nat → Int → nk_S → Option (Int × nk_S)) (l0 : Nat) (l1 : Int) (S : nk_S) : Option (Int × nk_S) :=
  ja_X6_takesMembers_b69 rec2 l0 l1 0 S
theorem ja_X6_takesMembers_b68_ok (zs : List Int32) {rec2 : Nat → Int → nk_S → Option (Int × nk_S)} (hrec2 : ∀ (l0 : Nat) (l1 : Int) (S : nk_S) (R : Int × nk_S), nk_cl ja_Tt l0 = some 6 → rec2 l0 l1 S = some R → nk_K ja_Tt mi_Γ (mi_ev zs) 1 388 2 [(0, nk_r l0), (1, nk_i l1)] [] S R) : ∀ (l0 : Nat) (l1 : Int) (S : nk_S) (R : Int × nk_S), nk_cl ja_Tt l0 = some 6 → ja_X6_takesMembers_b68 rec2 l0 l1 S = some R → nk_K ja_Tt mi_Γ (mi_ev zs) 1 388 68 [(0, nk_r l0), (1, nk_i l1)] [] S R := by
  intro l0 l1 S R t_l0 hr
  unfold ja_X6_takesMembers_b68 at hr
  refine nk_p (i := .iconst 0) (len := 1) (pc' := 69) mJ_388 (by decide +kernel) (ns_iconst (c := 0) (by decide +kernel)) rfl ?_
  exact ja_X6_takesMembers_b69_ok zs hrec2 _ _ _ _ _ t_l0 hr
noncomputable def ja_X6_takesMembers_b2 (rec2 : Nat → Int → nk_S → Option (Int × nk_S)) (l0 : Nat) (l1 : Int) (S : nk_S) : Option (Int × nk_S) :=
  if 16000 ≤ l1 then
    some (0, S)
  else
    nk_bd (ja_X10_at (ja_c l0 0) (S.1 l0 2) S) fun r2 S3 =>
    if r2 = 58 then
      nk_bd (ja_X6_step l0 1 S3) fun r14 S15 =>
      if r14 = 0 ∨ r14 = 1 then
      some (r14, S15)
      else none
    else
      if r2 = 49 then
        nk_bd (ja_X6_step l0 1 S3) fun r5 S6 =>
        if r5 = 0 then
          ja_X6_takesMembers_b68 rec2 l0 l1 S6
        else
          nk_bd (ja_X6_takesShape l0 1 S6) fun r8 S9 =>
          if r8 = 0 then
            ja_X6_takesMembers_b68 rec2 l0 l1 S9
          else
            nk_bd (ja_X6_takesType l0 S9) fun r11 S12 =>
            if r11 = 0 then
              ja_X6_takesMembers_b68 rec2 l0 l1 S12
            else
              ja_X6_takesMembers_b69 rec2 l0 l1 1 S12
      else
        if r2 = 50 then
          ja_X6_takesMembers_b85 rec2 l0 l1 S3
        else
          if r2 = 51 then
            ja_X6_takesMembers_b85 rec2 l0 l1 S3
          else
            ja_X6_takesMembers_b113 rec2 l0 l1 0 S3
theorem ja_X6_takesMembers_b2_ok (zs : List Int32) {rec2 : Nat → Int → nk_S → Option (Int × nk_S)} (hrec2 : ∀ (l0 : Nat) (l1 : Int) (S : nk_S) (R : Int × nk_S), nk_cl ja_Tt l0 = some 6 → rec2 l0 l1 S = some R → nk_K ja_Tt mi_Γ (mi_ev zs) 1 388 2 [(0, nk_r l0), (1, nk_i l1)] [] S R) : ∀ (l0 : Nat) (l1 : Int) (S : nk_S) (R : Int × nk_S), nk_cl ja_Tt l0 = some 6 → ja_X6_takesMembers_b2 rec2 l0 l1 S = some R → nk_K ja_Tt mi_Γ (mi_ev zs) 1 388 2 [(0, nk_r l0), (1, nk_i l1)] [] S R := by
  intro l0 l1 S R t_l0 hr
  unfold ja_X6_takesMembers_b2 at hr
  refine nk_p (i := .iload_n 1) (len := 1) (pc' := 3) mJ_388 (by decide +kernel) (ns_iload_n 1 rfl rfl) rfl ?_
  refine nk_p (i := .sipush 16000) (len := 3) (pc' := 6) mJ_388 (by decide +kernel) (ns_sipush (c := 16000) (by decide +kernel)) rfl ?_
  refine nk_icmp (c := .ge) (off := 119) (len := 3) (t := 125) (pc' := 9) mJ_388 (by decide +kernel) (by decide +kernel) rfl (fun hc => ?_) (fun hc => ?_)
  · have hr := nk_ifp (c := 16000 ≤ l1) hc hr
    refine nk_p (i := .iconst 0) (len := 1) (pc' := 126) mJ_388 (by decide +kernel) (ns_iconst (c := 0) (by decide +kernel)) rfl ?_
    cases hr
    exact nk_iret (ty := .boolean) (len := 1) mJ_388 (by decide +kernel) rfl (nk_nar_z (by decide))
  · have hr := nk_ifn (c := 16000 ≤ l1) hc hr
    refine nk_p (i := .aload_n 0) (len := 1) (pc' := 10) mJ_388 (by decide +kernel) (ns_aload_n 0 rfl rfl) rfl ?_
    refine nk_getC (f := (2, 10, 0)) (x := 9) (len := 3) (ci := 6) (k := 0) (pc' := 13) ja_okT mJ_388 (by decide +kernel) (by decide +kernel) (by decide +kernel) (by decide) t_l0 rfl ?_
    have t1 : nk_cl ja_Tt (ja_c l0 0) = some 10 := nk_tc (y := 0) ja_okT t_l0 (by decide +kernel)
    refine nk_p (i := .aload_n 0) (len := 1) (pc' := 14) mJ_388 (by decide +kernel) (ns_aload_n 0 rfl rfl) rfl ?_
    refine nk_getI (y := (0, 0)) (x := 19) (len := 3) (ci := 6) (k := 2) (pc' := 17) ja_okT mJ_388 (by decide +kernel) (by decide +kernel) (by decide +kernel) t_l0 rfl ?_
    obtain ⟨r2, S3, h4, hr⟩ := nk_bde hr
    refine nk_callV (ci := 10) (n := 1) (x := 39) (len := 3) (j' := 32) (q' := 1) (r := r2) (S' := S3) (L2 := [(0, nk_r (ja_c l0 0)), (1, nk_i (S.1 l0 2))]) (rest := []) (st' := [nk_i r2]) (pc' := 20) mJ_388 (by decide +kernel) (by decide +kernel) rfl rfl t1 (Nat.le_of_ble_eq_true rfl) mJ_32 (Nat.le_of_ble_eq_true rfl) rfl (ja_X10_at_ok zs _ _ _ _ t1 h4) rfl ?_
    refine nk_p (i := .istore_n 2) (len := 1) (pc' := 21) mJ_388 (by decide +kernel) (ns_istore_n (L' := [(2, nk_i r2), (0, nk_r l0), (1, nk_i l1)]) rfl rfl rfl (by decide +kernel)) rfl ?_
    refine nk_p (i := .iload_n 2) (len := 1) (pc' := 22) mJ_388 (by decide +kernel) (ns_iload_n 0 rfl rfl) rfl ?_
    refine nk_p (i := .bipush 58) (len := 2) (pc' := 24) mJ_388 (by decide +kernel) (ns_bipush (c := 58) (by decide +kernel)) rfl ?_
    refine nk_icmp (c := .ne) (off := 9) (len := 3) (t := 33) (pc' := 27) mJ_388 (by decide +kernel) (by decide +kernel) rfl (fun hc => ?_) (fun hc => ?_)
    · have hr := nk_ifn (c := r2 = 58) hc hr
      refine nk_p (i := .iconst 0) (len := 1) (pc' := 34) mJ_388 (by decide +kernel) (ns_iconst (c := 0) (by decide +kernel)) rfl ?_
      refine nk_p (i := .istore_n 3) (len := 1) (pc' := 35) mJ_388 (by decide +kernel) (ns_istore_n (L' := [(3, nk_i 0), (2, nk_i r2), (0, nk_r l0), (1, nk_i l1)]) rfl rfl rfl (by decide +kernel)) rfl ?_
      refine nk_p (i := .iload_n 2) (len := 1) (pc' := 36) mJ_388 (by decide +kernel) (ns_iload_n 1 rfl rfl) rfl ?_
      refine nk_p (i := .bipush 49) (len := 2) (pc' := 38) mJ_388 (by decide +kernel) (ns_bipush (c := 49) (by decide +kernel)) rfl ?_
      refine nk_icmp (c := .ne) (off := 35) (len := 3) (t := 73) (pc' := 41) mJ_388 (by decide +kernel) (by decide +kernel) rfl (fun hc => ?_) (fun hc => ?_)
      · have hr := nk_ifn (c := r2 = 49) hc hr
        refine nk_p (i := .iload_n 2) (len := 1) (pc' := 74) mJ_388 (by decide +kernel) (ns_iload_n 1 rfl rfl) rfl ?_
        refine nk_p (i := .bipush 50) (len := 2) (pc' := 76) mJ_388 (by decide +kernel) (ns_bipush (c := 50) (by decide +kernel)) rfl ?_
        refine nk_icmp (c := .eq) (off := 9) (len := 3) (t := 85) (pc' := 79) mJ_388 (by decide +kernel) (by decide +kernel) rfl (fun hc => ?_) (fun hc => ?_)
        · have hr := nk_ifp (c := r2 = 50) hc hr
          refine nk_sub [2, 3] (L' := [(0, nk_r l0), (1, nk_i l1)]) rfl ?_
          exact ja_X6_takesMembers_b85_ok zs hrec2 _ _ _ _ t_l0 hr
        · have hr := nk_ifn (c := r2 = 50) hc hr
          refine nk_p (i := .iload_n 2) (len := 1) (pc' := 80) mJ_388 (by decide +kernel) (ns_iload_n 1 rfl rfl) rfl ?_
          refine nk_p (i := .bipush 51) (len := 2) (pc' := 82) mJ_388 (by decide +kernel) (ns_bipush (c := 51) (by decide +kernel)) rfl ?_
          refine nk_icmp (c := .ne) (off := 31) (len := 3) (t := 113) (pc' := 85) mJ_388 (by decide +kernel) (by decide +kernel) rfl (fun hc => ?_) (fun hc => ?_)
          · have hr := nk_ifn (c := r2 = 51) hc hr
            refine nk_sub [2, 3, 0] (L' := [(0, nk_r l0), (1, nk_i l1), (3, nk_i 0)]) rfl ?_
            exact ja_X6_takesMembers_b113_ok zs hrec2 _ _ _ _ _ t_l0 hr
          · have hr := nk_ifp (c := r2 = 51) (Decidable.of_not_not hc) hr
            refine nk_sub [2, 3] (L' := [(0, nk_r l0), (1, nk_i l1)]) rfl ?_
            exact ja_X6_takesMembers_b85_ok zs hrec2 _ _ _ _ t_l0 hr
      · have hr := nk_ifp (c := r2 = 49) (Decidable.of_not_not hc) hr
        refine nk_p (i := .aload_n 0) (len := 1) (pc' := 42) mJ_388 (by decide +kernel) (ns_aload_n 2 rfl rfl) rfl ?_
        refine nk_p (i := .iconst 1) (len := 1) (pc' := 43) mJ_388 (by decide +kernel) (ns_iconst (c := 1) (by decide +kernel)) rfl ?_
        obtain ⟨r5, S6, h7, hr⟩ := nk_bde hr
        refine nk_callV (ci := 6) (n := 1) (x := 42) (len := 3) (j' := 385) (q' := 1) (r := r5) (S' := S6) (L2 := [(0, nk_r l0), (1, nk_i 1)]) (rest := []) (st' := [nk_i r5]) (pc' := 46) mJ_388 (by decide +kernel) (by decide +kernel) rfl rfl t_l0 (Nat.le_of_ble_eq_true rfl) mJ_385 (Nat.le_of_ble_eq_true rfl) rfl (ja_X6_step_ok zs _ _ _ _ t_l0 h7) rfl ?_
        refine nk_icond (c := .eq) (off := 22) (len := 3) (t := 68) (pc' := 49) mJ_388 (by decide +kernel) (by decide +kernel) rfl (fun hc => ?_) (fun hc => ?_)
        · have hr := nk_ifp (c := r5 = 0) hc hr
          refine nk_sub [2, 3] (L' := [(0, nk_r l0), (1, nk_i l1)]) rfl ?_
          exact ja_X6_takesMembers_b68_ok zs hrec2 _ _ _ _ t_l0 hr
        · have hr := nk_ifn (c := r5 = 0) hc hr
          refine nk_p (i := .aload_n 0) (len := 1) (pc' := 50) mJ_388 (by decide +kernel) (ns_aload_n 2 rfl rfl) rfl ?_
          refine nk_p (i := .iconst 1) (len := 1) (pc' := 51) mJ_388 (by decide +kernel) (ns_iconst (c := 1) (by decide +kernel)) rfl ?_
          obtain ⟨r8, S9, h10, hr⟩ := nk_bde hr
          refine nk_callV (ci := 6) (n := 1) (x := 32) (len := 3) (j' := 390) (q' := 1) (r := r8) (S' := S9) (L2 := [(0, nk_r l0), (1, nk_i 1)]) (rest := []) (st' := [nk_i r8]) (pc' := 54) mJ_388 (by decide +kernel) (by decide +kernel) rfl rfl t_l0 (Nat.le_of_ble_eq_true rfl) mJ_390 (Nat.le_of_ble_eq_true rfl) rfl (ja_X6_takesShape_ok zs _ _ _ _ t_l0 h10) rfl ?_
          refine nk_icond (c := .eq) (off := 14) (len := 3) (t := 68) (pc' := 57) mJ_388 (by decide +kernel) (by decide +kernel) rfl (fun hc => ?_) (fun hc => ?_)
          · have hr := nk_ifp (c := r8 = 0) hc hr
            refine nk_sub [2, 3] (L' := [(0, nk_r l0), (1, nk_i l1)]) rfl ?_
            exact ja_X6_takesMembers_b68_ok zs hrec2 _ _ _ _ t_l0 hr
          · have hr := nk_ifn (c := r8 = 0) hc hr
            refine nk_p (i := .aload_n 0) (len := 1) (pc' := 58) mJ_388 (by decide +kernel) (ns_aload_n 2 rfl rfl) rfl ?_
            obtain ⟨r11, S12, h13, hr⟩ := nk_bde hr
            refine nk_callV (ci := 6) (n := 0) (x := 53) (len := 3) (j' := 391) (q' := 1) (r := r11) (S' := S12) (L2 := [(0, nk_r l0)]) (rest := []) (st' := [nk_i r11]) (pc' := 61) mJ_388 (by decide +kernel) (by decide +kernel) rfl rfl t_l0 (Nat.le_of_ble_eq_true rfl) mJ_391 (Nat.le_of_ble_eq_true rfl) rfl (ja_X6_takesType_ok zs _ _ _ t_l0 h13) rfl ?_
            refine nk_icond (c := .eq) (off := 7) (len := 3) (t := 68) (pc' := 64) mJ_388 (by decide +kernel) (by decide +kernel) rfl (fun hc => ?_) (fun hc => ?_)
            · have hr := nk_ifp (c := r11 = 0) hc hr
              refine nk_sub [2, 3] (L' := [(0, nk_r l0), (1, nk_i l1)]) rfl ?_
              exact ja_X6_takesMembers_b68_ok zs hrec2 _ _ _ _ t_l0 hr
            · have hr := nk_ifn (c := r11 = 0) hc hr
              refine nk_p (i := .iconst 1) (len := 1) (pc' := 65) mJ_388 (by decide +kernel) (ns_iconst (c := 1) (by decide +kernel)) rfl ?_
              refine nk_p (i := .goto 4) (len := 3) (pc' := 69) mJ_388 (by decide +kernel) (ns_goto (by decide +kernel)) rfl ?_
              refine nk_sub [2, 3] (L' := [(0, nk_r l0), (1, nk_i l1)]) rfl ?_
              exact ja_X6_takesMembers_b69_ok zs hrec2 _ _ _ _ _ t_l0 hr
    · have hr := nk_ifp (c := r2 = 58) (Decidable.of_not_not hc) hr
      refine nk_p (i := .aload_n 0) (len := 1) (pc' := 28) mJ_388 (by decide +kernel) (ns_aload_n 1 rfl rfl) rfl ?_
      refine nk_p (i := .iconst 1) (len := 1) (pc' := 29) mJ_388 (by decide +kernel) (ns_iconst (c := 1) (by decide +kernel)) rfl ?_
      obtain ⟨r14, S15, h16, hr⟩ := nk_bde hr
      refine nk_callV (ci := 6) (n := 1) (x := 42) (len := 3) (j' := 385) (q' := 1) (r := r14) (S' := S15) (L2 := [(0, nk_r l0), (1, nk_i 1)]) (rest := []) (st' := [nk_i r14]) (pc' := 32) mJ_388 (by decide +kernel) (by decide +kernel) rfl rfl t_l0 (Nat.le_of_ble_eq_true rfl) mJ_385 (Nat.le_of_ble_eq_true rfl) rfl (ja_X6_step_ok zs _ _ _ _ t_l0 h16) rfl ?_
      obtain ⟨h17, hr⟩ := nk_cke hr
      cases hr
      exact nk_iret (ty := .boolean) (len := 1) mJ_388 (by decide +kernel) rfl (nk_nar_z h17)
noncomputable def ja_X6_takesMembers_L2 : Nat → Nat → Int → nk_S → Option (Int × nk_S)
  | 0, _, _, _ => none
  | n + 1, l0, l1, S => ja_X6_takesMembers_b2 (ja_X6_takesMembers_L2 n) l0 l1 S
theorem ja_X6_takesMembers_L2_ok (zs : List Int32) : ∀ n : Nat, ∀ (l0 : Nat) (l1 : Int) (S : nk_S) (R : Int × nk_S), nk_cl ja_Tt l0 = some 6 → ja_X6_takesMembers_L2 n l0 l1 S = some R → nk_K ja_Tt mi_Γ (mi_ev zs) 1 388 2 [(0, nk_r l0), (1, nk_i l1)] [] S R := by
  intro n
  induction n with
  | zero => intro _ _ _ _ _ hr; cases hr
  | succ n ih => intro l0 l1 S R t_l0 hr; exact ja_X6_takesMembers_b2_ok zs ih l0 l1 S R t_l0 hr
noncomputable def ja_X6_takesMembers (l0 : Nat) (S : nk_S) : Option (Int × nk_S) :=
  ja_X6_takesMembers_L2 nk_big l0 0 S
theorem ja_X6_takesMembers_ok (zs : List Int32) : ∀ (l0 : Nat) (S : nk_S) (R : Int × nk_S), nk_cl ja_Tt l0 = some 6 → ja_X6_takesMembers l0 S = some R → nk_K ja_Tt mi_Γ (mi_ev zs) 1 388 0 [(0, nk_r l0)] [] S R := by
  intro l0 S R t_l0 hr
  unfold ja_X6_takesMembers at hr
  refine nk_p (i := .iconst 0) (len := 1) (pc' := 1) mJ_388 (by decide +kernel) (ns_iconst (c := 0) (by decide +kernel)) rfl ?_
  refine nk_p (i := .istore_n 1) (len := 1) (pc' := 2) mJ_388 (by decide +kernel) (ns_istore_n (L' := [(1, nk_i 0), (0, nk_r l0)]) rfl rfl rfl (by decide +kernel)) rfl ?_
  refine nk_sub [1, 0] (L' := [(0, nk_r l0), (1, nk_i 0)]) rfl ?_
  exact ja_X6_takesMembers_L2_ok zs nk_big _ _ _ _ t_l0 hr
/-! SafeCode$Reader checkForm ()I -/
noncomputable def ja_X6_checkForm_b96 (l0 : Nat) (l1 : Int) (S : nk_S) : Option (Int × nk_S) :=
  if l1 = 0 then
    some ((S.1 l0 2), S)
  else
    some ((-1), S)
theorem ja_X6_checkForm_b96_ok (zs : List Int32) : ∀ (l0 : Nat) (l1 : Int) (S : nk_S) (R : Int × nk_S), nk_cl ja_Tt l0 = some 6 → ja_X6_checkForm_b96 l0 l1 S = some R → nk_K ja_Tt mi_Γ (mi_ev zs) 1 373 96 [(0, nk_r l0), (1, nk_i l1)] [] S R := by
  intro l0 l1 S R t_l0 hr
  unfold ja_X6_checkForm_b96 at hr
  refine nk_p (i := .iload_n 1) (len := 1) (pc' := 97) mJ_373 (by decide +kernel) (ns_iload_n 1 rfl rfl) rfl ?_
  refine nk_icond (c := .eq) (off := 7) (len := 3) (t := 104) (pc' := 100) mJ_373 (by decide +kernel) (by decide +kernel) rfl (fun hc => ?_) (fun hc => ?_)
  · have hr := nk_ifp (c := l1 = 0) hc hr
    refine nk_p (i := .aload_n 0) (len := 1) (pc' := 105) mJ_373 (by decide +kernel) (ns_aload_n 0 rfl rfl) rfl ?_
    refine nk_getI (y := (0, 0)) (x := 19) (len := 3) (ci := 6) (k := 2) (pc' := 108) ja_okT mJ_373 (by decide +kernel) (by decide +kernel) (by decide +kernel) t_l0 rfl ?_
    cases hr
    exact nk_iret (ty := .int) (len := 1) mJ_373 (by decide +kernel) rfl (nk_nar_i _)
  · have hr := nk_ifn (c := l1 = 0) hc hr
    refine nk_p (i := .iconst (-1)) (len := 1) (pc' := 101) mJ_373 (by decide +kernel) (ns_iconst (c := (-1)) (by decide +kernel)) rfl ?_
    refine nk_p (i := .goto 7) (len := 3) (pc' := 108) mJ_373 (by decide +kernel) (ns_goto (by decide +kernel)) rfl ?_
    cases hr
    exact nk_iret (ty := .int) (len := 1) mJ_373 (by decide +kernel) rfl (nk_nar_i _)
noncomputable def ja_X6_checkForm_b9 (rec9 : Nat → Int → Int → nk_S → Option (Int × nk_S)) (l0 : Nat) (l1 : Int) (l2 : Int) (S : nk_S) : Option (Int × nk_S) :=
  if 16000 ≤ l2 then
    ja_X6_checkForm_b96 l0 l1 S
  else
    if l1 = 0 then
      ja_X6_checkForm_b96 l0 l1 S
    else
      if (S.1 (ja_c l0 0) 4) ≤ (S.1 l0 2) then
        ja_X6_checkForm_b96 l0 l1 S
      else
        nk_bd (ja_X6_takesWord l0 47 S) fun r2 S3 =>
        if r2 = 0 then
          nk_lt (nk_w (l2 + 1)) fun v5 =>
          rec9 l0 0 v5 S3
        else
          nk_bd (ja_X6_takesShape l0 2 S3) fun r7 S8 =>
          if r7 = 0 then
            nk_lt (nk_w (l2 + 1)) fun v10 =>
            rec9 l0 0 v10 S8
          else
            nk_bd (ja_X6_takesWord l0 48 S8) fun r12 S13 =>
            if r12 = 0 then
              nk_lt (nk_w (l2 + 1)) fun v15 =>
              rec9 l0 0 v15 S13
            else
              nk_bd (ja_X6_takesShape l0 2 S13) fun r17 S18 =>
              if r17 = 0 then
                nk_lt (nk_w (l2 + 1)) fun v20 =>
                rec9 l0 0 v20 S18
              else
                nk_bd (ja_X6_takesWord l0 57 S18) fun r22 S23 =>
                if r22 = 0 then
                  nk_lt (nk_w (l2 + 1)) fun v25 =>
                  rec9 l0 0 v25 S23
                else
                  nk_bd (ja_X6_takesMembers l0 S23) fun r27 S28 =>
                  if r27 = 0 then
                    nk_lt (nk_w (l2 + 1)) fun v30 =>
                    rec9 l0 0 v30 S28
                  else
                    nk_lt (nk_w (l2 + 1)) fun v32 =>
                    rec9 l0 1 v32 S28
theorem ja_X6_checkForm_b9_ok (zs : List Int32) {rec9 : Nat → Int → Int → nk_S → Option (Int × nk_S)} (hrec9 : ∀ (l0 : Nat) (l1 : Int) (l2 : Int) (S : nk_S) (R : Int × nk_S), nk_cl ja_Tt l0 = some 6 → rec9 l0 l1 l2 S = some R → nk_K ja_Tt mi_Γ (mi_ev zs) 1 373 9 [(0, nk_r l0), (1, nk_i l1), (2, nk_i l2)] [] S R) : ∀ (l0 : Nat) (l1 : Int) (l2 : Int) (S : nk_S) (R : Int × nk_S), nk_cl ja_Tt l0 = some 6 → ja_X6_checkForm_b9 rec9 l0 l1 l2 S = some R → nk_K ja_Tt mi_Γ (mi_ev zs) 1 373 9 [(0, nk_r l0), (1, nk_i l1), (2, nk_i l2)] [] S R := by
  intro l0 l1 l2 S R t_l0 hr
  unfold ja_X6_checkForm_b9 at hr
  refine nk_p (i := .iload_n 2) (len := 1) (pc' := 10) mJ_373 (by decide +kernel) (ns_iload_n 2 rfl rfl) rfl ?_
  refine nk_p (i := .sipush 16000) (len := 3) (pc' := 13) mJ_373 (by decide +kernel) (ns_sipush (c := 16000) (by decide +kernel)) rfl ?_
  refine nk_icmp (c := .ge) (off := 83) (len := 3) (t := 96) (pc' := 16) mJ_373 (by decide +kernel) (by decide +kernel) rfl (fun hc => ?_) (fun hc => ?_)
  · have hr := nk_ifp (c := 16000 ≤ l2) hc hr
    refine nk_sub [0, 1] (L' := [(0, nk_r l0), (1, nk_i l1)]) rfl ?_
    exact ja_X6_checkForm_b96_ok zs _ _ _ _ t_l0 hr
  · have hr := nk_ifn (c := 16000 ≤ l2) hc hr
    refine nk_p (i := .iload_n 1) (len := 1) (pc' := 17) mJ_373 (by decide +kernel) (ns_iload_n 1 rfl rfl) rfl ?_
    refine nk_icond (c := .eq) (off := 79) (len := 3) (t := 96) (pc' := 20) mJ_373 (by decide +kernel) (by decide +kernel) rfl (fun hc => ?_) (fun hc => ?_)
    · have hr := nk_ifp (c := l1 = 0) hc hr
      refine nk_sub [0, 1] (L' := [(0, nk_r l0), (1, nk_i l1)]) rfl ?_
      exact ja_X6_checkForm_b96_ok zs _ _ _ _ t_l0 hr
    · have hr := nk_ifn (c := l1 = 0) hc hr
      refine nk_p (i := .aload_n 0) (len := 1) (pc' := 21) mJ_373 (by decide +kernel) (ns_aload_n 0 rfl rfl) rfl ?_
      refine nk_getI (y := (0, 0)) (x := 19) (len := 3) (ci := 6) (k := 2) (pc' := 24) ja_okT mJ_373 (by decide +kernel) (by decide +kernel) (by decide +kernel) t_l0 rfl ?_
      refine nk_p (i := .aload_n 0) (len := 1) (pc' := 25) mJ_373 (by decide +kernel) (ns_aload_n 0 rfl rfl) rfl ?_
      refine nk_getC (f := (2, 10, 0)) (x := 9) (len := 3) (ci := 6) (k := 0) (pc' := 28) ja_okT mJ_373 (by decide +kernel) (by decide +kernel) (by decide +kernel) (by decide) t_l0 rfl ?_
      have t1 : nk_cl ja_Tt (ja_c l0 0) = some 10 := nk_tc (y := 0) ja_okT t_l0 (by decide +kernel)
      refine nk_getI (y := (0, 0)) (x := 23) (len := 3) (ci := 10) (k := 4) (pc' := 31) ja_okT mJ_373 (by decide +kernel) (by decide +kernel) (by decide +kernel) t1 rfl ?_
      refine nk_icmp (c := .ge) (off := 65) (len := 3) (t := 96) (pc' := 34) mJ_373 (by decide +kernel) (by decide +kernel) rfl (fun hc => ?_) (fun hc => ?_)
      · have hr := nk_ifp (c := (S.1 (ja_c l0 0) 4) ≤ (S.1 l0 2)) hc hr
        refine nk_sub [0, 1] (L' := [(0, nk_r l0), (1, nk_i l1)]) rfl ?_
        exact ja_X6_checkForm_b96_ok zs _ _ _ _ t_l0 hr
      · have hr := nk_ifn (c := (S.1 (ja_c l0 0) 4) ≤ (S.1 l0 2)) hc hr
        refine nk_p (i := .aload_n 0) (len := 1) (pc' := 35) mJ_373 (by decide +kernel) (ns_aload_n 0 rfl rfl) rfl ?_
        refine nk_p (i := .bipush 47) (len := 2) (pc' := 37) mJ_373 (by decide +kernel) (ns_bipush (c := 47) (by decide +kernel)) rfl ?_
        obtain ⟨r2, S3, h4, hr⟩ := nk_bde hr
        refine nk_callV (ci := 6) (n := 1) (x := 28) (len := 3) (j' := 392) (q' := 1) (r := r2) (S' := S3) (L2 := [(0, nk_r l0), (1, nk_i 47)]) (rest := []) (st' := [nk_i r2]) (pc' := 40) mJ_373 (by decide +kernel) (by decide +kernel) rfl rfl t_l0 (Nat.le_of_ble_eq_true rfl) mJ_392 (Nat.le_of_ble_eq_true rfl) rfl (ja_X6_takesWord_ok zs _ _ _ _ t_l0 h4) rfl ?_
        refine nk_icond (c := .eq) (off := 48) (len := 3) (t := 88) (pc' := 43) mJ_373 (by decide +kernel) (by decide +kernel) rfl (fun hc => ?_) (fun hc => ?_)
        · have hr := nk_ifp (c := r2 = 0) hc hr
          refine nk_p (i := .iconst 0) (len := 1) (pc' := 89) mJ_373 (by decide +kernel) (ns_iconst (c := 0) (by decide +kernel)) rfl ?_
          refine nk_p (i := .istore_n 1) (len := 1) (pc' := 90) mJ_373 (by decide +kernel) (ns_istore_n (L' := [(1, nk_i 0), (0, nk_r l0), (2, nk_i l2)]) rfl rfl rfl (by decide +kernel)) rfl ?_
          obtain ⟨v5, h6, hr⟩ := nk_lte hr
          refine nk_p (i := .iinc 2 1) (len := 3) (pc' := 93) mJ_373 (by decide +kernel) (ns_iinc (c := 1) (L' := [(2, nk_i v5), (1, nk_i 0), (0, nk_r l0)]) 2 rfl (by decide +kernel) h6 rfl (by decide +kernel)) rfl ?_
          refine nk_p (i := .goto (-84)) (len := 3) (pc' := 9) mJ_373 (by decide +kernel) (ns_goto (by decide +kernel)) rfl ?_
          refine nk_sub [2, 1, 0] (L' := [(0, nk_r l0), (1, nk_i 0), (2, nk_i v5)]) rfl ?_
          exact hrec9 _ _ _ _ _ t_l0 hr
        · have hr := nk_ifn (c := r2 = 0) hc hr
          refine nk_p (i := .aload_n 0) (len := 1) (pc' := 44) mJ_373 (by decide +kernel) (ns_aload_n 0 rfl rfl) rfl ?_
          refine nk_p (i := .iconst 2) (len := 1) (pc' := 45) mJ_373 (by decide +kernel) (ns_iconst (c := 2) (by decide +kernel)) rfl ?_
          obtain ⟨r7, S8, h9, hr⟩ := nk_bde hr
          refine nk_callV (ci := 6) (n := 1) (x := 32) (len := 3) (j' := 390) (q' := 1) (r := r7) (S' := S8) (L2 := [(0, nk_r l0), (1, nk_i 2)]) (rest := []) (st' := [nk_i r7]) (pc' := 48) mJ_373 (by decide +kernel) (by decide +kernel) rfl rfl t_l0 (Nat.le_of_ble_eq_true rfl) mJ_390 (Nat.le_of_ble_eq_true rfl) rfl (ja_X6_takesShape_ok zs _ _ _ _ t_l0 h9) rfl ?_
          refine nk_icond (c := .eq) (off := 40) (len := 3) (t := 88) (pc' := 51) mJ_373 (by decide +kernel) (by decide +kernel) rfl (fun hc => ?_) (fun hc => ?_)
          · have hr := nk_ifp (c := r7 = 0) hc hr
            refine nk_p (i := .iconst 0) (len := 1) (pc' := 89) mJ_373 (by decide +kernel) (ns_iconst (c := 0) (by decide +kernel)) rfl ?_
            refine nk_p (i := .istore_n 1) (len := 1) (pc' := 90) mJ_373 (by decide +kernel) (ns_istore_n (L' := [(1, nk_i 0), (0, nk_r l0), (2, nk_i l2)]) rfl rfl rfl (by decide +kernel)) rfl ?_
            obtain ⟨v10, h11, hr⟩ := nk_lte hr
            refine nk_p (i := .iinc 2 1) (len := 3) (pc' := 93) mJ_373 (by decide +kernel) (ns_iinc (c := 1) (L' := [(2, nk_i v10), (1, nk_i 0), (0, nk_r l0)]) 2 rfl (by decide +kernel) h11 rfl (by decide +kernel)) rfl ?_
            refine nk_p (i := .goto (-84)) (len := 3) (pc' := 9) mJ_373 (by decide +kernel) (ns_goto (by decide +kernel)) rfl ?_
            refine nk_sub [2, 1, 0] (L' := [(0, nk_r l0), (1, nk_i 0), (2, nk_i v10)]) rfl ?_
            exact hrec9 _ _ _ _ _ t_l0 hr
          · have hr := nk_ifn (c := r7 = 0) hc hr
            refine nk_p (i := .aload_n 0) (len := 1) (pc' := 52) mJ_373 (by decide +kernel) (ns_aload_n 0 rfl rfl) rfl ?_
            refine nk_p (i := .bipush 48) (len := 2) (pc' := 54) mJ_373 (by decide +kernel) (ns_bipush (c := 48) (by decide +kernel)) rfl ?_
            obtain ⟨r12, S13, h14, hr⟩ := nk_bde hr
            refine nk_callV (ci := 6) (n := 1) (x := 28) (len := 3) (j' := 392) (q' := 1) (r := r12) (S' := S13) (L2 := [(0, nk_r l0), (1, nk_i 48)]) (rest := []) (st' := [nk_i r12]) (pc' := 57) mJ_373 (by decide +kernel) (by decide +kernel) rfl rfl t_l0 (Nat.le_of_ble_eq_true rfl) mJ_392 (Nat.le_of_ble_eq_true rfl) rfl (ja_X6_takesWord_ok zs _ _ _ _ t_l0 h14) rfl ?_
            refine nk_icond (c := .eq) (off := 31) (len := 3) (t := 88) (pc' := 60) mJ_373 (by decide +kernel) (by decide +kernel) rfl (fun hc => ?_) (fun hc => ?_)
            · have hr := nk_ifp (c := r12 = 0) hc hr
              refine nk_p (i := .iconst 0) (len := 1) (pc' := 89) mJ_373 (by decide +kernel) (ns_iconst (c := 0) (by decide +kernel)) rfl ?_
              refine nk_p (i := .istore_n 1) (len := 1) (pc' := 90) mJ_373 (by decide +kernel) (ns_istore_n (L' := [(1, nk_i 0), (0, nk_r l0), (2, nk_i l2)]) rfl rfl rfl (by decide +kernel)) rfl ?_
              obtain ⟨v15, h16, hr⟩ := nk_lte hr
              refine nk_p (i := .iinc 2 1) (len := 3) (pc' := 93) mJ_373 (by decide +kernel) (ns_iinc (c := 1) (L' := [(2, nk_i v15), (1, nk_i 0), (0, nk_r l0)]) 2 rfl (by decide +kernel) h16 rfl (by decide +kernel)) rfl ?_
              refine nk_p (i := .goto (-84)) (len := 3) (pc' := 9) mJ_373 (by decide +kernel) (ns_goto (by decide +kernel)) rfl ?_
              refine nk_sub [2, 1, 0] (L' := [(0, nk_r l0), (1, nk_i 0), (2, nk_i v15)]) rfl ?_
              exact hrec9 _ _ _ _ _ t_l0 hr
            · have hr := nk_ifn (c := r12 = 0) hc hr
              refine nk_p (i := .aload_n 0) (len := 1) (pc' := 61) mJ_373 (by decide +kernel) (ns_aload_n 0 rfl rfl) rfl ?_
              refine nk_p (i := .iconst 2) (len := 1) (pc' := 62) mJ_373 (by decide +kernel) (ns_iconst (c := 2) (by decide +kernel)) rfl ?_
              obtain ⟨r17, S18, h19, hr⟩ := nk_bde hr
              refine nk_callV (ci := 6) (n := 1) (x := 32) (len := 3) (j' := 390) (q' := 1) (r := r17) (S' := S18) (L2 := [(0, nk_r l0), (1, nk_i 2)]) (rest := []) (st' := [nk_i r17]) (pc' := 65) mJ_373 (by decide +kernel) (by decide +kernel) rfl rfl t_l0 (Nat.le_of_ble_eq_true rfl) mJ_390 (Nat.le_of_ble_eq_true rfl) rfl (ja_X6_takesShape_ok zs _ _ _ _ t_l0 h19) rfl ?_
              refine nk_icond (c := .eq) (off := 23) (len := 3) (t := 88) (pc' := 68) mJ_373 (by decide +kernel) (by decide +kernel) rfl (fun hc => ?_) (fun hc => ?_)
              · have hr := nk_ifp (c := r17 = 0) hc hr
                refine nk_p (i := .iconst 0) (len := 1) (pc' := 89) mJ_373 (by decide +kernel) (ns_iconst (c := 0) (by decide +kernel)) rfl ?_
                refine nk_p (i := .istore_n 1) (len := 1) (pc' := 90) mJ_373 (by decide +kernel) (ns_istore_n (L' := [(1, nk_i 0), (0, nk_r l0), (2, nk_i l2)]) rfl rfl rfl (by decide +kernel)) rfl ?_
                obtain ⟨v20, h21, hr⟩ := nk_lte hr
                refine nk_p (i := .iinc 2 1) (len := 3) (pc' := 93) mJ_373 (by decide +kernel) (ns_iinc (c := 1) (L' := [(2, nk_i v20), (1, nk_i 0), (0, nk_r l0)]) 2 rfl (by decide +kernel) h21 rfl (by decide +kernel)) rfl ?_
                refine nk_p (i := .goto (-84)) (len := 3) (pc' := 9) mJ_373 (by decide +kernel) (ns_goto (by decide +kernel)) rfl ?_
                refine nk_sub [2, 1, 0] (L' := [(0, nk_r l0), (1, nk_i 0), (2, nk_i v20)]) rfl ?_
                exact hrec9 _ _ _ _ _ t_l0 hr
              · have hr := nk_ifn (c := r17 = 0) hc hr
                refine nk_p (i := .aload_n 0) (len := 1) (pc' := 69) mJ_373 (by decide +kernel) (ns_aload_n 0 rfl rfl) rfl ?_
                refine nk_p (i := .bipush 57) (len := 2) (pc' := 71) mJ_373 (by decide +kernel) (ns_bipush (c := 57) (by decide +kernel)) rfl ?_
                obtain ⟨r22, S23, h24, hr⟩ := nk_bde hr
                refine nk_callV (ci := 6) (n := 1) (x := 28) (len := 3) (j' := 392) (q' := 1) (r := r22) (S' := S23) (L2 := [(0, nk_r l0), (1, nk_i 57)]) (rest := []) (st' := [nk_i r22]) (pc' := 74) mJ_373 (by decide +kernel) (by decide +kernel) rfl rfl t_l0 (Nat.le_of_ble_eq_true rfl) mJ_392 (Nat.le_of_ble_eq_true rfl) rfl (ja_X6_takesWord_ok zs _ _ _ _ t_l0 h24) rfl ?_
                refine nk_icond (c := .eq) (off := 14) (len := 3) (t := 88) (pc' := 77) mJ_373 (by decide +kernel) (by decide +kernel) rfl (fun hc => ?_) (fun hc => ?_)
                · have hr := nk_ifp (c := r22 = 0) hc hr
                  refine nk_p (i := .iconst 0) (len := 1) (pc' := 89) mJ_373 (by decide +kernel) (ns_iconst (c := 0) (by decide +kernel)) rfl ?_
                  refine nk_p (i := .istore_n 1) (len := 1) (pc' := 90) mJ_373 (by decide +kernel) (ns_istore_n (L' := [(1, nk_i 0), (0, nk_r l0), (2, nk_i l2)]) rfl rfl rfl (by decide +kernel)) rfl ?_
                  obtain ⟨v25, h26, hr⟩ := nk_lte hr
                  refine nk_p (i := .iinc 2 1) (len := 3) (pc' := 93) mJ_373 (by decide +kernel) (ns_iinc (c := 1) (L' := [(2, nk_i v25), (1, nk_i 0), (0, nk_r l0)]) 2 rfl (by decide +kernel) h26 rfl (by decide +kernel)) rfl ?_
                  refine nk_p (i := .goto (-84)) (len := 3) (pc' := 9) mJ_373 (by decide +kernel) (ns_goto (by decide +kernel)) rfl ?_
                  refine nk_sub [2, 1, 0] (L' := [(0, nk_r l0), (1, nk_i 0), (2, nk_i v25)]) rfl ?_
                  exact hrec9 _ _ _ _ _ t_l0 hr
                · have hr := nk_ifn (c := r22 = 0) hc hr
                  refine nk_p (i := .aload_n 0) (len := 1) (pc' := 78) mJ_373 (by decide +kernel) (ns_aload_n 0 rfl rfl) rfl ?_
                  obtain ⟨r27, S28, h29, hr⟩ := nk_bde hr
                  refine nk_callV (ci := 6) (n := 0) (x := 35) (len := 3) (j' := 388) (q' := 1) (r := r27) (S' := S28) (L2 := [(0, nk_r l0)]) (rest := []) (st' := [nk_i r27]) (pc' := 81) mJ_373 (by decide +kernel) (by decide +kernel) rfl rfl t_l0 (Nat.le_of_ble_eq_true rfl) mJ_388 (Nat.le_of_ble_eq_true rfl) rfl (ja_X6_takesMembers_ok zs _ _ _ t_l0 h29) rfl ?_
                  refine nk_icond (c := .eq) (off := 7) (len := 3) (t := 88) (pc' := 84) mJ_373 (by decide +kernel) (by decide +kernel) rfl (fun hc => ?_) (fun hc => ?_)
                  · have hr := nk_ifp (c := r27 = 0) hc hr
                    refine nk_p (i := .iconst 0) (len := 1) (pc' := 89) mJ_373 (by decide +kernel) (ns_iconst (c := 0) (by decide +kernel)) rfl ?_
                    refine nk_p (i := .istore_n 1) (len := 1) (pc' := 90) mJ_373 (by decide +kernel) (ns_istore_n (L' := [(1, nk_i 0), (0, nk_r l0), (2, nk_i l2)]) rfl rfl rfl (by decide +kernel)) rfl ?_
                    obtain ⟨v30, h31, hr⟩ := nk_lte hr
                    refine nk_p (i := .iinc 2 1) (len := 3) (pc' := 93) mJ_373 (by decide +kernel) (ns_iinc (c := 1) (L' := [(2, nk_i v30), (1, nk_i 0), (0, nk_r l0)]) 2 rfl (by decide +kernel) h31 rfl (by decide +kernel)) rfl ?_
                    refine nk_p (i := .goto (-84)) (len := 3) (pc' := 9) mJ_373 (by decide +kernel) (ns_goto (by decide +kernel)) rfl ?_
                    refine nk_sub [2, 1, 0] (L' := [(0, nk_r l0), (1, nk_i 0), (2, nk_i v30)]) rfl ?_
                    exact hrec9 _ _ _ _ _ t_l0 hr
                  · have hr := nk_ifn (c := r27 = 0) hc hr
                    refine nk_p (i := .iconst 1) (len := 1) (pc' := 85) mJ_373 (by decide +kernel) (ns_iconst (c := 1) (by decide +kernel)) rfl ?_
                    refine nk_p (i := .goto 4) (len := 3) (pc' := 89) mJ_373 (by decide +kernel) (ns_goto (by decide +kernel)) rfl ?_
                    refine nk_p (i := .istore_n 1) (len := 1) (pc' := 90) mJ_373 (by decide +kernel) (ns_istore_n (L' := [(1, nk_i 1), (0, nk_r l0), (2, nk_i l2)]) rfl rfl rfl (by decide +kernel)) rfl ?_
                    obtain ⟨v32, h33, hr⟩ := nk_lte hr
                    refine nk_p (i := .iinc 2 1) (len := 3) (pc' := 93) mJ_373 (by decide +kernel) (ns_iinc (c := 1) (L' := [(2, nk_i v32), (1, nk_i 1), (0, nk_r l0)]) 2 rfl (by decide +kernel) h33 rfl (by decide +kernel)) rfl ?_
                    refine nk_p (i := .goto (-84)) (len := 3) (pc' := 9) mJ_373 (by decide +kernel) (ns_goto (by decide +kernel)) rfl ?_
                    refine nk_sub [2, 1, 0] (L' := [(0, nk_r l0), (1, nk_i 1), (2, nk_i v32)]) rfl ?_
                    exact hrec9 _ _ _ _ _ t_l0 hr
noncomputable def ja_X6_checkForm_L9 : Nat → Nat → Int → Int → nk_S → Option (Int × nk_S)
  | 0, _, _, _, _ => none
  | n + 1, l0, l1, l2, S => ja_X6_checkForm_b9 (ja_X6_checkForm_L9 n) l0 l1 l2 S
theorem ja_X6_checkForm_L9_ok (zs : List Int32) : ∀ n : Nat, ∀ (l0 : Nat) (l1 : Int) (l2 : Int) (S : nk_S) (R : Int × nk_S), nk_cl ja_Tt l0 = some 6 → ja_X6_checkForm_L9 n l0 l1 l2 S = some R → nk_K ja_Tt mi_Γ (mi_ev zs) 1 373 9 [(0, nk_r l0), (1, nk_i l1), (2, nk_i l2)] [] S R := by
  intro n
  induction n with
  | zero => intro _ _ _ _ _ _ hr; cases hr
  | succ n ih => intro l0 l1 l2 S R t_l0 hr; exact ja_X6_checkForm_b9_ok zs ih l0 l1 l2 S R t_l0 hr
noncomputable def ja_X6_checkForm (l0 : Nat) (S : nk_S) : Option (Int × nk_S) :=
  nk_lt (nk_wi S l0 2 0) fun S1 =>
  ja_X6_checkForm_L9 nk_big l0 1 0 S1
theorem ja_X6_checkForm_ok (zs : List Int32) : ∀ (l0 : Nat) (S : nk_S) (R : Int × nk_S), nk_cl ja_Tt l0 = some 6 → ja_X6_checkForm l0 S = some R → nk_K ja_Tt mi_Γ (mi_ev zs) 1 373 0 [(0, nk_r l0)] [] S R := by
  intro l0 S R t_l0 hr
  unfold ja_X6_checkForm at hr
  refine nk_p (i := .aload_n 0) (len := 1) (pc' := 1) mJ_373 (by decide +kernel) (ns_aload_n 0 rfl rfl) rfl ?_
  refine nk_p (i := .iconst 0) (len := 1) (pc' := 2) mJ_373 (by decide +kernel) (ns_iconst (c := 0) (by decide +kernel)) rfl ?_
  obtain ⟨S1, h2, hr⟩ := nk_lte hr
  refine nk_putI (y := (0, 0)) (ty := .int) (x := 19) (len := 3) (ci := 6) (k := 2) (pc' := 5) ja_okT mJ_373 (by decide +kernel) (by decide +kernel) (by decide +kernel) t_l0 (Or.inl rfl) rfl h2 ?_
  refine nk_p (i := .iconst 1) (len := 1) (pc' := 6) mJ_373 (by decide +kernel) (ns_iconst (c := 1) (by decide +kernel)) rfl ?_
  refine nk_p (i := .istore_n 1) (len := 1) (pc' := 7) mJ_373 (by decide +kernel) (ns_istore_n (L' := [(1, nk_i 1), (0, nk_r l0)]) rfl rfl rfl (by decide +kernel)) rfl ?_
  refine nk_p (i := .iconst 0) (len := 1) (pc' := 8) mJ_373 (by decide +kernel) (ns_iconst (c := 0) (by decide +kernel)) rfl ?_
  refine nk_p (i := .istore_n 2) (len := 1) (pc' := 9) mJ_373 (by decide +kernel) (ns_istore_n (L' := [(2, nk_i 0), (1, nk_i 1), (0, nk_r l0)]) rfl rfl rfl (by decide +kernel)) rfl ?_
  refine nk_sub [2, 1, 0] (L' := [(0, nk_r l0), (1, nk_i 1), (2, nk_i 0)]) rfl ?_
  exact ja_X6_checkForm_L9_ok zs nk_big _ _ _ _ _ t_l0 hr
/-! SafeCode$Classes add (I)I -/
noncomputable def ja_X1_add (l0 : Nat) (l1 : Int) (S : nk_S) : Option (Int × nk_S) :=
  if (S.1 l0 0) < 32 then
    if 0 ≤ (S.1 l0 0) ∧ (S.1 l0 0) < 32 then
    nk_lt (nk_wi S (ja_c l0 1) (S.1 l0 0).toNat l1) fun S3 =>
    if 0 ≤ l1 ∧ l1 < 32 then
    if 0 ≤ (S3.1 l0 0) ∧ (S3.1 l0 0) < 32 then
    nk_lt (nk_wi S3 (ja_c l0 2) (S3.1 l0 0).toNat (nk_ior (S3.1 (ja_c l0 2) l1.toNat) (nk_ishl 1 (S3.1 l0 0)))) fun S8 =>
    nk_lt (nk_wi S8 l0 0 (nk_w ((S8.1 l0 0) + 1))) fun S10 =>
    some ((nk_w ((S10.1 l0 0) - 1)), S10)
    else none
    else none
    else none
  else
    some ((-1), S)
theorem ja_X1_add_ok (zs : List Int32) : ∀ (l0 : Nat) (l1 : Int) (S : nk_S) (R : Int × nk_S), nk_cl ja_Tt l0 = some 1 → ja_X1_add l0 l1 S = some R → nk_K ja_Tt mi_Γ (mi_ev zs) 1 247 0 [(0, nk_r l0), (1, nk_i l1)] [] S R := by
  intro l0 l1 S R t_l0 hr
  unfold ja_X1_add at hr
  refine nk_p (i := .aload_n 0) (len := 1) (pc' := 1) mJ_247 (by decide +kernel) (ns_aload_n 0 rfl rfl) rfl ?_
  refine nk_getI (y := (0, 0)) (x := 33) (len := 3) (ci := 1) (k := 0) (pc' := 4) ja_okT mJ_247 (by decide +kernel) (by decide +kernel) (by decide +kernel) t_l0 rfl ?_
  refine nk_p (i := .bipush 32) (len := 2) (pc' := 6) mJ_247 (by decide +kernel) (ns_bipush (c := 32) (by decide +kernel)) rfl ?_
  refine nk_icmp (c := .lt) (off := 5) (len := 3) (t := 11) (pc' := 9) mJ_247 (by decide +kernel) (by decide +kernel) rfl (fun hc => ?_) (fun hc => ?_)
  · have hr := nk_ifp (c := (S.1 l0 0) < 32) hc hr
    refine nk_p (i := .aload_n 0) (len := 1) (pc' := 12) mJ_247 (by decide +kernel) (ns_aload_n 0 rfl rfl) rfl ?_
    refine nk_getC (f := (4, 1, 32)) (x := 9) (len := 3) (ci := 1) (k := 1) (pc' := 15) ja_okT mJ_247 (by decide +kernel) (by decide +kernel) (by decide +kernel) (by decide) t_l0 rfl ?_
    have t1 : nk_ar ja_Tt (ja_c l0 1) = some (1, 32) := nk_ta ja_okT t_l0 (by decide +kernel)
    refine nk_p (i := .aload_n 0) (len := 1) (pc' := 16) mJ_247 (by decide +kernel) (ns_aload_n 0 rfl rfl) rfl ?_
    refine nk_getI (y := (0, 0)) (x := 33) (len := 3) (ci := 1) (k := 0) (pc' := 19) ja_okT mJ_247 (by decide +kernel) (by decide +kernel) (by decide +kernel) t_l0 rfl ?_
    refine nk_p (i := .iload_n 1) (len := 1) (pc' := 20) mJ_247 (by decide +kernel) (ns_iload_n 1 rfl rfl) rfl ?_
    obtain ⟨h2, hr⟩ := nk_cke hr
    obtain ⟨S3, h4, hr⟩ := nk_lte hr
    refine nk_iast (len := 1) (N := 32) (pc' := 21) mJ_247 (by decide +kernel) t1 h2.1 h2.2 rfl rfl h4 ?_
    refine nk_p (i := .aload_n 0) (len := 1) (pc' := 22) mJ_247 (by decide +kernel) (ns_aload_n 0 rfl rfl) rfl ?_
    refine nk_getC (f := (4, 1, 32)) (x := 15) (len := 3) (ci := 1) (k := 2) (pc' := 25) ja_okT mJ_247 (by decide +kernel) (by decide +kernel) (by decide +kernel) (by decide) t_l0 rfl ?_
    have t5 : nk_ar ja_Tt (ja_c l0 2) = some (1, 32) := nk_ta ja_okT t_l0 (by decide +kernel)
    refine nk_p (i := .aload_n 0) (len := 1) (pc' := 26) mJ_247 (by decide +kernel) (ns_aload_n 0 rfl rfl) rfl ?_
    refine nk_getI (y := (0, 0)) (x := 33) (len := 3) (ci := 1) (k := 0) (pc' := 29) ja_okT mJ_247 (by decide +kernel) (by decide +kernel) (by decide +kernel) t_l0 rfl ?_
    refine nk_p (i := .aload_n 0) (len := 1) (pc' := 30) mJ_247 (by decide +kernel) (ns_aload_n 0 rfl rfl) rfl ?_
    refine nk_getC (f := (4, 1, 32)) (x := 15) (len := 3) (ci := 1) (k := 2) (pc' := 33) ja_okT mJ_247 (by decide +kernel) (by decide +kernel) (by decide +kernel) (by decide) t_l0 rfl ?_
    refine nk_p (i := .iload_n 1) (len := 1) (pc' := 34) mJ_247 (by decide +kernel) (ns_iload_n 1 rfl rfl) rfl ?_
    obtain ⟨h6, hr⟩ := nk_cke hr
    refine nk_iald (len := 1) (N := 32) (pc' := 35) mJ_247 (by decide +kernel) t5 h6.1 h6.2 rfl rfl ?_
    refine nk_p (i := .iconst 1) (len := 1) (pc' := 36) mJ_247 (by decide +kernel) (ns_iconst (c := 1) (by decide +kernel)) rfl ?_
    refine nk_p (i := .aload_n 0) (len := 1) (pc' := 37) mJ_247 (by decide +kernel) (ns_aload_n 0 rfl rfl) rfl ?_
    refine nk_getI (y := (0, 0)) (x := 33) (len := 3) (ci := 1) (k := 0) (pc' := 40) ja_okT mJ_247 (by decide +kernel) (by decide +kernel) (by decide +kernel) t_l0 rfl ?_
    refine nk_p (i := .ishl) (len := 1) (pc' := 41) mJ_247 (by decide +kernel) ns_ishl rfl ?_
    refine nk_p (i := .ior) (len := 1) (pc' := 42) mJ_247 (by decide +kernel) ns_ior rfl ?_
    obtain ⟨h7, hr⟩ := nk_cke hr
    obtain ⟨S8, h9, hr⟩ := nk_lte hr
    refine nk_iast (len := 1) (N := 32) (pc' := 43) mJ_247 (by decide +kernel) t5 h7.1 h7.2 rfl rfl h9 ?_
    refine nk_p (i := .aload_n 0) (len := 1) (pc' := 44) mJ_247 (by decide +kernel) (ns_aload_n 0 rfl rfl) rfl ?_
    refine nk_p (i := .dup) (len := 1) (pc' := 45) mJ_247 (by decide +kernel) (ns_dup rfl) rfl ?_
    refine nk_getI (y := (0, 0)) (x := 33) (len := 3) (ci := 1) (k := 0) (pc' := 48) ja_okT mJ_247 (by decide +kernel) (by decide +kernel) (by decide +kernel) t_l0 rfl ?_
    refine nk_p (i := .iconst 1) (len := 1) (pc' := 49) mJ_247 (by decide +kernel) (ns_iconst (c := 1) (by decide +kernel)) rfl ?_
    refine nk_p (i := .iadd) (len := 1) (pc' := 50) mJ_247 (by decide +kernel) ns_iadd rfl ?_
    obtain ⟨S10, h11, hr⟩ := nk_lte hr
    refine nk_putI (y := (0, 0)) (ty := .int) (x := 33) (len := 3) (ci := 1) (k := 0) (pc' := 53) ja_okT mJ_247 (by decide +kernel) (by decide +kernel) (by decide +kernel) t_l0 (Or.inl rfl) rfl h11 ?_
    refine nk_p (i := .aload_n 0) (len := 1) (pc' := 54) mJ_247 (by decide +kernel) (ns_aload_n 0 rfl rfl) rfl ?_
    refine nk_getI (y := (0, 0)) (x := 33) (len := 3) (ci := 1) (k := 0) (pc' := 57) ja_okT mJ_247 (by decide +kernel) (by decide +kernel) (by decide +kernel) t_l0 rfl ?_
    refine nk_p (i := .iconst 1) (len := 1) (pc' := 58) mJ_247 (by decide +kernel) (ns_iconst (c := 1) (by decide +kernel)) rfl ?_
    refine nk_p (i := .isub) (len := 1) (pc' := 59) mJ_247 (by decide +kernel) ns_isub rfl ?_
    cases hr
    exact nk_iret (ty := .int) (len := 1) mJ_247 (by decide +kernel) rfl (nk_nar_i _)
  · have hr := nk_ifn (c := (S.1 l0 0) < 32) hc hr
    refine nk_p (i := .iconst (-1)) (len := 1) (pc' := 10) mJ_247 (by decide +kernel) (ns_iconst (c := (-1)) (by decide +kernel)) rfl ?_
    cases hr
    exact nk_iret (ty := .int) (len := 1) mJ_247 (by decide +kernel) rfl (nk_nar_i _)
/-! SafeCode$Classes clear ()V -/
noncomputable def ja_X1_clear_b40 (rec40 : Nat → Int → nk_S → Option (Int × nk_S)) (l0 : Nat) (l1 : Int) (S : nk_S) : Option (Int × nk_S) :=
  if 8 ≤ l1 then
    some (0, S)
  else
    nk_bd (ja_X1_add l0 1 S) fun r1 S2 =>
    nk_lt (nk_w (l1 + 1)) fun v4 =>
    rec40 l0 v4 S2
theorem ja_X1_clear_b40_ok (zs : List Int32) {rec40 : Nat → Int → nk_S → Option (Int × nk_S)} (hrec40 : ∀ (l0 : Nat) (l1 : Int) (S : nk_S) (R : Int × nk_S), nk_cl ja_Tt l0 = some 1 → rec40 l0 l1 S = some R → nk_K ja_Tt mi_Γ (mi_ev zs) 0 250 40 [(0, nk_r l0), (1, nk_i l1)] [] S R) : ∀ (l0 : Nat) (l1 : Int) (S : nk_S) (R : Int × nk_S), nk_cl ja_Tt l0 = some 1 → ja_X1_clear_b40 rec40 l0 l1 S = some R → nk_K ja_Tt mi_Γ (mi_ev zs) 0 250 40 [(0, nk_r l0), (1, nk_i l1)] [] S R := by
  intro l0 l1 S R t_l0 hr
  unfold ja_X1_clear_b40 at hr
  refine nk_p (i := .iload_n 1) (len := 1) (pc' := 41) mJ_250 (by decide +kernel) (ns_iload_n 1 rfl rfl) rfl ?_
  refine nk_p (i := .bipush 8) (len := 2) (pc' := 43) mJ_250 (by decide +kernel) (ns_bipush (c := 8) (by decide +kernel)) rfl ?_
  refine nk_icmp (c := .ge) (off := 15) (len := 3) (t := 58) (pc' := 46) mJ_250 (by decide +kernel) (by decide +kernel) rfl (fun hc => ?_) (fun hc => ?_)
  · have hr := nk_ifp (c := 8 ≤ l1) hc hr
    cases hr
    exact nk_vret (len := 1) mJ_250 (by decide +kernel) rfl
  · have hr := nk_ifn (c := 8 ≤ l1) hc hr
    refine nk_p (i := .aload_n 0) (len := 1) (pc' := 47) mJ_250 (by decide +kernel) (ns_aload_n 0 rfl rfl) rfl ?_
    refine nk_p (i := .iconst 1) (len := 1) (pc' := 48) mJ_250 (by decide +kernel) (ns_iconst (c := 1) (by decide +kernel)) rfl ?_
    obtain ⟨r1, S2, h3, hr⟩ := nk_bde hr
    refine nk_callV (ci := 1) (n := 1) (x := 46) (len := 3) (j' := 247) (q' := 1) (r := r1) (S' := S2) (L2 := [(0, nk_r l0), (1, nk_i 1)]) (rest := []) (st' := [nk_i r1]) (pc' := 51) mJ_250 (by decide +kernel) (by decide +kernel) rfl rfl t_l0 (Nat.le_of_ble_eq_true rfl) mJ_247 (Nat.le_of_ble_eq_true rfl) rfl (ja_X1_add_ok zs _ _ _ _ t_l0 h3) rfl ?_
    refine nk_p (i := .pop) (len := 1) (pc' := 52) mJ_250 (by decide +kernel) (ns_pop rfl) rfl ?_
    obtain ⟨v4, h5, hr⟩ := nk_lte hr
    refine nk_p (i := .iinc 1 1) (len := 3) (pc' := 55) mJ_250 (by decide +kernel) (ns_iinc (c := 1) (L' := [(1, nk_i v4), (0, nk_r l0)]) 1 rfl (by decide +kernel) h5 rfl (by decide +kernel)) rfl ?_
    refine nk_p (i := .goto (-15)) (len := 3) (pc' := 40) mJ_250 (by decide +kernel) (ns_goto (by decide +kernel)) rfl ?_
    refine nk_sub [1, 0] (L' := [(0, nk_r l0), (1, nk_i v4)]) rfl ?_
    exact hrec40 _ _ _ _ t_l0 hr
noncomputable def ja_X1_clear_L40 : Nat → Nat → Int → nk_S → Option (Int × nk_S)
  | 0, _, _, _ => none
  | n + 1, l0, l1, S => ja_X1_clear_b40 (ja_X1_clear_L40 n) l0 l1 S
theorem ja_X1_clear_L40_ok (zs : List Int32) : ∀ n : Nat, ∀ (l0 : Nat) (l1 : Int) (S : nk_S) (R : Int × nk_S), nk_cl ja_Tt l0 = some 1 → ja_X1_clear_L40 n l0 l1 S = some R → nk_K ja_Tt mi_Γ (mi_ev zs) 0 250 40 [(0, nk_r l0), (1, nk_i l1)] [] S R := by
  intro n
  induction n with
  | zero => intro _ _ _ _ _ hr; cases hr
  | succ n ih => intro l0 l1 S R t_l0 hr; exact ja_X1_clear_b40_ok zs ih l0 l1 S R t_l0 hr
noncomputable def ja_X1_clear (l0 : Nat) (S : nk_S) : Option (Int × nk_S) :=
  nk_lt (nk_wi S l0 0 1) fun S1 =>
  nk_lt (nk_wi S1 l0 4 0) fun S3 =>
  nk_lt (nk_wi S3 (ja_c l0 1) 0 (-1)) fun S6 =>
  nk_lt (nk_wi S6 (ja_c l0 2) 0 1) fun S9 =>
  nk_bd (ja_J7_fill_53178 (ja_c l0 3) 32 0 S9) fun r12 S13 =>
  nk_bd (ja_X1_add l0 0 S13) fun r15 S16 =>
  ja_X1_clear_L40 nk_big l0 2 S16
theorem ja_X1_clear_ok (zs : List Int32) : ∀ (l0 : Nat) (S : nk_S) (R : Int × nk_S), nk_cl ja_Tt l0 = some 1 → ja_X1_clear l0 S = some R → nk_K ja_Tt mi_Γ (mi_ev zs) 0 250 0 [(0, nk_r l0)] [] S R := by
  intro l0 S R t_l0 hr
  unfold ja_X1_clear at hr
  refine nk_p (i := .aload_n 0) (len := 1) (pc' := 1) mJ_250 (by decide +kernel) (ns_aload_n 0 rfl rfl) rfl ?_
  refine nk_p (i := .iconst 1) (len := 1) (pc' := 2) mJ_250 (by decide +kernel) (ns_iconst (c := 1) (by decide +kernel)) rfl ?_
  obtain ⟨S1, h2, hr⟩ := nk_lte hr
  refine nk_putI (y := (0, 0)) (ty := .int) (x := 33) (len := 3) (ci := 1) (k := 0) (pc' := 5) ja_okT mJ_250 (by decide +kernel) (by decide +kernel) (by decide +kernel) t_l0 (Or.inl rfl) rfl h2 ?_
  refine nk_p (i := .aload_n 0) (len := 1) (pc' := 6) mJ_250 (by decide +kernel) (ns_aload_n 0 rfl rfl) rfl ?_
  refine nk_p (i := .iconst 0) (len := 1) (pc' := 7) mJ_250 (by decide +kernel) (ns_iconst (c := 0) (by decide +kernel)) rfl ?_
  obtain ⟨S3, h4, hr⟩ := nk_lte hr
  refine nk_putI (y := (0, 0)) (ty := .int) (x := 37) (len := 3) (ci := 1) (k := 4) (pc' := 10) ja_okT mJ_250 (by decide +kernel) (by decide +kernel) (by decide +kernel) t_l0 (Or.inl rfl) rfl h4 ?_
  refine nk_p (i := .aload_n 0) (len := 1) (pc' := 11) mJ_250 (by decide +kernel) (ns_aload_n 0 rfl rfl) rfl ?_
  refine nk_getC (f := (4, 1, 32)) (x := 9) (len := 3) (ci := 1) (k := 1) (pc' := 14) ja_okT mJ_250 (by decide +kernel) (by decide +kernel) (by decide +kernel) (by decide) t_l0 rfl ?_
  have t5 : nk_ar ja_Tt (ja_c l0 1) = some (1, 32) := nk_ta ja_okT t_l0 (by decide +kernel)
  refine nk_p (i := .iconst 0) (len := 1) (pc' := 15) mJ_250 (by decide +kernel) (ns_iconst (c := 0) (by decide +kernel)) rfl ?_
  refine nk_p (i := .iconst (-1)) (len := 1) (pc' := 16) mJ_250 (by decide +kernel) (ns_iconst (c := (-1)) (by decide +kernel)) rfl ?_
  obtain ⟨S6, h7, hr⟩ := nk_lte hr
  refine nk_iast (len := 1) (N := 32) (pc' := 17) mJ_250 (by decide +kernel) t5 (by decide) (by decide) rfl rfl h7 ?_
  refine nk_p (i := .aload_n 0) (len := 1) (pc' := 18) mJ_250 (by decide +kernel) (ns_aload_n 0 rfl rfl) rfl ?_
  refine nk_getC (f := (4, 1, 32)) (x := 15) (len := 3) (ci := 1) (k := 2) (pc' := 21) ja_okT mJ_250 (by decide +kernel) (by decide +kernel) (by decide +kernel) (by decide) t_l0 rfl ?_
  have t8 : nk_ar ja_Tt (ja_c l0 2) = some (1, 32) := nk_ta ja_okT t_l0 (by decide +kernel)
  refine nk_p (i := .iconst 0) (len := 1) (pc' := 22) mJ_250 (by decide +kernel) (ns_iconst (c := 0) (by decide +kernel)) rfl ?_
  refine nk_p (i := .iconst 1) (len := 1) (pc' := 23) mJ_250 (by decide +kernel) (ns_iconst (c := 1) (by decide +kernel)) rfl ?_
  obtain ⟨S9, h10, hr⟩ := nk_lte hr
  refine nk_iast (len := 1) (N := 32) (pc' := 24) mJ_250 (by decide +kernel) t8 (by decide) (by decide) rfl rfl h10 ?_
  refine nk_p (i := .aload_n 0) (len := 1) (pc' := 25) mJ_250 (by decide +kernel) (ns_aload_n 0 rfl rfl) rfl ?_
  refine nk_getC (f := (4, 1, 32)) (x := 18) (len := 3) (ci := 1) (k := 3) (pc' := 28) ja_okT mJ_250 (by decide +kernel) (by decide +kernel) (by decide +kernel) (by decide) t_l0 rfl ?_
  have t11 : nk_ar ja_Tt (ja_c l0 3) = some (1, 32) := nk_ta ja_okT t_l0 (by decide +kernel)
  refine nk_p (i := .iconst 0) (len := 1) (pc' := 29) mJ_250 (by decide +kernel) (ns_iconst (c := 0) (by decide +kernel)) rfl ?_
  obtain ⟨r12, S13, h14, hr⟩ := nk_bde hr
  refine nk_callS (ci := 0) (n := 2) (x := 40) (len := 3) (j' := 13) (q' := 0) (r := r12) (S' := S13) (L2 := [(0, nk_r (ja_c l0 3)), (1, nk_i 0)]) (rest := []) (st' := []) (pc' := 32) mJ_250 (by decide +kernel) (by decide +kernel) (Nat.le_of_ble_eq_true rfl) rfl rfl (Nat.le_of_ble_eq_true rfl) mJ_13 (Nat.le_of_ble_eq_true rfl) ja_Tpos rfl (ja_J7_fill_53178_ok zs _ _ _ _ _ t11 h14) rfl ?_
  refine nk_p (i := .aload_n 0) (len := 1) (pc' := 33) mJ_250 (by decide +kernel) (ns_aload_n 0 rfl rfl) rfl ?_
  refine nk_p (i := .iconst 0) (len := 1) (pc' := 34) mJ_250 (by decide +kernel) (ns_iconst (c := 0) (by decide +kernel)) rfl ?_
  obtain ⟨r15, S16, h17, hr⟩ := nk_bde hr
  refine nk_callV (ci := 1) (n := 1) (x := 46) (len := 3) (j' := 247) (q' := 1) (r := r15) (S' := S16) (L2 := [(0, nk_r l0), (1, nk_i 0)]) (rest := []) (st' := [nk_i r15]) (pc' := 37) mJ_250 (by decide +kernel) (by decide +kernel) rfl rfl t_l0 (Nat.le_of_ble_eq_true rfl) mJ_247 (Nat.le_of_ble_eq_true rfl) rfl (ja_X1_add_ok zs _ _ _ _ t_l0 h17) rfl ?_
  refine nk_p (i := .pop) (len := 1) (pc' := 38) mJ_250 (by decide +kernel) (ns_pop rfl) rfl ?_
  refine nk_p (i := .iconst 2) (len := 1) (pc' := 39) mJ_250 (by decide +kernel) (ns_iconst (c := 2) (by decide +kernel)) rfl ?_
  refine nk_p (i := .istore_n 1) (len := 1) (pc' := 40) mJ_250 (by decide +kernel) (ns_istore_n (L' := [(1, nk_i 2), (0, nk_r l0)]) rfl rfl rfl (by decide +kernel)) rfl ?_
  refine nk_sub [1, 0] (L' := [(0, nk_r l0), (1, nk_i 2)]) rfl ?_
  exact ja_X1_clear_L40_ok zs nk_big _ _ _ _ t_l0 hr
/-! SafeCode$Ranges placeOf (I)I -/
noncomputable def ja_X5_placeOf_b7 (rec7 : Nat → Int → Int → Int → nk_S → Option (Int × nk_S)) (l0 : Nat) (l1 : Int) (l2 : Int) (l3 : Int) (S : nk_S) : Option (Int × nk_S) :=
  if l3 ≤ l2 then
    some (l2, S)
  else
    nk_lt (nk_iushr (nk_w (l2 + l3)) 1) fun v1 =>
    if 0 ≤ v1 ∧ v1 < 3079 then
    if l1 ≤ (S.1 (ja_c l0 1) v1.toNat) then
      rec7 l0 l1 l2 v1 S
    else
      nk_lt (nk_w (v1 + 1)) fun v5 =>
      rec7 l0 l1 v5 l3 S
    else none
theorem ja_X5_placeOf_b7_ok (zs : List Int32) {rec7 : Nat → Int → Int → Int → nk_S → Option (Int × nk_S)} (hrec7 : ∀ (l0 : Nat) (l1 : Int) (l2 : Int) (l3 : Int) (S : nk_S) (R : Int × nk_S), nk_cl ja_Tt l0 = some 5 → rec7 l0 l1 l2 l3 S = some R → nk_K ja_Tt mi_Γ (mi_ev zs) 1 366 7 [(0, nk_r l0), (1, nk_i l1), (2, nk_i l2), (3, nk_i l3)] [] S R) : ∀ (l0 : Nat) (l1 : Int) (l2 : Int) (l3 : Int) (S : nk_S) (R : Int × nk_S), nk_cl ja_Tt l0 = some 5 → ja_X5_placeOf_b7 rec7 l0 l1 l2 l3 S = some R → nk_K ja_Tt mi_Γ (mi_ev zs) 1 366 7 [(0, nk_r l0), (1, nk_i l1), (2, nk_i l2), (3, nk_i l3)] [] S R := by
  intro l0 l1 l2 l3 S R t_l0 hr
  unfold ja_X5_placeOf_b7 at hr
  refine nk_p (i := .iload_n 2) (len := 1) (pc' := 8) mJ_366 (by decide +kernel) (ns_iload_n 2 rfl rfl) rfl ?_
  refine nk_p (i := .iload_n 3) (len := 1) (pc' := 9) mJ_366 (by decide +kernel) (ns_iload_n 3 rfl rfl) rfl ?_
  refine nk_icmp (c := .ge) (off := 35) (len := 3) (t := 44) (pc' := 12) mJ_366 (by decide +kernel) (by decide +kernel) rfl (fun hc => ?_) (fun hc => ?_)
  · have hr := nk_ifp (c := l3 ≤ l2) hc hr
    refine nk_p (i := .iload_n 2) (len := 1) (pc' := 45) mJ_366 (by decide +kernel) (ns_iload_n 2 rfl rfl) rfl ?_
    cases hr
    exact nk_iret (ty := .int) (len := 1) mJ_366 (by decide +kernel) rfl (nk_nar_i _)
  · have hr := nk_ifn (c := l3 ≤ l2) hc hr
    refine nk_p (i := .iload_n 2) (len := 1) (pc' := 13) mJ_366 (by decide +kernel) (ns_iload_n 2 rfl rfl) rfl ?_
    refine nk_p (i := .iload_n 3) (len := 1) (pc' := 14) mJ_366 (by decide +kernel) (ns_iload_n 3 rfl rfl) rfl ?_
    refine nk_p (i := .iadd) (len := 1) (pc' := 15) mJ_366 (by decide +kernel) ns_iadd rfl ?_
    refine nk_p (i := .iconst 1) (len := 1) (pc' := 16) mJ_366 (by decide +kernel) (ns_iconst (c := 1) (by decide +kernel)) rfl ?_
    refine nk_p (i := .iushr) (len := 1) (pc' := 17) mJ_366 (by decide +kernel) ns_iushr rfl ?_
    obtain ⟨v1, h2, hr⟩ := nk_lte hr
    refine nk_p (i := .istore 4) (len := 2) (pc' := 19) mJ_366 (by decide +kernel) (ns_istore (L' := [(4, nk_i v1), (0, nk_r l0), (1, nk_i l1), (2, nk_i l2), (3, nk_i l3)]) h2 rfl (by decide +kernel)) rfl ?_
    refine nk_p (i := .aload_n 0) (len := 1) (pc' := 20) mJ_366 (by decide +kernel) (ns_aload_n 1 rfl rfl) rfl ?_
    refine nk_getC (f := (4, 1, 3079)) (x := 11) (len := 3) (ci := 5) (k := 1) (pc' := 23) ja_okT mJ_366 (by decide +kernel) (by decide +kernel) (by decide +kernel) (by decide) t_l0 rfl ?_
    have t3 : nk_ar ja_Tt (ja_c l0 1) = some (1, 3079) := nk_ta ja_okT t_l0 (by decide +kernel)
    refine nk_p (i := .iload 4) (len := 2) (pc' := 25) mJ_366 (by decide +kernel) (ns_iload 0 rfl) rfl ?_
    obtain ⟨h4, hr⟩ := nk_cke hr
    refine nk_iald (len := 1) (N := 3079) (pc' := 26) mJ_366 (by decide +kernel) t3 h4.1 h4.2 rfl rfl ?_
    refine nk_p (i := .iload_n 1) (len := 1) (pc' := 27) mJ_366 (by decide +kernel) (ns_iload_n 2 rfl rfl) rfl ?_
    refine nk_icmp (c := .ge) (off := 11) (len := 3) (t := 38) (pc' := 30) mJ_366 (by decide +kernel) (by decide +kernel) rfl (fun hc => ?_) (fun hc => ?_)
    · have hr := nk_ifp (c := l1 ≤ (S.1 (ja_c l0 1) v1.toNat)) hc hr
      refine nk_p (i := .iload 4) (len := 2) (pc' := 40) mJ_366 (by decide +kernel) (ns_iload 0 rfl) rfl ?_
      refine nk_p (i := .istore_n 3) (len := 1) (pc' := 41) mJ_366 (by decide +kernel) (ns_istore_n (L' := [(3, nk_i v1), (4, nk_i v1), (0, nk_r l0), (1, nk_i l1), (2, nk_i l2)]) rfl rfl rfl (by decide +kernel)) rfl ?_
      refine nk_p (i := .goto (-34)) (len := 3) (pc' := 7) mJ_366 (by decide +kernel) (ns_goto (by decide +kernel)) rfl ?_
      refine nk_sub [2, 3, 4, 0] (L' := [(0, nk_r l0), (1, nk_i l1), (2, nk_i l2), (3, nk_i v1)]) rfl ?_
      exact hrec7 _ _ _ _ _ _ t_l0 hr
    · have hr := nk_ifn (c := l1 ≤ (S.1 (ja_c l0 1) v1.toNat)) hc hr
      refine nk_p (i := .iload 4) (len := 2) (pc' := 32) mJ_366 (by decide +kernel) (ns_iload 0 rfl) rfl ?_
      refine nk_p (i := .iconst 1) (len := 1) (pc' := 33) mJ_366 (by decide +kernel) (ns_iconst (c := 1) (by decide +kernel)) rfl ?_
      refine nk_p (i := .iadd) (len := 1) (pc' := 34) mJ_366 (by decide +kernel) ns_iadd rfl ?_
      obtain ⟨v5, h6, hr⟩ := nk_lte hr
      refine nk_p (i := .istore_n 2) (len := 1) (pc' := 35) mJ_366 (by decide +kernel) (ns_istore_n (L' := [(2, nk_i v5), (4, nk_i v1), (0, nk_r l0), (1, nk_i l1), (3, nk_i l3)]) h6 rfl rfl (by decide +kernel)) rfl ?_
      refine nk_p (i := .goto 6) (len := 3) (pc' := 41) mJ_366 (by decide +kernel) (ns_goto (by decide +kernel)) rfl ?_
      refine nk_p (i := .goto (-34)) (len := 3) (pc' := 7) mJ_366 (by decide +kernel) (ns_goto (by decide +kernel)) rfl ?_
      refine nk_sub [2, 3, 0, 4] (L' := [(0, nk_r l0), (1, nk_i l1), (2, nk_i v5), (3, nk_i l3)]) rfl ?_
      exact hrec7 _ _ _ _ _ _ t_l0 hr
noncomputable def ja_X5_placeOf_L7 : Nat → Nat → Int → Int → Int → nk_S → Option (Int × nk_S)
  | 0, _, _, _, _, _ => none
  | n + 1, l0, l1, l2, l3, S => ja_X5_placeOf_b7 (ja_X5_placeOf_L7 n) l0 l1 l2 l3 S
theorem ja_X5_placeOf_L7_ok (zs : List Int32) : ∀ n : Nat, ∀ (l0 : Nat) (l1 : Int) (l2 : Int) (l3 : Int) (S : nk_S) (R : Int × nk_S), nk_cl ja_Tt l0 = some 5 → ja_X5_placeOf_L7 n l0 l1 l2 l3 S = some R → nk_K ja_Tt mi_Γ (mi_ev zs) 1 366 7 [(0, nk_r l0), (1, nk_i l1), (2, nk_i l2), (3, nk_i l3)] [] S R := by
  intro n
  induction n with
  | zero => intro _ _ _ _ _ _ _ hr; cases hr
  | succ n ih => intro l0 l1 l2 l3 S R t_l0 hr; exact ja_X5_placeOf_b7_ok zs ih l0 l1 l2 l3 S R t_l0 hr
noncomputable def ja_X5_placeOf (l0 : Nat) (l1 : Int) (S : nk_S) : Option (Int × nk_S) :=
  nk_lt (S.1 l0 0) fun v1 =>
  ja_X5_placeOf_L7 nk_big l0 l1 0 v1 S
theorem ja_X5_placeOf_ok (zs : List Int32) : ∀ (l0 : Nat) (l1 : Int) (S : nk_S) (R : Int × nk_S), nk_cl ja_Tt l0 = some 5 → ja_X5_placeOf l0 l1 S = some R → nk_K ja_Tt mi_Γ (mi_ev zs) 1 366 0 [(0, nk_r l0), (1, nk_i l1)] [] S R := by
  intro l0 l1 S R t_l0 hr
  unfold ja_X5_placeOf at hr
  refine nk_p (i := .iconst 0) (len := 1) (pc' := 1) mJ_366 (by decide +kernel) (ns_iconst (c := 0) (by decide +kernel)) rfl ?_
  refine nk_p (i := .istore_n 2) (len := 1) (pc' := 2) mJ_366 (by decide +kernel) (ns_istore_n (L' := [(2, nk_i 0), (0, nk_r l0), (1, nk_i l1)]) rfl rfl rfl (by decide +kernel)) rfl ?_
  refine nk_p (i := .aload_n 0) (len := 1) (pc' := 3) mJ_366 (by decide +kernel) (ns_aload_n 1 rfl rfl) rfl ?_
  refine nk_getI (y := (0, 0)) (x := 41) (len := 3) (ci := 5) (k := 0) (pc' := 6) ja_okT mJ_366 (by decide +kernel) (by decide +kernel) (by decide +kernel) t_l0 rfl ?_
  obtain ⟨v1, h2, hr⟩ := nk_lte hr
  refine nk_p (i := .istore_n 3) (len := 1) (pc' := 7) mJ_366 (by decide +kernel) (ns_istore_n (L' := [(3, nk_i v1), (2, nk_i 0), (0, nk_r l0), (1, nk_i l1)]) h2 rfl rfl (by decide +kernel)) rfl ?_
  refine nk_sub [2, 3, 1, 0] (L' := [(0, nk_r l0), (1, nk_i l1), (2, nk_i 0), (3, nk_i v1)]) rfl ?_
  exact ja_X5_placeOf_L7_ok zs nk_big _ _ _ _ _ _ t_l0 hr
/-! SafeCode$Ranges include (I)V -/
noncomputable def ja_X5_include_b24 (l0 : Nat) (l1 : Int) (l2 : Int) (S : nk_S) : Option (Int × nk_S) :=
  if (S.1 l0 0) < 3079 then
    if 0 ≤ l2 ∧ 0 ≤ (nk_w (l2 + 1)) ∧ 0 ≤ (nk_w ((S.1 l0 0) - l2)) ∧ l2 + (nk_w ((S.1 l0 0) - l2)) ≤ 3079 ∧ (nk_w (l2 + 1)) + (nk_w ((S.1 l0 0) - l2)) ≤ 3079 then
    nk_lt (nk_cp S (ja_c l0 1) l2.toNat (ja_c l0 1) (nk_w (l2 + 1)).toNat (nk_w ((S.1 l0 0) - l2)).toNat) fun S3 =>
    if 0 ≤ l2 ∧ l2 < 3079 then
    nk_lt (nk_wi S3 (ja_c l0 1) l2.toNat l1) fun S6 =>
    nk_lt (nk_wi S6 l0 0 (nk_w ((S6.1 l0 0) + 1))) fun S8 =>
    some (0, S8)
    else none
    else none
  else
    some (0, S)
theorem ja_X5_include_b24_ok (zs : List Int32) : ∀ (l0 : Nat) (l1 : Int) (l2 : Int) (S : nk_S) (R : Int × nk_S), nk_cl ja_Tt l0 = some 5 → ja_X5_include_b24 l0 l1 l2 S = some R → nk_K ja_Tt mi_Γ (mi_ev zs) 0 357 24 [(0, nk_r l0), (1, nk_i l1), (2, nk_i l2)] [] S R := by
  intro l0 l1 l2 S R t_l0 hr
  unfold ja_X5_include_b24 at hr
  refine nk_p (i := .aload_n 0) (len := 1) (pc' := 25) mJ_357 (by decide +kernel) (ns_aload_n 0 rfl rfl) rfl ?_
  refine nk_getI (y := (0, 0)) (x := 41) (len := 3) (ci := 5) (k := 0) (pc' := 28) ja_okT mJ_357 (by decide +kernel) (by decide +kernel) (by decide +kernel) t_l0 rfl ?_
  refine nk_p (i := .sipush 3079) (len := 3) (pc' := 31) mJ_357 (by decide +kernel) (ns_sipush (c := 3079) (by decide +kernel)) rfl ?_
  refine nk_icmp (c := .lt) (off := 4) (len := 3) (t := 35) (pc' := 34) mJ_357 (by decide +kernel) (by decide +kernel) rfl (fun hc => ?_) (fun hc => ?_)
  · have hr := nk_ifp (c := (S.1 l0 0) < 3079) hc hr
    refine nk_p (i := .aload_n 0) (len := 1) (pc' := 36) mJ_357 (by decide +kernel) (ns_aload_n 0 rfl rfl) rfl ?_
    refine nk_getC (f := (4, 1, 3079)) (x := 11) (len := 3) (ci := 5) (k := 1) (pc' := 39) ja_okT mJ_357 (by decide +kernel) (by decide +kernel) (by decide +kernel) (by decide) t_l0 rfl ?_
    have t1 : nk_ar ja_Tt (ja_c l0 1) = some (1, 3079) := nk_ta ja_okT t_l0 (by decide +kernel)
    refine nk_p (i := .iload_n 2) (len := 1) (pc' := 40) mJ_357 (by decide +kernel) (ns_iload_n 2 rfl rfl) rfl ?_
    refine nk_p (i := .aload_n 0) (len := 1) (pc' := 41) mJ_357 (by decide +kernel) (ns_aload_n 0 rfl rfl) rfl ?_
    refine nk_getC (f := (4, 1, 3079)) (x := 11) (len := 3) (ci := 5) (k := 1) (pc' := 44) ja_okT mJ_357 (by decide +kernel) (by decide +kernel) (by decide +kernel) (by decide) t_l0 rfl ?_
    refine nk_p (i := .iload_n 2) (len := 1) (pc' := 45) mJ_357 (by decide +kernel) (ns_iload_n 2 rfl rfl) rfl ?_
    refine nk_p (i := .iconst 1) (len := 1) (pc' := 46) mJ_357 (by decide +kernel) (ns_iconst (c := 1) (by decide +kernel)) rfl ?_
    refine nk_p (i := .iadd) (len := 1) (pc' := 47) mJ_357 (by decide +kernel) ns_iadd rfl ?_
    refine nk_p (i := .aload_n 0) (len := 1) (pc' := 48) mJ_357 (by decide +kernel) (ns_aload_n 0 rfl rfl) rfl ?_
    refine nk_getI (y := (0, 0)) (x := 41) (len := 3) (ci := 5) (k := 0) (pc' := 51) ja_okT mJ_357 (by decide +kernel) (by decide +kernel) (by decide +kernel) t_l0 rfl ?_
    refine nk_p (i := .iload_n 2) (len := 1) (pc' := 52) mJ_357 (by decide +kernel) (ns_iload_n 2 rfl rfl) rfl ?_
    refine nk_p (i := .isub) (len := 1) (pc' := 53) mJ_357 (by decide +kernel) ns_isub rfl ?_
    obtain ⟨h2, hr⟩ := nk_cke hr
    obtain ⟨S3, h4, hr⟩ := nk_lte hr
    refine nk_copy (x := 60) (len := 3) (t := 1) (N0 := 3079) (N1 := 3079) (q1 := 9999) (q2 := 0) (q3 := 0) (pc' := 56) mJ_357 (by decide +kernel) (by decide +kernel) t1 t1 h2.1 h2.2.1 h2.2.2.1 h2.2.2.2.1 h2.2.2.2.2 rfl rfl (Nat.le_of_ble_eq_true rfl) rfl h4 ?_
    refine nk_p (i := .aload_n 0) (len := 1) (pc' := 57) mJ_357 (by decide +kernel) (ns_aload_n 0 rfl rfl) rfl ?_
    refine nk_getC (f := (4, 1, 3079)) (x := 11) (len := 3) (ci := 5) (k := 1) (pc' := 60) ja_okT mJ_357 (by decide +kernel) (by decide +kernel) (by decide +kernel) (by decide) t_l0 rfl ?_
    refine nk_p (i := .iload_n 2) (len := 1) (pc' := 61) mJ_357 (by decide +kernel) (ns_iload_n 2 rfl rfl) rfl ?_
    refine nk_p (i := .iload_n 1) (len := 1) (pc' := 62) mJ_357 (by decide +kernel) (ns_iload_n 1 rfl rfl) rfl ?_
    obtain ⟨h5, hr⟩ := nk_cke hr
    obtain ⟨S6, h7, hr⟩ := nk_lte hr
    refine nk_iast (len := 1) (N := 3079) (pc' := 63) mJ_357 (by decide +kernel) t1 h5.1 h5.2 rfl rfl h7 ?_
    refine nk_p (i := .aload_n 0) (len := 1) (pc' := 64) mJ_357 (by decide +kernel) (ns_aload_n 0 rfl rfl) rfl ?_
    refine nk_p (i := .dup) (len := 1) (pc' := 65) mJ_357 (by decide +kernel) (ns_dup rfl) rfl ?_
    refine nk_getI (y := (0, 0)) (x := 41) (len := 3) (ci := 5) (k := 0) (pc' := 68) ja_okT mJ_357 (by decide +kernel) (by decide +kernel) (by decide +kernel) t_l0 rfl ?_
    refine nk_p (i := .iconst 1) (len := 1) (pc' := 69) mJ_357 (by decide +kernel) (ns_iconst (c := 1) (by decide +kernel)) rfl ?_
    refine nk_p (i := .iadd) (len := 1) (pc' := 70) mJ_357 (by decide +kernel) ns_iadd rfl ?_
    obtain ⟨S8, h9, hr⟩ := nk_lte hr
    refine nk_putI (y := (0, 0)) (ty := .int) (x := 41) (len := 3) (ci := 5) (k := 0) (pc' := 73) ja_okT mJ_357 (by decide +kernel) (by decide +kernel) (by decide +kernel) t_l0 (Or.inl rfl) rfl h9 ?_
    cases hr
    exact nk_vret (len := 1) mJ_357 (by decide +kernel) rfl
  · have hr := nk_ifn (c := (S.1 l0 0) < 3079) hc hr
    cases hr
    exact nk_vret (len := 1) mJ_357 (by decide +kernel) rfl
noncomputable def ja_X5_include (l0 : Nat) (l1 : Int) (S : nk_S) : Option (Int × nk_S) :=
  nk_bd (ja_X5_placeOf l0 l1 S) fun r1 S2 =>
  if (S2.1 l0 0) ≤ r1 then
    ja_X5_include_b24 l0 l1 r1 S2
  else
    if 0 ≤ r1 ∧ r1 < 3079 then
    if (S2.1 (ja_c l0 1) r1.toNat) = l1 then
      some (0, S2)
    else
      ja_X5_include_b24 l0 l1 r1 S2
    else none
theorem ja_X5_include_ok (zs : List Int32) : ∀ (l0 : Nat) (l1 : Int) (S : nk_S) (R : Int × nk_S), nk_cl ja_Tt l0 = some 5 → ja_X5_include l0 l1 S = some R → nk_K ja_Tt mi_Γ (mi_ev zs) 0 357 0 [(0, nk_r l0), (1, nk_i l1)] [] S R := by
  intro l0 l1 S R t_l0 hr
  unfold ja_X5_include at hr
  refine nk_p (i := .aload_n 0) (len := 1) (pc' := 1) mJ_357 (by decide +kernel) (ns_aload_n 0 rfl rfl) rfl ?_
  refine nk_p (i := .iload_n 1) (len := 1) (pc' := 2) mJ_357 (by decide +kernel) (ns_iload_n 1 rfl rfl) rfl ?_
  obtain ⟨r1, S2, h3, hr⟩ := nk_bde hr
  refine nk_callV (ci := 5) (n := 1) (x := 56) (len := 3) (j' := 366) (q' := 1) (r := r1) (S' := S2) (L2 := [(0, nk_r l0), (1, nk_i l1)]) (rest := []) (st' := [nk_i r1]) (pc' := 5) mJ_357 (by decide +kernel) (by decide +kernel) rfl rfl t_l0 (Nat.le_of_ble_eq_true rfl) mJ_366 (Nat.le_of_ble_eq_true rfl) rfl (ja_X5_placeOf_ok zs _ _ _ _ t_l0 h3) rfl ?_
  refine nk_p (i := .istore_n 2) (len := 1) (pc' := 6) mJ_357 (by decide +kernel) (ns_istore_n (L' := [(2, nk_i r1), (0, nk_r l0), (1, nk_i l1)]) rfl rfl rfl (by decide +kernel)) rfl ?_
  refine nk_p (i := .iload_n 2) (len := 1) (pc' := 7) mJ_357 (by decide +kernel) (ns_iload_n 0 rfl rfl) rfl ?_
  refine nk_p (i := .aload_n 0) (len := 1) (pc' := 8) mJ_357 (by decide +kernel) (ns_aload_n 1 rfl rfl) rfl ?_
  refine nk_getI (y := (0, 0)) (x := 41) (len := 3) (ci := 5) (k := 0) (pc' := 11) ja_okT mJ_357 (by decide +kernel) (by decide +kernel) (by decide +kernel) t_l0 rfl ?_
  refine nk_icmp (c := .ge) (off := 13) (len := 3) (t := 24) (pc' := 14) mJ_357 (by decide +kernel) (by decide +kernel) rfl (fun hc => ?_) (fun hc => ?_)
  · have hr := nk_ifp (c := (S2.1 l0 0) ≤ r1) hc hr
    refine nk_sub [1, 2, 0] (L' := [(0, nk_r l0), (1, nk_i l1), (2, nk_i r1)]) rfl ?_
    exact ja_X5_include_b24_ok zs _ _ _ _ _ t_l0 hr
  · have hr := nk_ifn (c := (S2.1 l0 0) ≤ r1) hc hr
    refine nk_p (i := .aload_n 0) (len := 1) (pc' := 15) mJ_357 (by decide +kernel) (ns_aload_n 1 rfl rfl) rfl ?_
    refine nk_getC (f := (4, 1, 3079)) (x := 11) (len := 3) (ci := 5) (k := 1) (pc' := 18) ja_okT mJ_357 (by decide +kernel) (by decide +kernel) (by decide +kernel) (by decide) t_l0 rfl ?_
    have t4 : nk_ar ja_Tt (ja_c l0 1) = some (1, 3079) := nk_ta ja_okT t_l0 (by decide +kernel)
    refine nk_p (i := .iload_n 2) (len := 1) (pc' := 19) mJ_357 (by decide +kernel) (ns_iload_n 0 rfl rfl) rfl ?_
    obtain ⟨h5, hr⟩ := nk_cke hr
    refine nk_iald (len := 1) (N := 3079) (pc' := 20) mJ_357 (by decide +kernel) t4 h5.1 h5.2 rfl rfl ?_
    refine nk_p (i := .iload_n 1) (len := 1) (pc' := 21) mJ_357 (by decide +kernel) (ns_iload_n 2 rfl rfl) rfl ?_
    refine nk_icmp (c := .eq) (off := 13) (len := 3) (t := 34) (pc' := 24) mJ_357 (by decide +kernel) (by decide +kernel) rfl (fun hc => ?_) (fun hc => ?_)
    · have hr := nk_ifp (c := (S2.1 (ja_c l0 1) r1.toNat) = l1) hc hr
      cases hr
      exact nk_vret (len := 1) mJ_357 (by decide +kernel) rfl
    · have hr := nk_ifn (c := (S2.1 (ja_c l0 1) r1.toNat) = l1) hc hr
      refine nk_sub [1, 2, 0] (L' := [(0, nk_r l0), (1, nk_i l1), (2, nk_i r1)]) rfl ?_
      exact ja_X5_include_b24_ok zs _ _ _ _ _ t_l0 hr
/-! SafeCode$Ranges includeAround (I)V -/
noncomputable def ja_X5_includeAround_b13 (l0 : Nat) (l1 : Int) (S : nk_S) : Option (Int × nk_S) :=
  nk_bd (ja_X5_include l0 l1 S) fun r1 S2 =>
  if l1 = 2147483647 then
    some (0, S2)
  else
    nk_bd (ja_X5_include l0 (nk_w (l1 + 1)) S2) fun r4 S5 =>
    some (0, S5)
theorem ja_X5_includeAround_b13_ok (zs : List Int32) : ∀ (l0 : Nat) (l1 : Int) (S : nk_S) (R : Int × nk_S), nk_cl ja_Tt l0 = some 5 → ja_X5_includeAround_b13 l0 l1 S = some R → nk_K ja_Tt mi_Γ (mi_ev zs) 0 358 13 [(0, nk_r l0), (1, nk_i l1)] [] S R := by
  intro l0 l1 S R t_l0 hr
  unfold ja_X5_includeAround_b13 at hr
  refine nk_p (i := .aload_n 0) (len := 1) (pc' := 14) mJ_358 (by decide +kernel) (ns_aload_n 0 rfl rfl) rfl ?_
  refine nk_p (i := .iload_n 1) (len := 1) (pc' := 15) mJ_358 (by decide +kernel) (ns_iload_n 1 rfl rfl) rfl ?_
  obtain ⟨r1, S2, h3, hr⟩ := nk_bde hr
  refine nk_callV (ci := 5) (n := 1) (x := 46) (len := 3) (j' := 357) (q' := 0) (r := r1) (S' := S2) (L2 := [(0, nk_r l0), (1, nk_i l1)]) (rest := []) (st' := []) (pc' := 18) mJ_358 (by decide +kernel) (by decide +kernel) rfl rfl t_l0 (Nat.le_of_ble_eq_true rfl) mJ_357 (Nat.le_of_ble_eq_true rfl) rfl (ja_X5_include_ok zs _ _ _ _ t_l0 h3) rfl ?_
  refine nk_p (i := .iload_n 1) (len := 1) (pc' := 19) mJ_358 (by decide +kernel) (ns_iload_n 1 rfl rfl) rfl ?_
  refine nk_ldci (x := 55) (len := 2) (X := 2147483647) (v := 2147483647) (pc' := 21) mJ_358 (by decide +kernel) (by decide +kernel) (by decide +kernel) rfl ?_
  refine nk_icmp (c := .eq) (off := 10) (len := 3) (t := 31) (pc' := 24) mJ_358 (by decide +kernel) (by decide +kernel) rfl (fun hc => ?_) (fun hc => ?_)
  · have hr := nk_ifp (c := l1 = 2147483647) hc hr
    cases hr
    exact nk_vret (len := 1) mJ_358 (by decide +kernel) rfl
  · have hr := nk_ifn (c := l1 = 2147483647) hc hr
    refine nk_p (i := .aload_n 0) (len := 1) (pc' := 25) mJ_358 (by decide +kernel) (ns_aload_n 0 rfl rfl) rfl ?_
    refine nk_p (i := .iload_n 1) (len := 1) (pc' := 26) mJ_358 (by decide +kernel) (ns_iload_n 1 rfl rfl) rfl ?_
    refine nk_p (i := .iconst 1) (len := 1) (pc' := 27) mJ_358 (by decide +kernel) (ns_iconst (c := 1) (by decide +kernel)) rfl ?_
    refine nk_p (i := .iadd) (len := 1) (pc' := 28) mJ_358 (by decide +kernel) ns_iadd rfl ?_
    obtain ⟨r4, S5, h6, hr⟩ := nk_bde hr
    refine nk_callV (ci := 5) (n := 1) (x := 46) (len := 3) (j' := 357) (q' := 0) (r := r4) (S' := S5) (L2 := [(0, nk_r l0), (1, nk_i (nk_w (l1 + 1)))]) (rest := []) (st' := []) (pc' := 31) mJ_358 (by decide +kernel) (by decide +kernel) rfl rfl t_l0 (Nat.le_of_ble_eq_true rfl) mJ_357 (Nat.le_of_ble_eq_true rfl) rfl (ja_X5_include_ok zs _ _ _ _ t_l0 h6) rfl ?_
    cases hr
    exact nk_vret (len := 1) mJ_358 (by decide +kernel) rfl
noncomputable def ja_X5_includeAround (l0 : Nat) (l1 : Int) (S : nk_S) : Option (Int × nk_S) :=
  if l1 = (-2147483648) then
    ja_X5_includeAround_b13 l0 l1 S
  else
    nk_bd (ja_X5_include l0 (nk_w (l1 - 1)) S) fun r1 S2 =>
    ja_X5_includeAround_b13 l0 l1 S2
theorem ja_X5_includeAround_ok (zs : List Int32) : ∀ (l0 : Nat) (l1 : Int) (S : nk_S) (R : Int × nk_S), nk_cl ja_Tt l0 = some 5 → ja_X5_includeAround l0 l1 S = some R → nk_K ja_Tt mi_Γ (mi_ev zs) 0 358 0 [(0, nk_r l0), (1, nk_i l1)] [] S R := by
  intro l0 l1 S R t_l0 hr
  unfold ja_X5_includeAround at hr
  refine nk_p (i := .iload_n 1) (len := 1) (pc' := 1) mJ_358 (by decide +kernel) (ns_iload_n 1 rfl rfl) rfl ?_
  refine nk_ldci (x := 45) (len := 2) (X := (-2147483648)) (v := (-2147483648)) (pc' := 3) mJ_358 (by decide +kernel) (by decide +kernel) (by decide +kernel) rfl ?_
  refine nk_icmp (c := .eq) (off := 10) (len := 3) (t := 13) (pc' := 6) mJ_358 (by decide +kernel) (by decide +kernel) rfl (fun hc => ?_) (fun hc => ?_)
  · have hr := nk_ifp (c := l1 = (-2147483648)) hc hr
    exact ja_X5_includeAround_b13_ok zs _ _ _ _ t_l0 hr
  · have hr := nk_ifn (c := l1 = (-2147483648)) hc hr
    refine nk_p (i := .aload_n 0) (len := 1) (pc' := 7) mJ_358 (by decide +kernel) (ns_aload_n 0 rfl rfl) rfl ?_
    refine nk_p (i := .iload_n 1) (len := 1) (pc' := 8) mJ_358 (by decide +kernel) (ns_iload_n 1 rfl rfl) rfl ?_
    refine nk_p (i := .iconst 1) (len := 1) (pc' := 9) mJ_358 (by decide +kernel) (ns_iconst (c := 1) (by decide +kernel)) rfl ?_
    refine nk_p (i := .isub) (len := 1) (pc' := 10) mJ_358 (by decide +kernel) ns_isub rfl ?_
    obtain ⟨r1, S2, h3, hr⟩ := nk_bde hr
    refine nk_callV (ci := 5) (n := 1) (x := 46) (len := 3) (j' := 357) (q' := 0) (r := r1) (S' := S2) (L2 := [(0, nk_r l0), (1, nk_i (nk_w (l1 - 1)))]) (rest := []) (st' := []) (pc' := 13) mJ_358 (by decide +kernel) (by decide +kernel) rfl rfl t_l0 (Nat.le_of_ble_eq_true rfl) mJ_357 (Nat.le_of_ble_eq_true rfl) rfl (ja_X5_include_ok zs _ _ _ _ t_l0 h3) rfl ?_
    exact ja_X5_includeAround_b13_ok zs _ _ _ _ t_l0 hr
/-! SafeCode$Ranges clear ()V -/
noncomputable def ja_X5_clear (l0 : Nat) (S : nk_S) : Option (Int × nk_S) :=
  nk_lt (nk_wi S l0 0 0) fun S1 =>
  nk_bd (ja_X5_include l0 (-2147483648) S1) fun r3 S4 =>
  nk_bd (ja_X5_include l0 (-2147483647) S4) fun r6 S7 =>
  nk_bd (ja_X5_includeAround l0 0 S7) fun r9 S10 =>
  nk_bd (ja_X5_include l0 2147483646 S10) fun r12 S13 =>
  nk_bd (ja_X5_include l0 2147483647 S13) fun r15 S16 =>
  some (0, S16)
theorem ja_X5_clear_ok (zs : List Int32) : ∀ (l0 : Nat) (S : nk_S) (R : Int × nk_S), nk_cl ja_Tt l0 = some 5 → ja_X5_clear l0 S = some R → nk_K ja_Tt mi_Γ (mi_ev zs) 0 351 0 [(0, nk_r l0)] [] S R := by
  intro l0 S R t_l0 hr
  unfold ja_X5_clear at hr
  refine nk_p (i := .aload_n 0) (len := 1) (pc' := 1) mJ_351 (by decide +kernel) (ns_aload_n 0 rfl rfl) rfl ?_
  refine nk_p (i := .iconst 0) (len := 1) (pc' := 2) mJ_351 (by decide +kernel) (ns_iconst (c := 0) (by decide +kernel)) rfl ?_
  obtain ⟨S1, h2, hr⟩ := nk_lte hr
  refine nk_putI (y := (0, 0)) (ty := .int) (x := 41) (len := 3) (ci := 5) (k := 0) (pc' := 5) ja_okT mJ_351 (by decide +kernel) (by decide +kernel) (by decide +kernel) t_l0 (Or.inl rfl) rfl h2 ?_
  refine nk_p (i := .aload_n 0) (len := 1) (pc' := 6) mJ_351 (by decide +kernel) (ns_aload_n 0 rfl rfl) rfl ?_
  refine nk_ldci (x := 45) (len := 2) (X := (-2147483648)) (v := (-2147483648)) (pc' := 8) mJ_351 (by decide +kernel) (by decide +kernel) (by decide +kernel) rfl ?_
  obtain ⟨r3, S4, h5, hr⟩ := nk_bde hr
  refine nk_callV (ci := 5) (n := 1) (x := 46) (len := 3) (j' := 357) (q' := 0) (r := r3) (S' := S4) (L2 := [(0, nk_r l0), (1, nk_i (-2147483648))]) (rest := []) (st' := []) (pc' := 11) mJ_351 (by decide +kernel) (by decide +kernel) rfl rfl t_l0 (Nat.le_of_ble_eq_true rfl) mJ_357 (Nat.le_of_ble_eq_true rfl) rfl (ja_X5_include_ok zs _ _ _ _ t_l0 h5) rfl ?_
  refine nk_p (i := .aload_n 0) (len := 1) (pc' := 12) mJ_351 (by decide +kernel) (ns_aload_n 0 rfl rfl) rfl ?_
  refine nk_ldci (x := 50) (len := 2) (X := (-2147483647)) (v := (-2147483647)) (pc' := 14) mJ_351 (by decide +kernel) (by decide +kernel) (by decide +kernel) rfl ?_
  obtain ⟨r6, S7, h8, hr⟩ := nk_bde hr
  refine nk_callV (ci := 5) (n := 1) (x := 46) (len := 3) (j' := 357) (q' := 0) (r := r6) (S' := S7) (L2 := [(0, nk_r l0), (1, nk_i (-2147483647))]) (rest := []) (st' := []) (pc' := 17) mJ_351 (by decide +kernel) (by decide +kernel) rfl rfl t_l0 (Nat.le_of_ble_eq_true rfl) mJ_357 (Nat.le_of_ble_eq_true rfl) rfl (ja_X5_include_ok zs _ _ _ _ t_l0 h8) rfl ?_
  refine nk_p (i := .aload_n 0) (len := 1) (pc' := 18) mJ_351 (by decide +kernel) (ns_aload_n 0 rfl rfl) rfl ?_
  refine nk_p (i := .iconst 0) (len := 1) (pc' := 19) mJ_351 (by decide +kernel) (ns_iconst (c := 0) (by decide +kernel)) rfl ?_
  obtain ⟨r9, S10, h11, hr⟩ := nk_bde hr
  refine nk_callV (ci := 5) (n := 1) (x := 51) (len := 3) (j' := 358) (q' := 0) (r := r9) (S' := S10) (L2 := [(0, nk_r l0), (1, nk_i 0)]) (rest := []) (st' := []) (pc' := 22) mJ_351 (by decide +kernel) (by decide +kernel) rfl rfl t_l0 (Nat.le_of_ble_eq_true rfl) mJ_358 (Nat.le_of_ble_eq_true rfl) rfl (ja_X5_includeAround_ok zs _ _ _ _ t_l0 h11) rfl ?_
  refine nk_p (i := .aload_n 0) (len := 1) (pc' := 23) mJ_351 (by decide +kernel) (ns_aload_n 0 rfl rfl) rfl ?_
  refine nk_ldci (x := 54) (len := 2) (X := 2147483646) (v := 2147483646) (pc' := 25) mJ_351 (by decide +kernel) (by decide +kernel) (by decide +kernel) rfl ?_
  obtain ⟨r12, S13, h14, hr⟩ := nk_bde hr
  refine nk_callV (ci := 5) (n := 1) (x := 46) (len := 3) (j' := 357) (q' := 0) (r := r12) (S' := S13) (L2 := [(0, nk_r l0), (1, nk_i 2147483646)]) (rest := []) (st' := []) (pc' := 28) mJ_351 (by decide +kernel) (by decide +kernel) rfl rfl t_l0 (Nat.le_of_ble_eq_true rfl) mJ_357 (Nat.le_of_ble_eq_true rfl) rfl (ja_X5_include_ok zs _ _ _ _ t_l0 h14) rfl ?_
  refine nk_p (i := .aload_n 0) (len := 1) (pc' := 29) mJ_351 (by decide +kernel) (ns_aload_n 0 rfl rfl) rfl ?_
  refine nk_ldci (x := 55) (len := 2) (X := 2147483647) (v := 2147483647) (pc' := 31) mJ_351 (by decide +kernel) (by decide +kernel) (by decide +kernel) rfl ?_
  obtain ⟨r15, S16, h17, hr⟩ := nk_bde hr
  refine nk_callV (ci := 5) (n := 1) (x := 46) (len := 3) (j' := 357) (q' := 0) (r := r15) (S' := S16) (L2 := [(0, nk_r l0), (1, nk_i 2147483647)]) (rest := []) (st' := []) (pc' := 34) mJ_351 (by decide +kernel) (by decide +kernel) rfl rfl t_l0 (Nat.le_of_ble_eq_true rfl) mJ_357 (Nat.le_of_ble_eq_true rfl) rfl (ja_X5_include_ok zs _ _ _ _ t_l0 h17) rfl ?_
  cases hr
  exact nk_vret (len := 1) mJ_351 (by decide +kernel) rfl
/-! SafeCode$Program clear ()V -/
noncomputable def ja_X3_clear_b39 (rec39 : Nat → Int → nk_S → Option (Int × nk_S)) (l0 : Nat) (l1 : Int) (S : nk_S) : Option (Int × nk_S) :=
  if 6 ≤ l1 then
    some (0, S)
  else
    if 0 ≤ (nk_w (48 + l1)) ∧ (nk_w (48 + l1)) < 54 then
    nk_lt (nk_wi S (ja_c l0 11) (nk_w (48 + l1)).toNat (nk_w (4 + (nk_w (2 * (nk_w (2 + l1))))))) fun S3 =>
    nk_lt (nk_w (l1 + 1)) fun v5 =>
    rec39 l0 v5 S3
    else none
theorem ja_X3_clear_b39_ok (zs : List Int32) {rec39 : Nat → Int → nk_S → Option (Int × nk_S)} (hrec39 : ∀ (l0 : Nat) (l1 : Int) (S : nk_S) (R : Int × nk_S), nk_cl ja_Tt l0 = some 3 → rec39 l0 l1 S = some R → nk_K ja_Tt mi_Γ (mi_ev zs) 0 300 39 [(0, nk_r l0), (1, nk_i l1)] [] S R) : ∀ (l0 : Nat) (l1 : Int) (S : nk_S) (R : Int × nk_S), nk_cl ja_Tt l0 = some 3 → ja_X3_clear_b39 rec39 l0 l1 S = some R → nk_K ja_Tt mi_Γ (mi_ev zs) 0 300 39 [(0, nk_r l0), (1, nk_i l1)] [] S R := by
  intro l0 l1 S R t_l0 hr
  unfold ja_X3_clear_b39 at hr
  refine nk_p (i := .iload_n 1) (len := 1) (pc' := 40) mJ_300 (by decide +kernel) (ns_iload_n 1 rfl rfl) rfl ?_
  refine nk_p (i := .bipush 6) (len := 2) (pc' := 42) mJ_300 (by decide +kernel) (ns_bipush (c := 6) (by decide +kernel)) rfl ?_
  refine nk_icmp (c := .ge) (off := 25) (len := 3) (t := 67) (pc' := 45) mJ_300 (by decide +kernel) (by decide +kernel) rfl (fun hc => ?_) (fun hc => ?_)
  · have hr := nk_ifp (c := 6 ≤ l1) hc hr
    cases hr
    exact nk_vret (len := 1) mJ_300 (by decide +kernel) rfl
  · have hr := nk_ifn (c := 6 ≤ l1) hc hr
    refine nk_p (i := .aload_n 0) (len := 1) (pc' := 46) mJ_300 (by decide +kernel) (ns_aload_n 0 rfl rfl) rfl ?_
    refine nk_getC (f := (4, 1, 54)) (x := 51) (len := 3) (ci := 3) (k := 11) (pc' := 49) ja_okT mJ_300 (by decide +kernel) (by decide +kernel) (by decide +kernel) (by decide) t_l0 rfl ?_
    have t1 : nk_ar ja_Tt (ja_c l0 11) = some (1, 54) := nk_ta ja_okT t_l0 (by decide +kernel)
    refine nk_p (i := .bipush 48) (len := 2) (pc' := 51) mJ_300 (by decide +kernel) (ns_bipush (c := 48) (by decide +kernel)) rfl ?_
    refine nk_p (i := .iload_n 1) (len := 1) (pc' := 52) mJ_300 (by decide +kernel) (ns_iload_n 1 rfl rfl) rfl ?_
    refine nk_p (i := .iadd) (len := 1) (pc' := 53) mJ_300 (by decide +kernel) ns_iadd rfl ?_
    refine nk_p (i := .iconst 4) (len := 1) (pc' := 54) mJ_300 (by decide +kernel) (ns_iconst (c := 4) (by decide +kernel)) rfl ?_
    refine nk_p (i := .iconst 2) (len := 1) (pc' := 55) mJ_300 (by decide +kernel) (ns_iconst (c := 2) (by decide +kernel)) rfl ?_
    refine nk_p (i := .iconst 2) (len := 1) (pc' := 56) mJ_300 (by decide +kernel) (ns_iconst (c := 2) (by decide +kernel)) rfl ?_
    refine nk_p (i := .iload_n 1) (len := 1) (pc' := 57) mJ_300 (by decide +kernel) (ns_iload_n 1 rfl rfl) rfl ?_
    refine nk_p (i := .iadd) (len := 1) (pc' := 58) mJ_300 (by decide +kernel) ns_iadd rfl ?_
    refine nk_p (i := .imul) (len := 1) (pc' := 59) mJ_300 (by decide +kernel) ns_imul rfl ?_
    refine nk_p (i := .iadd) (len := 1) (pc' := 60) mJ_300 (by decide +kernel) ns_iadd rfl ?_
    obtain ⟨h2, hr⟩ := nk_cke hr
    obtain ⟨S3, h4, hr⟩ := nk_lte hr
    refine nk_iast (len := 1) (N := 54) (pc' := 61) mJ_300 (by decide +kernel) t1 h2.1 h2.2 rfl rfl h4 ?_
    obtain ⟨v5, h6, hr⟩ := nk_lte hr
    refine nk_p (i := .iinc 1 1) (len := 3) (pc' := 64) mJ_300 (by decide +kernel) (ns_iinc (c := 1) (L' := [(1, nk_i v5), (0, nk_r l0)]) 1 rfl (by decide +kernel) h6 rfl (by decide +kernel)) rfl ?_
    refine nk_p (i := .goto (-25)) (len := 3) (pc' := 39) mJ_300 (by decide +kernel) (ns_goto (by decide +kernel)) rfl ?_
    refine nk_sub [1, 0] (L' := [(0, nk_r l0), (1, nk_i v5)]) rfl ?_
    exact hrec39 _ _ _ _ t_l0 hr
noncomputable def ja_X3_clear_L39 : Nat → Nat → Int → nk_S → Option (Int × nk_S)
  | 0, _, _, _ => none
  | n + 1, l0, l1, S => ja_X3_clear_b39 (ja_X3_clear_L39 n) l0 l1 S
theorem ja_X3_clear_L39_ok (zs : List Int32) : ∀ n : Nat, ∀ (l0 : Nat) (l1 : Int) (S : nk_S) (R : Int × nk_S), nk_cl ja_Tt l0 = some 3 → ja_X3_clear_L39 n l0 l1 S = some R → nk_K ja_Tt mi_Γ (mi_ev zs) 0 300 39 [(0, nk_r l0), (1, nk_i l1)] [] S R := by
  intro n
  induction n with
  | zero => intro _ _ _ _ _ hr; cases hr
  | succ n ih => intro l0 l1 S R t_l0 hr; exact ja_X3_clear_b39_ok zs ih l0 l1 S R t_l0 hr
noncomputable def ja_X3_clear (l0 : Nat) (S : nk_S) : Option (Int × nk_S) :=
  nk_bd (ja_X1_clear (ja_c l0 0) S) fun r2 S3 =>
  nk_lt (nk_wi S3 (ja_c l0 1) 0 0) fun S6 =>
  nk_bd (ja_X5_clear (ja_c l0 2) S6) fun r9 S10 =>
  nk_lt (nk_wi S10 l0 3 0) fun S12 =>
  nk_lt (nk_wi S12 l0 10 0) fun S14 =>
  nk_lt (nk_wi S14 l0 12 0) fun S16 =>
  ja_X3_clear_L39 nk_big l0 0 S16
theorem ja_X3_clear_ok (zs : List Int32) : ∀ (l0 : Nat) (S : nk_S) (R : Int × nk_S), nk_cl ja_Tt l0 = some 3 → ja_X3_clear l0 S = some R → nk_K ja_Tt mi_Γ (mi_ev zs) 0 300 0 [(0, nk_r l0)] [] S R := by
  intro l0 S R t_l0 hr
  unfold ja_X3_clear at hr
  refine nk_p (i := .aload_n 0) (len := 1) (pc' := 1) mJ_300 (by decide +kernel) (ns_aload_n 0 rfl rfl) rfl ?_
  refine nk_getC (f := (2, 1, 0)) (x := 12) (len := 3) (ci := 3) (k := 0) (pc' := 4) ja_okT mJ_300 (by decide +kernel) (by decide +kernel) (by decide +kernel) (by decide) t_l0 rfl ?_
  have t1 : nk_cl ja_Tt (ja_c l0 0) = some 1 := nk_tc (y := 0) ja_okT t_l0 (by decide +kernel)
  obtain ⟨r2, S3, h4, hr⟩ := nk_bde hr
  refine nk_callV (ci := 1) (n := 0) (x := 66) (len := 3) (j' := 250) (q' := 0) (r := r2) (S' := S3) (L2 := [(0, nk_r (ja_c l0 0))]) (rest := []) (st' := []) (pc' := 7) mJ_300 (by decide +kernel) (by decide +kernel) rfl rfl t1 (Nat.le_of_ble_eq_true rfl) mJ_250 (Nat.le_of_ble_eq_true rfl) rfl (ja_X1_clear_ok zs _ _ _ t1 h4) rfl ?_
  refine nk_p (i := .aload_n 0) (len := 1) (pc' := 8) mJ_300 (by decide +kernel) (ns_aload_n 0 rfl rfl) rfl ?_
  refine nk_getC (f := (2, 0, 0)) (x := 21) (len := 3) (ci := 3) (k := 1) (pc' := 11) ja_okT mJ_300 (by decide +kernel) (by decide +kernel) (by decide +kernel) (by decide) t_l0 rfl ?_
  have t5 : nk_cl ja_Tt (ja_c l0 1) = some 0 := nk_tc (y := 0) ja_okT t_l0 (by decide +kernel)
  refine nk_p (i := .iconst 0) (len := 1) (pc' := 12) mJ_300 (by decide +kernel) (ns_iconst (c := 0) (by decide +kernel)) rfl ?_
  obtain ⟨S6, h7, hr⟩ := nk_lte hr
  refine nk_putI (y := (0, 0)) (ty := .int) (x := 69) (len := 3) (ci := 0) (k := 0) (pc' := 15) ja_okT mJ_300 (by decide +kernel) (by decide +kernel) (by decide +kernel) t5 (Or.inl rfl) rfl h7 ?_
  refine nk_p (i := .aload_n 0) (len := 1) (pc' := 16) mJ_300 (by decide +kernel) (ns_aload_n 0 rfl rfl) rfl ?_
  refine nk_getC (f := (2, 5, 0)) (x := 28) (len := 3) (ci := 3) (k := 2) (pc' := 19) ja_okT mJ_300 (by decide +kernel) (by decide +kernel) (by decide +kernel) (by decide) t_l0 rfl ?_
  have t8 : nk_cl ja_Tt (ja_c l0 2) = some 5 := nk_tc (y := 0) ja_okT t_l0 (by decide +kernel)
  obtain ⟨r9, S10, h11, hr⟩ := nk_bde hr
  refine nk_callV (ci := 5) (n := 0) (x := 73) (len := 3) (j' := 351) (q' := 0) (r := r9) (S' := S10) (L2 := [(0, nk_r (ja_c l0 2))]) (rest := []) (st' := []) (pc' := 22) mJ_300 (by decide +kernel) (by decide +kernel) rfl rfl t8 (Nat.le_of_ble_eq_true rfl) mJ_351 (Nat.le_of_ble_eq_true rfl) rfl (ja_X5_clear_ok zs _ _ _ t8 h11) rfl ?_
  refine nk_p (i := .aload_n 0) (len := 1) (pc' := 23) mJ_300 (by decide +kernel) (ns_aload_n 0 rfl rfl) rfl ?_
  refine nk_p (i := .iconst 0) (len := 1) (pc' := 24) mJ_300 (by decide +kernel) (ns_iconst (c := 0) (by decide +kernel)) rfl ?_
  obtain ⟨S12, h13, hr⟩ := nk_lte hr
  refine nk_putI (y := (0, 0)) (ty := .int) (x := 74) (len := 3) (ci := 3) (k := 3) (pc' := 27) ja_okT mJ_300 (by decide +kernel) (by decide +kernel) (by decide +kernel) t_l0 (Or.inl rfl) rfl h13 ?_
  refine nk_p (i := .aload_n 0) (len := 1) (pc' := 28) mJ_300 (by decide +kernel) (ns_aload_n 0 rfl rfl) rfl ?_
  refine nk_p (i := .iconst 0) (len := 1) (pc' := 29) mJ_300 (by decide +kernel) (ns_iconst (c := 0) (by decide +kernel)) rfl ?_
  obtain ⟨S14, h15, hr⟩ := nk_lte hr
  refine nk_putI (y := (0, 0)) (ty := .int) (x := 75) (len := 3) (ci := 3) (k := 10) (pc' := 32) ja_okT mJ_300 (by decide +kernel) (by decide +kernel) (by decide +kernel) t_l0 (Or.inl rfl) rfl h15 ?_
  refine nk_p (i := .aload_n 0) (len := 1) (pc' := 33) mJ_300 (by decide +kernel) (ns_aload_n 0 rfl rfl) rfl ?_
  refine nk_p (i := .iconst 0) (len := 1) (pc' := 34) mJ_300 (by decide +kernel) (ns_iconst (c := 0) (by decide +kernel)) rfl ?_
  obtain ⟨S16, h17, hr⟩ := nk_lte hr
  refine nk_putI (y := (0, 0)) (ty := .int) (x := 78) (len := 3) (ci := 3) (k := 12) (pc' := 37) ja_okT mJ_300 (by decide +kernel) (by decide +kernel) (by decide +kernel) t_l0 (Or.inl rfl) rfl h17 ?_
  refine nk_p (i := .iconst 0) (len := 1) (pc' := 38) mJ_300 (by decide +kernel) (ns_iconst (c := 0) (by decide +kernel)) rfl ?_
  refine nk_p (i := .istore_n 1) (len := 1) (pc' := 39) mJ_300 (by decide +kernel) (ns_istore_n (L' := [(1, nk_i 0), (0, nk_r l0)]) rfl rfl rfl (by decide +kernel)) rfl ?_
  refine nk_sub [1, 0] (L' := [(0, nk_r l0), (1, nk_i 0)]) rfl ?_
  exact ja_X3_clear_L39_ok zs nk_big _ _ _ _ t_l0 hr
/-! SafeCode$Reader walkClasses ()I -/
noncomputable def ja_X6_walkClasses_b15 (rec4 : Nat → Int → Int → nk_S → Option (Int × nk_S)) (l0 : Nat) (l1 : Int) (l2 : Int) (S : nk_S) : Option (Int × nk_S) :=
  nk_bd (ja_X10_at (ja_c l0 0) l2 S) fun r2 S3 =>
  if r2 = 57 then
    nk_lt (nk_w (l1 + 1)) fun v36 =>
    nk_lt (nk_w (l2 + 1)) fun v38 =>
    rec4 l0 v36 v38 S3
  else
    if r2 = 58 then
      nk_lt (nk_w (l1 + (-1))) fun v32 =>
      nk_lt (nk_w (l2 + 1)) fun v34 =>
      rec4 l0 v32 v34 S3
    else
      if l1 = 0 then
        nk_bd (ja_X10_at (ja_c l0 0) (nk_w (l2 + 1)) S3) fun r7 S8 =>
        nk_bd (ja_X10_at (ja_c l0 0) (nk_w (l2 + 3)) S8) fun r10 S11 =>
        nk_bd (ja_X10_firstOf (ja_c l0 0) r10 S11) fun r13 S14 =>
        nk_bd (ja_X10_firstOf (ja_c l0 0) r7 S14) fun r16 S17 =>
        if 0 ≤ r16 then
          some ((nk_w (l2 + 1)), S17)
        else
          if (S17.1 (ja_c (S17.2 l0 1) 0) 0) < 32 then
            if 0 ≤ r13 then
              nk_bd (ja_X1_add (ja_c (S17.2 l0 1) 0) r13 S17) fun r22 S23 =>
              nk_bd (ja_X10_setMeaning (ja_c l0 0) r7 r22 (-1) S23) fun r25 S26 =>
              nk_lt (nk_w (l2 + 3)) fun v28 =>
              nk_lt (nk_w (v28 + 1)) fun v30 =>
              rec4 l0 l1 v30 S26
            else
              some ((nk_w (l2 + 3)), S17)
          else
            some ((nk_w (l2 + 1)), S17)
      else
        nk_lt (nk_w (l2 + 1)) fun v5 =>
        rec4 l0 l1 v5 S3
theorem ja_X6_walkClasses_b15_ok (zs : List Int32) {rec4 : Nat → Int → Int → nk_S → Option (Int × nk_S)} (hrec4 : ∀ (l0 : Nat) (l1 : Int) (l2 : Int) (S : nk_S) (R : Int × nk_S), nk_cl ja_Tt l0 = some 6 → rec4 l0 l1 l2 S = some R → nk_K ja_Tt mi_Γ (mi_ev zs) 1 393 4 [(0, nk_r l0), (1, nk_i l1), (2, nk_i l2)] [] S R) : ∀ (l0 : Nat) (l1 : Int) (l2 : Int) (S : nk_S) (R : Int × nk_S), nk_cl ja_Tt l0 = some 6 → ja_X6_walkClasses_b15 rec4 l0 l1 l2 S = some R → nk_K ja_Tt mi_Γ (mi_ev zs) 1 393 15 [(0, nk_r l0), (1, nk_i l1), (2, nk_i l2)] [] S R := by
  intro l0 l1 l2 S R t_l0 hr
  unfold ja_X6_walkClasses_b15 at hr
  refine nk_p (i := .aload_n 0) (len := 1) (pc' := 16) mJ_393 (by decide +kernel) (ns_aload_n 0 rfl rfl) rfl ?_
  refine nk_getC (f := (2, 10, 0)) (x := 9) (len := 3) (ci := 6) (k := 0) (pc' := 19) ja_okT mJ_393 (by decide +kernel) (by decide +kernel) (by decide +kernel) (by decide) t_l0 rfl ?_
  have t1 : nk_cl ja_Tt (ja_c l0 0) = some 10 := nk_tc (y := 0) ja_okT t_l0 (by decide +kernel)
  refine nk_p (i := .iload_n 2) (len := 1) (pc' := 20) mJ_393 (by decide +kernel) (ns_iload_n 2 rfl rfl) rfl ?_
  obtain ⟨r2, S3, h4, hr⟩ := nk_bde hr
  refine nk_callV (ci := 10) (n := 1) (x := 39) (len := 3) (j' := 32) (q' := 1) (r := r2) (S' := S3) (L2 := [(0, nk_r (ja_c l0 0)), (1, nk_i l2)]) (rest := []) (st' := [nk_i r2]) (pc' := 23) mJ_393 (by decide +kernel) (by decide +kernel) rfl rfl t1 (Nat.le_of_ble_eq_true rfl) mJ_32 (Nat.le_of_ble_eq_true rfl) rfl (ja_X10_at_ok zs _ _ _ _ t1 h4) rfl ?_
  refine nk_p (i := .istore_n 3) (len := 1) (pc' := 24) mJ_393 (by decide +kernel) (ns_istore_n (L' := [(3, nk_i r2), (0, nk_r l0), (1, nk_i l1), (2, nk_i l2)]) rfl rfl rfl (by decide +kernel)) rfl ?_
  refine nk_p (i := .iload_n 3) (len := 1) (pc' := 25) mJ_393 (by decide +kernel) (ns_iload_n 0 rfl rfl) rfl ?_
  refine nk_p (i := .bipush 57) (len := 2) (pc' := 27) mJ_393 (by decide +kernel) (ns_bipush (c := 57) (by decide +kernel)) rfl ?_
  refine nk_icmp (c := .ne) (off := 9) (len := 3) (t := 36) (pc' := 30) mJ_393 (by decide +kernel) (by decide +kernel) rfl (fun hc => ?_) (fun hc => ?_)
  · have hr := nk_ifn (c := r2 = 57) hc hr
    refine nk_p (i := .iload_n 3) (len := 1) (pc' := 37) mJ_393 (by decide +kernel) (ns_iload_n 0 rfl rfl) rfl ?_
    refine nk_p (i := .bipush 58) (len := 2) (pc' := 39) mJ_393 (by decide +kernel) (ns_bipush (c := 58) (by decide +kernel)) rfl ?_
    refine nk_icmp (c := .ne) (off := 9) (len := 3) (t := 48) (pc' := 42) mJ_393 (by decide +kernel) (by decide +kernel) rfl (fun hc => ?_) (fun hc => ?_)
    · have hr := nk_ifn (c := r2 = 58) hc hr
      refine nk_p (i := .iload_n 1) (len := 1) (pc' := 49) mJ_393 (by decide +kernel) (ns_iload_n 2 rfl rfl) rfl ?_
      refine nk_icond (c := .ne) (off := 99) (len := 3) (t := 148) (pc' := 52) mJ_393 (by decide +kernel) (by decide +kernel) rfl (fun hc => ?_) (fun hc => ?_)
      · have hr := nk_ifn (c := l1 = 0) hc hr
        obtain ⟨v5, h6, hr⟩ := nk_lte hr
        refine nk_p (i := .iinc 2 1) (len := 3) (pc' := 151) mJ_393 (by decide +kernel) (ns_iinc (c := 1) (L' := [(2, nk_i v5), (3, nk_i r2), (0, nk_r l0), (1, nk_i l1)]) 3 rfl (by decide +kernel) h6 rfl (by decide +kernel)) rfl ?_
        refine nk_p (i := .goto (-147)) (len := 3) (pc' := 4) mJ_393 (by decide +kernel) (ns_goto (by decide +kernel)) rfl ?_
        refine nk_sub [2, 3, 0] (L' := [(0, nk_r l0), (1, nk_i l1), (2, nk_i v5)]) rfl ?_
        exact hrec4 _ _ _ _ _ t_l0 hr
      · have hr := nk_ifp (c := l1 = 0) (Decidable.of_not_not hc) hr
        refine nk_p (i := .aload_n 0) (len := 1) (pc' := 53) mJ_393 (by decide +kernel) (ns_aload_n 1 rfl rfl) rfl ?_
        refine nk_getC (f := (2, 10, 0)) (x := 9) (len := 3) (ci := 6) (k := 0) (pc' := 56) ja_okT mJ_393 (by decide +kernel) (by decide +kernel) (by decide +kernel) (by decide) t_l0 rfl ?_
        refine nk_p (i := .iload_n 2) (len := 1) (pc' := 57) mJ_393 (by decide +kernel) (ns_iload_n 3 rfl rfl) rfl ?_
        refine nk_p (i := .iconst 1) (len := 1) (pc' := 58) mJ_393 (by decide +kernel) (ns_iconst (c := 1) (by decide +kernel)) rfl ?_
        refine nk_p (i := .iadd) (len := 1) (pc' := 59) mJ_393 (by decide +kernel) ns_iadd rfl ?_
        obtain ⟨r7, S8, h9, hr⟩ := nk_bde hr
        refine nk_callV (ci := 10) (n := 1) (x := 39) (len := 3) (j' := 32) (q' := 1) (r := r7) (S' := S8) (L2 := [(0, nk_r (ja_c l0 0)), (1, nk_i (nk_w (l2 + 1)))]) (rest := []) (st' := [nk_i r7]) (pc' := 62) mJ_393 (by decide +kernel) (by decide +kernel) rfl rfl t1 (Nat.le_of_ble_eq_true rfl) mJ_32 (Nat.le_of_ble_eq_true rfl) rfl (ja_X10_at_ok zs _ _ _ _ t1 h9) rfl ?_
        refine nk_p (i := .istore 4) (len := 2) (pc' := 64) mJ_393 (by decide +kernel) (ns_istore (L' := [(4, nk_i r7), (3, nk_i r2), (0, nk_r l0), (1, nk_i l1), (2, nk_i l2)]) rfl rfl (by decide +kernel)) rfl ?_
        refine nk_p (i := .aload_n 0) (len := 1) (pc' := 65) mJ_393 (by decide +kernel) (ns_aload_n 2 rfl rfl) rfl ?_
        refine nk_getC (f := (2, 10, 0)) (x := 9) (len := 3) (ci := 6) (k := 0) (pc' := 68) ja_okT mJ_393 (by decide +kernel) (by decide +kernel) (by decide +kernel) (by decide) t_l0 rfl ?_
        refine nk_p (i := .aload_n 0) (len := 1) (pc' := 69) mJ_393 (by decide +kernel) (ns_aload_n 2 rfl rfl) rfl ?_
        refine nk_getC (f := (2, 10, 0)) (x := 9) (len := 3) (ci := 6) (k := 0) (pc' := 72) ja_okT mJ_393 (by decide +kernel) (by decide +kernel) (by decide +kernel) (by decide) t_l0 rfl ?_
        refine nk_p (i := .iload_n 2) (len := 1) (pc' := 73) mJ_393 (by decide +kernel) (ns_iload_n 4 rfl rfl) rfl ?_
        refine nk_p (i := .iconst 3) (len := 1) (pc' := 74) mJ_393 (by decide +kernel) (ns_iconst (c := 3) (by decide +kernel)) rfl ?_
        refine nk_p (i := .iadd) (len := 1) (pc' := 75) mJ_393 (by decide +kernel) ns_iadd rfl ?_
        obtain ⟨r10, S11, h12, hr⟩ := nk_bde hr
        refine nk_callV (ci := 10) (n := 1) (x := 39) (len := 3) (j' := 32) (q' := 1) (r := r10) (S' := S11) (L2 := [(0, nk_r (ja_c l0 0)), (1, nk_i (nk_w (l2 + 3)))]) (rest := [nk_r (ja_c l0 0)]) (st' := [nk_i r10, nk_r (ja_c l0 0)]) (pc' := 78) mJ_393 (by decide +kernel) (by decide +kernel) rfl rfl t1 (Nat.le_of_ble_eq_true rfl) mJ_32 (Nat.le_of_ble_eq_true rfl) rfl (ja_X10_at_ok zs _ _ _ _ t1 h12) rfl ?_
        obtain ⟨r13, S14, h15, hr⟩ := nk_bde hr
        refine nk_callV (ci := 10) (n := 1) (x := 101) (len := 3) (j' := 35) (q' := 1) (r := r13) (S' := S14) (L2 := [(0, nk_r (ja_c l0 0)), (1, nk_i r10)]) (rest := []) (st' := [nk_i r13]) (pc' := 81) mJ_393 (by decide +kernel) (by decide +kernel) rfl rfl t1 (Nat.le_of_ble_eq_true rfl) mJ_35 (Nat.le_of_ble_eq_true rfl) rfl (ja_X10_firstOf_ok zs _ _ _ _ t1 h15) rfl ?_
        refine nk_p (i := .istore 5) (len := 2) (pc' := 83) mJ_393 (by decide +kernel) (ns_istore (L' := [(5, nk_i r13), (4, nk_i r7), (3, nk_i r2), (0, nk_r l0), (1, nk_i l1), (2, nk_i l2)]) rfl rfl (by decide +kernel)) rfl ?_
        refine nk_p (i := .aload_n 0) (len := 1) (pc' := 84) mJ_393 (by decide +kernel) (ns_aload_n 3 rfl rfl) rfl ?_
        refine nk_getC (f := (2, 10, 0)) (x := 9) (len := 3) (ci := 6) (k := 0) (pc' := 87) ja_okT mJ_393 (by decide +kernel) (by decide +kernel) (by decide +kernel) (by decide) t_l0 rfl ?_
        refine nk_p (i := .iload 4) (len := 2) (pc' := 89) mJ_393 (by decide +kernel) (ns_iload 1 rfl) rfl ?_
        obtain ⟨r16, S17, h18, hr⟩ := nk_bde hr
        refine nk_callV (ci := 10) (n := 1) (x := 101) (len := 3) (j' := 35) (q' := 1) (r := r16) (S' := S17) (L2 := [(0, nk_r (ja_c l0 0)), (1, nk_i r7)]) (rest := []) (st' := [nk_i r16]) (pc' := 92) mJ_393 (by decide +kernel) (by decide +kernel) rfl rfl t1 (Nat.le_of_ble_eq_true rfl) mJ_35 (Nat.le_of_ble_eq_true rfl) rfl (ja_X10_firstOf_ok zs _ _ _ _ t1 h18) rfl ?_
        refine nk_icond (c := .ge) (off := 18) (len := 3) (t := 110) (pc' := 95) mJ_393 (by decide +kernel) (by decide +kernel) rfl (fun hc => ?_) (fun hc => ?_)
        · have hr := nk_ifp (c := 0 ≤ r16) hc hr
          refine nk_p (i := .iload_n 2) (len := 1) (pc' := 111) mJ_393 (by decide +kernel) (ns_iload_n 5 rfl rfl) rfl ?_
          refine nk_p (i := .iconst 1) (len := 1) (pc' := 112) mJ_393 (by decide +kernel) (ns_iconst (c := 1) (by decide +kernel)) rfl ?_
          refine nk_p (i := .iadd) (len := 1) (pc' := 113) mJ_393 (by decide +kernel) ns_iadd rfl ?_
          cases hr
          exact nk_iret (ty := .int) (len := 1) mJ_393 (by decide +kernel) rfl (nk_nar_i _)
        · have hr := nk_ifn (c := 0 ≤ r16) hc hr
          refine nk_p (i := .aload_n 0) (len := 1) (pc' := 96) mJ_393 (by decide +kernel) (ns_aload_n 3 rfl rfl) rfl ?_
          refine nk_getM (cj := 3) (z := 0) (x := 15) (len := 3) (ci := 6) (k := 1) (pc' := 99) ja_okT mJ_393 (by decide +kernel) (by decide +kernel) (by decide +kernel) t_l0 rfl (fun t19 => ?_)
          refine nk_getC (f := (2, 1, 0)) (x := 93) (len := 3) (ci := 3) (k := 0) (pc' := 102) ja_okT mJ_393 (by decide +kernel) (by decide +kernel) (by decide +kernel) (by decide) t19 rfl ?_
          have t20 : nk_cl ja_Tt (ja_c (S17.2 l0 1) 0) = some 1 := nk_tc (y := 0) ja_okT t19 (by decide +kernel)
          refine nk_getI (y := (0, 0)) (x := 110) (len := 3) (ci := 1) (k := 0) (pc' := 105) ja_okT mJ_393 (by decide +kernel) (by decide +kernel) (by decide +kernel) t20 rfl ?_
          refine nk_p (i := .bipush 32) (len := 2) (pc' := 107) mJ_393 (by decide +kernel) (ns_bipush (c := 32) (by decide +kernel)) rfl ?_
          refine nk_icmp (c := .lt) (off := 7) (len := 3) (t := 114) (pc' := 110) mJ_393 (by decide +kernel) (by decide +kernel) rfl (fun hc => ?_) (fun hc => ?_)
          · have hr := nk_ifp (c := (S17.1 (ja_c (S17.2 l0 1) 0) 0) < 32) hc hr
            refine nk_p (i := .iload 5) (len := 2) (pc' := 116) mJ_393 (by decide +kernel) (ns_iload 0 rfl) rfl ?_
            refine nk_icond (c := .ge) (off := 7) (len := 3) (t := 123) (pc' := 119) mJ_393 (by decide +kernel) (by decide +kernel) rfl (fun hc => ?_) (fun hc => ?_)
            · have hr := nk_ifp (c := 0 ≤ r13) hc hr
              refine nk_p (i := .aload_n 0) (len := 1) (pc' := 124) mJ_393 (by decide +kernel) (ns_aload_n 3 rfl rfl) rfl ?_
              refine nk_getC (f := (2, 10, 0)) (x := 9) (len := 3) (ci := 6) (k := 0) (pc' := 127) ja_okT mJ_393 (by decide +kernel) (by decide +kernel) (by decide +kernel) (by decide) t_l0 rfl ?_
              refine nk_p (i := .iload 4) (len := 2) (pc' := 129) mJ_393 (by decide +kernel) (ns_iload 1 rfl) rfl ?_
              refine nk_p (i := .aload_n 0) (len := 1) (pc' := 130) mJ_393 (by decide +kernel) (ns_aload_n 3 rfl rfl) rfl ?_
              refine nk_getM (cj := 3) (z := 0) (x := 15) (len := 3) (ci := 6) (k := 1) (pc' := 133) ja_okT mJ_393 (by decide +kernel) (by decide +kernel) (by decide +kernel) t_l0 rfl (fun t21 => ?_)
              refine nk_getC (f := (2, 1, 0)) (x := 93) (len := 3) (ci := 3) (k := 0) (pc' := 136) ja_okT mJ_393 (by decide +kernel) (by decide +kernel) (by decide +kernel) (by decide) t21 rfl ?_
              refine nk_p (i := .iload 5) (len := 2) (pc' := 138) mJ_393 (by decide +kernel) (ns_iload 0 rfl) rfl ?_
              obtain ⟨r22, S23, h24, hr⟩ := nk_bde hr
              refine nk_callV (ci := 1) (n := 1) (x := 113) (len := 3) (j' := 247) (q' := 1) (r := r22) (S' := S23) (L2 := [(0, nk_r (ja_c (S17.2 l0 1) 0)), (1, nk_i r13)]) (rest := [nk_i r7, nk_r (ja_c l0 0)]) (st' := [nk_i r22, nk_i r7, nk_r (ja_c l0 0)]) (pc' := 141) mJ_393 (by decide +kernel) (by decide +kernel) rfl rfl t20 (Nat.le_of_ble_eq_true rfl) mJ_247 (Nat.le_of_ble_eq_true rfl) rfl (ja_X1_add_ok zs _ _ _ _ t20 h24) rfl ?_
              refine nk_p (i := .iconst (-1)) (len := 1) (pc' := 142) mJ_393 (by decide +kernel) (ns_iconst (c := (-1)) (by decide +kernel)) rfl ?_
              obtain ⟨r25, S26, h27, hr⟩ := nk_bde hr
              refine nk_callV (ci := 10) (n := 3) (x := 116) (len := 3) (j' := 47) (q' := 0) (r := r25) (S' := S26) (L2 := [(0, nk_r (ja_c l0 0)), (1, nk_i r7), (2, nk_i r22), (3, nk_i (-1))]) (rest := []) (st' := []) (pc' := 145) mJ_393 (by decide +kernel) (by decide +kernel) rfl rfl t1 (Nat.le_of_ble_eq_true rfl) mJ_47 (Nat.le_of_ble_eq_true rfl) rfl (ja_X10_setMeaning_ok zs _ _ _ _ _ _ t1 h27) rfl ?_
              obtain ⟨v28, h29, hr⟩ := nk_lte hr
              refine nk_p (i := .iinc 2 3) (len := 3) (pc' := 148) mJ_393 (by decide +kernel) (ns_iinc (c := 3) (L' := [(2, nk_i v28), (5, nk_i r13), (4, nk_i r7), (3, nk_i r2), (0, nk_r l0), (1, nk_i l1)]) 5 rfl (by decide +kernel) h29 rfl (by decide +kernel)) rfl ?_
              obtain ⟨v30, h31, hr⟩ := nk_lte hr
              refine nk_p (i := .iinc 2 1) (len := 3) (pc' := 151) mJ_393 (by decide +kernel) (ns_iinc (c := 1) (L' := [(2, nk_i v30), (5, nk_i r13), (4, nk_i r7), (3, nk_i r2), (0, nk_r l0), (1, nk_i l1)]) 0 rfl (by decide +kernel) h31 rfl (by decide +kernel)) rfl ?_
              refine nk_p (i := .goto (-147)) (len := 3) (pc' := 4) mJ_393 (by decide +kernel) (ns_goto (by decide +kernel)) rfl ?_
              refine nk_sub [4, 5, 0] (L' := [(0, nk_r l0), (1, nk_i l1), (2, nk_i v30)]) rfl ?_
              exact hrec4 _ _ _ _ _ t_l0 hr
            · have hr := nk_ifn (c := 0 ≤ r13) hc hr
              refine nk_p (i := .iload_n 2) (len := 1) (pc' := 120) mJ_393 (by decide +kernel) (ns_iload_n 5 rfl rfl) rfl ?_
              refine nk_p (i := .iconst 3) (len := 1) (pc' := 121) mJ_393 (by decide +kernel) (ns_iconst (c := 3) (by decide +kernel)) rfl ?_
              refine nk_p (i := .iadd) (len := 1) (pc' := 122) mJ_393 (by decide +kernel) ns_iadd rfl ?_
              cases hr
              exact nk_iret (ty := .int) (len := 1) mJ_393 (by decide +kernel) rfl (nk_nar_i _)
          · have hr := nk_ifn (c := (S17.1 (ja_c (S17.2 l0 1) 0) 0) < 32) hc hr
            refine nk_p (i := .iload_n 2) (len := 1) (pc' := 111) mJ_393 (by decide +kernel) (ns_iload_n 5 rfl rfl) rfl ?_
            refine nk_p (i := .iconst 1) (len := 1) (pc' := 112) mJ_393 (by decide +kernel) (ns_iconst (c := 1) (by decide +kernel)) rfl ?_
            refine nk_p (i := .iadd) (len := 1) (pc' := 113) mJ_393 (by decide +kernel) ns_iadd rfl ?_
            cases hr
            exact nk_iret (ty := .int) (len := 1) mJ_393 (by decide +kernel) rfl (nk_nar_i _)
    · have hr := nk_ifp (c := r2 = 58) (Decidable.of_not_not hc) hr
      obtain ⟨v32, h33, hr⟩ := nk_lte hr
      refine nk_p (i := .iinc 1 (-1)) (len := 3) (pc' := 45) mJ_393 (by decide +kernel) (ns_iinc (c := (-1)) (L' := [(1, nk_i v32), (3, nk_i r2), (0, nk_r l0), (2, nk_i l2)]) 2 rfl (by decide +kernel) h33 rfl (by decide +kernel)) rfl ?_
      refine nk_p (i := .goto 103) (len := 3) (pc' := 148) mJ_393 (by decide +kernel) (ns_goto (by decide +kernel)) rfl ?_
      obtain ⟨v34, h35, hr⟩ := nk_lte hr
      refine nk_p (i := .iinc 2 1) (len := 3) (pc' := 151) mJ_393 (by decide +kernel) (ns_iinc (c := 1) (L' := [(2, nk_i v34), (1, nk_i v32), (3, nk_i r2), (0, nk_r l0)]) 3 rfl (by decide +kernel) h35 rfl (by decide +kernel)) rfl ?_
      refine nk_p (i := .goto (-147)) (len := 3) (pc' := 4) mJ_393 (by decide +kernel) (ns_goto (by decide +kernel)) rfl ?_
      refine nk_sub [3, 1, 0] (L' := [(0, nk_r l0), (1, nk_i v32), (2, nk_i v34)]) rfl ?_
      exact hrec4 _ _ _ _ _ t_l0 hr
  · have hr := nk_ifp (c := r2 = 57) (Decidable.of_not_not hc) hr
    obtain ⟨v36, h37, hr⟩ := nk_lte hr
    refine nk_p (i := .iinc 1 1) (len := 3) (pc' := 33) mJ_393 (by decide +kernel) (ns_iinc (c := 1) (L' := [(1, nk_i v36), (3, nk_i r2), (0, nk_r l0), (2, nk_i l2)]) 2 rfl (by decide +kernel) h37 rfl (by decide +kernel)) rfl ?_
    refine nk_p (i := .goto 115) (len := 3) (pc' := 148) mJ_393 (by decide +kernel) (ns_goto (by decide +kernel)) rfl ?_
    obtain ⟨v38, h39, hr⟩ := nk_lte hr
    refine nk_p (i := .iinc 2 1) (len := 3) (pc' := 151) mJ_393 (by decide +kernel) (ns_iinc (c := 1) (L' := [(2, nk_i v38), (1, nk_i v36), (3, nk_i r2), (0, nk_r l0)]) 3 rfl (by decide +kernel) h39 rfl (by decide +kernel)) rfl ?_
    refine nk_p (i := .goto (-147)) (len := 3) (pc' := 4) mJ_393 (by decide +kernel) (ns_goto (by decide +kernel)) rfl ?_
    refine nk_sub [3, 1, 0] (L' := [(0, nk_r l0), (1, nk_i v36), (2, nk_i v38)]) rfl ?_
    exact hrec4 _ _ _ _ _ t_l0 hr
noncomputable def ja_X6_walkClasses_b4 (rec4 : Nat → Int → Int → nk_S → Option (Int × nk_S)) (l0 : Nat) (l1 : Int) (l2 : Int) (S : nk_S) : Option (Int × nk_S) :=
  if (S.1 (ja_c l0 0) 4) ≤ l2 then
    some ((-1), S)
  else
    ja_X6_walkClasses_b15 rec4 l0 l1 l2 S
theorem ja_X6_walkClasses_b4_ok (zs : List Int32) {rec4 : Nat → Int → Int → nk_S → Option (Int × nk_S)} (hrec4 : ∀ (l0 : Nat) (l1 : Int) (l2 : Int) (S : nk_S) (R : Int × nk_S), nk_cl ja_Tt l0 = some 6 → rec4 l0 l1 l2 S = some R → nk_K ja_Tt mi_Γ (mi_ev zs) 1 393 4 [(0, nk_r l0), (1, nk_i l1), (2, nk_i l2)] [] S R) : ∀ (l0 : Nat) (l1 : Int) (l2 : Int) (S : nk_S) (R : Int × nk_S), nk_cl ja_Tt l0 = some 6 → ja_X6_walkClasses_b4 rec4 l0 l1 l2 S = some R → nk_K ja_Tt mi_Γ (mi_ev zs) 1 393 4 [(0, nk_r l0), (1, nk_i l1), (2, nk_i l2)] [] S R := by
  intro l0 l1 l2 S R t_l0 hr
  unfold ja_X6_walkClasses_b4 at hr
  refine nk_p (i := .iload_n 2) (len := 1) (pc' := 5) mJ_393 (by decide +kernel) (ns_iload_n 2 rfl rfl) rfl ?_
  refine nk_p (i := .aload_n 0) (len := 1) (pc' := 6) mJ_393 (by decide +kernel) (ns_aload_n 0 rfl rfl) rfl ?_
  refine nk_getC (f := (2, 10, 0)) (x := 9) (len := 3) (ci := 6) (k := 0) (pc' := 9) ja_okT mJ_393 (by decide +kernel) (by decide +kernel) (by decide +kernel) (by decide) t_l0 rfl ?_
  have t1 : nk_cl ja_Tt (ja_c l0 0) = some 10 := nk_tc (y := 0) ja_okT t_l0 (by decide +kernel)
  refine nk_getI (y := (0, 0)) (x := 23) (len := 3) (ci := 10) (k := 4) (pc' := 12) ja_okT mJ_393 (by decide +kernel) (by decide +kernel) (by decide +kernel) t1 rfl ?_
  refine nk_icmp (c := .ge) (off := 142) (len := 3) (t := 154) (pc' := 15) mJ_393 (by decide +kernel) (by decide +kernel) rfl (fun hc => ?_) (fun hc => ?_)
  · have hr := nk_ifp (c := (S.1 (ja_c l0 0) 4) ≤ l2) hc hr
    refine nk_p (i := .iconst (-1)) (len := 1) (pc' := 155) mJ_393 (by decide +kernel) (ns_iconst (c := (-1)) (by decide +kernel)) rfl ?_
    cases hr
    exact nk_iret (ty := .int) (len := 1) mJ_393 (by decide +kernel) rfl (nk_nar_i _)
  · have hr := nk_ifn (c := (S.1 (ja_c l0 0) 4) ≤ l2) hc hr
    exact ja_X6_walkClasses_b15_ok zs hrec4 _ _ _ _ _ t_l0 hr
noncomputable def ja_X6_walkClasses_L4 : Nat → Nat → Int → Int → nk_S → Option (Int × nk_S)
  | 0, _, _, _, _ => none
  | n + 1, l0, l1, l2, S => ja_X6_walkClasses_b4 (ja_X6_walkClasses_L4 n) l0 l1 l2 S
theorem ja_X6_walkClasses_L4_ok (zs : List Int32) : ∀ n : Nat, ∀ (l0 : Nat) (l1 : Int) (l2 : Int) (S : nk_S) (R : Int × nk_S), nk_cl ja_Tt l0 = some 6 → ja_X6_walkClasses_L4 n l0 l1 l2 S = some R → nk_K ja_Tt mi_Γ (mi_ev zs) 1 393 4 [(0, nk_r l0), (1, nk_i l1), (2, nk_i l2)] [] S R := by
  intro n
  induction n with
  | zero => intro _ _ _ _ _ _ hr; cases hr
  | succ n ih => intro l0 l1 l2 S R t_l0 hr; exact ja_X6_walkClasses_b4_ok zs ih l0 l1 l2 S R t_l0 hr
noncomputable def ja_X6_walkClasses (l0 : Nat) (S : nk_S) : Option (Int × nk_S) :=
  ja_X6_walkClasses_L4 nk_big l0 0 0 S
theorem ja_X6_walkClasses_ok (zs : List Int32) : ∀ (l0 : Nat) (S : nk_S) (R : Int × nk_S), nk_cl ja_Tt l0 = some 6 → ja_X6_walkClasses l0 S = some R → nk_K ja_Tt mi_Γ (mi_ev zs) 1 393 0 [(0, nk_r l0)] [] S R := by
  intro l0 S R t_l0 hr
  unfold ja_X6_walkClasses at hr
  refine nk_p (i := .iconst 0) (len := 1) (pc' := 1) mJ_393 (by decide +kernel) (ns_iconst (c := 0) (by decide +kernel)) rfl ?_
  refine nk_p (i := .istore_n 1) (len := 1) (pc' := 2) mJ_393 (by decide +kernel) (ns_istore_n (L' := [(1, nk_i 0), (0, nk_r l0)]) rfl rfl rfl (by decide +kernel)) rfl ?_
  refine nk_p (i := .iconst 0) (len := 1) (pc' := 3) mJ_393 (by decide +kernel) (ns_iconst (c := 0) (by decide +kernel)) rfl ?_
  refine nk_p (i := .istore_n 2) (len := 1) (pc' := 4) mJ_393 (by decide +kernel) (ns_istore_n (L' := [(2, nk_i 0), (1, nk_i 0), (0, nk_r l0)]) rfl rfl rfl (by decide +kernel)) rfl ?_
  refine nk_sub [2, 1, 0] (L' := [(0, nk_r l0), (1, nk_i 0), (2, nk_i 0)]) rfl ?_
  exact ja_X6_walkClasses_L4_ok zs nk_big _ _ _ _ _ t_l0 hr
/-! SafeCode$Classes findField (II)I -/
noncomputable def ja_X1_findField_b2 (rec2 : Nat → Int → Int → Int → nk_S → Option (Int × nk_S)) (l0 : Nat) (l1 : Int) (l2 : Int) (l3 : Int) (S : nk_S) : Option (Int × nk_S) :=
  if (S.1 l0 4) ≤ l3 then
    some ((-1), S)
  else
    if 0 ≤ l3 ∧ l3 < 48 then
    if (S.1 (ja_c l0 5) l3.toNat) = l2 then
      nk_bd (ja_X1_isAbove l0 (S.1 (ja_c l0 6) l3.toNat) l1 S) fun r6 S7 =>
      if r6 = 0 then
        nk_lt (nk_w (l3 + 1)) fun v9 =>
        rec2 l0 l1 l2 v9 S7
      else
        some (l3, S7)
    else
      nk_lt (nk_w (l3 + 1)) fun v3 =>
      rec2 l0 l1 l2 v3 S
    else none
theorem ja_X1_findField_b2_ok (zs : List Int32) {rec2 : Nat → Int → Int → Int → nk_S → Option (Int × nk_S)} (hrec2 : ∀ (l0 : Nat) (l1 : Int) (l2 : Int) (l3 : Int) (S : nk_S) (R : Int × nk_S), nk_cl ja_Tt l0 = some 1 → rec2 l0 l1 l2 l3 S = some R → nk_K ja_Tt mi_Γ (mi_ev zs) 1 252 2 [(0, nk_r l0), (1, nk_i l1), (2, nk_i l2), (3, nk_i l3)] [] S R) : ∀ (l0 : Nat) (l1 : Int) (l2 : Int) (l3 : Int) (S : nk_S) (R : Int × nk_S), nk_cl ja_Tt l0 = some 1 → ja_X1_findField_b2 rec2 l0 l1 l2 l3 S = some R → nk_K ja_Tt mi_Γ (mi_ev zs) 1 252 2 [(0, nk_r l0), (1, nk_i l1), (2, nk_i l2), (3, nk_i l3)] [] S R := by
  intro l0 l1 l2 l3 S R t_l0 hr
  unfold ja_X1_findField_b2 at hr
  refine nk_p (i := .iload_n 3) (len := 1) (pc' := 3) mJ_252 (by decide +kernel) (ns_iload_n 3 rfl rfl) rfl ?_
  refine nk_p (i := .aload_n 0) (len := 1) (pc' := 4) mJ_252 (by decide +kernel) (ns_aload_n 0 rfl rfl) rfl ?_
  refine nk_getI (y := (0, 0)) (x := 37) (len := 3) (ci := 1) (k := 4) (pc' := 7) ja_okT mJ_252 (by decide +kernel) (by decide +kernel) (by decide +kernel) t_l0 rfl ?_
  refine nk_icmp (c := .ge) (off := 35) (len := 3) (t := 42) (pc' := 10) mJ_252 (by decide +kernel) (by decide +kernel) rfl (fun hc => ?_) (fun hc => ?_)
  · have hr := nk_ifp (c := (S.1 l0 4) ≤ l3) hc hr
    refine nk_p (i := .iconst (-1)) (len := 1) (pc' := 43) mJ_252 (by decide +kernel) (ns_iconst (c := (-1)) (by decide +kernel)) rfl ?_
    cases hr
    exact nk_iret (ty := .int) (len := 1) mJ_252 (by decide +kernel) rfl (nk_nar_i _)
  · have hr := nk_ifn (c := (S.1 l0 4) ≤ l3) hc hr
    refine nk_p (i := .aload_n 0) (len := 1) (pc' := 11) mJ_252 (by decide +kernel) (ns_aload_n 0 rfl rfl) rfl ?_
    refine nk_getC (f := (4, 1, 48)) (x := 21) (len := 3) (ci := 1) (k := 5) (pc' := 14) ja_okT mJ_252 (by decide +kernel) (by decide +kernel) (by decide +kernel) (by decide) t_l0 rfl ?_
    have t1 : nk_ar ja_Tt (ja_c l0 5) = some (1, 48) := nk_ta ja_okT t_l0 (by decide +kernel)
    refine nk_p (i := .iload_n 3) (len := 1) (pc' := 15) mJ_252 (by decide +kernel) (ns_iload_n 3 rfl rfl) rfl ?_
    obtain ⟨h2, hr⟩ := nk_cke hr
    refine nk_iald (len := 1) (N := 48) (pc' := 16) mJ_252 (by decide +kernel) t1 h2.1 h2.2 rfl rfl ?_
    refine nk_p (i := .iload_n 2) (len := 1) (pc' := 17) mJ_252 (by decide +kernel) (ns_iload_n 2 rfl rfl) rfl ?_
    refine nk_icmp (c := .ne) (off := 19) (len := 3) (t := 36) (pc' := 20) mJ_252 (by decide +kernel) (by decide +kernel) rfl (fun hc => ?_) (fun hc => ?_)
    · have hr := nk_ifn (c := (S.1 (ja_c l0 5) l3.toNat) = l2) hc hr
      obtain ⟨v3, h4, hr⟩ := nk_lte hr
      refine nk_p (i := .iinc 3 1) (len := 3) (pc' := 39) mJ_252 (by decide +kernel) (ns_iinc (c := 1) (L' := [(3, nk_i v3), (0, nk_r l0), (1, nk_i l1), (2, nk_i l2)]) 3 rfl (by decide +kernel) h4 rfl (by decide +kernel)) rfl ?_
      refine nk_p (i := .goto (-37)) (len := 3) (pc' := 2) mJ_252 (by decide +kernel) (ns_goto (by decide +kernel)) rfl ?_
      refine nk_sub [1, 2, 3, 0] (L' := [(0, nk_r l0), (1, nk_i l1), (2, nk_i l2), (3, nk_i v3)]) rfl ?_
      exact hrec2 _ _ _ _ _ _ t_l0 hr
    · have hr := nk_ifp (c := (S.1 (ja_c l0 5) l3.toNat) = l2) (Decidable.of_not_not hc) hr
      refine nk_p (i := .aload_n 0) (len := 1) (pc' := 21) mJ_252 (by decide +kernel) (ns_aload_n 0 rfl rfl) rfl ?_
      refine nk_p (i := .aload_n 0) (len := 1) (pc' := 22) mJ_252 (by decide +kernel) (ns_aload_n 0 rfl rfl) rfl ?_
      refine nk_getC (f := (4, 1, 48)) (x := 24) (len := 3) (ci := 1) (k := 6) (pc' := 25) ja_okT mJ_252 (by decide +kernel) (by decide +kernel) (by decide +kernel) (by decide) t_l0 rfl ?_
      have t5 : nk_ar ja_Tt (ja_c l0 6) = some (1, 48) := nk_ta ja_okT t_l0 (by decide +kernel)
      refine nk_p (i := .iload_n 3) (len := 1) (pc' := 26) mJ_252 (by decide +kernel) (ns_iload_n 3 rfl rfl) rfl ?_
      refine nk_iald (len := 1) (N := 48) (pc' := 27) mJ_252 (by decide +kernel) t5 h2.1 h2.2 rfl rfl ?_
      refine nk_p (i := .iload_n 1) (len := 1) (pc' := 28) mJ_252 (by decide +kernel) (ns_iload_n 1 rfl rfl) rfl ?_
      obtain ⟨r6, S7, h8, hr⟩ := nk_bde hr
      refine nk_callV (ci := 1) (n := 2) (x := 50) (len := 3) (j' := 254) (q' := 1) (r := r6) (S' := S7) (L2 := [(0, nk_r l0), (1, nk_i (S.1 (ja_c l0 6) l3.toNat)), (2, nk_i l1)]) (rest := []) (st' := [nk_i r6]) (pc' := 31) mJ_252 (by decide +kernel) (by decide +kernel) rfl rfl t_l0 (Nat.le_of_ble_eq_true rfl) mJ_254 (Nat.le_of_ble_eq_true rfl) rfl (ja_X1_isAbove_ok zs _ _ _ _ _ t_l0 h8) rfl ?_
      refine nk_icond (c := .eq) (off := 5) (len := 3) (t := 36) (pc' := 34) mJ_252 (by decide +kernel) (by decide +kernel) rfl (fun hc => ?_) (fun hc => ?_)
      · have hr := nk_ifp (c := r6 = 0) hc hr
        obtain ⟨v9, h10, hr⟩ := nk_lte hr
        refine nk_p (i := .iinc 3 1) (len := 3) (pc' := 39) mJ_252 (by decide +kernel) (ns_iinc (c := 1) (L' := [(3, nk_i v9), (0, nk_r l0), (1, nk_i l1), (2, nk_i l2)]) 3 rfl (by decide +kernel) h10 rfl (by decide +kernel)) rfl ?_
        refine nk_p (i := .goto (-37)) (len := 3) (pc' := 2) mJ_252 (by decide +kernel) (ns_goto (by decide +kernel)) rfl ?_
        refine nk_sub [1, 2, 3, 0] (L' := [(0, nk_r l0), (1, nk_i l1), (2, nk_i l2), (3, nk_i v9)]) rfl ?_
        exact hrec2 _ _ _ _ _ _ t_l0 hr
      · have hr := nk_ifn (c := r6 = 0) hc hr
        refine nk_p (i := .iload_n 3) (len := 1) (pc' := 35) mJ_252 (by decide +kernel) (ns_iload_n 3 rfl rfl) rfl ?_
        cases hr
        exact nk_iret (ty := .int) (len := 1) mJ_252 (by decide +kernel) rfl (nk_nar_i _)
noncomputable def ja_X1_findField_L2 : Nat → Nat → Int → Int → Int → nk_S → Option (Int × nk_S)
  | 0, _, _, _, _, _ => none
  | n + 1, l0, l1, l2, l3, S => ja_X1_findField_b2 (ja_X1_findField_L2 n) l0 l1 l2 l3 S
theorem ja_X1_findField_L2_ok (zs : List Int32) : ∀ n : Nat, ∀ (l0 : Nat) (l1 : Int) (l2 : Int) (l3 : Int) (S : nk_S) (R : Int × nk_S), nk_cl ja_Tt l0 = some 1 → ja_X1_findField_L2 n l0 l1 l2 l3 S = some R → nk_K ja_Tt mi_Γ (mi_ev zs) 1 252 2 [(0, nk_r l0), (1, nk_i l1), (2, nk_i l2), (3, nk_i l3)] [] S R := by
  intro n
  induction n with
  | zero => intro _ _ _ _ _ _ _ hr; cases hr
  | succ n ih => intro l0 l1 l2 l3 S R t_l0 hr; exact ja_X1_findField_b2_ok zs ih l0 l1 l2 l3 S R t_l0 hr
noncomputable def ja_X1_findField (l0 : Nat) (l1 : Int) (l2 : Int) (S : nk_S) : Option (Int × nk_S) :=
  ja_X1_findField_L2 nk_big l0 l1 l2 0 S
theorem ja_X1_findField_ok (zs : List Int32) : ∀ (l0 : Nat) (l1 : Int) (l2 : Int) (S : nk_S) (R : Int × nk_S), nk_cl ja_Tt l0 = some 1 → ja_X1_findField l0 l1 l2 S = some R → nk_K ja_Tt mi_Γ (mi_ev zs) 1 252 0 [(0, nk_r l0), (1, nk_i l1), (2, nk_i l2)] [] S R := by
  intro l0 l1 l2 S R t_l0 hr
  unfold ja_X1_findField at hr
  refine nk_p (i := .iconst 0) (len := 1) (pc' := 1) mJ_252 (by decide +kernel) (ns_iconst (c := 0) (by decide +kernel)) rfl ?_
  refine nk_p (i := .istore_n 3) (len := 1) (pc' := 2) mJ_252 (by decide +kernel) (ns_istore_n (L' := [(3, nk_i 0), (0, nk_r l0), (1, nk_i l1), (2, nk_i l2)]) rfl rfl rfl (by decide +kernel)) rfl ?_
  refine nk_sub [1, 2, 3, 0] (L' := [(0, nk_r l0), (1, nk_i l1), (2, nk_i l2), (3, nk_i 0)]) rfl ?_
  exact ja_X1_findField_L2_ok zs nk_big _ _ _ _ _ _ t_l0 hr
/-! SafeCode$Classes addField (III)V -/
noncomputable def ja_X1_addField (l0 : Nat) (l1 : Int) (l2 : Int) (l3 : Int) (S : nk_S) : Option (Int × nk_S) :=
  if (S.1 l0 4) < 48 then
    if 0 ≤ (S.1 l0 4) ∧ (S.1 l0 4) < 48 then
    nk_lt (nk_wi S (ja_c l0 5) (S.1 l0 4).toNat l2) fun S3 =>
    if 0 ≤ (S3.1 l0 4) ∧ (S3.1 l0 4) < 48 then
    nk_lt (nk_wi S3 (ja_c l0 6) (S3.1 l0 4).toNat l1) fun S7 =>
    if 0 ≤ (S7.1 l0 4) ∧ (S7.1 l0 4) < 48 then
    nk_lt (nk_wi S7 (ja_c l0 7) (S7.1 l0 4).toNat l3) fun S11 =>
    nk_lt (nk_wi S11 l0 4 (nk_w ((S11.1 l0 4) + 1))) fun S13 =>
    some (0, S13)
    else none
    else none
    else none
  else
    some (0, S)
theorem ja_X1_addField_ok (zs : List Int32) : ∀ (l0 : Nat) (l1 : Int) (l2 : Int) (l3 : Int) (S : nk_S) (R : Int × nk_S), nk_cl ja_Tt l0 = some 1 → ja_X1_addField l0 l1 l2 l3 S = some R → nk_K ja_Tt mi_Γ (mi_ev zs) 0 248 0 [(0, nk_r l0), (1, nk_i l1), (2, nk_i l2), (3, nk_i l3)] [] S R := by
  intro l0 l1 l2 l3 S R t_l0 hr
  unfold ja_X1_addField at hr
  refine nk_p (i := .aload_n 0) (len := 1) (pc' := 1) mJ_248 (by decide +kernel) (ns_aload_n 0 rfl rfl) rfl ?_
  refine nk_getI (y := (0, 0)) (x := 37) (len := 3) (ci := 1) (k := 4) (pc' := 4) ja_okT mJ_248 (by decide +kernel) (by decide +kernel) (by decide +kernel) t_l0 rfl ?_
  refine nk_p (i := .bipush 48) (len := 2) (pc' := 6) mJ_248 (by decide +kernel) (ns_bipush (c := 48) (by decide +kernel)) rfl ?_
  refine nk_icmp (c := .lt) (off := 4) (len := 3) (t := 10) (pc' := 9) mJ_248 (by decide +kernel) (by decide +kernel) rfl (fun hc => ?_) (fun hc => ?_)
  · have hr := nk_ifp (c := (S.1 l0 4) < 48) hc hr
    refine nk_p (i := .aload_n 0) (len := 1) (pc' := 11) mJ_248 (by decide +kernel) (ns_aload_n 0 rfl rfl) rfl ?_
    refine nk_getC (f := (4, 1, 48)) (x := 21) (len := 3) (ci := 1) (k := 5) (pc' := 14) ja_okT mJ_248 (by decide +kernel) (by decide +kernel) (by decide +kernel) (by decide) t_l0 rfl ?_
    have t1 : nk_ar ja_Tt (ja_c l0 5) = some (1, 48) := nk_ta ja_okT t_l0 (by decide +kernel)
    refine nk_p (i := .aload_n 0) (len := 1) (pc' := 15) mJ_248 (by decide +kernel) (ns_aload_n 0 rfl rfl) rfl ?_
    refine nk_getI (y := (0, 0)) (x := 37) (len := 3) (ci := 1) (k := 4) (pc' := 18) ja_okT mJ_248 (by decide +kernel) (by decide +kernel) (by decide +kernel) t_l0 rfl ?_
    refine nk_p (i := .iload_n 2) (len := 1) (pc' := 19) mJ_248 (by decide +kernel) (ns_iload_n 2 rfl rfl) rfl ?_
    obtain ⟨h2, hr⟩ := nk_cke hr
    obtain ⟨S3, h4, hr⟩ := nk_lte hr
    refine nk_iast (len := 1) (N := 48) (pc' := 20) mJ_248 (by decide +kernel) t1 h2.1 h2.2 rfl rfl h4 ?_
    refine nk_p (i := .aload_n 0) (len := 1) (pc' := 21) mJ_248 (by decide +kernel) (ns_aload_n 0 rfl rfl) rfl ?_
    refine nk_getC (f := (4, 1, 48)) (x := 24) (len := 3) (ci := 1) (k := 6) (pc' := 24) ja_okT mJ_248 (by decide +kernel) (by decide +kernel) (by decide +kernel) (by decide) t_l0 rfl ?_
    have t5 : nk_ar ja_Tt (ja_c l0 6) = some (1, 48) := nk_ta ja_okT t_l0 (by decide +kernel)
    refine nk_p (i := .aload_n 0) (len := 1) (pc' := 25) mJ_248 (by decide +kernel) (ns_aload_n 0 rfl rfl) rfl ?_
    refine nk_getI (y := (0, 0)) (x := 37) (len := 3) (ci := 1) (k := 4) (pc' := 28) ja_okT mJ_248 (by decide +kernel) (by decide +kernel) (by decide +kernel) t_l0 rfl ?_
    refine nk_p (i := .iload_n 1) (len := 1) (pc' := 29) mJ_248 (by decide +kernel) (ns_iload_n 1 rfl rfl) rfl ?_
    obtain ⟨h6, hr⟩ := nk_cke hr
    obtain ⟨S7, h8, hr⟩ := nk_lte hr
    refine nk_iast (len := 1) (N := 48) (pc' := 30) mJ_248 (by decide +kernel) t5 h6.1 h6.2 rfl rfl h8 ?_
    refine nk_p (i := .aload_n 0) (len := 1) (pc' := 31) mJ_248 (by decide +kernel) (ns_aload_n 0 rfl rfl) rfl ?_
    refine nk_getC (f := (4, 1, 48)) (x := 27) (len := 3) (ci := 1) (k := 7) (pc' := 34) ja_okT mJ_248 (by decide +kernel) (by decide +kernel) (by decide +kernel) (by decide) t_l0 rfl ?_
    have t9 : nk_ar ja_Tt (ja_c l0 7) = some (1, 48) := nk_ta ja_okT t_l0 (by decide +kernel)
    refine nk_p (i := .aload_n 0) (len := 1) (pc' := 35) mJ_248 (by decide +kernel) (ns_aload_n 0 rfl rfl) rfl ?_
    refine nk_getI (y := (0, 0)) (x := 37) (len := 3) (ci := 1) (k := 4) (pc' := 38) ja_okT mJ_248 (by decide +kernel) (by decide +kernel) (by decide +kernel) t_l0 rfl ?_
    refine nk_p (i := .iload_n 3) (len := 1) (pc' := 39) mJ_248 (by decide +kernel) (ns_iload_n 3 rfl rfl) rfl ?_
    obtain ⟨h10, hr⟩ := nk_cke hr
    obtain ⟨S11, h12, hr⟩ := nk_lte hr
    refine nk_iast (len := 1) (N := 48) (pc' := 40) mJ_248 (by decide +kernel) t9 h10.1 h10.2 rfl rfl h12 ?_
    refine nk_p (i := .aload_n 0) (len := 1) (pc' := 41) mJ_248 (by decide +kernel) (ns_aload_n 0 rfl rfl) rfl ?_
    refine nk_p (i := .dup) (len := 1) (pc' := 42) mJ_248 (by decide +kernel) (ns_dup rfl) rfl ?_
    refine nk_getI (y := (0, 0)) (x := 37) (len := 3) (ci := 1) (k := 4) (pc' := 45) ja_okT mJ_248 (by decide +kernel) (by decide +kernel) (by decide +kernel) t_l0 rfl ?_
    refine nk_p (i := .iconst 1) (len := 1) (pc' := 46) mJ_248 (by decide +kernel) (ns_iconst (c := 1) (by decide +kernel)) rfl ?_
    refine nk_p (i := .iadd) (len := 1) (pc' := 47) mJ_248 (by decide +kernel) ns_iadd rfl ?_
    obtain ⟨S13, h14, hr⟩ := nk_lte hr
    refine nk_putI (y := (0, 0)) (ty := .int) (x := 37) (len := 3) (ci := 1) (k := 4) (pc' := 50) ja_okT mJ_248 (by decide +kernel) (by decide +kernel) (by decide +kernel) t_l0 (Or.inl rfl) rfl h14 ?_
    cases hr
    exact nk_vret (len := 1) mJ_248 (by decide +kernel) rfl
  · have hr := nk_ifn (c := (S.1 l0 4) < 48) hc hr
    cases hr
    exact nk_vret (len := 1) mJ_248 (by decide +kernel) rfl
/-! SafeCode$Reader resolveField (II)I -/
noncomputable def ja_X6_resolveField (l0 : Nat) (l1 : Int) (l2 : Int) (S : nk_S) : Option (Int × nk_S) :=
  nk_bd (ja_X10_at (ja_c l0 0) (nk_w (l1 + 1)) S) fun r4 S5 =>
  nk_bd (ja_X10_at (ja_c l0 0) (nk_w (l1 + 2)) S5) fun r7 S8 =>
  nk_bd (ja_X10_typeOf (ja_c l0 0) r7 S8) fun r10 S11 =>
  nk_bd (ja_X1_findField (ja_c (S.2 l0 1) 0) l2 r4 S11) fun r13 S14 =>
  if 0 ≤ r13 then
    some ((nk_w (l1 + 1)), S14)
  else
    if (S14.1 (ja_c (S.2 l0 1) 0) 4) < 48 then
      if r10 = (-2) then
        some ((nk_w (l1 + 2)), S14)
      else
        nk_bd (ja_X1_addField (ja_c (S.2 l0 1) 0) l2 r4 r10 S14) fun r16 S17 =>
        some ((-1), S17)
    else
      some ((nk_w (l1 + 1)), S14)
theorem ja_X6_resolveField_ok (zs : List Int32) : ∀ (l0 : Nat) (l1 : Int) (l2 : Int) (S : nk_S) (R : Int × nk_S), nk_cl ja_Tt l0 = some 6 → ja_X6_resolveField l0 l1 l2 S = some R → nk_K ja_Tt mi_Γ (mi_ev zs) 1 379 0 [(0, nk_r l0), (1, nk_i l1), (2, nk_i l2)] [] S R := by
  intro l0 l1 l2 S R t_l0 hr
  unfold ja_X6_resolveField at hr
  refine nk_p (i := .aload_n 0) (len := 1) (pc' := 1) mJ_379 (by decide +kernel) (ns_aload_n 0 rfl rfl) rfl ?_
  refine nk_getM (cj := 3) (z := 0) (x := 15) (len := 3) (ci := 6) (k := 1) (pc' := 4) ja_okT mJ_379 (by decide +kernel) (by decide +kernel) (by decide +kernel) t_l0 rfl (fun t1 => ?_)
  refine nk_getC (f := (2, 1, 0)) (x := 93) (len := 3) (ci := 3) (k := 0) (pc' := 7) ja_okT mJ_379 (by decide +kernel) (by decide +kernel) (by decide +kernel) (by decide) t1 rfl ?_
  have t2 : nk_cl ja_Tt (ja_c (S.2 l0 1) 0) = some 1 := nk_tc (y := 0) ja_okT t1 (by decide +kernel)
  refine nk_p (i := .astore_n 3) (len := 1) (pc' := 8) mJ_379 (by decide +kernel) (ns_astore_n (L' := [(3, nk_r (ja_c (S.2 l0 1) 0)), (0, nk_r l0), (1, nk_i l1), (2, nk_i l2)]) rfl rfl (by decide +kernel)) rfl ?_
  refine nk_p (i := .aload_n 0) (len := 1) (pc' := 9) mJ_379 (by decide +kernel) (ns_aload_n 1 rfl rfl) rfl ?_
  refine nk_getC (f := (2, 10, 0)) (x := 9) (len := 3) (ci := 6) (k := 0) (pc' := 12) ja_okT mJ_379 (by decide +kernel) (by decide +kernel) (by decide +kernel) (by decide) t_l0 rfl ?_
  have t3 : nk_cl ja_Tt (ja_c l0 0) = some 10 := nk_tc (y := 0) ja_okT t_l0 (by decide +kernel)
  refine nk_p (i := .iload_n 1) (len := 1) (pc' := 13) mJ_379 (by decide +kernel) (ns_iload_n 2 rfl rfl) rfl ?_
  refine nk_p (i := .iconst 1) (len := 1) (pc' := 14) mJ_379 (by decide +kernel) (ns_iconst (c := 1) (by decide +kernel)) rfl ?_
  refine nk_p (i := .iadd) (len := 1) (pc' := 15) mJ_379 (by decide +kernel) ns_iadd rfl ?_
  obtain ⟨r4, S5, h6, hr⟩ := nk_bde hr
  refine nk_callV (ci := 10) (n := 1) (x := 39) (len := 3) (j' := 32) (q' := 1) (r := r4) (S' := S5) (L2 := [(0, nk_r (ja_c l0 0)), (1, nk_i (nk_w (l1 + 1)))]) (rest := []) (st' := [nk_i r4]) (pc' := 18) mJ_379 (by decide +kernel) (by decide +kernel) rfl rfl t3 (Nat.le_of_ble_eq_true rfl) mJ_32 (Nat.le_of_ble_eq_true rfl) rfl (ja_X10_at_ok zs _ _ _ _ t3 h6) rfl ?_
  refine nk_p (i := .istore 4) (len := 2) (pc' := 20) mJ_379 (by decide +kernel) (ns_istore (L' := [(4, nk_i r4), (3, nk_r (ja_c (S.2 l0 1) 0)), (0, nk_r l0), (1, nk_i l1), (2, nk_i l2)]) rfl rfl (by decide +kernel)) rfl ?_
  refine nk_p (i := .aload_n 0) (len := 1) (pc' := 21) mJ_379 (by decide +kernel) (ns_aload_n 2 rfl rfl) rfl ?_
  refine nk_getC (f := (2, 10, 0)) (x := 9) (len := 3) (ci := 6) (k := 0) (pc' := 24) ja_okT mJ_379 (by decide +kernel) (by decide +kernel) (by decide +kernel) (by decide) t_l0 rfl ?_
  refine nk_p (i := .aload_n 0) (len := 1) (pc' := 25) mJ_379 (by decide +kernel) (ns_aload_n 2 rfl rfl) rfl ?_
  refine nk_getC (f := (2, 10, 0)) (x := 9) (len := 3) (ci := 6) (k := 0) (pc' := 28) ja_okT mJ_379 (by decide +kernel) (by decide +kernel) (by decide +kernel) (by decide) t_l0 rfl ?_
  refine nk_p (i := .iload_n 1) (len := 1) (pc' := 29) mJ_379 (by decide +kernel) (ns_iload_n 3 rfl rfl) rfl ?_
  refine nk_p (i := .iconst 2) (len := 1) (pc' := 30) mJ_379 (by decide +kernel) (ns_iconst (c := 2) (by decide +kernel)) rfl ?_
  refine nk_p (i := .iadd) (len := 1) (pc' := 31) mJ_379 (by decide +kernel) ns_iadd rfl ?_
  obtain ⟨r7, S8, h9, hr⟩ := nk_bde hr
  refine nk_callV (ci := 10) (n := 1) (x := 39) (len := 3) (j' := 32) (q' := 1) (r := r7) (S' := S8) (L2 := [(0, nk_r (ja_c l0 0)), (1, nk_i (nk_w (l1 + 2)))]) (rest := [nk_r (ja_c l0 0)]) (st' := [nk_i r7, nk_r (ja_c l0 0)]) (pc' := 34) mJ_379 (by decide +kernel) (by decide +kernel) rfl rfl t3 (Nat.le_of_ble_eq_true rfl) mJ_32 (Nat.le_of_ble_eq_true rfl) rfl (ja_X10_at_ok zs _ _ _ _ t3 h9) rfl ?_
  obtain ⟨r10, S11, h12, hr⟩ := nk_bde hr
  refine nk_callV (ci := 10) (n := 1) (x := 127) (len := 3) (j' := 51) (q' := 1) (r := r10) (S' := S11) (L2 := [(0, nk_r (ja_c l0 0)), (1, nk_i r7)]) (rest := []) (st' := [nk_i r10]) (pc' := 37) mJ_379 (by decide +kernel) (by decide +kernel) rfl rfl t3 (Nat.le_of_ble_eq_true rfl) mJ_51 (Nat.le_of_ble_eq_true rfl) rfl (ja_X10_typeOf_ok zs _ _ _ _ t3 h12) rfl ?_
  refine nk_p (i := .istore 5) (len := 2) (pc' := 39) mJ_379 (by decide +kernel) (ns_istore (L' := [(5, nk_i r10), (4, nk_i r4), (3, nk_r (ja_c (S.2 l0 1) 0)), (0, nk_r l0), (1, nk_i l1), (2, nk_i l2)]) rfl rfl (by decide +kernel)) rfl ?_
  refine nk_p (i := .aload_n 3) (len := 1) (pc' := 40) mJ_379 (by decide +kernel) (ns_aload_n 2 rfl rfl) rfl ?_
  refine nk_p (i := .iload_n 2) (len := 1) (pc' := 41) mJ_379 (by decide +kernel) (ns_iload_n 5 rfl rfl) rfl ?_
  refine nk_p (i := .iload 4) (len := 2) (pc' := 43) mJ_379 (by decide +kernel) (ns_iload 1 rfl) rfl ?_
  obtain ⟨r13, S14, h15, hr⟩ := nk_bde hr
  refine nk_callV (ci := 1) (n := 2) (x := 130) (len := 3) (j' := 252) (q' := 1) (r := r13) (S' := S14) (L2 := [(0, nk_r (ja_c (S.2 l0 1) 0)), (1, nk_i l2), (2, nk_i r4)]) (rest := []) (st' := [nk_i r13]) (pc' := 46) mJ_379 (by decide +kernel) (by decide +kernel) rfl rfl t2 (Nat.le_of_ble_eq_true rfl) mJ_252 (Nat.le_of_ble_eq_true rfl) rfl (ja_X1_findField_ok zs _ _ _ _ _ t2 h15) rfl ?_
  refine nk_icond (c := .ge) (off := 12) (len := 3) (t := 58) (pc' := 49) mJ_379 (by decide +kernel) (by decide +kernel) rfl (fun hc => ?_) (fun hc => ?_)
  · have hr := nk_ifp (c := 0 ≤ r13) hc hr
    refine nk_p (i := .iload_n 1) (len := 1) (pc' := 59) mJ_379 (by decide +kernel) (ns_iload_n 4 rfl rfl) rfl ?_
    refine nk_p (i := .iconst 1) (len := 1) (pc' := 60) mJ_379 (by decide +kernel) (ns_iconst (c := 1) (by decide +kernel)) rfl ?_
    refine nk_p (i := .iadd) (len := 1) (pc' := 61) mJ_379 (by decide +kernel) ns_iadd rfl ?_
    cases hr
    exact nk_iret (ty := .int) (len := 1) mJ_379 (by decide +kernel) rfl (nk_nar_i _)
  · have hr := nk_ifn (c := 0 ≤ r13) hc hr
    refine nk_p (i := .aload_n 3) (len := 1) (pc' := 50) mJ_379 (by decide +kernel) (ns_aload_n 2 rfl rfl) rfl ?_
    refine nk_getI (y := (0, 0)) (x := 133) (len := 3) (ci := 1) (k := 4) (pc' := 53) ja_okT mJ_379 (by decide +kernel) (by decide +kernel) (by decide +kernel) t2 rfl ?_
    refine nk_p (i := .bipush 48) (len := 2) (pc' := 55) mJ_379 (by decide +kernel) (ns_bipush (c := 48) (by decide +kernel)) rfl ?_
    refine nk_icmp (c := .lt) (off := 7) (len := 3) (t := 62) (pc' := 58) mJ_379 (by decide +kernel) (by decide +kernel) rfl (fun hc => ?_) (fun hc => ?_)
    · have hr := nk_ifp (c := (S14.1 (ja_c (S.2 l0 1) 0) 4) < 48) hc hr
      refine nk_p (i := .iload 5) (len := 2) (pc' := 64) mJ_379 (by decide +kernel) (ns_iload 0 rfl) rfl ?_
      refine nk_p (i := .bipush (-2)) (len := 2) (pc' := 66) mJ_379 (by decide +kernel) (ns_bipush (c := (-2)) (by decide +kernel)) rfl ?_
      refine nk_icmp (c := .ne) (off := 7) (len := 3) (t := 73) (pc' := 69) mJ_379 (by decide +kernel) (by decide +kernel) rfl (fun hc => ?_) (fun hc => ?_)
      · have hr := nk_ifn (c := r10 = (-2)) hc hr
        refine nk_p (i := .aload_n 3) (len := 1) (pc' := 74) mJ_379 (by decide +kernel) (ns_aload_n 2 rfl rfl) rfl ?_
        refine nk_p (i := .iload_n 2) (len := 1) (pc' := 75) mJ_379 (by decide +kernel) (ns_iload_n 5 rfl rfl) rfl ?_
        refine nk_p (i := .iload 4) (len := 2) (pc' := 77) mJ_379 (by decide +kernel) (ns_iload 1 rfl) rfl ?_
        refine nk_p (i := .iload 5) (len := 2) (pc' := 79) mJ_379 (by decide +kernel) (ns_iload 0 rfl) rfl ?_
        obtain ⟨r16, S17, h18, hr⟩ := nk_bde hr
        refine nk_callV (ci := 1) (n := 3) (x := 136) (len := 3) (j' := 248) (q' := 0) (r := r16) (S' := S17) (L2 := [(0, nk_r (ja_c (S.2 l0 1) 0)), (1, nk_i l2), (2, nk_i r4), (3, nk_i r10)]) (rest := []) (st' := []) (pc' := 82) mJ_379 (by decide +kernel) (by decide +kernel) rfl rfl t2 (Nat.le_of_ble_eq_true rfl) mJ_248 (Nat.le_of_ble_eq_true rfl) rfl (ja_X1_addField_ok zs _ _ _ _ _ _ t2 h18) rfl ?_
        refine nk_p (i := .iconst (-1)) (len := 1) (pc' := 83) mJ_379 (by decide +kernel) (ns_iconst (c := (-1)) (by decide +kernel)) rfl ?_
        cases hr
        exact nk_iret (ty := .int) (len := 1) mJ_379 (by decide +kernel) rfl (nk_nar_i _)
      · have hr := nk_ifp (c := r10 = (-2)) (Decidable.of_not_not hc) hr
        refine nk_p (i := .iload_n 1) (len := 1) (pc' := 70) mJ_379 (by decide +kernel) (ns_iload_n 4 rfl rfl) rfl ?_
        refine nk_p (i := .iconst 2) (len := 1) (pc' := 71) mJ_379 (by decide +kernel) (ns_iconst (c := 2) (by decide +kernel)) rfl ?_
        refine nk_p (i := .iadd) (len := 1) (pc' := 72) mJ_379 (by decide +kernel) ns_iadd rfl ?_
        cases hr
        exact nk_iret (ty := .int) (len := 1) mJ_379 (by decide +kernel) rfl (nk_nar_i _)
    · have hr := nk_ifn (c := (S14.1 (ja_c (S.2 l0 1) 0) 4) < 48) hc hr
      refine nk_p (i := .iload_n 1) (len := 1) (pc' := 59) mJ_379 (by decide +kernel) (ns_iload_n 4 rfl rfl) rfl ?_
      refine nk_p (i := .iconst 1) (len := 1) (pc' := 60) mJ_379 (by decide +kernel) (ns_iconst (c := 1) (by decide +kernel)) rfl ?_
      refine nk_p (i := .iadd) (len := 1) (pc' := 61) mJ_379 (by decide +kernel) ns_iadd rfl ?_
      cases hr
      exact nk_iret (ty := .int) (len := 1) mJ_379 (by decide +kernel) rfl (nk_nar_i _)
/-! SafeCode$Reader resolveHead (II)I -/
noncomputable def ja_X6_resolveHead_b296 (l0 : Nat) (l3 : Nat) (l5 : Int) (l7 : Int) (S : nk_S) : Option (Int × nk_S) :=
  if l5 < 0 then
    if l7 < 0 then
      some ((S.1 l0 2), S)
    else
      if 12 < l7 then
        some ((S.1 l0 2), S)
      else
        if 0 ≤ (S.1 l3 0) ∧ (S.1 l3 0) < 48 then
        if (S.1 (ja_c l3 5) (S.1 l3 0).toNat) ≤ l7 then
          nk_lt (nk_wi S l3 0 (nk_w ((S.1 l3 0) + 1))) fun S3 =>
          some ((-1), S3)
        else
          some ((S.1 l0 2), S)
        else none
  else
    some (l5, S)
theorem ja_X6_resolveHead_b296_ok (zs : List Int32) : ∀ (l0 : Nat) (l3 : Nat) (l5 : Int) (l7 : Int) (S : nk_S) (R : Int × nk_S), nk_cl ja_Tt l0 = some 6 → nk_cl ja_Tt l3 = some 0 → ja_X6_resolveHead_b296 l0 l3 l5 l7 S = some R → nk_K ja_Tt mi_Γ (mi_ev zs) 1 380 296 [(0, nk_r l0), (3, nk_r l3), (5, nk_i l5), (7, nk_i l7)] [] S R := by
  intro l0 l3 l5 l7 S R t_l0 t_l3 hr
  unfold ja_X6_resolveHead_b296 at hr
  refine nk_p (i := .iload 5) (len := 2) (pc' := 298) mJ_380 (by decide +kernel) (ns_iload 2 rfl) rfl ?_
  refine nk_icond (c := .lt) (off := 6) (len := 3) (t := 304) (pc' := 301) mJ_380 (by decide +kernel) (by decide +kernel) rfl (fun hc => ?_) (fun hc => ?_)
  · have hr := nk_ifp (c := l5 < 0) hc hr
    refine nk_p (i := .iload 7) (len := 2) (pc' := 306) mJ_380 (by decide +kernel) (ns_iload 3 rfl) rfl ?_
    refine nk_icond (c := .lt) (off := 24) (len := 3) (t := 330) (pc' := 309) mJ_380 (by decide +kernel) (by decide +kernel) rfl (fun hc => ?_) (fun hc => ?_)
    · have hr := nk_ifp (c := l7 < 0) hc hr
      refine nk_p (i := .aload_n 0) (len := 1) (pc' := 331) mJ_380 (by decide +kernel) (ns_aload_n 0 rfl rfl) rfl ?_
      refine nk_getI (y := (0, 0)) (x := 19) (len := 3) (ci := 6) (k := 2) (pc' := 334) ja_okT mJ_380 (by decide +kernel) (by decide +kernel) (by decide +kernel) t_l0 rfl ?_
      cases hr
      exact nk_iret (ty := .int) (len := 1) mJ_380 (by decide +kernel) rfl (nk_nar_i _)
    · have hr := nk_ifn (c := l7 < 0) hc hr
      refine nk_p (i := .iload 7) (len := 2) (pc' := 311) mJ_380 (by decide +kernel) (ns_iload 3 rfl) rfl ?_
      refine nk_p (i := .bipush 12) (len := 2) (pc' := 313) mJ_380 (by decide +kernel) (ns_bipush (c := 12) (by decide +kernel)) rfl ?_
      refine nk_icmp (c := .gt) (off := 17) (len := 3) (t := 330) (pc' := 316) mJ_380 (by decide +kernel) (by decide +kernel) rfl (fun hc => ?_) (fun hc => ?_)
      · have hr := nk_ifp (c := 12 < l7) hc hr
        refine nk_p (i := .aload_n 0) (len := 1) (pc' := 331) mJ_380 (by decide +kernel) (ns_aload_n 0 rfl rfl) rfl ?_
        refine nk_getI (y := (0, 0)) (x := 19) (len := 3) (ci := 6) (k := 2) (pc' := 334) ja_okT mJ_380 (by decide +kernel) (by decide +kernel) (by decide +kernel) t_l0 rfl ?_
        cases hr
        exact nk_iret (ty := .int) (len := 1) mJ_380 (by decide +kernel) rfl (nk_nar_i _)
      · have hr := nk_ifn (c := 12 < l7) hc hr
        refine nk_p (i := .iload 7) (len := 2) (pc' := 318) mJ_380 (by decide +kernel) (ns_iload 3 rfl) rfl ?_
        refine nk_p (i := .aload_n 3) (len := 1) (pc' := 319) mJ_380 (by decide +kernel) (ns_aload_n 1 rfl rfl) rfl ?_
        refine nk_getC (f := (4, 1, 48)) (x := 157) (len := 3) (ci := 0) (k := 5) (pc' := 322) ja_okT mJ_380 (by decide +kernel) (by decide +kernel) (by decide +kernel) (by decide) t_l3 rfl ?_
        have t1 : nk_ar ja_Tt (ja_c l3 5) = some (1, 48) := nk_ta ja_okT t_l3 (by decide +kernel)
        refine nk_p (i := .aload_n 3) (len := 1) (pc' := 323) mJ_380 (by decide +kernel) (ns_aload_n 1 rfl rfl) rfl ?_
        refine nk_getI (y := (0, 0)) (x := 85) (len := 3) (ci := 0) (k := 0) (pc' := 326) ja_okT mJ_380 (by decide +kernel) (by decide +kernel) (by decide +kernel) t_l3 rfl ?_
        obtain ⟨h2, hr⟩ := nk_cke hr
        refine nk_iald (len := 1) (N := 48) (pc' := 327) mJ_380 (by decide +kernel) t1 h2.1 h2.2 rfl rfl ?_
        refine nk_icmp (c := .ge) (off := 8) (len := 3) (t := 335) (pc' := 330) mJ_380 (by decide +kernel) (by decide +kernel) rfl (fun hc => ?_) (fun hc => ?_)
        · have hr := nk_ifp (c := (S.1 (ja_c l3 5) (S.1 l3 0).toNat) ≤ l7) hc hr
          refine nk_p (i := .aload_n 3) (len := 1) (pc' := 336) mJ_380 (by decide +kernel) (ns_aload_n 1 rfl rfl) rfl ?_
          refine nk_p (i := .dup) (len := 1) (pc' := 337) mJ_380 (by decide +kernel) (ns_dup rfl) rfl ?_
          refine nk_getI (y := (0, 0)) (x := 85) (len := 3) (ci := 0) (k := 0) (pc' := 340) ja_okT mJ_380 (by decide +kernel) (by decide +kernel) (by decide +kernel) t_l3 rfl ?_
          refine nk_p (i := .iconst 1) (len := 1) (pc' := 341) mJ_380 (by decide +kernel) (ns_iconst (c := 1) (by decide +kernel)) rfl ?_
          refine nk_p (i := .iadd) (len := 1) (pc' := 342) mJ_380 (by decide +kernel) ns_iadd rfl ?_
          obtain ⟨S3, h4, hr⟩ := nk_lte hr
          refine nk_putI (y := (0, 0)) (ty := .int) (x := 85) (len := 3) (ci := 0) (k := 0) (pc' := 345) ja_okT mJ_380 (by decide +kernel) (by decide +kernel) (by decide +kernel) t_l3 (Or.inl rfl) rfl h4 ?_
          refine nk_p (i := .iconst (-1)) (len := 1) (pc' := 346) mJ_380 (by decide +kernel) (ns_iconst (c := (-1)) (by decide +kernel)) rfl ?_
          cases hr
          exact nk_iret (ty := .int) (len := 1) mJ_380 (by decide +kernel) rfl (nk_nar_i _)
        · have hr := nk_ifn (c := (S.1 (ja_c l3 5) (S.1 l3 0).toNat) ≤ l7) hc hr
          refine nk_p (i := .aload_n 0) (len := 1) (pc' := 331) mJ_380 (by decide +kernel) (ns_aload_n 0 rfl rfl) rfl ?_
          refine nk_getI (y := (0, 0)) (x := 19) (len := 3) (ci := 6) (k := 2) (pc' := 334) ja_okT mJ_380 (by decide +kernel) (by decide +kernel) (by decide +kernel) t_l0 rfl ?_
          cases hr
          exact nk_iret (ty := .int) (len := 1) mJ_380 (by decide +kernel) rfl (nk_nar_i _)
  · have hr := nk_ifn (c := l5 < 0) hc hr
    refine nk_p (i := .iload 5) (len := 2) (pc' := 303) mJ_380 (by decide +kernel) (ns_iload 2 rfl) rfl ?_
    cases hr
    exact nk_iret (ty := .int) (len := 1) mJ_380 (by decide +kernel) rfl (nk_nar_i _)
noncomputable def ja_X6_resolveHead_b216 (l0 : Nat) (l1 : Int) (l2 : Int) (l3 : Nat) (l4 : Int) (l6 : Int) (s0 : Int) (S : nk_S) : Option (Int × nk_S) :=
  nk_lt (nk_wi S l0 2 (nk_w ((S.1 l0 2) + 1))) fun S1 =>
  nk_bd (ja_X10_at (ja_c l0 0) (S1.1 l0 2) S1) fun r4 S5 =>
  nk_bd (ja_X10_firstOf (ja_c l0 0) r4 S5) fun r7 S8 =>
  nk_bd (ja_X0_finish l3 l6 r7 (nk_w ((S8.1 l0 2) + 1)) S8) fun r10 S11 =>
  nk_bd (ja_X0_nearest l3 (ja_c (S11.2 l0 1) 0) l2 l4 S11) fun r15 S16 =>
  if r15 < 0 then
    ja_X6_resolveHead_b296 l0 l3 s0 r7 S16
  else
    nk_bd (ja_X0_mayReplace l3 r15 S16) fun r18 S19 =>
    if r18 = 0 then
      some ((nk_w (l1 + 1)), S19)
    else
      ja_X6_resolveHead_b296 l0 l3 s0 r7 S19
theorem ja_X6_resolveHead_b216_ok (zs : List Int32) : ∀ (l0 : Nat) (l1 : Int) (l2 : Int) (l3 : Nat) (l4 : Int) (l6 : Int) (s0 : Int) (S : nk_S) (R : Int × nk_S), nk_cl ja_Tt l0 = some 6 → nk_cl ja_Tt l3 = some 0 → ja_X6_resolveHead_b216 l0 l1 l2 l3 l4 l6 s0 S = some R → nk_K ja_Tt mi_Γ (mi_ev zs) 1 380 216 [(0, nk_r l0), (1, nk_i l1), (2, nk_i l2), (3, nk_r l3), (4, nk_i l4), (6, nk_i l6)] [nk_i s0] S R := by
  intro l0 l1 l2 l3 l4 l6 s0 S R t_l0 t_l3 hr
  unfold ja_X6_resolveHead_b216 at hr
  refine nk_p (i := .istore 5) (len := 2) (pc' := 218) mJ_380 (by decide +kernel) (ns_istore (L' := [(5, nk_i s0), (0, nk_r l0), (1, nk_i l1), (2, nk_i l2), (3, nk_r l3), (4, nk_i l4), (6, nk_i l6)]) rfl rfl (by decide +kernel)) rfl ?_
  refine nk_p (i := .aload_n 0) (len := 1) (pc' := 219) mJ_380 (by decide +kernel) (ns_aload_n 1 rfl rfl) rfl ?_
  refine nk_p (i := .dup) (len := 1) (pc' := 220) mJ_380 (by decide +kernel) (ns_dup rfl) rfl ?_
  refine nk_getI (y := (0, 0)) (x := 19) (len := 3) (ci := 6) (k := 2) (pc' := 223) ja_okT mJ_380 (by decide +kernel) (by decide +kernel) (by decide +kernel) t_l0 rfl ?_
  refine nk_p (i := .iconst 1) (len := 1) (pc' := 224) mJ_380 (by decide +kernel) (ns_iconst (c := 1) (by decide +kernel)) rfl ?_
  refine nk_p (i := .iadd) (len := 1) (pc' := 225) mJ_380 (by decide +kernel) ns_iadd rfl ?_
  obtain ⟨S1, h2, hr⟩ := nk_lte hr
  refine nk_putI (y := (0, 0)) (ty := .int) (x := 19) (len := 3) (ci := 6) (k := 2) (pc' := 228) ja_okT mJ_380 (by decide +kernel) (by decide +kernel) (by decide +kernel) t_l0 (Or.inl rfl) rfl h2 ?_
  refine nk_p (i := .aload_n 0) (len := 1) (pc' := 229) mJ_380 (by decide +kernel) (ns_aload_n 1 rfl rfl) rfl ?_
  refine nk_getC (f := (2, 10, 0)) (x := 9) (len := 3) (ci := 6) (k := 0) (pc' := 232) ja_okT mJ_380 (by decide +kernel) (by decide +kernel) (by decide +kernel) (by decide) t_l0 rfl ?_
  have t3 : nk_cl ja_Tt (ja_c l0 0) = some 10 := nk_tc (y := 0) ja_okT t_l0 (by decide +kernel)
  refine nk_p (i := .aload_n 0) (len := 1) (pc' := 233) mJ_380 (by decide +kernel) (ns_aload_n 1 rfl rfl) rfl ?_
  refine nk_getC (f := (2, 10, 0)) (x := 9) (len := 3) (ci := 6) (k := 0) (pc' := 236) ja_okT mJ_380 (by decide +kernel) (by decide +kernel) (by decide +kernel) (by decide) t_l0 rfl ?_
  refine nk_p (i := .aload_n 0) (len := 1) (pc' := 237) mJ_380 (by decide +kernel) (ns_aload_n 1 rfl rfl) rfl ?_
  refine nk_getI (y := (0, 0)) (x := 19) (len := 3) (ci := 6) (k := 2) (pc' := 240) ja_okT mJ_380 (by decide +kernel) (by decide +kernel) (by decide +kernel) t_l0 rfl ?_
  obtain ⟨r4, S5, h6, hr⟩ := nk_bde hr
  refine nk_callV (ci := 10) (n := 1) (x := 39) (len := 3) (j' := 32) (q' := 1) (r := r4) (S' := S5) (L2 := [(0, nk_r (ja_c l0 0)), (1, nk_i (S1.1 l0 2))]) (rest := [nk_r (ja_c l0 0)]) (st' := [nk_i r4, nk_r (ja_c l0 0)]) (pc' := 243) mJ_380 (by decide +kernel) (by decide +kernel) rfl rfl t3 (Nat.le_of_ble_eq_true rfl) mJ_32 (Nat.le_of_ble_eq_true rfl) rfl (ja_X10_at_ok zs _ _ _ _ t3 h6) rfl ?_
  obtain ⟨r7, S8, h9, hr⟩ := nk_bde hr
  refine nk_callV (ci := 10) (n := 1) (x := 101) (len := 3) (j' := 35) (q' := 1) (r := r7) (S' := S8) (L2 := [(0, nk_r (ja_c l0 0)), (1, nk_i r4)]) (rest := []) (st' := [nk_i r7]) (pc' := 246) mJ_380 (by decide +kernel) (by decide +kernel) rfl rfl t3 (Nat.le_of_ble_eq_true rfl) mJ_35 (Nat.le_of_ble_eq_true rfl) rfl (ja_X10_firstOf_ok zs _ _ _ _ t3 h9) rfl ?_
  refine nk_p (i := .istore 7) (len := 2) (pc' := 248) mJ_380 (by decide +kernel) (ns_istore (L' := [(7, nk_i r7), (5, nk_i s0), (0, nk_r l0), (1, nk_i l1), (2, nk_i l2), (3, nk_r l3), (4, nk_i l4), (6, nk_i l6)]) rfl rfl (by decide +kernel)) rfl ?_
  refine nk_p (i := .aload_n 3) (len := 1) (pc' := 249) mJ_380 (by decide +kernel) (ns_aload_n 5 rfl rfl) rfl ?_
  refine nk_p (i := .iload 6) (len := 2) (pc' := 251) mJ_380 (by decide +kernel) (ns_iload 7 rfl) rfl ?_
  refine nk_p (i := .iload 7) (len := 2) (pc' := 253) mJ_380 (by decide +kernel) (ns_iload 0 rfl) rfl ?_
  refine nk_p (i := .aload_n 0) (len := 1) (pc' := 254) mJ_380 (by decide +kernel) (ns_aload_n 2 rfl rfl) rfl ?_
  refine nk_getI (y := (0, 0)) (x := 19) (len := 3) (ci := 6) (k := 2) (pc' := 257) ja_okT mJ_380 (by decide +kernel) (by decide +kernel) (by decide +kernel) t_l0 rfl ?_
  refine nk_p (i := .iconst 1) (len := 1) (pc' := 258) mJ_380 (by decide +kernel) (ns_iconst (c := 1) (by decide +kernel)) rfl ?_
  refine nk_p (i := .iadd) (len := 1) (pc' := 259) mJ_380 (by decide +kernel) ns_iadd rfl ?_
  obtain ⟨r10, S11, h12, hr⟩ := nk_bde hr
  refine nk_callV (ci := 0) (n := 3) (x := 147) (len := 3) (j' := 23) (q' := 0) (r := r10) (S' := S11) (L2 := [(0, nk_r l3), (1, nk_i l6), (2, nk_i r7), (3, nk_i (nk_w ((S8.1 l0 2) + 1)))]) (rest := []) (st' := []) (pc' := 262) mJ_380 (by decide +kernel) (by decide +kernel) rfl rfl t_l3 (Nat.le_of_ble_eq_true rfl) mJ_23 (Nat.le_of_ble_eq_true rfl) rfl (ja_X0_finish_ok zs _ _ _ _ _ _ t_l3 h12) rfl ?_
  refine nk_p (i := .aload_n 3) (len := 1) (pc' := 263) mJ_380 (by decide +kernel) (ns_aload_n 5 rfl rfl) rfl ?_
  refine nk_p (i := .aload_n 0) (len := 1) (pc' := 264) mJ_380 (by decide +kernel) (ns_aload_n 2 rfl rfl) rfl ?_
  refine nk_getM (cj := 3) (z := 0) (x := 15) (len := 3) (ci := 6) (k := 1) (pc' := 267) ja_okT mJ_380 (by decide +kernel) (by decide +kernel) (by decide +kernel) t_l0 rfl (fun t13 => ?_)
  refine nk_getC (f := (2, 1, 0)) (x := 93) (len := 3) (ci := 3) (k := 0) (pc' := 270) ja_okT mJ_380 (by decide +kernel) (by decide +kernel) (by decide +kernel) (by decide) t13 rfl ?_
  have t14 : nk_cl ja_Tt (ja_c (S11.2 l0 1) 0) = some 1 := nk_tc (y := 0) ja_okT t13 (by decide +kernel)
  refine nk_p (i := .iload_n 2) (len := 1) (pc' := 271) mJ_380 (by decide +kernel) (ns_iload_n 4 rfl rfl) rfl ?_
  refine nk_p (i := .iload 4) (len := 2) (pc' := 273) mJ_380 (by decide +kernel) (ns_iload 6 rfl) rfl ?_
  obtain ⟨r15, S16, h17, hr⟩ := nk_bde hr
  refine nk_callV (ci := 0) (n := 3) (x := 150) (len := 3) (j' := 27) (q' := 1) (r := r15) (S' := S16) (L2 := [(0, nk_r l3), (1, nk_r (ja_c (S11.2 l0 1) 0)), (2, nk_i l2), (3, nk_i l4)]) (rest := []) (st' := [nk_i r15]) (pc' := 276) mJ_380 (by decide +kernel) (by decide +kernel) rfl rfl t_l3 (Nat.le_of_ble_eq_true rfl) mJ_27 (Nat.le_of_ble_eq_true rfl) rfl (ja_X0_nearest_ok zs _ _ _ _ _ _ t_l3 t14 h17) rfl ?_
  refine nk_p (i := .istore 8) (len := 2) (pc' := 278) mJ_380 (by decide +kernel) (ns_istore (L' := [(8, nk_i r15), (7, nk_i r7), (5, nk_i s0), (0, nk_r l0), (1, nk_i l1), (2, nk_i l2), (3, nk_r l3), (4, nk_i l4), (6, nk_i l6)]) rfl rfl (by decide +kernel)) rfl ?_
  refine nk_p (i := .iload 8) (len := 2) (pc' := 280) mJ_380 (by decide +kernel) (ns_iload 0 rfl) rfl ?_
  refine nk_icond (c := .lt) (off := 16) (len := 3) (t := 296) (pc' := 283) mJ_380 (by decide +kernel) (by decide +kernel) rfl (fun hc => ?_) (fun hc => ?_)
  · have hr := nk_ifp (c := r15 < 0) hc hr
    refine nk_sub [3, 6, 2, 1] (L' := [(0, nk_r l0), (3, nk_r l3), (5, nk_i s0), (7, nk_i r7)]) rfl ?_
    exact ja_X6_resolveHead_b296_ok zs _ _ _ _ _ _ t_l0 t_l3 hr
  · have hr := nk_ifn (c := r15 < 0) hc hr
    refine nk_p (i := .aload_n 3) (len := 1) (pc' := 284) mJ_380 (by decide +kernel) (ns_aload_n 6 rfl rfl) rfl ?_
    refine nk_p (i := .iload 8) (len := 2) (pc' := 286) mJ_380 (by decide +kernel) (ns_iload 0 rfl) rfl ?_
    obtain ⟨r18, S19, h20, hr⟩ := nk_bde hr
    refine nk_callV (ci := 0) (n := 1) (x := 154) (len := 3) (j' := 26) (q' := 1) (r := r18) (S' := S19) (L2 := [(0, nk_r l3), (1, nk_i r15)]) (rest := []) (st' := [nk_i r18]) (pc' := 289) mJ_380 (by decide +kernel) (by decide +kernel) rfl rfl t_l3 (Nat.le_of_ble_eq_true rfl) mJ_26 (Nat.le_of_ble_eq_true rfl) rfl (ja_X0_mayReplace_ok zs _ _ _ _ t_l3 h20) rfl ?_
    refine nk_icond (c := .ne) (off := 7) (len := 3) (t := 296) (pc' := 292) mJ_380 (by decide +kernel) (by decide +kernel) rfl (fun hc => ?_) (fun hc => ?_)
    · have hr := nk_ifn (c := r18 = 0) hc hr
      refine nk_sub [3, 6, 2, 1] (L' := [(0, nk_r l0), (3, nk_r l3), (5, nk_i s0), (7, nk_i r7)]) rfl ?_
      exact ja_X6_resolveHead_b296_ok zs _ _ _ _ _ _ t_l0 t_l3 hr
    · have hr := nk_ifp (c := r18 = 0) (Decidable.of_not_not hc) hr
      refine nk_p (i := .iload_n 1) (len := 1) (pc' := 293) mJ_380 (by decide +kernel) (ns_iload_n 4 rfl rfl) rfl ?_
      refine nk_p (i := .iconst 1) (len := 1) (pc' := 294) mJ_380 (by decide +kernel) (ns_iconst (c := 1) (by decide +kernel)) rfl ?_
      refine nk_p (i := .iadd) (len := 1) (pc' := 295) mJ_380 (by decide +kernel) ns_iadd rfl ?_
      cases hr
      exact nk_iret (ty := .int) (len := 1) mJ_380 (by decide +kernel) rfl (nk_nar_i _)
noncomputable def ja_X6_resolveHead_b214 (l0 : Nat) (l1 : Int) (l2 : Int) (l3 : Nat) (l4 : Int) (l5 : Int) (l6 : Int) (S : nk_S) : Option (Int × nk_S) :=
  ja_X6_resolveHead_b216 l0 l1 l2 l3 l4 l6 l5 S
theorem ja_X6_resolveHead_b214_ok (zs : List Int32) : ∀ (l0 : Nat) (l1 : Int) (l2 : Int) (l3 : Nat) (l4 : Int) (l5 : Int) (l6 : Int) (S : nk_S) (R : Int × nk_S), nk_cl ja_Tt l0 = some 6 → nk_cl ja_Tt l3 = some 0 → ja_X6_resolveHead_b214 l0 l1 l2 l3 l4 l5 l6 S = some R → nk_K ja_Tt mi_Γ (mi_ev zs) 1 380 214 [(0, nk_r l0), (1, nk_i l1), (2, nk_i l2), (3, nk_r l3), (4, nk_i l4), (5, nk_i l5), (6, nk_i l6)] [] S R := by
  intro l0 l1 l2 l3 l4 l5 l6 S R t_l0 t_l3 hr
  unfold ja_X6_resolveHead_b214 at hr
  refine nk_p (i := .iload 5) (len := 2) (pc' := 216) mJ_380 (by decide +kernel) (ns_iload 5 rfl) rfl ?_
  refine nk_sub [0, 1, 2, 3, 4, 6] (L' := [(0, nk_r l0), (1, nk_i l1), (2, nk_i l2), (3, nk_r l3), (4, nk_i l4), (6, nk_i l6)]) rfl ?_
  exact ja_X6_resolveHead_b216_ok zs _ _ _ _ _ _ _ _ _ t_l0 t_l3 hr
noncomputable def ja_X6_resolveHead_b165 (l0 : Nat) (l1 : Int) (l2 : Int) (l3 : Nat) (l4 : Int) (l5 : Int) (S : nk_S) : Option (Int × nk_S) :=
  nk_lt (nk_wi S l0 2 (nk_w ((S.1 l0 2) + 1))) fun S1 =>
  nk_bd (ja_X10_at (ja_c l0 0) (S1.1 l0 2) S1) fun r4 S5 =>
  nk_bd (ja_X10_typeOf (ja_c l0 0) r4 S5) fun r7 S8 =>
  if r7 = (-2) then
    if 0 ≤ l5 then
      ja_X6_resolveHead_b214 l0 l1 l2 l3 l4 l5 r7 S8
    else
      ja_X6_resolveHead_b216 l0 l1 l2 l3 l4 r7 (S8.1 l0 2) S8
  else
    ja_X6_resolveHead_b214 l0 l1 l2 l3 l4 l5 r7 S8
theorem ja_X6_resolveHead_b165_ok (zs : List Int32) : ∀ (l0 : Nat) (l1 : Int) (l2 : Int) (l3 : Nat) (l4 : Int) (l5 : Int) (S : nk_S) (R : Int × nk_S), nk_cl ja_Tt l0 = some 6 → nk_cl ja_Tt l3 = some 0 → ja_X6_resolveHead_b165 l0 l1 l2 l3 l4 l5 S = some R → nk_K ja_Tt mi_Γ (mi_ev zs) 1 380 165 [(0, nk_r l0), (1, nk_i l1), (2, nk_i l2), (3, nk_r l3), (4, nk_i l4), (5, nk_i l5)] [] S R := by
  intro l0 l1 l2 l3 l4 l5 S R t_l0 t_l3 hr
  unfold ja_X6_resolveHead_b165 at hr
  refine nk_p (i := .aload_n 0) (len := 1) (pc' := 166) mJ_380 (by decide +kernel) (ns_aload_n 0 rfl rfl) rfl ?_
  refine nk_p (i := .dup) (len := 1) (pc' := 167) mJ_380 (by decide +kernel) (ns_dup rfl) rfl ?_
  refine nk_getI (y := (0, 0)) (x := 19) (len := 3) (ci := 6) (k := 2) (pc' := 170) ja_okT mJ_380 (by decide +kernel) (by decide +kernel) (by decide +kernel) t_l0 rfl ?_
  refine nk_p (i := .iconst 1) (len := 1) (pc' := 171) mJ_380 (by decide +kernel) (ns_iconst (c := 1) (by decide +kernel)) rfl ?_
  refine nk_p (i := .iadd) (len := 1) (pc' := 172) mJ_380 (by decide +kernel) ns_iadd rfl ?_
  obtain ⟨S1, h2, hr⟩ := nk_lte hr
  refine nk_putI (y := (0, 0)) (ty := .int) (x := 19) (len := 3) (ci := 6) (k := 2) (pc' := 175) ja_okT mJ_380 (by decide +kernel) (by decide +kernel) (by decide +kernel) t_l0 (Or.inl rfl) rfl h2 ?_
  refine nk_p (i := .aload_n 0) (len := 1) (pc' := 176) mJ_380 (by decide +kernel) (ns_aload_n 0 rfl rfl) rfl ?_
  refine nk_getC (f := (2, 10, 0)) (x := 9) (len := 3) (ci := 6) (k := 0) (pc' := 179) ja_okT mJ_380 (by decide +kernel) (by decide +kernel) (by decide +kernel) (by decide) t_l0 rfl ?_
  have t3 : nk_cl ja_Tt (ja_c l0 0) = some 10 := nk_tc (y := 0) ja_okT t_l0 (by decide +kernel)
  refine nk_p (i := .aload_n 0) (len := 1) (pc' := 180) mJ_380 (by decide +kernel) (ns_aload_n 0 rfl rfl) rfl ?_
  refine nk_getC (f := (2, 10, 0)) (x := 9) (len := 3) (ci := 6) (k := 0) (pc' := 183) ja_okT mJ_380 (by decide +kernel) (by decide +kernel) (by decide +kernel) (by decide) t_l0 rfl ?_
  refine nk_p (i := .aload_n 0) (len := 1) (pc' := 184) mJ_380 (by decide +kernel) (ns_aload_n 0 rfl rfl) rfl ?_
  refine nk_getI (y := (0, 0)) (x := 19) (len := 3) (ci := 6) (k := 2) (pc' := 187) ja_okT mJ_380 (by decide +kernel) (by decide +kernel) (by decide +kernel) t_l0 rfl ?_
  obtain ⟨r4, S5, h6, hr⟩ := nk_bde hr
  refine nk_callV (ci := 10) (n := 1) (x := 39) (len := 3) (j' := 32) (q' := 1) (r := r4) (S' := S5) (L2 := [(0, nk_r (ja_c l0 0)), (1, nk_i (S1.1 l0 2))]) (rest := [nk_r (ja_c l0 0)]) (st' := [nk_i r4, nk_r (ja_c l0 0)]) (pc' := 190) mJ_380 (by decide +kernel) (by decide +kernel) rfl rfl t3 (Nat.le_of_ble_eq_true rfl) mJ_32 (Nat.le_of_ble_eq_true rfl) rfl (ja_X10_at_ok zs _ _ _ _ t3 h6) rfl ?_
  obtain ⟨r7, S8, h9, hr⟩ := nk_bde hr
  refine nk_callV (ci := 10) (n := 1) (x := 127) (len := 3) (j' := 51) (q' := 1) (r := r7) (S' := S8) (L2 := [(0, nk_r (ja_c l0 0)), (1, nk_i r4)]) (rest := []) (st' := [nk_i r7]) (pc' := 193) mJ_380 (by decide +kernel) (by decide +kernel) rfl rfl t3 (Nat.le_of_ble_eq_true rfl) mJ_51 (Nat.le_of_ble_eq_true rfl) rfl (ja_X10_typeOf_ok zs _ _ _ _ t3 h9) rfl ?_
  refine nk_p (i := .istore 6) (len := 2) (pc' := 195) mJ_380 (by decide +kernel) (ns_istore (L' := [(6, nk_i r7), (0, nk_r l0), (1, nk_i l1), (2, nk_i l2), (3, nk_r l3), (4, nk_i l4), (5, nk_i l5)]) rfl rfl (by decide +kernel)) rfl ?_
  refine nk_p (i := .iload 6) (len := 2) (pc' := 197) mJ_380 (by decide +kernel) (ns_iload 0 rfl) rfl ?_
  refine nk_p (i := .bipush (-2)) (len := 2) (pc' := 199) mJ_380 (by decide +kernel) (ns_bipush (c := (-2)) (by decide +kernel)) rfl ?_
  refine nk_icmp (c := .ne) (off := 15) (len := 3) (t := 214) (pc' := 202) mJ_380 (by decide +kernel) (by decide +kernel) rfl (fun hc => ?_) (fun hc => ?_)
  · have hr := nk_ifn (c := r7 = (-2)) hc hr
    refine nk_sub [1, 2, 3, 4, 5, 6, 0] (L' := [(0, nk_r l0), (1, nk_i l1), (2, nk_i l2), (3, nk_r l3), (4, nk_i l4), (5, nk_i l5), (6, nk_i r7)]) rfl ?_
    exact ja_X6_resolveHead_b214_ok zs _ _ _ _ _ _ _ _ _ t_l0 t_l3 hr
  · have hr := nk_ifp (c := r7 = (-2)) (Decidable.of_not_not hc) hr
    refine nk_p (i := .iload 5) (len := 2) (pc' := 204) mJ_380 (by decide +kernel) (ns_iload 6 rfl) rfl ?_
    refine nk_icond (c := .ge) (off := 10) (len := 3) (t := 214) (pc' := 207) mJ_380 (by decide +kernel) (by decide +kernel) rfl (fun hc => ?_) (fun hc => ?_)
    · have hr := nk_ifp (c := 0 ≤ l5) hc hr
      refine nk_sub [1, 2, 3, 4, 5, 6, 0] (L' := [(0, nk_r l0), (1, nk_i l1), (2, nk_i l2), (3, nk_r l3), (4, nk_i l4), (5, nk_i l5), (6, nk_i r7)]) rfl ?_
      exact ja_X6_resolveHead_b214_ok zs _ _ _ _ _ _ _ _ _ t_l0 t_l3 hr
    · have hr := nk_ifn (c := 0 ≤ l5) hc hr
      refine nk_p (i := .aload_n 0) (len := 1) (pc' := 208) mJ_380 (by decide +kernel) (ns_aload_n 1 rfl rfl) rfl ?_
      refine nk_getI (y := (0, 0)) (x := 19) (len := 3) (ci := 6) (k := 2) (pc' := 211) ja_okT mJ_380 (by decide +kernel) (by decide +kernel) (by decide +kernel) t_l0 rfl ?_
      refine nk_p (i := .goto 5) (len := 3) (pc' := 216) mJ_380 (by decide +kernel) (ns_goto (by decide +kernel)) rfl ?_
      refine nk_sub [1, 2, 3, 4, 5, 0] (L' := [(0, nk_r l0), (1, nk_i l1), (2, nk_i l2), (3, nk_r l3), (4, nk_i l4), (6, nk_i r7)]) rfl ?_
      exact ja_X6_resolveHead_b216_ok zs _ _ _ _ _ _ _ _ _ t_l0 t_l3 hr
noncomputable def ja_X6_resolveHead_b150 (rec73 : Nat → Int → Int → Nat → Int → Int → nk_S → Option (Int × nk_S)) (l0 : Nat) (l1 : Int) (l2 : Int) (l3 : Nat) (l4 : Int) (s0 : Int) (S : nk_S) : Option (Int × nk_S) :=
  nk_lt (nk_wi S l0 2 (nk_w ((S.1 l0 2) + 1))) fun S1 =>
  rec73 l0 l1 l2 l3 l4 s0 S1
theorem ja_X6_resolveHead_b150_ok (zs : List Int32) {rec73 : Nat → Int → Int → Nat → Int → Int → nk_S → Option (Int × nk_S)} (hrec73 : ∀ (l0 : Nat) (l1 : Int) (l2 : Int) (l3 : Nat) (l4 : Int) (l5 : Int) (S : nk_S) (R : Int × nk_S), nk_cl ja_Tt l0 = some 6 → nk_cl ja_Tt l3 = some 0 → rec73 l0 l1 l2 l3 l4 l5 S = some R → nk_K ja_Tt mi_Γ (mi_ev zs) 1 380 73 [(0, nk_r l0), (1, nk_i l1), (2, nk_i l2), (3, nk_r l3), (4, nk_i l4), (5, nk_i l5)] [] S R) : ∀ (l0 : Nat) (l1 : Int) (l2 : Int) (l3 : Nat) (l4 : Int) (s0 : Int) (S : nk_S) (R : Int × nk_S), nk_cl ja_Tt l0 = some 6 → nk_cl ja_Tt l3 = some 0 → ja_X6_resolveHead_b150 rec73 l0 l1 l2 l3 l4 s0 S = some R → nk_K ja_Tt mi_Γ (mi_ev zs) 1 380 150 [(0, nk_r l0), (1, nk_i l1), (2, nk_i l2), (3, nk_r l3), (4, nk_i l4)] [nk_i s0] S R := by
  intro l0 l1 l2 l3 l4 s0 S R t_l0 t_l3 hr
  unfold ja_X6_resolveHead_b150 at hr
  refine nk_p (i := .istore 5) (len := 2) (pc' := 152) mJ_380 (by decide +kernel) (ns_istore (L' := [(5, nk_i s0), (0, nk_r l0), (1, nk_i l1), (2, nk_i l2), (3, nk_r l3), (4, nk_i l4)]) rfl rfl (by decide +kernel)) rfl ?_
  refine nk_p (i := .aload_n 0) (len := 1) (pc' := 153) mJ_380 (by decide +kernel) (ns_aload_n 1 rfl rfl) rfl ?_
  refine nk_p (i := .dup) (len := 1) (pc' := 154) mJ_380 (by decide +kernel) (ns_dup rfl) rfl ?_
  refine nk_getI (y := (0, 0)) (x := 19) (len := 3) (ci := 6) (k := 2) (pc' := 157) ja_okT mJ_380 (by decide +kernel) (by decide +kernel) (by decide +kernel) t_l0 rfl ?_
  refine nk_p (i := .iconst 1) (len := 1) (pc' := 158) mJ_380 (by decide +kernel) (ns_iconst (c := 1) (by decide +kernel)) rfl ?_
  refine nk_p (i := .iadd) (len := 1) (pc' := 159) mJ_380 (by decide +kernel) ns_iadd rfl ?_
  obtain ⟨S1, h2, hr⟩ := nk_lte hr
  refine nk_putI (y := (0, 0)) (ty := .int) (x := 19) (len := 3) (ci := 6) (k := 2) (pc' := 162) ja_okT mJ_380 (by decide +kernel) (by decide +kernel) (by decide +kernel) t_l0 (Or.inl rfl) rfl h2 ?_
  refine nk_p (i := .goto (-89)) (len := 3) (pc' := 73) mJ_380 (by decide +kernel) (ns_goto (by decide +kernel)) rfl ?_
  refine nk_sub [1, 2, 3, 4, 5, 0] (L' := [(0, nk_r l0), (1, nk_i l1), (2, nk_i l2), (3, nk_r l3), (4, nk_i l4), (5, nk_i s0)]) rfl ?_
  exact hrec73 _ _ _ _ _ _ _ _ t_l0 t_l3 hr
noncomputable def ja_X6_resolveHead_b148 (rec73 : Nat → Int → Int → Nat → Int → Int → nk_S → Option (Int × nk_S)) (l0 : Nat) (l1 : Int) (l2 : Int) (l3 : Nat) (l4 : Int) (l5 : Int) (S : nk_S) : Option (Int × nk_S) :=
  ja_X6_resolveHead_b150 rec73 l0 l1 l2 l3 l4 l5 S
theorem ja_X6_resolveHead_b148_ok (zs : List Int32) {rec73 : Nat → Int → Int → Nat → Int → Int → nk_S → Option (Int × nk_S)} (hrec73 : ∀ (l0 : Nat) (l1 : Int) (l2 : Int) (l3 : Nat) (l4 : Int) (l5 : Int) (S : nk_S) (R : Int × nk_S), nk_cl ja_Tt l0 = some 6 → nk_cl ja_Tt l3 = some 0 → rec73 l0 l1 l2 l3 l4 l5 S = some R → nk_K ja_Tt mi_Γ (mi_ev zs) 1 380 73 [(0, nk_r l0), (1, nk_i l1), (2, nk_i l2), (3, nk_r l3), (4, nk_i l4), (5, nk_i l5)] [] S R) : ∀ (l0 : Nat) (l1 : Int) (l2 : Int) (l3 : Nat) (l4 : Int) (l5 : Int) (S : nk_S) (R : Int × nk_S), nk_cl ja_Tt l0 = some 6 → nk_cl ja_Tt l3 = some 0 → ja_X6_resolveHead_b148 rec73 l0 l1 l2 l3 l4 l5 S = some R → nk_K ja_Tt mi_Γ (mi_ev zs) 1 380 148 [(0, nk_r l0), (1, nk_i l1), (2, nk_i l2), (3, nk_r l3), (4, nk_i l4), (5, nk_i l5)] [] S R := by
  intro l0 l1 l2 l3 l4 l5 S R t_l0 t_l3 hr
  unfold ja_X6_resolveHead_b148 at hr
  refine nk_p (i := .iload 5) (len := 2) (pc' := 150) mJ_380 (by decide +kernel) (ns_iload 5 rfl) rfl ?_
  refine nk_sub [0, 1, 2, 3, 4] (L' := [(0, nk_r l0), (1, nk_i l1), (2, nk_i l2), (3, nk_r l3), (4, nk_i l4)]) rfl ?_
  exact ja_X6_resolveHead_b150_ok zs hrec73 _ _ _ _ _ _ _ _ t_l0 t_l3 hr
noncomputable def ja_X6_resolveHead_b73 (rec73 : Nat → Int → Int → Nat → Int → Int → nk_S → Option (Int × nk_S)) (l0 : Nat) (l1 : Int) (l2 : Int) (l3 : Nat) (l4 : Int) (l5 : Int) (S : nk_S) : Option (Int × nk_S) :=
  if (S.1 (ja_c l0 0) 4) ≤ (S.1 l0 2) then
    ja_X6_resolveHead_b165 l0 l1 l2 l3 l4 l5 S
  else
    nk_bd (ja_X10_at (ja_c l0 0) (S.1 l0 2) S) fun r2 S3 =>
    if r2 = 56 then
      ja_X6_resolveHead_b165 l0 l1 l2 l3 l4 l5 S3
    else
      nk_bd (ja_X10_at (ja_c l0 0) (S3.1 l0 2) S3) fun r5 S6 =>
      nk_bd (ja_X10_typeOf (ja_c l0 0) r5 S6) fun r8 S9 =>
      nk_bd (ja_X0_addParameter l3 r8 S9) fun r11 S12 =>
      if r8 = (-2) then
        if 0 ≤ l5 then
          ja_X6_resolveHead_b148 rec73 l0 l1 l2 l3 l4 l5 S12
        else
          ja_X6_resolveHead_b150 rec73 l0 l1 l2 l3 l4 (S12.1 l0 2) S12
      else
        ja_X6_resolveHead_b148 rec73 l0 l1 l2 l3 l4 l5 S12
theorem ja_X6_resolveHead_b73_ok (zs : List Int32) {rec73 : Nat → Int → Int → Nat → Int → Int → nk_S → Option (Int × nk_S)} (hrec73 : ∀ (l0 : Nat) (l1 : Int) (l2 : Int) (l3 : Nat) (l4 : Int) (l5 : Int) (S : nk_S) (R : Int × nk_S), nk_cl ja_Tt l0 = some 6 → nk_cl ja_Tt l3 = some 0 → rec73 l0 l1 l2 l3 l4 l5 S = some R → nk_K ja_Tt mi_Γ (mi_ev zs) 1 380 73 [(0, nk_r l0), (1, nk_i l1), (2, nk_i l2), (3, nk_r l3), (4, nk_i l4), (5, nk_i l5)] [] S R) : ∀ (l0 : Nat) (l1 : Int) (l2 : Int) (l3 : Nat) (l4 : Int) (l5 : Int) (S : nk_S) (R : Int × nk_S), nk_cl ja_Tt l0 = some 6 → nk_cl ja_Tt l3 = some 0 → ja_X6_resolveHead_b73 rec73 l0 l1 l2 l3 l4 l5 S = some R → nk_K ja_Tt mi_Γ (mi_ev zs) 1 380 73 [(0, nk_r l0), (1, nk_i l1), (2, nk_i l2), (3, nk_r l3), (4, nk_i l4), (5, nk_i l5)] [] S R := by
  intro l0 l1 l2 l3 l4 l5 S R t_l0 t_l3 hr
  unfold ja_X6_resolveHead_b73 at hr
  refine nk_p (i := .aload_n 0) (len := 1) (pc' := 74) mJ_380 (by decide +kernel) (ns_aload_n 0 rfl rfl) rfl ?_
  refine nk_getI (y := (0, 0)) (x := 19) (len := 3) (ci := 6) (k := 2) (pc' := 77) ja_okT mJ_380 (by decide +kernel) (by decide +kernel) (by decide +kernel) t_l0 rfl ?_
  refine nk_p (i := .aload_n 0) (len := 1) (pc' := 78) mJ_380 (by decide +kernel) (ns_aload_n 0 rfl rfl) rfl ?_
  refine nk_getC (f := (2, 10, 0)) (x := 9) (len := 3) (ci := 6) (k := 0) (pc' := 81) ja_okT mJ_380 (by decide +kernel) (by decide +kernel) (by decide +kernel) (by decide) t_l0 rfl ?_
  have t1 : nk_cl ja_Tt (ja_c l0 0) = some 10 := nk_tc (y := 0) ja_okT t_l0 (by decide +kernel)
  refine nk_getI (y := (0, 0)) (x := 23) (len := 3) (ci := 10) (k := 4) (pc' := 84) ja_okT mJ_380 (by decide +kernel) (by decide +kernel) (by decide +kernel) t1 rfl ?_
  refine nk_icmp (c := .ge) (off := 81) (len := 3) (t := 165) (pc' := 87) mJ_380 (by decide +kernel) (by decide +kernel) rfl (fun hc => ?_) (fun hc => ?_)
  · have hr := nk_ifp (c := (S.1 (ja_c l0 0) 4) ≤ (S.1 l0 2)) hc hr
    exact ja_X6_resolveHead_b165_ok zs _ _ _ _ _ _ _ _ t_l0 t_l3 hr
  · have hr := nk_ifn (c := (S.1 (ja_c l0 0) 4) ≤ (S.1 l0 2)) hc hr
    refine nk_p (i := .aload_n 0) (len := 1) (pc' := 88) mJ_380 (by decide +kernel) (ns_aload_n 0 rfl rfl) rfl ?_
    refine nk_getC (f := (2, 10, 0)) (x := 9) (len := 3) (ci := 6) (k := 0) (pc' := 91) ja_okT mJ_380 (by decide +kernel) (by decide +kernel) (by decide +kernel) (by decide) t_l0 rfl ?_
    refine nk_p (i := .aload_n 0) (len := 1) (pc' := 92) mJ_380 (by decide +kernel) (ns_aload_n 0 rfl rfl) rfl ?_
    refine nk_getI (y := (0, 0)) (x := 19) (len := 3) (ci := 6) (k := 2) (pc' := 95) ja_okT mJ_380 (by decide +kernel) (by decide +kernel) (by decide +kernel) t_l0 rfl ?_
    obtain ⟨r2, S3, h4, hr⟩ := nk_bde hr
    refine nk_callV (ci := 10) (n := 1) (x := 39) (len := 3) (j' := 32) (q' := 1) (r := r2) (S' := S3) (L2 := [(0, nk_r (ja_c l0 0)), (1, nk_i (S.1 l0 2))]) (rest := []) (st' := [nk_i r2]) (pc' := 98) mJ_380 (by decide +kernel) (by decide +kernel) rfl rfl t1 (Nat.le_of_ble_eq_true rfl) mJ_32 (Nat.le_of_ble_eq_true rfl) rfl (ja_X10_at_ok zs _ _ _ _ t1 h4) rfl ?_
    refine nk_p (i := .bipush 56) (len := 2) (pc' := 100) mJ_380 (by decide +kernel) (ns_bipush (c := 56) (by decide +kernel)) rfl ?_
    refine nk_icmp (c := .eq) (off := 65) (len := 3) (t := 165) (pc' := 103) mJ_380 (by decide +kernel) (by decide +kernel) rfl (fun hc => ?_) (fun hc => ?_)
    · have hr := nk_ifp (c := r2 = 56) hc hr
      exact ja_X6_resolveHead_b165_ok zs _ _ _ _ _ _ _ _ t_l0 t_l3 hr
    · have hr := nk_ifn (c := r2 = 56) hc hr
      refine nk_p (i := .aload_n 0) (len := 1) (pc' := 104) mJ_380 (by decide +kernel) (ns_aload_n 0 rfl rfl) rfl ?_
      refine nk_getC (f := (2, 10, 0)) (x := 9) (len := 3) (ci := 6) (k := 0) (pc' := 107) ja_okT mJ_380 (by decide +kernel) (by decide +kernel) (by decide +kernel) (by decide) t_l0 rfl ?_
      refine nk_p (i := .aload_n 0) (len := 1) (pc' := 108) mJ_380 (by decide +kernel) (ns_aload_n 0 rfl rfl) rfl ?_
      refine nk_getC (f := (2, 10, 0)) (x := 9) (len := 3) (ci := 6) (k := 0) (pc' := 111) ja_okT mJ_380 (by decide +kernel) (by decide +kernel) (by decide +kernel) (by decide) t_l0 rfl ?_
      refine nk_p (i := .aload_n 0) (len := 1) (pc' := 112) mJ_380 (by decide +kernel) (ns_aload_n 0 rfl rfl) rfl ?_
      refine nk_getI (y := (0, 0)) (x := 19) (len := 3) (ci := 6) (k := 2) (pc' := 115) ja_okT mJ_380 (by decide +kernel) (by decide +kernel) (by decide +kernel) t_l0 rfl ?_
      obtain ⟨r5, S6, h7, hr⟩ := nk_bde hr
      refine nk_callV (ci := 10) (n := 1) (x := 39) (len := 3) (j' := 32) (q' := 1) (r := r5) (S' := S6) (L2 := [(0, nk_r (ja_c l0 0)), (1, nk_i (S3.1 l0 2))]) (rest := [nk_r (ja_c l0 0)]) (st' := [nk_i r5, nk_r (ja_c l0 0)]) (pc' := 118) mJ_380 (by decide +kernel) (by decide +kernel) rfl rfl t1 (Nat.le_of_ble_eq_true rfl) mJ_32 (Nat.le_of_ble_eq_true rfl) rfl (ja_X10_at_ok zs _ _ _ _ t1 h7) rfl ?_
      obtain ⟨r8, S9, h10, hr⟩ := nk_bde hr
      refine nk_callV (ci := 10) (n := 1) (x := 127) (len := 3) (j' := 51) (q' := 1) (r := r8) (S' := S9) (L2 := [(0, nk_r (ja_c l0 0)), (1, nk_i r5)]) (rest := []) (st' := [nk_i r8]) (pc' := 121) mJ_380 (by decide +kernel) (by decide +kernel) rfl rfl t1 (Nat.le_of_ble_eq_true rfl) mJ_51 (Nat.le_of_ble_eq_true rfl) rfl (ja_X10_typeOf_ok zs _ _ _ _ t1 h10) rfl ?_
      refine nk_p (i := .istore 6) (len := 2) (pc' := 123) mJ_380 (by decide +kernel) (ns_istore (L' := [(6, nk_i r8), (0, nk_r l0), (1, nk_i l1), (2, nk_i l2), (3, nk_r l3), (4, nk_i l4), (5, nk_i l5)]) rfl rfl (by decide +kernel)) rfl ?_
      refine nk_p (i := .aload_n 3) (len := 1) (pc' := 124) mJ_380 (by decide +kernel) (ns_aload_n 4 rfl rfl) rfl ?_
      refine nk_p (i := .iload 6) (len := 2) (pc' := 126) mJ_380 (by decide +kernel) (ns_iload 0 rfl) rfl ?_
      obtain ⟨r11, S12, h13, hr⟩ := nk_bde hr
      refine nk_callV (ci := 0) (n := 1) (x := 143) (len := 3) (j' := 20) (q' := 0) (r := r11) (S' := S12) (L2 := [(0, nk_r l3), (1, nk_i r8)]) (rest := []) (st' := []) (pc' := 129) mJ_380 (by decide +kernel) (by decide +kernel) rfl rfl t_l3 (Nat.le_of_ble_eq_true rfl) mJ_20 (Nat.le_of_ble_eq_true rfl) rfl (ja_X0_addParameter_ok zs _ _ _ _ t_l3 h13) rfl ?_
      refine nk_p (i := .iload 6) (len := 2) (pc' := 131) mJ_380 (by decide +kernel) (ns_iload 0 rfl) rfl ?_
      refine nk_p (i := .bipush (-2)) (len := 2) (pc' := 133) mJ_380 (by decide +kernel) (ns_bipush (c := (-2)) (by decide +kernel)) rfl ?_
      refine nk_icmp (c := .ne) (off := 15) (len := 3) (t := 148) (pc' := 136) mJ_380 (by decide +kernel) (by decide +kernel) rfl (fun hc => ?_) (fun hc => ?_)
      · have hr := nk_ifn (c := r8 = (-2)) hc hr
        refine nk_sub [1, 2, 3, 4, 5, 6] (L' := [(0, nk_r l0), (1, nk_i l1), (2, nk_i l2), (3, nk_r l3), (4, nk_i l4), (5, nk_i l5)]) rfl ?_
        exact ja_X6_resolveHead_b148_ok zs hrec73 _ _ _ _ _ _ _ _ t_l0 t_l3 hr
      · have hr := nk_ifp (c := r8 = (-2)) (Decidable.of_not_not hc) hr
        refine nk_p (i := .iload 5) (len := 2) (pc' := 138) mJ_380 (by decide +kernel) (ns_iload 6 rfl) rfl ?_
        refine nk_icond (c := .ge) (off := 10) (len := 3) (t := 148) (pc' := 141) mJ_380 (by decide +kernel) (by decide +kernel) rfl (fun hc => ?_) (fun hc => ?_)
        · have hr := nk_ifp (c := 0 ≤ l5) hc hr
          refine nk_sub [1, 2, 3, 4, 5, 6] (L' := [(0, nk_r l0), (1, nk_i l1), (2, nk_i l2), (3, nk_r l3), (4, nk_i l4), (5, nk_i l5)]) rfl ?_
          exact ja_X6_resolveHead_b148_ok zs hrec73 _ _ _ _ _ _ _ _ t_l0 t_l3 hr
        · have hr := nk_ifn (c := 0 ≤ l5) hc hr
          refine nk_p (i := .aload_n 0) (len := 1) (pc' := 142) mJ_380 (by decide +kernel) (ns_aload_n 1 rfl rfl) rfl ?_
          refine nk_getI (y := (0, 0)) (x := 19) (len := 3) (ci := 6) (k := 2) (pc' := 145) ja_okT mJ_380 (by decide +kernel) (by decide +kernel) (by decide +kernel) t_l0 rfl ?_
          refine nk_p (i := .goto 5) (len := 3) (pc' := 150) mJ_380 (by decide +kernel) (ns_goto (by decide +kernel)) rfl ?_
          refine nk_sub [1, 2, 3, 4, 5] (L' := [(0, nk_r l0), (1, nk_i l1), (2, nk_i l2), (3, nk_r l3), (4, nk_i l4)]) rfl ?_
          exact ja_X6_resolveHead_b150_ok zs hrec73 _ _ _ _ _ _ _ _ t_l0 t_l3 hr
noncomputable def ja_X6_resolveHead_L73 : Nat → Nat → Int → Int → Nat → Int → Int → nk_S → Option (Int × nk_S)
  | 0, _, _, _, _, _, _, _ => none
  | n + 1, l0, l1, l2, l3, l4, l5, S => ja_X6_resolveHead_b73 (ja_X6_resolveHead_L73 n) l0 l1 l2 l3 l4 l5 S
theorem ja_X6_resolveHead_L73_ok (zs : List Int32) : ∀ n : Nat, ∀ (l0 : Nat) (l1 : Int) (l2 : Int) (l3 : Nat) (l4 : Int) (l5 : Int) (S : nk_S) (R : Int × nk_S), nk_cl ja_Tt l0 = some 6 → nk_cl ja_Tt l3 = some 0 → ja_X6_resolveHead_L73 n l0 l1 l2 l3 l4 l5 S = some R → nk_K ja_Tt mi_Γ (mi_ev zs) 1 380 73 [(0, nk_r l0), (1, nk_i l1), (2, nk_i l2), (3, nk_r l3), (4, nk_i l4), (5, nk_i l5)] [] S R := by
  intro n
  induction n with
  | zero => intro _ _ _ _ _ _ _ _ _ _ hr; cases hr
  | succ n ih => intro l0 l1 l2 l3 l4 l5 S R t_l0 t_l3 hr; exact ja_X6_resolveHead_b73_ok zs ih l0 l1 l2 l3 l4 l5 S R t_l0 t_l3 hr
noncomputable def ja_X6_resolveHead_b60 (l0 : Nat) (l1 : Int) (l2 : Int) (l3 : Nat) (l4 : Int) (s0 : Nat) (s1 : Int) (s2 : Int) (s3 : Int) (S : nk_S) : Option (Int × nk_S) :=
  nk_bd (ja_X0_begin s0 s1 s2 s3 S) fun r1 S2 =>
  nk_lt (nk_wi S2 l0 2 (nk_w (l1 + 3))) fun S4 =>
  ja_X6_resolveHead_L73 nk_big l0 l1 l2 l3 l4 (-1) S4
theorem ja_X6_resolveHead_b60_ok (zs : List Int32) : ∀ (l0 : Nat) (l1 : Int) (l2 : Int) (l3 : Nat) (l4 : Int) (s0 : Nat) (s1 : Int) (s2 : Int) (s3 : Int) (S : nk_S) (R : Int × nk_S), nk_cl ja_Tt l0 = some 6 → nk_cl ja_Tt l3 = some 0 → nk_cl ja_Tt s0 = some 0 → ja_X6_resolveHead_b60 l0 l1 l2 l3 l4 s0 s1 s2 s3 S = some R → nk_K ja_Tt mi_Γ (mi_ev zs) 1 380 60 [(0, nk_r l0), (1, nk_i l1), (2, nk_i l2), (3, nk_r l3), (4, nk_i l4)] [nk_i s3, nk_i s2, nk_i s1, nk_r s0] S R := by
  intro l0 l1 l2 l3 l4 s0 s1 s2 s3 S R t_l0 t_l3 t_s0 hr
  unfold ja_X6_resolveHead_b60 at hr
  obtain ⟨r1, S2, h3, hr⟩ := nk_bde hr
  refine nk_callV (ci := 0) (n := 3) (x := 139) (len := 3) (j' := 21) (q' := 0) (r := r1) (S' := S2) (L2 := [(0, nk_r s0), (1, nk_i s1), (2, nk_i s2), (3, nk_i s3)]) (rest := []) (st' := []) (pc' := 63) mJ_380 (by decide +kernel) (by decide +kernel) rfl rfl t_s0 (Nat.le_of_ble_eq_true rfl) mJ_21 (Nat.le_of_ble_eq_true rfl) rfl (ja_X0_begin_ok zs _ _ _ _ _ _ t_s0 h3) rfl ?_
  refine nk_p (i := .iconst (-1)) (len := 1) (pc' := 64) mJ_380 (by decide +kernel) (ns_iconst (c := (-1)) (by decide +kernel)) rfl ?_
  refine nk_p (i := .istore 5) (len := 2) (pc' := 66) mJ_380 (by decide +kernel) (ns_istore (L' := [(5, nk_i (-1)), (0, nk_r l0), (1, nk_i l1), (2, nk_i l2), (3, nk_r l3), (4, nk_i l4)]) rfl rfl (by decide +kernel)) rfl ?_
  refine nk_p (i := .aload_n 0) (len := 1) (pc' := 67) mJ_380 (by decide +kernel) (ns_aload_n 1 rfl rfl) rfl ?_
  refine nk_p (i := .iload_n 1) (len := 1) (pc' := 68) mJ_380 (by decide +kernel) (ns_iload_n 2 rfl rfl) rfl ?_
  refine nk_p (i := .iconst 3) (len := 1) (pc' := 69) mJ_380 (by decide +kernel) (ns_iconst (c := 3) (by decide +kernel)) rfl ?_
  refine nk_p (i := .iadd) (len := 1) (pc' := 70) mJ_380 (by decide +kernel) ns_iadd rfl ?_
  obtain ⟨S4, h5, hr⟩ := nk_lte hr
  refine nk_putI (y := (0, 0)) (ty := .int) (x := 19) (len := 3) (ci := 6) (k := 2) (pc' := 73) ja_okT mJ_380 (by decide +kernel) (by decide +kernel) (by decide +kernel) t_l0 (Or.inl rfl) rfl h5 ?_
  refine nk_sub [1, 2, 3, 4, 5, 0] (L' := [(0, nk_r l0), (1, nk_i l1), (2, nk_i l2), (3, nk_r l3), (4, nk_i l4), (5, nk_i (-1))]) rfl ?_
  exact ja_X6_resolveHead_L73_ok zs nk_big _ _ _ _ _ _ _ _ t_l0 t_l3 hr
noncomputable def ja_X6_resolveHead (l0 : Nat) (l1 : Int) (l2 : Int) (S : nk_S) : Option (Int × nk_S) :=
  nk_lt (nk_wi S l0 2 l1) fun S3 =>
  if (S3.1 (ja_c (S.2 l0 1) 1) 0) < 48 then
    nk_bd (ja_X10_at (ja_c l0 0) (nk_w (l1 + 1)) S3) fun r6 S7 =>
    nk_bd (ja_X10_at (ja_c l0 0) l1 S7) fun r9 S10 =>
    if r9 = 51 then
      ja_X6_resolveHead_b60 l0 l1 l2 (ja_c (S.2 l0 1) 1) r6 (ja_c (S.2 l0 1) 1) l2 r6 1 S10
    else
      ja_X6_resolveHead_b60 l0 l1 l2 (ja_c (S.2 l0 1) 1) r6 (ja_c (S.2 l0 1) 1) l2 r6 0 S10
  else
    some ((nk_w (l1 + 1)), S3)
theorem ja_X6_resolveHead_ok (zs : List Int32) : ∀ (l0 : Nat) (l1 : Int) (l2 : Int) (S : nk_S) (R : Int × nk_S), nk_cl ja_Tt l0 = some 6 → ja_X6_resolveHead l0 l1 l2 S = some R → nk_K ja_Tt mi_Γ (mi_ev zs) 1 380 0 [(0, nk_r l0), (1, nk_i l1), (2, nk_i l2)] [] S R := by
  intro l0 l1 l2 S R t_l0 hr
  unfold ja_X6_resolveHead at hr
  refine nk_p (i := .aload_n 0) (len := 1) (pc' := 1) mJ_380 (by decide +kernel) (ns_aload_n 0 rfl rfl) rfl ?_
  refine nk_getM (cj := 3) (z := 0) (x := 15) (len := 3) (ci := 6) (k := 1) (pc' := 4) ja_okT mJ_380 (by decide +kernel) (by decide +kernel) (by decide +kernel) t_l0 rfl (fun t1 => ?_)
  refine nk_getC (f := (2, 0, 0)) (x := 81) (len := 3) (ci := 3) (k := 1) (pc' := 7) ja_okT mJ_380 (by decide +kernel) (by decide +kernel) (by decide +kernel) (by decide) t1 rfl ?_
  have t2 : nk_cl ja_Tt (ja_c (S.2 l0 1) 1) = some 0 := nk_tc (y := 0) ja_okT t1 (by decide +kernel)
  refine nk_p (i := .astore_n 3) (len := 1) (pc' := 8) mJ_380 (by decide +kernel) (ns_astore_n (L' := [(3, nk_r (ja_c (S.2 l0 1) 1)), (0, nk_r l0), (1, nk_i l1), (2, nk_i l2)]) rfl rfl (by decide +kernel)) rfl ?_
  refine nk_p (i := .aload_n 0) (len := 1) (pc' := 9) mJ_380 (by decide +kernel) (ns_aload_n 1 rfl rfl) rfl ?_
  refine nk_p (i := .iload_n 1) (len := 1) (pc' := 10) mJ_380 (by decide +kernel) (ns_iload_n 2 rfl rfl) rfl ?_
  obtain ⟨S3, h4, hr⟩ := nk_lte hr
  refine nk_putI (y := (0, 0)) (ty := .int) (x := 19) (len := 3) (ci := 6) (k := 2) (pc' := 13) ja_okT mJ_380 (by decide +kernel) (by decide +kernel) (by decide +kernel) t_l0 (Or.inl rfl) rfl h4 ?_
  refine nk_p (i := .aload_n 3) (len := 1) (pc' := 14) mJ_380 (by decide +kernel) (ns_aload_n 0 rfl rfl) rfl ?_
  refine nk_getI (y := (0, 0)) (x := 85) (len := 3) (ci := 0) (k := 0) (pc' := 17) ja_okT mJ_380 (by decide +kernel) (by decide +kernel) (by decide +kernel) t2 rfl ?_
  refine nk_p (i := .bipush 48) (len := 2) (pc' := 19) mJ_380 (by decide +kernel) (ns_bipush (c := 48) (by decide +kernel)) rfl ?_
  refine nk_icmp (c := .lt) (off := 7) (len := 3) (t := 26) (pc' := 22) mJ_380 (by decide +kernel) (by decide +kernel) rfl (fun hc => ?_) (fun hc => ?_)
  · have hr := nk_ifp (c := (S3.1 (ja_c (S.2 l0 1) 1) 0) < 48) hc hr
    refine nk_p (i := .aload_n 0) (len := 1) (pc' := 27) mJ_380 (by decide +kernel) (ns_aload_n 1 rfl rfl) rfl ?_
    refine nk_getC (f := (2, 10, 0)) (x := 9) (len := 3) (ci := 6) (k := 0) (pc' := 30) ja_okT mJ_380 (by decide +kernel) (by decide +kernel) (by decide +kernel) (by decide) t_l0 rfl ?_
    have t5 : nk_cl ja_Tt (ja_c l0 0) = some 10 := nk_tc (y := 0) ja_okT t_l0 (by decide +kernel)
    refine nk_p (i := .iload_n 1) (len := 1) (pc' := 31) mJ_380 (by decide +kernel) (ns_iload_n 2 rfl rfl) rfl ?_
    refine nk_p (i := .iconst 1) (len := 1) (pc' := 32) mJ_380 (by decide +kernel) (ns_iconst (c := 1) (by decide +kernel)) rfl ?_
    refine nk_p (i := .iadd) (len := 1) (pc' := 33) mJ_380 (by decide +kernel) ns_iadd rfl ?_
    obtain ⟨r6, S7, h8, hr⟩ := nk_bde hr
    refine nk_callV (ci := 10) (n := 1) (x := 39) (len := 3) (j' := 32) (q' := 1) (r := r6) (S' := S7) (L2 := [(0, nk_r (ja_c l0 0)), (1, nk_i (nk_w (l1 + 1)))]) (rest := []) (st' := [nk_i r6]) (pc' := 36) mJ_380 (by decide +kernel) (by decide +kernel) rfl rfl t5 (Nat.le_of_ble_eq_true rfl) mJ_32 (Nat.le_of_ble_eq_true rfl) rfl (ja_X10_at_ok zs _ _ _ _ t5 h8) rfl ?_
    refine nk_p (i := .istore 4) (len := 2) (pc' := 38) mJ_380 (by decide +kernel) (ns_istore (L' := [(4, nk_i r6), (3, nk_r (ja_c (S.2 l0 1) 1)), (0, nk_r l0), (1, nk_i l1), (2, nk_i l2)]) rfl rfl (by decide +kernel)) rfl ?_
    refine nk_p (i := .aload_n 3) (len := 1) (pc' := 39) mJ_380 (by decide +kernel) (ns_aload_n 1 rfl rfl) rfl ?_
    refine nk_p (i := .iload_n 2) (len := 1) (pc' := 40) mJ_380 (by decide +kernel) (ns_iload_n 4 rfl rfl) rfl ?_
    refine nk_p (i := .iload 4) (len := 2) (pc' := 42) mJ_380 (by decide +kernel) (ns_iload 0 rfl) rfl ?_
    refine nk_p (i := .aload_n 0) (len := 1) (pc' := 43) mJ_380 (by decide +kernel) (ns_aload_n 2 rfl rfl) rfl ?_
    refine nk_getC (f := (2, 10, 0)) (x := 9) (len := 3) (ci := 6) (k := 0) (pc' := 46) ja_okT mJ_380 (by decide +kernel) (by decide +kernel) (by decide +kernel) (by decide) t_l0 rfl ?_
    refine nk_p (i := .iload_n 1) (len := 1) (pc' := 47) mJ_380 (by decide +kernel) (ns_iload_n 3 rfl rfl) rfl ?_
    obtain ⟨r9, S10, h11, hr⟩ := nk_bde hr
    refine nk_callV (ci := 10) (n := 1) (x := 39) (len := 3) (j' := 32) (q' := 1) (r := r9) (S' := S10) (L2 := [(0, nk_r (ja_c l0 0)), (1, nk_i l1)]) (rest := [nk_i r6, nk_i l2, nk_r (ja_c (S.2 l0 1) 1)]) (st' := [nk_i r9, nk_i r6, nk_i l2, nk_r (ja_c (S.2 l0 1) 1)]) (pc' := 50) mJ_380 (by decide +kernel) (by decide +kernel) rfl rfl t5 (Nat.le_of_ble_eq_true rfl) mJ_32 (Nat.le_of_ble_eq_true rfl) rfl (ja_X10_at_ok zs _ _ _ _ t5 h11) rfl ?_
    refine nk_p (i := .bipush 51) (len := 2) (pc' := 52) mJ_380 (by decide +kernel) (ns_bipush (c := 51) (by decide +kernel)) rfl ?_
    refine nk_icmp (c := .ne) (off := 7) (len := 3) (t := 59) (pc' := 55) mJ_380 (by decide +kernel) (by decide +kernel) rfl (fun hc => ?_) (fun hc => ?_)
    · have hr := nk_ifn (c := r9 = 51) hc hr
      refine nk_p (i := .iconst 0) (len := 1) (pc' := 60) mJ_380 (by decide +kernel) (ns_iconst (c := 0) (by decide +kernel)) rfl ?_
      refine nk_sub [2, 3, 4, 1, 0] (L' := [(0, nk_r l0), (1, nk_i l1), (2, nk_i l2), (3, nk_r (ja_c (S.2 l0 1) 1)), (4, nk_i r6)]) rfl ?_
      exact ja_X6_resolveHead_b60_ok zs _ _ _ _ _ _ _ _ _ _ _ t_l0 t2 t2 hr
    · have hr := nk_ifp (c := r9 = 51) (Decidable.of_not_not hc) hr
      refine nk_p (i := .iconst 1) (len := 1) (pc' := 56) mJ_380 (by decide +kernel) (ns_iconst (c := 1) (by decide +kernel)) rfl ?_
      refine nk_p (i := .goto 4) (len := 3) (pc' := 60) mJ_380 (by decide +kernel) (ns_goto (by decide +kernel)) rfl ?_
      refine nk_sub [2, 3, 4, 1, 0] (L' := [(0, nk_r l0), (1, nk_i l1), (2, nk_i l2), (3, nk_r (ja_c (S.2 l0 1) 1)), (4, nk_i r6)]) rfl ?_
      exact ja_X6_resolveHead_b60_ok zs _ _ _ _ _ _ _ _ _ _ _ t_l0 t2 t2 hr
  · have hr := nk_ifn (c := (S3.1 (ja_c (S.2 l0 1) 1) 0) < 48) hc hr
    refine nk_p (i := .iload_n 1) (len := 1) (pc' := 23) mJ_380 (by decide +kernel) (ns_iload_n 2 rfl rfl) rfl ?_
    refine nk_p (i := .iconst 1) (len := 1) (pc' := 24) mJ_380 (by decide +kernel) (ns_iconst (c := 1) (by decide +kernel)) rfl ?_
    refine nk_p (i := .iadd) (len := 1) (pc' := 25) mJ_380 (by decide +kernel) ns_iadd rfl ?_
    cases hr
    exact nk_iret (ty := .int) (len := 1) mJ_380 (by decide +kernel) rfl (nk_nar_i _)
