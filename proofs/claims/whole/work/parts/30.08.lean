/-! SafeCode$Proof usesElement (I)Z -/
noncomputable def ja_X4_usesElement_b121 (l0 : Nat) (l1 : Int) (l2 : Int) (l3 : Int) (l4 : Int) (l6 : Int) (s0 : Int) (S : nk_S) : Option (Int × nk_S) :=
  nk_bd (ja_X5_isNothing l4 S) fun r1 S2 =>
  if r1 = 0 then
    nk_bd (ja_X5_isNothing l6 S2) fun r4 S5 =>
    if r4 = 0 then
      nk_bd (ja_X7_narrow (ja_c l0 2) l3 l6 s0 S5) fun r8 S9 =>
      if r8 = 0 then
        some (0, S9)
      else
        if l1 = 33 then
          nk_bd (ja_X4_takesElement l0 l2 S9) fun r15 S16 =>
          if r15 = 0 ∨ r15 = 1 then
          some (r15, S16)
          else none
        else
          nk_bd (ja_X4_putsElement l0 l2 S9) fun r11 S12 =>
          if r11 = 0 ∨ r11 = 1 then
          some (r11, S12)
          else none
    else
      some (0, S5)
  else
    some (0, S2)
theorem ja_X4_usesElement_b121_ok (zs : List Int32) : ∀ (l0 : Nat) (l1 : Int) (l2 : Int) (l3 : Int) (l4 : Int) (l6 : Int) (s0 : Int) (S : nk_S) (R : Int × nk_S), nk_cl ja_Tt l0 = some 4 → ja_X4_usesElement_b121 l0 l1 l2 l3 l4 l6 s0 S = some R → nk_K ja_Tt mi_Γ (mi_ev zs) 1 346 121 [(0, nk_r l0), (1, nk_i l1), (2, nk_i l2), (3, nk_i l3), (4, nk_l l4), (6, nk_l l6)] [nk_l s0] S R := by
  intro l0 l1 l2 l3 l4 l6 s0 S R t_l0 hr
  unfold ja_X4_usesElement_b121 at hr
  refine nk_p (i := .lstore 9) (len := 2) (pc' := 123) mJ_346 (by decide +kernel) (ns_lstore (L' := [(9, nk_l s0), (0, nk_r l0), (1, nk_i l1), (2, nk_i l2), (3, nk_i l3), (4, nk_l l4), (6, nk_l l6)]) rfl rfl (by decide +kernel)) rfl ?_
  refine nk_p (i := .lload 4) (len := 2) (pc' := 125) mJ_346 (by decide +kernel) (ns_lload 5 rfl) rfl ?_
  obtain ⟨r1, S2, h3, hr⟩ := nk_bde hr
  refine nk_callS (ci := 0) (n := 1) (x := 342) (len := 3) (j' := 360) (q' := 1) (r := r1) (S' := S2) (L2 := [(0, nk_l l4)]) (rest := []) (st' := [nk_i r1]) (pc' := 128) mJ_346 (by decide +kernel) (by decide +kernel) (Nat.le_of_ble_eq_true rfl) rfl rfl (Nat.le_of_ble_eq_true rfl) mJ_360 (Nat.le_of_ble_eq_true rfl) ja_Tpos rfl (ja_X5_isNothing_ok zs _ _ _ h3) rfl ?_
  refine nk_icond (c := .ne) (off := 26) (len := 3) (t := 154) (pc' := 131) mJ_346 (by decide +kernel) (by decide +kernel) rfl (fun hc => ?_) (fun hc => ?_)
  · have hr := nk_ifn (c := r1 = 0) hc hr
    refine nk_p (i := .iconst 0) (len := 1) (pc' := 155) mJ_346 (by decide +kernel) (ns_iconst (c := 0) (by decide +kernel)) rfl ?_
    cases hr
    exact nk_iret (ty := .boolean) (len := 1) mJ_346 (by decide +kernel) rfl (nk_nar_z (by decide))
  · have hr := nk_ifp (c := r1 = 0) (Decidable.of_not_not hc) hr
    refine nk_p (i := .lload 6) (len := 2) (pc' := 133) mJ_346 (by decide +kernel) (ns_lload 6 rfl) rfl ?_
    obtain ⟨r4, S5, h6, hr⟩ := nk_bde hr
    refine nk_callS (ci := 0) (n := 1) (x := 342) (len := 3) (j' := 360) (q' := 1) (r := r4) (S' := S5) (L2 := [(0, nk_l l6)]) (rest := []) (st' := [nk_i r4]) (pc' := 136) mJ_346 (by decide +kernel) (by decide +kernel) (Nat.le_of_ble_eq_true rfl) rfl rfl (Nat.le_of_ble_eq_true rfl) mJ_360 (Nat.le_of_ble_eq_true rfl) ja_Tpos rfl (ja_X5_isNothing_ok zs _ _ _ h6) rfl ?_
    refine nk_icond (c := .ne) (off := 18) (len := 3) (t := 154) (pc' := 139) mJ_346 (by decide +kernel) (by decide +kernel) rfl (fun hc => ?_) (fun hc => ?_)
    · have hr := nk_ifn (c := r4 = 0) hc hr
      refine nk_p (i := .iconst 0) (len := 1) (pc' := 155) mJ_346 (by decide +kernel) (ns_iconst (c := 0) (by decide +kernel)) rfl ?_
      cases hr
      exact nk_iret (ty := .boolean) (len := 1) mJ_346 (by decide +kernel) rfl (nk_nar_z (by decide))
    · have hr := nk_ifp (c := r4 = 0) (Decidable.of_not_not hc) hr
      refine nk_p (i := .aload_n 0) (len := 1) (pc' := 140) mJ_346 (by decide +kernel) (ns_aload_n 1 rfl rfl) rfl ?_
      refine nk_getC (f := (2, 7, 0)) (x := 12) (len := 3) (ci := 4) (k := 2) (pc' := 143) ja_okT mJ_346 (by decide +kernel) (by decide +kernel) (by decide +kernel) (by decide) t_l0 rfl ?_
      have t7 : nk_cl ja_Tt (ja_c l0 2) = some 7 := nk_tc (y := 0) ja_okT t_l0 (by decide +kernel)
      refine nk_p (i := .iload_n 3) (len := 1) (pc' := 144) mJ_346 (by decide +kernel) (ns_iload_n 4 rfl rfl) rfl ?_
      refine nk_p (i := .lload 6) (len := 2) (pc' := 146) mJ_346 (by decide +kernel) (ns_lload 6 rfl) rfl ?_
      refine nk_p (i := .lload 9) (len := 2) (pc' := 148) mJ_346 (by decide +kernel) (ns_lload 0 rfl) rfl ?_
      obtain ⟨r8, S9, h10, hr⟩ := nk_bde hr
      refine nk_callV (ci := 7) (n := 3) (x := 367) (len := 3) (j' := 407) (q' := 1) (r := r8) (S' := S9) (L2 := [(0, nk_r (ja_c l0 2)), (1, nk_i l3), (2, nk_l l6), (4, nk_l s0)]) (rest := []) (st' := [nk_i r8]) (pc' := 151) mJ_346 (by decide +kernel) (by decide +kernel) rfl rfl t7 (Nat.le_of_ble_eq_true rfl) mJ_407 (Nat.le_of_ble_eq_true rfl) rfl (ja_X7_narrow_ok zs _ _ _ _ _ _ t7 h10) rfl ?_
      refine nk_icond (c := .ne) (off := 5) (len := 3) (t := 156) (pc' := 154) mJ_346 (by decide +kernel) (by decide +kernel) rfl (fun hc => ?_) (fun hc => ?_)
      · have hr := nk_ifn (c := r8 = 0) hc hr
        refine nk_p (i := .iload_n 1) (len := 1) (pc' := 157) mJ_346 (by decide +kernel) (ns_iload_n 2 rfl rfl) rfl ?_
        refine nk_p (i := .bipush 33) (len := 2) (pc' := 159) mJ_346 (by decide +kernel) (ns_bipush (c := 33) (by decide +kernel)) rfl ?_
        refine nk_icmp (c := .ne) (off := 11) (len := 3) (t := 170) (pc' := 162) mJ_346 (by decide +kernel) (by decide +kernel) rfl (fun hc => ?_) (fun hc => ?_)
        · have hr := nk_ifn (c := l1 = 33) hc hr
          refine nk_p (i := .aload_n 0) (len := 1) (pc' := 171) mJ_346 (by decide +kernel) (ns_aload_n 1 rfl rfl) rfl ?_
          refine nk_p (i := .iload_n 2) (len := 1) (pc' := 172) mJ_346 (by decide +kernel) (ns_iload_n 3 rfl rfl) rfl ?_
          obtain ⟨r11, S12, h13, hr⟩ := nk_bde hr
          refine nk_callV (ci := 4) (n := 1) (x := 444) (len := 3) (j' := 337) (q' := 1) (r := r11) (S' := S12) (L2 := [(0, nk_r l0), (1, nk_i l2)]) (rest := []) (st' := [nk_i r11]) (pc' := 175) mJ_346 (by decide +kernel) (by decide +kernel) rfl rfl t_l0 (Nat.le_of_ble_eq_true rfl) mJ_337 (Nat.le_of_ble_eq_true rfl) rfl (ja_X4_putsElement_ok zs _ _ _ _ t_l0 h13) rfl ?_
          obtain ⟨h14, hr⟩ := nk_cke hr
          cases hr
          exact nk_iret (ty := .boolean) (len := 1) mJ_346 (by decide +kernel) rfl (nk_nar_z h14)
        · have hr := nk_ifp (c := l1 = 33) (Decidable.of_not_not hc) hr
          refine nk_p (i := .aload_n 0) (len := 1) (pc' := 163) mJ_346 (by decide +kernel) (ns_aload_n 1 rfl rfl) rfl ?_
          refine nk_p (i := .iload_n 2) (len := 1) (pc' := 164) mJ_346 (by decide +kernel) (ns_iload_n 3 rfl rfl) rfl ?_
          obtain ⟨r15, S16, h17, hr⟩ := nk_bde hr
          refine nk_callV (ci := 4) (n := 1) (x := 441) (len := 3) (j' := 340) (q' := 1) (r := r15) (S' := S16) (L2 := [(0, nk_r l0), (1, nk_i l2)]) (rest := []) (st' := [nk_i r15]) (pc' := 167) mJ_346 (by decide +kernel) (by decide +kernel) rfl rfl t_l0 (Nat.le_of_ble_eq_true rfl) mJ_340 (Nat.le_of_ble_eq_true rfl) rfl (ja_X4_takesElement_ok zs _ _ _ _ t_l0 h17) rfl ?_
          refine nk_p (i := .goto 8) (len := 3) (pc' := 175) mJ_346 (by decide +kernel) (ns_goto (by decide +kernel)) rfl ?_
          obtain ⟨h18, hr⟩ := nk_cke hr
          cases hr
          exact nk_iret (ty := .boolean) (len := 1) mJ_346 (by decide +kernel) rfl (nk_nar_z h18)
      · have hr := nk_ifp (c := r8 = 0) (Decidable.of_not_not hc) hr
        refine nk_p (i := .iconst 0) (len := 1) (pc' := 155) mJ_346 (by decide +kernel) (ns_iconst (c := 0) (by decide +kernel)) rfl ?_
        cases hr
        exact nk_iret (ty := .boolean) (len := 1) mJ_346 (by decide +kernel) rfl (nk_nar_z (by decide))
noncomputable def ja_X4_usesElement_b64 (l0 : Nat) (l1 : Int) (l2 : Int) (l3 : Int) (l4 : Int) (S : nk_S) : Option (Int × nk_S) :=
  if 0 ≤ l3 ∧ l3 < 20 then
  nk_bd (ja_X5_highest l4 S) fun r5 S6 =>
  nk_bd (ja_X5_cut (S.2 l0 1) (S.1 (ja_c (ja_c l0 2) 4) l3.toNat) 0 (nk_W (r5 - 1)) S6) fun r8 S9 =>
  if 0 ≤ l2 ∧ l2 < 20 then
  nk_bd (ja_X7_copyOf (S9.1 (ja_c (ja_c l0 2) 5) l2.toNat) S9) fun r13 S14 =>
  if 0 ≤ r13 then
    ja_X4_usesElement_b121 l0 l1 l2 l3 l4 r8 (nk_lshl 1 (nk_w (12 + r13))) S14
  else
    ja_X4_usesElement_b121 l0 l1 l2 l3 l4 r8 0 S14
  else none
  else none
theorem ja_X4_usesElement_b64_ok (zs : List Int32) : ∀ (l0 : Nat) (l1 : Int) (l2 : Int) (l3 : Int) (l4 : Int) (S : nk_S) (R : Int × nk_S), nk_cl ja_Tt l0 = some 4 → ja_X4_usesElement_b64 l0 l1 l2 l3 l4 S = some R → nk_K ja_Tt mi_Γ (mi_ev zs) 1 346 64 [(0, nk_r l0), (1, nk_i l1), (2, nk_i l2), (3, nk_i l3), (4, nk_l l4)] [] S R := by
  intro l0 l1 l2 l3 l4 S R t_l0 hr
  unfold ja_X4_usesElement_b64 at hr
  refine nk_p (i := .aload_n 0) (len := 1) (pc' := 65) mJ_346 (by decide +kernel) (ns_aload_n 0 rfl rfl) rfl ?_
  refine nk_getM (cj := 5) (z := 0) (x := 52) (len := 3) (ci := 4) (k := 1) (pc' := 68) ja_okT mJ_346 (by decide +kernel) (by decide +kernel) (by decide +kernel) t_l0 rfl (fun t1 => ?_)
  refine nk_p (i := .aload_n 0) (len := 1) (pc' := 69) mJ_346 (by decide +kernel) (ns_aload_n 0 rfl rfl) rfl ?_
  refine nk_getC (f := (2, 7, 0)) (x := 12) (len := 3) (ci := 4) (k := 2) (pc' := 72) ja_okT mJ_346 (by decide +kernel) (by decide +kernel) (by decide +kernel) (by decide) t_l0 rfl ?_
  have t2 : nk_cl ja_Tt (ja_c l0 2) = some 7 := nk_tc (y := 0) ja_okT t_l0 (by decide +kernel)
  refine nk_getC (f := (4, 2, 20)) (x := 299) (len := 3) (ci := 7) (k := 4) (pc' := 75) ja_okT mJ_346 (by decide +kernel) (by decide +kernel) (by decide +kernel) (by decide) t2 rfl ?_
  have t3 : nk_ar ja_Tt (ja_c (ja_c l0 2) 4) = some (2, 20) := nk_ta ja_okT t2 (by decide +kernel)
  refine nk_p (i := .iload_n 3) (len := 1) (pc' := 76) mJ_346 (by decide +kernel) (ns_iload_n 3 rfl rfl) rfl ?_
  obtain ⟨h4, hr⟩ := nk_cke hr
  refine nk_lald (len := 1) (N := 20) (pc' := 77) mJ_346 (by decide +kernel) t3 h4.1 h4.2 rfl rfl ?_
  refine nk_p (i := .lconst 0) (len := 1) (pc' := 78) mJ_346 (by decide +kernel) (ns_lconst (c := 0) (by decide +kernel)) rfl ?_
  refine nk_p (i := .lload 4) (len := 2) (pc' := 80) mJ_346 (by decide +kernel) (ns_lload 4 rfl) rfl ?_
  obtain ⟨r5, S6, h7, hr⟩ := nk_bde hr
  refine nk_callS (ci := 0) (n := 1) (x := 332) (len := 3) (j' := 356) (q' := 1) (r := r5) (S' := S6) (L2 := [(0, nk_l l4)]) (rest := [nk_l 0, nk_l (S.1 (ja_c (ja_c l0 2) 4) l3.toNat), nk_r (S.2 l0 1)]) (st' := [nk_i r5, nk_l 0, nk_l (S.1 (ja_c (ja_c l0 2) 4) l3.toNat), nk_r (S.2 l0 1)]) (pc' := 83) mJ_346 (by decide +kernel) (by decide +kernel) (Nat.le_of_ble_eq_true rfl) rfl rfl (Nat.le_of_ble_eq_true rfl) mJ_356 (Nat.le_of_ble_eq_true rfl) ja_Tpos rfl (ja_X5_highest_ok zs _ _ _ h7) rfl ?_
  refine nk_p (i := .i2l) (len := 1) (pc' := 84) mJ_346 (by decide +kernel) ns_i2l rfl ?_
  refine nk_p (i := .lconst 1) (len := 1) (pc' := 85) mJ_346 (by decide +kernel) (ns_lconst (c := 1) (by decide +kernel)) rfl ?_
  refine nk_p (i := .lsub) (len := 1) (pc' := 86) mJ_346 (by decide +kernel) ns_lsub rfl ?_
  obtain ⟨r8, S9, h10, hr⟩ := nk_bde hr
  refine nk_callV (ci := 5) (n := 3) (x := 382) (len := 3) (j' := 354) (q' := 2) (r := r8) (S' := S9) (L2 := [(0, nk_r (S.2 l0 1)), (1, nk_l (S.1 (ja_c (ja_c l0 2) 4) l3.toNat)), (3, nk_l 0), (5, nk_l (nk_W (r5 - 1)))]) (rest := []) (st' := [nk_l r8]) (pc' := 89) mJ_346 (by decide +kernel) (by decide +kernel) rfl rfl t1 (Nat.le_of_ble_eq_true rfl) mJ_354 (Nat.le_of_ble_eq_true rfl) rfl (ja_X5_cut_ok zs _ _ _ _ _ _ t1 h10) rfl ?_
  refine nk_p (i := .lstore 6) (len := 2) (pc' := 91) mJ_346 (by decide +kernel) (ns_lstore (L' := [(6, nk_l r8), (0, nk_r l0), (1, nk_i l1), (2, nk_i l2), (3, nk_i l3), (4, nk_l l4)]) rfl rfl (by decide +kernel)) rfl ?_
  refine nk_p (i := .aload_n 0) (len := 1) (pc' := 92) mJ_346 (by decide +kernel) (ns_aload_n 1 rfl rfl) rfl ?_
  refine nk_getC (f := (2, 7, 0)) (x := 12) (len := 3) (ci := 4) (k := 2) (pc' := 95) ja_okT mJ_346 (by decide +kernel) (by decide +kernel) (by decide +kernel) (by decide) t_l0 rfl ?_
  refine nk_getC (f := (4, 2, 20)) (x := 302) (len := 3) (ci := 7) (k := 5) (pc' := 98) ja_okT mJ_346 (by decide +kernel) (by decide +kernel) (by decide +kernel) (by decide) t2 rfl ?_
  have t11 : nk_ar ja_Tt (ja_c (ja_c l0 2) 5) = some (2, 20) := nk_ta ja_okT t2 (by decide +kernel)
  refine nk_p (i := .iload_n 2) (len := 1) (pc' := 99) mJ_346 (by decide +kernel) (ns_iload_n 3 rfl rfl) rfl ?_
  obtain ⟨h12, hr⟩ := nk_cke hr
  refine nk_lald (len := 1) (N := 20) (pc' := 100) mJ_346 (by decide +kernel) t11 h12.1 h12.2 rfl rfl ?_
  obtain ⟨r13, S14, h15, hr⟩ := nk_bde hr
  refine nk_callS (ci := 0) (n := 1) (x := 390) (len := 3) (j' := 400) (q' := 1) (r := r13) (S' := S14) (L2 := [(0, nk_l (S9.1 (ja_c (ja_c l0 2) 5) l2.toNat))]) (rest := []) (st' := [nk_i r13]) (pc' := 103) mJ_346 (by decide +kernel) (by decide +kernel) (Nat.le_of_ble_eq_true rfl) rfl rfl (Nat.le_of_ble_eq_true rfl) mJ_400 (Nat.le_of_ble_eq_true rfl) ja_Tpos rfl (ja_X7_copyOf_ok zs _ _ _ h15) rfl ?_
  refine nk_p (i := .istore 8) (len := 2) (pc' := 105) mJ_346 (by decide +kernel) (ns_istore (L' := [(8, nk_i r13), (6, nk_l r8), (0, nk_r l0), (1, nk_i l1), (2, nk_i l2), (3, nk_i l3), (4, nk_l l4)]) rfl rfl (by decide +kernel)) rfl ?_
  refine nk_p (i := .iload 8) (len := 2) (pc' := 107) mJ_346 (by decide +kernel) (ns_iload 0 rfl) rfl ?_
  refine nk_icond (c := .ge) (off := 7) (len := 3) (t := 114) (pc' := 110) mJ_346 (by decide +kernel) (by decide +kernel) rfl (fun hc => ?_) (fun hc => ?_)
  · have hr := nk_ifp (c := 0 ≤ r13) hc hr
    refine nk_p (i := .lconst 1) (len := 1) (pc' := 115) mJ_346 (by decide +kernel) (ns_lconst (c := 1) (by decide +kernel)) rfl ?_
    refine nk_p (i := .bipush 12) (len := 2) (pc' := 117) mJ_346 (by decide +kernel) (ns_bipush (c := 12) (by decide +kernel)) rfl ?_
    refine nk_p (i := .iload 8) (len := 2) (pc' := 119) mJ_346 (by decide +kernel) (ns_iload 0 rfl) rfl ?_
    refine nk_p (i := .iadd) (len := 1) (pc' := 120) mJ_346 (by decide +kernel) ns_iadd rfl ?_
    refine nk_p (i := .lshl) (len := 1) (pc' := 121) mJ_346 (by decide +kernel) ns_lshl rfl ?_
    refine nk_sub [2, 3, 4, 5, 6, 1] (L' := [(0, nk_r l0), (1, nk_i l1), (2, nk_i l2), (3, nk_i l3), (4, nk_l l4), (6, nk_l r8)]) rfl ?_
    exact ja_X4_usesElement_b121_ok zs _ _ _ _ _ _ _ _ _ t_l0 hr
  · have hr := nk_ifn (c := 0 ≤ r13) hc hr
    refine nk_p (i := .lconst 0) (len := 1) (pc' := 111) mJ_346 (by decide +kernel) (ns_lconst (c := 0) (by decide +kernel)) rfl ?_
    refine nk_p (i := .goto 10) (len := 3) (pc' := 121) mJ_346 (by decide +kernel) (ns_goto (by decide +kernel)) rfl ?_
    refine nk_sub [2, 3, 4, 5, 6, 1] (L' := [(0, nk_r l0), (1, nk_i l1), (2, nk_i l2), (3, nk_i l3), (4, nk_l l4), (6, nk_l r8)]) rfl ?_
    exact ja_X4_usesElement_b121_ok zs _ _ _ _ _ _ _ _ _ t_l0 hr
noncomputable def ja_X4_usesElement_b15 (l0 : Nat) (l1 : Int) (s0 : Nat) (s1 : Int) (S : nk_S) : Option (Int × nk_S) :=
  nk_bd (ja_X7_fromTop s0 s1 S) fun r1 S2 =>
  nk_lt (nk_w (r1 + 1)) fun v4 =>
  nk_bd (ja_X4_dereference l0 r1 S2) fun r6 S7 =>
  if r6 = 0 then
    some (0, S7)
  else
    if 0 ≤ r1 ∧ r1 < 20 then
    nk_bd (ja_X4_lengthsOf l0 (S7.1 (ja_c (ja_c l0 2) 4) r1.toNat) S7) fun r12 S13 =>
    nk_bd (ja_X4_staysInside l0 r1 v4 r12 S13) fun r15 S16 =>
    if r15 = 0 then
      nk_bd (ja_X4_raise l0 1 S16) fun r18 S19 =>
      ja_X4_usesElement_b64 l0 l1 r1 v4 r12 S19
    else
      ja_X4_usesElement_b64 l0 l1 r1 v4 r12 S16
    else none
theorem ja_X4_usesElement_b15_ok (zs : List Int32) : ∀ (l0 : Nat) (l1 : Int) (s0 : Nat) (s1 : Int) (S : nk_S) (R : Int × nk_S), nk_cl ja_Tt l0 = some 4 → nk_cl ja_Tt s0 = some 7 → ja_X4_usesElement_b15 l0 l1 s0 s1 S = some R → nk_K ja_Tt mi_Γ (mi_ev zs) 1 346 15 [(0, nk_r l0), (1, nk_i l1)] [nk_i s1, nk_r s0] S R := by
  intro l0 l1 s0 s1 S R t_l0 t_s0 hr
  unfold ja_X4_usesElement_b15 at hr
  obtain ⟨r1, S2, h3, hr⟩ := nk_bde hr
  refine nk_callV (ci := 7) (n := 1) (x := 290) (len := 3) (j' := 403) (q' := 1) (r := r1) (S' := S2) (L2 := [(0, nk_r s0), (1, nk_i s1)]) (rest := []) (st' := [nk_i r1]) (pc' := 18) mJ_346 (by decide +kernel) (by decide +kernel) rfl rfl t_s0 (Nat.le_of_ble_eq_true rfl) mJ_403 (Nat.le_of_ble_eq_true rfl) rfl (ja_X7_fromTop_ok zs _ _ _ _ t_s0 h3) rfl ?_
  refine nk_p (i := .istore_n 2) (len := 1) (pc' := 19) mJ_346 (by decide +kernel) (ns_istore_n (L' := [(2, nk_i r1), (0, nk_r l0), (1, nk_i l1)]) rfl rfl rfl (by decide +kernel)) rfl ?_
  refine nk_p (i := .iload_n 2) (len := 1) (pc' := 20) mJ_346 (by decide +kernel) (ns_iload_n 0 rfl rfl) rfl ?_
  refine nk_p (i := .iconst 1) (len := 1) (pc' := 21) mJ_346 (by decide +kernel) (ns_iconst (c := 1) (by decide +kernel)) rfl ?_
  refine nk_p (i := .iadd) (len := 1) (pc' := 22) mJ_346 (by decide +kernel) ns_iadd rfl ?_
  obtain ⟨v4, h5, hr⟩ := nk_lte hr
  refine nk_p (i := .istore_n 3) (len := 1) (pc' := 23) mJ_346 (by decide +kernel) (ns_istore_n (L' := [(3, nk_i v4), (2, nk_i r1), (0, nk_r l0), (1, nk_i l1)]) h5 rfl rfl (by decide +kernel)) rfl ?_
  refine nk_p (i := .aload_n 0) (len := 1) (pc' := 24) mJ_346 (by decide +kernel) (ns_aload_n 2 rfl rfl) rfl ?_
  refine nk_p (i := .iload_n 2) (len := 1) (pc' := 25) mJ_346 (by decide +kernel) (ns_iload_n 1 rfl rfl) rfl ?_
  obtain ⟨r6, S7, h8, hr⟩ := nk_bde hr
  refine nk_callV (ci := 4) (n := 1) (x := 431) (len := 3) (j' := 316) (q' := 1) (r := r6) (S' := S7) (L2 := [(0, nk_r l0), (1, nk_i r1)]) (rest := []) (st' := [nk_i r6]) (pc' := 28) mJ_346 (by decide +kernel) (by decide +kernel) rfl rfl t_l0 (Nat.le_of_ble_eq_true rfl) mJ_316 (Nat.le_of_ble_eq_true rfl) rfl (ja_X4_dereference_ok zs _ _ _ _ t_l0 h8) rfl ?_
  refine nk_icond (c := .ne) (off := 5) (len := 3) (t := 33) (pc' := 31) mJ_346 (by decide +kernel) (by decide +kernel) rfl (fun hc => ?_) (fun hc => ?_)
  · have hr := nk_ifn (c := r6 = 0) hc hr
    refine nk_p (i := .aload_n 0) (len := 1) (pc' := 34) mJ_346 (by decide +kernel) (ns_aload_n 2 rfl rfl) rfl ?_
    refine nk_p (i := .aload_n 0) (len := 1) (pc' := 35) mJ_346 (by decide +kernel) (ns_aload_n 2 rfl rfl) rfl ?_
    refine nk_getC (f := (2, 7, 0)) (x := 12) (len := 3) (ci := 4) (k := 2) (pc' := 38) ja_okT mJ_346 (by decide +kernel) (by decide +kernel) (by decide +kernel) (by decide) t_l0 rfl ?_
    have t9 : nk_cl ja_Tt (ja_c l0 2) = some 7 := nk_tc (y := 0) ja_okT t_l0 (by decide +kernel)
    refine nk_getC (f := (4, 2, 20)) (x := 299) (len := 3) (ci := 7) (k := 4) (pc' := 41) ja_okT mJ_346 (by decide +kernel) (by decide +kernel) (by decide +kernel) (by decide) t9 rfl ?_
    have t10 : nk_ar ja_Tt (ja_c (ja_c l0 2) 4) = some (2, 20) := nk_ta ja_okT t9 (by decide +kernel)
    refine nk_p (i := .iload_n 2) (len := 1) (pc' := 42) mJ_346 (by decide +kernel) (ns_iload_n 1 rfl rfl) rfl ?_
    obtain ⟨h11, hr⟩ := nk_cke hr
    refine nk_lald (len := 1) (N := 20) (pc' := 43) mJ_346 (by decide +kernel) t10 h11.1 h11.2 rfl rfl ?_
    obtain ⟨r12, S13, h14, hr⟩ := nk_bde hr
    refine nk_callV (ci := 4) (n := 1) (x := 434) (len := 3) (j' := 324) (q' := 2) (r := r12) (S' := S13) (L2 := [(0, nk_r l0), (1, nk_l (S7.1 (ja_c (ja_c l0 2) 4) r1.toNat))]) (rest := []) (st' := [nk_l r12]) (pc' := 46) mJ_346 (by decide +kernel) (by decide +kernel) rfl rfl t_l0 (Nat.le_of_ble_eq_true rfl) mJ_324 (Nat.le_of_ble_eq_true rfl) rfl (ja_X4_lengthsOf_ok zs _ _ _ _ t_l0 h14) rfl ?_
    refine nk_p (i := .lstore 4) (len := 2) (pc' := 48) mJ_346 (by decide +kernel) (ns_lstore (L' := [(4, nk_l r12), (3, nk_i v4), (2, nk_i r1), (0, nk_r l0), (1, nk_i l1)]) rfl rfl (by decide +kernel)) rfl ?_
    refine nk_p (i := .aload_n 0) (len := 1) (pc' := 49) mJ_346 (by decide +kernel) (ns_aload_n 3 rfl rfl) rfl ?_
    refine nk_p (i := .iload_n 2) (len := 1) (pc' := 50) mJ_346 (by decide +kernel) (ns_iload_n 2 rfl rfl) rfl ?_
    refine nk_p (i := .iload_n 3) (len := 1) (pc' := 51) mJ_346 (by decide +kernel) (ns_iload_n 1 rfl rfl) rfl ?_
    refine nk_p (i := .lload 4) (len := 2) (pc' := 53) mJ_346 (by decide +kernel) (ns_lload 0 rfl) rfl ?_
    obtain ⟨r15, S16, h17, hr⟩ := nk_bde hr
    refine nk_callV (ci := 4) (n := 3) (x := 437) (len := 3) (j' := 339) (q' := 1) (r := r15) (S' := S16) (L2 := [(0, nk_r l0), (1, nk_i r1), (2, nk_i v4), (3, nk_l r12)]) (rest := []) (st' := [nk_i r15]) (pc' := 56) mJ_346 (by decide +kernel) (by decide +kernel) rfl rfl t_l0 (Nat.le_of_ble_eq_true rfl) mJ_339 (Nat.le_of_ble_eq_true rfl) rfl (ja_X4_staysInside_ok zs _ _ _ _ _ _ t_l0 h17) rfl ?_
    refine nk_icond (c := .ne) (off := 8) (len := 3) (t := 64) (pc' := 59) mJ_346 (by decide +kernel) (by decide +kernel) rfl (fun hc => ?_) (fun hc => ?_)
    · have hr := nk_ifn (c := r15 = 0) hc hr
      refine nk_sub [3, 4, 2, 1, 0] (L' := [(0, nk_r l0), (1, nk_i l1), (2, nk_i r1), (3, nk_i v4), (4, nk_l r12)]) rfl ?_
      exact ja_X4_usesElement_b64_ok zs _ _ _ _ _ _ _ t_l0 hr
    · have hr := nk_ifp (c := r15 = 0) (Decidable.of_not_not hc) hr
      refine nk_p (i := .aload_n 0) (len := 1) (pc' := 60) mJ_346 (by decide +kernel) (ns_aload_n 3 rfl rfl) rfl ?_
      refine nk_p (i := .iconst 1) (len := 1) (pc' := 61) mJ_346 (by decide +kernel) (ns_iconst (c := 1) (by decide +kernel)) rfl ?_
      obtain ⟨r18, S19, h20, hr⟩ := nk_bde hr
      refine nk_callV (ci := 4) (n := 1) (x := 335) (len := 3) (j' := 338) (q' := 0) (r := r18) (S' := S19) (L2 := [(0, nk_r l0), (1, nk_i 1)]) (rest := []) (st' := []) (pc' := 64) mJ_346 (by decide +kernel) (by decide +kernel) rfl rfl t_l0 (Nat.le_of_ble_eq_true rfl) mJ_338 (Nat.le_of_ble_eq_true rfl) rfl (ja_X4_raise_ok zs _ _ _ _ t_l0 h20) rfl ?_
      refine nk_sub [3, 4, 2, 1, 0] (L' := [(0, nk_r l0), (1, nk_i l1), (2, nk_i r1), (3, nk_i v4), (4, nk_l r12)]) rfl ?_
      exact ja_X4_usesElement_b64_ok zs _ _ _ _ _ _ _ t_l0 hr
  · have hr := nk_ifp (c := r6 = 0) (Decidable.of_not_not hc) hr
    refine nk_p (i := .iconst 0) (len := 1) (pc' := 32) mJ_346 (by decide +kernel) (ns_iconst (c := 0) (by decide +kernel)) rfl ?_
    cases hr
    exact nk_iret (ty := .boolean) (len := 1) mJ_346 (by decide +kernel) rfl (nk_nar_z (by decide))
noncomputable def ja_X4_usesElement (l0 : Nat) (l1 : Int) (S : nk_S) : Option (Int × nk_S) :=
  if l1 = 33 then
    ja_X4_usesElement_b15 l0 l1 (ja_c l0 2) 1 S
  else
    ja_X4_usesElement_b15 l0 l1 (ja_c l0 2) 2 S
theorem ja_X4_usesElement_ok (zs : List Int32) : ∀ (l0 : Nat) (l1 : Int) (S : nk_S) (R : Int × nk_S), nk_cl ja_Tt l0 = some 4 → ja_X4_usesElement l0 l1 S = some R → nk_K ja_Tt mi_Γ (mi_ev zs) 1 346 0 [(0, nk_r l0), (1, nk_i l1)] [] S R := by
  intro l0 l1 S R t_l0 hr
  unfold ja_X4_usesElement at hr
  refine nk_p (i := .aload_n 0) (len := 1) (pc' := 1) mJ_346 (by decide +kernel) (ns_aload_n 0 rfl rfl) rfl ?_
  refine nk_getC (f := (2, 7, 0)) (x := 12) (len := 3) (ci := 4) (k := 2) (pc' := 4) ja_okT mJ_346 (by decide +kernel) (by decide +kernel) (by decide +kernel) (by decide) t_l0 rfl ?_
  have t1 : nk_cl ja_Tt (ja_c l0 2) = some 7 := nk_tc (y := 0) ja_okT t_l0 (by decide +kernel)
  refine nk_p (i := .iload_n 1) (len := 1) (pc' := 5) mJ_346 (by decide +kernel) (ns_iload_n 1 rfl rfl) rfl ?_
  refine nk_p (i := .bipush 33) (len := 2) (pc' := 7) mJ_346 (by decide +kernel) (ns_bipush (c := 33) (by decide +kernel)) rfl ?_
  refine nk_icmp (c := .ne) (off := 7) (len := 3) (t := 14) (pc' := 10) mJ_346 (by decide +kernel) (by decide +kernel) rfl (fun hc => ?_) (fun hc => ?_)
  · have hr := nk_ifn (c := l1 = 33) hc hr
    refine nk_p (i := .iconst 2) (len := 1) (pc' := 15) mJ_346 (by decide +kernel) (ns_iconst (c := 2) (by decide +kernel)) rfl ?_
    exact ja_X4_usesElement_b15_ok zs _ _ _ _ _ _ t_l0 t1 hr
  · have hr := nk_ifp (c := l1 = 33) (Decidable.of_not_not hc) hr
    refine nk_p (i := .iconst 1) (len := 1) (pc' := 11) mJ_346 (by decide +kernel) (ns_iconst (c := 1) (by decide +kernel)) rfl ?_
    refine nk_p (i := .goto 4) (len := 3) (pc' := 15) mJ_346 (by decide +kernel) (ns_goto (by decide +kernel)) rfl ?_
    exact ja_X4_usesElement_b15_ok zs _ _ _ _ _ _ t_l0 t1 hr
/-! SafeCode$Store addField (IIJZ)V -/
noncomputable def ja_X8_addField (l0 : Nat) (l1 : Int) (l2 : Int) (l3 : Int) (l5 : Int) (S : nk_S) : Option (Int × nk_S) :=
  nk_lt (nk_w ((nk_w (l1 * 48)) + l2)) fun v1 =>
  if 0 ≤ v1 ∧ v1 < 2304 then
  nk_bd (ja_X8_join (S.1 (ja_c l0 0) v1.toNat) l3 l5 S) fun r5 S6 =>
  if r5 = (S6.1 (ja_c l0 0) v1.toNat) then
    some (0, S6)
  else
    nk_lt (nk_wi S6 (ja_c l0 0) v1.toNat r5) fun S8 =>
    nk_lt (nk_wi S8 l0 6 (nk_lor (S8.1 l0 6) (nk_lshl 1 l2))) fun S10 =>
    some (0, S10)
  else none
theorem ja_X8_addField_ok (zs : List Int32) : ∀ (l0 : Nat) (l1 : Int) (l2 : Int) (l3 : Int) (l5 : Int) (S : nk_S) (R : Int × nk_S), nk_cl ja_Tt l0 = some 8 → ja_X8_addField l0 l1 l2 l3 l5 S = some R → nk_K ja_Tt mi_Γ (mi_ev zs) 0 415 0 [(0, nk_r l0), (1, nk_i l1), (2, nk_i l2), (3, nk_l l3), (5, nk_i l5)] [] S R := by
  intro l0 l1 l2 l3 l5 S R t_l0 hr
  unfold ja_X8_addField at hr
  refine nk_p (i := .iload_n 1) (len := 1) (pc' := 1) mJ_415 (by decide +kernel) (ns_iload_n 1 rfl rfl) rfl ?_
  refine nk_p (i := .bipush 48) (len := 2) (pc' := 3) mJ_415 (by decide +kernel) (ns_bipush (c := 48) (by decide +kernel)) rfl ?_
  refine nk_p (i := .imul) (len := 1) (pc' := 4) mJ_415 (by decide +kernel) ns_imul rfl ?_
  refine nk_p (i := .iload_n 2) (len := 1) (pc' := 5) mJ_415 (by decide +kernel) (ns_iload_n 2 rfl rfl) rfl ?_
  refine nk_p (i := .iadd) (len := 1) (pc' := 6) mJ_415 (by decide +kernel) ns_iadd rfl ?_
  obtain ⟨v1, h2, hr⟩ := nk_lte hr
  refine nk_p (i := .istore 6) (len := 2) (pc' := 8) mJ_415 (by decide +kernel) (ns_istore (L' := [(6, nk_i v1), (0, nk_r l0), (1, nk_i l1), (2, nk_i l2), (3, nk_l l3), (5, nk_i l5)]) h2 rfl (by decide +kernel)) rfl ?_
  refine nk_p (i := .aload_n 0) (len := 1) (pc' := 9) mJ_415 (by decide +kernel) (ns_aload_n 1 rfl rfl) rfl ?_
  refine nk_getC (f := (4, 2, 2304)) (x := 9) (len := 3) (ci := 8) (k := 0) (pc' := 12) ja_okT mJ_415 (by decide +kernel) (by decide +kernel) (by decide +kernel) (by decide) t_l0 rfl ?_
  have t3 : nk_ar ja_Tt (ja_c l0 0) = some (2, 2304) := nk_ta ja_okT t_l0 (by decide +kernel)
  refine nk_p (i := .iload 6) (len := 2) (pc' := 14) mJ_415 (by decide +kernel) (ns_iload 0 rfl) rfl ?_
  obtain ⟨h4, hr⟩ := nk_cke hr
  refine nk_lald (len := 1) (N := 2304) (pc' := 15) mJ_415 (by decide +kernel) t3 h4.1 h4.2 rfl rfl ?_
  refine nk_p (i := .lload_n 3) (len := 1) (pc' := 16) mJ_415 (by decide +kernel) (ns_lload_n 4 rfl rfl) rfl ?_
  refine nk_p (i := .iload 5) (len := 2) (pc' := 18) mJ_415 (by decide +kernel) (ns_iload 5 rfl) rfl ?_
  obtain ⟨r5, S6, h7, hr⟩ := nk_bde hr
  refine nk_callS (ci := 0) (n := 3) (x := 71) (len := 3) (j' := 420) (q' := 2) (r := r5) (S' := S6) (L2 := [(0, nk_l (S.1 (ja_c l0 0) v1.toNat)), (2, nk_l l3), (4, nk_i l5)]) (rest := []) (st' := [nk_l r5]) (pc' := 21) mJ_415 (by decide +kernel) (by decide +kernel) (Nat.le_of_ble_eq_true rfl) rfl rfl (Nat.le_of_ble_eq_true rfl) mJ_420 (Nat.le_of_ble_eq_true rfl) ja_Tpos rfl (ja_X8_join_ok zs _ _ _ _ _ h7) rfl ?_
  refine nk_p (i := .lstore 7) (len := 2) (pc' := 23) mJ_415 (by decide +kernel) (ns_lstore (L' := [(7, nk_l r5), (6, nk_i v1), (0, nk_r l0), (1, nk_i l1), (2, nk_i l2), (3, nk_l l3), (5, nk_i l5)]) rfl rfl (by decide +kernel)) rfl ?_
  refine nk_p (i := .lload 7) (len := 2) (pc' := 25) mJ_415 (by decide +kernel) (ns_lload 0 rfl) rfl ?_
  refine nk_p (i := .aload_n 0) (len := 1) (pc' := 26) mJ_415 (by decide +kernel) (ns_aload_n 2 rfl rfl) rfl ?_
  refine nk_getC (f := (4, 2, 2304)) (x := 9) (len := 3) (ci := 8) (k := 0) (pc' := 29) ja_okT mJ_415 (by decide +kernel) (by decide +kernel) (by decide +kernel) (by decide) t_l0 rfl ?_
  refine nk_p (i := .iload 6) (len := 2) (pc' := 31) mJ_415 (by decide +kernel) (ns_iload 1 rfl) rfl ?_
  refine nk_lald (len := 1) (N := 2304) (pc' := 32) mJ_415 (by decide +kernel) t3 h4.1 h4.2 rfl rfl ?_
  refine nk_p (i := .lcmp) (len := 1) (pc' := 33) mJ_415 (by decide +kernel) ns_lcmp rfl ?_
  refine nk_lcond (c := .eq) (off := 24) (len := 3) (t := 57) (pc' := 36) mJ_415 (by decide +kernel) (by decide +kernel) rfl (fun hc => ?_) (fun hc => ?_)
  · have hr := nk_ifp (c := r5 = (S6.1 (ja_c l0 0) v1.toNat)) hc hr
    cases hr
    exact nk_vret (len := 1) mJ_415 (by decide +kernel) rfl
  · have hr := nk_ifn (c := r5 = (S6.1 (ja_c l0 0) v1.toNat)) hc hr
    refine nk_p (i := .aload_n 0) (len := 1) (pc' := 37) mJ_415 (by decide +kernel) (ns_aload_n 2 rfl rfl) rfl ?_
    refine nk_getC (f := (4, 2, 2304)) (x := 9) (len := 3) (ci := 8) (k := 0) (pc' := 40) ja_okT mJ_415 (by decide +kernel) (by decide +kernel) (by decide +kernel) (by decide) t_l0 rfl ?_
    refine nk_p (i := .iload 6) (len := 2) (pc' := 42) mJ_415 (by decide +kernel) (ns_iload 1 rfl) rfl ?_
    refine nk_p (i := .lload 7) (len := 2) (pc' := 44) mJ_415 (by decide +kernel) (ns_lload 0 rfl) rfl ?_
    obtain ⟨S8, h9, hr⟩ := nk_lte hr
    refine nk_last (len := 1) (N := 2304) (pc' := 45) mJ_415 (by decide +kernel) t3 h4.1 h4.2 rfl rfl h9 ?_
    refine nk_p (i := .aload_n 0) (len := 1) (pc' := 46) mJ_415 (by decide +kernel) (ns_aload_n 2 rfl rfl) rfl ?_
    refine nk_p (i := .dup) (len := 1) (pc' := 47) mJ_415 (by decide +kernel) (ns_dup rfl) rfl ?_
    refine nk_getL (y := (0, 0)) (x := 74) (len := 3) (ci := 8) (k := 6) (pc' := 50) ja_okT mJ_415 (by decide +kernel) (by decide +kernel) (by decide +kernel) t_l0 rfl ?_
    refine nk_p (i := .lconst 1) (len := 1) (pc' := 51) mJ_415 (by decide +kernel) (ns_lconst (c := 1) (by decide +kernel)) rfl ?_
    refine nk_p (i := .iload_n 2) (len := 1) (pc' := 52) mJ_415 (by decide +kernel) (ns_iload_n 4 rfl rfl) rfl ?_
    refine nk_p (i := .lshl) (len := 1) (pc' := 53) mJ_415 (by decide +kernel) ns_lshl rfl ?_
    refine nk_p (i := .lor) (len := 1) (pc' := 54) mJ_415 (by decide +kernel) ns_lor rfl ?_
    obtain ⟨S10, h11, hr⟩ := nk_lte hr
    refine nk_putL (y := (0, 0)) (x := 74) (len := 3) (ci := 8) (k := 6) (pc' := 57) ja_okT mJ_415 (by decide +kernel) (by decide +kernel) (by decide +kernel) t_l0 rfl h11 ?_
    cases hr
    exact nk_vret (len := 1) mJ_415 (by decide +kernel) rfl
/-! SafeCode$Proof makesObject (I)Z -/
noncomputable def ja_X4_makesObject_b90 (rec21 : Nat → Int → Nat → Int → Int → nk_S → Option (Int × nk_S)) (l0 : Nat) (l1 : Int) (l2 : Nat) (l3 : Int) (l4 : Int) (l5 : Int) (s0 : Nat) (s1 : Int) (s2 : Int) (s3 : Int) (S : nk_S) : Option (Int × nk_S) :=
  nk_bd (ja_X8_addField s0 s1 s2 s3 l5 S) fun r1 S2 =>
  nk_lt (nk_w (l4 + 1)) fun v4 =>
  rec21 l0 l1 l2 l3 v4 S2
theorem ja_X4_makesObject_b90_ok (zs : List Int32) {rec21 : Nat → Int → Nat → Int → Int → nk_S → Option (Int × nk_S)} (hrec21 : ∀ (l0 : Nat) (l1 : Int) (l2 : Nat) (l3 : Int) (l4 : Int) (S : nk_S) (R : Int × nk_S), nk_cl ja_Tt l0 = some 4 → nk_cl ja_Tt l2 = some 1 → rec21 l0 l1 l2 l3 l4 S = some R → nk_K ja_Tt mi_Γ (mi_ev zs) 1 333 21 [(0, nk_r l0), (1, nk_i l1), (2, nk_r l2), (3, nk_i l3), (4, nk_i l4)] [] S R) : ∀ (l0 : Nat) (l1 : Int) (l2 : Nat) (l3 : Int) (l4 : Int) (l5 : Int) (s0 : Nat) (s1 : Int) (s2 : Int) (s3 : Int) (S : nk_S) (R : Int × nk_S), nk_cl ja_Tt l0 = some 4 → nk_cl ja_Tt l2 = some 1 → nk_cl ja_Tt s0 = some 8 → ja_X4_makesObject_b90 rec21 l0 l1 l2 l3 l4 l5 s0 s1 s2 s3 S = some R → nk_K ja_Tt mi_Γ (mi_ev zs) 1 333 90 [(0, nk_r l0), (1, nk_i l1), (2, nk_r l2), (3, nk_i l3), (4, nk_i l4), (5, nk_i l5)] [nk_l s3, nk_i s2, nk_i s1, nk_r s0] S R := by
  intro l0 l1 l2 l3 l4 l5 s0 s1 s2 s3 S R t_l0 t_l2 t_s0 hr
  unfold ja_X4_makesObject_b90 at hr
  refine nk_p (i := .iload 5) (len := 2) (pc' := 92) mJ_333 (by decide +kernel) (ns_iload 5 rfl) rfl ?_
  obtain ⟨r1, S2, h3, hr⟩ := nk_bde hr
  refine nk_callV (ci := 8) (n := 4) (x := 407) (len := 3) (j' := 415) (q' := 0) (r := r1) (S' := S2) (L2 := [(0, nk_r s0), (1, nk_i s1), (2, nk_i s2), (3, nk_l s3), (5, nk_i l5)]) (rest := []) (st' := []) (pc' := 95) mJ_333 (by decide +kernel) (by decide +kernel) rfl rfl t_s0 (Nat.le_of_ble_eq_true rfl) mJ_415 (Nat.le_of_ble_eq_true rfl) rfl (ja_X8_addField_ok zs _ _ _ _ _ _ _ t_s0 h3) rfl ?_
  obtain ⟨v4, h5, hr⟩ := nk_lte hr
  refine nk_p (i := .iinc 4 1) (len := 3) (pc' := 98) mJ_333 (by decide +kernel) (ns_iinc (c := 1) (L' := [(4, nk_i v4), (0, nk_r l0), (1, nk_i l1), (2, nk_r l2), (3, nk_i l3), (5, nk_i l5)]) 4 rfl (by decide +kernel) h5 rfl (by decide +kernel)) rfl ?_
  refine nk_p (i := .goto (-77)) (len := 3) (pc' := 21) mJ_333 (by decide +kernel) (ns_goto (by decide +kernel)) rfl ?_
  refine nk_sub [1, 2, 3, 4, 0] (L' := [(0, nk_r l0), (1, nk_i l1), (2, nk_r l2), (3, nk_i l3), (4, nk_i v4)]) rfl ?_
  exact hrec21 _ _ _ _ _ _ _ t_l0 t_l2 hr
noncomputable def ja_X4_makesObject_b69 (rec21 : Nat → Int → Nat → Int → Int → nk_S → Option (Int × nk_S)) (l0 : Nat) (l1 : Int) (l2 : Nat) (l3 : Int) (l4 : Int) (s0 : Int) (S : nk_S) : Option (Int × nk_S) :=
  if s0 = 0 then
    ja_X4_makesObject_b90 rec21 l0 l1 l2 l3 l4 s0 (ja_c l0 3) l3 l4 4611686018427387904 S
  else
    ja_X4_makesObject_b90 rec21 l0 l1 l2 l3 l4 s0 (ja_c l0 3) l3 l4 0 S
theorem ja_X4_makesObject_b69_ok (zs : List Int32) {rec21 : Nat → Int → Nat → Int → Int → nk_S → Option (Int × nk_S)} (hrec21 : ∀ (l0 : Nat) (l1 : Int) (l2 : Nat) (l3 : Int) (l4 : Int) (S : nk_S) (R : Int × nk_S), nk_cl ja_Tt l0 = some 4 → nk_cl ja_Tt l2 = some 1 → rec21 l0 l1 l2 l3 l4 S = some R → nk_K ja_Tt mi_Γ (mi_ev zs) 1 333 21 [(0, nk_r l0), (1, nk_i l1), (2, nk_r l2), (3, nk_i l3), (4, nk_i l4)] [] S R) : ∀ (l0 : Nat) (l1 : Int) (l2 : Nat) (l3 : Int) (l4 : Int) (s0 : Int) (S : nk_S) (R : Int × nk_S), nk_cl ja_Tt l0 = some 4 → nk_cl ja_Tt l2 = some 1 → ja_X4_makesObject_b69 rec21 l0 l1 l2 l3 l4 s0 S = some R → nk_K ja_Tt mi_Γ (mi_ev zs) 1 333 69 [(0, nk_r l0), (1, nk_i l1), (2, nk_r l2), (3, nk_i l3), (4, nk_i l4)] [nk_i s0] S R := by
  intro l0 l1 l2 l3 l4 s0 S R t_l0 t_l2 hr
  unfold ja_X4_makesObject_b69 at hr
  refine nk_p (i := .istore 5) (len := 2) (pc' := 71) mJ_333 (by decide +kernel) (ns_istore (L' := [(5, nk_i s0), (0, nk_r l0), (1, nk_i l1), (2, nk_r l2), (3, nk_i l3), (4, nk_i l4)]) rfl rfl (by decide +kernel)) rfl ?_
  refine nk_p (i := .aload_n 0) (len := 1) (pc' := 72) mJ_333 (by decide +kernel) (ns_aload_n 1 rfl rfl) rfl ?_
  refine nk_getC (f := (2, 8, 0)) (x := 21) (len := 3) (ci := 4) (k := 3) (pc' := 75) ja_okT mJ_333 (by decide +kernel) (by decide +kernel) (by decide +kernel) (by decide) t_l0 rfl ?_
  have t1 : nk_cl ja_Tt (ja_c l0 3) = some 8 := nk_tc (y := 0) ja_okT t_l0 (by decide +kernel)
  refine nk_p (i := .iload_n 3) (len := 1) (pc' := 76) mJ_333 (by decide +kernel) (ns_iload_n 4 rfl rfl) rfl ?_
  refine nk_p (i := .iload 4) (len := 2) (pc' := 78) mJ_333 (by decide +kernel) (ns_iload 5 rfl) rfl ?_
  refine nk_p (i := .iload 5) (len := 2) (pc' := 80) mJ_333 (by decide +kernel) (ns_iload 0 rfl) rfl ?_
  refine nk_icond (c := .eq) (off := 7) (len := 3) (t := 87) (pc' := 83) mJ_333 (by decide +kernel) (by decide +kernel) rfl (fun hc => ?_) (fun hc => ?_)
  · have hr := nk_ifp (c := s0 = 0) hc hr
    refine nk_ldc2 (x := 297) (len := 3) (X := 4611686018427387904) (v := 4611686018427387904) (pc' := 90) mJ_333 (by decide +kernel) (by decide +kernel) (by decide +kernel) rfl ?_
    refine nk_sub [1, 2, 3, 4, 5, 0] (L' := [(0, nk_r l0), (1, nk_i l1), (2, nk_r l2), (3, nk_i l3), (4, nk_i l4), (5, nk_i s0)]) rfl ?_
    exact ja_X4_makesObject_b90_ok zs hrec21 _ _ _ _ _ _ _ _ _ _ _ _ t_l0 t_l2 t1 hr
  · have hr := nk_ifn (c := s0 = 0) hc hr
    refine nk_p (i := .lconst 0) (len := 1) (pc' := 84) mJ_333 (by decide +kernel) (ns_lconst (c := 0) (by decide +kernel)) rfl ?_
    refine nk_p (i := .goto 6) (len := 3) (pc' := 90) mJ_333 (by decide +kernel) (ns_goto (by decide +kernel)) rfl ?_
    refine nk_sub [1, 2, 3, 4, 5, 0] (L' := [(0, nk_r l0), (1, nk_i l1), (2, nk_r l2), (3, nk_i l3), (4, nk_i l4), (5, nk_i s0)]) rfl ?_
    exact ja_X4_makesObject_b90_ok zs hrec21 _ _ _ _ _ _ _ _ _ _ _ _ t_l0 t_l2 t1 hr
noncomputable def ja_X4_makesObject_b21 (rec21 : Nat → Int → Nat → Int → Int → nk_S → Option (Int × nk_S)) (l0 : Nat) (l1 : Int) (l2 : Nat) (l3 : Int) (l4 : Int) (S : nk_S) : Option (Int × nk_S) :=
  if (S.1 l2 4) ≤ l4 then
    nk_bd (ja_X7_push (ja_c l0 2) (nk_lshl 1 l3) 9007199254740992 S) fun r2 S3 =>
    some (1, S3)
  else
    if 0 ≤ l4 ∧ l4 < 48 then
    if 0 ≤ l1 ∧ l1 < 1024 then
    nk_bd (ja_X1_isAbove l2 (S.1 (ja_c l2 6) l4.toNat) (S.1 (ja_c (S.2 l0 0) 5) l1.toNat) S) fun r10 S11 =>
    if r10 = 0 then
      nk_lt (nk_w (l4 + 1)) fun v13 =>
      rec21 l0 l1 l2 l3 v13 S11
    else
      if (S11.1 (ja_c l2 7) l4.toNat) = 1 then
        ja_X4_makesObject_b69 rec21 l0 l1 l2 l3 l4 1 S11
      else
        ja_X4_makesObject_b69 rec21 l0 l1 l2 l3 l4 0 S11
    else none
    else none
theorem ja_X4_makesObject_b21_ok (zs : List Int32) {rec21 : Nat → Int → Nat → Int → Int → nk_S → Option (Int × nk_S)} (hrec21 : ∀ (l0 : Nat) (l1 : Int) (l2 : Nat) (l3 : Int) (l4 : Int) (S : nk_S) (R : Int × nk_S), nk_cl ja_Tt l0 = some 4 → nk_cl ja_Tt l2 = some 1 → rec21 l0 l1 l2 l3 l4 S = some R → nk_K ja_Tt mi_Γ (mi_ev zs) 1 333 21 [(0, nk_r l0), (1, nk_i l1), (2, nk_r l2), (3, nk_i l3), (4, nk_i l4)] [] S R) : ∀ (l0 : Nat) (l1 : Int) (l2 : Nat) (l3 : Int) (l4 : Int) (S : nk_S) (R : Int × nk_S), nk_cl ja_Tt l0 = some 4 → nk_cl ja_Tt l2 = some 1 → ja_X4_makesObject_b21 rec21 l0 l1 l2 l3 l4 S = some R → nk_K ja_Tt mi_Γ (mi_ev zs) 1 333 21 [(0, nk_r l0), (1, nk_i l1), (2, nk_r l2), (3, nk_i l3), (4, nk_i l4)] [] S R := by
  intro l0 l1 l2 l3 l4 S R t_l0 t_l2 hr
  unfold ja_X4_makesObject_b21 at hr
  refine nk_p (i := .iload 4) (len := 2) (pc' := 23) mJ_333 (by decide +kernel) (ns_iload 4 rfl) rfl ?_
  refine nk_p (i := .aload_n 2) (len := 1) (pc' := 24) mJ_333 (by decide +kernel) (ns_aload_n 2 rfl rfl) rfl ?_
  refine nk_getI (y := (0, 0)) (x := 395) (len := 3) (ci := 1) (k := 4) (pc' := 27) ja_okT mJ_333 (by decide +kernel) (by decide +kernel) (by decide +kernel) t_l2 rfl ?_
  refine nk_icmp (c := .ge) (off := 74) (len := 3) (t := 101) (pc' := 30) mJ_333 (by decide +kernel) (by decide +kernel) rfl (fun hc => ?_) (fun hc => ?_)
  · have hr := nk_ifp (c := (S.1 l2 4) ≤ l4) hc hr
    refine nk_p (i := .aload_n 0) (len := 1) (pc' := 102) mJ_333 (by decide +kernel) (ns_aload_n 0 rfl rfl) rfl ?_
    refine nk_getC (f := (2, 7, 0)) (x := 12) (len := 3) (ci := 4) (k := 2) (pc' := 105) ja_okT mJ_333 (by decide +kernel) (by decide +kernel) (by decide +kernel) (by decide) t_l0 rfl ?_
    have t1 : nk_cl ja_Tt (ja_c l0 2) = some 7 := nk_tc (y := 0) ja_okT t_l0 (by decide +kernel)
    refine nk_p (i := .lconst 1) (len := 1) (pc' := 106) mJ_333 (by decide +kernel) (ns_lconst (c := 1) (by decide +kernel)) rfl ?_
    refine nk_p (i := .iload_n 3) (len := 1) (pc' := 107) mJ_333 (by decide +kernel) (ns_iload_n 3 rfl rfl) rfl ?_
    refine nk_p (i := .lshl) (len := 1) (pc' := 108) mJ_333 (by decide +kernel) ns_lshl rfl ?_
    refine nk_ldc2 (x := 279) (len := 3) (X := 9007199254740992) (v := 9007199254740992) (pc' := 111) mJ_333 (by decide +kernel) (by decide +kernel) (by decide +kernel) rfl ?_
    obtain ⟨r2, S3, h4, hr⟩ := nk_bde hr
    refine nk_callV (ci := 7) (n := 2) (x := 258) (len := 3) (j' := 408) (q' := 0) (r := r2) (S' := S3) (L2 := [(0, nk_r (ja_c l0 2)), (1, nk_l (nk_lshl 1 l3)), (3, nk_l 9007199254740992)]) (rest := []) (st' := []) (pc' := 114) mJ_333 (by decide +kernel) (by decide +kernel) rfl rfl t1 (Nat.le_of_ble_eq_true rfl) mJ_408 (Nat.le_of_ble_eq_true rfl) rfl (ja_X7_push_ok zs _ _ _ _ _ t1 h4) rfl ?_
    refine nk_p (i := .iconst 1) (len := 1) (pc' := 115) mJ_333 (by decide +kernel) (ns_iconst (c := 1) (by decide +kernel)) rfl ?_
    cases hr
    exact nk_iret (ty := .boolean) (len := 1) mJ_333 (by decide +kernel) rfl (nk_nar_z (by decide))
  · have hr := nk_ifn (c := (S.1 l2 4) ≤ l4) hc hr
    refine nk_p (i := .aload_n 2) (len := 1) (pc' := 31) mJ_333 (by decide +kernel) (ns_aload_n 2 rfl rfl) rfl ?_
    refine nk_p (i := .aload_n 2) (len := 1) (pc' := 32) mJ_333 (by decide +kernel) (ns_aload_n 2 rfl rfl) rfl ?_
    refine nk_getC (f := (4, 1, 48)) (x := 398) (len := 3) (ci := 1) (k := 6) (pc' := 35) ja_okT mJ_333 (by decide +kernel) (by decide +kernel) (by decide +kernel) (by decide) t_l2 rfl ?_
    have t5 : nk_ar ja_Tt (ja_c l2 6) = some (1, 48) := nk_ta ja_okT t_l2 (by decide +kernel)
    refine nk_p (i := .iload 4) (len := 2) (pc' := 37) mJ_333 (by decide +kernel) (ns_iload 4 rfl) rfl ?_
    obtain ⟨h6, hr⟩ := nk_cke hr
    refine nk_iald (len := 1) (N := 48) (pc' := 38) mJ_333 (by decide +kernel) t5 h6.1 h6.2 rfl rfl ?_
    refine nk_p (i := .aload_n 0) (len := 1) (pc' := 39) mJ_333 (by decide +kernel) (ns_aload_n 0 rfl rfl) rfl ?_
    refine nk_getM (cj := 3) (z := 0) (x := 42) (len := 3) (ci := 4) (k := 0) (pc' := 42) ja_okT mJ_333 (by decide +kernel) (by decide +kernel) (by decide +kernel) t_l0 rfl (fun t7 => ?_)
    refine nk_getC (f := (4, 1, 1024)) (x := 113) (len := 3) (ci := 3) (k := 5) (pc' := 45) ja_okT mJ_333 (by decide +kernel) (by decide +kernel) (by decide +kernel) (by decide) t7 rfl ?_
    have t8 : nk_ar ja_Tt (ja_c (S.2 l0 0) 5) = some (1, 1024) := nk_ta ja_okT t7 (by decide +kernel)
    refine nk_p (i := .iload_n 1) (len := 1) (pc' := 46) mJ_333 (by decide +kernel) (ns_iload_n 1 rfl rfl) rfl ?_
    obtain ⟨h9, hr⟩ := nk_cke hr
    refine nk_iald (len := 1) (N := 1024) (pc' := 47) mJ_333 (by decide +kernel) t8 h9.1 h9.2 rfl rfl ?_
    obtain ⟨r10, S11, h12, hr⟩ := nk_bde hr
    refine nk_callV (ci := 1) (n := 2) (x := 401) (len := 3) (j' := 254) (q' := 1) (r := r10) (S' := S11) (L2 := [(0, nk_r l2), (1, nk_i (S.1 (ja_c l2 6) l4.toNat)), (2, nk_i (S.1 (ja_c (S.2 l0 0) 5) l1.toNat))]) (rest := []) (st' := [nk_i r10]) (pc' := 50) mJ_333 (by decide +kernel) (by decide +kernel) rfl rfl t_l2 (Nat.le_of_ble_eq_true rfl) mJ_254 (Nat.le_of_ble_eq_true rfl) rfl (ja_X1_isAbove_ok zs _ _ _ _ _ t_l2 h12) rfl ?_
    refine nk_icond (c := .eq) (off := 45) (len := 3) (t := 95) (pc' := 53) mJ_333 (by decide +kernel) (by decide +kernel) rfl (fun hc => ?_) (fun hc => ?_)
    · have hr := nk_ifp (c := r10 = 0) hc hr
      obtain ⟨v13, h14, hr⟩ := nk_lte hr
      refine nk_p (i := .iinc 4 1) (len := 3) (pc' := 98) mJ_333 (by decide +kernel) (ns_iinc (c := 1) (L' := [(4, nk_i v13), (0, nk_r l0), (1, nk_i l1), (2, nk_r l2), (3, nk_i l3)]) 4 rfl (by decide +kernel) h14 rfl (by decide +kernel)) rfl ?_
      refine nk_p (i := .goto (-77)) (len := 3) (pc' := 21) mJ_333 (by decide +kernel) (ns_goto (by decide +kernel)) rfl ?_
      refine nk_sub [1, 2, 3, 4, 0] (L' := [(0, nk_r l0), (1, nk_i l1), (2, nk_r l2), (3, nk_i l3), (4, nk_i v13)]) rfl ?_
      exact hrec21 _ _ _ _ _ _ _ t_l0 t_l2 hr
    · have hr := nk_ifn (c := r10 = 0) hc hr
      refine nk_p (i := .aload_n 2) (len := 1) (pc' := 54) mJ_333 (by decide +kernel) (ns_aload_n 2 rfl rfl) rfl ?_
      refine nk_getC (f := (4, 1, 48)) (x := 404) (len := 3) (ci := 1) (k := 7) (pc' := 57) ja_okT mJ_333 (by decide +kernel) (by decide +kernel) (by decide +kernel) (by decide) t_l2 rfl ?_
      have t15 : nk_ar ja_Tt (ja_c l2 7) = some (1, 48) := nk_ta ja_okT t_l2 (by decide +kernel)
      refine nk_p (i := .iload 4) (len := 2) (pc' := 59) mJ_333 (by decide +kernel) (ns_iload 4 rfl) rfl ?_
      refine nk_iald (len := 1) (N := 48) (pc' := 60) mJ_333 (by decide +kernel) t15 h6.1 h6.2 rfl rfl ?_
      refine nk_p (i := .iconst 1) (len := 1) (pc' := 61) mJ_333 (by decide +kernel) (ns_iconst (c := 1) (by decide +kernel)) rfl ?_
      refine nk_icmp (c := .ne) (off := 7) (len := 3) (t := 68) (pc' := 64) mJ_333 (by decide +kernel) (by decide +kernel) rfl (fun hc => ?_) (fun hc => ?_)
      · have hr := nk_ifn (c := (S11.1 (ja_c l2 7) l4.toNat) = 1) hc hr
        refine nk_p (i := .iconst 0) (len := 1) (pc' := 69) mJ_333 (by decide +kernel) (ns_iconst (c := 0) (by decide +kernel)) rfl ?_
        exact ja_X4_makesObject_b69_ok zs hrec21 _ _ _ _ _ _ _ _ t_l0 t_l2 hr
      · have hr := nk_ifp (c := (S11.1 (ja_c l2 7) l4.toNat) = 1) (Decidable.of_not_not hc) hr
        refine nk_p (i := .iconst 1) (len := 1) (pc' := 65) mJ_333 (by decide +kernel) (ns_iconst (c := 1) (by decide +kernel)) rfl ?_
        refine nk_p (i := .goto 4) (len := 3) (pc' := 69) mJ_333 (by decide +kernel) (ns_goto (by decide +kernel)) rfl ?_
        exact ja_X4_makesObject_b69_ok zs hrec21 _ _ _ _ _ _ _ _ t_l0 t_l2 hr
noncomputable def ja_X4_makesObject_L21 : Nat → Nat → Int → Nat → Int → Int → nk_S → Option (Int × nk_S)
  | 0, _, _, _, _, _, _ => none
  | n + 1, l0, l1, l2, l3, l4, S => ja_X4_makesObject_b21 (ja_X4_makesObject_L21 n) l0 l1 l2 l3 l4 S
theorem ja_X4_makesObject_L21_ok (zs : List Int32) : ∀ n : Nat, ∀ (l0 : Nat) (l1 : Int) (l2 : Nat) (l3 : Int) (l4 : Int) (S : nk_S) (R : Int × nk_S), nk_cl ja_Tt l0 = some 4 → nk_cl ja_Tt l2 = some 1 → ja_X4_makesObject_L21 n l0 l1 l2 l3 l4 S = some R → nk_K ja_Tt mi_Γ (mi_ev zs) 1 333 21 [(0, nk_r l0), (1, nk_i l1), (2, nk_r l2), (3, nk_i l3), (4, nk_i l4)] [] S R := by
  intro n
  induction n with
  | zero => intro _ _ _ _ _ _ _ _ _ hr; cases hr
  | succ n ih => intro l0 l1 l2 l3 l4 S R t_l0 t_l2 hr; exact ja_X4_makesObject_b21_ok zs ih l0 l1 l2 l3 l4 S R t_l0 t_l2 hr
noncomputable def ja_X4_makesObject (l0 : Nat) (l1 : Int) (S : nk_S) : Option (Int × nk_S) :=
  if 0 ≤ l1 ∧ l1 < 1024 then
  nk_lt (S.1 (ja_c (S.2 l0 0) 6) l1.toNat) fun v6 =>
  ja_X4_makesObject_L21 nk_big l0 l1 (ja_c (S.2 l0 0) 0) v6 0 S
  else none
theorem ja_X4_makesObject_ok (zs : List Int32) : ∀ (l0 : Nat) (l1 : Int) (S : nk_S) (R : Int × nk_S), nk_cl ja_Tt l0 = some 4 → ja_X4_makesObject l0 l1 S = some R → nk_K ja_Tt mi_Γ (mi_ev zs) 1 333 0 [(0, nk_r l0), (1, nk_i l1)] [] S R := by
  intro l0 l1 S R t_l0 hr
  unfold ja_X4_makesObject at hr
  refine nk_p (i := .aload_n 0) (len := 1) (pc' := 1) mJ_333 (by decide +kernel) (ns_aload_n 0 rfl rfl) rfl ?_
  refine nk_getM (cj := 3) (z := 0) (x := 42) (len := 3) (ci := 4) (k := 0) (pc' := 4) ja_okT mJ_333 (by decide +kernel) (by decide +kernel) (by decide +kernel) t_l0 rfl (fun t1 => ?_)
  refine nk_getC (f := (2, 1, 0)) (x := 53) (len := 3) (ci := 3) (k := 0) (pc' := 7) ja_okT mJ_333 (by decide +kernel) (by decide +kernel) (by decide +kernel) (by decide) t1 rfl ?_
  have t2 : nk_cl ja_Tt (ja_c (S.2 l0 0) 0) = some 1 := nk_tc (y := 0) ja_okT t1 (by decide +kernel)
  refine nk_p (i := .astore_n 2) (len := 1) (pc' := 8) mJ_333 (by decide +kernel) (ns_astore_n (L' := [(2, nk_r (ja_c (S.2 l0 0) 0)), (0, nk_r l0), (1, nk_i l1)]) rfl rfl (by decide +kernel)) rfl ?_
  refine nk_p (i := .aload_n 0) (len := 1) (pc' := 9) mJ_333 (by decide +kernel) (ns_aload_n 1 rfl rfl) rfl ?_
  refine nk_getM (cj := 3) (z := 0) (x := 42) (len := 3) (ci := 4) (k := 0) (pc' := 12) ja_okT mJ_333 (by decide +kernel) (by decide +kernel) (by decide +kernel) t_l0 rfl (fun t3 => ?_)
  refine nk_getC (f := (4, 1, 1024)) (x := 308) (len := 3) (ci := 3) (k := 6) (pc' := 15) ja_okT mJ_333 (by decide +kernel) (by decide +kernel) (by decide +kernel) (by decide) t3 rfl ?_
  have t4 : nk_ar ja_Tt (ja_c (S.2 l0 0) 6) = some (1, 1024) := nk_ta ja_okT t3 (by decide +kernel)
  refine nk_p (i := .iload_n 1) (len := 1) (pc' := 16) mJ_333 (by decide +kernel) (ns_iload_n 2 rfl rfl) rfl ?_
  obtain ⟨h5, hr⟩ := nk_cke hr
  refine nk_iald (len := 1) (N := 1024) (pc' := 17) mJ_333 (by decide +kernel) t4 h5.1 h5.2 rfl rfl ?_
  obtain ⟨v6, h7, hr⟩ := nk_lte hr
  refine nk_p (i := .istore_n 3) (len := 1) (pc' := 18) mJ_333 (by decide +kernel) (ns_istore_n (L' := [(3, nk_i v6), (2, nk_r (ja_c (S.2 l0 0) 0)), (0, nk_r l0), (1, nk_i l1)]) h7 rfl rfl (by decide +kernel)) rfl ?_
  refine nk_p (i := .iconst 0) (len := 1) (pc' := 19) mJ_333 (by decide +kernel) (ns_iconst (c := 0) (by decide +kernel)) rfl ?_
  refine nk_p (i := .istore 4) (len := 2) (pc' := 21) mJ_333 (by decide +kernel) (ns_istore (L' := [(4, nk_i 0), (3, nk_i v6), (2, nk_r (ja_c (S.2 l0 0) 0)), (0, nk_r l0), (1, nk_i l1)]) rfl rfl (by decide +kernel)) rfl ?_
  refine nk_sub [3, 4, 2, 1, 0] (L' := [(0, nk_r l0), (1, nk_i l1), (2, nk_r (ja_c (S.2 l0 0) 0)), (3, nk_i v6), (4, nk_i 0)]) rfl ?_
  exact ja_X4_makesObject_L21_ok zs nk_big _ _ _ _ _ _ _ t_l0 t2 hr
/-! SafeCode$Store addLengths (IJ)V -/
noncomputable def ja_X8_addLengths (l0 : Nat) (l1 : Int) (l2 : Int) (S : nk_S) : Option (Int × nk_S) :=
  if 0 ≤ l1 ∧ l1 < 48 then
  nk_bd (ja_X5_join (S.1 (ja_c l0 2) l1.toNat) l2 S) fun r3 S4 =>
  if r3 = (S4.1 (ja_c l0 2) l1.toNat) then
    some (0, S4)
  else
    nk_lt (nk_wi S4 (ja_c l0 2) l1.toNat r3) fun S6 =>
    nk_lt (nk_wi S6 l0 7 (nk_lor (S6.1 l0 7) (nk_lshl 1 l1))) fun S8 =>
    some (0, S8)
  else none
theorem ja_X8_addLengths_ok (zs : List Int32) : ∀ (l0 : Nat) (l1 : Int) (l2 : Int) (S : nk_S) (R : Int × nk_S), nk_cl ja_Tt l0 = some 8 → ja_X8_addLengths l0 l1 l2 S = some R → nk_K ja_Tt mi_Γ (mi_ev zs) 0 416 0 [(0, nk_r l0), (1, nk_i l1), (2, nk_l l2)] [] S R := by
  intro l0 l1 l2 S R t_l0 hr
  unfold ja_X8_addLengths at hr
  refine nk_p (i := .aload_n 0) (len := 1) (pc' := 1) mJ_416 (by decide +kernel) (ns_aload_n 0 rfl rfl) rfl ?_
  refine nk_getC (f := (4, 2, 48)) (x := 18) (len := 3) (ci := 8) (k := 2) (pc' := 4) ja_okT mJ_416 (by decide +kernel) (by decide +kernel) (by decide +kernel) (by decide) t_l0 rfl ?_
  have t1 : nk_ar ja_Tt (ja_c l0 2) = some (2, 48) := nk_ta ja_okT t_l0 (by decide +kernel)
  refine nk_p (i := .iload_n 1) (len := 1) (pc' := 5) mJ_416 (by decide +kernel) (ns_iload_n 1 rfl rfl) rfl ?_
  obtain ⟨h2, hr⟩ := nk_cke hr
  refine nk_lald (len := 1) (N := 48) (pc' := 6) mJ_416 (by decide +kernel) t1 h2.1 h2.2 rfl rfl ?_
  refine nk_p (i := .lload_n 2) (len := 1) (pc' := 7) mJ_416 (by decide +kernel) (ns_lload_n 2 rfl rfl) rfl ?_
  obtain ⟨r3, S4, h5, hr⟩ := nk_bde hr
  refine nk_callS (ci := 0) (n := 2) (x := 35) (len := 3) (j' := 362) (q' := 2) (r := r3) (S' := S4) (L2 := [(0, nk_l (S.1 (ja_c l0 2) l1.toNat)), (2, nk_l l2)]) (rest := []) (st' := [nk_l r3]) (pc' := 10) mJ_416 (by decide +kernel) (by decide +kernel) (Nat.le_of_ble_eq_true rfl) rfl rfl (Nat.le_of_ble_eq_true rfl) mJ_362 (Nat.le_of_ble_eq_true rfl) ja_Tpos rfl (ja_X5_join_ok zs _ _ _ _ h5) rfl ?_
  refine nk_p (i := .lstore 4) (len := 2) (pc' := 12) mJ_416 (by decide +kernel) (ns_lstore (L' := [(4, nk_l r3), (0, nk_r l0), (1, nk_i l1), (2, nk_l l2)]) rfl rfl (by decide +kernel)) rfl ?_
  refine nk_p (i := .lload 4) (len := 2) (pc' := 14) mJ_416 (by decide +kernel) (ns_lload 0 rfl) rfl ?_
  refine nk_p (i := .aload_n 0) (len := 1) (pc' := 15) mJ_416 (by decide +kernel) (ns_aload_n 1 rfl rfl) rfl ?_
  refine nk_getC (f := (4, 2, 48)) (x := 18) (len := 3) (ci := 8) (k := 2) (pc' := 18) ja_okT mJ_416 (by decide +kernel) (by decide +kernel) (by decide +kernel) (by decide) t_l0 rfl ?_
  refine nk_p (i := .iload_n 1) (len := 1) (pc' := 19) mJ_416 (by decide +kernel) (ns_iload_n 2 rfl rfl) rfl ?_
  refine nk_lald (len := 1) (N := 48) (pc' := 20) mJ_416 (by decide +kernel) t1 h2.1 h2.2 rfl rfl ?_
  refine nk_p (i := .lcmp) (len := 1) (pc' := 21) mJ_416 (by decide +kernel) ns_lcmp rfl ?_
  refine nk_lcond (c := .eq) (off := 23) (len := 3) (t := 44) (pc' := 24) mJ_416 (by decide +kernel) (by decide +kernel) rfl (fun hc => ?_) (fun hc => ?_)
  · have hr := nk_ifp (c := r3 = (S4.1 (ja_c l0 2) l1.toNat)) hc hr
    cases hr
    exact nk_vret (len := 1) mJ_416 (by decide +kernel) rfl
  · have hr := nk_ifn (c := r3 = (S4.1 (ja_c l0 2) l1.toNat)) hc hr
    refine nk_p (i := .aload_n 0) (len := 1) (pc' := 25) mJ_416 (by decide +kernel) (ns_aload_n 1 rfl rfl) rfl ?_
    refine nk_getC (f := (4, 2, 48)) (x := 18) (len := 3) (ci := 8) (k := 2) (pc' := 28) ja_okT mJ_416 (by decide +kernel) (by decide +kernel) (by decide +kernel) (by decide) t_l0 rfl ?_
    refine nk_p (i := .iload_n 1) (len := 1) (pc' := 29) mJ_416 (by decide +kernel) (ns_iload_n 2 rfl rfl) rfl ?_
    refine nk_p (i := .lload 4) (len := 2) (pc' := 31) mJ_416 (by decide +kernel) (ns_lload 0 rfl) rfl ?_
    obtain ⟨S6, h7, hr⟩ := nk_lte hr
    refine nk_last (len := 1) (N := 48) (pc' := 32) mJ_416 (by decide +kernel) t1 h2.1 h2.2 rfl rfl h7 ?_
    refine nk_p (i := .aload_n 0) (len := 1) (pc' := 33) mJ_416 (by decide +kernel) (ns_aload_n 1 rfl rfl) rfl ?_
    refine nk_p (i := .dup) (len := 1) (pc' := 34) mJ_416 (by decide +kernel) (ns_dup rfl) rfl ?_
    refine nk_getL (y := (0, 0)) (x := 78) (len := 3) (ci := 8) (k := 7) (pc' := 37) ja_okT mJ_416 (by decide +kernel) (by decide +kernel) (by decide +kernel) t_l0 rfl ?_
    refine nk_p (i := .lconst 1) (len := 1) (pc' := 38) mJ_416 (by decide +kernel) (ns_lconst (c := 1) (by decide +kernel)) rfl ?_
    refine nk_p (i := .iload_n 1) (len := 1) (pc' := 39) mJ_416 (by decide +kernel) (ns_iload_n 2 rfl rfl) rfl ?_
    refine nk_p (i := .lshl) (len := 1) (pc' := 40) mJ_416 (by decide +kernel) ns_lshl rfl ?_
    refine nk_p (i := .lor) (len := 1) (pc' := 41) mJ_416 (by decide +kernel) ns_lor rfl ?_
    obtain ⟨S8, h9, hr⟩ := nk_lte hr
    refine nk_putL (y := (0, 0)) (x := 78) (len := 3) (ci := 8) (k := 7) (pc' := 44) ja_okT mJ_416 (by decide +kernel) (by decide +kernel) (by decide +kernel) t_l0 rfl h9 ?_
    cases hr
    exact nk_vret (len := 1) mJ_416 (by decide +kernel) rfl
/-! SafeCode$Proof makesArray (I)Z -/
noncomputable def ja_X4_makesArray_b170 (s0 : Nat) (s1 : Int) (s2 : Int) (S : nk_S) : Option (Int × nk_S) :=
  nk_bd (ja_X7_push s0 s1 s2 S) fun r1 S2 =>
  some (1, S2)
theorem ja_X4_makesArray_b170_ok (zs : List Int32) : ∀ (s0 : Nat) (s1 : Int) (s2 : Int) (S : nk_S) (R : Int × nk_S), nk_cl ja_Tt s0 = some 7 → ja_X4_makesArray_b170 s0 s1 s2 S = some R → nk_K ja_Tt mi_Γ (mi_ev zs) 1 332 170 [] [nk_l s2, nk_l s1, nk_r s0] S R := by
  intro s0 s1 s2 S R t_s0 hr
  unfold ja_X4_makesArray_b170 at hr
  obtain ⟨r1, S2, h3, hr⟩ := nk_bde hr
  refine nk_callV (ci := 7) (n := 2) (x := 258) (len := 3) (j' := 408) (q' := 0) (r := r1) (S' := S2) (L2 := [(0, nk_r s0), (1, nk_l s1), (3, nk_l s2)]) (rest := []) (st' := []) (pc' := 173) mJ_332 (by decide +kernel) (by decide +kernel) rfl rfl t_s0 (Nat.le_of_ble_eq_true rfl) mJ_408 (Nat.le_of_ble_eq_true rfl) rfl (ja_X7_push_ok zs _ _ _ _ _ t_s0 h3) rfl ?_
  refine nk_p (i := .iconst 1) (len := 1) (pc' := 174) mJ_332 (by decide +kernel) (ns_iconst (c := 1) (by decide +kernel)) rfl ?_
  cases hr
  exact nk_iret (ty := .boolean) (len := 1) mJ_332 (by decide +kernel) rfl (nk_nar_z (by decide))
noncomputable def ja_X4_makesArray_b127 (l0 : Nat) (l5 : Int) (l6 : Int) (l7 : Int) (s0 : Nat) (s1 : Int) (s2 : Int) (S : nk_S) : Option (Int × nk_S) :=
  nk_bd (ja_X8_addElement s0 s1 s2 l7 S) fun r1 S2 =>
  nk_bd (ja_X7_drop (ja_c l0 2) 1 S2) fun r5 S6 =>
  if 0 ≤ l5 then
    ja_X4_makesArray_b170 (ja_c l0 2) (nk_lshl 1 l6) (nk_lor 9007199254740992 (nk_lshl 1 (nk_w (36 + l5)))) S6
  else
    ja_X4_makesArray_b170 (ja_c l0 2) (nk_lshl 1 l6) 9007199254740992 S6
theorem ja_X4_makesArray_b127_ok (zs : List Int32) : ∀ (l0 : Nat) (l5 : Int) (l6 : Int) (l7 : Int) (s0 : Nat) (s1 : Int) (s2 : Int) (S : nk_S) (R : Int × nk_S), nk_cl ja_Tt l0 = some 4 → nk_cl ja_Tt s0 = some 8 → ja_X4_makesArray_b127 l0 l5 l6 l7 s0 s1 s2 S = some R → nk_K ja_Tt mi_Γ (mi_ev zs) 1 332 127 [(0, nk_r l0), (5, nk_i l5), (6, nk_i l6), (7, nk_i l7)] [nk_l s2, nk_i s1, nk_r s0] S R := by
  intro l0 l5 l6 l7 s0 s1 s2 S R t_l0 t_s0 hr
  unfold ja_X4_makesArray_b127 at hr
  refine nk_p (i := .iload 7) (len := 2) (pc' := 129) mJ_332 (by decide +kernel) (ns_iload 3 rfl) rfl ?_
  obtain ⟨r1, S2, h3, hr⟩ := nk_bde hr
  refine nk_callV (ci := 8) (n := 3) (x := 419) (len := 3) (j' := 413) (q' := 0) (r := r1) (S' := S2) (L2 := [(0, nk_r s0), (1, nk_i s1), (2, nk_l s2), (4, nk_i l7)]) (rest := []) (st' := []) (pc' := 132) mJ_332 (by decide +kernel) (by decide +kernel) rfl rfl t_s0 (Nat.le_of_ble_eq_true rfl) mJ_413 (Nat.le_of_ble_eq_true rfl) rfl (ja_X8_addElement_ok zs _ _ _ _ _ _ t_s0 h3) rfl ?_
  refine nk_p (i := .aload_n 0) (len := 1) (pc' := 133) mJ_332 (by decide +kernel) (ns_aload_n 0 rfl rfl) rfl ?_
  refine nk_getC (f := (2, 7, 0)) (x := 12) (len := 3) (ci := 4) (k := 2) (pc' := 136) ja_okT mJ_332 (by decide +kernel) (by decide +kernel) (by decide +kernel) (by decide) t_l0 rfl ?_
  have t4 : nk_cl ja_Tt (ja_c l0 2) = some 7 := nk_tc (y := 0) ja_okT t_l0 (by decide +kernel)
  refine nk_p (i := .iconst 1) (len := 1) (pc' := 137) mJ_332 (by decide +kernel) (ns_iconst (c := 1) (by decide +kernel)) rfl ?_
  obtain ⟨r5, S6, h7, hr⟩ := nk_bde hr
  refine nk_callV (ci := 7) (n := 1) (x := 321) (len := 3) (j' := 401) (q' := 0) (r := r5) (S' := S6) (L2 := [(0, nk_r (ja_c l0 2)), (1, nk_i 1)]) (rest := []) (st' := []) (pc' := 140) mJ_332 (by decide +kernel) (by decide +kernel) rfl rfl t4 (Nat.le_of_ble_eq_true rfl) mJ_401 (Nat.le_of_ble_eq_true rfl) rfl (ja_X7_drop_ok zs _ _ _ _ t4 h7) rfl ?_
  refine nk_p (i := .aload_n 0) (len := 1) (pc' := 141) mJ_332 (by decide +kernel) (ns_aload_n 0 rfl rfl) rfl ?_
  refine nk_getC (f := (2, 7, 0)) (x := 12) (len := 3) (ci := 4) (k := 2) (pc' := 144) ja_okT mJ_332 (by decide +kernel) (by decide +kernel) (by decide +kernel) (by decide) t_l0 rfl ?_
  refine nk_p (i := .lconst 1) (len := 1) (pc' := 145) mJ_332 (by decide +kernel) (ns_lconst (c := 1) (by decide +kernel)) rfl ?_
  refine nk_p (i := .iload 6) (len := 2) (pc' := 147) mJ_332 (by decide +kernel) (ns_iload 2 rfl) rfl ?_
  refine nk_p (i := .lshl) (len := 1) (pc' := 148) mJ_332 (by decide +kernel) ns_lshl rfl ?_
  refine nk_p (i := .iload 5) (len := 2) (pc' := 150) mJ_332 (by decide +kernel) (ns_iload 1 rfl) rfl ?_
  refine nk_icond (c := .ge) (off := 9) (len := 3) (t := 159) (pc' := 153) mJ_332 (by decide +kernel) (by decide +kernel) rfl (fun hc => ?_) (fun hc => ?_)
  · have hr := nk_ifp (c := 0 ≤ l5) hc hr
    refine nk_ldc2 (x := 279) (len := 3) (X := 9007199254740992) (v := 9007199254740992) (pc' := 162) mJ_332 (by decide +kernel) (by decide +kernel) (by decide +kernel) rfl ?_
    refine nk_p (i := .lconst 1) (len := 1) (pc' := 163) mJ_332 (by decide +kernel) (ns_lconst (c := 1) (by decide +kernel)) rfl ?_
    refine nk_p (i := .bipush 36) (len := 2) (pc' := 165) mJ_332 (by decide +kernel) (ns_bipush (c := 36) (by decide +kernel)) rfl ?_
    refine nk_p (i := .iload 5) (len := 2) (pc' := 167) mJ_332 (by decide +kernel) (ns_iload 1 rfl) rfl ?_
    refine nk_p (i := .iadd) (len := 1) (pc' := 168) mJ_332 (by decide +kernel) ns_iadd rfl ?_
    refine nk_p (i := .lshl) (len := 1) (pc' := 169) mJ_332 (by decide +kernel) ns_lshl rfl ?_
    refine nk_p (i := .lor) (len := 1) (pc' := 170) mJ_332 (by decide +kernel) ns_lor rfl ?_
    refine nk_sub [] (L' := []) rfl ?_
    exact ja_X4_makesArray_b170_ok zs _ _ _ _ _ t4 hr
  · have hr := nk_ifn (c := 0 ≤ l5) hc hr
    refine nk_ldc2 (x := 279) (len := 3) (X := 9007199254740992) (v := 9007199254740992) (pc' := 156) mJ_332 (by decide +kernel) (by decide +kernel) (by decide +kernel) rfl ?_
    refine nk_p (i := .goto 14) (len := 3) (pc' := 170) mJ_332 (by decide +kernel) (ns_goto (by decide +kernel)) rfl ?_
    refine nk_sub [] (L' := []) rfl ?_
    exact ja_X4_makesArray_b170_ok zs _ _ _ _ _ t4 hr
noncomputable def ja_X4_makesArray_b76 (l0 : Nat) (l3 : Int) (l5 : Int) (l6 : Int) (l7 : Int) (S : nk_S) : Option (Int × nk_S) :=
  nk_bd (ja_X5_highest l3 S) fun r1 S2 =>
  if 0 ≤ r1 then
    nk_bd (ja_X5_lowest l3 S2) fun r5 S6 =>
    nk_bd (ja_J9_max_7cf53 r5 0 S6) fun r8 S9 =>
    nk_bd (ja_X5_highest l3 S9) fun r11 S12 =>
    nk_bd (ja_X5_pack r8 r11 S12) fun r14 S15 =>
    nk_bd (ja_X8_addLengths (ja_c l0 3) l6 r14 S15) fun r17 S18 =>
    if l7 = 0 then
      ja_X4_makesArray_b127 l0 l5 l6 l7 (ja_c l0 3) l6 4611686018427387904 S18
    else
      ja_X4_makesArray_b127 l0 l5 l6 l7 (ja_c l0 3) l6 0 S18
  else
    some (0, S2)
theorem ja_X4_makesArray_b76_ok (zs : List Int32) : ∀ (l0 : Nat) (l3 : Int) (l5 : Int) (l6 : Int) (l7 : Int) (S : nk_S) (R : Int × nk_S), nk_cl ja_Tt l0 = some 4 → ja_X4_makesArray_b76 l0 l3 l5 l6 l7 S = some R → nk_K ja_Tt mi_Γ (mi_ev zs) 1 332 76 [(0, nk_r l0), (3, nk_l l3), (5, nk_i l5), (6, nk_i l6), (7, nk_i l7)] [] S R := by
  intro l0 l3 l5 l6 l7 S R t_l0 hr
  unfold ja_X4_makesArray_b76 at hr
  refine nk_p (i := .lload_n 3) (len := 1) (pc' := 77) mJ_332 (by decide +kernel) (ns_lload_n 1 rfl rfl) rfl ?_
  obtain ⟨r1, S2, h3, hr⟩ := nk_bde hr
  refine nk_callS (ci := 0) (n := 1) (x := 332) (len := 3) (j' := 356) (q' := 1) (r := r1) (S' := S2) (L2 := [(0, nk_l l3)]) (rest := []) (st' := [nk_i r1]) (pc' := 80) mJ_332 (by decide +kernel) (by decide +kernel) (Nat.le_of_ble_eq_true rfl) rfl rfl (Nat.le_of_ble_eq_true rfl) mJ_356 (Nat.le_of_ble_eq_true rfl) ja_Tpos rfl (ja_X5_highest_ok zs _ _ _ h3) rfl ?_
  refine nk_icond (c := .ge) (off := 5) (len := 3) (t := 85) (pc' := 83) mJ_332 (by decide +kernel) (by decide +kernel) rfl (fun hc => ?_) (fun hc => ?_)
  · have hr := nk_ifp (c := 0 ≤ r1) hc hr
    refine nk_p (i := .aload_n 0) (len := 1) (pc' := 86) mJ_332 (by decide +kernel) (ns_aload_n 0 rfl rfl) rfl ?_
    refine nk_getC (f := (2, 8, 0)) (x := 21) (len := 3) (ci := 4) (k := 3) (pc' := 89) ja_okT mJ_332 (by decide +kernel) (by decide +kernel) (by decide +kernel) (by decide) t_l0 rfl ?_
    have t4 : nk_cl ja_Tt (ja_c l0 3) = some 8 := nk_tc (y := 0) ja_okT t_l0 (by decide +kernel)
    refine nk_p (i := .iload 6) (len := 2) (pc' := 91) mJ_332 (by decide +kernel) (ns_iload 3 rfl) rfl ?_
    refine nk_p (i := .lload_n 3) (len := 1) (pc' := 92) mJ_332 (by decide +kernel) (ns_lload_n 1 rfl rfl) rfl ?_
    obtain ⟨r5, S6, h7, hr⟩ := nk_bde hr
    refine nk_callS (ci := 0) (n := 1) (x := 328) (len := 3) (j' := 363) (q' := 1) (r := r5) (S' := S6) (L2 := [(0, nk_l l3)]) (rest := [nk_i l6, nk_r (ja_c l0 3)]) (st' := [nk_i r5, nk_i l6, nk_r (ja_c l0 3)]) (pc' := 95) mJ_332 (by decide +kernel) (by decide +kernel) (Nat.le_of_ble_eq_true rfl) rfl rfl (Nat.le_of_ble_eq_true rfl) mJ_363 (Nat.le_of_ble_eq_true rfl) ja_Tpos rfl (ja_X5_lowest_ok zs _ _ _ h7) rfl ?_
    refine nk_p (i := .iconst 0) (len := 1) (pc' := 96) mJ_332 (by decide +kernel) (ns_iconst (c := 0) (by decide +kernel)) rfl ?_
    obtain ⟨r8, S9, h10, hr⟩ := nk_bde hr
    refine nk_callS (ci := 0) (n := 2) (x := 411) (len := 3) (j' := 16) (q' := 1) (r := r8) (S' := S9) (L2 := [(0, nk_i r5), (1, nk_i 0)]) (rest := [nk_i l6, nk_r (ja_c l0 3)]) (st' := [nk_i r8, nk_i l6, nk_r (ja_c l0 3)]) (pc' := 99) mJ_332 (by decide +kernel) (by decide +kernel) (Nat.le_of_ble_eq_true rfl) rfl rfl (Nat.le_of_ble_eq_true rfl) mJ_16 (Nat.le_of_ble_eq_true rfl) ja_Tpos rfl (ja_J9_max_7cf53_ok zs _ _ _ _ h10) rfl ?_
    refine nk_p (i := .lload_n 3) (len := 1) (pc' := 100) mJ_332 (by decide +kernel) (ns_lload_n 1 rfl rfl) rfl ?_
    obtain ⟨r11, S12, h13, hr⟩ := nk_bde hr
    refine nk_callS (ci := 0) (n := 1) (x := 332) (len := 3) (j' := 356) (q' := 1) (r := r11) (S' := S12) (L2 := [(0, nk_l l3)]) (rest := [nk_i r8, nk_i l6, nk_r (ja_c l0 3)]) (st' := [nk_i r11, nk_i r8, nk_i l6, nk_r (ja_c l0 3)]) (pc' := 103) mJ_332 (by decide +kernel) (by decide +kernel) (Nat.le_of_ble_eq_true rfl) rfl rfl (Nat.le_of_ble_eq_true rfl) mJ_356 (Nat.le_of_ble_eq_true rfl) ja_Tpos rfl (ja_X5_highest_ok zs _ _ _ h13) rfl ?_
    obtain ⟨r14, S15, h16, hr⟩ := nk_bde hr
    refine nk_callS (ci := 0) (n := 2) (x := 293) (len := 3) (j' := 365) (q' := 2) (r := r14) (S' := S15) (L2 := [(0, nk_i r8), (1, nk_i r11)]) (rest := [nk_i l6, nk_r (ja_c l0 3)]) (st' := [nk_l r14, nk_i l6, nk_r (ja_c l0 3)]) (pc' := 106) mJ_332 (by decide +kernel) (by decide +kernel) (Nat.le_of_ble_eq_true rfl) rfl rfl (Nat.le_of_ble_eq_true rfl) mJ_365 (Nat.le_of_ble_eq_true rfl) ja_Tpos rfl (ja_X5_pack_ok zs _ _ _ _ h16) rfl ?_
    obtain ⟨r17, S18, h19, hr⟩ := nk_bde hr
    refine nk_callV (ci := 8) (n := 2) (x := 416) (len := 3) (j' := 416) (q' := 0) (r := r17) (S' := S18) (L2 := [(0, nk_r (ja_c l0 3)), (1, nk_i l6), (2, nk_l r14)]) (rest := []) (st' := []) (pc' := 109) mJ_332 (by decide +kernel) (by decide +kernel) rfl rfl t4 (Nat.le_of_ble_eq_true rfl) mJ_416 (Nat.le_of_ble_eq_true rfl) rfl (ja_X8_addLengths_ok zs _ _ _ _ _ t4 h19) rfl ?_
    refine nk_p (i := .aload_n 0) (len := 1) (pc' := 110) mJ_332 (by decide +kernel) (ns_aload_n 0 rfl rfl) rfl ?_
    refine nk_getC (f := (2, 8, 0)) (x := 21) (len := 3) (ci := 4) (k := 3) (pc' := 113) ja_okT mJ_332 (by decide +kernel) (by decide +kernel) (by decide +kernel) (by decide) t_l0 rfl ?_
    refine nk_p (i := .iload 6) (len := 2) (pc' := 115) mJ_332 (by decide +kernel) (ns_iload 3 rfl) rfl ?_
    refine nk_p (i := .iload 7) (len := 2) (pc' := 117) mJ_332 (by decide +kernel) (ns_iload 4 rfl) rfl ?_
    refine nk_icond (c := .eq) (off := 7) (len := 3) (t := 124) (pc' := 120) mJ_332 (by decide +kernel) (by decide +kernel) rfl (fun hc => ?_) (fun hc => ?_)
    · have hr := nk_ifp (c := l7 = 0) hc hr
      refine nk_ldc2 (x := 297) (len := 3) (X := 4611686018427387904) (v := 4611686018427387904) (pc' := 127) mJ_332 (by decide +kernel) (by decide +kernel) (by decide +kernel) rfl ?_
      refine nk_sub [0, 2, 3, 4] (L' := [(0, nk_r l0), (5, nk_i l5), (6, nk_i l6), (7, nk_i l7)]) rfl ?_
      exact ja_X4_makesArray_b127_ok zs _ _ _ _ _ _ _ _ _ t_l0 t4 hr
    · have hr := nk_ifn (c := l7 = 0) hc hr
      refine nk_p (i := .lconst 0) (len := 1) (pc' := 121) mJ_332 (by decide +kernel) (ns_lconst (c := 0) (by decide +kernel)) rfl ?_
      refine nk_p (i := .goto 6) (len := 3) (pc' := 127) mJ_332 (by decide +kernel) (ns_goto (by decide +kernel)) rfl ?_
      refine nk_sub [0, 2, 3, 4] (L' := [(0, nk_r l0), (5, nk_i l5), (6, nk_i l6), (7, nk_i l7)]) rfl ?_
      exact ja_X4_makesArray_b127_ok zs _ _ _ _ _ _ _ _ _ t_l0 t4 hr
  · have hr := nk_ifn (c := 0 ≤ r1) hc hr
    refine nk_p (i := .iconst 0) (len := 1) (pc' := 84) mJ_332 (by decide +kernel) (ns_iconst (c := 0) (by decide +kernel)) rfl ?_
    cases hr
    exact nk_iret (ty := .boolean) (len := 1) mJ_332 (by decide +kernel) rfl (nk_nar_z (by decide))
noncomputable def ja_X4_makesArray_b62 (l0 : Nat) (l3 : Int) (l5 : Int) (l6 : Int) (s0 : Int) (S : nk_S) : Option (Int × nk_S) :=
  nk_bd (ja_X5_lowest l3 S) fun r1 S2 =>
  if 0 ≤ r1 then
    ja_X4_makesArray_b76 l0 l3 l5 l6 s0 S2
  else
    nk_bd (ja_X4_raise l0 2 S2) fun r4 S5 =>
    ja_X4_makesArray_b76 l0 l3 l5 l6 s0 S5
theorem ja_X4_makesArray_b62_ok (zs : List Int32) : ∀ (l0 : Nat) (l3 : Int) (l5 : Int) (l6 : Int) (s0 : Int) (S : nk_S) (R : Int × nk_S), nk_cl ja_Tt l0 = some 4 → ja_X4_makesArray_b62 l0 l3 l5 l6 s0 S = some R → nk_K ja_Tt mi_Γ (mi_ev zs) 1 332 62 [(0, nk_r l0), (3, nk_l l3), (5, nk_i l5), (6, nk_i l6)] [nk_i s0] S R := by
  intro l0 l3 l5 l6 s0 S R t_l0 hr
  unfold ja_X4_makesArray_b62 at hr
  refine nk_p (i := .istore 7) (len := 2) (pc' := 64) mJ_332 (by decide +kernel) (ns_istore (L' := [(7, nk_i s0), (0, nk_r l0), (3, nk_l l3), (5, nk_i l5), (6, nk_i l6)]) rfl rfl (by decide +kernel)) rfl ?_
  refine nk_p (i := .lload_n 3) (len := 1) (pc' := 65) mJ_332 (by decide +kernel) (ns_lload_n 2 rfl rfl) rfl ?_
  obtain ⟨r1, S2, h3, hr⟩ := nk_bde hr
  refine nk_callS (ci := 0) (n := 1) (x := 328) (len := 3) (j' := 363) (q' := 1) (r := r1) (S' := S2) (L2 := [(0, nk_l l3)]) (rest := []) (st' := [nk_i r1]) (pc' := 68) mJ_332 (by decide +kernel) (by decide +kernel) (Nat.le_of_ble_eq_true rfl) rfl rfl (Nat.le_of_ble_eq_true rfl) mJ_363 (Nat.le_of_ble_eq_true rfl) ja_Tpos rfl (ja_X5_lowest_ok zs _ _ _ h3) rfl ?_
  refine nk_icond (c := .ge) (off := 8) (len := 3) (t := 76) (pc' := 71) mJ_332 (by decide +kernel) (by decide +kernel) rfl (fun hc => ?_) (fun hc => ?_)
  · have hr := nk_ifp (c := 0 ≤ r1) hc hr
    refine nk_sub [1, 2, 3, 4, 0] (L' := [(0, nk_r l0), (3, nk_l l3), (5, nk_i l5), (6, nk_i l6), (7, nk_i s0)]) rfl ?_
    exact ja_X4_makesArray_b76_ok zs _ _ _ _ _ _ _ t_l0 hr
  · have hr := nk_ifn (c := 0 ≤ r1) hc hr
    refine nk_p (i := .aload_n 0) (len := 1) (pc' := 72) mJ_332 (by decide +kernel) (ns_aload_n 1 rfl rfl) rfl ?_
    refine nk_p (i := .iconst 2) (len := 1) (pc' := 73) mJ_332 (by decide +kernel) (ns_iconst (c := 2) (by decide +kernel)) rfl ?_
    obtain ⟨r4, S5, h6, hr⟩ := nk_bde hr
    refine nk_callV (ci := 4) (n := 1) (x := 335) (len := 3) (j' := 338) (q' := 0) (r := r4) (S' := S5) (L2 := [(0, nk_r l0), (1, nk_i 2)]) (rest := []) (st' := []) (pc' := 76) mJ_332 (by decide +kernel) (by decide +kernel) rfl rfl t_l0 (Nat.le_of_ble_eq_true rfl) mJ_338 (Nat.le_of_ble_eq_true rfl) rfl (ja_X4_raise_ok zs _ _ _ _ t_l0 h6) rfl ?_
    refine nk_sub [1, 2, 3, 4, 0] (L' := [(0, nk_r l0), (3, nk_l l3), (5, nk_i l5), (6, nk_i l6), (7, nk_i s0)]) rfl ?_
    exact ja_X4_makesArray_b76_ok zs _ _ _ _ _ _ _ t_l0 hr
noncomputable def ja_X4_makesArray (l0 : Nat) (l1 : Int) (S : nk_S) : Option (Int × nk_S) :=
  nk_bd (ja_X7_fromTop (ja_c l0 2) 0 S) fun r2 S3 =>
  if 0 ≤ r2 ∧ r2 < 20 then
  nk_lt (S3.1 (ja_c (ja_c l0 2) 4) r2.toNat) fun v7 =>
  nk_bd (ja_X7_copyOf (S3.1 (ja_c (ja_c l0 2) 5) r2.toNat) S3) fun r10 S11 =>
  if 0 ≤ l1 ∧ l1 < 1024 then
  nk_lt (S11.1 (ja_c (S11.2 l0 0) 6) l1.toNat) fun v16 =>
  if (S11.1 (ja_c (S11.2 l0 0) 5) l1.toNat) = 1 then
    ja_X4_makesArray_b62 l0 v7 r10 v16 1 S11
  else
    ja_X4_makesArray_b62 l0 v7 r10 v16 0 S11
  else none
  else none
theorem ja_X4_makesArray_ok (zs : List Int32) : ∀ (l0 : Nat) (l1 : Int) (S : nk_S) (R : Int × nk_S), nk_cl ja_Tt l0 = some 4 → ja_X4_makesArray l0 l1 S = some R → nk_K ja_Tt mi_Γ (mi_ev zs) 1 332 0 [(0, nk_r l0), (1, nk_i l1)] [] S R := by
  intro l0 l1 S R t_l0 hr
  unfold ja_X4_makesArray at hr
  refine nk_p (i := .aload_n 0) (len := 1) (pc' := 1) mJ_332 (by decide +kernel) (ns_aload_n 0 rfl rfl) rfl ?_
  refine nk_getC (f := (2, 7, 0)) (x := 12) (len := 3) (ci := 4) (k := 2) (pc' := 4) ja_okT mJ_332 (by decide +kernel) (by decide +kernel) (by decide +kernel) (by decide) t_l0 rfl ?_
  have t1 : nk_cl ja_Tt (ja_c l0 2) = some 7 := nk_tc (y := 0) ja_okT t_l0 (by decide +kernel)
  refine nk_p (i := .iconst 0) (len := 1) (pc' := 5) mJ_332 (by decide +kernel) (ns_iconst (c := 0) (by decide +kernel)) rfl ?_
  obtain ⟨r2, S3, h4, hr⟩ := nk_bde hr
  refine nk_callV (ci := 7) (n := 1) (x := 290) (len := 3) (j' := 403) (q' := 1) (r := r2) (S' := S3) (L2 := [(0, nk_r (ja_c l0 2)), (1, nk_i 0)]) (rest := []) (st' := [nk_i r2]) (pc' := 8) mJ_332 (by decide +kernel) (by decide +kernel) rfl rfl t1 (Nat.le_of_ble_eq_true rfl) mJ_403 (Nat.le_of_ble_eq_true rfl) rfl (ja_X7_fromTop_ok zs _ _ _ _ t1 h4) rfl ?_
  refine nk_p (i := .istore_n 2) (len := 1) (pc' := 9) mJ_332 (by decide +kernel) (ns_istore_n (L' := [(2, nk_i r2), (0, nk_r l0), (1, nk_i l1)]) rfl rfl rfl (by decide +kernel)) rfl ?_
  refine nk_p (i := .aload_n 0) (len := 1) (pc' := 10) mJ_332 (by decide +kernel) (ns_aload_n 1 rfl rfl) rfl ?_
  refine nk_getC (f := (2, 7, 0)) (x := 12) (len := 3) (ci := 4) (k := 2) (pc' := 13) ja_okT mJ_332 (by decide +kernel) (by decide +kernel) (by decide +kernel) (by decide) t_l0 rfl ?_
  refine nk_getC (f := (4, 2, 20)) (x := 299) (len := 3) (ci := 7) (k := 4) (pc' := 16) ja_okT mJ_332 (by decide +kernel) (by decide +kernel) (by decide +kernel) (by decide) t1 rfl ?_
  have t5 : nk_ar ja_Tt (ja_c (ja_c l0 2) 4) = some (2, 20) := nk_ta ja_okT t1 (by decide +kernel)
  refine nk_p (i := .iload_n 2) (len := 1) (pc' := 17) mJ_332 (by decide +kernel) (ns_iload_n 0 rfl rfl) rfl ?_
  obtain ⟨h6, hr⟩ := nk_cke hr
  refine nk_lald (len := 1) (N := 20) (pc' := 18) mJ_332 (by decide +kernel) t5 h6.1 h6.2 rfl rfl ?_
  obtain ⟨v7, h8, hr⟩ := nk_lte hr
  refine nk_p (i := .lstore_n 3) (len := 1) (pc' := 19) mJ_332 (by decide +kernel) (ns_lstore_n (L' := [(3, nk_l v7), (2, nk_i r2), (0, nk_r l0), (1, nk_i l1)]) h8 rfl rfl (by decide +kernel)) rfl ?_
  refine nk_p (i := .aload_n 0) (len := 1) (pc' := 20) mJ_332 (by decide +kernel) (ns_aload_n 2 rfl rfl) rfl ?_
  refine nk_getC (f := (2, 7, 0)) (x := 12) (len := 3) (ci := 4) (k := 2) (pc' := 23) ja_okT mJ_332 (by decide +kernel) (by decide +kernel) (by decide +kernel) (by decide) t_l0 rfl ?_
  refine nk_getC (f := (4, 2, 20)) (x := 302) (len := 3) (ci := 7) (k := 5) (pc' := 26) ja_okT mJ_332 (by decide +kernel) (by decide +kernel) (by decide +kernel) (by decide) t1 rfl ?_
  have t9 : nk_ar ja_Tt (ja_c (ja_c l0 2) 5) = some (2, 20) := nk_ta ja_okT t1 (by decide +kernel)
  refine nk_p (i := .iload_n 2) (len := 1) (pc' := 27) mJ_332 (by decide +kernel) (ns_iload_n 1 rfl rfl) rfl ?_
  refine nk_lald (len := 1) (N := 20) (pc' := 28) mJ_332 (by decide +kernel) t9 h6.1 h6.2 rfl rfl ?_
  obtain ⟨r10, S11, h12, hr⟩ := nk_bde hr
  refine nk_callS (ci := 0) (n := 1) (x := 390) (len := 3) (j' := 400) (q' := 1) (r := r10) (S' := S11) (L2 := [(0, nk_l (S3.1 (ja_c (ja_c l0 2) 5) r2.toNat))]) (rest := []) (st' := [nk_i r10]) (pc' := 31) mJ_332 (by decide +kernel) (by decide +kernel) (Nat.le_of_ble_eq_true rfl) rfl rfl (Nat.le_of_ble_eq_true rfl) mJ_400 (Nat.le_of_ble_eq_true rfl) ja_Tpos rfl (ja_X7_copyOf_ok zs _ _ _ h12) rfl ?_
  refine nk_p (i := .istore 5) (len := 2) (pc' := 33) mJ_332 (by decide +kernel) (ns_istore (L' := [(5, nk_i r10), (3, nk_l v7), (2, nk_i r2), (0, nk_r l0), (1, nk_i l1)]) rfl rfl (by decide +kernel)) rfl ?_
  refine nk_p (i := .aload_n 0) (len := 1) (pc' := 34) mJ_332 (by decide +kernel) (ns_aload_n 3 rfl rfl) rfl ?_
  refine nk_getM (cj := 3) (z := 0) (x := 42) (len := 3) (ci := 4) (k := 0) (pc' := 37) ja_okT mJ_332 (by decide +kernel) (by decide +kernel) (by decide +kernel) t_l0 rfl (fun t13 => ?_)
  refine nk_getC (f := (4, 1, 1024)) (x := 308) (len := 3) (ci := 3) (k := 6) (pc' := 40) ja_okT mJ_332 (by decide +kernel) (by decide +kernel) (by decide +kernel) (by decide) t13 rfl ?_
  have t14 : nk_ar ja_Tt (ja_c (S11.2 l0 0) 6) = some (1, 1024) := nk_ta ja_okT t13 (by decide +kernel)
  refine nk_p (i := .iload_n 1) (len := 1) (pc' := 41) mJ_332 (by decide +kernel) (ns_iload_n 4 rfl rfl) rfl ?_
  obtain ⟨h15, hr⟩ := nk_cke hr
  refine nk_iald (len := 1) (N := 1024) (pc' := 42) mJ_332 (by decide +kernel) t14 h15.1 h15.2 rfl rfl ?_
  obtain ⟨v16, h17, hr⟩ := nk_lte hr
  refine nk_p (i := .istore 6) (len := 2) (pc' := 44) mJ_332 (by decide +kernel) (ns_istore (L' := [(6, nk_i v16), (5, nk_i r10), (3, nk_l v7), (2, nk_i r2), (0, nk_r l0), (1, nk_i l1)]) h17 rfl (by decide +kernel)) rfl ?_
  refine nk_p (i := .aload_n 0) (len := 1) (pc' := 45) mJ_332 (by decide +kernel) (ns_aload_n 4 rfl rfl) rfl ?_
  refine nk_getM (cj := 3) (z := 0) (x := 42) (len := 3) (ci := 4) (k := 0) (pc' := 48) ja_okT mJ_332 (by decide +kernel) (by decide +kernel) (by decide +kernel) t_l0 rfl (fun t18 => ?_)
  refine nk_getC (f := (4, 1, 1024)) (x := 113) (len := 3) (ci := 3) (k := 5) (pc' := 51) ja_okT mJ_332 (by decide +kernel) (by decide +kernel) (by decide +kernel) (by decide) t18 rfl ?_
  have t19 : nk_ar ja_Tt (ja_c (S11.2 l0 0) 5) = some (1, 1024) := nk_ta ja_okT t18 (by decide +kernel)
  refine nk_p (i := .iload_n 1) (len := 1) (pc' := 52) mJ_332 (by decide +kernel) (ns_iload_n 5 rfl rfl) rfl ?_
  refine nk_iald (len := 1) (N := 1024) (pc' := 53) mJ_332 (by decide +kernel) t19 h15.1 h15.2 rfl rfl ?_
  refine nk_p (i := .iconst 1) (len := 1) (pc' := 54) mJ_332 (by decide +kernel) (ns_iconst (c := 1) (by decide +kernel)) rfl ?_
  refine nk_icmp (c := .ne) (off := 7) (len := 3) (t := 61) (pc' := 57) mJ_332 (by decide +kernel) (by decide +kernel) rfl (fun hc => ?_) (fun hc => ?_)
  · have hr := nk_ifn (c := (S11.1 (ja_c (S11.2 l0 0) 5) l1.toNat) = 1) hc hr
    refine nk_p (i := .iconst 0) (len := 1) (pc' := 62) mJ_332 (by decide +kernel) (ns_iconst (c := 0) (by decide +kernel)) rfl ?_
    refine nk_sub [4, 2, 1, 0] (L' := [(0, nk_r l0), (3, nk_l v7), (5, nk_i r10), (6, nk_i v16)]) rfl ?_
    exact ja_X4_makesArray_b62_ok zs _ _ _ _ _ _ _ t_l0 hr
  · have hr := nk_ifp (c := (S11.1 (ja_c (S11.2 l0 0) 5) l1.toNat) = 1) (Decidable.of_not_not hc) hr
    refine nk_p (i := .iconst 1) (len := 1) (pc' := 58) mJ_332 (by decide +kernel) (ns_iconst (c := 1) (by decide +kernel)) rfl ?_
    refine nk_p (i := .goto 4) (len := 3) (pc' := 62) mJ_332 (by decide +kernel) (ns_goto (by decide +kernel)) rfl ?_
    refine nk_sub [4, 2, 1, 0] (L' := [(0, nk_r l0), (3, nk_l v7), (5, nk_i r10), (6, nk_i v16)]) rfl ?_
    exact ja_X4_makesArray_b62_ok zs _ _ _ _ _ _ _ t_l0 hr
/-! SafeCode$Proof tellsLength ()Z -/
noncomputable def ja_X4_tellsLength_b79 (l3 : Int) (s0 : Nat) (s1 : Int) (s2 : Int) (S : nk_S) : Option (Int × nk_S) :=
  nk_bd (ja_X7_push s0 s1 s2 S) fun r1 S2 =>
  nk_bd (ja_X5_isNothing l3 S2) fun r4 S5 =>
  if r4 = 0 then
    some (1, S5)
  else
    some (0, S5)
theorem ja_X4_tellsLength_b79_ok (zs : List Int32) : ∀ (l3 : Int) (s0 : Nat) (s1 : Int) (s2 : Int) (S : nk_S) (R : Int × nk_S), nk_cl ja_Tt s0 = some 7 → ja_X4_tellsLength_b79 l3 s0 s1 s2 S = some R → nk_K ja_Tt mi_Γ (mi_ev zs) 1 341 79 [(3, nk_l l3)] [nk_l s2, nk_l s1, nk_r s0] S R := by
  intro l3 s0 s1 s2 S R t_s0 hr
  unfold ja_X4_tellsLength_b79 at hr
  obtain ⟨r1, S2, h3, hr⟩ := nk_bde hr
  refine nk_callV (ci := 7) (n := 2) (x := 258) (len := 3) (j' := 408) (q' := 0) (r := r1) (S' := S2) (L2 := [(0, nk_r s0), (1, nk_l s1), (3, nk_l s2)]) (rest := []) (st' := []) (pc' := 82) mJ_341 (by decide +kernel) (by decide +kernel) rfl rfl t_s0 (Nat.le_of_ble_eq_true rfl) mJ_408 (Nat.le_of_ble_eq_true rfl) rfl (ja_X7_push_ok zs _ _ _ _ _ t_s0 h3) rfl ?_
  refine nk_p (i := .lload_n 3) (len := 1) (pc' := 83) mJ_341 (by decide +kernel) (ns_lload_n 0 rfl rfl) rfl ?_
  obtain ⟨r4, S5, h6, hr⟩ := nk_bde hr
  refine nk_callS (ci := 0) (n := 1) (x := 342) (len := 3) (j' := 360) (q' := 1) (r := r4) (S' := S5) (L2 := [(0, nk_l l3)]) (rest := []) (st' := [nk_i r4]) (pc' := 86) mJ_341 (by decide +kernel) (by decide +kernel) (Nat.le_of_ble_eq_true rfl) rfl rfl (Nat.le_of_ble_eq_true rfl) mJ_360 (Nat.le_of_ble_eq_true rfl) ja_Tpos rfl (ja_X5_isNothing_ok zs _ _ _ h6) rfl ?_
  refine nk_icond (c := .ne) (off := 7) (len := 3) (t := 93) (pc' := 89) mJ_341 (by decide +kernel) (by decide +kernel) rfl (fun hc => ?_) (fun hc => ?_)
  · have hr := nk_ifn (c := r4 = 0) hc hr
    refine nk_p (i := .iconst 0) (len := 1) (pc' := 94) mJ_341 (by decide +kernel) (ns_iconst (c := 0) (by decide +kernel)) rfl ?_
    cases hr
    exact nk_iret (ty := .boolean) (len := 1) mJ_341 (by decide +kernel) rfl (nk_nar_z (by decide))
  · have hr := nk_ifp (c := r4 = 0) (Decidable.of_not_not hc) hr
    refine nk_p (i := .iconst 1) (len := 1) (pc' := 90) mJ_341 (by decide +kernel) (ns_iconst (c := 1) (by decide +kernel)) rfl ?_
    refine nk_p (i := .goto 4) (len := 3) (pc' := 94) mJ_341 (by decide +kernel) (ns_goto (by decide +kernel)) rfl ?_
    cases hr
    exact nk_iret (ty := .boolean) (len := 1) mJ_341 (by decide +kernel) rfl (nk_nar_z (by decide))
noncomputable def ja_X4_tellsLength (l0 : Nat) (S : nk_S) : Option (Int × nk_S) :=
  nk_bd (ja_X7_fromTop (ja_c l0 2) 0 S) fun r2 S3 =>
  if 0 ≤ r2 ∧ r2 < 20 then
  nk_bd (ja_X7_copyOf (S3.1 (ja_c (ja_c l0 2) 5) r2.toNat) S3) fun r7 S8 =>
  nk_bd (ja_X4_dereference l0 r2 S8) fun r10 S11 =>
  if r10 = 0 then
    some (0, S11)
  else
    nk_bd (ja_X4_lengthsOf l0 (S11.1 (ja_c (ja_c l0 2) 4) r2.toNat) S11) fun r14 S15 =>
    nk_bd (ja_X7_drop (ja_c l0 2) 1 S15) fun r17 S18 =>
    if 0 ≤ r7 then
      ja_X4_tellsLength_b79 r14 (ja_c l0 2) r14 (nk_lor 4503599627370496 (nk_lshl 1 (nk_w (24 + r7)))) S18
    else
      ja_X4_tellsLength_b79 r14 (ja_c l0 2) r14 4503599627370496 S18
  else none
theorem ja_X4_tellsLength_ok (zs : List Int32) : ∀ (l0 : Nat) (S : nk_S) (R : Int × nk_S), nk_cl ja_Tt l0 = some 4 → ja_X4_tellsLength l0 S = some R → nk_K ja_Tt mi_Γ (mi_ev zs) 1 341 0 [(0, nk_r l0)] [] S R := by
  intro l0 S R t_l0 hr
  unfold ja_X4_tellsLength at hr
  refine nk_p (i := .aload_n 0) (len := 1) (pc' := 1) mJ_341 (by decide +kernel) (ns_aload_n 0 rfl rfl) rfl ?_
  refine nk_getC (f := (2, 7, 0)) (x := 12) (len := 3) (ci := 4) (k := 2) (pc' := 4) ja_okT mJ_341 (by decide +kernel) (by decide +kernel) (by decide +kernel) (by decide) t_l0 rfl ?_
  have t1 : nk_cl ja_Tt (ja_c l0 2) = some 7 := nk_tc (y := 0) ja_okT t_l0 (by decide +kernel)
  refine nk_p (i := .iconst 0) (len := 1) (pc' := 5) mJ_341 (by decide +kernel) (ns_iconst (c := 0) (by decide +kernel)) rfl ?_
  obtain ⟨r2, S3, h4, hr⟩ := nk_bde hr
  refine nk_callV (ci := 7) (n := 1) (x := 290) (len := 3) (j' := 403) (q' := 1) (r := r2) (S' := S3) (L2 := [(0, nk_r (ja_c l0 2)), (1, nk_i 0)]) (rest := []) (st' := [nk_i r2]) (pc' := 8) mJ_341 (by decide +kernel) (by decide +kernel) rfl rfl t1 (Nat.le_of_ble_eq_true rfl) mJ_403 (Nat.le_of_ble_eq_true rfl) rfl (ja_X7_fromTop_ok zs _ _ _ _ t1 h4) rfl ?_
  refine nk_p (i := .istore_n 1) (len := 1) (pc' := 9) mJ_341 (by decide +kernel) (ns_istore_n (L' := [(1, nk_i r2), (0, nk_r l0)]) rfl rfl rfl (by decide +kernel)) rfl ?_
  refine nk_p (i := .aload_n 0) (len := 1) (pc' := 10) mJ_341 (by decide +kernel) (ns_aload_n 1 rfl rfl) rfl ?_
  refine nk_getC (f := (2, 7, 0)) (x := 12) (len := 3) (ci := 4) (k := 2) (pc' := 13) ja_okT mJ_341 (by decide +kernel) (by decide +kernel) (by decide +kernel) (by decide) t_l0 rfl ?_
  refine nk_getC (f := (4, 2, 20)) (x := 302) (len := 3) (ci := 7) (k := 5) (pc' := 16) ja_okT mJ_341 (by decide +kernel) (by decide +kernel) (by decide +kernel) (by decide) t1 rfl ?_
  have t5 : nk_ar ja_Tt (ja_c (ja_c l0 2) 5) = some (2, 20) := nk_ta ja_okT t1 (by decide +kernel)
  refine nk_p (i := .iload_n 1) (len := 1) (pc' := 17) mJ_341 (by decide +kernel) (ns_iload_n 0 rfl rfl) rfl ?_
  obtain ⟨h6, hr⟩ := nk_cke hr
  refine nk_lald (len := 1) (N := 20) (pc' := 18) mJ_341 (by decide +kernel) t5 h6.1 h6.2 rfl rfl ?_
  obtain ⟨r7, S8, h9, hr⟩ := nk_bde hr
  refine nk_callS (ci := 0) (n := 1) (x := 390) (len := 3) (j' := 400) (q' := 1) (r := r7) (S' := S8) (L2 := [(0, nk_l (S3.1 (ja_c (ja_c l0 2) 5) r2.toNat))]) (rest := []) (st' := [nk_i r7]) (pc' := 21) mJ_341 (by decide +kernel) (by decide +kernel) (Nat.le_of_ble_eq_true rfl) rfl rfl (Nat.le_of_ble_eq_true rfl) mJ_400 (Nat.le_of_ble_eq_true rfl) ja_Tpos rfl (ja_X7_copyOf_ok zs _ _ _ h9) rfl ?_
  refine nk_p (i := .istore_n 2) (len := 1) (pc' := 22) mJ_341 (by decide +kernel) (ns_istore_n (L' := [(2, nk_i r7), (1, nk_i r2), (0, nk_r l0)]) rfl rfl rfl (by decide +kernel)) rfl ?_
  refine nk_p (i := .aload_n 0) (len := 1) (pc' := 23) mJ_341 (by decide +kernel) (ns_aload_n 2 rfl rfl) rfl ?_
  refine nk_p (i := .iload_n 1) (len := 1) (pc' := 24) mJ_341 (by decide +kernel) (ns_iload_n 1 rfl rfl) rfl ?_
  obtain ⟨r10, S11, h12, hr⟩ := nk_bde hr
  refine nk_callV (ci := 4) (n := 1) (x := 431) (len := 3) (j' := 316) (q' := 1) (r := r10) (S' := S11) (L2 := [(0, nk_r l0), (1, nk_i r2)]) (rest := []) (st' := [nk_i r10]) (pc' := 27) mJ_341 (by decide +kernel) (by decide +kernel) rfl rfl t_l0 (Nat.le_of_ble_eq_true rfl) mJ_316 (Nat.le_of_ble_eq_true rfl) rfl (ja_X4_dereference_ok zs _ _ _ _ t_l0 h12) rfl ?_
  refine nk_icond (c := .ne) (off := 5) (len := 3) (t := 32) (pc' := 30) mJ_341 (by decide +kernel) (by decide +kernel) rfl (fun hc => ?_) (fun hc => ?_)
  · have hr := nk_ifn (c := r10 = 0) hc hr
    refine nk_p (i := .aload_n 0) (len := 1) (pc' := 33) mJ_341 (by decide +kernel) (ns_aload_n 2 rfl rfl) rfl ?_
    refine nk_p (i := .aload_n 0) (len := 1) (pc' := 34) mJ_341 (by decide +kernel) (ns_aload_n 2 rfl rfl) rfl ?_
    refine nk_getC (f := (2, 7, 0)) (x := 12) (len := 3) (ci := 4) (k := 2) (pc' := 37) ja_okT mJ_341 (by decide +kernel) (by decide +kernel) (by decide +kernel) (by decide) t_l0 rfl ?_
    refine nk_getC (f := (4, 2, 20)) (x := 299) (len := 3) (ci := 7) (k := 4) (pc' := 40) ja_okT mJ_341 (by decide +kernel) (by decide +kernel) (by decide +kernel) (by decide) t1 rfl ?_
    have t13 : nk_ar ja_Tt (ja_c (ja_c l0 2) 4) = some (2, 20) := nk_ta ja_okT t1 (by decide +kernel)
    refine nk_p (i := .iload_n 1) (len := 1) (pc' := 41) mJ_341 (by decide +kernel) (ns_iload_n 1 rfl rfl) rfl ?_
    refine nk_lald (len := 1) (N := 20) (pc' := 42) mJ_341 (by decide +kernel) t13 h6.1 h6.2 rfl rfl ?_
    obtain ⟨r14, S15, h16, hr⟩ := nk_bde hr
    refine nk_callV (ci := 4) (n := 1) (x := 434) (len := 3) (j' := 324) (q' := 2) (r := r14) (S' := S15) (L2 := [(0, nk_r l0), (1, nk_l (S11.1 (ja_c (ja_c l0 2) 4) r2.toNat))]) (rest := []) (st' := [nk_l r14]) (pc' := 45) mJ_341 (by decide +kernel) (by decide +kernel) rfl rfl t_l0 (Nat.le_of_ble_eq_true rfl) mJ_324 (Nat.le_of_ble_eq_true rfl) rfl (ja_X4_lengthsOf_ok zs _ _ _ _ t_l0 h16) rfl ?_
    refine nk_p (i := .lstore_n 3) (len := 1) (pc' := 46) mJ_341 (by decide +kernel) (ns_lstore_n (L' := [(3, nk_l r14), (2, nk_i r7), (1, nk_i r2), (0, nk_r l0)]) rfl rfl rfl (by decide +kernel)) rfl ?_
    refine nk_p (i := .aload_n 0) (len := 1) (pc' := 47) mJ_341 (by decide +kernel) (ns_aload_n 3 rfl rfl) rfl ?_
    refine nk_getC (f := (2, 7, 0)) (x := 12) (len := 3) (ci := 4) (k := 2) (pc' := 50) ja_okT mJ_341 (by decide +kernel) (by decide +kernel) (by decide +kernel) (by decide) t_l0 rfl ?_
    refine nk_p (i := .iconst 1) (len := 1) (pc' := 51) mJ_341 (by decide +kernel) (ns_iconst (c := 1) (by decide +kernel)) rfl ?_
    obtain ⟨r17, S18, h19, hr⟩ := nk_bde hr
    refine nk_callV (ci := 7) (n := 1) (x := 321) (len := 3) (j' := 401) (q' := 0) (r := r17) (S' := S18) (L2 := [(0, nk_r (ja_c l0 2)), (1, nk_i 1)]) (rest := []) (st' := []) (pc' := 54) mJ_341 (by decide +kernel) (by decide +kernel) rfl rfl t1 (Nat.le_of_ble_eq_true rfl) mJ_401 (Nat.le_of_ble_eq_true rfl) rfl (ja_X7_drop_ok zs _ _ _ _ t1 h19) rfl ?_
    refine nk_p (i := .aload_n 0) (len := 1) (pc' := 55) mJ_341 (by decide +kernel) (ns_aload_n 3 rfl rfl) rfl ?_
    refine nk_getC (f := (2, 7, 0)) (x := 12) (len := 3) (ci := 4) (k := 2) (pc' := 58) ja_okT mJ_341 (by decide +kernel) (by decide +kernel) (by decide +kernel) (by decide) t_l0 rfl ?_
    refine nk_p (i := .lload_n 3) (len := 1) (pc' := 59) mJ_341 (by decide +kernel) (ns_lload_n 0 rfl rfl) rfl ?_
    refine nk_p (i := .iload_n 2) (len := 1) (pc' := 60) mJ_341 (by decide +kernel) (ns_iload_n 1 rfl rfl) rfl ?_
    refine nk_icond (c := .ge) (off := 9) (len := 3) (t := 69) (pc' := 63) mJ_341 (by decide +kernel) (by decide +kernel) rfl (fun hc => ?_) (fun hc => ?_)
    · have hr := nk_ifp (c := 0 ≤ r7) hc hr
      refine nk_ldc2 (x := 256) (len := 3) (X := 4503599627370496) (v := 4503599627370496) (pc' := 72) mJ_341 (by decide +kernel) (by decide +kernel) (by decide +kernel) rfl ?_
      refine nk_p (i := .lconst 1) (len := 1) (pc' := 73) mJ_341 (by decide +kernel) (ns_lconst (c := 1) (by decide +kernel)) rfl ?_
      refine nk_p (i := .bipush 24) (len := 2) (pc' := 75) mJ_341 (by decide +kernel) (ns_bipush (c := 24) (by decide +kernel)) rfl ?_
      refine nk_p (i := .iload_n 2) (len := 1) (pc' := 76) mJ_341 (by decide +kernel) (ns_iload_n 1 rfl rfl) rfl ?_
      refine nk_p (i := .iadd) (len := 1) (pc' := 77) mJ_341 (by decide +kernel) ns_iadd rfl ?_
      refine nk_p (i := .lshl) (len := 1) (pc' := 78) mJ_341 (by decide +kernel) ns_lshl rfl ?_
      refine nk_p (i := .lor) (len := 1) (pc' := 79) mJ_341 (by decide +kernel) ns_lor rfl ?_
      refine nk_sub [0] (L' := [(3, nk_l r14)]) rfl ?_
      exact ja_X4_tellsLength_b79_ok zs _ _ _ _ _ _ t1 hr
    · have hr := nk_ifn (c := 0 ≤ r7) hc hr
      refine nk_ldc2 (x := 256) (len := 3) (X := 4503599627370496) (v := 4503599627370496) (pc' := 66) mJ_341 (by decide +kernel) (by decide +kernel) (by decide +kernel) rfl ?_
      refine nk_p (i := .goto 13) (len := 3) (pc' := 79) mJ_341 (by decide +kernel) (ns_goto (by decide +kernel)) rfl ?_
      refine nk_sub [0] (L' := [(3, nk_l r14)]) rfl ?_
      exact ja_X4_tellsLength_b79_ok zs _ _ _ _ _ _ t1 hr
  · have hr := nk_ifp (c := r10 = 0) (Decidable.of_not_not hc) hr
    refine nk_p (i := .iconst 0) (len := 1) (pc' := 31) mJ_341 (by decide +kernel) (ns_iconst (c := 0) (by decide +kernel)) rfl ?_
    cases hr
    exact nk_iret (ty := .boolean) (len := 1) mJ_341 (by decide +kernel) rfl (nk_nar_z (by decide))
/-! SafeCode$Proof usesField (II)Z -/
noncomputable def ja_X4_usesField_b143 (rec86 : Nat → Int → Int → Int → Int → Int → Int → Int → nk_S → Option (Int × nk_S)) (l0 : Nat) (l2 : Int) (l3 : Int) (l4 : Int) (l5 : Int) (l6 : Int) (l8 : Int) (l10 : Int) (S : nk_S) : Option (Int × nk_S) :=
  if (nk_land (nk_lushr l6 l10) 1) = 0 then
    nk_lt (nk_w (l10 + 1)) fun v1 =>
    rec86 l0 l2 l3 l4 l5 l6 l8 v1 S
  else
    if 0 ≤ (nk_w (l5 + 1)) ∧ (nk_w (l5 + 1)) < 20 then
    nk_bd (ja_X8_addField (ja_c l0 3) l10 l3 (S.1 (ja_c (ja_c l0 2) 4) (nk_w (l5 + 1)).toNat) l4 S) fun r7 S8 =>
    nk_lt (nk_w (l10 + 1)) fun v10 =>
    rec86 l0 l2 l3 l4 l5 l6 l8 v10 S8
    else none
theorem ja_X4_usesField_b143_ok (zs : List Int32) {rec86 : Nat → Int → Int → Int → Int → Int → Int → Int → nk_S → Option (Int × nk_S)} (hrec86 : ∀ (l0 : Nat) (l2 : Int) (l3 : Int) (l4 : Int) (l5 : Int) (l6 : Int) (l8 : Int) (l10 : Int) (S : nk_S) (R : Int × nk_S), nk_cl ja_Tt l0 = some 4 → rec86 l0 l2 l3 l4 l5 l6 l8 l10 S = some R → nk_K ja_Tt mi_Γ (mi_ev zs) 1 347 86 [(0, nk_r l0), (2, nk_i l2), (3, nk_i l3), (4, nk_i l4), (5, nk_i l5), (6, nk_l l6), (8, nk_l l8), (10, nk_i l10)] [] S R) : ∀ (l0 : Nat) (l2 : Int) (l3 : Int) (l4 : Int) (l5 : Int) (l6 : Int) (l8 : Int) (l10 : Int) (S : nk_S) (R : Int × nk_S), nk_cl ja_Tt l0 = some 4 → ja_X4_usesField_b143 rec86 l0 l2 l3 l4 l5 l6 l8 l10 S = some R → nk_K ja_Tt mi_Γ (mi_ev zs) 1 347 143 [(0, nk_r l0), (2, nk_i l2), (3, nk_i l3), (4, nk_i l4), (5, nk_i l5), (6, nk_l l6), (8, nk_l l8), (10, nk_i l10)] [] S R := by
  intro l0 l2 l3 l4 l5 l6 l8 l10 S R t_l0 hr
  unfold ja_X4_usesField_b143 at hr
  refine nk_p (i := .lload 6) (len := 2) (pc' := 145) mJ_347 (by decide +kernel) (ns_lload 5 rfl) rfl ?_
  refine nk_p (i := .iload 10) (len := 2) (pc' := 147) mJ_347 (by decide +kernel) (ns_iload 7 rfl) rfl ?_
  refine nk_p (i := .lushr) (len := 1) (pc' := 148) mJ_347 (by decide +kernel) ns_lushr rfl ?_
  refine nk_p (i := .lconst 1) (len := 1) (pc' := 149) mJ_347 (by decide +kernel) (ns_lconst (c := 1) (by decide +kernel)) rfl ?_
  refine nk_p (i := .land) (len := 1) (pc' := 150) mJ_347 (by decide +kernel) ns_land rfl ?_
  refine nk_p (i := .lconst 0) (len := 1) (pc' := 151) mJ_347 (by decide +kernel) (ns_lconst (c := 0) (by decide +kernel)) rfl ?_
  refine nk_p (i := .lcmp) (len := 1) (pc' := 152) mJ_347 (by decide +kernel) ns_lcmp rfl ?_
  refine nk_lcond (c := .eq) (off := 27) (len := 3) (t := 179) (pc' := 155) mJ_347 (by decide +kernel) (by decide +kernel) rfl (fun hc => ?_) (fun hc => ?_)
  · have hr := nk_ifp (c := (nk_land (nk_lushr l6 l10) 1) = 0) hc hr
    obtain ⟨v1, h2, hr⟩ := nk_lte hr
    refine nk_p (i := .iinc 10 1) (len := 3) (pc' := 182) mJ_347 (by decide +kernel) (ns_iinc (c := 1) (L' := [(10, nk_i v1), (0, nk_r l0), (2, nk_i l2), (3, nk_i l3), (4, nk_i l4), (5, nk_i l5), (6, nk_l l6), (8, nk_l l8)]) 7 rfl (by decide +kernel) h2 rfl (by decide +kernel)) rfl ?_
    refine nk_p (i := .goto (-96)) (len := 3) (pc' := 86) mJ_347 (by decide +kernel) (ns_goto (by decide +kernel)) rfl ?_
    refine nk_sub [1, 2, 3, 4, 5, 6, 7, 0] (L' := [(0, nk_r l0), (2, nk_i l2), (3, nk_i l3), (4, nk_i l4), (5, nk_i l5), (6, nk_l l6), (8, nk_l l8), (10, nk_i v1)]) rfl ?_
    exact hrec86 _ _ _ _ _ _ _ _ _ _ t_l0 hr
  · have hr := nk_ifn (c := (nk_land (nk_lushr l6 l10) 1) = 0) hc hr
    refine nk_p (i := .aload_n 0) (len := 1) (pc' := 156) mJ_347 (by decide +kernel) (ns_aload_n 0 rfl rfl) rfl ?_
    refine nk_getC (f := (2, 8, 0)) (x := 21) (len := 3) (ci := 4) (k := 3) (pc' := 159) ja_okT mJ_347 (by decide +kernel) (by decide +kernel) (by decide +kernel) (by decide) t_l0 rfl ?_
    have t3 : nk_cl ja_Tt (ja_c l0 3) = some 8 := nk_tc (y := 0) ja_okT t_l0 (by decide +kernel)
    refine nk_p (i := .iload 10) (len := 2) (pc' := 161) mJ_347 (by decide +kernel) (ns_iload 7 rfl) rfl ?_
    refine nk_p (i := .iload_n 3) (len := 1) (pc' := 162) mJ_347 (by decide +kernel) (ns_iload_n 2 rfl rfl) rfl ?_
    refine nk_p (i := .aload_n 0) (len := 1) (pc' := 163) mJ_347 (by decide +kernel) (ns_aload_n 0 rfl rfl) rfl ?_
    refine nk_getC (f := (2, 7, 0)) (x := 12) (len := 3) (ci := 4) (k := 2) (pc' := 166) ja_okT mJ_347 (by decide +kernel) (by decide +kernel) (by decide +kernel) (by decide) t_l0 rfl ?_
    have t4 : nk_cl ja_Tt (ja_c l0 2) = some 7 := nk_tc (y := 0) ja_okT t_l0 (by decide +kernel)
    refine nk_getC (f := (4, 2, 20)) (x := 299) (len := 3) (ci := 7) (k := 4) (pc' := 169) ja_okT mJ_347 (by decide +kernel) (by decide +kernel) (by decide +kernel) (by decide) t4 rfl ?_
    have t5 : nk_ar ja_Tt (ja_c (ja_c l0 2) 4) = some (2, 20) := nk_ta ja_okT t4 (by decide +kernel)
    refine nk_p (i := .iload 5) (len := 2) (pc' := 171) mJ_347 (by decide +kernel) (ns_iload 4 rfl) rfl ?_
    refine nk_p (i := .iconst 1) (len := 1) (pc' := 172) mJ_347 (by decide +kernel) (ns_iconst (c := 1) (by decide +kernel)) rfl ?_
    refine nk_p (i := .iadd) (len := 1) (pc' := 173) mJ_347 (by decide +kernel) ns_iadd rfl ?_
    obtain ⟨h6, hr⟩ := nk_cke hr
    refine nk_lald (len := 1) (N := 20) (pc' := 174) mJ_347 (by decide +kernel) t5 h6.1 h6.2 rfl rfl ?_
    refine nk_p (i := .iload 4) (len := 2) (pc' := 176) mJ_347 (by decide +kernel) (ns_iload 3 rfl) rfl ?_
    obtain ⟨r7, S8, h9, hr⟩ := nk_bde hr
    refine nk_callV (ci := 8) (n := 4) (x := 407) (len := 3) (j' := 415) (q' := 0) (r := r7) (S' := S8) (L2 := [(0, nk_r (ja_c l0 3)), (1, nk_i l10), (2, nk_i l3), (3, nk_l (S.1 (ja_c (ja_c l0 2) 4) (nk_w (l5 + 1)).toNat)), (5, nk_i l4)]) (rest := []) (st' := []) (pc' := 179) mJ_347 (by decide +kernel) (by decide +kernel) rfl rfl t3 (Nat.le_of_ble_eq_true rfl) mJ_415 (Nat.le_of_ble_eq_true rfl) rfl (ja_X8_addField_ok zs _ _ _ _ _ _ _ t3 h9) rfl ?_
    obtain ⟨v10, h11, hr⟩ := nk_lte hr
    refine nk_p (i := .iinc 10 1) (len := 3) (pc' := 182) mJ_347 (by decide +kernel) (ns_iinc (c := 1) (L' := [(10, nk_i v10), (0, nk_r l0), (2, nk_i l2), (3, nk_i l3), (4, nk_i l4), (5, nk_i l5), (6, nk_l l6), (8, nk_l l8)]) 7 rfl (by decide +kernel) h11 rfl (by decide +kernel)) rfl ?_
    refine nk_p (i := .goto (-96)) (len := 3) (pc' := 86) mJ_347 (by decide +kernel) (ns_goto (by decide +kernel)) rfl ?_
    refine nk_sub [1, 2, 3, 4, 5, 6, 7, 0] (L' := [(0, nk_r l0), (2, nk_i l2), (3, nk_i l3), (4, nk_i l4), (5, nk_i l5), (6, nk_l l6), (8, nk_l l8), (10, nk_i v10)]) rfl ?_
    exact hrec86 _ _ _ _ _ _ _ _ _ _ t_l0 hr
noncomputable def ja_X4_usesField_b86 (rec86 : Nat → Int → Int → Int → Int → Int → Int → Int → nk_S → Option (Int × nk_S)) (l0 : Nat) (l2 : Int) (l3 : Int) (l4 : Int) (l5 : Int) (l6 : Int) (l8 : Int) (l10 : Int) (S : nk_S) : Option (Int × nk_S) :=
  if (S.1 (S.2 l0 0) 10) ≤ l10 then
    if l2 = 35 then
      nk_bd (ja_X4_leavesValue l0 1 l8 l4 S) fun r6 S7 =>
      if r6 = 0 ∨ r6 = 1 then
      some (r6, S7)
      else none
    else
      nk_bd (ja_X7_drop (ja_c l0 2) 2 S) fun r3 S4 =>
      some (1, S4)
  else
    if (nk_land (nk_lushr l6 l10) 1) = 0 then
      ja_X4_usesField_b143 rec86 l0 l2 l3 l4 l5 l6 l8 l10 S
    else
      if l2 = 35 then
        if 0 ≤ (nk_w ((nk_w (l10 * 48)) + l3)) ∧ (nk_w ((nk_w (l10 * 48)) + l3)) < 2304 then
        nk_bd (ja_X8_join l8 (S.1 (ja_c (ja_c l0 3) 0) (nk_w ((nk_w (l10 * 48)) + l3)).toNat) l4 S) fun r13 S14 =>
        nk_lt (nk_w (l10 + 1)) fun v16 =>
        rec86 l0 l2 l3 l4 l5 l6 r13 v16 S14
        else none
      else
        ja_X4_usesField_b143 rec86 l0 l2 l3 l4 l5 l6 l8 l10 S
theorem ja_X4_usesField_b86_ok (zs : List Int32) {rec86 : Nat → Int → Int → Int → Int → Int → Int → Int → nk_S → Option (Int × nk_S)} (hrec86 : ∀ (l0 : Nat) (l2 : Int) (l3 : Int) (l4 : Int) (l5 : Int) (l6 : Int) (l8 : Int) (l10 : Int) (S : nk_S) (R : Int × nk_S), nk_cl ja_Tt l0 = some 4 → rec86 l0 l2 l3 l4 l5 l6 l8 l10 S = some R → nk_K ja_Tt mi_Γ (mi_ev zs) 1 347 86 [(0, nk_r l0), (2, nk_i l2), (3, nk_i l3), (4, nk_i l4), (5, nk_i l5), (6, nk_l l6), (8, nk_l l8), (10, nk_i l10)] [] S R) : ∀ (l0 : Nat) (l2 : Int) (l3 : Int) (l4 : Int) (l5 : Int) (l6 : Int) (l8 : Int) (l10 : Int) (S : nk_S) (R : Int × nk_S), nk_cl ja_Tt l0 = some 4 → ja_X4_usesField_b86 rec86 l0 l2 l3 l4 l5 l6 l8 l10 S = some R → nk_K ja_Tt mi_Γ (mi_ev zs) 1 347 86 [(0, nk_r l0), (2, nk_i l2), (3, nk_i l3), (4, nk_i l4), (5, nk_i l5), (6, nk_l l6), (8, nk_l l8), (10, nk_i l10)] [] S R := by
  intro l0 l2 l3 l4 l5 l6 l8 l10 S R t_l0 hr
  unfold ja_X4_usesField_b86 at hr
  refine nk_p (i := .iload 10) (len := 2) (pc' := 88) mJ_347 (by decide +kernel) (ns_iload 7 rfl) rfl ?_
  refine nk_p (i := .aload_n 0) (len := 1) (pc' := 89) mJ_347 (by decide +kernel) (ns_aload_n 0 rfl rfl) rfl ?_
  refine nk_getM (cj := 3) (z := 0) (x := 42) (len := 3) (ci := 4) (k := 0) (pc' := 92) ja_okT mJ_347 (by decide +kernel) (by decide +kernel) (by decide +kernel) t_l0 rfl (fun t1 => ?_)
  refine nk_getI (y := (0, 0)) (x := 129) (len := 3) (ci := 3) (k := 10) (pc' := 95) ja_okT mJ_347 (by decide +kernel) (by decide +kernel) (by decide +kernel) t1 rfl ?_
  refine nk_icmp (c := .ge) (off := 90) (len := 3) (t := 185) (pc' := 98) mJ_347 (by decide +kernel) (by decide +kernel) rfl (fun hc => ?_) (fun hc => ?_)
  · have hr := nk_ifp (c := (S.1 (S.2 l0 0) 10) ≤ l10) hc hr
    refine nk_p (i := .iload_n 2) (len := 1) (pc' := 186) mJ_347 (by decide +kernel) (ns_iload_n 1 rfl rfl) rfl ?_
    refine nk_p (i := .bipush 35) (len := 2) (pc' := 188) mJ_347 (by decide +kernel) (ns_bipush (c := 35) (by decide +kernel)) rfl ?_
    refine nk_icmp (c := .ne) (off := 13) (len := 3) (t := 201) (pc' := 191) mJ_347 (by decide +kernel) (by decide +kernel) rfl (fun hc => ?_) (fun hc => ?_)
    · have hr := nk_ifn (c := l2 = 35) hc hr
      refine nk_p (i := .aload_n 0) (len := 1) (pc' := 202) mJ_347 (by decide +kernel) (ns_aload_n 0 rfl rfl) rfl ?_
      refine nk_getC (f := (2, 7, 0)) (x := 12) (len := 3) (ci := 4) (k := 2) (pc' := 205) ja_okT mJ_347 (by decide +kernel) (by decide +kernel) (by decide +kernel) (by decide) t_l0 rfl ?_
      have t2 : nk_cl ja_Tt (ja_c l0 2) = some 7 := nk_tc (y := 0) ja_okT t_l0 (by decide +kernel)
      refine nk_p (i := .iconst 2) (len := 1) (pc' := 206) mJ_347 (by decide +kernel) (ns_iconst (c := 2) (by decide +kernel)) rfl ?_
      obtain ⟨r3, S4, h5, hr⟩ := nk_bde hr
      refine nk_callV (ci := 7) (n := 1) (x := 321) (len := 3) (j' := 401) (q' := 0) (r := r3) (S' := S4) (L2 := [(0, nk_r (ja_c l0 2)), (1, nk_i 2)]) (rest := []) (st' := []) (pc' := 209) mJ_347 (by decide +kernel) (by decide +kernel) rfl rfl t2 (Nat.le_of_ble_eq_true rfl) mJ_401 (Nat.le_of_ble_eq_true rfl) rfl (ja_X7_drop_ok zs _ _ _ _ t2 h5) rfl ?_
      refine nk_p (i := .iconst 1) (len := 1) (pc' := 210) mJ_347 (by decide +kernel) (ns_iconst (c := 1) (by decide +kernel)) rfl ?_
      cases hr
      exact nk_iret (ty := .boolean) (len := 1) mJ_347 (by decide +kernel) rfl (nk_nar_z (by decide))
    · have hr := nk_ifp (c := l2 = 35) (Decidable.of_not_not hc) hr
      refine nk_p (i := .aload_n 0) (len := 1) (pc' := 192) mJ_347 (by decide +kernel) (ns_aload_n 0 rfl rfl) rfl ?_
      refine nk_p (i := .iconst 1) (len := 1) (pc' := 193) mJ_347 (by decide +kernel) (ns_iconst (c := 1) (by decide +kernel)) rfl ?_
      refine nk_p (i := .lload 8) (len := 2) (pc' := 195) mJ_347 (by decide +kernel) (ns_lload 6 rfl) rfl ?_
      refine nk_p (i := .iload 4) (len := 2) (pc' := 197) mJ_347 (by decide +kernel) (ns_iload 3 rfl) rfl ?_
      obtain ⟨r6, S7, h8, hr⟩ := nk_bde hr
      refine nk_callV (ci := 4) (n := 3) (x := 464) (len := 3) (j' := 323) (q' := 1) (r := r6) (S' := S7) (L2 := [(0, nk_r l0), (1, nk_i 1), (2, nk_l l8), (4, nk_i l4)]) (rest := []) (st' := [nk_i r6]) (pc' := 200) mJ_347 (by decide +kernel) (by decide +kernel) rfl rfl t_l0 (Nat.le_of_ble_eq_true rfl) mJ_323 (Nat.le_of_ble_eq_true rfl) rfl (ja_X4_leavesValue_ok zs _ _ _ _ _ _ t_l0 h8) rfl ?_
      obtain ⟨h9, hr⟩ := nk_cke hr
      cases hr
      exact nk_iret (ty := .boolean) (len := 1) mJ_347 (by decide +kernel) rfl (nk_nar_z h9)
  · have hr := nk_ifn (c := (S.1 (S.2 l0 0) 10) ≤ l10) hc hr
    refine nk_p (i := .lload 6) (len := 2) (pc' := 100) mJ_347 (by decide +kernel) (ns_lload 5 rfl) rfl ?_
    refine nk_p (i := .iload 10) (len := 2) (pc' := 102) mJ_347 (by decide +kernel) (ns_iload 7 rfl) rfl ?_
    refine nk_p (i := .lushr) (len := 1) (pc' := 103) mJ_347 (by decide +kernel) ns_lushr rfl ?_
    refine nk_p (i := .lconst 1) (len := 1) (pc' := 104) mJ_347 (by decide +kernel) (ns_lconst (c := 1) (by decide +kernel)) rfl ?_
    refine nk_p (i := .land) (len := 1) (pc' := 105) mJ_347 (by decide +kernel) ns_land rfl ?_
    refine nk_p (i := .lconst 0) (len := 1) (pc' := 106) mJ_347 (by decide +kernel) (ns_lconst (c := 0) (by decide +kernel)) rfl ?_
    refine nk_p (i := .lcmp) (len := 1) (pc' := 107) mJ_347 (by decide +kernel) ns_lcmp rfl ?_
    refine nk_lcond (c := .eq) (off := 36) (len := 3) (t := 143) (pc' := 110) mJ_347 (by decide +kernel) (by decide +kernel) rfl (fun hc => ?_) (fun hc => ?_)
    · have hr := nk_ifp (c := (nk_land (nk_lushr l6 l10) 1) = 0) hc hr
      exact ja_X4_usesField_b143_ok zs hrec86 _ _ _ _ _ _ _ _ _ _ t_l0 hr
    · have hr := nk_ifn (c := (nk_land (nk_lushr l6 l10) 1) = 0) hc hr
      refine nk_p (i := .iload_n 2) (len := 1) (pc' := 111) mJ_347 (by decide +kernel) (ns_iload_n 1 rfl rfl) rfl ?_
      refine nk_p (i := .bipush 35) (len := 2) (pc' := 113) mJ_347 (by decide +kernel) (ns_bipush (c := 35) (by decide +kernel)) rfl ?_
      refine nk_icmp (c := .ne) (off := 30) (len := 3) (t := 143) (pc' := 116) mJ_347 (by decide +kernel) (by decide +kernel) rfl (fun hc => ?_) (fun hc => ?_)
      · have hr := nk_ifn (c := l2 = 35) hc hr
        exact ja_X4_usesField_b143_ok zs hrec86 _ _ _ _ _ _ _ _ _ _ t_l0 hr
      · have hr := nk_ifp (c := l2 = 35) (Decidable.of_not_not hc) hr
        refine nk_p (i := .lload 8) (len := 2) (pc' := 118) mJ_347 (by decide +kernel) (ns_lload 6 rfl) rfl ?_
        refine nk_p (i := .aload_n 0) (len := 1) (pc' := 119) mJ_347 (by decide +kernel) (ns_aload_n 0 rfl rfl) rfl ?_
        refine nk_getC (f := (2, 8, 0)) (x := 21) (len := 3) (ci := 4) (k := 3) (pc' := 122) ja_okT mJ_347 (by decide +kernel) (by decide +kernel) (by decide +kernel) (by decide) t_l0 rfl ?_
        have t10 : nk_cl ja_Tt (ja_c l0 3) = some 8 := nk_tc (y := 0) ja_okT t_l0 (by decide +kernel)
        refine nk_getC (f := (4, 2, 2304)) (x := 468) (len := 3) (ci := 8) (k := 0) (pc' := 125) ja_okT mJ_347 (by decide +kernel) (by decide +kernel) (by decide +kernel) (by decide) t10 rfl ?_
        have t11 : nk_ar ja_Tt (ja_c (ja_c l0 3) 0) = some (2, 2304) := nk_ta ja_okT t10 (by decide +kernel)
        refine nk_p (i := .iload 10) (len := 2) (pc' := 127) mJ_347 (by decide +kernel) (ns_iload 7 rfl) rfl ?_
        refine nk_p (i := .bipush 48) (len := 2) (pc' := 129) mJ_347 (by decide +kernel) (ns_bipush (c := 48) (by decide +kernel)) rfl ?_
        refine nk_p (i := .imul) (len := 1) (pc' := 130) mJ_347 (by decide +kernel) ns_imul rfl ?_
        refine nk_p (i := .iload_n 3) (len := 1) (pc' := 131) mJ_347 (by decide +kernel) (ns_iload_n 2 rfl rfl) rfl ?_
        refine nk_p (i := .iadd) (len := 1) (pc' := 132) mJ_347 (by decide +kernel) ns_iadd rfl ?_
        obtain ⟨h12, hr⟩ := nk_cke hr
        refine nk_lald (len := 1) (N := 2304) (pc' := 133) mJ_347 (by decide +kernel) t11 h12.1 h12.2 rfl rfl ?_
        refine nk_p (i := .iload 4) (len := 2) (pc' := 135) mJ_347 (by decide +kernel) (ns_iload 3 rfl) rfl ?_
        obtain ⟨r13, S14, h15, hr⟩ := nk_bde hr
        refine nk_callS (ci := 0) (n := 3) (x := 461) (len := 3) (j' := 420) (q' := 2) (r := r13) (S' := S14) (L2 := [(0, nk_l l8), (2, nk_l (S.1 (ja_c (ja_c l0 3) 0) (nk_w ((nk_w (l10 * 48)) + l3)).toNat)), (4, nk_i l4)]) (rest := []) (st' := [nk_l r13]) (pc' := 138) mJ_347 (by decide +kernel) (by decide +kernel) (Nat.le_of_ble_eq_true rfl) rfl rfl (Nat.le_of_ble_eq_true rfl) mJ_420 (Nat.le_of_ble_eq_true rfl) ja_Tpos rfl (ja_X8_join_ok zs _ _ _ _ _ h15) rfl ?_
        refine nk_p (i := .lstore 8) (len := 2) (pc' := 140) mJ_347 (by decide +kernel) (ns_lstore (L' := [(8, nk_l r13), (0, nk_r l0), (2, nk_i l2), (3, nk_i l3), (4, nk_i l4), (5, nk_i l5), (6, nk_l l6), (10, nk_i l10)]) rfl rfl (by decide +kernel)) rfl ?_
        refine nk_p (i := .goto 39) (len := 3) (pc' := 179) mJ_347 (by decide +kernel) (ns_goto (by decide +kernel)) rfl ?_
        obtain ⟨v16, h17, hr⟩ := nk_lte hr
        refine nk_p (i := .iinc 10 1) (len := 3) (pc' := 182) mJ_347 (by decide +kernel) (ns_iinc (c := 1) (L' := [(10, nk_i v16), (8, nk_l r13), (0, nk_r l0), (2, nk_i l2), (3, nk_i l3), (4, nk_i l4), (5, nk_i l5), (6, nk_l l6)]) 7 rfl (by decide +kernel) h17 rfl (by decide +kernel)) rfl ?_
        refine nk_p (i := .goto (-96)) (len := 3) (pc' := 86) mJ_347 (by decide +kernel) (ns_goto (by decide +kernel)) rfl ?_
        refine nk_sub [2, 3, 4, 5, 6, 7, 1, 0] (L' := [(0, nk_r l0), (2, nk_i l2), (3, nk_i l3), (4, nk_i l4), (5, nk_i l5), (6, nk_l l6), (8, nk_l r13), (10, nk_i v16)]) rfl ?_
        exact hrec86 _ _ _ _ _ _ _ _ _ _ t_l0 hr
noncomputable def ja_X4_usesField_L86 : Nat → Nat → Int → Int → Int → Int → Int → Int → Int → nk_S → Option (Int × nk_S)
  | 0, _, _, _, _, _, _, _, _, _ => none
  | n + 1, l0, l2, l3, l4, l5, l6, l8, l10, S => ja_X4_usesField_b86 (ja_X4_usesField_L86 n) l0 l2 l3 l4 l5 l6 l8 l10 S
theorem ja_X4_usesField_L86_ok (zs : List Int32) : ∀ n : Nat, ∀ (l0 : Nat) (l2 : Int) (l3 : Int) (l4 : Int) (l5 : Int) (l6 : Int) (l8 : Int) (l10 : Int) (S : nk_S) (R : Int × nk_S), nk_cl ja_Tt l0 = some 4 → ja_X4_usesField_L86 n l0 l2 l3 l4 l5 l6 l8 l10 S = some R → nk_K ja_Tt mi_Γ (mi_ev zs) 1 347 86 [(0, nk_r l0), (2, nk_i l2), (3, nk_i l3), (4, nk_i l4), (5, nk_i l5), (6, nk_l l6), (8, nk_l l8), (10, nk_i l10)] [] S R := by
  intro n
  induction n with
  | zero => intro _ _ _ _ _ _ _ _ _ _ _ hr; cases hr
  | succ n ih => intro l0 l2 l3 l4 l5 l6 l8 l10 S R t_l0 hr; exact ja_X4_usesField_b86_ok zs ih l0 l2 l3 l4 l5 l6 l8 l10 S R t_l0 hr
noncomputable def ja_X4_usesField_b48 (l0 : Nat) (l2 : Int) (l3 : Int) (l4 : Int) (s0 : Nat) (s1 : Int) (S : nk_S) : Option (Int × nk_S) :=
  nk_bd (ja_X7_fromTop s0 s1 S) fun r1 S2 =>
  nk_bd (ja_X4_dereference l0 r1 S2) fun r4 S5 =>
  if r4 = 0 then
    some (0, S5)
  else
    if 0 ≤ r1 ∧ r1 < 20 then
    nk_lt (S5.1 (ja_c (ja_c l0 2) 4) r1.toNat) fun v10 =>
    nk_bd (ja_X8_nothing l4 S5) fun r12 S13 =>
    ja_X4_usesField_L86 nk_big l0 l2 l3 l4 r1 v10 r12 0 S13
    else none
theorem ja_X4_usesField_b48_ok (zs : List Int32) : ∀ (l0 : Nat) (l2 : Int) (l3 : Int) (l4 : Int) (s0 : Nat) (s1 : Int) (S : nk_S) (R : Int × nk_S), nk_cl ja_Tt l0 = some 4 → nk_cl ja_Tt s0 = some 7 → ja_X4_usesField_b48 l0 l2 l3 l4 s0 s1 S = some R → nk_K ja_Tt mi_Γ (mi_ev zs) 1 347 48 [(0, nk_r l0), (2, nk_i l2), (3, nk_i l3), (4, nk_i l4)] [nk_i s1, nk_r s0] S R := by
  intro l0 l2 l3 l4 s0 s1 S R t_l0 t_s0 hr
  unfold ja_X4_usesField_b48 at hr
  obtain ⟨r1, S2, h3, hr⟩ := nk_bde hr
  refine nk_callV (ci := 7) (n := 1) (x := 290) (len := 3) (j' := 403) (q' := 1) (r := r1) (S' := S2) (L2 := [(0, nk_r s0), (1, nk_i s1)]) (rest := []) (st' := [nk_i r1]) (pc' := 51) mJ_347 (by decide +kernel) (by decide +kernel) rfl rfl t_s0 (Nat.le_of_ble_eq_true rfl) mJ_403 (Nat.le_of_ble_eq_true rfl) rfl (ja_X7_fromTop_ok zs _ _ _ _ t_s0 h3) rfl ?_
  refine nk_p (i := .istore 5) (len := 2) (pc' := 53) mJ_347 (by decide +kernel) (ns_istore (L' := [(5, nk_i r1), (0, nk_r l0), (2, nk_i l2), (3, nk_i l3), (4, nk_i l4)]) rfl rfl (by decide +kernel)) rfl ?_
  refine nk_p (i := .aload_n 0) (len := 1) (pc' := 54) mJ_347 (by decide +kernel) (ns_aload_n 1 rfl rfl) rfl ?_
  refine nk_p (i := .iload 5) (len := 2) (pc' := 56) mJ_347 (by decide +kernel) (ns_iload 0 rfl) rfl ?_
  obtain ⟨r4, S5, h6, hr⟩ := nk_bde hr
  refine nk_callV (ci := 4) (n := 1) (x := 431) (len := 3) (j' := 316) (q' := 1) (r := r4) (S' := S5) (L2 := [(0, nk_r l0), (1, nk_i r1)]) (rest := []) (st' := [nk_i r4]) (pc' := 59) mJ_347 (by decide +kernel) (by decide +kernel) rfl rfl t_l0 (Nat.le_of_ble_eq_true rfl) mJ_316 (Nat.le_of_ble_eq_true rfl) rfl (ja_X4_dereference_ok zs _ _ _ _ t_l0 h6) rfl ?_
  refine nk_icond (c := .ne) (off := 5) (len := 3) (t := 64) (pc' := 62) mJ_347 (by decide +kernel) (by decide +kernel) rfl (fun hc => ?_) (fun hc => ?_)
  · have hr := nk_ifn (c := r4 = 0) hc hr
    refine nk_p (i := .aload_n 0) (len := 1) (pc' := 65) mJ_347 (by decide +kernel) (ns_aload_n 1 rfl rfl) rfl ?_
    refine nk_getC (f := (2, 7, 0)) (x := 12) (len := 3) (ci := 4) (k := 2) (pc' := 68) ja_okT mJ_347 (by decide +kernel) (by decide +kernel) (by decide +kernel) (by decide) t_l0 rfl ?_
    have t7 : nk_cl ja_Tt (ja_c l0 2) = some 7 := nk_tc (y := 0) ja_okT t_l0 (by decide +kernel)
    refine nk_getC (f := (4, 2, 20)) (x := 299) (len := 3) (ci := 7) (k := 4) (pc' := 71) ja_okT mJ_347 (by decide +kernel) (by decide +kernel) (by decide +kernel) (by decide) t7 rfl ?_
    have t8 : nk_ar ja_Tt (ja_c (ja_c l0 2) 4) = some (2, 20) := nk_ta ja_okT t7 (by decide +kernel)
    refine nk_p (i := .iload 5) (len := 2) (pc' := 73) mJ_347 (by decide +kernel) (ns_iload 0 rfl) rfl ?_
    obtain ⟨h9, hr⟩ := nk_cke hr
    refine nk_lald (len := 1) (N := 20) (pc' := 74) mJ_347 (by decide +kernel) t8 h9.1 h9.2 rfl rfl ?_
    obtain ⟨v10, h11, hr⟩ := nk_lte hr
    refine nk_p (i := .lstore 6) (len := 2) (pc' := 76) mJ_347 (by decide +kernel) (ns_lstore (L' := [(6, nk_l v10), (5, nk_i r1), (0, nk_r l0), (2, nk_i l2), (3, nk_i l3), (4, nk_i l4)]) h11 rfl (by decide +kernel)) rfl ?_
    refine nk_p (i := .iload 4) (len := 2) (pc' := 78) mJ_347 (by decide +kernel) (ns_iload 5 rfl) rfl ?_
    obtain ⟨r12, S13, h14, hr⟩ := nk_bde hr
    refine nk_callS (ci := 0) (n := 1) (x := 454) (len := 3) (j' := 421) (q' := 2) (r := r12) (S' := S13) (L2 := [(0, nk_i l4)]) (rest := []) (st' := [nk_l r12]) (pc' := 81) mJ_347 (by decide +kernel) (by decide +kernel) (Nat.le_of_ble_eq_true rfl) rfl rfl (Nat.le_of_ble_eq_true rfl) mJ_421 (Nat.le_of_ble_eq_true rfl) ja_Tpos rfl (ja_X8_nothing_ok zs _ _ _ h14) rfl ?_
    refine nk_p (i := .lstore 8) (len := 2) (pc' := 83) mJ_347 (by decide +kernel) (ns_lstore (L' := [(8, nk_l r12), (6, nk_l v10), (5, nk_i r1), (0, nk_r l0), (2, nk_i l2), (3, nk_i l3), (4, nk_i l4)]) rfl rfl (by decide +kernel)) rfl ?_
    refine nk_p (i := .iconst 0) (len := 1) (pc' := 84) mJ_347 (by decide +kernel) (ns_iconst (c := 0) (by decide +kernel)) rfl ?_
    refine nk_p (i := .istore 10) (len := 2) (pc' := 86) mJ_347 (by decide +kernel) (ns_istore (L' := [(10, nk_i 0), (8, nk_l r12), (6, nk_l v10), (5, nk_i r1), (0, nk_r l0), (2, nk_i l2), (3, nk_i l3), (4, nk_i l4)]) rfl rfl (by decide +kernel)) rfl ?_
    refine nk_sub [4, 5, 6, 7, 3, 2, 1, 0] (L' := [(0, nk_r l0), (2, nk_i l2), (3, nk_i l3), (4, nk_i l4), (5, nk_i r1), (6, nk_l v10), (8, nk_l r12), (10, nk_i 0)]) rfl ?_
    exact ja_X4_usesField_L86_ok zs nk_big _ _ _ _ _ _ _ _ _ _ t_l0 hr
  · have hr := nk_ifp (c := r4 = 0) (Decidable.of_not_not hc) hr
    refine nk_p (i := .iconst 0) (len := 1) (pc' := 63) mJ_347 (by decide +kernel) (ns_iconst (c := 0) (by decide +kernel)) rfl ?_
    cases hr
    exact nk_iret (ty := .boolean) (len := 1) mJ_347 (by decide +kernel) rfl (nk_nar_z (by decide))
noncomputable def ja_X4_usesField_b31 (l0 : Nat) (l2 : Int) (l3 : Int) (s0 : Int) (S : nk_S) : Option (Int × nk_S) :=
  if l2 = 35 then
    ja_X4_usesField_b48 l0 l2 l3 s0 (ja_c l0 2) 0 S
  else
    ja_X4_usesField_b48 l0 l2 l3 s0 (ja_c l0 2) 1 S
theorem ja_X4_usesField_b31_ok (zs : List Int32) : ∀ (l0 : Nat) (l2 : Int) (l3 : Int) (s0 : Int) (S : nk_S) (R : Int × nk_S), nk_cl ja_Tt l0 = some 4 → ja_X4_usesField_b31 l0 l2 l3 s0 S = some R → nk_K ja_Tt mi_Γ (mi_ev zs) 1 347 31 [(0, nk_r l0), (2, nk_i l2), (3, nk_i l3)] [nk_i s0] S R := by
  intro l0 l2 l3 s0 S R t_l0 hr
  unfold ja_X4_usesField_b31 at hr
  refine nk_p (i := .istore 4) (len := 2) (pc' := 33) mJ_347 (by decide +kernel) (ns_istore (L' := [(4, nk_i s0), (0, nk_r l0), (2, nk_i l2), (3, nk_i l3)]) rfl rfl (by decide +kernel)) rfl ?_
  refine nk_p (i := .aload_n 0) (len := 1) (pc' := 34) mJ_347 (by decide +kernel) (ns_aload_n 1 rfl rfl) rfl ?_
  refine nk_getC (f := (2, 7, 0)) (x := 12) (len := 3) (ci := 4) (k := 2) (pc' := 37) ja_okT mJ_347 (by decide +kernel) (by decide +kernel) (by decide +kernel) (by decide) t_l0 rfl ?_
  have t1 : nk_cl ja_Tt (ja_c l0 2) = some 7 := nk_tc (y := 0) ja_okT t_l0 (by decide +kernel)
  refine nk_p (i := .iload_n 2) (len := 1) (pc' := 38) mJ_347 (by decide +kernel) (ns_iload_n 2 rfl rfl) rfl ?_
  refine nk_p (i := .bipush 35) (len := 2) (pc' := 40) mJ_347 (by decide +kernel) (ns_bipush (c := 35) (by decide +kernel)) rfl ?_
  refine nk_icmp (c := .ne) (off := 7) (len := 3) (t := 47) (pc' := 43) mJ_347 (by decide +kernel) (by decide +kernel) rfl (fun hc => ?_) (fun hc => ?_)
  · have hr := nk_ifn (c := l2 = 35) hc hr
    refine nk_p (i := .iconst 1) (len := 1) (pc' := 48) mJ_347 (by decide +kernel) (ns_iconst (c := 1) (by decide +kernel)) rfl ?_
    refine nk_sub [1, 2, 3, 0] (L' := [(0, nk_r l0), (2, nk_i l2), (3, nk_i l3), (4, nk_i s0)]) rfl ?_
    exact ja_X4_usesField_b48_ok zs _ _ _ _ _ _ _ _ t_l0 t1 hr
  · have hr := nk_ifp (c := l2 = 35) (Decidable.of_not_not hc) hr
    refine nk_p (i := .iconst 0) (len := 1) (pc' := 44) mJ_347 (by decide +kernel) (ns_iconst (c := 0) (by decide +kernel)) rfl ?_
    refine nk_p (i := .goto 4) (len := 3) (pc' := 48) mJ_347 (by decide +kernel) (ns_goto (by decide +kernel)) rfl ?_
    refine nk_sub [1, 2, 3, 0] (L' := [(0, nk_r l0), (2, nk_i l2), (3, nk_i l3), (4, nk_i s0)]) rfl ?_
    exact ja_X4_usesField_b48_ok zs _ _ _ _ _ _ _ _ t_l0 t1 hr
noncomputable def ja_X4_usesField (l0 : Nat) (l1 : Int) (l2 : Int) (S : nk_S) : Option (Int × nk_S) :=
  if 0 ≤ l1 ∧ l1 < 1024 then
  nk_lt (S.1 (ja_c (S.2 l0 0) 5) l1.toNat) fun v4 =>
  if 0 ≤ v4 ∧ v4 < 48 then
  if (S.1 (ja_c (ja_c (S.2 l0 0) 0) 7) v4.toNat) = 1 then
    ja_X4_usesField_b31 l0 l2 v4 1 S
  else
    ja_X4_usesField_b31 l0 l2 v4 0 S
  else none
  else none
theorem ja_X4_usesField_ok (zs : List Int32) : ∀ (l0 : Nat) (l1 : Int) (l2 : Int) (S : nk_S) (R : Int × nk_S), nk_cl ja_Tt l0 = some 4 → ja_X4_usesField l0 l1 l2 S = some R → nk_K ja_Tt mi_Γ (mi_ev zs) 1 347 0 [(0, nk_r l0), (1, nk_i l1), (2, nk_i l2)] [] S R := by
  intro l0 l1 l2 S R t_l0 hr
  unfold ja_X4_usesField at hr
  refine nk_p (i := .aload_n 0) (len := 1) (pc' := 1) mJ_347 (by decide +kernel) (ns_aload_n 0 rfl rfl) rfl ?_
  refine nk_getM (cj := 3) (z := 0) (x := 42) (len := 3) (ci := 4) (k := 0) (pc' := 4) ja_okT mJ_347 (by decide +kernel) (by decide +kernel) (by decide +kernel) t_l0 rfl (fun t1 => ?_)
  refine nk_getC (f := (4, 1, 1024)) (x := 113) (len := 3) (ci := 3) (k := 5) (pc' := 7) ja_okT mJ_347 (by decide +kernel) (by decide +kernel) (by decide +kernel) (by decide) t1 rfl ?_
  have t2 : nk_ar ja_Tt (ja_c (S.2 l0 0) 5) = some (1, 1024) := nk_ta ja_okT t1 (by decide +kernel)
  refine nk_p (i := .iload_n 1) (len := 1) (pc' := 8) mJ_347 (by decide +kernel) (ns_iload_n 1 rfl rfl) rfl ?_
  obtain ⟨h3, hr⟩ := nk_cke hr
  refine nk_iald (len := 1) (N := 1024) (pc' := 9) mJ_347 (by decide +kernel) t2 h3.1 h3.2 rfl rfl ?_
  obtain ⟨v4, h5, hr⟩ := nk_lte hr
  refine nk_p (i := .istore_n 3) (len := 1) (pc' := 10) mJ_347 (by decide +kernel) (ns_istore_n (L' := [(3, nk_i v4), (0, nk_r l0), (1, nk_i l1), (2, nk_i l2)]) h5 rfl rfl (by decide +kernel)) rfl ?_
  refine nk_p (i := .aload_n 0) (len := 1) (pc' := 11) mJ_347 (by decide +kernel) (ns_aload_n 1 rfl rfl) rfl ?_
  refine nk_getM (cj := 3) (z := 0) (x := 42) (len := 3) (ci := 4) (k := 0) (pc' := 14) ja_okT mJ_347 (by decide +kernel) (by decide +kernel) (by decide +kernel) t_l0 rfl (fun t6 => ?_)
  refine nk_getC (f := (2, 1, 0)) (x := 53) (len := 3) (ci := 3) (k := 0) (pc' := 17) ja_okT mJ_347 (by decide +kernel) (by decide +kernel) (by decide +kernel) (by decide) t6 rfl ?_
  have t7 : nk_cl ja_Tt (ja_c (S.2 l0 0) 0) = some 1 := nk_tc (y := 0) ja_okT t6 (by decide +kernel)
  refine nk_getC (f := (4, 1, 48)) (x := 404) (len := 3) (ci := 1) (k := 7) (pc' := 20) ja_okT mJ_347 (by decide +kernel) (by decide +kernel) (by decide +kernel) (by decide) t7 rfl ?_
  have t8 : nk_ar ja_Tt (ja_c (ja_c (S.2 l0 0) 0) 7) = some (1, 48) := nk_ta ja_okT t7 (by decide +kernel)
  refine nk_p (i := .iload_n 3) (len := 1) (pc' := 21) mJ_347 (by decide +kernel) (ns_iload_n 0 rfl rfl) rfl ?_
  obtain ⟨h9, hr⟩ := nk_cke hr
  refine nk_iald (len := 1) (N := 48) (pc' := 22) mJ_347 (by decide +kernel) t8 h9.1 h9.2 rfl rfl ?_
  refine nk_p (i := .iconst 1) (len := 1) (pc' := 23) mJ_347 (by decide +kernel) (ns_iconst (c := 1) (by decide +kernel)) rfl ?_
  refine nk_icmp (c := .ne) (off := 7) (len := 3) (t := 30) (pc' := 26) mJ_347 (by decide +kernel) (by decide +kernel) rfl (fun hc => ?_) (fun hc => ?_)
  · have hr := nk_ifn (c := (S.1 (ja_c (ja_c (S.2 l0 0) 0) 7) v4.toNat) = 1) hc hr
    refine nk_p (i := .iconst 0) (len := 1) (pc' := 31) mJ_347 (by decide +kernel) (ns_iconst (c := 0) (by decide +kernel)) rfl ?_
    refine nk_sub [1, 3, 0] (L' := [(0, nk_r l0), (2, nk_i l2), (3, nk_i v4)]) rfl ?_
    exact ja_X4_usesField_b31_ok zs _ _ _ _ _ _ t_l0 hr
  · have hr := nk_ifp (c := (S.1 (ja_c (ja_c (S.2 l0 0) 0) 7) v4.toNat) = 1) (Decidable.of_not_not hc) hr
    refine nk_p (i := .iconst 1) (len := 1) (pc' := 27) mJ_347 (by decide +kernel) (ns_iconst (c := 1) (by decide +kernel)) rfl ?_
    refine nk_p (i := .goto 4) (len := 3) (pc' := 31) mJ_347 (by decide +kernel) (ns_goto (by decide +kernel)) rfl ?_
    refine nk_sub [1, 3, 0] (L' := [(0, nk_r l0), (2, nk_i l2), (3, nk_i v4)]) rfl ?_
    exact ja_X4_usesField_b31_ok zs _ _ _ _ _ _ t_l0 hr
/-! SafeCode$Proof casts (I)Z -/
noncomputable def ja_X4_casts_b49 (l0 : Nat) (l2 : Int) (l3 : Int) (S : nk_S) : Option (Int × nk_S) :=
  if 0 ≤ l2 ∧ l2 < 20 then
  nk_lt (nk_wi S (ja_c (ja_c l0 2) 4) l2.toNat l3) fun S4 =>
  if l3 = 0 then
    some (0, S4)
  else
    nk_bd (ja_X7_keepSites (ja_c l0 2) l2 l3 S4) fun r6 S7 =>
    if r6 = 0 then
      some (0, S7)
    else
      some (1, S7)
  else none
theorem ja_X4_casts_b49_ok (zs : List Int32) : ∀ (l0 : Nat) (l2 : Int) (l3 : Int) (S : nk_S) (R : Int × nk_S), nk_cl ja_Tt l0 = some 4 → ja_X4_casts_b49 l0 l2 l3 S = some R → nk_K ja_Tt mi_Γ (mi_ev zs) 1 314 49 [(0, nk_r l0), (2, nk_i l2), (3, nk_l l3)] [] S R := by
  intro l0 l2 l3 S R t_l0 hr
  unfold ja_X4_casts_b49 at hr
  refine nk_p (i := .aload_n 0) (len := 1) (pc' := 50) mJ_314 (by decide +kernel) (ns_aload_n 0 rfl rfl) rfl ?_
  refine nk_getC (f := (2, 7, 0)) (x := 12) (len := 3) (ci := 4) (k := 2) (pc' := 53) ja_okT mJ_314 (by decide +kernel) (by decide +kernel) (by decide +kernel) (by decide) t_l0 rfl ?_
  have t1 : nk_cl ja_Tt (ja_c l0 2) = some 7 := nk_tc (y := 0) ja_okT t_l0 (by decide +kernel)
  refine nk_getC (f := (4, 2, 20)) (x := 299) (len := 3) (ci := 7) (k := 4) (pc' := 56) ja_okT mJ_314 (by decide +kernel) (by decide +kernel) (by decide +kernel) (by decide) t1 rfl ?_
  have t2 : nk_ar ja_Tt (ja_c (ja_c l0 2) 4) = some (2, 20) := nk_ta ja_okT t1 (by decide +kernel)
  refine nk_p (i := .iload_n 2) (len := 1) (pc' := 57) mJ_314 (by decide +kernel) (ns_iload_n 1 rfl rfl) rfl ?_
  refine nk_p (i := .lload_n 3) (len := 1) (pc' := 58) mJ_314 (by decide +kernel) (ns_lload_n 2 rfl rfl) rfl ?_
  obtain ⟨h3, hr⟩ := nk_cke hr
  obtain ⟨S4, h5, hr⟩ := nk_lte hr
  refine nk_last (len := 1) (N := 20) (pc' := 59) mJ_314 (by decide +kernel) t2 h3.1 h3.2 rfl rfl h5 ?_
  refine nk_p (i := .lload_n 3) (len := 1) (pc' := 60) mJ_314 (by decide +kernel) (ns_lload_n 2 rfl rfl) rfl ?_
  refine nk_p (i := .lconst 0) (len := 1) (pc' := 61) mJ_314 (by decide +kernel) (ns_lconst (c := 0) (by decide +kernel)) rfl ?_
  refine nk_p (i := .lcmp) (len := 1) (pc' := 62) mJ_314 (by decide +kernel) ns_lcmp rfl ?_
  refine nk_lcond (c := .eq) (off := 19) (len := 3) (t := 81) (pc' := 65) mJ_314 (by decide +kernel) (by decide +kernel) rfl (fun hc => ?_) (fun hc => ?_)
  · have hr := nk_ifp (c := l3 = 0) hc hr
    refine nk_p (i := .iconst 0) (len := 1) (pc' := 82) mJ_314 (by decide +kernel) (ns_iconst (c := 0) (by decide +kernel)) rfl ?_
    cases hr
    exact nk_iret (ty := .boolean) (len := 1) mJ_314 (by decide +kernel) rfl (nk_nar_z (by decide))
  · have hr := nk_ifn (c := l3 = 0) hc hr
    refine nk_p (i := .aload_n 0) (len := 1) (pc' := 66) mJ_314 (by decide +kernel) (ns_aload_n 0 rfl rfl) rfl ?_
    refine nk_getC (f := (2, 7, 0)) (x := 12) (len := 3) (ci := 4) (k := 2) (pc' := 69) ja_okT mJ_314 (by decide +kernel) (by decide +kernel) (by decide +kernel) (by decide) t_l0 rfl ?_
    refine nk_p (i := .iload_n 2) (len := 1) (pc' := 70) mJ_314 (by decide +kernel) (ns_iload_n 1 rfl rfl) rfl ?_
    refine nk_p (i := .lload_n 3) (len := 1) (pc' := 71) mJ_314 (by decide +kernel) (ns_lload_n 2 rfl rfl) rfl ?_
    obtain ⟨r6, S7, h8, hr⟩ := nk_bde hr
    refine nk_callV (ci := 7) (n := 2) (x := 348) (len := 3) (j' := 406) (q' := 1) (r := r6) (S' := S7) (L2 := [(0, nk_r (ja_c l0 2)), (1, nk_i l2), (2, nk_l l3)]) (rest := []) (st' := [nk_i r6]) (pc' := 74) mJ_314 (by decide +kernel) (by decide +kernel) rfl rfl t1 (Nat.le_of_ble_eq_true rfl) mJ_406 (Nat.le_of_ble_eq_true rfl) rfl (ja_X7_keepSites_ok zs _ _ _ _ _ t1 h8) rfl ?_
    refine nk_icond (c := .eq) (off := 7) (len := 3) (t := 81) (pc' := 77) mJ_314 (by decide +kernel) (by decide +kernel) rfl (fun hc => ?_) (fun hc => ?_)
    · have hr := nk_ifp (c := r6 = 0) hc hr
      refine nk_p (i := .iconst 0) (len := 1) (pc' := 82) mJ_314 (by decide +kernel) (ns_iconst (c := 0) (by decide +kernel)) rfl ?_
      cases hr
      exact nk_iret (ty := .boolean) (len := 1) mJ_314 (by decide +kernel) rfl (nk_nar_z (by decide))
    · have hr := nk_ifn (c := r6 = 0) hc hr
      refine nk_p (i := .iconst 1) (len := 1) (pc' := 78) mJ_314 (by decide +kernel) (ns_iconst (c := 1) (by decide +kernel)) rfl ?_
      refine nk_p (i := .goto 4) (len := 3) (pc' := 82) mJ_314 (by decide +kernel) (ns_goto (by decide +kernel)) rfl ?_
      cases hr
      exact nk_iret (ty := .boolean) (len := 1) mJ_314 (by decide +kernel) rfl (nk_nar_z (by decide))
noncomputable def ja_X4_casts (l0 : Nat) (l1 : Int) (S : nk_S) : Option (Int × nk_S) :=
  nk_bd (ja_X7_fromTop (ja_c l0 2) 0 S) fun r2 S3 =>
  if 0 ≤ r2 ∧ r2 < 20 then
  if 0 ≤ l1 ∧ l1 < 1024 then
  nk_lt (nk_land (S3.1 (ja_c (ja_c l0 2) 4) r2.toNat) (nk_lor (S3.1 (ja_c l0 6) l1.toNat) 4611686018427387904)) fun v9 =>
  if v9 = (S3.1 (ja_c (ja_c l0 2) 4) r2.toNat) then
    ja_X4_casts_b49 l0 r2 v9 S3
  else
    nk_bd (ja_X4_raise l0 4 S3) fun r11 S12 =>
    ja_X4_casts_b49 l0 r2 v9 S12
  else none
  else none
theorem ja_X4_casts_ok (zs : List Int32) : ∀ (l0 : Nat) (l1 : Int) (S : nk_S) (R : Int × nk_S), nk_cl ja_Tt l0 = some 4 → ja_X4_casts l0 l1 S = some R → nk_K ja_Tt mi_Γ (mi_ev zs) 1 314 0 [(0, nk_r l0), (1, nk_i l1)] [] S R := by
  intro l0 l1 S R t_l0 hr
  unfold ja_X4_casts at hr
  refine nk_p (i := .aload_n 0) (len := 1) (pc' := 1) mJ_314 (by decide +kernel) (ns_aload_n 0 rfl rfl) rfl ?_
  refine nk_getC (f := (2, 7, 0)) (x := 12) (len := 3) (ci := 4) (k := 2) (pc' := 4) ja_okT mJ_314 (by decide +kernel) (by decide +kernel) (by decide +kernel) (by decide) t_l0 rfl ?_
  have t1 : nk_cl ja_Tt (ja_c l0 2) = some 7 := nk_tc (y := 0) ja_okT t_l0 (by decide +kernel)
  refine nk_p (i := .iconst 0) (len := 1) (pc' := 5) mJ_314 (by decide +kernel) (ns_iconst (c := 0) (by decide +kernel)) rfl ?_
  obtain ⟨r2, S3, h4, hr⟩ := nk_bde hr
  refine nk_callV (ci := 7) (n := 1) (x := 290) (len := 3) (j' := 403) (q' := 1) (r := r2) (S' := S3) (L2 := [(0, nk_r (ja_c l0 2)), (1, nk_i 0)]) (rest := []) (st' := [nk_i r2]) (pc' := 8) mJ_314 (by decide +kernel) (by decide +kernel) rfl rfl t1 (Nat.le_of_ble_eq_true rfl) mJ_403 (Nat.le_of_ble_eq_true rfl) rfl (ja_X7_fromTop_ok zs _ _ _ _ t1 h4) rfl ?_
  refine nk_p (i := .istore_n 2) (len := 1) (pc' := 9) mJ_314 (by decide +kernel) (ns_istore_n (L' := [(2, nk_i r2), (0, nk_r l0), (1, nk_i l1)]) rfl rfl rfl (by decide +kernel)) rfl ?_
  refine nk_p (i := .aload_n 0) (len := 1) (pc' := 10) mJ_314 (by decide +kernel) (ns_aload_n 1 rfl rfl) rfl ?_
  refine nk_getC (f := (2, 7, 0)) (x := 12) (len := 3) (ci := 4) (k := 2) (pc' := 13) ja_okT mJ_314 (by decide +kernel) (by decide +kernel) (by decide +kernel) (by decide) t_l0 rfl ?_
  refine nk_getC (f := (4, 2, 20)) (x := 299) (len := 3) (ci := 7) (k := 4) (pc' := 16) ja_okT mJ_314 (by decide +kernel) (by decide +kernel) (by decide +kernel) (by decide) t1 rfl ?_
  have t5 : nk_ar ja_Tt (ja_c (ja_c l0 2) 4) = some (2, 20) := nk_ta ja_okT t1 (by decide +kernel)
  refine nk_p (i := .iload_n 2) (len := 1) (pc' := 17) mJ_314 (by decide +kernel) (ns_iload_n 0 rfl rfl) rfl ?_
  obtain ⟨h6, hr⟩ := nk_cke hr
  refine nk_lald (len := 1) (N := 20) (pc' := 18) mJ_314 (by decide +kernel) t5 h6.1 h6.2 rfl rfl ?_
  refine nk_p (i := .aload_n 0) (len := 1) (pc' := 19) mJ_314 (by decide +kernel) (ns_aload_n 1 rfl rfl) rfl ?_
  refine nk_getC (f := (4, 2, 1024)) (x := 33) (len := 3) (ci := 4) (k := 6) (pc' := 22) ja_okT mJ_314 (by decide +kernel) (by decide +kernel) (by decide +kernel) (by decide) t_l0 rfl ?_
  have t7 : nk_ar ja_Tt (ja_c l0 6) = some (2, 1024) := nk_ta ja_okT t_l0 (by decide +kernel)
  refine nk_p (i := .iload_n 1) (len := 1) (pc' := 23) mJ_314 (by decide +kernel) (ns_iload_n 2 rfl rfl) rfl ?_
  obtain ⟨h8, hr⟩ := nk_cke hr
  refine nk_lald (len := 1) (N := 1024) (pc' := 24) mJ_314 (by decide +kernel) t7 h8.1 h8.2 rfl rfl ?_
  refine nk_ldc2 (x := 297) (len := 3) (X := 4611686018427387904) (v := 4611686018427387904) (pc' := 27) mJ_314 (by decide +kernel) (by decide +kernel) (by decide +kernel) rfl ?_
  refine nk_p (i := .lor) (len := 1) (pc' := 28) mJ_314 (by decide +kernel) ns_lor rfl ?_
  refine nk_p (i := .land) (len := 1) (pc' := 29) mJ_314 (by decide +kernel) ns_land rfl ?_
  obtain ⟨v9, h10, hr⟩ := nk_lte hr
  refine nk_p (i := .lstore_n 3) (len := 1) (pc' := 30) mJ_314 (by decide +kernel) (ns_lstore_n (L' := [(3, nk_l v9), (2, nk_i r2), (0, nk_r l0), (1, nk_i l1)]) h10 rfl rfl (by decide +kernel)) rfl ?_
  refine nk_p (i := .lload_n 3) (len := 1) (pc' := 31) mJ_314 (by decide +kernel) (ns_lload_n 0 rfl rfl) rfl ?_
  refine nk_p (i := .aload_n 0) (len := 1) (pc' := 32) mJ_314 (by decide +kernel) (ns_aload_n 2 rfl rfl) rfl ?_
  refine nk_getC (f := (2, 7, 0)) (x := 12) (len := 3) (ci := 4) (k := 2) (pc' := 35) ja_okT mJ_314 (by decide +kernel) (by decide +kernel) (by decide +kernel) (by decide) t_l0 rfl ?_
  refine nk_getC (f := (4, 2, 20)) (x := 299) (len := 3) (ci := 7) (k := 4) (pc' := 38) ja_okT mJ_314 (by decide +kernel) (by decide +kernel) (by decide +kernel) (by decide) t1 rfl ?_
  refine nk_p (i := .iload_n 2) (len := 1) (pc' := 39) mJ_314 (by decide +kernel) (ns_iload_n 1 rfl rfl) rfl ?_
  refine nk_lald (len := 1) (N := 20) (pc' := 40) mJ_314 (by decide +kernel) t5 h6.1 h6.2 rfl rfl ?_
  refine nk_p (i := .lcmp) (len := 1) (pc' := 41) mJ_314 (by decide +kernel) ns_lcmp rfl ?_
  refine nk_lcond (c := .eq) (off := 8) (len := 3) (t := 49) (pc' := 44) mJ_314 (by decide +kernel) (by decide +kernel) rfl (fun hc => ?_) (fun hc => ?_)
  · have hr := nk_ifp (c := v9 = (S3.1 (ja_c (ja_c l0 2) 4) r2.toNat)) hc hr
    refine nk_sub [2, 1, 0] (L' := [(0, nk_r l0), (2, nk_i r2), (3, nk_l v9)]) rfl ?_
    exact ja_X4_casts_b49_ok zs _ _ _ _ _ t_l0 hr
  · have hr := nk_ifn (c := v9 = (S3.1 (ja_c (ja_c l0 2) 4) r2.toNat)) hc hr
    refine nk_p (i := .aload_n 0) (len := 1) (pc' := 45) mJ_314 (by decide +kernel) (ns_aload_n 2 rfl rfl) rfl ?_
    refine nk_p (i := .iconst 4) (len := 1) (pc' := 46) mJ_314 (by decide +kernel) (ns_iconst (c := 4) (by decide +kernel)) rfl ?_
    obtain ⟨r11, S12, h13, hr⟩ := nk_bde hr
    refine nk_callV (ci := 4) (n := 1) (x := 335) (len := 3) (j' := 338) (q' := 0) (r := r11) (S' := S12) (L2 := [(0, nk_r l0), (1, nk_i 4)]) (rest := []) (st' := []) (pc' := 49) mJ_314 (by decide +kernel) (by decide +kernel) rfl rfl t_l0 (Nat.le_of_ble_eq_true rfl) mJ_338 (Nat.le_of_ble_eq_true rfl) rfl (ja_X4_raise_ok zs _ _ _ _ t_l0 h13) rfl ?_
    refine nk_sub [2, 1, 0] (L' := [(0, nk_r l0), (2, nk_i r2), (3, nk_l v9)]) rfl ?_
    exact ja_X4_casts_b49_ok zs _ _ _ _ _ t_l0 hr
/-! SafeCode$Proof tellsType (I)Z -/
noncomputable def ja_X4_tellsType_b93 (l4 : Int) (l5 : Int) (s0 : Nat) (s1 : Int) (s2 : Int) (S : nk_S) : Option (Int × nk_S) :=
  nk_bd (ja_X5_pack s1 s2 S) fun r1 S2 =>
  nk_bd (ja_X7_push s0 r1 4503599627370496 S2) fun r4 S5 =>
  if l4 = 0 then
    if l5 = 0 then
      some (0, S5)
    else
      some (1, S5)
  else
    some (1, S5)
theorem ja_X4_tellsType_b93_ok (zs : List Int32) : ∀ (l4 : Int) (l5 : Int) (s0 : Nat) (s1 : Int) (s2 : Int) (S : nk_S) (R : Int × nk_S), nk_cl ja_Tt s0 = some 7 → ja_X4_tellsType_b93 l4 l5 s0 s1 s2 S = some R → nk_K ja_Tt mi_Γ (mi_ev zs) 1 342 93 [(4, nk_i l4), (5, nk_i l5)] [nk_i s2, nk_i s1, nk_r s0] S R := by
  intro l4 l5 s0 s1 s2 S R t_s0 hr
  unfold ja_X4_tellsType_b93 at hr
  obtain ⟨r1, S2, h3, hr⟩ := nk_bde hr
  refine nk_callS (ci := 0) (n := 2) (x := 293) (len := 3) (j' := 365) (q' := 2) (r := r1) (S' := S2) (L2 := [(0, nk_i s1), (1, nk_i s2)]) (rest := [nk_r s0]) (st' := [nk_l r1, nk_r s0]) (pc' := 96) mJ_342 (by decide +kernel) (by decide +kernel) (Nat.le_of_ble_eq_true rfl) rfl rfl (Nat.le_of_ble_eq_true rfl) mJ_365 (Nat.le_of_ble_eq_true rfl) ja_Tpos rfl (ja_X5_pack_ok zs _ _ _ _ h3) rfl ?_
  refine nk_ldc2 (x := 256) (len := 3) (X := 4503599627370496) (v := 4503599627370496) (pc' := 99) mJ_342 (by decide +kernel) (by decide +kernel) (by decide +kernel) rfl ?_
  obtain ⟨r4, S5, h6, hr⟩ := nk_bde hr
  refine nk_callV (ci := 7) (n := 2) (x := 258) (len := 3) (j' := 408) (q' := 0) (r := r4) (S' := S5) (L2 := [(0, nk_r s0), (1, nk_l r1), (3, nk_l 4503599627370496)]) (rest := []) (st' := []) (pc' := 102) mJ_342 (by decide +kernel) (by decide +kernel) rfl rfl t_s0 (Nat.le_of_ble_eq_true rfl) mJ_408 (Nat.le_of_ble_eq_true rfl) rfl (ja_X7_push_ok zs _ _ _ _ _ t_s0 h6) rfl ?_
  refine nk_p (i := .iload 4) (len := 2) (pc' := 104) mJ_342 (by decide +kernel) (ns_iload 0 rfl) rfl ?_
  refine nk_icond (c := .ne) (off := 8) (len := 3) (t := 112) (pc' := 107) mJ_342 (by decide +kernel) (by decide +kernel) rfl (fun hc => ?_) (fun hc => ?_)
  · have hr := nk_ifn (c := l4 = 0) hc hr
    refine nk_p (i := .iconst 1) (len := 1) (pc' := 113) mJ_342 (by decide +kernel) (ns_iconst (c := 1) (by decide +kernel)) rfl ?_
    refine nk_p (i := .goto 4) (len := 3) (pc' := 117) mJ_342 (by decide +kernel) (ns_goto (by decide +kernel)) rfl ?_
    cases hr
    exact nk_iret (ty := .boolean) (len := 1) mJ_342 (by decide +kernel) rfl (nk_nar_z (by decide))
  · have hr := nk_ifp (c := l4 = 0) (Decidable.of_not_not hc) hr
    refine nk_p (i := .iload 5) (len := 2) (pc' := 109) mJ_342 (by decide +kernel) (ns_iload 1 rfl) rfl ?_
    refine nk_icond (c := .eq) (off := 7) (len := 3) (t := 116) (pc' := 112) mJ_342 (by decide +kernel) (by decide +kernel) rfl (fun hc => ?_) (fun hc => ?_)
    · have hr := nk_ifp (c := l5 = 0) hc hr
      refine nk_p (i := .iconst 0) (len := 1) (pc' := 117) mJ_342 (by decide +kernel) (ns_iconst (c := 0) (by decide +kernel)) rfl ?_
      cases hr
      exact nk_iret (ty := .boolean) (len := 1) mJ_342 (by decide +kernel) rfl (nk_nar_z (by decide))
    · have hr := nk_ifn (c := l5 = 0) hc hr
      refine nk_p (i := .iconst 1) (len := 1) (pc' := 113) mJ_342 (by decide +kernel) (ns_iconst (c := 1) (by decide +kernel)) rfl ?_
      refine nk_p (i := .goto 4) (len := 3) (pc' := 117) mJ_342 (by decide +kernel) (ns_goto (by decide +kernel)) rfl ?_
      cases hr
      exact nk_iret (ty := .boolean) (len := 1) mJ_342 (by decide +kernel) rfl (nk_nar_z (by decide))
noncomputable def ja_X4_tellsType_b83 (l4 : Int) (l5 : Int) (s0 : Nat) (s1 : Int) (S : nk_S) : Option (Int × nk_S) :=
  if l4 = 0 then
    ja_X4_tellsType_b93 l4 l5 s0 s1 0 S
  else
    ja_X4_tellsType_b93 l4 l5 s0 s1 1 S
theorem ja_X4_tellsType_b83_ok (zs : List Int32) : ∀ (l4 : Int) (l5 : Int) (s0 : Nat) (s1 : Int) (S : nk_S) (R : Int × nk_S), nk_cl ja_Tt s0 = some 7 → ja_X4_tellsType_b83 l4 l5 s0 s1 S = some R → nk_K ja_Tt mi_Γ (mi_ev zs) 1 342 83 [(4, nk_i l4), (5, nk_i l5)] [nk_i s1, nk_r s0] S R := by
  intro l4 l5 s0 s1 S R t_s0 hr
  unfold ja_X4_tellsType_b83 at hr
  refine nk_p (i := .iload 4) (len := 2) (pc' := 85) mJ_342 (by decide +kernel) (ns_iload 0 rfl) rfl ?_
  refine nk_icond (c := .eq) (off := 7) (len := 3) (t := 92) (pc' := 88) mJ_342 (by decide +kernel) (by decide +kernel) rfl (fun hc => ?_) (fun hc => ?_)
  · have hr := nk_ifp (c := l4 = 0) hc hr
    refine nk_p (i := .iconst 0) (len := 1) (pc' := 93) mJ_342 (by decide +kernel) (ns_iconst (c := 0) (by decide +kernel)) rfl ?_
    exact ja_X4_tellsType_b93_ok zs _ _ _ _ _ _ _ t_s0 hr
  · have hr := nk_ifn (c := l4 = 0) hc hr
    refine nk_p (i := .iconst 1) (len := 1) (pc' := 89) mJ_342 (by decide +kernel) (ns_iconst (c := 1) (by decide +kernel)) rfl ?_
    refine nk_p (i := .goto 4) (len := 3) (pc' := 93) mJ_342 (by decide +kernel) (ns_goto (by decide +kernel)) rfl ?_
    exact ja_X4_tellsType_b93_ok zs _ _ _ _ _ _ _ t_s0 hr
noncomputable def ja_X4_tellsType_b59 (l0 : Nat) (l4 : Int) (s0 : Int) (S : nk_S) : Option (Int × nk_S) :=
  nk_bd (ja_X7_drop (ja_c l0 2) 1 S) fun r2 S3 =>
  if s0 = 0 then
    ja_X4_tellsType_b83 l4 s0 (ja_c l0 2) 1 S3
  else
    ja_X4_tellsType_b83 l4 s0 (ja_c l0 2) 0 S3
theorem ja_X4_tellsType_b59_ok (zs : List Int32) : ∀ (l0 : Nat) (l4 : Int) (s0 : Int) (S : nk_S) (R : Int × nk_S), nk_cl ja_Tt l0 = some 4 → ja_X4_tellsType_b59 l0 l4 s0 S = some R → nk_K ja_Tt mi_Γ (mi_ev zs) 1 342 59 [(0, nk_r l0), (4, nk_i l4)] [nk_i s0] S R := by
  intro l0 l4 s0 S R t_l0 hr
  unfold ja_X4_tellsType_b59 at hr
  refine nk_p (i := .istore 5) (len := 2) (pc' := 61) mJ_342 (by decide +kernel) (ns_istore (L' := [(5, nk_i s0), (0, nk_r l0), (4, nk_i l4)]) rfl rfl (by decide +kernel)) rfl ?_
  refine nk_p (i := .aload_n 0) (len := 1) (pc' := 62) mJ_342 (by decide +kernel) (ns_aload_n 1 rfl rfl) rfl ?_
  refine nk_getC (f := (2, 7, 0)) (x := 12) (len := 3) (ci := 4) (k := 2) (pc' := 65) ja_okT mJ_342 (by decide +kernel) (by decide +kernel) (by decide +kernel) (by decide) t_l0 rfl ?_
  have t1 : nk_cl ja_Tt (ja_c l0 2) = some 7 := nk_tc (y := 0) ja_okT t_l0 (by decide +kernel)
  refine nk_p (i := .iconst 1) (len := 1) (pc' := 66) mJ_342 (by decide +kernel) (ns_iconst (c := 1) (by decide +kernel)) rfl ?_
  obtain ⟨r2, S3, h4, hr⟩ := nk_bde hr
  refine nk_callV (ci := 7) (n := 1) (x := 321) (len := 3) (j' := 401) (q' := 0) (r := r2) (S' := S3) (L2 := [(0, nk_r (ja_c l0 2)), (1, nk_i 1)]) (rest := []) (st' := []) (pc' := 69) mJ_342 (by decide +kernel) (by decide +kernel) rfl rfl t1 (Nat.le_of_ble_eq_true rfl) mJ_401 (Nat.le_of_ble_eq_true rfl) rfl (ja_X7_drop_ok zs _ _ _ _ t1 h4) rfl ?_
  refine nk_p (i := .aload_n 0) (len := 1) (pc' := 70) mJ_342 (by decide +kernel) (ns_aload_n 1 rfl rfl) rfl ?_
  refine nk_getC (f := (2, 7, 0)) (x := 12) (len := 3) (ci := 4) (k := 2) (pc' := 73) ja_okT mJ_342 (by decide +kernel) (by decide +kernel) (by decide +kernel) (by decide) t_l0 rfl ?_
  refine nk_p (i := .iload 5) (len := 2) (pc' := 75) mJ_342 (by decide +kernel) (ns_iload 0 rfl) rfl ?_
  refine nk_icond (c := .eq) (off := 7) (len := 3) (t := 82) (pc' := 78) mJ_342 (by decide +kernel) (by decide +kernel) rfl (fun hc => ?_) (fun hc => ?_)
  · have hr := nk_ifp (c := s0 = 0) hc hr
    refine nk_p (i := .iconst 1) (len := 1) (pc' := 83) mJ_342 (by decide +kernel) (ns_iconst (c := 1) (by decide +kernel)) rfl ?_
    refine nk_sub [2, 0] (L' := [(4, nk_i l4), (5, nk_i s0)]) rfl ?_
    exact ja_X4_tellsType_b83_ok zs _ _ _ _ _ _ t1 hr
  · have hr := nk_ifn (c := s0 = 0) hc hr
    refine nk_p (i := .iconst 0) (len := 1) (pc' := 79) mJ_342 (by decide +kernel) (ns_iconst (c := 0) (by decide +kernel)) rfl ?_
    refine nk_p (i := .goto 4) (len := 3) (pc' := 83) mJ_342 (by decide +kernel) (ns_goto (by decide +kernel)) rfl ?_
    refine nk_sub [2, 0] (L' := [(4, nk_i l4), (5, nk_i s0)]) rfl ?_
    exact ja_X4_tellsType_b83_ok zs _ _ _ _ _ _ t1 hr
noncomputable def ja_X4_tellsType_b35 (l0 : Nat) (l1 : Int) (l2 : Int) (s0 : Int) (S : nk_S) : Option (Int × nk_S) :=
  if 0 ≤ l1 ∧ l1 < 1024 then
  if (nk_land l2 (nk_lxor (S.1 (ja_c l0 6) l1.toNat) (-1))) = 0 then
    ja_X4_tellsType_b59 l0 s0 0 S
  else
    ja_X4_tellsType_b59 l0 s0 1 S
  else none
theorem ja_X4_tellsType_b35_ok (zs : List Int32) : ∀ (l0 : Nat) (l1 : Int) (l2 : Int) (s0 : Int) (S : nk_S) (R : Int × nk_S), nk_cl ja_Tt l0 = some 4 → ja_X4_tellsType_b35 l0 l1 l2 s0 S = some R → nk_K ja_Tt mi_Γ (mi_ev zs) 1 342 35 [(0, nk_r l0), (1, nk_i l1), (2, nk_l l2)] [nk_i s0] S R := by
  intro l0 l1 l2 s0 S R t_l0 hr
  unfold ja_X4_tellsType_b35 at hr
  refine nk_p (i := .istore 4) (len := 2) (pc' := 37) mJ_342 (by decide +kernel) (ns_istore (L' := [(4, nk_i s0), (0, nk_r l0), (1, nk_i l1), (2, nk_l l2)]) rfl rfl (by decide +kernel)) rfl ?_
  refine nk_p (i := .lload_n 2) (len := 1) (pc' := 38) mJ_342 (by decide +kernel) (ns_lload_n 3 rfl rfl) rfl ?_
  refine nk_p (i := .aload_n 0) (len := 1) (pc' := 39) mJ_342 (by decide +kernel) (ns_aload_n 1 rfl rfl) rfl ?_
  refine nk_getC (f := (4, 2, 1024)) (x := 33) (len := 3) (ci := 4) (k := 6) (pc' := 42) ja_okT mJ_342 (by decide +kernel) (by decide +kernel) (by decide +kernel) (by decide) t_l0 rfl ?_
  have t1 : nk_ar ja_Tt (ja_c l0 6) = some (2, 1024) := nk_ta ja_okT t_l0 (by decide +kernel)
  refine nk_p (i := .iload_n 1) (len := 1) (pc' := 43) mJ_342 (by decide +kernel) (ns_iload_n 2 rfl rfl) rfl ?_
  obtain ⟨h2, hr⟩ := nk_cke hr
  refine nk_lald (len := 1) (N := 1024) (pc' := 44) mJ_342 (by decide +kernel) t1 h2.1 h2.2 rfl rfl ?_
  refine nk_ldc2 (x := 284) (len := 3) (X := (-1)) (v := (-1)) (pc' := 47) mJ_342 (by decide +kernel) (by decide +kernel) (by decide +kernel) rfl ?_
  refine nk_p (i := .lxor) (len := 1) (pc' := 48) mJ_342 (by decide +kernel) ns_lxor rfl ?_
  refine nk_p (i := .land) (len := 1) (pc' := 49) mJ_342 (by decide +kernel) ns_land rfl ?_
  refine nk_p (i := .lconst 0) (len := 1) (pc' := 50) mJ_342 (by decide +kernel) (ns_lconst (c := 0) (by decide +kernel)) rfl ?_
  refine nk_p (i := .lcmp) (len := 1) (pc' := 51) mJ_342 (by decide +kernel) ns_lcmp rfl ?_
  refine nk_lcond (c := .eq) (off := 7) (len := 3) (t := 58) (pc' := 54) mJ_342 (by decide +kernel) (by decide +kernel) rfl (fun hc => ?_) (fun hc => ?_)
  · have hr := nk_ifp (c := (nk_land l2 (nk_lxor (S.1 (ja_c l0 6) l1.toNat) (-1))) = 0) hc hr
    refine nk_p (i := .iconst 0) (len := 1) (pc' := 59) mJ_342 (by decide +kernel) (ns_iconst (c := 0) (by decide +kernel)) rfl ?_
    refine nk_sub [1, 0] (L' := [(0, nk_r l0), (4, nk_i s0)]) rfl ?_
    exact ja_X4_tellsType_b59_ok zs _ _ _ _ _ t_l0 hr
  · have hr := nk_ifn (c := (nk_land l2 (nk_lxor (S.1 (ja_c l0 6) l1.toNat) (-1))) = 0) hc hr
    refine nk_p (i := .iconst 1) (len := 1) (pc' := 55) mJ_342 (by decide +kernel) (ns_iconst (c := 1) (by decide +kernel)) rfl ?_
    refine nk_p (i := .goto 4) (len := 3) (pc' := 59) mJ_342 (by decide +kernel) (ns_goto (by decide +kernel)) rfl ?_
    refine nk_sub [1, 0] (L' := [(0, nk_r l0), (4, nk_i s0)]) rfl ?_
    exact ja_X4_tellsType_b59_ok zs _ _ _ _ _ t_l0 hr
noncomputable def ja_X4_tellsType (l0 : Nat) (l1 : Int) (S : nk_S) : Option (Int × nk_S) :=
  nk_bd (ja_X7_fromTop (ja_c l0 2) 0 S) fun r3 S4 =>
  if 0 ≤ r3 ∧ r3 < 20 then
  nk_lt (S4.1 (ja_c (ja_c l0 2) 4) r3.toNat) fun v7 =>
  if 0 ≤ l1 ∧ l1 < 1024 then
  if (nk_land v7 (S4.1 (ja_c l0 6) l1.toNat)) = 0 then
    ja_X4_tellsType_b35 l0 l1 v7 0 S4
  else
    ja_X4_tellsType_b35 l0 l1 v7 1 S4
  else none
  else none
theorem ja_X4_tellsType_ok (zs : List Int32) : ∀ (l0 : Nat) (l1 : Int) (S : nk_S) (R : Int × nk_S), nk_cl ja_Tt l0 = some 4 → ja_X4_tellsType l0 l1 S = some R → nk_K ja_Tt mi_Γ (mi_ev zs) 1 342 0 [(0, nk_r l0), (1, nk_i l1)] [] S R := by
  intro l0 l1 S R t_l0 hr
  unfold ja_X4_tellsType at hr
  refine nk_p (i := .aload_n 0) (len := 1) (pc' := 1) mJ_342 (by decide +kernel) (ns_aload_n 0 rfl rfl) rfl ?_
  refine nk_getC (f := (2, 7, 0)) (x := 12) (len := 3) (ci := 4) (k := 2) (pc' := 4) ja_okT mJ_342 (by decide +kernel) (by decide +kernel) (by decide +kernel) (by decide) t_l0 rfl ?_
  have t1 : nk_cl ja_Tt (ja_c l0 2) = some 7 := nk_tc (y := 0) ja_okT t_l0 (by decide +kernel)
  refine nk_getC (f := (4, 2, 20)) (x := 299) (len := 3) (ci := 7) (k := 4) (pc' := 7) ja_okT mJ_342 (by decide +kernel) (by decide +kernel) (by decide +kernel) (by decide) t1 rfl ?_
  have t2 : nk_ar ja_Tt (ja_c (ja_c l0 2) 4) = some (2, 20) := nk_ta ja_okT t1 (by decide +kernel)
  refine nk_p (i := .aload_n 0) (len := 1) (pc' := 8) mJ_342 (by decide +kernel) (ns_aload_n 0 rfl rfl) rfl ?_
  refine nk_getC (f := (2, 7, 0)) (x := 12) (len := 3) (ci := 4) (k := 2) (pc' := 11) ja_okT mJ_342 (by decide +kernel) (by decide +kernel) (by decide +kernel) (by decide) t_l0 rfl ?_
  refine nk_p (i := .iconst 0) (len := 1) (pc' := 12) mJ_342 (by decide +kernel) (ns_iconst (c := 0) (by decide +kernel)) rfl ?_
  obtain ⟨r3, S4, h5, hr⟩ := nk_bde hr
  refine nk_callV (ci := 7) (n := 1) (x := 290) (len := 3) (j' := 403) (q' := 1) (r := r3) (S' := S4) (L2 := [(0, nk_r (ja_c l0 2)), (1, nk_i 0)]) (rest := [nk_r (ja_c (ja_c l0 2) 4)]) (st' := [nk_i r3, nk_r (ja_c (ja_c l0 2) 4)]) (pc' := 15) mJ_342 (by decide +kernel) (by decide +kernel) rfl rfl t1 (Nat.le_of_ble_eq_true rfl) mJ_403 (Nat.le_of_ble_eq_true rfl) rfl (ja_X7_fromTop_ok zs _ _ _ _ t1 h5) rfl ?_
  obtain ⟨h6, hr⟩ := nk_cke hr
  refine nk_lald (len := 1) (N := 20) (pc' := 16) mJ_342 (by decide +kernel) t2 h6.1 h6.2 rfl rfl ?_
  obtain ⟨v7, h8, hr⟩ := nk_lte hr
  refine nk_p (i := .lstore_n 2) (len := 1) (pc' := 17) mJ_342 (by decide +kernel) (ns_lstore_n (L' := [(2, nk_l v7), (0, nk_r l0), (1, nk_i l1)]) h8 rfl rfl (by decide +kernel)) rfl ?_
  refine nk_p (i := .lload_n 2) (len := 1) (pc' := 18) mJ_342 (by decide +kernel) (ns_lload_n 0 rfl rfl) rfl ?_
  refine nk_p (i := .aload_n 0) (len := 1) (pc' := 19) mJ_342 (by decide +kernel) (ns_aload_n 1 rfl rfl) rfl ?_
  refine nk_getC (f := (4, 2, 1024)) (x := 33) (len := 3) (ci := 4) (k := 6) (pc' := 22) ja_okT mJ_342 (by decide +kernel) (by decide +kernel) (by decide +kernel) (by decide) t_l0 rfl ?_
  have t9 : nk_ar ja_Tt (ja_c l0 6) = some (2, 1024) := nk_ta ja_okT t_l0 (by decide +kernel)
  refine nk_p (i := .iload_n 1) (len := 1) (pc' := 23) mJ_342 (by decide +kernel) (ns_iload_n 2 rfl rfl) rfl ?_
  obtain ⟨h10, hr⟩ := nk_cke hr
  refine nk_lald (len := 1) (N := 1024) (pc' := 24) mJ_342 (by decide +kernel) t9 h10.1 h10.2 rfl rfl ?_
  refine nk_p (i := .land) (len := 1) (pc' := 25) mJ_342 (by decide +kernel) ns_land rfl ?_
  refine nk_p (i := .lconst 0) (len := 1) (pc' := 26) mJ_342 (by decide +kernel) (ns_lconst (c := 0) (by decide +kernel)) rfl ?_
  refine nk_p (i := .lcmp) (len := 1) (pc' := 27) mJ_342 (by decide +kernel) ns_lcmp rfl ?_
  refine nk_lcond (c := .eq) (off := 7) (len := 3) (t := 34) (pc' := 30) mJ_342 (by decide +kernel) (by decide +kernel) rfl (fun hc => ?_) (fun hc => ?_)
  · have hr := nk_ifp (c := (nk_land v7 (S4.1 (ja_c l0 6) l1.toNat)) = 0) hc hr
    refine nk_p (i := .iconst 0) (len := 1) (pc' := 35) mJ_342 (by decide +kernel) (ns_iconst (c := 0) (by decide +kernel)) rfl ?_
    refine nk_sub [1, 2, 0] (L' := [(0, nk_r l0), (1, nk_i l1), (2, nk_l v7)]) rfl ?_
    exact ja_X4_tellsType_b35_ok zs _ _ _ _ _ _ t_l0 hr
  · have hr := nk_ifn (c := (nk_land v7 (S4.1 (ja_c l0 6) l1.toNat)) = 0) hc hr
    refine nk_p (i := .iconst 1) (len := 1) (pc' := 31) mJ_342 (by decide +kernel) (ns_iconst (c := 1) (by decide +kernel)) rfl ?_
    refine nk_p (i := .goto 4) (len := 3) (pc' := 35) mJ_342 (by decide +kernel) (ns_goto (by decide +kernel)) rfl ?_
    refine nk_sub [1, 2, 0] (L' := [(0, nk_r l0), (1, nk_i l1), (2, nk_l v7)]) rfl ?_
    exact ja_X4_tellsType_b35_ok zs _ _ _ _ _ _ t_l0 hr
/-! SafeCode$Proof throwsSites ()Z -/
noncomputable def ja_X4_throwsSites_b32 (l0 : Nat) (l1 : Int) (S : nk_S) : Option (Int × nk_S) :=
  if (nk_land l1 18014398509481983) = 0 then
    some (0, S)
  else
    nk_lt (nk_wi S l0 9 (nk_ior (S.1 l0 9) 64)) fun S1 =>
    nk_lt (nk_wi S1 l0 10 (nk_lor (S1.1 l0 10) (nk_land l1 18014398509481983))) fun S3 =>
    some (0, S3)
theorem ja_X4_throwsSites_b32_ok (zs : List Int32) : ∀ (l0 : Nat) (l1 : Int) (S : nk_S) (R : Int × nk_S), nk_cl ja_Tt l0 = some 4 → ja_X4_throwsSites_b32 l0 l1 S = some R → nk_K ja_Tt mi_Γ (mi_ev zs) 1 344 32 [(0, nk_r l0), (1, nk_l l1)] [] S R := by
  intro l0 l1 S R t_l0 hr
  unfold ja_X4_throwsSites_b32 at hr
  refine nk_p (i := .lload_n 1) (len := 1) (pc' := 33) mJ_344 (by decide +kernel) (ns_lload_n 1 rfl rfl) rfl ?_
  refine nk_ldc2 (x := 346) (len := 3) (X := 18014398509481983) (v := 18014398509481983) (pc' := 36) mJ_344 (by decide +kernel) (by decide +kernel) (by decide +kernel) rfl ?_
  refine nk_p (i := .land) (len := 1) (pc' := 37) mJ_344 (by decide +kernel) ns_land rfl ?_
  refine nk_p (i := .lconst 0) (len := 1) (pc' := 38) mJ_344 (by decide +kernel) (ns_lconst (c := 0) (by decide +kernel)) rfl ?_
  refine nk_p (i := .lcmp) (len := 1) (pc' := 39) mJ_344 (by decide +kernel) ns_lcmp rfl ?_
  refine nk_lcond (c := .eq) (off := 28) (len := 3) (t := 67) (pc' := 42) mJ_344 (by decide +kernel) (by decide +kernel) rfl (fun hc => ?_) (fun hc => ?_)
  · have hr := nk_ifp (c := (nk_land l1 18014398509481983) = 0) hc hr
    refine nk_p (i := .iconst 0) (len := 1) (pc' := 68) mJ_344 (by decide +kernel) (ns_iconst (c := 0) (by decide +kernel)) rfl ?_
    cases hr
    exact nk_iret (ty := .boolean) (len := 1) mJ_344 (by decide +kernel) rfl (nk_nar_z (by decide))
  · have hr := nk_ifn (c := (nk_land l1 18014398509481983) = 0) hc hr
    refine nk_p (i := .aload_n 0) (len := 1) (pc' := 43) mJ_344 (by decide +kernel) (ns_aload_n 0 rfl rfl) rfl ?_
    refine nk_p (i := .dup) (len := 1) (pc' := 44) mJ_344 (by decide +kernel) (ns_dup rfl) rfl ?_
    refine nk_getI (y := (0, 0)) (x := 185) (len := 3) (ci := 4) (k := 9) (pc' := 47) ja_okT mJ_344 (by decide +kernel) (by decide +kernel) (by decide +kernel) t_l0 rfl ?_
    refine nk_p (i := .bipush 64) (len := 2) (pc' := 49) mJ_344 (by decide +kernel) (ns_bipush (c := 64) (by decide +kernel)) rfl ?_
    refine nk_p (i := .ior) (len := 1) (pc' := 50) mJ_344 (by decide +kernel) ns_ior rfl ?_
    obtain ⟨S1, h2, hr⟩ := nk_lte hr
    refine nk_putI (y := (0, 0)) (ty := .int) (x := 185) (len := 3) (ci := 4) (k := 9) (pc' := 53) ja_okT mJ_344 (by decide +kernel) (by decide +kernel) (by decide +kernel) t_l0 (Or.inl rfl) rfl h2 ?_
    refine nk_p (i := .aload_n 0) (len := 1) (pc' := 54) mJ_344 (by decide +kernel) (ns_aload_n 0 rfl rfl) rfl ?_
    refine nk_p (i := .dup) (len := 1) (pc' := 55) mJ_344 (by decide +kernel) (ns_dup rfl) rfl ?_
    refine nk_getL (y := (0, 0)) (x := 188) (len := 3) (ci := 4) (k := 10) (pc' := 58) ja_okT mJ_344 (by decide +kernel) (by decide +kernel) (by decide +kernel) t_l0 rfl ?_
    refine nk_p (i := .lload_n 1) (len := 1) (pc' := 59) mJ_344 (by decide +kernel) (ns_lload_n 1 rfl rfl) rfl ?_
    refine nk_ldc2 (x := 346) (len := 3) (X := 18014398509481983) (v := 18014398509481983) (pc' := 62) mJ_344 (by decide +kernel) (by decide +kernel) (by decide +kernel) rfl ?_
    refine nk_p (i := .land) (len := 1) (pc' := 63) mJ_344 (by decide +kernel) ns_land rfl ?_
    refine nk_p (i := .lor) (len := 1) (pc' := 64) mJ_344 (by decide +kernel) ns_lor rfl ?_
    obtain ⟨S3, h4, hr⟩ := nk_lte hr
    refine nk_putL (y := (0, 0)) (x := 188) (len := 3) (ci := 4) (k := 10) (pc' := 67) ja_okT mJ_344 (by decide +kernel) (by decide +kernel) (by decide +kernel) t_l0 rfl h4 ?_
    refine nk_p (i := .iconst 0) (len := 1) (pc' := 68) mJ_344 (by decide +kernel) (ns_iconst (c := 0) (by decide +kernel)) rfl ?_
    cases hr
    exact nk_iret (ty := .boolean) (len := 1) mJ_344 (by decide +kernel) rfl (nk_nar_z (by decide))
noncomputable def ja_X4_throwsSites (l0 : Nat) (S : nk_S) : Option (Int × nk_S) :=
  nk_bd (ja_X7_fromTop (ja_c l0 2) 0 S) fun r3 S4 =>
  if 0 ≤ r3 ∧ r3 < 20 then
  nk_lt (S4.1 (ja_c (ja_c l0 2) 4) r3.toNat) fun v7 =>
  if (nk_land v7 4611686018427387904) = 0 then
    ja_X4_throwsSites_b32 l0 v7 S4
  else
    nk_bd (ja_X4_raise l0 0 S4) fun r9 S10 =>
    ja_X4_throwsSites_b32 l0 v7 S10
  else none
theorem ja_X4_throwsSites_ok (zs : List Int32) : ∀ (l0 : Nat) (S : nk_S) (R : Int × nk_S), nk_cl ja_Tt l0 = some 4 → ja_X4_throwsSites l0 S = some R → nk_K ja_Tt mi_Γ (mi_ev zs) 1 344 0 [(0, nk_r l0)] [] S R := by
  intro l0 S R t_l0 hr
  unfold ja_X4_throwsSites at hr
  refine nk_p (i := .aload_n 0) (len := 1) (pc' := 1) mJ_344 (by decide +kernel) (ns_aload_n 0 rfl rfl) rfl ?_
  refine nk_getC (f := (2, 7, 0)) (x := 12) (len := 3) (ci := 4) (k := 2) (pc' := 4) ja_okT mJ_344 (by decide +kernel) (by decide +kernel) (by decide +kernel) (by decide) t_l0 rfl ?_
  have t1 : nk_cl ja_Tt (ja_c l0 2) = some 7 := nk_tc (y := 0) ja_okT t_l0 (by decide +kernel)
  refine nk_getC (f := (4, 2, 20)) (x := 299) (len := 3) (ci := 7) (k := 4) (pc' := 7) ja_okT mJ_344 (by decide +kernel) (by decide +kernel) (by decide +kernel) (by decide) t1 rfl ?_
  have t2 : nk_ar ja_Tt (ja_c (ja_c l0 2) 4) = some (2, 20) := nk_ta ja_okT t1 (by decide +kernel)
  refine nk_p (i := .aload_n 0) (len := 1) (pc' := 8) mJ_344 (by decide +kernel) (ns_aload_n 0 rfl rfl) rfl ?_
  refine nk_getC (f := (2, 7, 0)) (x := 12) (len := 3) (ci := 4) (k := 2) (pc' := 11) ja_okT mJ_344 (by decide +kernel) (by decide +kernel) (by decide +kernel) (by decide) t_l0 rfl ?_
  refine nk_p (i := .iconst 0) (len := 1) (pc' := 12) mJ_344 (by decide +kernel) (ns_iconst (c := 0) (by decide +kernel)) rfl ?_
  obtain ⟨r3, S4, h5, hr⟩ := nk_bde hr
  refine nk_callV (ci := 7) (n := 1) (x := 290) (len := 3) (j' := 403) (q' := 1) (r := r3) (S' := S4) (L2 := [(0, nk_r (ja_c l0 2)), (1, nk_i 0)]) (rest := [nk_r (ja_c (ja_c l0 2) 4)]) (st' := [nk_i r3, nk_r (ja_c (ja_c l0 2) 4)]) (pc' := 15) mJ_344 (by decide +kernel) (by decide +kernel) rfl rfl t1 (Nat.le_of_ble_eq_true rfl) mJ_403 (Nat.le_of_ble_eq_true rfl) rfl (ja_X7_fromTop_ok zs _ _ _ _ t1 h5) rfl ?_
  obtain ⟨h6, hr⟩ := nk_cke hr
  refine nk_lald (len := 1) (N := 20) (pc' := 16) mJ_344 (by decide +kernel) t2 h6.1 h6.2 rfl rfl ?_
  obtain ⟨v7, h8, hr⟩ := nk_lte hr
  refine nk_p (i := .lstore_n 1) (len := 1) (pc' := 17) mJ_344 (by decide +kernel) (ns_lstore_n (L' := [(1, nk_l v7), (0, nk_r l0)]) h8 rfl rfl (by decide +kernel)) rfl ?_
  refine nk_p (i := .lload_n 1) (len := 1) (pc' := 18) mJ_344 (by decide +kernel) (ns_lload_n 0 rfl rfl) rfl ?_
  refine nk_ldc2 (x := 297) (len := 3) (X := 4611686018427387904) (v := 4611686018427387904) (pc' := 21) mJ_344 (by decide +kernel) (by decide +kernel) (by decide +kernel) rfl ?_
  refine nk_p (i := .land) (len := 1) (pc' := 22) mJ_344 (by decide +kernel) ns_land rfl ?_
  refine nk_p (i := .lconst 0) (len := 1) (pc' := 23) mJ_344 (by decide +kernel) (ns_lconst (c := 0) (by decide +kernel)) rfl ?_
  refine nk_p (i := .lcmp) (len := 1) (pc' := 24) mJ_344 (by decide +kernel) ns_lcmp rfl ?_
  refine nk_lcond (c := .eq) (off := 8) (len := 3) (t := 32) (pc' := 27) mJ_344 (by decide +kernel) (by decide +kernel) rfl (fun hc => ?_) (fun hc => ?_)
  · have hr := nk_ifp (c := (nk_land v7 4611686018427387904) = 0) hc hr
    refine nk_sub [1, 0] (L' := [(0, nk_r l0), (1, nk_l v7)]) rfl ?_
    exact ja_X4_throwsSites_b32_ok zs _ _ _ _ t_l0 hr
  · have hr := nk_ifn (c := (nk_land v7 4611686018427387904) = 0) hc hr
    refine nk_p (i := .aload_n 0) (len := 1) (pc' := 28) mJ_344 (by decide +kernel) (ns_aload_n 1 rfl rfl) rfl ?_
    refine nk_p (i := .iconst 0) (len := 1) (pc' := 29) mJ_344 (by decide +kernel) (ns_iconst (c := 0) (by decide +kernel)) rfl ?_
    obtain ⟨r9, S10, h11, hr⟩ := nk_bde hr
    refine nk_callV (ci := 4) (n := 1) (x := 335) (len := 3) (j' := 338) (q' := 0) (r := r9) (S' := S10) (L2 := [(0, nk_r l0), (1, nk_i 0)]) (rest := []) (st' := []) (pc' := 32) mJ_344 (by decide +kernel) (by decide +kernel) rfl rfl t_l0 (Nat.le_of_ble_eq_true rfl) mJ_338 (Nat.le_of_ble_eq_true rfl) rfl (ja_X4_raise_ok zs _ _ _ _ t_l0 h11) rfl ?_
    refine nk_sub [1, 0] (L' := [(0, nk_r l0), (1, nk_l v7)]) rfl ?_
    exact ja_X4_throwsSites_b32_ok zs _ _ _ _ t_l0 hr
/-! SafeCode$Store addEnd (IJZ)V -/
noncomputable def ja_X8_addEnd_b35 (l0 : Nat) (l1 : Int) (l5 : Int) (S : nk_S) : Option (Int × nk_S) :=
  if 0 ≤ l1 ∧ l1 < 48 then
  nk_lt (nk_wi S (ja_c l0 3) l1.toNat l5) fun S3 =>
  nk_lt (nk_wi S3 (ja_c l0 4) l1.toNat 1) fun S6 =>
  nk_lt (nk_wi S6 l0 8 (nk_lor (S6.1 l0 8) (nk_lshl 1 l1))) fun S8 =>
  some (0, S8)
  else none
theorem ja_X8_addEnd_b35_ok (zs : List Int32) : ∀ (l0 : Nat) (l1 : Int) (l5 : Int) (S : nk_S) (R : Int × nk_S), nk_cl ja_Tt l0 = some 8 → ja_X8_addEnd_b35 l0 l1 l5 S = some R → nk_K ja_Tt mi_Γ (mi_ev zs) 0 414 35 [(0, nk_r l0), (1, nk_i l1), (5, nk_l l5)] [] S R := by
  intro l0 l1 l5 S R t_l0 hr
  unfold ja_X8_addEnd_b35 at hr
  refine nk_p (i := .aload_n 0) (len := 1) (pc' := 36) mJ_414 (by decide +kernel) (ns_aload_n 0 rfl rfl) rfl ?_
  refine nk_getC (f := (4, 2, 48)) (x := 21) (len := 3) (ci := 8) (k := 3) (pc' := 39) ja_okT mJ_414 (by decide +kernel) (by decide +kernel) (by decide +kernel) (by decide) t_l0 rfl ?_
  have t1 : nk_ar ja_Tt (ja_c l0 3) = some (2, 48) := nk_ta ja_okT t_l0 (by decide +kernel)
  refine nk_p (i := .iload_n 1) (len := 1) (pc' := 40) mJ_414 (by decide +kernel) (ns_iload_n 1 rfl rfl) rfl ?_
  refine nk_p (i := .lload 5) (len := 2) (pc' := 42) mJ_414 (by decide +kernel) (ns_lload 2 rfl) rfl ?_
  obtain ⟨h2, hr⟩ := nk_cke hr
  obtain ⟨S3, h4, hr⟩ := nk_lte hr
  refine nk_last (len := 1) (N := 48) (pc' := 43) mJ_414 (by decide +kernel) t1 h2.1 h2.2 rfl rfl h4 ?_
  refine nk_p (i := .aload_n 0) (len := 1) (pc' := 44) mJ_414 (by decide +kernel) (ns_aload_n 0 rfl rfl) rfl ?_
  refine nk_getC (f := (4, 3, 48)) (x := 24) (len := 3) (ci := 8) (k := 4) (pc' := 47) ja_okT mJ_414 (by decide +kernel) (by decide +kernel) (by decide +kernel) (by decide) t_l0 rfl ?_
  have t5 : nk_ar ja_Tt (ja_c l0 4) = some (3, 48) := nk_ta ja_okT t_l0 (by decide +kernel)
  refine nk_p (i := .iload_n 1) (len := 1) (pc' := 48) mJ_414 (by decide +kernel) (ns_iload_n 1 rfl rfl) rfl ?_
  refine nk_p (i := .iconst 1) (len := 1) (pc' := 49) mJ_414 (by decide +kernel) (ns_iconst (c := 1) (by decide +kernel)) rfl ?_
  obtain ⟨S6, h7, hr⟩ := nk_lte hr
  refine nk_zast (len := 1) (N := 48) (pc' := 50) mJ_414 (by decide +kernel) t5 h2.1 h2.2 (by decide) rfl rfl h7 ?_
  refine nk_p (i := .aload_n 0) (len := 1) (pc' := 51) mJ_414 (by decide +kernel) (ns_aload_n 0 rfl rfl) rfl ?_
  refine nk_p (i := .dup) (len := 1) (pc' := 52) mJ_414 (by decide +kernel) (ns_dup rfl) rfl ?_
  refine nk_getL (y := (0, 0)) (x := 81) (len := 3) (ci := 8) (k := 8) (pc' := 55) ja_okT mJ_414 (by decide +kernel) (by decide +kernel) (by decide +kernel) t_l0 rfl ?_
  refine nk_p (i := .lconst 1) (len := 1) (pc' := 56) mJ_414 (by decide +kernel) (ns_lconst (c := 1) (by decide +kernel)) rfl ?_
  refine nk_p (i := .iload_n 1) (len := 1) (pc' := 57) mJ_414 (by decide +kernel) (ns_iload_n 1 rfl rfl) rfl ?_
  refine nk_p (i := .lshl) (len := 1) (pc' := 58) mJ_414 (by decide +kernel) ns_lshl rfl ?_
  refine nk_p (i := .lor) (len := 1) (pc' := 59) mJ_414 (by decide +kernel) ns_lor rfl ?_
  obtain ⟨S8, h9, hr⟩ := nk_lte hr
  refine nk_putL (y := (0, 0)) (x := 81) (len := 3) (ci := 8) (k := 8) (pc' := 62) ja_okT mJ_414 (by decide +kernel) (by decide +kernel) (by decide +kernel) t_l0 rfl h9 ?_
  cases hr
  exact nk_vret (len := 1) mJ_414 (by decide +kernel) rfl
noncomputable def ja_X8_addEnd (l0 : Nat) (l1 : Int) (l2 : Int) (l4 : Int) (S : nk_S) : Option (Int × nk_S) :=
  if 0 ≤ l1 ∧ l1 < 48 then
  nk_bd (ja_X8_join (S.1 (ja_c l0 3) l1.toNat) l2 l4 S) fun r3 S4 =>
  if r3 = (S4.1 (ja_c l0 3) l1.toNat) then
    if (S4.1 (ja_c l0 4) l1.toNat) = 0 then
      ja_X8_addEnd_b35 l0 l1 r3 S4
    else
      some (0, S4)
  else
    ja_X8_addEnd_b35 l0 l1 r3 S4
  else none
theorem ja_X8_addEnd_ok (zs : List Int32) : ∀ (l0 : Nat) (l1 : Int) (l2 : Int) (l4 : Int) (S : nk_S) (R : Int × nk_S), nk_cl ja_Tt l0 = some 8 → ja_X8_addEnd l0 l1 l2 l4 S = some R → nk_K ja_Tt mi_Γ (mi_ev zs) 0 414 0 [(0, nk_r l0), (1, nk_i l1), (2, nk_l l2), (4, nk_i l4)] [] S R := by
  intro l0 l1 l2 l4 S R t_l0 hr
  unfold ja_X8_addEnd at hr
  refine nk_p (i := .aload_n 0) (len := 1) (pc' := 1) mJ_414 (by decide +kernel) (ns_aload_n 0 rfl rfl) rfl ?_
  refine nk_getC (f := (4, 2, 48)) (x := 21) (len := 3) (ci := 8) (k := 3) (pc' := 4) ja_okT mJ_414 (by decide +kernel) (by decide +kernel) (by decide +kernel) (by decide) t_l0 rfl ?_
  have t1 : nk_ar ja_Tt (ja_c l0 3) = some (2, 48) := nk_ta ja_okT t_l0 (by decide +kernel)
  refine nk_p (i := .iload_n 1) (len := 1) (pc' := 5) mJ_414 (by decide +kernel) (ns_iload_n 1 rfl rfl) rfl ?_
  obtain ⟨h2, hr⟩ := nk_cke hr
  refine nk_lald (len := 1) (N := 48) (pc' := 6) mJ_414 (by decide +kernel) t1 h2.1 h2.2 rfl rfl ?_
  refine nk_p (i := .lload_n 2) (len := 1) (pc' := 7) mJ_414 (by decide +kernel) (ns_lload_n 2 rfl rfl) rfl ?_
  refine nk_p (i := .iload 4) (len := 2) (pc' := 9) mJ_414 (by decide +kernel) (ns_iload 3 rfl) rfl ?_
  obtain ⟨r3, S4, h5, hr⟩ := nk_bde hr
  refine nk_callS (ci := 0) (n := 3) (x := 71) (len := 3) (j' := 420) (q' := 2) (r := r3) (S' := S4) (L2 := [(0, nk_l (S.1 (ja_c l0 3) l1.toNat)), (2, nk_l l2), (4, nk_i l4)]) (rest := []) (st' := [nk_l r3]) (pc' := 12) mJ_414 (by decide +kernel) (by decide +kernel) (Nat.le_of_ble_eq_true rfl) rfl rfl (Nat.le_of_ble_eq_true rfl) mJ_420 (Nat.le_of_ble_eq_true rfl) ja_Tpos rfl (ja_X8_join_ok zs _ _ _ _ _ h5) rfl ?_
  refine nk_p (i := .lstore 5) (len := 2) (pc' := 14) mJ_414 (by decide +kernel) (ns_lstore (L' := [(5, nk_l r3), (0, nk_r l0), (1, nk_i l1), (2, nk_l l2), (4, nk_i l4)]) rfl rfl (by decide +kernel)) rfl ?_
  refine nk_p (i := .lload 5) (len := 2) (pc' := 16) mJ_414 (by decide +kernel) (ns_lload 0 rfl) rfl ?_
  refine nk_p (i := .aload_n 0) (len := 1) (pc' := 17) mJ_414 (by decide +kernel) (ns_aload_n 1 rfl rfl) rfl ?_
  refine nk_getC (f := (4, 2, 48)) (x := 21) (len := 3) (ci := 8) (k := 3) (pc' := 20) ja_okT mJ_414 (by decide +kernel) (by decide +kernel) (by decide +kernel) (by decide) t_l0 rfl ?_
  refine nk_p (i := .iload_n 1) (len := 1) (pc' := 21) mJ_414 (by decide +kernel) (ns_iload_n 2 rfl rfl) rfl ?_
  refine nk_lald (len := 1) (N := 48) (pc' := 22) mJ_414 (by decide +kernel) t1 h2.1 h2.2 rfl rfl ?_
  refine nk_p (i := .lcmp) (len := 1) (pc' := 23) mJ_414 (by decide +kernel) ns_lcmp rfl ?_
  refine nk_lcond (c := .ne) (off := 12) (len := 3) (t := 35) (pc' := 26) mJ_414 (by decide +kernel) (by decide +kernel) rfl (fun hc => ?_) (fun hc => ?_)
  · have hr := nk_ifn (c := r3 = (S4.1 (ja_c l0 3) l1.toNat)) hc hr
    refine nk_sub [1, 2, 0] (L' := [(0, nk_r l0), (1, nk_i l1), (5, nk_l r3)]) rfl ?_
    exact ja_X8_addEnd_b35_ok zs _ _ _ _ _ t_l0 hr
  · have hr := nk_ifp (c := r3 = (S4.1 (ja_c l0 3) l1.toNat)) (Decidable.of_not_not hc) hr
    refine nk_p (i := .aload_n 0) (len := 1) (pc' := 27) mJ_414 (by decide +kernel) (ns_aload_n 1 rfl rfl) rfl ?_
    refine nk_getC (f := (4, 3, 48)) (x := 24) (len := 3) (ci := 8) (k := 4) (pc' := 30) ja_okT mJ_414 (by decide +kernel) (by decide +kernel) (by decide +kernel) (by decide) t_l0 rfl ?_
    have t6 : nk_ar ja_Tt (ja_c l0 4) = some (3, 48) := nk_ta ja_okT t_l0 (by decide +kernel)
    refine nk_p (i := .iload_n 1) (len := 1) (pc' := 31) mJ_414 (by decide +kernel) (ns_iload_n 2 rfl rfl) rfl ?_
    refine nk_bald (t := 3) (len := 1) (N := 48) (pc' := 32) mJ_414 (by decide +kernel) t6 (by decide) h2.1 h2.2 rfl rfl ?_
    refine nk_icond (c := .ne) (off := 30) (len := 3) (t := 62) (pc' := 35) mJ_414 (by decide +kernel) (by decide +kernel) rfl (fun hc => ?_) (fun hc => ?_)
    · have hr := nk_ifn (c := (S4.1 (ja_c l0 4) l1.toNat) = 0) hc hr
      cases hr
      exact nk_vret (len := 1) mJ_414 (by decide +kernel) rfl
    · have hr := nk_ifp (c := (S4.1 (ja_c l0 4) l1.toNat) = 0) (Decidable.of_not_not hc) hr
      refine nk_sub [1, 2, 0] (L' := [(0, nk_r l0), (1, nk_i l1), (5, nk_l r3)]) rfl ?_
      exact ja_X8_addEnd_b35_ok zs _ _ _ _ _ t_l0 hr
/-! SafeCode$Proof endsBody (II)Z -/
noncomputable def ja_X4_endsBody_b79 (s0 : Nat) (s1 : Int) (s2 : Int) (s3 : Int) (S : nk_S) : Option (Int × nk_S) :=
  nk_bd (ja_X8_addEnd s0 s1 s2 s3 S) fun r1 S2 =>
  some (0, S2)
theorem ja_X4_endsBody_b79_ok (zs : List Int32) : ∀ (s0 : Nat) (s1 : Int) (s2 : Int) (s3 : Int) (S : nk_S) (R : Int × nk_S), nk_cl ja_Tt s0 = some 8 → ja_X4_endsBody_b79 s0 s1 s2 s3 S = some R → nk_K ja_Tt mi_Γ (mi_ev zs) 1 317 79 [] [nk_i s3, nk_l s2, nk_i s1, nk_r s0] S R := by
  intro s0 s1 s2 s3 S R t_s0 hr
  unfold ja_X4_endsBody_b79 at hr
  obtain ⟨r1, S2, h3, hr⟩ := nk_bde hr
  refine nk_callV (ci := 8) (n := 3) (x := 474) (len := 3) (j' := 414) (q' := 0) (r := r1) (S' := S2) (L2 := [(0, nk_r s0), (1, nk_i s1), (2, nk_l s2), (4, nk_i s3)]) (rest := []) (st' := []) (pc' := 82) mJ_317 (by decide +kernel) (by decide +kernel) rfl rfl t_s0 (Nat.le_of_ble_eq_true rfl) mJ_414 (Nat.le_of_ble_eq_true rfl) rfl (ja_X8_addEnd_ok zs _ _ _ _ _ _ t_s0 h3) rfl ?_
  refine nk_p (i := .iconst 0) (len := 1) (pc' := 83) mJ_317 (by decide +kernel) (ns_iconst (c := 0) (by decide +kernel)) rfl ?_
  cases hr
  exact nk_iret (ty := .boolean) (len := 1) mJ_317 (by decide +kernel) rfl (nk_nar_z (by decide))
noncomputable def ja_X4_endsBody_b78 (s0 : Nat) (s1 : Int) (s2 : Int) (S : nk_S) : Option (Int × nk_S) :=
  ja_X4_endsBody_b79 s0 s1 s2 0 S
theorem ja_X4_endsBody_b78_ok (zs : List Int32) : ∀ (s0 : Nat) (s1 : Int) (s2 : Int) (S : nk_S) (R : Int × nk_S), nk_cl ja_Tt s0 = some 8 → ja_X4_endsBody_b78 s0 s1 s2 S = some R → nk_K ja_Tt mi_Γ (mi_ev zs) 1 317 78 [] [nk_l s2, nk_i s1, nk_r s0] S R := by
  intro s0 s1 s2 S R t_s0 hr
  unfold ja_X4_endsBody_b78 at hr
  refine nk_p (i := .iconst 0) (len := 1) (pc' := 79) mJ_317 (by decide +kernel) (ns_iconst (c := 0) (by decide +kernel)) rfl ?_
  exact ja_X4_endsBody_b79_ok zs _ _ _ _ _ _ t_s0 hr
noncomputable def ja_X4_endsBody_b53 (l0 : Nat) (l3 : Int) (l4 : Int) (s0 : Nat) (s1 : Int) (s2 : Int) (S : nk_S) : Option (Int × nk_S) :=
  if l4 = 0 then
    ja_X4_endsBody_b78 s0 s1 s2 S
  else
    if 0 ≤ l3 ∧ l3 < 48 then
    if (S.1 (ja_c (ja_c (S.2 l0 0) 1) 7) l3.toNat) = 1 then
      ja_X4_endsBody_b79 s0 s1 s2 1 S
    else
      ja_X4_endsBody_b78 s0 s1 s2 S
    else none
theorem ja_X4_endsBody_b53_ok (zs : List Int32) : ∀ (l0 : Nat) (l3 : Int) (l4 : Int) (s0 : Nat) (s1 : Int) (s2 : Int) (S : nk_S) (R : Int × nk_S), nk_cl ja_Tt l0 = some 4 → nk_cl ja_Tt s0 = some 8 → ja_X4_endsBody_b53 l0 l3 l4 s0 s1 s2 S = some R → nk_K ja_Tt mi_Γ (mi_ev zs) 1 317 53 [(0, nk_r l0), (3, nk_i l3), (4, nk_i l4)] [nk_l s2, nk_i s1, nk_r s0] S R := by
  intro l0 l3 l4 s0 s1 s2 S R t_l0 t_s0 hr
  unfold ja_X4_endsBody_b53 at hr
  refine nk_p (i := .iload 4) (len := 2) (pc' := 55) mJ_317 (by decide +kernel) (ns_iload 2 rfl) rfl ?_
  refine nk_icond (c := .eq) (off := 23) (len := 3) (t := 78) (pc' := 58) mJ_317 (by decide +kernel) (by decide +kernel) rfl (fun hc => ?_) (fun hc => ?_)
  · have hr := nk_ifp (c := l4 = 0) hc hr
    refine nk_sub [] (L' := []) rfl ?_
    exact ja_X4_endsBody_b78_ok zs _ _ _ _ _ t_s0 hr
  · have hr := nk_ifn (c := l4 = 0) hc hr
    refine nk_p (i := .aload_n 0) (len := 1) (pc' := 59) mJ_317 (by decide +kernel) (ns_aload_n 0 rfl rfl) rfl ?_
    refine nk_getM (cj := 3) (z := 0) (x := 42) (len := 3) (ci := 4) (k := 0) (pc' := 62) ja_okT mJ_317 (by decide +kernel) (by decide +kernel) (by decide +kernel) t_l0 rfl (fun t1 => ?_)
    refine nk_getC (f := (2, 0, 0)) (x := 71) (len := 3) (ci := 3) (k := 1) (pc' := 65) ja_okT mJ_317 (by decide +kernel) (by decide +kernel) (by decide +kernel) (by decide) t1 rfl ?_
    have t2 : nk_cl ja_Tt (ja_c (S.2 l0 0) 1) = some 0 := nk_tc (y := 0) ja_okT t1 (by decide +kernel)
    refine nk_getC (f := (4, 1, 48)) (x := 471) (len := 3) (ci := 0) (k := 7) (pc' := 68) ja_okT mJ_317 (by decide +kernel) (by decide +kernel) (by decide +kernel) (by decide) t2 rfl ?_
    have t3 : nk_ar ja_Tt (ja_c (ja_c (S.2 l0 0) 1) 7) = some (1, 48) := nk_ta ja_okT t2 (by decide +kernel)
    refine nk_p (i := .iload_n 3) (len := 1) (pc' := 69) mJ_317 (by decide +kernel) (ns_iload_n 1 rfl rfl) rfl ?_
    obtain ⟨h4, hr⟩ := nk_cke hr
    refine nk_iald (len := 1) (N := 48) (pc' := 70) mJ_317 (by decide +kernel) t3 h4.1 h4.2 rfl rfl ?_
    refine nk_p (i := .iconst 1) (len := 1) (pc' := 71) mJ_317 (by decide +kernel) (ns_iconst (c := 1) (by decide +kernel)) rfl ?_
    refine nk_icmp (c := .ne) (off := 7) (len := 3) (t := 78) (pc' := 74) mJ_317 (by decide +kernel) (by decide +kernel) rfl (fun hc => ?_) (fun hc => ?_)
    · have hr := nk_ifn (c := (S.1 (ja_c (ja_c (S.2 l0 0) 1) 7) l3.toNat) = 1) hc hr
      refine nk_sub [] (L' := []) rfl ?_
      exact ja_X4_endsBody_b78_ok zs _ _ _ _ _ t_s0 hr
    · have hr := nk_ifp (c := (S.1 (ja_c (ja_c (S.2 l0 0) 1) 7) l3.toNat) = 1) (Decidable.of_not_not hc) hr
      refine nk_p (i := .iconst 1) (len := 1) (pc' := 75) mJ_317 (by decide +kernel) (ns_iconst (c := 1) (by decide +kernel)) rfl ?_
      refine nk_p (i := .goto 4) (len := 3) (pc' := 79) mJ_317 (by decide +kernel) (ns_goto (by decide +kernel)) rfl ?_
      refine nk_sub [] (L' := []) rfl ?_
      exact ja_X4_endsBody_b79_ok zs _ _ _ _ _ _ t_s0 hr
noncomputable def ja_X4_endsBody_b21 (l0 : Nat) (l3 : Int) (s0 : Int) (S : nk_S) : Option (Int × nk_S) :=
  if s0 = 0 then
    ja_X4_endsBody_b53 l0 l3 s0 (ja_c l0 3) l3 0 S
  else
    nk_bd (ja_X7_fromTop (ja_c l0 2) 0 S) fun r4 S5 =>
    if 0 ≤ r4 ∧ r4 < 20 then
    ja_X4_endsBody_b53 l0 l3 s0 (ja_c l0 3) l3 (S5.1 (ja_c (ja_c l0 2) 4) r4.toNat) S5
    else none
theorem ja_X4_endsBody_b21_ok (zs : List Int32) : ∀ (l0 : Nat) (l3 : Int) (s0 : Int) (S : nk_S) (R : Int × nk_S), nk_cl ja_Tt l0 = some 4 → ja_X4_endsBody_b21 l0 l3 s0 S = some R → nk_K ja_Tt mi_Γ (mi_ev zs) 1 317 21 [(0, nk_r l0), (3, nk_i l3)] [nk_i s0] S R := by
  intro l0 l3 s0 S R t_l0 hr
  unfold ja_X4_endsBody_b21 at hr
  refine nk_p (i := .istore 4) (len := 2) (pc' := 23) mJ_317 (by decide +kernel) (ns_istore (L' := [(4, nk_i s0), (0, nk_r l0), (3, nk_i l3)]) rfl rfl (by decide +kernel)) rfl ?_
  refine nk_p (i := .aload_n 0) (len := 1) (pc' := 24) mJ_317 (by decide +kernel) (ns_aload_n 1 rfl rfl) rfl ?_
  refine nk_getC (f := (2, 8, 0)) (x := 21) (len := 3) (ci := 4) (k := 3) (pc' := 27) ja_okT mJ_317 (by decide +kernel) (by decide +kernel) (by decide +kernel) (by decide) t_l0 rfl ?_
  have t1 : nk_cl ja_Tt (ja_c l0 3) = some 8 := nk_tc (y := 0) ja_okT t_l0 (by decide +kernel)
  refine nk_p (i := .iload_n 3) (len := 1) (pc' := 28) mJ_317 (by decide +kernel) (ns_iload_n 2 rfl rfl) rfl ?_
  refine nk_p (i := .iload 4) (len := 2) (pc' := 30) mJ_317 (by decide +kernel) (ns_iload 0 rfl) rfl ?_
  refine nk_icond (c := .eq) (off := 22) (len := 3) (t := 52) (pc' := 33) mJ_317 (by decide +kernel) (by decide +kernel) rfl (fun hc => ?_) (fun hc => ?_)
  · have hr := nk_ifp (c := s0 = 0) hc hr
    refine nk_p (i := .lconst 0) (len := 1) (pc' := 53) mJ_317 (by decide +kernel) (ns_lconst (c := 0) (by decide +kernel)) rfl ?_
    refine nk_sub [1, 2, 0] (L' := [(0, nk_r l0), (3, nk_i l3), (4, nk_i s0)]) rfl ?_
    exact ja_X4_endsBody_b53_ok zs _ _ _ _ _ _ _ _ t_l0 t1 hr
  · have hr := nk_ifn (c := s0 = 0) hc hr
    refine nk_p (i := .aload_n 0) (len := 1) (pc' := 34) mJ_317 (by decide +kernel) (ns_aload_n 1 rfl rfl) rfl ?_
    refine nk_getC (f := (2, 7, 0)) (x := 12) (len := 3) (ci := 4) (k := 2) (pc' := 37) ja_okT mJ_317 (by decide +kernel) (by decide +kernel) (by decide +kernel) (by decide) t_l0 rfl ?_
    have t2 : nk_cl ja_Tt (ja_c l0 2) = some 7 := nk_tc (y := 0) ja_okT t_l0 (by decide +kernel)
    refine nk_getC (f := (4, 2, 20)) (x := 299) (len := 3) (ci := 7) (k := 4) (pc' := 40) ja_okT mJ_317 (by decide +kernel) (by decide +kernel) (by decide +kernel) (by decide) t2 rfl ?_
    have t3 : nk_ar ja_Tt (ja_c (ja_c l0 2) 4) = some (2, 20) := nk_ta ja_okT t2 (by decide +kernel)
    refine nk_p (i := .aload_n 0) (len := 1) (pc' := 41) mJ_317 (by decide +kernel) (ns_aload_n 1 rfl rfl) rfl ?_
    refine nk_getC (f := (2, 7, 0)) (x := 12) (len := 3) (ci := 4) (k := 2) (pc' := 44) ja_okT mJ_317 (by decide +kernel) (by decide +kernel) (by decide +kernel) (by decide) t_l0 rfl ?_
    refine nk_p (i := .iconst 0) (len := 1) (pc' := 45) mJ_317 (by decide +kernel) (ns_iconst (c := 0) (by decide +kernel)) rfl ?_
    obtain ⟨r4, S5, h6, hr⟩ := nk_bde hr
    refine nk_callV (ci := 7) (n := 1) (x := 290) (len := 3) (j' := 403) (q' := 1) (r := r4) (S' := S5) (L2 := [(0, nk_r (ja_c l0 2)), (1, nk_i 0)]) (rest := [nk_r (ja_c (ja_c l0 2) 4), nk_i l3, nk_r (ja_c l0 3)]) (st' := [nk_i r4, nk_r (ja_c (ja_c l0 2) 4), nk_i l3, nk_r (ja_c l0 3)]) (pc' := 48) mJ_317 (by decide +kernel) (by decide +kernel) rfl rfl t2 (Nat.le_of_ble_eq_true rfl) mJ_403 (Nat.le_of_ble_eq_true rfl) rfl (ja_X7_fromTop_ok zs _ _ _ _ t2 h6) rfl ?_
    obtain ⟨h7, hr⟩ := nk_cke hr
    refine nk_lald (len := 1) (N := 20) (pc' := 49) mJ_317 (by decide +kernel) t3 h7.1 h7.2 rfl rfl ?_
    refine nk_p (i := .goto 4) (len := 3) (pc' := 53) mJ_317 (by decide +kernel) (ns_goto (by decide +kernel)) rfl ?_
    refine nk_sub [1, 2, 0] (L' := [(0, nk_r l0), (3, nk_i l3), (4, nk_i s0)]) rfl ?_
    exact ja_X4_endsBody_b53_ok zs _ _ _ _ _ _ _ _ t_l0 t1 hr
noncomputable def ja_X4_endsBody (l0 : Nat) (l1 : Int) (l2 : Int) (S : nk_S) : Option (Int × nk_S) :=
  if 0 ≤ l1 ∧ l1 < 1024 then
  nk_lt (S.1 (ja_c (S.2 l0 0) 8) l1.toNat) fun v4 =>
  if l2 = 42 then
    ja_X4_endsBody_b21 l0 v4 1 S
  else
    ja_X4_endsBody_b21 l0 v4 0 S
  else none
theorem ja_X4_endsBody_ok (zs : List Int32) : ∀ (l0 : Nat) (l1 : Int) (l2 : Int) (S : nk_S) (R : Int × nk_S), nk_cl ja_Tt l0 = some 4 → ja_X4_endsBody l0 l1 l2 S = some R → nk_K ja_Tt mi_Γ (mi_ev zs) 1 317 0 [(0, nk_r l0), (1, nk_i l1), (2, nk_i l2)] [] S R := by
  intro l0 l1 l2 S R t_l0 hr
  unfold ja_X4_endsBody at hr
  refine nk_p (i := .aload_n 0) (len := 1) (pc' := 1) mJ_317 (by decide +kernel) (ns_aload_n 0 rfl rfl) rfl ?_
  refine nk_getM (cj := 3) (z := 0) (x := 42) (len := 3) (ci := 4) (k := 0) (pc' := 4) ja_okT mJ_317 (by decide +kernel) (by decide +kernel) (by decide +kernel) t_l0 rfl (fun t1 => ?_)
  refine nk_getC (f := (4, 1, 1024)) (x := 176) (len := 3) (ci := 3) (k := 8) (pc' := 7) ja_okT mJ_317 (by decide +kernel) (by decide +kernel) (by decide +kernel) (by decide) t1 rfl ?_
  have t2 : nk_ar ja_Tt (ja_c (S.2 l0 0) 8) = some (1, 1024) := nk_ta ja_okT t1 (by decide +kernel)
  refine nk_p (i := .iload_n 1) (len := 1) (pc' := 8) mJ_317 (by decide +kernel) (ns_iload_n 1 rfl rfl) rfl ?_
  obtain ⟨h3, hr⟩ := nk_cke hr
  refine nk_iald (len := 1) (N := 1024) (pc' := 9) mJ_317 (by decide +kernel) t2 h3.1 h3.2 rfl rfl ?_
  obtain ⟨v4, h5, hr⟩ := nk_lte hr
  refine nk_p (i := .istore_n 3) (len := 1) (pc' := 10) mJ_317 (by decide +kernel) (ns_istore_n (L' := [(3, nk_i v4), (0, nk_r l0), (1, nk_i l1), (2, nk_i l2)]) h5 rfl rfl (by decide +kernel)) rfl ?_
  refine nk_p (i := .iload_n 2) (len := 1) (pc' := 11) mJ_317 (by decide +kernel) (ns_iload_n 3 rfl rfl) rfl ?_
  refine nk_p (i := .bipush 42) (len := 2) (pc' := 13) mJ_317 (by decide +kernel) (ns_bipush (c := 42) (by decide +kernel)) rfl ?_
  refine nk_icmp (c := .ne) (off := 7) (len := 3) (t := 20) (pc' := 16) mJ_317 (by decide +kernel) (by decide +kernel) rfl (fun hc => ?_) (fun hc => ?_)
  · have hr := nk_ifn (c := l2 = 42) hc hr
    refine nk_p (i := .iconst 0) (len := 1) (pc' := 21) mJ_317 (by decide +kernel) (ns_iconst (c := 0) (by decide +kernel)) rfl ?_
    refine nk_sub [1, 0] (L' := [(0, nk_r l0), (3, nk_i v4)]) rfl ?_
    exact ja_X4_endsBody_b21_ok zs _ _ _ _ _ t_l0 hr
  · have hr := nk_ifp (c := l2 = 42) (Decidable.of_not_not hc) hr
    refine nk_p (i := .iconst 1) (len := 1) (pc' := 17) mJ_317 (by decide +kernel) (ns_iconst (c := 1) (by decide +kernel)) rfl ?_
    refine nk_p (i := .goto 4) (len := 3) (pc' := 21) mJ_317 (by decide +kernel) (ns_goto (by decide +kernel)) rfl ?_
    refine nk_sub [1, 0] (L' := [(0, nk_r l0), (3, nk_i v4)]) rfl ?_
    exact ja_X4_endsBody_b21_ok zs _ _ _ _ _ t_l0 hr
/-! SafeCode$States change (I)V -/
noncomputable def ja_X7_change_b41 (rec13 : Nat → Int → Int → Int → nk_S → Option (Int × nk_S)) (l0 : Nat) (l1 : Int) (l2 : Int) (l4 : Int) (S : nk_S) : Option (Int × nk_S) :=
  if 0 ≤ l4 ∧ l4 < 20 then
  nk_bd (ja_X7_copyOf (S.1 (ja_c l0 5) l4.toNat) S) fun r3 S4 =>
  if r3 = l1 then
    nk_lt (nk_wi S4 (ja_c l0 5) l4.toNat (nk_land (S.1 (ja_c l0 5) l4.toNat) (nk_land l2 (-4222124650659841)))) fun S10 =>
    nk_lt (nk_w (l4 + 1)) fun v12 =>
    rec13 l0 l1 l2 v12 S10
  else
    nk_lt (nk_wi S4 (ja_c l0 5) l4.toNat (nk_land (S.1 (ja_c l0 5) l4.toNat) l2)) fun S6 =>
    nk_lt (nk_w (l4 + 1)) fun v8 =>
    rec13 l0 l1 l2 v8 S6
  else none
theorem ja_X7_change_b41_ok (zs : List Int32) {rec13 : Nat → Int → Int → Int → nk_S → Option (Int × nk_S)} (hrec13 : ∀ (l0 : Nat) (l1 : Int) (l2 : Int) (l4 : Int) (S : nk_S) (R : Int × nk_S), nk_cl ja_Tt l0 = some 7 → rec13 l0 l1 l2 l4 S = some R → nk_K ja_Tt mi_Γ (mi_ev zs) 0 398 13 [(0, nk_r l0), (1, nk_i l1), (2, nk_l l2), (4, nk_i l4)] [] S R) : ∀ (l0 : Nat) (l1 : Int) (l2 : Int) (l4 : Int) (S : nk_S) (R : Int × nk_S), nk_cl ja_Tt l0 = some 7 → ja_X7_change_b41 rec13 l0 l1 l2 l4 S = some R → nk_K ja_Tt mi_Γ (mi_ev zs) 0 398 41 [(0, nk_r l0), (1, nk_i l1), (2, nk_l l2), (4, nk_i l4)] [] S R := by
  intro l0 l1 l2 l4 S R t_l0 hr
  unfold ja_X7_change_b41 at hr
  refine nk_p (i := .aload_n 0) (len := 1) (pc' := 42) mJ_398 (by decide +kernel) (ns_aload_n 0 rfl rfl) rfl ?_
  refine nk_getC (f := (4, 2, 20)) (x := 28) (len := 3) (ci := 7) (k := 5) (pc' := 45) ja_okT mJ_398 (by decide +kernel) (by decide +kernel) (by decide +kernel) (by decide) t_l0 rfl ?_
  have t1 : nk_ar ja_Tt (ja_c l0 5) = some (2, 20) := nk_ta ja_okT t_l0 (by decide +kernel)
  refine nk_p (i := .iload 4) (len := 2) (pc' := 47) mJ_398 (by decide +kernel) (ns_iload 3 rfl) rfl ?_
  refine nk_p (i := .dup2) (len := 1) (pc' := 48) mJ_398 (by decide +kernel) (ns_dup2 rfl rfl) rfl ?_
  obtain ⟨h2, hr⟩ := nk_cke hr
  refine nk_lald (len := 1) (N := 20) (pc' := 49) mJ_398 (by decide +kernel) t1 h2.1 h2.2 rfl rfl ?_
  refine nk_p (i := .aload_n 0) (len := 1) (pc' := 50) mJ_398 (by decide +kernel) (ns_aload_n 0 rfl rfl) rfl ?_
  refine nk_getC (f := (4, 2, 20)) (x := 28) (len := 3) (ci := 7) (k := 5) (pc' := 53) ja_okT mJ_398 (by decide +kernel) (by decide +kernel) (by decide +kernel) (by decide) t_l0 rfl ?_
  refine nk_p (i := .iload 4) (len := 2) (pc' := 55) mJ_398 (by decide +kernel) (ns_iload 3 rfl) rfl ?_
  refine nk_lald (len := 1) (N := 20) (pc' := 56) mJ_398 (by decide +kernel) t1 h2.1 h2.2 rfl rfl ?_
  obtain ⟨r3, S4, h5, hr⟩ := nk_bde hr
  refine nk_callS (ci := 0) (n := 1) (x := 66) (len := 3) (j' := 400) (q' := 1) (r := r3) (S' := S4) (L2 := [(0, nk_l (S.1 (ja_c l0 5) l4.toNat))]) (rest := [nk_l (S.1 (ja_c l0 5) l4.toNat), nk_i l4, nk_r (ja_c l0 5)]) (st' := [nk_i r3, nk_l (S.1 (ja_c l0 5) l4.toNat), nk_i l4, nk_r (ja_c l0 5)]) (pc' := 59) mJ_398 (by decide +kernel) (by decide +kernel) (Nat.le_of_ble_eq_true rfl) rfl rfl (Nat.le_of_ble_eq_true rfl) mJ_400 (Nat.le_of_ble_eq_true rfl) ja_Tpos rfl (ja_X7_copyOf_ok zs _ _ _ h5) rfl ?_
  refine nk_p (i := .iload_n 1) (len := 1) (pc' := 60) mJ_398 (by decide +kernel) (ns_iload_n 1 rfl rfl) rfl ?_
  refine nk_icmp (c := .ne) (off := 11) (len := 3) (t := 71) (pc' := 63) mJ_398 (by decide +kernel) (by decide +kernel) rfl (fun hc => ?_) (fun hc => ?_)
  · have hr := nk_ifn (c := r3 = l1) hc hr
    refine nk_p (i := .lload_n 2) (len := 1) (pc' := 72) mJ_398 (by decide +kernel) (ns_lload_n 2 rfl rfl) rfl ?_
    refine nk_p (i := .land) (len := 1) (pc' := 73) mJ_398 (by decide +kernel) ns_land rfl ?_
    obtain ⟨S6, h7, hr⟩ := nk_lte hr
    refine nk_last (len := 1) (N := 20) (pc' := 74) mJ_398 (by decide +kernel) t1 h2.1 h2.2 rfl rfl h7 ?_
    obtain ⟨v8, h9, hr⟩ := nk_lte hr
    refine nk_p (i := .iinc 4 1) (len := 3) (pc' := 77) mJ_398 (by decide +kernel) (ns_iinc (c := 1) (L' := [(4, nk_i v8), (0, nk_r l0), (1, nk_i l1), (2, nk_l l2)]) 3 rfl (by decide +kernel) h9 rfl (by decide +kernel)) rfl ?_
    refine nk_p (i := .goto (-64)) (len := 3) (pc' := 13) mJ_398 (by decide +kernel) (ns_goto (by decide +kernel)) rfl ?_
    refine nk_sub [1, 2, 3, 0] (L' := [(0, nk_r l0), (1, nk_i l1), (2, nk_l l2), (4, nk_i v8)]) rfl ?_
    exact hrec13 _ _ _ _ _ _ t_l0 hr
  · have hr := nk_ifp (c := r3 = l1) (Decidable.of_not_not hc) hr
    refine nk_p (i := .lload_n 2) (len := 1) (pc' := 64) mJ_398 (by decide +kernel) (ns_lload_n 2 rfl rfl) rfl ?_
    refine nk_ldc2 (x := 69) (len := 3) (X := (-4222124650659841)) (v := (-4222124650659841)) (pc' := 67) mJ_398 (by decide +kernel) (by decide +kernel) (by decide +kernel) rfl ?_
    refine nk_p (i := .land) (len := 1) (pc' := 68) mJ_398 (by decide +kernel) ns_land rfl ?_
    refine nk_p (i := .goto 4) (len := 3) (pc' := 72) mJ_398 (by decide +kernel) (ns_goto (by decide +kernel)) rfl ?_
    refine nk_p (i := .land) (len := 1) (pc' := 73) mJ_398 (by decide +kernel) ns_land rfl ?_
    obtain ⟨S10, h11, hr⟩ := nk_lte hr
    refine nk_last (len := 1) (N := 20) (pc' := 74) mJ_398 (by decide +kernel) t1 h2.1 h2.2 rfl rfl h11 ?_
    obtain ⟨v12, h13, hr⟩ := nk_lte hr
    refine nk_p (i := .iinc 4 1) (len := 3) (pc' := 77) mJ_398 (by decide +kernel) (ns_iinc (c := 1) (L' := [(4, nk_i v12), (0, nk_r l0), (1, nk_i l1), (2, nk_l l2)]) 3 rfl (by decide +kernel) h13 rfl (by decide +kernel)) rfl ?_
    refine nk_p (i := .goto (-64)) (len := 3) (pc' := 13) mJ_398 (by decide +kernel) (ns_goto (by decide +kernel)) rfl ?_
    refine nk_sub [1, 2, 3, 0] (L' := [(0, nk_r l0), (1, nk_i l1), (2, nk_l l2), (4, nk_i v12)]) rfl ?_
    exact hrec13 _ _ _ _ _ _ t_l0 hr
noncomputable def ja_X7_change_b13 (rec13 : Nat → Int → Int → Int → nk_S → Option (Int × nk_S)) (l0 : Nat) (l1 : Int) (l2 : Int) (l4 : Int) (S : nk_S) : Option (Int × nk_S) :=
  if (nk_w (12 + (S.1 l0 7))) ≤ l4 then
    some (0, S)
  else
    if l4 < (S.1 l0 6) then
      ja_X7_change_b41 rec13 l0 l1 l2 l4 S
    else
      if l4 < 12 then
        nk_lt (nk_w (l4 + 1)) fun v1 =>
        rec13 l0 l1 l2 v1 S
      else
        ja_X7_change_b41 rec13 l0 l1 l2 l4 S
theorem ja_X7_change_b13_ok (zs : List Int32) {rec13 : Nat → Int → Int → Int → nk_S → Option (Int × nk_S)} (hrec13 : ∀ (l0 : Nat) (l1 : Int) (l2 : Int) (l4 : Int) (S : nk_S) (R : Int × nk_S), nk_cl ja_Tt l0 = some 7 → rec13 l0 l1 l2 l4 S = some R → nk_K ja_Tt mi_Γ (mi_ev zs) 0 398 13 [(0, nk_r l0), (1, nk_i l1), (2, nk_l l2), (4, nk_i l4)] [] S R) : ∀ (l0 : Nat) (l1 : Int) (l2 : Int) (l4 : Int) (S : nk_S) (R : Int × nk_S), nk_cl ja_Tt l0 = some 7 → ja_X7_change_b13 rec13 l0 l1 l2 l4 S = some R → nk_K ja_Tt mi_Γ (mi_ev zs) 0 398 13 [(0, nk_r l0), (1, nk_i l1), (2, nk_l l2), (4, nk_i l4)] [] S R := by
  intro l0 l1 l2 l4 S R t_l0 hr
  unfold ja_X7_change_b13 at hr
  refine nk_p (i := .iload 4) (len := 2) (pc' := 15) mJ_398 (by decide +kernel) (ns_iload 3 rfl) rfl ?_
  refine nk_p (i := .bipush 12) (len := 2) (pc' := 17) mJ_398 (by decide +kernel) (ns_bipush (c := 12) (by decide +kernel)) rfl ?_
  refine nk_p (i := .aload_n 0) (len := 1) (pc' := 18) mJ_398 (by decide +kernel) (ns_aload_n 0 rfl rfl) rfl ?_
  refine nk_getI (y := (0, 0)) (x := 55) (len := 3) (ci := 7) (k := 7) (pc' := 21) ja_okT mJ_398 (by decide +kernel) (by decide +kernel) (by decide +kernel) t_l0 rfl ?_
  refine nk_p (i := .iadd) (len := 1) (pc' := 22) mJ_398 (by decide +kernel) ns_iadd rfl ?_
  refine nk_icmp (c := .ge) (off := 58) (len := 3) (t := 80) (pc' := 25) mJ_398 (by decide +kernel) (by decide +kernel) rfl (fun hc => ?_) (fun hc => ?_)
  · have hr := nk_ifp (c := (nk_w (12 + (S.1 l0 7))) ≤ l4) hc hr
    cases hr
    exact nk_vret (len := 1) mJ_398 (by decide +kernel) rfl
  · have hr := nk_ifn (c := (nk_w (12 + (S.1 l0 7))) ≤ l4) hc hr
    refine nk_p (i := .iload 4) (len := 2) (pc' := 27) mJ_398 (by decide +kernel) (ns_iload 3 rfl) rfl ?_
    refine nk_p (i := .aload_n 0) (len := 1) (pc' := 28) mJ_398 (by decide +kernel) (ns_aload_n 0 rfl rfl) rfl ?_
    refine nk_getI (y := (0, 0)) (x := 51) (len := 3) (ci := 7) (k := 6) (pc' := 31) ja_okT mJ_398 (by decide +kernel) (by decide +kernel) (by decide +kernel) t_l0 rfl ?_
    refine nk_icmp (c := .lt) (off := 10) (len := 3) (t := 41) (pc' := 34) mJ_398 (by decide +kernel) (by decide +kernel) rfl (fun hc => ?_) (fun hc => ?_)
    · have hr := nk_ifp (c := l4 < (S.1 l0 6)) hc hr
      exact ja_X7_change_b41_ok zs hrec13 _ _ _ _ _ _ t_l0 hr
    · have hr := nk_ifn (c := l4 < (S.1 l0 6)) hc hr
      refine nk_p (i := .iload 4) (len := 2) (pc' := 36) mJ_398 (by decide +kernel) (ns_iload 3 rfl) rfl ?_
      refine nk_p (i := .bipush 12) (len := 2) (pc' := 38) mJ_398 (by decide +kernel) (ns_bipush (c := 12) (by decide +kernel)) rfl ?_
      refine nk_icmp (c := .lt) (off := 36) (len := 3) (t := 74) (pc' := 41) mJ_398 (by decide +kernel) (by decide +kernel) rfl (fun hc => ?_) (fun hc => ?_)
      · have hr := nk_ifp (c := l4 < 12) hc hr
        obtain ⟨v1, h2, hr⟩ := nk_lte hr
        refine nk_p (i := .iinc 4 1) (len := 3) (pc' := 77) mJ_398 (by decide +kernel) (ns_iinc (c := 1) (L' := [(4, nk_i v1), (0, nk_r l0), (1, nk_i l1), (2, nk_l l2)]) 3 rfl (by decide +kernel) h2 rfl (by decide +kernel)) rfl ?_
        refine nk_p (i := .goto (-64)) (len := 3) (pc' := 13) mJ_398 (by decide +kernel) (ns_goto (by decide +kernel)) rfl ?_
        refine nk_sub [1, 2, 3, 0] (L' := [(0, nk_r l0), (1, nk_i l1), (2, nk_l l2), (4, nk_i v1)]) rfl ?_
        exact hrec13 _ _ _ _ _ _ t_l0 hr
      · have hr := nk_ifn (c := l4 < 12) hc hr
        exact ja_X7_change_b41_ok zs hrec13 _ _ _ _ _ _ t_l0 hr
noncomputable def ja_X7_change_L13 : Nat → Nat → Int → Int → Int → nk_S → Option (Int × nk_S)
  | 0, _, _, _, _, _ => none
  | n + 1, l0, l1, l2, l4, S => ja_X7_change_b13 (ja_X7_change_L13 n) l0 l1 l2 l4 S
theorem ja_X7_change_L13_ok (zs : List Int32) : ∀ n : Nat, ∀ (l0 : Nat) (l1 : Int) (l2 : Int) (l4 : Int) (S : nk_S) (R : Int × nk_S), nk_cl ja_Tt l0 = some 7 → ja_X7_change_L13 n l0 l1 l2 l4 S = some R → nk_K ja_Tt mi_Γ (mi_ev zs) 0 398 13 [(0, nk_r l0), (1, nk_i l1), (2, nk_l l2), (4, nk_i l4)] [] S R := by
  intro n
  induction n with
  | zero => intro _ _ _ _ _ _ _ hr; cases hr
  | succ n ih => intro l0 l1 l2 l4 S R t_l0 hr; exact ja_X7_change_b13_ok zs ih l0 l1 l2 l4 S R t_l0 hr
noncomputable def ja_X7_change (l0 : Nat) (l1 : Int) (S : nk_S) : Option (Int × nk_S) :=
  nk_lt (nk_lxor (nk_lshl 68736258049 l1) (-1)) fun v1 =>
  ja_X7_change_L13 nk_big l0 l1 v1 0 S
theorem ja_X7_change_ok (zs : List Int32) : ∀ (l0 : Nat) (l1 : Int) (S : nk_S) (R : Int × nk_S), nk_cl ja_Tt l0 = some 7 → ja_X7_change l0 l1 S = some R → nk_K ja_Tt mi_Γ (mi_ev zs) 0 398 0 [(0, nk_r l0), (1, nk_i l1)] [] S R := by
  intro l0 l1 S R t_l0 hr
  unfold ja_X7_change at hr
  refine nk_ldc2 (x := 64) (len := 3) (X := 68736258049) (v := 68736258049) (pc' := 3) mJ_398 (by decide +kernel) (by decide +kernel) (by decide +kernel) rfl ?_
  refine nk_p (i := .iload_n 1) (len := 1) (pc' := 4) mJ_398 (by decide +kernel) (ns_iload_n 1 rfl rfl) rfl ?_
  refine nk_p (i := .lshl) (len := 1) (pc' := 5) mJ_398 (by decide +kernel) ns_lshl rfl ?_
  refine nk_ldc2 (x := 39) (len := 3) (X := (-1)) (v := (-1)) (pc' := 8) mJ_398 (by decide +kernel) (by decide +kernel) (by decide +kernel) rfl ?_
  refine nk_p (i := .lxor) (len := 1) (pc' := 9) mJ_398 (by decide +kernel) ns_lxor rfl ?_
  obtain ⟨v1, h2, hr⟩ := nk_lte hr
  refine nk_p (i := .lstore_n 2) (len := 1) (pc' := 10) mJ_398 (by decide +kernel) (ns_lstore_n (L' := [(2, nk_l v1), (0, nk_r l0), (1, nk_i l1)]) h2 rfl rfl (by decide +kernel)) rfl ?_
  refine nk_p (i := .iconst 0) (len := 1) (pc' := 11) mJ_398 (by decide +kernel) (ns_iconst (c := 0) (by decide +kernel)) rfl ?_
  refine nk_p (i := .istore 4) (len := 2) (pc' := 13) mJ_398 (by decide +kernel) (ns_istore (L' := [(4, nk_i 0), (2, nk_l v1), (0, nk_r l0), (1, nk_i l1)]) rfl rfl (by decide +kernel)) rfl ?_
  refine nk_sub [2, 3, 1, 0] (L' := [(0, nk_r l0), (1, nk_i l1), (2, nk_l v1), (4, nk_i 0)]) rfl ?_
  exact ja_X7_change_L13_ok zs nk_big _ _ _ _ _ _ t_l0 hr
/-! SafeCode$States storeTop (I)V -/
noncomputable def ja_X7_storeTop (l0 : Nat) (l1 : Int) (S : nk_S) : Option (Int × nk_S) :=
  nk_bd (ja_X7_change l0 l1 S) fun r1 S2 =>
  nk_lt (nk_w ((nk_w (12 + (S2.1 l0 7))) - 1)) fun v4 =>
  if 0 ≤ v4 ∧ v4 < 20 then
  if 0 ≤ l1 ∧ l1 < 20 then
  nk_lt (nk_wi S2 (ja_c l0 4) l1.toNat (S2.1 (ja_c l0 4) v4.toNat)) fun S9 =>
  nk_lt (nk_wi S9 (ja_c l0 5) l1.toNat (nk_land (S9.1 (ja_c l0 5) v4.toNat) (-4222124650659841))) fun S12 =>
  nk_lt (nk_wi S12 l0 7 (nk_w ((S12.1 l0 7) - 1))) fun S14 =>
  some (0, S14)
  else none
  else none
theorem ja_X7_storeTop_ok (zs : List Int32) : ∀ (l0 : Nat) (l1 : Int) (S : nk_S) (R : Int × nk_S), nk_cl ja_Tt l0 = some 7 → ja_X7_storeTop l0 l1 S = some R → nk_K ja_Tt mi_Γ (mi_ev zs) 0 409 0 [(0, nk_r l0), (1, nk_i l1)] [] S R := by
  intro l0 l1 S R t_l0 hr
  unfold ja_X7_storeTop at hr
  refine nk_p (i := .aload_n 0) (len := 1) (pc' := 1) mJ_409 (by decide +kernel) (ns_aload_n 0 rfl rfl) rfl ?_
  refine nk_p (i := .iload_n 1) (len := 1) (pc' := 2) mJ_409 (by decide +kernel) (ns_iload_n 1 rfl rfl) rfl ?_
  obtain ⟨r1, S2, h3, hr⟩ := nk_bde hr
  refine nk_callV (ci := 7) (n := 1) (x := 71) (len := 3) (j' := 398) (q' := 0) (r := r1) (S' := S2) (L2 := [(0, nk_r l0), (1, nk_i l1)]) (rest := []) (st' := []) (pc' := 5) mJ_409 (by decide +kernel) (by decide +kernel) rfl rfl t_l0 (Nat.le_of_ble_eq_true rfl) mJ_398 (Nat.le_of_ble_eq_true rfl) rfl (ja_X7_change_ok zs _ _ _ _ t_l0 h3) rfl ?_
  refine nk_p (i := .bipush 12) (len := 2) (pc' := 7) mJ_409 (by decide +kernel) (ns_bipush (c := 12) (by decide +kernel)) rfl ?_
  refine nk_p (i := .aload_n 0) (len := 1) (pc' := 8) mJ_409 (by decide +kernel) (ns_aload_n 0 rfl rfl) rfl ?_
  refine nk_getI (y := (0, 0)) (x := 55) (len := 3) (ci := 7) (k := 7) (pc' := 11) ja_okT mJ_409 (by decide +kernel) (by decide +kernel) (by decide +kernel) t_l0 rfl ?_
  refine nk_p (i := .iadd) (len := 1) (pc' := 12) mJ_409 (by decide +kernel) ns_iadd rfl ?_
  refine nk_p (i := .iconst 1) (len := 1) (pc' := 13) mJ_409 (by decide +kernel) (ns_iconst (c := 1) (by decide +kernel)) rfl ?_
  refine nk_p (i := .isub) (len := 1) (pc' := 14) mJ_409 (by decide +kernel) ns_isub rfl ?_
  obtain ⟨v4, h5, hr⟩ := nk_lte hr
  refine nk_p (i := .istore_n 2) (len := 1) (pc' := 15) mJ_409 (by decide +kernel) (ns_istore_n (L' := [(2, nk_i v4), (0, nk_r l0), (1, nk_i l1)]) h5 rfl rfl (by decide +kernel)) rfl ?_
  refine nk_p (i := .aload_n 0) (len := 1) (pc' := 16) mJ_409 (by decide +kernel) (ns_aload_n 1 rfl rfl) rfl ?_
  refine nk_getC (f := (4, 2, 20)) (x := 25) (len := 3) (ci := 7) (k := 4) (pc' := 19) ja_okT mJ_409 (by decide +kernel) (by decide +kernel) (by decide +kernel) (by decide) t_l0 rfl ?_
  have t6 : nk_ar ja_Tt (ja_c l0 4) = some (2, 20) := nk_ta ja_okT t_l0 (by decide +kernel)
  refine nk_p (i := .iload_n 1) (len := 1) (pc' := 20) mJ_409 (by decide +kernel) (ns_iload_n 2 rfl rfl) rfl ?_
  refine nk_p (i := .aload_n 0) (len := 1) (pc' := 21) mJ_409 (by decide +kernel) (ns_aload_n 1 rfl rfl) rfl ?_
  refine nk_getC (f := (4, 2, 20)) (x := 25) (len := 3) (ci := 7) (k := 4) (pc' := 24) ja_okT mJ_409 (by decide +kernel) (by decide +kernel) (by decide +kernel) (by decide) t_l0 rfl ?_
  refine nk_p (i := .iload_n 2) (len := 1) (pc' := 25) mJ_409 (by decide +kernel) (ns_iload_n 0 rfl rfl) rfl ?_
  obtain ⟨h7, hr⟩ := nk_cke hr
  refine nk_lald (len := 1) (N := 20) (pc' := 26) mJ_409 (by decide +kernel) t6 h7.1 h7.2 rfl rfl ?_
  obtain ⟨h8, hr⟩ := nk_cke hr
  obtain ⟨S9, h10, hr⟩ := nk_lte hr
  refine nk_last (len := 1) (N := 20) (pc' := 27) mJ_409 (by decide +kernel) t6 h8.1 h8.2 rfl rfl h10 ?_
  refine nk_p (i := .aload_n 0) (len := 1) (pc' := 28) mJ_409 (by decide +kernel) (ns_aload_n 1 rfl rfl) rfl ?_
  refine nk_getC (f := (4, 2, 20)) (x := 28) (len := 3) (ci := 7) (k := 5) (pc' := 31) ja_okT mJ_409 (by decide +kernel) (by decide +kernel) (by decide +kernel) (by decide) t_l0 rfl ?_
  have t11 : nk_ar ja_Tt (ja_c l0 5) = some (2, 20) := nk_ta ja_okT t_l0 (by decide +kernel)
  refine nk_p (i := .iload_n 1) (len := 1) (pc' := 32) mJ_409 (by decide +kernel) (ns_iload_n 2 rfl rfl) rfl ?_
  refine nk_p (i := .aload_n 0) (len := 1) (pc' := 33) mJ_409 (by decide +kernel) (ns_aload_n 1 rfl rfl) rfl ?_
  refine nk_getC (f := (4, 2, 20)) (x := 28) (len := 3) (ci := 7) (k := 5) (pc' := 36) ja_okT mJ_409 (by decide +kernel) (by decide +kernel) (by decide +kernel) (by decide) t_l0 rfl ?_
  refine nk_p (i := .iload_n 2) (len := 1) (pc' := 37) mJ_409 (by decide +kernel) (ns_iload_n 0 rfl rfl) rfl ?_
  refine nk_lald (len := 1) (N := 20) (pc' := 38) mJ_409 (by decide +kernel) t11 h7.1 h7.2 rfl rfl ?_
  refine nk_ldc2 (x := 69) (len := 3) (X := (-4222124650659841)) (v := (-4222124650659841)) (pc' := 41) mJ_409 (by decide +kernel) (by decide +kernel) (by decide +kernel) rfl ?_
  refine nk_p (i := .land) (len := 1) (pc' := 42) mJ_409 (by decide +kernel) ns_land rfl ?_
  obtain ⟨S12, h13, hr⟩ := nk_lte hr
  refine nk_last (len := 1) (N := 20) (pc' := 43) mJ_409 (by decide +kernel) t11 h8.1 h8.2 rfl rfl h13 ?_
  refine nk_p (i := .aload_n 0) (len := 1) (pc' := 44) mJ_409 (by decide +kernel) (ns_aload_n 1 rfl rfl) rfl ?_
  refine nk_p (i := .dup) (len := 1) (pc' := 45) mJ_409 (by decide +kernel) (ns_dup rfl) rfl ?_
  refine nk_getI (y := (0, 0)) (x := 55) (len := 3) (ci := 7) (k := 7) (pc' := 48) ja_okT mJ_409 (by decide +kernel) (by decide +kernel) (by decide +kernel) t_l0 rfl ?_
  refine nk_p (i := .iconst 1) (len := 1) (pc' := 49) mJ_409 (by decide +kernel) (ns_iconst (c := 1) (by decide +kernel)) rfl ?_
  refine nk_p (i := .isub) (len := 1) (pc' := 50) mJ_409 (by decide +kernel) ns_isub rfl ?_
  obtain ⟨S14, h15, hr⟩ := nk_lte hr
  refine nk_putI (y := (0, 0)) (ty := .int) (x := 55) (len := 3) (ci := 7) (k := 7) (pc' := 53) ja_okT mJ_409 (by decide +kernel) (by decide +kernel) (by decide +kernel) t_l0 (Or.inl rfl) rfl h15 ?_
  cases hr
  exact nk_vret (len := 1) mJ_409 (by decide +kernel) rfl
/-! SafeCode$Ranges plus (JI)J -/
noncomputable def ja_X5_plus (l0 : Nat) (l1 : Int) (l3 : Int) (S : nk_S) : Option (Int × nk_S) :=
  nk_bd (ja_X5_lowest l1 S) fun r1 S2 =>
  nk_bd (ja_X5_highest l1 S2) fun r4 S5 =>
  nk_bd (ja_X5_around l0 (nk_W (r1 + l3)) (nk_W (r4 + l3)) S5) fun r7 S8 =>
  some (r7, S8)
theorem ja_X5_plus_ok (zs : List Int32) : ∀ (l0 : Nat) (l1 : Int) (l3 : Int) (S : nk_S) (R : Int × nk_S), nk_cl ja_Tt l0 = some 5 → ja_X5_plus l0 l1 l3 S = some R → nk_K ja_Tt mi_Γ (mi_ev zs) 2 367 0 [(0, nk_r l0), (1, nk_l l1), (3, nk_i l3)] [] S R := by
  intro l0 l1 l3 S R t_l0 hr
  unfold ja_X5_plus at hr
  refine nk_p (i := .aload_n 0) (len := 1) (pc' := 1) mJ_367 (by decide +kernel) (ns_aload_n 0 rfl rfl) rfl ?_
  refine nk_p (i := .lload_n 1) (len := 1) (pc' := 2) mJ_367 (by decide +kernel) (ns_lload_n 1 rfl rfl) rfl ?_
  obtain ⟨r1, S2, h3, hr⟩ := nk_bde hr
  refine nk_callS (ci := 0) (n := 1) (x := 19) (len := 3) (j' := 363) (q' := 1) (r := r1) (S' := S2) (L2 := [(0, nk_l l1)]) (rest := [nk_r l0]) (st' := [nk_i r1, nk_r l0]) (pc' := 5) mJ_367 (by decide +kernel) (by decide +kernel) (Nat.le_of_ble_eq_true rfl) rfl rfl (Nat.le_of_ble_eq_true rfl) mJ_363 (Nat.le_of_ble_eq_true rfl) ja_Tpos rfl (ja_X5_lowest_ok zs _ _ _ h3) rfl ?_
  refine nk_p (i := .i2l) (len := 1) (pc' := 6) mJ_367 (by decide +kernel) ns_i2l rfl ?_
  refine nk_p (i := .iload_n 3) (len := 1) (pc' := 7) mJ_367 (by decide +kernel) (ns_iload_n 2 rfl rfl) rfl ?_
  refine nk_p (i := .i2l) (len := 1) (pc' := 8) mJ_367 (by decide +kernel) ns_i2l rfl ?_
  refine nk_p (i := .ladd) (len := 1) (pc' := 9) mJ_367 (by decide +kernel) ns_ladd rfl ?_
  refine nk_p (i := .lload_n 1) (len := 1) (pc' := 10) mJ_367 (by decide +kernel) (ns_lload_n 1 rfl rfl) rfl ?_
  obtain ⟨r4, S5, h6, hr⟩ := nk_bde hr
  refine nk_callS (ci := 0) (n := 1) (x := 29) (len := 3) (j' := 356) (q' := 1) (r := r4) (S' := S5) (L2 := [(0, nk_l l1)]) (rest := [nk_l (nk_W (r1 + l3)), nk_r l0]) (st' := [nk_i r4, nk_l (nk_W (r1 + l3)), nk_r l0]) (pc' := 13) mJ_367 (by decide +kernel) (by decide +kernel) (Nat.le_of_ble_eq_true rfl) rfl rfl (Nat.le_of_ble_eq_true rfl) mJ_356 (Nat.le_of_ble_eq_true rfl) ja_Tpos rfl (ja_X5_highest_ok zs _ _ _ h6) rfl ?_
  refine nk_p (i := .i2l) (len := 1) (pc' := 14) mJ_367 (by decide +kernel) ns_i2l rfl ?_
  refine nk_p (i := .iload_n 3) (len := 1) (pc' := 15) mJ_367 (by decide +kernel) (ns_iload_n 2 rfl rfl) rfl ?_
  refine nk_p (i := .i2l) (len := 1) (pc' := 16) mJ_367 (by decide +kernel) ns_i2l rfl ?_
  refine nk_p (i := .ladd) (len := 1) (pc' := 17) mJ_367 (by decide +kernel) ns_ladd rfl ?_
  obtain ⟨r7, S8, h9, hr⟩ := nk_bde hr
  refine nk_callV (ci := 5) (n := 2) (x := 77) (len := 3) (j' := 349) (q' := 2) (r := r7) (S' := S8) (L2 := [(0, nk_r l0), (1, nk_l (nk_W (r1 + l3))), (3, nk_l (nk_W (r4 + l3)))]) (rest := []) (st' := [nk_l r7]) (pc' := 20) mJ_367 (by decide +kernel) (by decide +kernel) rfl rfl t_l0 (Nat.le_of_ble_eq_true rfl) mJ_349 (Nat.le_of_ble_eq_true rfl) rfl (ja_X5_around_ok zs _ _ _ _ _ t_l0 h9) rfl ?_
  cases hr
  exact nk_lret (len := 1) mJ_367 (by decide +kernel) rfl
/-! SafeCode$States swap ()V -/
noncomputable def ja_X7_swap (l0 : Nat) (S : nk_S) : Option (Int × nk_S) :=
  nk_lt (nk_w ((nk_w (12 + (S.1 l0 7))) - 1)) fun v1 =>
  if 0 ≤ v1 ∧ v1 < 20 then
  nk_lt (S.1 (ja_c l0 4) v1.toNat) fun v5 =>
  nk_lt (S.1 (ja_c l0 5) v1.toNat) fun v8 =>
  if 0 ≤ (nk_w (v1 - 1)) ∧ (nk_w (v1 - 1)) < 20 then
  nk_lt (nk_wi S (ja_c l0 4) v1.toNat (S.1 (ja_c l0 4) (nk_w (v1 - 1)).toNat)) fun S11 =>
  nk_lt (nk_wi S11 (ja_c l0 5) v1.toNat (S11.1 (ja_c l0 5) (nk_w (v1 - 1)).toNat)) fun S13 =>
  nk_lt (nk_wi S13 (ja_c l0 4) (nk_w (v1 - 1)).toNat v5) fun S15 =>
  nk_lt (nk_wi S15 (ja_c l0 5) (nk_w (v1 - 1)).toNat v8) fun S17 =>
  some (0, S17)
  else none
  else none
theorem ja_X7_swap_ok (zs : List Int32) : ∀ (l0 : Nat) (S : nk_S) (R : Int × nk_S), nk_cl ja_Tt l0 = some 7 → ja_X7_swap l0 S = some R → nk_K ja_Tt mi_Γ (mi_ev zs) 0 410 0 [(0, nk_r l0)] [] S R := by
  intro l0 S R t_l0 hr
  unfold ja_X7_swap at hr
  refine nk_p (i := .bipush 12) (len := 2) (pc' := 2) mJ_410 (by decide +kernel) (ns_bipush (c := 12) (by decide +kernel)) rfl ?_
  refine nk_p (i := .aload_n 0) (len := 1) (pc' := 3) mJ_410 (by decide +kernel) (ns_aload_n 0 rfl rfl) rfl ?_
  refine nk_getI (y := (0, 0)) (x := 55) (len := 3) (ci := 7) (k := 7) (pc' := 6) ja_okT mJ_410 (by decide +kernel) (by decide +kernel) (by decide +kernel) t_l0 rfl ?_
  refine nk_p (i := .iadd) (len := 1) (pc' := 7) mJ_410 (by decide +kernel) ns_iadd rfl ?_
  refine nk_p (i := .iconst 1) (len := 1) (pc' := 8) mJ_410 (by decide +kernel) (ns_iconst (c := 1) (by decide +kernel)) rfl ?_
  refine nk_p (i := .isub) (len := 1) (pc' := 9) mJ_410 (by decide +kernel) ns_isub rfl ?_
  obtain ⟨v1, h2, hr⟩ := nk_lte hr
  refine nk_p (i := .istore_n 1) (len := 1) (pc' := 10) mJ_410 (by decide +kernel) (ns_istore_n (L' := [(1, nk_i v1), (0, nk_r l0)]) h2 rfl rfl (by decide +kernel)) rfl ?_
  refine nk_p (i := .aload_n 0) (len := 1) (pc' := 11) mJ_410 (by decide +kernel) (ns_aload_n 1 rfl rfl) rfl ?_
  refine nk_getC (f := (4, 2, 20)) (x := 25) (len := 3) (ci := 7) (k := 4) (pc' := 14) ja_okT mJ_410 (by decide +kernel) (by decide +kernel) (by decide +kernel) (by decide) t_l0 rfl ?_
  have t3 : nk_ar ja_Tt (ja_c l0 4) = some (2, 20) := nk_ta ja_okT t_l0 (by decide +kernel)
  refine nk_p (i := .iload_n 1) (len := 1) (pc' := 15) mJ_410 (by decide +kernel) (ns_iload_n 0 rfl rfl) rfl ?_
  obtain ⟨h4, hr⟩ := nk_cke hr
  refine nk_lald (len := 1) (N := 20) (pc' := 16) mJ_410 (by decide +kernel) t3 h4.1 h4.2 rfl rfl ?_
  obtain ⟨v5, h6, hr⟩ := nk_lte hr
  refine nk_p (i := .lstore_n 2) (len := 1) (pc' := 17) mJ_410 (by decide +kernel) (ns_lstore_n (L' := [(2, nk_l v5), (1, nk_i v1), (0, nk_r l0)]) h6 rfl rfl (by decide +kernel)) rfl ?_
  refine nk_p (i := .aload_n 0) (len := 1) (pc' := 18) mJ_410 (by decide +kernel) (ns_aload_n 2 rfl rfl) rfl ?_
  refine nk_getC (f := (4, 2, 20)) (x := 28) (len := 3) (ci := 7) (k := 5) (pc' := 21) ja_okT mJ_410 (by decide +kernel) (by decide +kernel) (by decide +kernel) (by decide) t_l0 rfl ?_
  have t7 : nk_ar ja_Tt (ja_c l0 5) = some (2, 20) := nk_ta ja_okT t_l0 (by decide +kernel)
  refine nk_p (i := .iload_n 1) (len := 1) (pc' := 22) mJ_410 (by decide +kernel) (ns_iload_n 1 rfl rfl) rfl ?_
  refine nk_lald (len := 1) (N := 20) (pc' := 23) mJ_410 (by decide +kernel) t7 h4.1 h4.2 rfl rfl ?_
  obtain ⟨v8, h9, hr⟩ := nk_lte hr
  refine nk_p (i := .lstore 4) (len := 2) (pc' := 25) mJ_410 (by decide +kernel) (ns_lstore (L' := [(4, nk_l v8), (2, nk_l v5), (1, nk_i v1), (0, nk_r l0)]) h9 rfl (by decide +kernel)) rfl ?_
  refine nk_p (i := .aload_n 0) (len := 1) (pc' := 26) mJ_410 (by decide +kernel) (ns_aload_n 3 rfl rfl) rfl ?_
  refine nk_getC (f := (4, 2, 20)) (x := 25) (len := 3) (ci := 7) (k := 4) (pc' := 29) ja_okT mJ_410 (by decide +kernel) (by decide +kernel) (by decide +kernel) (by decide) t_l0 rfl ?_
  refine nk_p (i := .iload_n 1) (len := 1) (pc' := 30) mJ_410 (by decide +kernel) (ns_iload_n 2 rfl rfl) rfl ?_
  refine nk_p (i := .aload_n 0) (len := 1) (pc' := 31) mJ_410 (by decide +kernel) (ns_aload_n 3 rfl rfl) rfl ?_
  refine nk_getC (f := (4, 2, 20)) (x := 25) (len := 3) (ci := 7) (k := 4) (pc' := 34) ja_okT mJ_410 (by decide +kernel) (by decide +kernel) (by decide +kernel) (by decide) t_l0 rfl ?_
  refine nk_p (i := .iload_n 1) (len := 1) (pc' := 35) mJ_410 (by decide +kernel) (ns_iload_n 2 rfl rfl) rfl ?_
  refine nk_p (i := .iconst 1) (len := 1) (pc' := 36) mJ_410 (by decide +kernel) (ns_iconst (c := 1) (by decide +kernel)) rfl ?_
  refine nk_p (i := .isub) (len := 1) (pc' := 37) mJ_410 (by decide +kernel) ns_isub rfl ?_
  obtain ⟨h10, hr⟩ := nk_cke hr
  refine nk_lald (len := 1) (N := 20) (pc' := 38) mJ_410 (by decide +kernel) t3 h10.1 h10.2 rfl rfl ?_
  obtain ⟨S11, h12, hr⟩ := nk_lte hr
  refine nk_last (len := 1) (N := 20) (pc' := 39) mJ_410 (by decide +kernel) t3 h4.1 h4.2 rfl rfl h12 ?_
  refine nk_p (i := .aload_n 0) (len := 1) (pc' := 40) mJ_410 (by decide +kernel) (ns_aload_n 3 rfl rfl) rfl ?_
  refine nk_getC (f := (4, 2, 20)) (x := 28) (len := 3) (ci := 7) (k := 5) (pc' := 43) ja_okT mJ_410 (by decide +kernel) (by decide +kernel) (by decide +kernel) (by decide) t_l0 rfl ?_
  refine nk_p (i := .iload_n 1) (len := 1) (pc' := 44) mJ_410 (by decide +kernel) (ns_iload_n 2 rfl rfl) rfl ?_
  refine nk_p (i := .aload_n 0) (len := 1) (pc' := 45) mJ_410 (by decide +kernel) (ns_aload_n 3 rfl rfl) rfl ?_
  refine nk_getC (f := (4, 2, 20)) (x := 28) (len := 3) (ci := 7) (k := 5) (pc' := 48) ja_okT mJ_410 (by decide +kernel) (by decide +kernel) (by decide +kernel) (by decide) t_l0 rfl ?_
  refine nk_p (i := .iload_n 1) (len := 1) (pc' := 49) mJ_410 (by decide +kernel) (ns_iload_n 2 rfl rfl) rfl ?_
  refine nk_p (i := .iconst 1) (len := 1) (pc' := 50) mJ_410 (by decide +kernel) (ns_iconst (c := 1) (by decide +kernel)) rfl ?_
  refine nk_p (i := .isub) (len := 1) (pc' := 51) mJ_410 (by decide +kernel) ns_isub rfl ?_
  refine nk_lald (len := 1) (N := 20) (pc' := 52) mJ_410 (by decide +kernel) t7 h10.1 h10.2 rfl rfl ?_
  obtain ⟨S13, h14, hr⟩ := nk_lte hr
  refine nk_last (len := 1) (N := 20) (pc' := 53) mJ_410 (by decide +kernel) t7 h4.1 h4.2 rfl rfl h14 ?_
  refine nk_p (i := .aload_n 0) (len := 1) (pc' := 54) mJ_410 (by decide +kernel) (ns_aload_n 3 rfl rfl) rfl ?_
  refine nk_getC (f := (4, 2, 20)) (x := 25) (len := 3) (ci := 7) (k := 4) (pc' := 57) ja_okT mJ_410 (by decide +kernel) (by decide +kernel) (by decide +kernel) (by decide) t_l0 rfl ?_
  refine nk_p (i := .iload_n 1) (len := 1) (pc' := 58) mJ_410 (by decide +kernel) (ns_iload_n 2 rfl rfl) rfl ?_
  refine nk_p (i := .iconst 1) (len := 1) (pc' := 59) mJ_410 (by decide +kernel) (ns_iconst (c := 1) (by decide +kernel)) rfl ?_
  refine nk_p (i := .isub) (len := 1) (pc' := 60) mJ_410 (by decide +kernel) ns_isub rfl ?_
  refine nk_p (i := .lload_n 2) (len := 1) (pc' := 61) mJ_410 (by decide +kernel) (ns_lload_n 1 rfl rfl) rfl ?_
  obtain ⟨S15, h16, hr⟩ := nk_lte hr
  refine nk_last (len := 1) (N := 20) (pc' := 62) mJ_410 (by decide +kernel) t3 h10.1 h10.2 rfl rfl h16 ?_
  refine nk_p (i := .aload_n 0) (len := 1) (pc' := 63) mJ_410 (by decide +kernel) (ns_aload_n 3 rfl rfl) rfl ?_
  refine nk_getC (f := (4, 2, 20)) (x := 28) (len := 3) (ci := 7) (k := 5) (pc' := 66) ja_okT mJ_410 (by decide +kernel) (by decide +kernel) (by decide +kernel) (by decide) t_l0 rfl ?_
  refine nk_p (i := .iload_n 1) (len := 1) (pc' := 67) mJ_410 (by decide +kernel) (ns_iload_n 2 rfl rfl) rfl ?_
  refine nk_p (i := .iconst 1) (len := 1) (pc' := 68) mJ_410 (by decide +kernel) (ns_iconst (c := 1) (by decide +kernel)) rfl ?_
  refine nk_p (i := .isub) (len := 1) (pc' := 69) mJ_410 (by decide +kernel) ns_isub rfl ?_
  refine nk_p (i := .lload 4) (len := 2) (pc' := 71) mJ_410 (by decide +kernel) (ns_lload 0 rfl) rfl ?_
  obtain ⟨S17, h18, hr⟩ := nk_lte hr
  refine nk_last (len := 1) (N := 20) (pc' := 72) mJ_410 (by decide +kernel) t7 h10.1 h10.2 rfl rfl h18 ?_
  cases hr
  exact nk_vret (len := 1) mJ_410 (by decide +kernel) rfl
/-! SafeCode$Proof moves (II)Z -/
noncomputable def ja_X4_moves_b250 (l0 : Nat) (S : nk_S) : Option (Int × nk_S) :=
  nk_bd (ja_X7_drop (ja_c l0 2) 1 S) fun r2 S3 =>
  some (1, S3)
theorem ja_X4_moves_b250_ok (zs : List Int32) : ∀ (l0 : Nat) (S : nk_S) (R : Int × nk_S), nk_cl ja_Tt l0 = some 4 → ja_X4_moves_b250 l0 S = some R → nk_K ja_Tt mi_Γ (mi_ev zs) 1 334 250 [(0, nk_r l0)] [] S R := by
  intro l0 S R t_l0 hr
  unfold ja_X4_moves_b250 at hr
  refine nk_p (i := .aload_n 0) (len := 1) (pc' := 251) mJ_334 (by decide +kernel) (ns_aload_n 0 rfl rfl) rfl ?_
  refine nk_getC (f := (2, 7, 0)) (x := 12) (len := 3) (ci := 4) (k := 2) (pc' := 254) ja_okT mJ_334 (by decide +kernel) (by decide +kernel) (by decide +kernel) (by decide) t_l0 rfl ?_
  have t1 : nk_cl ja_Tt (ja_c l0 2) = some 7 := nk_tc (y := 0) ja_okT t_l0 (by decide +kernel)
  refine nk_p (i := .iconst 1) (len := 1) (pc' := 255) mJ_334 (by decide +kernel) (ns_iconst (c := 1) (by decide +kernel)) rfl ?_
  obtain ⟨r2, S3, h4, hr⟩ := nk_bde hr
  refine nk_callV (ci := 7) (n := 1) (x := 321) (len := 3) (j' := 401) (q' := 0) (r := r2) (S' := S3) (L2 := [(0, nk_r (ja_c l0 2)), (1, nk_i 1)]) (rest := []) (st' := []) (pc' := 258) mJ_334 (by decide +kernel) (by decide +kernel) rfl rfl t1 (Nat.le_of_ble_eq_true rfl) mJ_401 (Nat.le_of_ble_eq_true rfl) rfl (ja_X7_drop_ok zs _ _ _ _ t1 h4) rfl ?_
  refine nk_p (i := .iconst 1) (len := 1) (pc' := 259) mJ_334 (by decide +kernel) (ns_iconst (c := 1) (by decide +kernel)) rfl ?_
  cases hr
  exact nk_iret (ty := .boolean) (len := 1) mJ_334 (by decide +kernel) rfl (nk_nar_z (by decide))
noncomputable def ja_X4_moves (l0 : Nat) (l1 : Int) (l2 : Int) (S : nk_S) : Option (Int × nk_S) :=
  if 0 ≤ l1 ∧ l1 < 1024 then
  nk_lt (S.1 (ja_c (S.2 l0 0) 5) l1.toNat) fun v4 =>
  nk_bd (ja_X7_fromTop (ja_c l0 2) 0 S) fun r7 S8 =>
  if l2 = 0 then
    nk_bd (ja_X5_pack v4 v4 S8) fun r10 S11 =>
    nk_bd (ja_X7_push (ja_c l0 2) r10 4503599627370496 S11) fun r13 S14 =>
    some (1, S14)
  else
  if l2 = 1 then
    nk_bd (ja_X7_push (ja_c l0 2) 4611686018427387904 9007199254740992 S8) fun r16 S17 =>
    some (1, S17)
  else
  if l2 = 2 then
    if 0 ≤ v4 ∧ v4 < 20 then
    nk_bd (ja_X7_push (ja_c l0 2) (S8.1 (ja_c (ja_c l0 2) 4) v4.toNat) (nk_lor (S8.1 (ja_c (ja_c l0 2) 5) v4.toNat) (nk_lshl (nk_w (v4 + 1)) 48)) S8) fun r22 S23 =>
    some (1, S23)
    else none
  else
  if l2 = 3 then
    nk_bd (ja_X7_storeTop (ja_c l0 2) v4 S8) fun r25 S26 =>
    some (1, S26)
  else
  if l2 = 4 then
    nk_lt (S8.1 (ja_c (S8.2 l0 0) 6) l1.toNat) fun v30 =>
    nk_bd (ja_X7_change (ja_c l0 2) v4 S8) fun r32 S33 =>
    if 0 ≤ v4 ∧ v4 < 20 then
    nk_bd (ja_X5_plus (S33.2 l0 1) (S33.1 (ja_c (ja_c l0 2) 4) v4.toNat) v30 S33) fun r38 S39 =>
    nk_lt (nk_wi S39 (ja_c (ja_c l0 2) 4) v4.toNat r38) fun S41 =>
    nk_lt (nk_wi S41 (ja_c (ja_c l0 2) 5) v4.toNat 4503599627370496) fun S44 =>
    some (1, S44)
    else none
  else
  if l2 = 5 then
    if 0 ≤ r7 ∧ r7 < 20 then
    nk_bd (ja_X7_push (ja_c l0 2) (S8.1 (ja_c (ja_c l0 2) 4) r7.toNat) (S8.1 (ja_c (ja_c l0 2) 5) r7.toNat) S8) fun r49 S50 =>
    some (1, S50)
    else none
  else
  if l2 = 6 then
    ja_X4_moves_b250 l0 S8
  else
  if l2 = 7 then
    nk_bd (ja_X7_swap (ja_c l0 2) S8) fun r52 S53 =>
    some (1, S53)
  else
  ja_X4_moves_b250 l0 S8
  else none
theorem ja_X4_moves_ok (zs : List Int32) : ∀ (l0 : Nat) (l1 : Int) (l2 : Int) (S : nk_S) (R : Int × nk_S), nk_cl ja_Tt l0 = some 4 → ja_X4_moves l0 l1 l2 S = some R → nk_K ja_Tt mi_Γ (mi_ev zs) 1 334 0 [(0, nk_r l0), (1, nk_i l1), (2, nk_i l2)] [] S R := by
  intro l0 l1 l2 S R t_l0 hr
  unfold ja_X4_moves at hr
  refine nk_p (i := .aload_n 0) (len := 1) (pc' := 1) mJ_334 (by decide +kernel) (ns_aload_n 0 rfl rfl) rfl ?_
  refine nk_getM (cj := 3) (z := 0) (x := 42) (len := 3) (ci := 4) (k := 0) (pc' := 4) ja_okT mJ_334 (by decide +kernel) (by decide +kernel) (by decide +kernel) t_l0 rfl (fun t1 => ?_)
  refine nk_getC (f := (4, 1, 1024)) (x := 113) (len := 3) (ci := 3) (k := 5) (pc' := 7) ja_okT mJ_334 (by decide +kernel) (by decide +kernel) (by decide +kernel) (by decide) t1 rfl ?_
  have t2 : nk_ar ja_Tt (ja_c (S.2 l0 0) 5) = some (1, 1024) := nk_ta ja_okT t1 (by decide +kernel)
  refine nk_p (i := .iload_n 1) (len := 1) (pc' := 8) mJ_334 (by decide +kernel) (ns_iload_n 1 rfl rfl) rfl ?_
  obtain ⟨h3, hr⟩ := nk_cke hr
  refine nk_iald (len := 1) (N := 1024) (pc' := 9) mJ_334 (by decide +kernel) t2 h3.1 h3.2 rfl rfl ?_
  obtain ⟨v4, h5, hr⟩ := nk_lte hr
  refine nk_p (i := .istore_n 3) (len := 1) (pc' := 10) mJ_334 (by decide +kernel) (ns_istore_n (L' := [(3, nk_i v4), (0, nk_r l0), (1, nk_i l1), (2, nk_i l2)]) h5 rfl rfl (by decide +kernel)) rfl ?_
  refine nk_p (i := .aload_n 0) (len := 1) (pc' := 11) mJ_334 (by decide +kernel) (ns_aload_n 1 rfl rfl) rfl ?_
  refine nk_getC (f := (2, 7, 0)) (x := 12) (len := 3) (ci := 4) (k := 2) (pc' := 14) ja_okT mJ_334 (by decide +kernel) (by decide +kernel) (by decide +kernel) (by decide) t_l0 rfl ?_
  have t6 : nk_cl ja_Tt (ja_c l0 2) = some 7 := nk_tc (y := 0) ja_okT t_l0 (by decide +kernel)
  refine nk_p (i := .iconst 0) (len := 1) (pc' := 15) mJ_334 (by decide +kernel) (ns_iconst (c := 0) (by decide +kernel)) rfl ?_
  obtain ⟨r7, S8, h9, hr⟩ := nk_bde hr
  refine nk_callV (ci := 7) (n := 1) (x := 290) (len := 3) (j' := 403) (q' := 1) (r := r7) (S' := S8) (L2 := [(0, nk_r (ja_c l0 2)), (1, nk_i 0)]) (rest := []) (st' := [nk_i r7]) (pc' := 18) mJ_334 (by decide +kernel) (by decide +kernel) rfl rfl t6 (Nat.le_of_ble_eq_true rfl) mJ_403 (Nat.le_of_ble_eq_true rfl) rfl (ja_X7_fromTop_ok zs _ _ _ _ t6 h9) rfl ?_
  refine nk_p (i := .istore 4) (len := 2) (pc' := 20) mJ_334 (by decide +kernel) (ns_istore (L' := [(4, nk_i r7), (3, nk_i v4), (0, nk_r l0), (1, nk_i l1), (2, nk_i l2)]) rfl rfl (by decide +kernel)) rfl ?_
  refine nk_p (i := .iload_n 2) (len := 1) (pc' := 21) mJ_334 (by decide +kernel) (ns_iload_n 4 rfl rfl) rfl ?_
  by_cases hc0 : l2 = 0
  · have hr := nk_ifp hc0 hr
    refine nk_p (i := .tableswitch 229 0 7 #[47, 65, 81, 117, 128, 189, 229, 219]) (len := 47) (pc' := 68) mJ_334 (by decide +kernel) (ns_tsw (V := 0) hc0 (by decide +kernel)) rfl ?_
    refine nk_p (i := .aload_n 0) (len := 1) (pc' := 69) mJ_334 (by decide +kernel) (ns_aload_n 2 rfl rfl) rfl ?_
    refine nk_getC (f := (2, 7, 0)) (x := 12) (len := 3) (ci := 4) (k := 2) (pc' := 72) ja_okT mJ_334 (by decide +kernel) (by decide +kernel) (by decide +kernel) (by decide) t_l0 rfl ?_
    refine nk_p (i := .iload_n 3) (len := 1) (pc' := 73) mJ_334 (by decide +kernel) (ns_iload_n 1 rfl rfl) rfl ?_
    refine nk_p (i := .iload_n 3) (len := 1) (pc' := 74) mJ_334 (by decide +kernel) (ns_iload_n 1 rfl rfl) rfl ?_
    obtain ⟨r10, S11, h12, hr⟩ := nk_bde hr
    refine nk_callS (ci := 0) (n := 2) (x := 293) (len := 3) (j' := 365) (q' := 2) (r := r10) (S' := S11) (L2 := [(0, nk_i v4), (1, nk_i v4)]) (rest := [nk_r (ja_c l0 2)]) (st' := [nk_l r10, nk_r (ja_c l0 2)]) (pc' := 77) mJ_334 (by decide +kernel) (by decide +kernel) (Nat.le_of_ble_eq_true rfl) rfl rfl (Nat.le_of_ble_eq_true rfl) mJ_365 (Nat.le_of_ble_eq_true rfl) ja_Tpos rfl (ja_X5_pack_ok zs _ _ _ _ h12) rfl ?_
    refine nk_ldc2 (x := 256) (len := 3) (X := 4503599627370496) (v := 4503599627370496) (pc' := 80) mJ_334 (by decide +kernel) (by decide +kernel) (by decide +kernel) rfl ?_
    obtain ⟨r13, S14, h15, hr⟩ := nk_bde hr
    refine nk_callV (ci := 7) (n := 2) (x := 258) (len := 3) (j' := 408) (q' := 0) (r := r13) (S' := S14) (L2 := [(0, nk_r (ja_c l0 2)), (1, nk_l r10), (3, nk_l 4503599627370496)]) (rest := []) (st' := []) (pc' := 83) mJ_334 (by decide +kernel) (by decide +kernel) rfl rfl t6 (Nat.le_of_ble_eq_true rfl) mJ_408 (Nat.le_of_ble_eq_true rfl) rfl (ja_X7_push_ok zs _ _ _ _ _ t6 h15) rfl ?_
    refine nk_p (i := .goto 175) (len := 3) (pc' := 258) mJ_334 (by decide +kernel) (ns_goto (by decide +kernel)) rfl ?_
    refine nk_p (i := .iconst 1) (len := 1) (pc' := 259) mJ_334 (by decide +kernel) (ns_iconst (c := 1) (by decide +kernel)) rfl ?_
    cases hr
    exact nk_iret (ty := .boolean) (len := 1) mJ_334 (by decide +kernel) rfl (nk_nar_z (by decide))
  have hr := nk_ifn hc0 hr
  by_cases hc1 : l2 = 1
  · have hr := nk_ifp hc1 hr
    refine nk_p (i := .tableswitch 229 0 7 #[47, 65, 81, 117, 128, 189, 229, 219]) (len := 47) (pc' := 86) mJ_334 (by decide +kernel) (ns_tsw (V := 1) hc1 (by decide +kernel)) rfl ?_
    refine nk_p (i := .aload_n 0) (len := 1) (pc' := 87) mJ_334 (by decide +kernel) (ns_aload_n 2 rfl rfl) rfl ?_
    refine nk_getC (f := (2, 7, 0)) (x := 12) (len := 3) (ci := 4) (k := 2) (pc' := 90) ja_okT mJ_334 (by decide +kernel) (by decide +kernel) (by decide +kernel) (by decide) t_l0 rfl ?_
    refine nk_ldc2 (x := 297) (len := 3) (X := 4611686018427387904) (v := 4611686018427387904) (pc' := 93) mJ_334 (by decide +kernel) (by decide +kernel) (by decide +kernel) rfl ?_
    refine nk_ldc2 (x := 279) (len := 3) (X := 9007199254740992) (v := 9007199254740992) (pc' := 96) mJ_334 (by decide +kernel) (by decide +kernel) (by decide +kernel) rfl ?_
    obtain ⟨r16, S17, h18, hr⟩ := nk_bde hr
    refine nk_callV (ci := 7) (n := 2) (x := 258) (len := 3) (j' := 408) (q' := 0) (r := r16) (S' := S17) (L2 := [(0, nk_r (ja_c l0 2)), (1, nk_l 4611686018427387904), (3, nk_l 9007199254740992)]) (rest := []) (st' := []) (pc' := 99) mJ_334 (by decide +kernel) (by decide +kernel) rfl rfl t6 (Nat.le_of_ble_eq_true rfl) mJ_408 (Nat.le_of_ble_eq_true rfl) rfl (ja_X7_push_ok zs _ _ _ _ _ t6 h18) rfl ?_
    refine nk_p (i := .goto 159) (len := 3) (pc' := 258) mJ_334 (by decide +kernel) (ns_goto (by decide +kernel)) rfl ?_
    refine nk_p (i := .iconst 1) (len := 1) (pc' := 259) mJ_334 (by decide +kernel) (ns_iconst (c := 1) (by decide +kernel)) rfl ?_
    cases hr
    exact nk_iret (ty := .boolean) (len := 1) mJ_334 (by decide +kernel) rfl (nk_nar_z (by decide))
  have hr := nk_ifn hc1 hr
  by_cases hc2 : l2 = 2
  · have hr := nk_ifp hc2 hr
    refine nk_p (i := .tableswitch 229 0 7 #[47, 65, 81, 117, 128, 189, 229, 219]) (len := 47) (pc' := 102) mJ_334 (by decide +kernel) (ns_tsw (V := 2) hc2 (by decide +kernel)) rfl ?_
    refine nk_p (i := .aload_n 0) (len := 1) (pc' := 103) mJ_334 (by decide +kernel) (ns_aload_n 2 rfl rfl) rfl ?_
    refine nk_getC (f := (2, 7, 0)) (x := 12) (len := 3) (ci := 4) (k := 2) (pc' := 106) ja_okT mJ_334 (by decide +kernel) (by decide +kernel) (by decide +kernel) (by decide) t_l0 rfl ?_
    refine nk_p (i := .aload_n 0) (len := 1) (pc' := 107) mJ_334 (by decide +kernel) (ns_aload_n 2 rfl rfl) rfl ?_
    refine nk_getC (f := (2, 7, 0)) (x := 12) (len := 3) (ci := 4) (k := 2) (pc' := 110) ja_okT mJ_334 (by decide +kernel) (by decide +kernel) (by decide +kernel) (by decide) t_l0 rfl ?_
    refine nk_getC (f := (4, 2, 20)) (x := 299) (len := 3) (ci := 7) (k := 4) (pc' := 113) ja_okT mJ_334 (by decide +kernel) (by decide +kernel) (by decide +kernel) (by decide) t6 rfl ?_
    have t19 : nk_ar ja_Tt (ja_c (ja_c l0 2) 4) = some (2, 20) := nk_ta ja_okT t6 (by decide +kernel)
    refine nk_p (i := .iload_n 3) (len := 1) (pc' := 114) mJ_334 (by decide +kernel) (ns_iload_n 1 rfl rfl) rfl ?_
    obtain ⟨h20, hr⟩ := nk_cke hr
    refine nk_lald (len := 1) (N := 20) (pc' := 115) mJ_334 (by decide +kernel) t19 h20.1 h20.2 rfl rfl ?_
    refine nk_p (i := .aload_n 0) (len := 1) (pc' := 116) mJ_334 (by decide +kernel) (ns_aload_n 2 rfl rfl) rfl ?_
    refine nk_getC (f := (2, 7, 0)) (x := 12) (len := 3) (ci := 4) (k := 2) (pc' := 119) ja_okT mJ_334 (by decide +kernel) (by decide +kernel) (by decide +kernel) (by decide) t_l0 rfl ?_
    refine nk_getC (f := (4, 2, 20)) (x := 302) (len := 3) (ci := 7) (k := 5) (pc' := 122) ja_okT mJ_334 (by decide +kernel) (by decide +kernel) (by decide +kernel) (by decide) t6 rfl ?_
    have t21 : nk_ar ja_Tt (ja_c (ja_c l0 2) 5) = some (2, 20) := nk_ta ja_okT t6 (by decide +kernel)
    refine nk_p (i := .iload_n 3) (len := 1) (pc' := 123) mJ_334 (by decide +kernel) (ns_iload_n 1 rfl rfl) rfl ?_
    refine nk_lald (len := 1) (N := 20) (pc' := 124) mJ_334 (by decide +kernel) t21 h20.1 h20.2 rfl rfl ?_
    refine nk_p (i := .iload_n 3) (len := 1) (pc' := 125) mJ_334 (by decide +kernel) (ns_iload_n 1 rfl rfl) rfl ?_
    refine nk_p (i := .iconst 1) (len := 1) (pc' := 126) mJ_334 (by decide +kernel) (ns_iconst (c := 1) (by decide +kernel)) rfl ?_
    refine nk_p (i := .iadd) (len := 1) (pc' := 127) mJ_334 (by decide +kernel) ns_iadd rfl ?_
    refine nk_p (i := .i2l) (len := 1) (pc' := 128) mJ_334 (by decide +kernel) ns_i2l rfl ?_
    refine nk_p (i := .bipush 48) (len := 2) (pc' := 130) mJ_334 (by decide +kernel) (ns_bipush (c := 48) (by decide +kernel)) rfl ?_
    refine nk_p (i := .lshl) (len := 1) (pc' := 131) mJ_334 (by decide +kernel) ns_lshl rfl ?_
    refine nk_p (i := .lor) (len := 1) (pc' := 132) mJ_334 (by decide +kernel) ns_lor rfl ?_
    obtain ⟨r22, S23, h24, hr⟩ := nk_bde hr
    refine nk_callV (ci := 7) (n := 2) (x := 258) (len := 3) (j' := 408) (q' := 0) (r := r22) (S' := S23) (L2 := [(0, nk_r (ja_c l0 2)), (1, nk_l (S8.1 (ja_c (ja_c l0 2) 4) v4.toNat)), (3, nk_l (nk_lor (S8.1 (ja_c (ja_c l0 2) 5) v4.toNat) (nk_lshl (nk_w (v4 + 1)) 48)))]) (rest := []) (st' := []) (pc' := 135) mJ_334 (by decide +kernel) (by decide +kernel) rfl rfl t6 (Nat.le_of_ble_eq_true rfl) mJ_408 (Nat.le_of_ble_eq_true rfl) rfl (ja_X7_push_ok zs _ _ _ _ _ t6 h24) rfl ?_
    refine nk_p (i := .goto 123) (len := 3) (pc' := 258) mJ_334 (by decide +kernel) (ns_goto (by decide +kernel)) rfl ?_
    refine nk_p (i := .iconst 1) (len := 1) (pc' := 259) mJ_334 (by decide +kernel) (ns_iconst (c := 1) (by decide +kernel)) rfl ?_
    cases hr
    exact nk_iret (ty := .boolean) (len := 1) mJ_334 (by decide +kernel) rfl (nk_nar_z (by decide))
  have hr := nk_ifn hc2 hr
  by_cases hc3 : l2 = 3
  · have hr := nk_ifp hc3 hr
    refine nk_p (i := .tableswitch 229 0 7 #[47, 65, 81, 117, 128, 189, 229, 219]) (len := 47) (pc' := 138) mJ_334 (by decide +kernel) (ns_tsw (V := 3) hc3 (by decide +kernel)) rfl ?_
    refine nk_p (i := .aload_n 0) (len := 1) (pc' := 139) mJ_334 (by decide +kernel) (ns_aload_n 2 rfl rfl) rfl ?_
    refine nk_getC (f := (2, 7, 0)) (x := 12) (len := 3) (ci := 4) (k := 2) (pc' := 142) ja_okT mJ_334 (by decide +kernel) (by decide +kernel) (by decide +kernel) (by decide) t_l0 rfl ?_
    refine nk_p (i := .iload_n 3) (len := 1) (pc' := 143) mJ_334 (by decide +kernel) (ns_iload_n 1 rfl rfl) rfl ?_
    obtain ⟨r25, S26, h27, hr⟩ := nk_bde hr
    refine nk_callV (ci := 7) (n := 1) (x := 305) (len := 3) (j' := 409) (q' := 0) (r := r25) (S' := S26) (L2 := [(0, nk_r (ja_c l0 2)), (1, nk_i v4)]) (rest := []) (st' := []) (pc' := 146) mJ_334 (by decide +kernel) (by decide +kernel) rfl rfl t6 (Nat.le_of_ble_eq_true rfl) mJ_409 (Nat.le_of_ble_eq_true rfl) rfl (ja_X7_storeTop_ok zs _ _ _ _ t6 h27) rfl ?_
    refine nk_p (i := .goto 112) (len := 3) (pc' := 258) mJ_334 (by decide +kernel) (ns_goto (by decide +kernel)) rfl ?_
    refine nk_p (i := .iconst 1) (len := 1) (pc' := 259) mJ_334 (by decide +kernel) (ns_iconst (c := 1) (by decide +kernel)) rfl ?_
    cases hr
    exact nk_iret (ty := .boolean) (len := 1) mJ_334 (by decide +kernel) rfl (nk_nar_z (by decide))
  have hr := nk_ifn hc3 hr
  by_cases hc4 : l2 = 4
  · have hr := nk_ifp hc4 hr
    refine nk_p (i := .tableswitch 229 0 7 #[47, 65, 81, 117, 128, 189, 229, 219]) (len := 47) (pc' := 149) mJ_334 (by decide +kernel) (ns_tsw (V := 4) hc4 (by decide +kernel)) rfl ?_
    refine nk_p (i := .aload_n 0) (len := 1) (pc' := 150) mJ_334 (by decide +kernel) (ns_aload_n 2 rfl rfl) rfl ?_
    refine nk_getM (cj := 3) (z := 0) (x := 42) (len := 3) (ci := 4) (k := 0) (pc' := 153) ja_okT mJ_334 (by decide +kernel) (by decide +kernel) (by decide +kernel) t_l0 rfl (fun t28 => ?_)
    refine nk_getC (f := (4, 1, 1024)) (x := 308) (len := 3) (ci := 3) (k := 6) (pc' := 156) ja_okT mJ_334 (by decide +kernel) (by decide +kernel) (by decide +kernel) (by decide) t28 rfl ?_
    have t29 : nk_ar ja_Tt (ja_c (S8.2 l0 0) 6) = some (1, 1024) := nk_ta ja_okT t28 (by decide +kernel)
    refine nk_p (i := .iload_n 1) (len := 1) (pc' := 157) mJ_334 (by decide +kernel) (ns_iload_n 3 rfl rfl) rfl ?_
    refine nk_iald (len := 1) (N := 1024) (pc' := 158) mJ_334 (by decide +kernel) t29 h3.1 h3.2 rfl rfl ?_
    obtain ⟨v30, h31, hr⟩ := nk_lte hr
    refine nk_p (i := .istore 5) (len := 2) (pc' := 160) mJ_334 (by decide +kernel) (ns_istore (L' := [(5, nk_i v30), (4, nk_i r7), (3, nk_i v4), (0, nk_r l0), (1, nk_i l1), (2, nk_i l2)]) h31 rfl (by decide +kernel)) rfl ?_
    refine nk_p (i := .aload_n 0) (len := 1) (pc' := 161) mJ_334 (by decide +kernel) (ns_aload_n 3 rfl rfl) rfl ?_
    refine nk_getC (f := (2, 7, 0)) (x := 12) (len := 3) (ci := 4) (k := 2) (pc' := 164) ja_okT mJ_334 (by decide +kernel) (by decide +kernel) (by decide +kernel) (by decide) t_l0 rfl ?_
    refine nk_p (i := .iload_n 3) (len := 1) (pc' := 165) mJ_334 (by decide +kernel) (ns_iload_n 2 rfl rfl) rfl ?_
    obtain ⟨r32, S33, h34, hr⟩ := nk_bde hr
    refine nk_callV (ci := 7) (n := 1) (x := 311) (len := 3) (j' := 398) (q' := 0) (r := r32) (S' := S33) (L2 := [(0, nk_r (ja_c l0 2)), (1, nk_i v4)]) (rest := []) (st' := []) (pc' := 168) mJ_334 (by decide +kernel) (by decide +kernel) rfl rfl t6 (Nat.le_of_ble_eq_true rfl) mJ_398 (Nat.le_of_ble_eq_true rfl) rfl (ja_X7_change_ok zs _ _ _ _ t6 h34) rfl ?_
    refine nk_p (i := .aload_n 0) (len := 1) (pc' := 169) mJ_334 (by decide +kernel) (ns_aload_n 3 rfl rfl) rfl ?_
    refine nk_getC (f := (2, 7, 0)) (x := 12) (len := 3) (ci := 4) (k := 2) (pc' := 172) ja_okT mJ_334 (by decide +kernel) (by decide +kernel) (by decide +kernel) (by decide) t_l0 rfl ?_
    refine nk_getC (f := (4, 2, 20)) (x := 299) (len := 3) (ci := 7) (k := 4) (pc' := 175) ja_okT mJ_334 (by decide +kernel) (by decide +kernel) (by decide +kernel) (by decide) t6 rfl ?_
    have t35 : nk_ar ja_Tt (ja_c (ja_c l0 2) 4) = some (2, 20) := nk_ta ja_okT t6 (by decide +kernel)
    refine nk_p (i := .iload_n 3) (len := 1) (pc' := 176) mJ_334 (by decide +kernel) (ns_iload_n 2 rfl rfl) rfl ?_
    refine nk_p (i := .aload_n 0) (len := 1) (pc' := 177) mJ_334 (by decide +kernel) (ns_aload_n 3 rfl rfl) rfl ?_
    refine nk_getM (cj := 5) (z := 0) (x := 52) (len := 3) (ci := 4) (k := 1) (pc' := 180) ja_okT mJ_334 (by decide +kernel) (by decide +kernel) (by decide +kernel) t_l0 rfl (fun t36 => ?_)
    refine nk_p (i := .aload_n 0) (len := 1) (pc' := 181) mJ_334 (by decide +kernel) (ns_aload_n 3 rfl rfl) rfl ?_
    refine nk_getC (f := (2, 7, 0)) (x := 12) (len := 3) (ci := 4) (k := 2) (pc' := 184) ja_okT mJ_334 (by decide +kernel) (by decide +kernel) (by decide +kernel) (by decide) t_l0 rfl ?_
    refine nk_getC (f := (4, 2, 20)) (x := 299) (len := 3) (ci := 7) (k := 4) (pc' := 187) ja_okT mJ_334 (by decide +kernel) (by decide +kernel) (by decide +kernel) (by decide) t6 rfl ?_
    refine nk_p (i := .iload_n 3) (len := 1) (pc' := 188) mJ_334 (by decide +kernel) (ns_iload_n 2 rfl rfl) rfl ?_
    obtain ⟨h37, hr⟩ := nk_cke hr
    refine nk_lald (len := 1) (N := 20) (pc' := 189) mJ_334 (by decide +kernel) t35 h37.1 h37.2 rfl rfl ?_
    refine nk_p (i := .iload 5) (len := 2) (pc' := 191) mJ_334 (by decide +kernel) (ns_iload 0 rfl) rfl ?_
    obtain ⟨r38, S39, h40, hr⟩ := nk_bde hr
    refine nk_callV (ci := 5) (n := 2) (x := 314) (len := 3) (j' := 367) (q' := 2) (r := r38) (S' := S39) (L2 := [(0, nk_r (S33.2 l0 1)), (1, nk_l (S33.1 (ja_c (ja_c l0 2) 4) v4.toNat)), (3, nk_i v30)]) (rest := [nk_i v4, nk_r (ja_c (ja_c l0 2) 4)]) (st' := [nk_l r38, nk_i v4, nk_r (ja_c (ja_c l0 2) 4)]) (pc' := 194) mJ_334 (by decide +kernel) (by decide +kernel) rfl rfl t36 (Nat.le_of_ble_eq_true rfl) mJ_367 (Nat.le_of_ble_eq_true rfl) rfl (ja_X5_plus_ok zs _ _ _ _ _ t36 h40) rfl ?_
    obtain ⟨S41, h42, hr⟩ := nk_lte hr
    refine nk_last (len := 1) (N := 20) (pc' := 195) mJ_334 (by decide +kernel) t35 h37.1 h37.2 rfl rfl h42 ?_
    refine nk_p (i := .aload_n 0) (len := 1) (pc' := 196) mJ_334 (by decide +kernel) (ns_aload_n 3 rfl rfl) rfl ?_
    refine nk_getC (f := (2, 7, 0)) (x := 12) (len := 3) (ci := 4) (k := 2) (pc' := 199) ja_okT mJ_334 (by decide +kernel) (by decide +kernel) (by decide +kernel) (by decide) t_l0 rfl ?_
    refine nk_getC (f := (4, 2, 20)) (x := 302) (len := 3) (ci := 7) (k := 5) (pc' := 202) ja_okT mJ_334 (by decide +kernel) (by decide +kernel) (by decide +kernel) (by decide) t6 rfl ?_
    have t43 : nk_ar ja_Tt (ja_c (ja_c l0 2) 5) = some (2, 20) := nk_ta ja_okT t6 (by decide +kernel)
    refine nk_p (i := .iload_n 3) (len := 1) (pc' := 203) mJ_334 (by decide +kernel) (ns_iload_n 2 rfl rfl) rfl ?_
    refine nk_ldc2 (x := 256) (len := 3) (X := 4503599627370496) (v := 4503599627370496) (pc' := 206) mJ_334 (by decide +kernel) (by decide +kernel) (by decide +kernel) rfl ?_
    obtain ⟨S44, h45, hr⟩ := nk_lte hr
    refine nk_last (len := 1) (N := 20) (pc' := 207) mJ_334 (by decide +kernel) t43 h37.1 h37.2 rfl rfl h45 ?_
    refine nk_p (i := .goto 51) (len := 3) (pc' := 258) mJ_334 (by decide +kernel) (ns_goto (by decide +kernel)) rfl ?_
    refine nk_p (i := .iconst 1) (len := 1) (pc' := 259) mJ_334 (by decide +kernel) (ns_iconst (c := 1) (by decide +kernel)) rfl ?_
    cases hr
    exact nk_iret (ty := .boolean) (len := 1) mJ_334 (by decide +kernel) rfl (nk_nar_z (by decide))
  have hr := nk_ifn hc4 hr
  by_cases hc5 : l2 = 5
  · have hr := nk_ifp hc5 hr
    refine nk_p (i := .tableswitch 229 0 7 #[47, 65, 81, 117, 128, 189, 229, 219]) (len := 47) (pc' := 210) mJ_334 (by decide +kernel) (ns_tsw (V := 5) hc5 (by decide +kernel)) rfl ?_
    refine nk_p (i := .aload_n 0) (len := 1) (pc' := 211) mJ_334 (by decide +kernel) (ns_aload_n 2 rfl rfl) rfl ?_
    refine nk_getC (f := (2, 7, 0)) (x := 12) (len := 3) (ci := 4) (k := 2) (pc' := 214) ja_okT mJ_334 (by decide +kernel) (by decide +kernel) (by decide +kernel) (by decide) t_l0 rfl ?_
    refine nk_p (i := .aload_n 0) (len := 1) (pc' := 215) mJ_334 (by decide +kernel) (ns_aload_n 2 rfl rfl) rfl ?_
    refine nk_getC (f := (2, 7, 0)) (x := 12) (len := 3) (ci := 4) (k := 2) (pc' := 218) ja_okT mJ_334 (by decide +kernel) (by decide +kernel) (by decide +kernel) (by decide) t_l0 rfl ?_
    refine nk_getC (f := (4, 2, 20)) (x := 299) (len := 3) (ci := 7) (k := 4) (pc' := 221) ja_okT mJ_334 (by decide +kernel) (by decide +kernel) (by decide +kernel) (by decide) t6 rfl ?_
    have t46 : nk_ar ja_Tt (ja_c (ja_c l0 2) 4) = some (2, 20) := nk_ta ja_okT t6 (by decide +kernel)
    refine nk_p (i := .iload 4) (len := 2) (pc' := 223) mJ_334 (by decide +kernel) (ns_iload 0 rfl) rfl ?_
    obtain ⟨h47, hr⟩ := nk_cke hr
    refine nk_lald (len := 1) (N := 20) (pc' := 224) mJ_334 (by decide +kernel) t46 h47.1 h47.2 rfl rfl ?_
    refine nk_p (i := .aload_n 0) (len := 1) (pc' := 225) mJ_334 (by decide +kernel) (ns_aload_n 2 rfl rfl) rfl ?_
    refine nk_getC (f := (2, 7, 0)) (x := 12) (len := 3) (ci := 4) (k := 2) (pc' := 228) ja_okT mJ_334 (by decide +kernel) (by decide +kernel) (by decide +kernel) (by decide) t_l0 rfl ?_
    refine nk_getC (f := (4, 2, 20)) (x := 302) (len := 3) (ci := 7) (k := 5) (pc' := 231) ja_okT mJ_334 (by decide +kernel) (by decide +kernel) (by decide +kernel) (by decide) t6 rfl ?_
    have t48 : nk_ar ja_Tt (ja_c (ja_c l0 2) 5) = some (2, 20) := nk_ta ja_okT t6 (by decide +kernel)
    refine nk_p (i := .iload 4) (len := 2) (pc' := 233) mJ_334 (by decide +kernel) (ns_iload 0 rfl) rfl ?_
    refine nk_lald (len := 1) (N := 20) (pc' := 234) mJ_334 (by decide +kernel) t48 h47.1 h47.2 rfl rfl ?_
    obtain ⟨r49, S50, h51, hr⟩ := nk_bde hr
    refine nk_callV (ci := 7) (n := 2) (x := 258) (len := 3) (j' := 408) (q' := 0) (r := r49) (S' := S50) (L2 := [(0, nk_r (ja_c l0 2)), (1, nk_l (S8.1 (ja_c (ja_c l0 2) 4) r7.toNat)), (3, nk_l (S8.1 (ja_c (ja_c l0 2) 5) r7.toNat))]) (rest := []) (st' := []) (pc' := 237) mJ_334 (by decide +kernel) (by decide +kernel) rfl rfl t6 (Nat.le_of_ble_eq_true rfl) mJ_408 (Nat.le_of_ble_eq_true rfl) rfl (ja_X7_push_ok zs _ _ _ _ _ t6 h51) rfl ?_
    refine nk_p (i := .goto 21) (len := 3) (pc' := 258) mJ_334 (by decide +kernel) (ns_goto (by decide +kernel)) rfl ?_
    refine nk_p (i := .iconst 1) (len := 1) (pc' := 259) mJ_334 (by decide +kernel) (ns_iconst (c := 1) (by decide +kernel)) rfl ?_
    cases hr
    exact nk_iret (ty := .boolean) (len := 1) mJ_334 (by decide +kernel) rfl (nk_nar_z (by decide))
  have hr := nk_ifn hc5 hr
  by_cases hc6 : l2 = 6
  · have hr := nk_ifp hc6 hr
    refine nk_p (i := .tableswitch 229 0 7 #[47, 65, 81, 117, 128, 189, 229, 219]) (len := 47) (pc' := 250) mJ_334 (by decide +kernel) (ns_tsw (V := 6) hc6 (by decide +kernel)) rfl ?_
    refine nk_sub [2] (L' := [(0, nk_r l0)]) rfl ?_
    exact ja_X4_moves_b250_ok zs _ _ _ t_l0 hr
  have hr := nk_ifn hc6 hr
  by_cases hc7 : l2 = 7
  · have hr := nk_ifp hc7 hr
    refine nk_p (i := .tableswitch 229 0 7 #[47, 65, 81, 117, 128, 189, 229, 219]) (len := 47) (pc' := 240) mJ_334 (by decide +kernel) (ns_tsw (V := 7) hc7 (by decide +kernel)) rfl ?_
    refine nk_p (i := .aload_n 0) (len := 1) (pc' := 241) mJ_334 (by decide +kernel) (ns_aload_n 2 rfl rfl) rfl ?_
    refine nk_getC (f := (2, 7, 0)) (x := 12) (len := 3) (ci := 4) (k := 2) (pc' := 244) ja_okT mJ_334 (by decide +kernel) (by decide +kernel) (by decide +kernel) (by decide) t_l0 rfl ?_
    obtain ⟨r52, S53, h54, hr⟩ := nk_bde hr
    refine nk_callV (ci := 7) (n := 0) (x := 318) (len := 3) (j' := 410) (q' := 0) (r := r52) (S' := S53) (L2 := [(0, nk_r (ja_c l0 2))]) (rest := []) (st' := []) (pc' := 247) mJ_334 (by decide +kernel) (by decide +kernel) rfl rfl t6 (Nat.le_of_ble_eq_true rfl) mJ_410 (Nat.le_of_ble_eq_true rfl) rfl (ja_X7_swap_ok zs _ _ _ t6 h54) rfl ?_
    refine nk_p (i := .goto 11) (len := 3) (pc' := 258) mJ_334 (by decide +kernel) (ns_goto (by decide +kernel)) rfl ?_
    refine nk_p (i := .iconst 1) (len := 1) (pc' := 259) mJ_334 (by decide +kernel) (ns_iconst (c := 1) (by decide +kernel)) rfl ?_
    cases hr
    exact nk_iret (ty := .boolean) (len := 1) mJ_334 (by decide +kernel) rfl (nk_nar_z (by decide))
  have hr := nk_ifn hc7 hr
  refine nk_p (i := .tableswitch 229 0 7 #[47, 65, 81, 117, 128, 189, 229, 219]) (len := 47) (pc' := 250) mJ_334 (by decide +kernel) (ns_tsd (by omega) (by decide +kernel)) rfl ?_
  refine nk_sub [2] (L' := [(0, nk_r l0)]) rfl ?_
  exact ja_X4_moves_b250_ok zs _ _ _ t_l0 hr
