/-! SafeCodeModel fieldOf (LSafeCodeModel$Program;III)I -/
noncomputable def ja_X13_fieldOf_b3 (rec3 : Nat → Nat → Int → Int → Int → Int → nk_S → Option (Int × nk_S)) (l0 : Nat) (l1 : Nat) (l2 : Int) (l3 : Int) (l4 : Int) (l5 : Int) (S : nk_S) : Option (Int × nk_S) :=
  if (S.1 l1 1) ≤ l5 then
    some ((-1), S)
  else
    if 0 ≤ l5 ∧ l5 < 48 then
    nk_bd (ja_X13_isAtOrBelow l1 l2 (S.1 (ja_c l1 10) l5.toNat) S) fun r3 S4 =>
    if r3 = 0 then
      nk_lt (nk_w (l5 + 1)) fun v6 =>
      rec3 l0 l1 l2 l3 l4 v6 S4
    else
      if 0 ≤ (S4.1 (ja_c l0 14) l5.toNat) ∧ (S4.1 (ja_c l0 14) l5.toNat) < 16002 then
      nk_bd (ja_X13_isSame l0 l3 l4 (S4.1 (ja_c l0 8) (S4.1 (ja_c l0 14) l5.toNat).toNat) (S4.1 (ja_c l0 9) (S4.1 (ja_c l0 14) l5.toNat).toNat) S4) fun r12 S13 =>
      if r12 = 0 then
        nk_lt (nk_w (l5 + 1)) fun v15 =>
        rec3 l0 l1 l2 l3 l4 v15 S13
      else
        some (l5, S13)
      else none
    else none
theorem ja_X13_fieldOf_b3_ok (zs : List Int32) {rec3 : Nat → Nat → Int → Int → Int → Int → nk_S → Option (Int × nk_S)} (hrec3 : ∀ (l0 : Nat) (l1 : Nat) (l2 : Int) (l3 : Int) (l4 : Int) (l5 : Int) (S : nk_S) (R : Int × nk_S), nk_cl ja_Tt l0 = some 13 → nk_cl ja_Tt l1 = some 12 → rec3 l0 l1 l2 l3 l4 l5 S = some R → nk_K ja_Tt mi_Γ (mi_ev zs) 1 122 3 [(0, nk_r l0), (1, nk_r l1), (2, nk_i l2), (3, nk_i l3), (4, nk_i l4), (5, nk_i l5)] [] S R) : ∀ (l0 : Nat) (l1 : Nat) (l2 : Int) (l3 : Int) (l4 : Int) (l5 : Int) (S : nk_S) (R : Int × nk_S), nk_cl ja_Tt l0 = some 13 → nk_cl ja_Tt l1 = some 12 → ja_X13_fieldOf_b3 rec3 l0 l1 l2 l3 l4 l5 S = some R → nk_K ja_Tt mi_Γ (mi_ev zs) 1 122 3 [(0, nk_r l0), (1, nk_r l1), (2, nk_i l2), (3, nk_i l3), (4, nk_i l4), (5, nk_i l5)] [] S R := by
  intro l0 l1 l2 l3 l4 l5 S R t_l0 t_l1 hr
  unfold ja_X13_fieldOf_b3 at hr
  refine nk_p (i := .iload 5) (len := 2) (pc' := 5) mJ_122 (by decide +kernel) (ns_iload 5 rfl) rfl ?_
  refine nk_p (i := .aload_n 1) (len := 1) (pc' := 6) mJ_122 (by decide +kernel) (ns_aload_n 1 rfl rfl) rfl ?_
  refine nk_getI (y := (0, 0)) (x := 293) (len := 3) (ci := 12) (k := 1) (pc' := 9) ja_okT mJ_122 (by decide +kernel) (by decide +kernel) (by decide +kernel) t_l1 rfl ?_
  refine nk_icmp (c := .ge) (off := 61) (len := 3) (t := 70) (pc' := 12) mJ_122 (by decide +kernel) (by decide +kernel) rfl (fun hc => ?_) (fun hc => ?_)
  · have hr := nk_ifp (c := (S.1 l1 1) ≤ l5) hc hr
    refine nk_p (i := .iconst (-1)) (len := 1) (pc' := 71) mJ_122 (by decide +kernel) (ns_iconst (c := (-1)) (by decide +kernel)) rfl ?_
    cases hr
    exact nk_iret (ty := .int) (len := 1) mJ_122 (by decide +kernel) rfl (nk_nar_i _)
  · have hr := nk_ifn (c := (S.1 l1 1) ≤ l5) hc hr
    refine nk_p (i := .aload_n 1) (len := 1) (pc' := 13) mJ_122 (by decide +kernel) (ns_aload_n 1 rfl rfl) rfl ?_
    refine nk_p (i := .iload_n 2) (len := 1) (pc' := 14) mJ_122 (by decide +kernel) (ns_iload_n 2 rfl rfl) rfl ?_
    refine nk_p (i := .aload_n 1) (len := 1) (pc' := 15) mJ_122 (by decide +kernel) (ns_aload_n 1 rfl rfl) rfl ?_
    refine nk_getC (f := (4, 1, 48)) (x := 296) (len := 3) (ci := 12) (k := 10) (pc' := 18) ja_okT mJ_122 (by decide +kernel) (by decide +kernel) (by decide +kernel) (by decide) t_l1 rfl ?_
    have t1 : nk_ar ja_Tt (ja_c l1 10) = some (1, 48) := nk_ta ja_okT t_l1 (by decide +kernel)
    refine nk_p (i := .iload 5) (len := 2) (pc' := 20) mJ_122 (by decide +kernel) (ns_iload 5 rfl) rfl ?_
    obtain ⟨h2, hr⟩ := nk_cke hr
    refine nk_iald (len := 1) (N := 48) (pc' := 21) mJ_122 (by decide +kernel) t1 h2.1 h2.2 rfl rfl ?_
    obtain ⟨r3, S4, h5, hr⟩ := nk_bde hr
    refine nk_callS (ci := 0) (n := 3) (x := 299) (len := 3) (j' := 142) (q' := 1) (r := r3) (S' := S4) (L2 := [(0, nk_r l1), (1, nk_i l2), (2, nk_i (S.1 (ja_c l1 10) l5.toNat))]) (rest := []) (st' := [nk_i r3]) (pc' := 24) mJ_122 (by decide +kernel) (by decide +kernel) (Nat.le_of_ble_eq_true rfl) rfl rfl (Nat.le_of_ble_eq_true rfl) mJ_142 (Nat.le_of_ble_eq_true rfl) ja_Tpos rfl (ja_X13_isAtOrBelow_ok zs _ _ _ _ _ t_l1 h5) rfl ?_
    refine nk_icond (c := .eq) (off := 40) (len := 3) (t := 64) (pc' := 27) mJ_122 (by decide +kernel) (by decide +kernel) rfl (fun hc => ?_) (fun hc => ?_)
    · have hr := nk_ifp (c := r3 = 0) hc hr
      obtain ⟨v6, h7, hr⟩ := nk_lte hr
      refine nk_p (i := .iinc 5 1) (len := 3) (pc' := 67) mJ_122 (by decide +kernel) (ns_iinc (c := 1) (L' := [(5, nk_i v6), (0, nk_r l0), (1, nk_r l1), (2, nk_i l2), (3, nk_i l3), (4, nk_i l4)]) 5 rfl (by decide +kernel) h7 rfl (by decide +kernel)) rfl ?_
      refine nk_p (i := .goto (-64)) (len := 3) (pc' := 3) mJ_122 (by decide +kernel) (ns_goto (by decide +kernel)) rfl ?_
      refine nk_sub [1, 2, 3, 4, 5, 0] (L' := [(0, nk_r l0), (1, nk_r l1), (2, nk_i l2), (3, nk_i l3), (4, nk_i l4), (5, nk_i v6)]) rfl ?_
      exact hrec3 _ _ _ _ _ _ _ _ t_l0 t_l1 hr
    · have hr := nk_ifn (c := r3 = 0) hc hr
      refine nk_p (i := .aload_n 0) (len := 1) (pc' := 28) mJ_122 (by decide +kernel) (ns_aload_n 0 rfl rfl) rfl ?_
      refine nk_p (i := .iload_n 3) (len := 1) (pc' := 29) mJ_122 (by decide +kernel) (ns_iload_n 3 rfl rfl) rfl ?_
      refine nk_p (i := .iload 4) (len := 2) (pc' := 31) mJ_122 (by decide +kernel) (ns_iload 4 rfl) rfl ?_
      refine nk_p (i := .aload_n 0) (len := 1) (pc' := 32) mJ_122 (by decide +kernel) (ns_aload_n 0 rfl rfl) rfl ?_
      refine nk_getC (f := (4, 1, 16002)) (x := 26) (len := 3) (ci := 13) (k := 8) (pc' := 35) ja_okT mJ_122 (by decide +kernel) (by decide +kernel) (by decide +kernel) (by decide) t_l0 rfl ?_
      have t8 : nk_ar ja_Tt (ja_c l0 8) = some (1, 16002) := nk_ta ja_okT t_l0 (by decide +kernel)
      refine nk_p (i := .aload_n 0) (len := 1) (pc' := 36) mJ_122 (by decide +kernel) (ns_aload_n 0 rfl rfl) rfl ?_
      refine nk_getC (f := (4, 1, 48)) (x := 40) (len := 3) (ci := 13) (k := 14) (pc' := 39) ja_okT mJ_122 (by decide +kernel) (by decide +kernel) (by decide +kernel) (by decide) t_l0 rfl ?_
      have t9 : nk_ar ja_Tt (ja_c l0 14) = some (1, 48) := nk_ta ja_okT t_l0 (by decide +kernel)
      refine nk_p (i := .iload 5) (len := 2) (pc' := 41) mJ_122 (by decide +kernel) (ns_iload 5 rfl) rfl ?_
      refine nk_iald (len := 1) (N := 48) (pc' := 42) mJ_122 (by decide +kernel) t9 h2.1 h2.2 rfl rfl ?_
      obtain ⟨h10, hr⟩ := nk_cke hr
      refine nk_iald (len := 1) (N := 16002) (pc' := 43) mJ_122 (by decide +kernel) t8 h10.1 h10.2 rfl rfl ?_
      refine nk_p (i := .aload_n 0) (len := 1) (pc' := 44) mJ_122 (by decide +kernel) (ns_aload_n 0 rfl rfl) rfl ?_
      refine nk_getC (f := (4, 1, 16002)) (x := 30) (len := 3) (ci := 13) (k := 9) (pc' := 47) ja_okT mJ_122 (by decide +kernel) (by decide +kernel) (by decide +kernel) (by decide) t_l0 rfl ?_
      have t11 : nk_ar ja_Tt (ja_c l0 9) = some (1, 16002) := nk_ta ja_okT t_l0 (by decide +kernel)
      refine nk_p (i := .aload_n 0) (len := 1) (pc' := 48) mJ_122 (by decide +kernel) (ns_aload_n 0 rfl rfl) rfl ?_
      refine nk_getC (f := (4, 1, 48)) (x := 40) (len := 3) (ci := 13) (k := 14) (pc' := 51) ja_okT mJ_122 (by decide +kernel) (by decide +kernel) (by decide +kernel) (by decide) t_l0 rfl ?_
      refine nk_p (i := .iload 5) (len := 2) (pc' := 53) mJ_122 (by decide +kernel) (ns_iload 5 rfl) rfl ?_
      refine nk_iald (len := 1) (N := 48) (pc' := 54) mJ_122 (by decide +kernel) t9 h2.1 h2.2 rfl rfl ?_
      refine nk_iald (len := 1) (N := 16002) (pc' := 55) mJ_122 (by decide +kernel) t11 h10.1 h10.2 rfl rfl ?_
      obtain ⟨r12, S13, h14, hr⟩ := nk_bde hr
      refine nk_callV (ci := 13) (n := 4) (x := 167) (len := 3) (j' := 159) (q' := 1) (r := r12) (S' := S13) (L2 := [(0, nk_r l0), (1, nk_i l3), (2, nk_i l4), (3, nk_i (S4.1 (ja_c l0 8) (S4.1 (ja_c l0 14) l5.toNat).toNat)), (4, nk_i (S4.1 (ja_c l0 9) (S4.1 (ja_c l0 14) l5.toNat).toNat))]) (rest := []) (st' := [nk_i r12]) (pc' := 58) mJ_122 (by decide +kernel) (by decide +kernel) rfl rfl t_l0 (Nat.le_of_ble_eq_true rfl) mJ_159 (Nat.le_of_ble_eq_true rfl) rfl (ja_X13_isSame_ok zs _ _ _ _ _ _ _ t_l0 h14) rfl ?_
      refine nk_icond (c := .eq) (off := 6) (len := 3) (t := 64) (pc' := 61) mJ_122 (by decide +kernel) (by decide +kernel) rfl (fun hc => ?_) (fun hc => ?_)
      · have hr := nk_ifp (c := r12 = 0) hc hr
        obtain ⟨v15, h16, hr⟩ := nk_lte hr
        refine nk_p (i := .iinc 5 1) (len := 3) (pc' := 67) mJ_122 (by decide +kernel) (ns_iinc (c := 1) (L' := [(5, nk_i v15), (0, nk_r l0), (1, nk_r l1), (2, nk_i l2), (3, nk_i l3), (4, nk_i l4)]) 5 rfl (by decide +kernel) h16 rfl (by decide +kernel)) rfl ?_
        refine nk_p (i := .goto (-64)) (len := 3) (pc' := 3) mJ_122 (by decide +kernel) (ns_goto (by decide +kernel)) rfl ?_
        refine nk_sub [1, 2, 3, 4, 5, 0] (L' := [(0, nk_r l0), (1, nk_r l1), (2, nk_i l2), (3, nk_i l3), (4, nk_i l4), (5, nk_i v15)]) rfl ?_
        exact hrec3 _ _ _ _ _ _ _ _ t_l0 t_l1 hr
      · have hr := nk_ifn (c := r12 = 0) hc hr
        refine nk_p (i := .iload 5) (len := 2) (pc' := 63) mJ_122 (by decide +kernel) (ns_iload 5 rfl) rfl ?_
        cases hr
        exact nk_iret (ty := .int) (len := 1) mJ_122 (by decide +kernel) rfl (nk_nar_i _)
noncomputable def ja_X13_fieldOf_L3 : Nat → Nat → Nat → Int → Int → Int → Int → nk_S → Option (Int × nk_S)
  | 0, _, _, _, _, _, _, _ => none
  | n + 1, l0, l1, l2, l3, l4, l5, S => ja_X13_fieldOf_b3 (ja_X13_fieldOf_L3 n) l0 l1 l2 l3 l4 l5 S
theorem ja_X13_fieldOf_L3_ok (zs : List Int32) : ∀ n : Nat, ∀ (l0 : Nat) (l1 : Nat) (l2 : Int) (l3 : Int) (l4 : Int) (l5 : Int) (S : nk_S) (R : Int × nk_S), nk_cl ja_Tt l0 = some 13 → nk_cl ja_Tt l1 = some 12 → ja_X13_fieldOf_L3 n l0 l1 l2 l3 l4 l5 S = some R → nk_K ja_Tt mi_Γ (mi_ev zs) 1 122 3 [(0, nk_r l0), (1, nk_r l1), (2, nk_i l2), (3, nk_i l3), (4, nk_i l4), (5, nk_i l5)] [] S R := by
  intro n
  induction n with
  | zero => intro _ _ _ _ _ _ _ _ _ _ hr; cases hr
  | succ n ih => intro l0 l1 l2 l3 l4 l5 S R t_l0 t_l1 hr; exact ja_X13_fieldOf_b3_ok zs ih l0 l1 l2 l3 l4 l5 S R t_l0 t_l1 hr
noncomputable def ja_X13_fieldOf (l0 : Nat) (l1 : Nat) (l2 : Int) (l3 : Int) (l4 : Int) (S : nk_S) : Option (Int × nk_S) :=
  ja_X13_fieldOf_L3 nk_big l0 l1 l2 l3 l4 0 S
theorem ja_X13_fieldOf_ok (zs : List Int32) : ∀ (l0 : Nat) (l1 : Nat) (l2 : Int) (l3 : Int) (l4 : Int) (S : nk_S) (R : Int × nk_S), nk_cl ja_Tt l0 = some 13 → nk_cl ja_Tt l1 = some 12 → ja_X13_fieldOf l0 l1 l2 l3 l4 S = some R → nk_K ja_Tt mi_Γ (mi_ev zs) 1 122 0 [(0, nk_r l0), (1, nk_r l1), (2, nk_i l2), (3, nk_i l3), (4, nk_i l4)] [] S R := by
  intro l0 l1 l2 l3 l4 S R t_l0 t_l1 hr
  unfold ja_X13_fieldOf at hr
  refine nk_p (i := .iconst 0) (len := 1) (pc' := 1) mJ_122 (by decide +kernel) (ns_iconst (c := 0) (by decide +kernel)) rfl ?_
  refine nk_p (i := .istore 5) (len := 2) (pc' := 3) mJ_122 (by decide +kernel) (ns_istore (L' := [(5, nk_i 0), (0, nk_r l0), (1, nk_r l1), (2, nk_i l2), (3, nk_i l3), (4, nk_i l4)]) rfl rfl (by decide +kernel)) rfl ?_
  refine nk_sub [1, 2, 3, 4, 5, 0] (L' := [(0, nk_r l0), (1, nk_r l1), (2, nk_i l2), (3, nk_i l3), (4, nk_i l4), (5, nk_i 0)]) rfl ?_
  exact ja_X13_fieldOf_L3_ok zs nk_big _ _ _ _ _ _ _ _ t_l0 t_l1 hr
/-! SafeCodeModel reference (LSafeCodeModel$Program;III)Z -/
noncomputable def ja_X13_reference_b126 (l0 : Nat) (l4 : Int) (S : nk_S) : Option (Int × nk_S) :=
  nk_bd (ja_X13_wrong l0 l4 S) fun r1 S2 =>
  if r1 = 0 ∨ r1 = 1 then
  some (r1, S2)
  else none
theorem ja_X13_reference_b126_ok (zs : List Int32) : ∀ (l0 : Nat) (l4 : Int) (S : nk_S) (R : Int × nk_S), nk_cl ja_Tt l0 = some 13 → ja_X13_reference_b126 l0 l4 S = some R → nk_K ja_Tt mi_Γ (mi_ev zs) 1 219 126 [(0, nk_r l0), (4, nk_i l4)] [] S R := by
  intro l0 l4 S R t_l0 hr
  unfold ja_X13_reference_b126 at hr
  refine nk_p (i := .aload_n 0) (len := 1) (pc' := 127) mJ_219 (by decide +kernel) (ns_aload_n 0 rfl rfl) rfl ?_
  refine nk_p (i := .iload 4) (len := 2) (pc' := 129) mJ_219 (by decide +kernel) (ns_iload 1 rfl) rfl ?_
  obtain ⟨r1, S2, h3, hr⟩ := nk_bde hr
  refine nk_callV (ci := 13) (n := 1) (x := 290) (len := 3) (j' := 246) (q' := 1) (r := r1) (S' := S2) (L2 := [(0, nk_r l0), (1, nk_i l4)]) (rest := []) (st' := [nk_i r1]) (pc' := 132) mJ_219 (by decide +kernel) (by decide +kernel) rfl rfl t_l0 (Nat.le_of_ble_eq_true rfl) mJ_246 (Nat.le_of_ble_eq_true rfl) rfl (ja_X13_wrong_ok zs _ _ _ _ t_l0 h3) rfl ?_
  obtain ⟨h4, hr⟩ := nk_cke hr
  cases hr
  exact nk_iret (ty := .boolean) (len := 1) mJ_219 (by decide +kernel) rfl (nk_nar_z h4)
noncomputable def ja_X13_reference_b133 (l1 : Nat) (l2 : Int) (l6 : Int) (l7 : Int) (S : nk_S) : Option (Int × nk_S) :=
  if 0 ≤ l2 ∧ l2 < 1024 then
  nk_lt (nk_wi S (ja_c l1 23) l2.toNat l7) fun S3 =>
  nk_lt (nk_wi S3 (ja_c l1 24) l2.toNat l6) fun S6 =>
  some (1, S6)
  else none
theorem ja_X13_reference_b133_ok (zs : List Int32) : ∀ (l1 : Nat) (l2 : Int) (l6 : Int) (l7 : Int) (S : nk_S) (R : Int × nk_S), nk_cl ja_Tt l1 = some 12 → ja_X13_reference_b133 l1 l2 l6 l7 S = some R → nk_K ja_Tt mi_Γ (mi_ev zs) 1 219 133 [(1, nk_r l1), (2, nk_i l2), (6, nk_i l6), (7, nk_i l7)] [] S R := by
  intro l1 l2 l6 l7 S R t_l1 hr
  unfold ja_X13_reference_b133 at hr
  refine nk_p (i := .aload_n 1) (len := 1) (pc' := 134) mJ_219 (by decide +kernel) (ns_aload_n 0 rfl rfl) rfl ?_
  refine nk_getC (f := (4, 1, 1024)) (x := 414) (len := 3) (ci := 12) (k := 23) (pc' := 137) ja_okT mJ_219 (by decide +kernel) (by decide +kernel) (by decide +kernel) (by decide) t_l1 rfl ?_
  have t1 : nk_ar ja_Tt (ja_c l1 23) = some (1, 1024) := nk_ta ja_okT t_l1 (by decide +kernel)
  refine nk_p (i := .iload_n 2) (len := 1) (pc' := 138) mJ_219 (by decide +kernel) (ns_iload_n 1 rfl rfl) rfl ?_
  refine nk_p (i := .iload 7) (len := 2) (pc' := 140) mJ_219 (by decide +kernel) (ns_iload 3 rfl) rfl ?_
  obtain ⟨h2, hr⟩ := nk_cke hr
  obtain ⟨S3, h4, hr⟩ := nk_lte hr
  refine nk_iast (len := 1) (N := 1024) (pc' := 141) mJ_219 (by decide +kernel) t1 h2.1 h2.2 rfl rfl h4 ?_
  refine nk_p (i := .aload_n 1) (len := 1) (pc' := 142) mJ_219 (by decide +kernel) (ns_aload_n 0 rfl rfl) rfl ?_
  refine nk_getC (f := (4, 1, 1024)) (x := 417) (len := 3) (ci := 12) (k := 24) (pc' := 145) ja_okT mJ_219 (by decide +kernel) (by decide +kernel) (by decide +kernel) (by decide) t_l1 rfl ?_
  have t5 : nk_ar ja_Tt (ja_c l1 24) = some (1, 1024) := nk_ta ja_okT t_l1 (by decide +kernel)
  refine nk_p (i := .iload_n 2) (len := 1) (pc' := 146) mJ_219 (by decide +kernel) (ns_iload_n 1 rfl rfl) rfl ?_
  refine nk_p (i := .iload 6) (len := 2) (pc' := 148) mJ_219 (by decide +kernel) (ns_iload 2 rfl) rfl ?_
  obtain ⟨S6, h7, hr⟩ := nk_lte hr
  refine nk_iast (len := 1) (N := 1024) (pc' := 149) mJ_219 (by decide +kernel) t5 h2.1 h2.2 rfl rfl h7 ?_
  refine nk_p (i := .iconst 1) (len := 1) (pc' := 150) mJ_219 (by decide +kernel) (ns_iconst (c := 1) (by decide +kernel)) rfl ?_
  cases hr
  exact nk_iret (ty := .boolean) (len := 1) mJ_219 (by decide +kernel) rfl (nk_nar_z (by decide))
noncomputable def ja_X13_reference_b110 (l0 : Nat) (l1 : Nat) (l2 : Int) (l3 : Int) (l4 : Int) (l6 : Int) (l7 : Int) (S : nk_S) : Option (Int × nk_S) :=
  if l3 = 40 then
    if 0 ≤ l7 ∧ l7 < 48 then
    if (S.1 (ja_c l1 14) l7.toNat) = 0 then
      ja_X13_reference_b126 l0 l4 S
    else
      ja_X13_reference_b133 l1 l2 l6 l7 S
    else none
  else
    ja_X13_reference_b133 l1 l2 l6 l7 S
theorem ja_X13_reference_b110_ok (zs : List Int32) : ∀ (l0 : Nat) (l1 : Nat) (l2 : Int) (l3 : Int) (l4 : Int) (l6 : Int) (l7 : Int) (S : nk_S) (R : Int × nk_S), nk_cl ja_Tt l0 = some 13 → nk_cl ja_Tt l1 = some 12 → ja_X13_reference_b110 l0 l1 l2 l3 l4 l6 l7 S = some R → nk_K ja_Tt mi_Γ (mi_ev zs) 1 219 110 [(0, nk_r l0), (1, nk_r l1), (2, nk_i l2), (3, nk_i l3), (4, nk_i l4), (6, nk_i l6), (7, nk_i l7)] [] S R := by
  intro l0 l1 l2 l3 l4 l6 l7 S R t_l0 t_l1 hr
  unfold ja_X13_reference_b110 at hr
  refine nk_p (i := .iload_n 3) (len := 1) (pc' := 111) mJ_219 (by decide +kernel) (ns_iload_n 3 rfl rfl) rfl ?_
  refine nk_p (i := .bipush 40) (len := 2) (pc' := 113) mJ_219 (by decide +kernel) (ns_bipush (c := 40) (by decide +kernel)) rfl ?_
  refine nk_icmp (c := .ne) (off := 20) (len := 3) (t := 133) (pc' := 116) mJ_219 (by decide +kernel) (by decide +kernel) rfl (fun hc => ?_) (fun hc => ?_)
  · have hr := nk_ifn (c := l3 = 40) hc hr
    refine nk_sub [1, 2, 5, 6] (L' := [(1, nk_r l1), (2, nk_i l2), (6, nk_i l6), (7, nk_i l7)]) rfl ?_
    exact ja_X13_reference_b133_ok zs _ _ _ _ _ _ t_l1 hr
  · have hr := nk_ifp (c := l3 = 40) (Decidable.of_not_not hc) hr
    refine nk_p (i := .aload_n 1) (len := 1) (pc' := 117) mJ_219 (by decide +kernel) (ns_aload_n 1 rfl rfl) rfl ?_
    refine nk_getC (f := (4, 3, 48)) (x := 334) (len := 3) (ci := 12) (k := 14) (pc' := 120) ja_okT mJ_219 (by decide +kernel) (by decide +kernel) (by decide +kernel) (by decide) t_l1 rfl ?_
    have t1 : nk_ar ja_Tt (ja_c l1 14) = some (3, 48) := nk_ta ja_okT t_l1 (by decide +kernel)
    refine nk_p (i := .iload 7) (len := 2) (pc' := 122) mJ_219 (by decide +kernel) (ns_iload 6 rfl) rfl ?_
    obtain ⟨h2, hr⟩ := nk_cke hr
    refine nk_bald (t := 3) (len := 1) (N := 48) (pc' := 123) mJ_219 (by decide +kernel) t1 (by decide) h2.1 h2.2 rfl rfl ?_
    refine nk_icond (c := .ne) (off := 10) (len := 3) (t := 133) (pc' := 126) mJ_219 (by decide +kernel) (by decide +kernel) rfl (fun hc => ?_) (fun hc => ?_)
    · have hr := nk_ifn (c := (S.1 (ja_c l1 14) l7.toNat) = 0) hc hr
      refine nk_sub [1, 2, 5, 6] (L' := [(1, nk_r l1), (2, nk_i l2), (6, nk_i l6), (7, nk_i l7)]) rfl ?_
      exact ja_X13_reference_b133_ok zs _ _ _ _ _ _ t_l1 hr
    · have hr := nk_ifp (c := (S.1 (ja_c l1 14) l7.toNat) = 0) (Decidable.of_not_not hc) hr
      refine nk_sub [0, 4] (L' := [(0, nk_r l0), (4, nk_i l4)]) rfl ?_
      exact ja_X13_reference_b126_ok zs _ _ _ _ t_l0 hr
noncomputable def ja_X13_reference_b87 (l0 : Nat) (l1 : Nat) (l2 : Int) (l3 : Int) (l4 : Int) (l6 : Int) (s0 : Int) (S : nk_S) : Option (Int × nk_S) :=
  if s0 < 0 then
    ja_X13_reference_b126 l0 l4 S
  else
    if l3 = 39 then
      if 0 ≤ s0 ∧ s0 < 48 then
      if (S.1 (ja_c l1 14) s0.toNat) = 0 then
        ja_X13_reference_b110 l0 l1 l2 l3 l4 l6 s0 S
      else
        ja_X13_reference_b126 l0 l4 S
      else none
    else
      ja_X13_reference_b110 l0 l1 l2 l3 l4 l6 s0 S
theorem ja_X13_reference_b87_ok (zs : List Int32) : ∀ (l0 : Nat) (l1 : Nat) (l2 : Int) (l3 : Int) (l4 : Int) (l6 : Int) (s0 : Int) (S : nk_S) (R : Int × nk_S), nk_cl ja_Tt l0 = some 13 → nk_cl ja_Tt l1 = some 12 → ja_X13_reference_b87 l0 l1 l2 l3 l4 l6 s0 S = some R → nk_K ja_Tt mi_Γ (mi_ev zs) 1 219 87 [(0, nk_r l0), (1, nk_r l1), (2, nk_i l2), (3, nk_i l3), (4, nk_i l4), (6, nk_i l6)] [nk_i s0] S R := by
  intro l0 l1 l2 l3 l4 l6 s0 S R t_l0 t_l1 hr
  unfold ja_X13_reference_b87 at hr
  refine nk_p (i := .istore 7) (len := 2) (pc' := 89) mJ_219 (by decide +kernel) (ns_istore (L' := [(7, nk_i s0), (0, nk_r l0), (1, nk_r l1), (2, nk_i l2), (3, nk_i l3), (4, nk_i l4), (6, nk_i l6)]) rfl rfl (by decide +kernel)) rfl ?_
  refine nk_p (i := .iload 7) (len := 2) (pc' := 91) mJ_219 (by decide +kernel) (ns_iload 0 rfl) rfl ?_
  refine nk_icond (c := .lt) (off := 35) (len := 3) (t := 126) (pc' := 94) mJ_219 (by decide +kernel) (by decide +kernel) rfl (fun hc => ?_) (fun hc => ?_)
  · have hr := nk_ifp (c := s0 < 0) hc hr
    refine nk_sub [1, 5] (L' := [(0, nk_r l0), (4, nk_i l4)]) rfl ?_
    exact ja_X13_reference_b126_ok zs _ _ _ _ t_l0 hr
  · have hr := nk_ifn (c := s0 < 0) hc hr
    refine nk_p (i := .iload_n 3) (len := 1) (pc' := 95) mJ_219 (by decide +kernel) (ns_iload_n 4 rfl rfl) rfl ?_
    refine nk_p (i := .bipush 39) (len := 2) (pc' := 97) mJ_219 (by decide +kernel) (ns_bipush (c := 39) (by decide +kernel)) rfl ?_
    refine nk_icmp (c := .ne) (off := 13) (len := 3) (t := 110) (pc' := 100) mJ_219 (by decide +kernel) (by decide +kernel) rfl (fun hc => ?_) (fun hc => ?_)
    · have hr := nk_ifn (c := l3 = 39) hc hr
      refine nk_sub [1, 2, 3, 4, 5, 6, 0] (L' := [(0, nk_r l0), (1, nk_r l1), (2, nk_i l2), (3, nk_i l3), (4, nk_i l4), (6, nk_i l6), (7, nk_i s0)]) rfl ?_
      exact ja_X13_reference_b110_ok zs _ _ _ _ _ _ _ _ _ t_l0 t_l1 hr
    · have hr := nk_ifp (c := l3 = 39) (Decidable.of_not_not hc) hr
      refine nk_p (i := .aload_n 1) (len := 1) (pc' := 101) mJ_219 (by decide +kernel) (ns_aload_n 2 rfl rfl) rfl ?_
      refine nk_getC (f := (4, 3, 48)) (x := 334) (len := 3) (ci := 12) (k := 14) (pc' := 104) ja_okT mJ_219 (by decide +kernel) (by decide +kernel) (by decide +kernel) (by decide) t_l1 rfl ?_
      have t1 : nk_ar ja_Tt (ja_c l1 14) = some (3, 48) := nk_ta ja_okT t_l1 (by decide +kernel)
      refine nk_p (i := .iload 7) (len := 2) (pc' := 106) mJ_219 (by decide +kernel) (ns_iload 0 rfl) rfl ?_
      obtain ⟨h2, hr⟩ := nk_cke hr
      refine nk_bald (t := 3) (len := 1) (N := 48) (pc' := 107) mJ_219 (by decide +kernel) t1 (by decide) h2.1 h2.2 rfl rfl ?_
      refine nk_icond (c := .ne) (off := 19) (len := 3) (t := 126) (pc' := 110) mJ_219 (by decide +kernel) (by decide +kernel) rfl (fun hc => ?_) (fun hc => ?_)
      · have hr := nk_ifn (c := (S.1 (ja_c l1 14) s0.toNat) = 0) hc hr
        refine nk_sub [1, 5] (L' := [(0, nk_r l0), (4, nk_i l4)]) rfl ?_
        exact ja_X13_reference_b126_ok zs _ _ _ _ t_l0 hr
      · have hr := nk_ifp (c := (S.1 (ja_c l1 14) s0.toNat) = 0) (Decidable.of_not_not hc) hr
        refine nk_sub [1, 2, 3, 4, 5, 6, 0] (L' := [(0, nk_r l0), (1, nk_r l1), (2, nk_i l2), (3, nk_i l3), (4, nk_i l4), (6, nk_i l6), (7, nk_i s0)]) rfl ?_
        exact ja_X13_reference_b110_ok zs _ _ _ _ _ _ _ _ _ t_l0 t_l1 hr
noncomputable def ja_X13_reference_b48 (l0 : Nat) (l1 : Nat) (l2 : Int) (l3 : Int) (l4 : Int) (l5 : Int) (l6 : Int) (S : nk_S) : Option (Int × nk_S) :=
  if 0 ≤ l4 ∧ l4 < 16002 then
  nk_bd (ja_X13_fieldOf l0 l1 l6 (nk_w (l5 + 1)) (S.1 (ja_c l0 9) l4.toNat) S) fun r3 S4 =>
  ja_X13_reference_b87 l0 l1 l2 l3 l4 l6 r3 S4
  else none
theorem ja_X13_reference_b48_ok (zs : List Int32) : ∀ (l0 : Nat) (l1 : Nat) (l2 : Int) (l3 : Int) (l4 : Int) (l5 : Int) (l6 : Int) (S : nk_S) (R : Int × nk_S), nk_cl ja_Tt l0 = some 13 → nk_cl ja_Tt l1 = some 12 → ja_X13_reference_b48 l0 l1 l2 l3 l4 l5 l6 S = some R → nk_K ja_Tt mi_Γ (mi_ev zs) 1 219 48 [(0, nk_r l0), (1, nk_r l1), (2, nk_i l2), (3, nk_i l3), (4, nk_i l4), (5, nk_i l5), (6, nk_i l6)] [] S R := by
  intro l0 l1 l2 l3 l4 l5 l6 S R t_l0 t_l1 hr
  unfold ja_X13_reference_b48 at hr
  refine nk_p (i := .aload_n 0) (len := 1) (pc' := 49) mJ_219 (by decide +kernel) (ns_aload_n 0 rfl rfl) rfl ?_
  refine nk_p (i := .aload_n 1) (len := 1) (pc' := 50) mJ_219 (by decide +kernel) (ns_aload_n 1 rfl rfl) rfl ?_
  refine nk_p (i := .iload 6) (len := 2) (pc' := 52) mJ_219 (by decide +kernel) (ns_iload 6 rfl) rfl ?_
  refine nk_p (i := .iload 5) (len := 2) (pc' := 54) mJ_219 (by decide +kernel) (ns_iload 5 rfl) rfl ?_
  refine nk_p (i := .iconst 1) (len := 1) (pc' := 55) mJ_219 (by decide +kernel) (ns_iconst (c := 1) (by decide +kernel)) rfl ?_
  refine nk_p (i := .iadd) (len := 1) (pc' := 56) mJ_219 (by decide +kernel) ns_iadd rfl ?_
  refine nk_p (i := .aload_n 0) (len := 1) (pc' := 57) mJ_219 (by decide +kernel) (ns_aload_n 0 rfl rfl) rfl ?_
  refine nk_getC (f := (4, 1, 16002)) (x := 30) (len := 3) (ci := 13) (k := 9) (pc' := 60) ja_okT mJ_219 (by decide +kernel) (by decide +kernel) (by decide +kernel) (by decide) t_l0 rfl ?_
  have t1 : nk_ar ja_Tt (ja_c l0 9) = some (1, 16002) := nk_ta ja_okT t_l0 (by decide +kernel)
  refine nk_p (i := .iload 4) (len := 2) (pc' := 62) mJ_219 (by decide +kernel) (ns_iload 4 rfl) rfl ?_
  obtain ⟨h2, hr⟩ := nk_cke hr
  refine nk_iald (len := 1) (N := 16002) (pc' := 63) mJ_219 (by decide +kernel) t1 h2.1 h2.2 rfl rfl ?_
  obtain ⟨r3, S4, h5, hr⟩ := nk_bde hr
  refine nk_callV (ci := 13) (n := 4) (x := 317) (len := 3) (j' := 122) (q' := 1) (r := r3) (S' := S4) (L2 := [(0, nk_r l0), (1, nk_r l1), (2, nk_i l6), (3, nk_i (nk_w (l5 + 1))), (4, nk_i (S.1 (ja_c l0 9) l4.toNat))]) (rest := []) (st' := [nk_i r3]) (pc' := 66) mJ_219 (by decide +kernel) (by decide +kernel) rfl rfl t_l0 (Nat.le_of_ble_eq_true rfl) mJ_122 (Nat.le_of_ble_eq_true rfl) rfl (ja_X13_fieldOf_ok zs _ _ _ _ _ _ _ t_l0 t_l1 h5) rfl ?_
  refine nk_p (i := .goto 21) (len := 3) (pc' := 87) mJ_219 (by decide +kernel) (ns_goto (by decide +kernel)) rfl ?_
  refine nk_sub [0, 1, 2, 3, 4, 6] (L' := [(0, nk_r l0), (1, nk_r l1), (2, nk_i l2), (3, nk_i l3), (4, nk_i l4), (6, nk_i l6)]) rfl ?_
  exact ja_X13_reference_b87_ok zs _ _ _ _ _ _ _ _ _ t_l0 t_l1 hr
noncomputable def ja_X13_reference (l0 : Nat) (l1 : Nat) (l2 : Int) (l3 : Int) (l4 : Int) (S : nk_S) : Option (Int × nk_S) :=
  nk_bd (ja_X13_point l0 l4 S) fun r1 S2 =>
  if 0 ≤ l4 ∧ l4 < 16002 then
  nk_bd (ja_X13_classOf l0 l1 (S2.1 (ja_c l0 8) l4.toNat) r1 S2) fun r6 S7 =>
  if 0 ≤ r6 then
    if l3 = 35 then
      ja_X13_reference_b48 l0 l1 l2 l3 l4 r1 r6 S7
    else
      if l3 = 36 then
        ja_X13_reference_b48 l0 l1 l2 l3 l4 r1 r6 S7
      else
        nk_bd (ja_X13_bodyOf l0 l1 r6 (nk_w (r1 + 1)) (S7.1 (ja_c l0 9) l4.toNat) S7) fun r10 S11 =>
        ja_X13_reference_b87 l0 l1 l2 l3 l4 r6 r10 S11
  else
    nk_bd (ja_X13_wrong l0 l4 S7) fun r13 S14 =>
    if r13 = 0 ∨ r13 = 1 then
    some (r13, S14)
    else none
  else none
theorem ja_X13_reference_ok (zs : List Int32) : ∀ (l0 : Nat) (l1 : Nat) (l2 : Int) (l3 : Int) (l4 : Int) (S : nk_S) (R : Int × nk_S), nk_cl ja_Tt l0 = some 13 → nk_cl ja_Tt l1 = some 12 → ja_X13_reference l0 l1 l2 l3 l4 S = some R → nk_K ja_Tt mi_Γ (mi_ev zs) 1 219 0 [(0, nk_r l0), (1, nk_r l1), (2, nk_i l2), (3, nk_i l3), (4, nk_i l4)] [] S R := by
  intro l0 l1 l2 l3 l4 S R t_l0 t_l1 hr
  unfold ja_X13_reference at hr
  refine nk_p (i := .aload_n 0) (len := 1) (pc' := 1) mJ_219 (by decide +kernel) (ns_aload_n 0 rfl rfl) rfl ?_
  refine nk_p (i := .iload 4) (len := 2) (pc' := 3) mJ_219 (by decide +kernel) (ns_iload 4 rfl) rfl ?_
  obtain ⟨r1, S2, h3, hr⟩ := nk_bde hr
  refine nk_callV (ci := 13) (n := 1) (x := 178) (len := 3) (j' := 207) (q' := 1) (r := r1) (S' := S2) (L2 := [(0, nk_r l0), (1, nk_i l4)]) (rest := []) (st' := [nk_i r1]) (pc' := 6) mJ_219 (by decide +kernel) (by decide +kernel) rfl rfl t_l0 (Nat.le_of_ble_eq_true rfl) mJ_207 (Nat.le_of_ble_eq_true rfl) rfl (ja_X13_point_ok zs _ _ _ _ t_l0 h3) rfl ?_
  refine nk_p (i := .istore 5) (len := 2) (pc' := 8) mJ_219 (by decide +kernel) (ns_istore (L' := [(5, nk_i r1), (0, nk_r l0), (1, nk_r l1), (2, nk_i l2), (3, nk_i l3), (4, nk_i l4)]) rfl rfl (by decide +kernel)) rfl ?_
  refine nk_p (i := .aload_n 0) (len := 1) (pc' := 9) mJ_219 (by decide +kernel) (ns_aload_n 1 rfl rfl) rfl ?_
  refine nk_p (i := .aload_n 1) (len := 1) (pc' := 10) mJ_219 (by decide +kernel) (ns_aload_n 2 rfl rfl) rfl ?_
  refine nk_p (i := .aload_n 0) (len := 1) (pc' := 11) mJ_219 (by decide +kernel) (ns_aload_n 1 rfl rfl) rfl ?_
  refine nk_getC (f := (4, 1, 16002)) (x := 26) (len := 3) (ci := 13) (k := 8) (pc' := 14) ja_okT mJ_219 (by decide +kernel) (by decide +kernel) (by decide +kernel) (by decide) t_l0 rfl ?_
  have t4 : nk_ar ja_Tt (ja_c l0 8) = some (1, 16002) := nk_ta ja_okT t_l0 (by decide +kernel)
  refine nk_p (i := .iload 4) (len := 2) (pc' := 16) mJ_219 (by decide +kernel) (ns_iload 5 rfl) rfl ?_
  obtain ⟨h5, hr⟩ := nk_cke hr
  refine nk_iald (len := 1) (N := 16002) (pc' := 17) mJ_219 (by decide +kernel) t4 h5.1 h5.2 rfl rfl ?_
  refine nk_p (i := .iload 5) (len := 2) (pc' := 19) mJ_219 (by decide +kernel) (ns_iload 0 rfl) rfl ?_
  obtain ⟨r6, S7, h8, hr⟩ := nk_bde hr
  refine nk_callV (ci := 13) (n := 3) (x := 276) (len := 3) (j' := 99) (q' := 1) (r := r6) (S' := S7) (L2 := [(0, nk_r l0), (1, nk_r l1), (2, nk_i (S2.1 (ja_c l0 8) l4.toNat)), (3, nk_i r1)]) (rest := []) (st' := [nk_i r6]) (pc' := 22) mJ_219 (by decide +kernel) (by decide +kernel) rfl rfl t_l0 (Nat.le_of_ble_eq_true rfl) mJ_99 (Nat.le_of_ble_eq_true rfl) rfl (ja_X13_classOf_ok zs _ _ _ _ _ _ t_l0 t_l1 h8) rfl ?_
  refine nk_p (i := .istore 6) (len := 2) (pc' := 24) mJ_219 (by decide +kernel) (ns_istore (L' := [(6, nk_i r6), (5, nk_i r1), (0, nk_r l0), (1, nk_r l1), (2, nk_i l2), (3, nk_i l3), (4, nk_i l4)]) rfl rfl (by decide +kernel)) rfl ?_
  refine nk_p (i := .iload 6) (len := 2) (pc' := 26) mJ_219 (by decide +kernel) (ns_iload 0 rfl) rfl ?_
  refine nk_icond (c := .ge) (off := 10) (len := 3) (t := 36) (pc' := 29) mJ_219 (by decide +kernel) (by decide +kernel) rfl (fun hc => ?_) (fun hc => ?_)
  · have hr := nk_ifp (c := 0 ≤ r6) hc hr
    refine nk_p (i := .iload_n 3) (len := 1) (pc' := 37) mJ_219 (by decide +kernel) (ns_iload_n 5 rfl rfl) rfl ?_
    refine nk_p (i := .bipush 35) (len := 2) (pc' := 39) mJ_219 (by decide +kernel) (ns_bipush (c := 35) (by decide +kernel)) rfl ?_
    refine nk_icmp (c := .eq) (off := 9) (len := 3) (t := 48) (pc' := 42) mJ_219 (by decide +kernel) (by decide +kernel) rfl (fun hc => ?_) (fun hc => ?_)
    · have hr := nk_ifp (c := l3 = 35) hc hr
      refine nk_sub [2, 3, 4, 5, 6, 1, 0] (L' := [(0, nk_r l0), (1, nk_r l1), (2, nk_i l2), (3, nk_i l3), (4, nk_i l4), (5, nk_i r1), (6, nk_i r6)]) rfl ?_
      exact ja_X13_reference_b48_ok zs _ _ _ _ _ _ _ _ _ t_l0 t_l1 hr
    · have hr := nk_ifn (c := l3 = 35) hc hr
      refine nk_p (i := .iload_n 3) (len := 1) (pc' := 43) mJ_219 (by decide +kernel) (ns_iload_n 5 rfl rfl) rfl ?_
      refine nk_p (i := .bipush 36) (len := 2) (pc' := 45) mJ_219 (by decide +kernel) (ns_bipush (c := 36) (by decide +kernel)) rfl ?_
      refine nk_icmp (c := .ne) (off := 24) (len := 3) (t := 69) (pc' := 48) mJ_219 (by decide +kernel) (by decide +kernel) rfl (fun hc => ?_) (fun hc => ?_)
      · have hr := nk_ifn (c := l3 = 36) hc hr
        refine nk_p (i := .aload_n 0) (len := 1) (pc' := 70) mJ_219 (by decide +kernel) (ns_aload_n 2 rfl rfl) rfl ?_
        refine nk_p (i := .aload_n 1) (len := 1) (pc' := 71) mJ_219 (by decide +kernel) (ns_aload_n 3 rfl rfl) rfl ?_
        refine nk_p (i := .iload 6) (len := 2) (pc' := 73) mJ_219 (by decide +kernel) (ns_iload 0 rfl) rfl ?_
        refine nk_p (i := .iload 5) (len := 2) (pc' := 75) mJ_219 (by decide +kernel) (ns_iload 1 rfl) rfl ?_
        refine nk_p (i := .iconst 1) (len := 1) (pc' := 76) mJ_219 (by decide +kernel) (ns_iconst (c := 1) (by decide +kernel)) rfl ?_
        refine nk_p (i := .iadd) (len := 1) (pc' := 77) mJ_219 (by decide +kernel) ns_iadd rfl ?_
        refine nk_p (i := .aload_n 0) (len := 1) (pc' := 78) mJ_219 (by decide +kernel) (ns_aload_n 2 rfl rfl) rfl ?_
        refine nk_getC (f := (4, 1, 16002)) (x := 30) (len := 3) (ci := 13) (k := 9) (pc' := 81) ja_okT mJ_219 (by decide +kernel) (by decide +kernel) (by decide +kernel) (by decide) t_l0 rfl ?_
        have t9 : nk_ar ja_Tt (ja_c l0 9) = some (1, 16002) := nk_ta ja_okT t_l0 (by decide +kernel)
        refine nk_p (i := .iload 4) (len := 2) (pc' := 83) mJ_219 (by decide +kernel) (ns_iload 6 rfl) rfl ?_
        refine nk_iald (len := 1) (N := 16002) (pc' := 84) mJ_219 (by decide +kernel) t9 h5.1 h5.2 rfl rfl ?_
        obtain ⟨r10, S11, h12, hr⟩ := nk_bde hr
        refine nk_callV (ci := 13) (n := 4) (x := 331) (len := 3) (j' := 90) (q' := 1) (r := r10) (S' := S11) (L2 := [(0, nk_r l0), (1, nk_r l1), (2, nk_i r6), (3, nk_i (nk_w (r1 + 1))), (4, nk_i (S7.1 (ja_c l0 9) l4.toNat))]) (rest := []) (st' := [nk_i r10]) (pc' := 87) mJ_219 (by decide +kernel) (by decide +kernel) rfl rfl t_l0 (Nat.le_of_ble_eq_true rfl) mJ_90 (Nat.le_of_ble_eq_true rfl) rfl (ja_X13_bodyOf_ok zs _ _ _ _ _ _ _ t_l0 t_l1 h12) rfl ?_
        refine nk_sub [2, 3, 4, 5, 6, 0] (L' := [(0, nk_r l0), (1, nk_r l1), (2, nk_i l2), (3, nk_i l3), (4, nk_i l4), (6, nk_i r6)]) rfl ?_
        exact ja_X13_reference_b87_ok zs _ _ _ _ _ _ _ _ _ t_l0 t_l1 hr
      · have hr := nk_ifp (c := l3 = 36) (Decidable.of_not_not hc) hr
        refine nk_sub [2, 3, 4, 5, 6, 1, 0] (L' := [(0, nk_r l0), (1, nk_r l1), (2, nk_i l2), (3, nk_i l3), (4, nk_i l4), (5, nk_i r1), (6, nk_i r6)]) rfl ?_
        exact ja_X13_reference_b48_ok zs _ _ _ _ _ _ _ _ _ t_l0 t_l1 hr
  · have hr := nk_ifn (c := 0 ≤ r6) hc hr
    refine nk_p (i := .aload_n 0) (len := 1) (pc' := 30) mJ_219 (by decide +kernel) (ns_aload_n 2 rfl rfl) rfl ?_
    refine nk_p (i := .iload 4) (len := 2) (pc' := 32) mJ_219 (by decide +kernel) (ns_iload 6 rfl) rfl ?_
    obtain ⟨r13, S14, h15, hr⟩ := nk_bde hr
    refine nk_callV (ci := 13) (n := 1) (x := 290) (len := 3) (j' := 246) (q' := 1) (r := r13) (S' := S14) (L2 := [(0, nk_r l0), (1, nk_i l4)]) (rest := []) (st' := [nk_i r13]) (pc' := 35) mJ_219 (by decide +kernel) (by decide +kernel) rfl rfl t_l0 (Nat.le_of_ble_eq_true rfl) mJ_246 (Nat.le_of_ble_eq_true rfl) rfl (ja_X13_wrong_ok zs _ _ _ _ t_l0 h15) rfl ?_
    obtain ⟨h16, hr⟩ := nk_cke hr
    cases hr
    exact nk_iret (ty := .boolean) (len := 1) mJ_219 (by decide +kernel) rfl (nk_nar_z h16)
/-! SafeCodeModel code (LSafeCodeModel$Program;III)Z -/
noncomputable def ja_X13_code_b40 (l0 : Nat) (l3 : Int) (S : nk_S) : Option (Int × nk_S) :=
  nk_bd (ja_X13_wrong l0 l3 S) fun r1 S2 =>
  if r1 = 0 ∨ r1 = 1 then
  some (r1, S2)
  else none
theorem ja_X13_code_b40_ok (zs : List Int32) : ∀ (l0 : Nat) (l3 : Int) (S : nk_S) (R : Int × nk_S), nk_cl ja_Tt l0 = some 13 → ja_X13_code_b40 l0 l3 S = some R → nk_K ja_Tt mi_Γ (mi_ev zs) 1 102 40 [(0, nk_r l0), (3, nk_i l3)] [] S R := by
  intro l0 l3 S R t_l0 hr
  unfold ja_X13_code_b40 at hr
  refine nk_p (i := .aload_n 0) (len := 1) (pc' := 41) mJ_102 (by decide +kernel) (ns_aload_n 0 rfl rfl) rfl ?_
  refine nk_p (i := .iload_n 3) (len := 1) (pc' := 42) mJ_102 (by decide +kernel) (ns_iload_n 1 rfl rfl) rfl ?_
  obtain ⟨r1, S2, h3, hr⟩ := nk_bde hr
  refine nk_callV (ci := 13) (n := 1) (x := 290) (len := 3) (j' := 246) (q' := 1) (r := r1) (S' := S2) (L2 := [(0, nk_r l0), (1, nk_i l3)]) (rest := []) (st' := [nk_i r1]) (pc' := 45) mJ_102 (by decide +kernel) (by decide +kernel) rfl rfl t_l0 (Nat.le_of_ble_eq_true rfl) mJ_246 (Nat.le_of_ble_eq_true rfl) rfl (ja_X13_wrong_ok zs _ _ _ _ t_l0 h3) rfl ?_
  obtain ⟨h4, hr⟩ := nk_cke hr
  cases hr
  exact nk_iret (ty := .boolean) (len := 1) mJ_102 (by decide +kernel) rfl (nk_nar_z h4)
noncomputable def ja_X13_code_b336 (l0 : Nat) (l1 : Nat) (l3 : Int) (l5 : Int) (l6 : Int) (S : nk_S) : Option (Int × nk_S) :=
  nk_bd (ja_X13_madeStep l0 l1 l6 l5 (nk_w (l3 + 1)) S) fun r1 S2 =>
  if r1 = 0 ∨ r1 = 1 then
  some (r1, S2)
  else none
theorem ja_X13_code_b336_ok (zs : List Int32) : ∀ (l0 : Nat) (l1 : Nat) (l3 : Int) (l5 : Int) (l6 : Int) (S : nk_S) (R : Int × nk_S), nk_cl ja_Tt l0 = some 13 → nk_cl ja_Tt l1 = some 12 → ja_X13_code_b336 l0 l1 l3 l5 l6 S = some R → nk_K ja_Tt mi_Γ (mi_ev zs) 1 102 336 [(0, nk_r l0), (1, nk_r l1), (3, nk_i l3), (5, nk_i l5), (6, nk_i l6)] [] S R := by
  intro l0 l1 l3 l5 l6 S R t_l0 t_l1 hr
  unfold ja_X13_code_b336 at hr
  refine nk_p (i := .aload_n 0) (len := 1) (pc' := 337) mJ_102 (by decide +kernel) (ns_aload_n 0 rfl rfl) rfl ?_
  refine nk_p (i := .aload_n 1) (len := 1) (pc' := 338) mJ_102 (by decide +kernel) (ns_aload_n 1 rfl rfl) rfl ?_
  refine nk_p (i := .iload 6) (len := 2) (pc' := 340) mJ_102 (by decide +kernel) (ns_iload 4 rfl) rfl ?_
  refine nk_p (i := .iload 5) (len := 2) (pc' := 342) mJ_102 (by decide +kernel) (ns_iload 3 rfl) rfl ?_
  refine nk_p (i := .iload_n 3) (len := 1) (pc' := 343) mJ_102 (by decide +kernel) (ns_iload_n 2 rfl rfl) rfl ?_
  refine nk_p (i := .iconst 1) (len := 1) (pc' := 344) mJ_102 (by decide +kernel) (ns_iconst (c := 1) (by decide +kernel)) rfl ?_
  refine nk_p (i := .iadd) (len := 1) (pc' := 345) mJ_102 (by decide +kernel) ns_iadd rfl ?_
  obtain ⟨r1, S2, h3, hr⟩ := nk_bde hr
  refine nk_callV (ci := 13) (n := 4) (x := 426) (len := 3) (j' := 191) (q' := 1) (r := r1) (S' := S2) (L2 := [(0, nk_r l0), (1, nk_r l1), (2, nk_i l6), (3, nk_i l5), (4, nk_i (nk_w (l3 + 1)))]) (rest := []) (st' := [nk_i r1]) (pc' := 348) mJ_102 (by decide +kernel) (by decide +kernel) rfl rfl t_l0 (Nat.le_of_ble_eq_true rfl) mJ_191 (Nat.le_of_ble_eq_true rfl) rfl (ja_X13_madeStep_ok zs _ _ _ _ _ _ _ t_l0 t_l1 h3) rfl ?_
  obtain ⟨h4, hr⟩ := nk_cke hr
  cases hr
  exact nk_iret (ty := .boolean) (len := 1) mJ_102 (by decide +kernel) rfl (nk_nar_z h4)
noncomputable def ja_X13_code_b320 (l0 : Nat) (l3 : Int) (S : nk_S) : Option (Int × nk_S) :=
  nk_bd (ja_X13_wrong l0 (nk_w (l3 + 1)) S) fun r1 S2 =>
  if r1 = 0 then
    some (0, S2)
  else
    some (1, S2)
theorem ja_X13_code_b320_ok (zs : List Int32) : ∀ (l0 : Nat) (l3 : Int) (S : nk_S) (R : Int × nk_S), nk_cl ja_Tt l0 = some 13 → ja_X13_code_b320 l0 l3 S = some R → nk_K ja_Tt mi_Γ (mi_ev zs) 1 102 320 [(0, nk_r l0), (3, nk_i l3)] [] S R := by
  intro l0 l3 S R t_l0 hr
  unfold ja_X13_code_b320 at hr
  refine nk_p (i := .aload_n 0) (len := 1) (pc' := 321) mJ_102 (by decide +kernel) (ns_aload_n 0 rfl rfl) rfl ?_
  refine nk_p (i := .iload_n 3) (len := 1) (pc' := 322) mJ_102 (by decide +kernel) (ns_iload_n 1 rfl rfl) rfl ?_
  refine nk_p (i := .iconst 1) (len := 1) (pc' := 323) mJ_102 (by decide +kernel) (ns_iconst (c := 1) (by decide +kernel)) rfl ?_
  refine nk_p (i := .iadd) (len := 1) (pc' := 324) mJ_102 (by decide +kernel) ns_iadd rfl ?_
  obtain ⟨r1, S2, h3, hr⟩ := nk_bde hr
  refine nk_callV (ci := 13) (n := 1) (x := 290) (len := 3) (j' := 246) (q' := 1) (r := r1) (S' := S2) (L2 := [(0, nk_r l0), (1, nk_i (nk_w (l3 + 1)))]) (rest := []) (st' := [nk_i r1]) (pc' := 327) mJ_102 (by decide +kernel) (by decide +kernel) rfl rfl t_l0 (Nat.le_of_ble_eq_true rfl) mJ_246 (Nat.le_of_ble_eq_true rfl) rfl (ja_X13_wrong_ok zs _ _ _ _ t_l0 h3) rfl ?_
  refine nk_icond (c := .eq) (off := 7) (len := 3) (t := 334) (pc' := 330) mJ_102 (by decide +kernel) (by decide +kernel) rfl (fun hc => ?_) (fun hc => ?_)
  · have hr := nk_ifp (c := r1 = 0) hc hr
    refine nk_p (i := .iconst 0) (len := 1) (pc' := 335) mJ_102 (by decide +kernel) (ns_iconst (c := 0) (by decide +kernel)) rfl ?_
    cases hr
    exact nk_iret (ty := .boolean) (len := 1) mJ_102 (by decide +kernel) rfl (nk_nar_z (by decide))
  · have hr := nk_ifn (c := r1 = 0) hc hr
    refine nk_p (i := .iconst 1) (len := 1) (pc' := 331) mJ_102 (by decide +kernel) (ns_iconst (c := 1) (by decide +kernel)) rfl ?_
    refine nk_p (i := .goto 4) (len := 3) (pc' := 335) mJ_102 (by decide +kernel) (ns_goto (by decide +kernel)) rfl ?_
    cases hr
    exact nk_iret (ty := .boolean) (len := 1) mJ_102 (by decide +kernel) rfl (nk_nar_z (by decide))
noncomputable def ja_X13_code_b46 (l0 : Nat) (l1 : Nat) (l2 : Int) (l3 : Int) (l4 : Int) (l5 : Int) (S : nk_S) : Option (Int × nk_S) :=
  nk_lt (S.1 l1 3) fun v1 =>
  if 0 ≤ v1 ∧ v1 < 1024 then
  nk_lt (nk_wi S (ja_c l0 20) v1.toNat l3) fun S5 =>
  nk_lt (nk_wi S5 (ja_c l1 22) v1.toNat l5) fun S8 =>
  nk_lt (nk_wi S8 (ja_c l1 25) v1.toNat l2) fun S11 =>
  nk_lt (nk_wi S11 (ja_c l1 23) v1.toNat 0) fun S14 =>
  nk_lt (nk_wi S14 (ja_c l1 24) v1.toNat 0) fun S17 =>
  nk_lt (nk_wi S17 l1 3 (nk_w ((S17.1 l1 3) + 1))) fun S19 =>
  nk_bd (ja_J0_charAt_5068e 33 l5 S19) fun r21 S22 =>
  if r21 = 67 then
    ja_X13_code_b336 l0 l1 l3 l5 v1 S22
  else
  if r21 = 68 then
    some (1, S22)
  else
  if r21 = 69 then
    ja_X13_code_b336 l0 l1 l3 l5 v1 S22
  else
  if r21 = 70 then
    nk_bd (ja_X13_reference l0 l1 v1 l5 (nk_w (l3 + 1)) S22) fun r24 S25 =>
    if r24 = 0 ∨ r24 = 1 then
    some (r24, S25)
    else none
  else
  if r21 = 71 then
    some (1, S22)
  else
  if r21 = 72 then
    some (1, S22)
  else
  if r21 = 73 then
    nk_bd (ja_X13_localStep l0 l1 l2 v1 (nk_w (l3 + 1)) S22) fun r28 S29 =>
    if r28 = 0 then
      some (0, S29)
    else
      nk_bd (ja_X13_number l0 (nk_w (l3 + 2)) S29) fun r31 S32 =>
      nk_lt (nk_wi S32 (ja_c l1 24) v1.toNat (nk_w r31)) fun S34 =>
      nk_bd (ja_X13_thresholds l0 l1 (S34.1 (ja_c l1 24) v1.toNat) S34) fun r36 S37 =>
      some (1, S37)
  else
  if r21 = 74 then
    some (1, S22)
  else
  if r21 = 75 then
    nk_bd (ja_X13_localStep l0 l1 l2 v1 (nk_w (l3 + 1)) S22) fun r39 S40 =>
    if r39 = 0 ∨ r39 = 1 then
    some (r39, S40)
    else none
  else
  if r21 = 76 then
    nk_bd (ja_X13_labelAt l0 (nk_w (l3 + 1)) S22) fun r43 S44 =>
    nk_lt (nk_wi S44 (ja_c l1 23) v1.toNat r43) fun S46 =>
    if (S46.1 (ja_c l1 23) v1.toNat) < 0 then
      ja_X13_code_b320 l0 l3 S46
    else
      if (S46.1 (ja_c l1 23) v1.toNat) < l4 then
        some (1, S46)
      else
        ja_X13_code_b320 l0 l3 S46
  else
  if r21 = 77 then
    some (1, S22)
  else
  if r21 = 78 then
    nk_bd (ja_X13_number l0 (nk_w (l3 + 1)) S22) fun r48 S49 =>
    nk_lt (nk_wi S49 (ja_c l1 23) v1.toNat (nk_w r48)) fun S51 =>
    nk_bd (ja_X13_thresholds l0 l1 (S51.1 (ja_c l1 23) v1.toNat) S51) fun r53 S54 =>
    some (1, S54)
  else
  if r21 = 79 then
    some (1, S22)
  else
  if r21 = 80 then
    some (1, S22)
  else
  if r21 = 81 then
    some (1, S22)
  else
  if r21 = 82 then
    some (1, S22)
  else
  if r21 = 83 then
    some (1, S22)
  else
  if r21 = 84 then
    nk_bd (ja_X13_typeOf l0 l1 (nk_w (l3 + 1)) S22) fun r56 S57 =>
    nk_lt (nk_wi S57 (ja_c l1 23) v1.toNat r56) fun S59 =>
    if 0 ≤ (S59.1 (ja_c l1 23) v1.toNat) then
      some (1, S59)
    else
      nk_bd (ja_X13_wrong l0 (nk_w (l3 + 1)) S59) fun r61 S62 =>
      if r61 = 0 then
        some (0, S62)
      else
        some (1, S62)
  else
  some (1, S22)
  else none
theorem ja_X13_code_b46_ok (zs : List Int32) : ∀ (l0 : Nat) (l1 : Nat) (l2 : Int) (l3 : Int) (l4 : Int) (l5 : Int) (S : nk_S) (R : Int × nk_S), nk_cl ja_Tt l0 = some 13 → nk_cl ja_Tt l1 = some 12 → ja_X13_code_b46 l0 l1 l2 l3 l4 l5 S = some R → nk_K ja_Tt mi_Γ (mi_ev zs) 1 102 46 [(0, nk_r l0), (1, nk_r l1), (2, nk_i l2), (3, nk_i l3), (4, nk_i l4), (5, nk_i l5)] [] S R := by
  intro l0 l1 l2 l3 l4 l5 S R t_l0 t_l1 hr
  unfold ja_X13_code_b46 at hr
  refine nk_p (i := .aload_n 1) (len := 1) (pc' := 47) mJ_102 (by decide +kernel) (ns_aload_n 1 rfl rfl) rfl ?_
  refine nk_getI (y := (0, 0)) (x := 353) (len := 3) (ci := 12) (k := 3) (pc' := 50) ja_okT mJ_102 (by decide +kernel) (by decide +kernel) (by decide +kernel) t_l1 rfl ?_
  obtain ⟨v1, h2, hr⟩ := nk_lte hr
  refine nk_p (i := .istore 6) (len := 2) (pc' := 52) mJ_102 (by decide +kernel) (ns_istore (L' := [(6, nk_i v1), (0, nk_r l0), (1, nk_r l1), (2, nk_i l2), (3, nk_i l3), (4, nk_i l4), (5, nk_i l5)]) h2 rfl (by decide +kernel)) rfl ?_
  refine nk_p (i := .aload_n 0) (len := 1) (pc' := 53) mJ_102 (by decide +kernel) (ns_aload_n 1 rfl rfl) rfl ?_
  refine nk_getC (f := (4, 1, 1024)) (x := 55) (len := 3) (ci := 13) (k := 20) (pc' := 56) ja_okT mJ_102 (by decide +kernel) (by decide +kernel) (by decide +kernel) (by decide) t_l0 rfl ?_
  have t3 : nk_ar ja_Tt (ja_c l0 20) = some (1, 1024) := nk_ta ja_okT t_l0 (by decide +kernel)
  refine nk_p (i := .iload 6) (len := 2) (pc' := 58) mJ_102 (by decide +kernel) (ns_iload 0 rfl) rfl ?_
  refine nk_p (i := .iload_n 3) (len := 1) (pc' := 59) mJ_102 (by decide +kernel) (ns_iload_n 4 rfl rfl) rfl ?_
  obtain ⟨h4, hr⟩ := nk_cke hr
  obtain ⟨S5, h6, hr⟩ := nk_lte hr
  refine nk_iast (len := 1) (N := 1024) (pc' := 60) mJ_102 (by decide +kernel) t3 h4.1 h4.2 rfl rfl h6 ?_
  refine nk_p (i := .aload_n 1) (len := 1) (pc' := 61) mJ_102 (by decide +kernel) (ns_aload_n 2 rfl rfl) rfl ?_
  refine nk_getC (f := (4, 1, 1024)) (x := 391) (len := 3) (ci := 12) (k := 22) (pc' := 64) ja_okT mJ_102 (by decide +kernel) (by decide +kernel) (by decide +kernel) (by decide) t_l1 rfl ?_
  have t7 : nk_ar ja_Tt (ja_c l1 22) = some (1, 1024) := nk_ta ja_okT t_l1 (by decide +kernel)
  refine nk_p (i := .iload 6) (len := 2) (pc' := 66) mJ_102 (by decide +kernel) (ns_iload 0 rfl) rfl ?_
  refine nk_p (i := .iload 5) (len := 2) (pc' := 68) mJ_102 (by decide +kernel) (ns_iload 6 rfl) rfl ?_
  obtain ⟨S8, h9, hr⟩ := nk_lte hr
  refine nk_iast (len := 1) (N := 1024) (pc' := 69) mJ_102 (by decide +kernel) t7 h4.1 h4.2 rfl rfl h9 ?_
  refine nk_p (i := .aload_n 1) (len := 1) (pc' := 70) mJ_102 (by decide +kernel) (ns_aload_n 2 rfl rfl) rfl ?_
  refine nk_getC (f := (4, 1, 1024)) (x := 412) (len := 3) (ci := 12) (k := 25) (pc' := 73) ja_okT mJ_102 (by decide +kernel) (by decide +kernel) (by decide +kernel) (by decide) t_l1 rfl ?_
  have t10 : nk_ar ja_Tt (ja_c l1 25) = some (1, 1024) := nk_ta ja_okT t_l1 (by decide +kernel)
  refine nk_p (i := .iload 6) (len := 2) (pc' := 75) mJ_102 (by decide +kernel) (ns_iload 0 rfl) rfl ?_
  refine nk_p (i := .iload_n 2) (len := 1) (pc' := 76) mJ_102 (by decide +kernel) (ns_iload_n 3 rfl rfl) rfl ?_
  obtain ⟨S11, h12, hr⟩ := nk_lte hr
  refine nk_iast (len := 1) (N := 1024) (pc' := 77) mJ_102 (by decide +kernel) t10 h4.1 h4.2 rfl rfl h12 ?_
  refine nk_p (i := .aload_n 1) (len := 1) (pc' := 78) mJ_102 (by decide +kernel) (ns_aload_n 2 rfl rfl) rfl ?_
  refine nk_getC (f := (4, 1, 1024)) (x := 414) (len := 3) (ci := 12) (k := 23) (pc' := 81) ja_okT mJ_102 (by decide +kernel) (by decide +kernel) (by decide +kernel) (by decide) t_l1 rfl ?_
  have t13 : nk_ar ja_Tt (ja_c l1 23) = some (1, 1024) := nk_ta ja_okT t_l1 (by decide +kernel)
  refine nk_p (i := .iload 6) (len := 2) (pc' := 83) mJ_102 (by decide +kernel) (ns_iload 0 rfl) rfl ?_
  refine nk_p (i := .iconst 0) (len := 1) (pc' := 84) mJ_102 (by decide +kernel) (ns_iconst (c := 0) (by decide +kernel)) rfl ?_
  obtain ⟨S14, h15, hr⟩ := nk_lte hr
  refine nk_iast (len := 1) (N := 1024) (pc' := 85) mJ_102 (by decide +kernel) t13 h4.1 h4.2 rfl rfl h15 ?_
  refine nk_p (i := .aload_n 1) (len := 1) (pc' := 86) mJ_102 (by decide +kernel) (ns_aload_n 2 rfl rfl) rfl ?_
  refine nk_getC (f := (4, 1, 1024)) (x := 417) (len := 3) (ci := 12) (k := 24) (pc' := 89) ja_okT mJ_102 (by decide +kernel) (by decide +kernel) (by decide +kernel) (by decide) t_l1 rfl ?_
  have t16 : nk_ar ja_Tt (ja_c l1 24) = some (1, 1024) := nk_ta ja_okT t_l1 (by decide +kernel)
  refine nk_p (i := .iload 6) (len := 2) (pc' := 91) mJ_102 (by decide +kernel) (ns_iload 0 rfl) rfl ?_
  refine nk_p (i := .iconst 0) (len := 1) (pc' := 92) mJ_102 (by decide +kernel) (ns_iconst (c := 0) (by decide +kernel)) rfl ?_
  obtain ⟨S17, h18, hr⟩ := nk_lte hr
  refine nk_iast (len := 1) (N := 1024) (pc' := 93) mJ_102 (by decide +kernel) t16 h4.1 h4.2 rfl rfl h18 ?_
  refine nk_p (i := .aload_n 1) (len := 1) (pc' := 94) mJ_102 (by decide +kernel) (ns_aload_n 2 rfl rfl) rfl ?_
  refine nk_p (i := .dup) (len := 1) (pc' := 95) mJ_102 (by decide +kernel) (ns_dup rfl) rfl ?_
  refine nk_getI (y := (0, 0)) (x := 353) (len := 3) (ci := 12) (k := 3) (pc' := 98) ja_okT mJ_102 (by decide +kernel) (by decide +kernel) (by decide +kernel) t_l1 rfl ?_
  refine nk_p (i := .iconst 1) (len := 1) (pc' := 99) mJ_102 (by decide +kernel) (ns_iconst (c := 1) (by decide +kernel)) rfl ?_
  refine nk_p (i := .iadd) (len := 1) (pc' := 100) mJ_102 (by decide +kernel) ns_iadd rfl ?_
  obtain ⟨S19, h20, hr⟩ := nk_lte hr
  refine nk_putI (y := (0, 0)) (ty := .int) (x := 353) (len := 3) (ci := 12) (k := 3) (pc' := 103) ja_okT mJ_102 (by decide +kernel) (by decide +kernel) (by decide +kernel) t_l1 (Or.inl rfl) rfl h20 ?_
  refine nk_ldwt (x := 260) (len := 3) (k := 33) (s := "N-KKI--------------LLLLLLLLLLLCE---FFTTFF-----") (pc' := 106) mJ_102 (by decide +kernel) (by decide +kernel) (by decide +kernel) rfl ?_
  refine nk_p (i := .iload 5) (len := 2) (pc' := 108) mJ_102 (by decide +kernel) (ns_iload 6 rfl) rfl ?_
  obtain ⟨r21, S22, h23, hr⟩ := nk_bde hr
  refine nk_callT (ci := 0) (n := 1) (x := 163) (len := 3) (j' := 1) (q' := 1) (r := r21) (S' := S22) (L2 := [(0, nk_o 33), (1, nk_i l5)]) (rest := []) (st' := [nk_i r21]) (pc' := 111) mJ_102 (by decide +kernel) (by decide +kernel) rfl rfl (ja_tx33 zs).1 (Nat.le_of_ble_eq_true rfl) mJ_1 (Nat.le_of_ble_eq_true rfl) ja_Tpos rfl (ja_J0_charAt_5068e_ok zs _ _ _ _ (ja_tx33 zs) h23) rfl ?_
  by_cases hc0 : r21 = 67
  · have hr := nk_ifp hc0 hr
    refine nk_p (i := .tableswitch 292 67 84 #[225, 292, 225, 238, 292, 292, 127, 292, 115, 173, 292, 85, 292, 292, 292, 292, 292, 251]) (len := 85) (pc' := 336) mJ_102 (by decide +kernel) (ns_tsw (V := 67) hc0 (by decide +kernel)) rfl ?_
    refine nk_sub [1, 2, 4, 6, 0] (L' := [(0, nk_r l0), (1, nk_r l1), (3, nk_i l3), (5, nk_i l5), (6, nk_i v1)]) rfl ?_
    exact ja_X13_code_b336_ok zs _ _ _ _ _ _ _ t_l0 t_l1 hr
  have hr := nk_ifn hc0 hr
  by_cases hc1 : r21 = 68
  · have hr := nk_ifp hc1 hr
    refine nk_p (i := .tableswitch 292 67 84 #[225, 292, 225, 238, 292, 292, 127, 292, 115, 173, 292, 85, 292, 292, 292, 292, 292, 251]) (len := 85) (pc' := 403) mJ_102 (by decide +kernel) (ns_tsw (V := 68) hc1 (by decide +kernel)) rfl ?_
    refine nk_p (i := .iconst 1) (len := 1) (pc' := 404) mJ_102 (by decide +kernel) (ns_iconst (c := 1) (by decide +kernel)) rfl ?_
    cases hr
    exact nk_iret (ty := .boolean) (len := 1) mJ_102 (by decide +kernel) rfl (nk_nar_z (by decide))
  have hr := nk_ifn hc1 hr
  by_cases hc2 : r21 = 69
  · have hr := nk_ifp hc2 hr
    refine nk_p (i := .tableswitch 292 67 84 #[225, 292, 225, 238, 292, 292, 127, 292, 115, 173, 292, 85, 292, 292, 292, 292, 292, 251]) (len := 85) (pc' := 336) mJ_102 (by decide +kernel) (ns_tsw (V := 69) hc2 (by decide +kernel)) rfl ?_
    refine nk_sub [1, 2, 4, 6, 0] (L' := [(0, nk_r l0), (1, nk_r l1), (3, nk_i l3), (5, nk_i l5), (6, nk_i v1)]) rfl ?_
    exact ja_X13_code_b336_ok zs _ _ _ _ _ _ _ t_l0 t_l1 hr
  have hr := nk_ifn hc2 hr
  by_cases hc3 : r21 = 70
  · have hr := nk_ifp hc3 hr
    refine nk_p (i := .tableswitch 292 67 84 #[225, 292, 225, 238, 292, 292, 127, 292, 115, 173, 292, 85, 292, 292, 292, 292, 292, 251]) (len := 85) (pc' := 349) mJ_102 (by decide +kernel) (ns_tsw (V := 70) hc3 (by decide +kernel)) rfl ?_
    refine nk_p (i := .aload_n 0) (len := 1) (pc' := 350) mJ_102 (by decide +kernel) (ns_aload_n 1 rfl rfl) rfl ?_
    refine nk_p (i := .aload_n 1) (len := 1) (pc' := 351) mJ_102 (by decide +kernel) (ns_aload_n 2 rfl rfl) rfl ?_
    refine nk_p (i := .iload 6) (len := 2) (pc' := 353) mJ_102 (by decide +kernel) (ns_iload 0 rfl) rfl ?_
    refine nk_p (i := .iload 5) (len := 2) (pc' := 355) mJ_102 (by decide +kernel) (ns_iload 6 rfl) rfl ?_
    refine nk_p (i := .iload_n 3) (len := 1) (pc' := 356) mJ_102 (by decide +kernel) (ns_iload_n 4 rfl rfl) rfl ?_
    refine nk_p (i := .iconst 1) (len := 1) (pc' := 357) mJ_102 (by decide +kernel) (ns_iconst (c := 1) (by decide +kernel)) rfl ?_
    refine nk_p (i := .iadd) (len := 1) (pc' := 358) mJ_102 (by decide +kernel) ns_iadd rfl ?_
    obtain ⟨r24, S25, h26, hr⟩ := nk_bde hr
    refine nk_callV (ci := 13) (n := 4) (x := 429) (len := 3) (j' := 219) (q' := 1) (r := r24) (S' := S25) (L2 := [(0, nk_r l0), (1, nk_r l1), (2, nk_i v1), (3, nk_i l5), (4, nk_i (nk_w (l3 + 1)))]) (rest := []) (st' := [nk_i r24]) (pc' := 361) mJ_102 (by decide +kernel) (by decide +kernel) rfl rfl t_l0 (Nat.le_of_ble_eq_true rfl) mJ_219 (Nat.le_of_ble_eq_true rfl) rfl (ja_X13_reference_ok zs _ _ _ _ _ _ _ t_l0 t_l1 h26) rfl ?_
    obtain ⟨h27, hr⟩ := nk_cke hr
    cases hr
    exact nk_iret (ty := .boolean) (len := 1) mJ_102 (by decide +kernel) rfl (nk_nar_z h27)
  have hr := nk_ifn hc3 hr
  by_cases hc4 : r21 = 71
  · have hr := nk_ifp hc4 hr
    refine nk_p (i := .tableswitch 292 67 84 #[225, 292, 225, 238, 292, 292, 127, 292, 115, 173, 292, 85, 292, 292, 292, 292, 292, 251]) (len := 85) (pc' := 403) mJ_102 (by decide +kernel) (ns_tsw (V := 71) hc4 (by decide +kernel)) rfl ?_
    refine nk_p (i := .iconst 1) (len := 1) (pc' := 404) mJ_102 (by decide +kernel) (ns_iconst (c := 1) (by decide +kernel)) rfl ?_
    cases hr
    exact nk_iret (ty := .boolean) (len := 1) mJ_102 (by decide +kernel) rfl (nk_nar_z (by decide))
  have hr := nk_ifn hc4 hr
  by_cases hc5 : r21 = 72
  · have hr := nk_ifp hc5 hr
    refine nk_p (i := .tableswitch 292 67 84 #[225, 292, 225, 238, 292, 292, 127, 292, 115, 173, 292, 85, 292, 292, 292, 292, 292, 251]) (len := 85) (pc' := 403) mJ_102 (by decide +kernel) (ns_tsw (V := 72) hc5 (by decide +kernel)) rfl ?_
    refine nk_p (i := .iconst 1) (len := 1) (pc' := 404) mJ_102 (by decide +kernel) (ns_iconst (c := 1) (by decide +kernel)) rfl ?_
    cases hr
    exact nk_iret (ty := .boolean) (len := 1) mJ_102 (by decide +kernel) rfl (nk_nar_z (by decide))
  have hr := nk_ifn hc5 hr
  by_cases hc6 : r21 = 73
  · have hr := nk_ifp hc6 hr
    refine nk_p (i := .tableswitch 292 67 84 #[225, 292, 225, 238, 292, 292, 127, 292, 115, 173, 292, 85, 292, 292, 292, 292, 292, 251]) (len := 85) (pc' := 238) mJ_102 (by decide +kernel) (ns_tsw (V := 73) hc6 (by decide +kernel)) rfl ?_
    refine nk_p (i := .aload_n 0) (len := 1) (pc' := 239) mJ_102 (by decide +kernel) (ns_aload_n 1 rfl rfl) rfl ?_
    refine nk_p (i := .aload_n 1) (len := 1) (pc' := 240) mJ_102 (by decide +kernel) (ns_aload_n 2 rfl rfl) rfl ?_
    refine nk_p (i := .iload_n 2) (len := 1) (pc' := 241) mJ_102 (by decide +kernel) (ns_iload_n 3 rfl rfl) rfl ?_
    refine nk_p (i := .iload 6) (len := 2) (pc' := 243) mJ_102 (by decide +kernel) (ns_iload 0 rfl) rfl ?_
    refine nk_p (i := .iload_n 3) (len := 1) (pc' := 244) mJ_102 (by decide +kernel) (ns_iload_n 4 rfl rfl) rfl ?_
    refine nk_p (i := .iconst 1) (len := 1) (pc' := 245) mJ_102 (by decide +kernel) (ns_iconst (c := 1) (by decide +kernel)) rfl ?_
    refine nk_p (i := .iadd) (len := 1) (pc' := 246) mJ_102 (by decide +kernel) ns_iadd rfl ?_
    obtain ⟨r28, S29, h30, hr⟩ := nk_bde hr
    refine nk_callV (ci := 13) (n := 4) (x := 423) (len := 3) (j' := 186) (q' := 1) (r := r28) (S' := S29) (L2 := [(0, nk_r l0), (1, nk_r l1), (2, nk_i l2), (3, nk_i v1), (4, nk_i (nk_w (l3 + 1)))]) (rest := []) (st' := [nk_i r28]) (pc' := 249) mJ_102 (by decide +kernel) (by decide +kernel) rfl rfl t_l0 (Nat.le_of_ble_eq_true rfl) mJ_186 (Nat.le_of_ble_eq_true rfl) rfl (ja_X13_localStep_ok zs _ _ _ _ _ _ _ t_l0 t_l1 h30) rfl ?_
    refine nk_icond (c := .ne) (off := 5) (len := 3) (t := 254) (pc' := 252) mJ_102 (by decide +kernel) (by decide +kernel) rfl (fun hc => ?_) (fun hc => ?_)
    · have hr := nk_ifn (c := r28 = 0) hc hr
      refine nk_p (i := .aload_n 1) (len := 1) (pc' := 255) mJ_102 (by decide +kernel) (ns_aload_n 2 rfl rfl) rfl ?_
      refine nk_getC (f := (4, 1, 1024)) (x := 417) (len := 3) (ci := 12) (k := 24) (pc' := 258) ja_okT mJ_102 (by decide +kernel) (by decide +kernel) (by decide +kernel) (by decide) t_l1 rfl ?_
      refine nk_p (i := .iload 6) (len := 2) (pc' := 260) mJ_102 (by decide +kernel) (ns_iload 0 rfl) rfl ?_
      refine nk_p (i := .aload_n 0) (len := 1) (pc' := 261) mJ_102 (by decide +kernel) (ns_aload_n 1 rfl rfl) rfl ?_
      refine nk_p (i := .iload_n 3) (len := 1) (pc' := 262) mJ_102 (by decide +kernel) (ns_iload_n 4 rfl rfl) rfl ?_
      refine nk_p (i := .iconst 2) (len := 1) (pc' := 263) mJ_102 (by decide +kernel) (ns_iconst (c := 2) (by decide +kernel)) rfl ?_
      refine nk_p (i := .iadd) (len := 1) (pc' := 264) mJ_102 (by decide +kernel) ns_iadd rfl ?_
      obtain ⟨r31, S32, h33, hr⟩ := nk_bde hr
      refine nk_callV (ci := 13) (n := 1) (x := 182) (len := 3) (j' := 197) (q' := 2) (r := r31) (S' := S32) (L2 := [(0, nk_r l0), (1, nk_i (nk_w (l3 + 2)))]) (rest := [nk_i v1, nk_r (ja_c l1 24)]) (st' := [nk_l r31, nk_i v1, nk_r (ja_c l1 24)]) (pc' := 267) mJ_102 (by decide +kernel) (by decide +kernel) rfl rfl t_l0 (Nat.le_of_ble_eq_true rfl) mJ_197 (Nat.le_of_ble_eq_true rfl) rfl (ja_X13_number_ok zs _ _ _ _ t_l0 h33) rfl ?_
      refine nk_p (i := .l2i) (len := 1) (pc' := 268) mJ_102 (by decide +kernel) ns_l2i rfl ?_
      obtain ⟨S34, h35, hr⟩ := nk_lte hr
      refine nk_iast (len := 1) (N := 1024) (pc' := 269) mJ_102 (by decide +kernel) t16 h4.1 h4.2 rfl rfl h35 ?_
      refine nk_p (i := .aload_n 0) (len := 1) (pc' := 270) mJ_102 (by decide +kernel) (ns_aload_n 1 rfl rfl) rfl ?_
      refine nk_p (i := .aload_n 1) (len := 1) (pc' := 271) mJ_102 (by decide +kernel) (ns_aload_n 2 rfl rfl) rfl ?_
      refine nk_p (i := .aload_n 1) (len := 1) (pc' := 272) mJ_102 (by decide +kernel) (ns_aload_n 2 rfl rfl) rfl ?_
      refine nk_getC (f := (4, 1, 1024)) (x := 417) (len := 3) (ci := 12) (k := 24) (pc' := 275) ja_okT mJ_102 (by decide +kernel) (by decide +kernel) (by decide +kernel) (by decide) t_l1 rfl ?_
      refine nk_p (i := .iload 6) (len := 2) (pc' := 277) mJ_102 (by decide +kernel) (ns_iload 0 rfl) rfl ?_
      refine nk_iald (len := 1) (N := 1024) (pc' := 278) mJ_102 (by decide +kernel) t16 h4.1 h4.2 rfl rfl ?_
      refine nk_p (i := .i2l) (len := 1) (pc' := 279) mJ_102 (by decide +kernel) ns_i2l rfl ?_
      obtain ⟨r36, S37, h38, hr⟩ := nk_bde hr
      refine nk_callV (ci := 13) (n := 2) (x := 420) (len := 3) (j' := 233) (q' := 0) (r := r36) (S' := S37) (L2 := [(0, nk_r l0), (1, nk_r l1), (2, nk_l (S34.1 (ja_c l1 24) v1.toNat))]) (rest := []) (st' := []) (pc' := 282) mJ_102 (by decide +kernel) (by decide +kernel) rfl rfl t_l0 (Nat.le_of_ble_eq_true rfl) mJ_233 (Nat.le_of_ble_eq_true rfl) rfl (ja_X13_thresholds_ok zs _ _ _ _ _ t_l0 t_l1 h38) rfl ?_
      refine nk_p (i := .iconst 1) (len := 1) (pc' := 283) mJ_102 (by decide +kernel) (ns_iconst (c := 1) (by decide +kernel)) rfl ?_
      cases hr
      exact nk_iret (ty := .boolean) (len := 1) mJ_102 (by decide +kernel) rfl (nk_nar_z (by decide))
    · have hr := nk_ifp (c := r28 = 0) (Decidable.of_not_not hc) hr
      refine nk_p (i := .iconst 0) (len := 1) (pc' := 253) mJ_102 (by decide +kernel) (ns_iconst (c := 0) (by decide +kernel)) rfl ?_
      cases hr
      exact nk_iret (ty := .boolean) (len := 1) mJ_102 (by decide +kernel) rfl (nk_nar_z (by decide))
  have hr := nk_ifn hc6 hr
  by_cases hc7 : r21 = 74
  · have hr := nk_ifp hc7 hr
    refine nk_p (i := .tableswitch 292 67 84 #[225, 292, 225, 238, 292, 292, 127, 292, 115, 173, 292, 85, 292, 292, 292, 292, 292, 251]) (len := 85) (pc' := 403) mJ_102 (by decide +kernel) (ns_tsw (V := 74) hc7 (by decide +kernel)) rfl ?_
    refine nk_p (i := .iconst 1) (len := 1) (pc' := 404) mJ_102 (by decide +kernel) (ns_iconst (c := 1) (by decide +kernel)) rfl ?_
    cases hr
    exact nk_iret (ty := .boolean) (len := 1) mJ_102 (by decide +kernel) rfl (nk_nar_z (by decide))
  have hr := nk_ifn hc7 hr
  by_cases hc8 : r21 = 75
  · have hr := nk_ifp hc8 hr
    refine nk_p (i := .tableswitch 292 67 84 #[225, 292, 225, 238, 292, 292, 127, 292, 115, 173, 292, 85, 292, 292, 292, 292, 292, 251]) (len := 85) (pc' := 226) mJ_102 (by decide +kernel) (ns_tsw (V := 75) hc8 (by decide +kernel)) rfl ?_
    refine nk_p (i := .aload_n 0) (len := 1) (pc' := 227) mJ_102 (by decide +kernel) (ns_aload_n 1 rfl rfl) rfl ?_
    refine nk_p (i := .aload_n 1) (len := 1) (pc' := 228) mJ_102 (by decide +kernel) (ns_aload_n 2 rfl rfl) rfl ?_
    refine nk_p (i := .iload_n 2) (len := 1) (pc' := 229) mJ_102 (by decide +kernel) (ns_iload_n 3 rfl rfl) rfl ?_
    refine nk_p (i := .iload 6) (len := 2) (pc' := 231) mJ_102 (by decide +kernel) (ns_iload 0 rfl) rfl ?_
    refine nk_p (i := .iload_n 3) (len := 1) (pc' := 232) mJ_102 (by decide +kernel) (ns_iload_n 4 rfl rfl) rfl ?_
    refine nk_p (i := .iconst 1) (len := 1) (pc' := 233) mJ_102 (by decide +kernel) (ns_iconst (c := 1) (by decide +kernel)) rfl ?_
    refine nk_p (i := .iadd) (len := 1) (pc' := 234) mJ_102 (by decide +kernel) ns_iadd rfl ?_
    obtain ⟨r39, S40, h41, hr⟩ := nk_bde hr
    refine nk_callV (ci := 13) (n := 4) (x := 423) (len := 3) (j' := 186) (q' := 1) (r := r39) (S' := S40) (L2 := [(0, nk_r l0), (1, nk_r l1), (2, nk_i l2), (3, nk_i v1), (4, nk_i (nk_w (l3 + 1)))]) (rest := []) (st' := [nk_i r39]) (pc' := 237) mJ_102 (by decide +kernel) (by decide +kernel) rfl rfl t_l0 (Nat.le_of_ble_eq_true rfl) mJ_186 (Nat.le_of_ble_eq_true rfl) rfl (ja_X13_localStep_ok zs _ _ _ _ _ _ _ t_l0 t_l1 h41) rfl ?_
    obtain ⟨h42, hr⟩ := nk_cke hr
    cases hr
    exact nk_iret (ty := .boolean) (len := 1) mJ_102 (by decide +kernel) rfl (nk_nar_z h42)
  have hr := nk_ifn hc8 hr
  by_cases hc9 : r21 = 76
  · have hr := nk_ifp hc9 hr
    refine nk_p (i := .tableswitch 292 67 84 #[225, 292, 225, 238, 292, 292, 127, 292, 115, 173, 292, 85, 292, 292, 292, 292, 292, 251]) (len := 85) (pc' := 284) mJ_102 (by decide +kernel) (ns_tsw (V := 76) hc9 (by decide +kernel)) rfl ?_
    refine nk_p (i := .aload_n 1) (len := 1) (pc' := 285) mJ_102 (by decide +kernel) (ns_aload_n 2 rfl rfl) rfl ?_
    refine nk_getC (f := (4, 1, 1024)) (x := 414) (len := 3) (ci := 12) (k := 23) (pc' := 288) ja_okT mJ_102 (by decide +kernel) (by decide +kernel) (by decide +kernel) (by decide) t_l1 rfl ?_
    refine nk_p (i := .iload 6) (len := 2) (pc' := 290) mJ_102 (by decide +kernel) (ns_iload 0 rfl) rfl ?_
    refine nk_p (i := .aload_n 0) (len := 1) (pc' := 291) mJ_102 (by decide +kernel) (ns_aload_n 1 rfl rfl) rfl ?_
    refine nk_p (i := .iload_n 3) (len := 1) (pc' := 292) mJ_102 (by decide +kernel) (ns_iload_n 4 rfl rfl) rfl ?_
    refine nk_p (i := .iconst 1) (len := 1) (pc' := 293) mJ_102 (by decide +kernel) (ns_iconst (c := 1) (by decide +kernel)) rfl ?_
    refine nk_p (i := .iadd) (len := 1) (pc' := 294) mJ_102 (by decide +kernel) ns_iadd rfl ?_
    obtain ⟨r43, S44, h45, hr⟩ := nk_bde hr
    refine nk_callV (ci := 13) (n := 1) (x := 394) (len := 3) (j' := 173) (q' := 1) (r := r43) (S' := S44) (L2 := [(0, nk_r l0), (1, nk_i (nk_w (l3 + 1)))]) (rest := [nk_i v1, nk_r (ja_c l1 23)]) (st' := [nk_i r43, nk_i v1, nk_r (ja_c l1 23)]) (pc' := 297) mJ_102 (by decide +kernel) (by decide +kernel) rfl rfl t_l0 (Nat.le_of_ble_eq_true rfl) mJ_173 (Nat.le_of_ble_eq_true rfl) rfl (ja_X13_labelAt_ok zs _ _ _ _ t_l0 h45) rfl ?_
    obtain ⟨S46, h47, hr⟩ := nk_lte hr
    refine nk_iast (len := 1) (N := 1024) (pc' := 298) mJ_102 (by decide +kernel) t13 h4.1 h4.2 rfl rfl h47 ?_
    refine nk_p (i := .aload_n 1) (len := 1) (pc' := 299) mJ_102 (by decide +kernel) (ns_aload_n 2 rfl rfl) rfl ?_
    refine nk_getC (f := (4, 1, 1024)) (x := 414) (len := 3) (ci := 12) (k := 23) (pc' := 302) ja_okT mJ_102 (by decide +kernel) (by decide +kernel) (by decide +kernel) (by decide) t_l1 rfl ?_
    refine nk_p (i := .iload 6) (len := 2) (pc' := 304) mJ_102 (by decide +kernel) (ns_iload 0 rfl) rfl ?_
    refine nk_iald (len := 1) (N := 1024) (pc' := 305) mJ_102 (by decide +kernel) t13 h4.1 h4.2 rfl rfl ?_
    refine nk_icond (c := .lt) (off := 15) (len := 3) (t := 320) (pc' := 308) mJ_102 (by decide +kernel) (by decide +kernel) rfl (fun hc => ?_) (fun hc => ?_)
    · have hr := nk_ifp (c := (S46.1 (ja_c l1 23) v1.toNat) < 0) hc hr
      refine nk_sub [1, 4] (L' := [(0, nk_r l0), (3, nk_i l3)]) rfl ?_
      exact ja_X13_code_b320_ok zs _ _ _ _ t_l0 hr
    · have hr := nk_ifn (c := (S46.1 (ja_c l1 23) v1.toNat) < 0) hc hr
      refine nk_p (i := .aload_n 1) (len := 1) (pc' := 309) mJ_102 (by decide +kernel) (ns_aload_n 2 rfl rfl) rfl ?_
      refine nk_getC (f := (4, 1, 1024)) (x := 414) (len := 3) (ci := 12) (k := 23) (pc' := 312) ja_okT mJ_102 (by decide +kernel) (by decide +kernel) (by decide +kernel) (by decide) t_l1 rfl ?_
      refine nk_p (i := .iload 6) (len := 2) (pc' := 314) mJ_102 (by decide +kernel) (ns_iload 0 rfl) rfl ?_
      refine nk_iald (len := 1) (N := 1024) (pc' := 315) mJ_102 (by decide +kernel) t13 h4.1 h4.2 rfl rfl ?_
      refine nk_p (i := .iload 4) (len := 2) (pc' := 317) mJ_102 (by decide +kernel) (ns_iload 5 rfl) rfl ?_
      refine nk_icmp (c := .lt) (off := 13) (len := 3) (t := 330) (pc' := 320) mJ_102 (by decide +kernel) (by decide +kernel) rfl (fun hc => ?_) (fun hc => ?_)
      · have hr := nk_ifp (c := (S46.1 (ja_c l1 23) v1.toNat) < l4) hc hr
        refine nk_p (i := .iconst 1) (len := 1) (pc' := 331) mJ_102 (by decide +kernel) (ns_iconst (c := 1) (by decide +kernel)) rfl ?_
        refine nk_p (i := .goto 4) (len := 3) (pc' := 335) mJ_102 (by decide +kernel) (ns_goto (by decide +kernel)) rfl ?_
        cases hr
        exact nk_iret (ty := .boolean) (len := 1) mJ_102 (by decide +kernel) rfl (nk_nar_z (by decide))
      · have hr := nk_ifn (c := (S46.1 (ja_c l1 23) v1.toNat) < l4) hc hr
        refine nk_sub [1, 4] (L' := [(0, nk_r l0), (3, nk_i l3)]) rfl ?_
        exact ja_X13_code_b320_ok zs _ _ _ _ t_l0 hr
  have hr := nk_ifn hc9 hr
  by_cases hc10 : r21 = 77
  · have hr := nk_ifp hc10 hr
    refine nk_p (i := .tableswitch 292 67 84 #[225, 292, 225, 238, 292, 292, 127, 292, 115, 173, 292, 85, 292, 292, 292, 292, 292, 251]) (len := 85) (pc' := 403) mJ_102 (by decide +kernel) (ns_tsw (V := 77) hc10 (by decide +kernel)) rfl ?_
    refine nk_p (i := .iconst 1) (len := 1) (pc' := 404) mJ_102 (by decide +kernel) (ns_iconst (c := 1) (by decide +kernel)) rfl ?_
    cases hr
    exact nk_iret (ty := .boolean) (len := 1) mJ_102 (by decide +kernel) rfl (nk_nar_z (by decide))
  have hr := nk_ifn hc10 hr
  by_cases hc11 : r21 = 78
  · have hr := nk_ifp hc11 hr
    refine nk_p (i := .tableswitch 292 67 84 #[225, 292, 225, 238, 292, 292, 127, 292, 115, 173, 292, 85, 292, 292, 292, 292, 292, 251]) (len := 85) (pc' := 196) mJ_102 (by decide +kernel) (ns_tsw (V := 78) hc11 (by decide +kernel)) rfl ?_
    refine nk_p (i := .aload_n 1) (len := 1) (pc' := 197) mJ_102 (by decide +kernel) (ns_aload_n 2 rfl rfl) rfl ?_
    refine nk_getC (f := (4, 1, 1024)) (x := 414) (len := 3) (ci := 12) (k := 23) (pc' := 200) ja_okT mJ_102 (by decide +kernel) (by decide +kernel) (by decide +kernel) (by decide) t_l1 rfl ?_
    refine nk_p (i := .iload 6) (len := 2) (pc' := 202) mJ_102 (by decide +kernel) (ns_iload 0 rfl) rfl ?_
    refine nk_p (i := .aload_n 0) (len := 1) (pc' := 203) mJ_102 (by decide +kernel) (ns_aload_n 1 rfl rfl) rfl ?_
    refine nk_p (i := .iload_n 3) (len := 1) (pc' := 204) mJ_102 (by decide +kernel) (ns_iload_n 4 rfl rfl) rfl ?_
    refine nk_p (i := .iconst 1) (len := 1) (pc' := 205) mJ_102 (by decide +kernel) (ns_iconst (c := 1) (by decide +kernel)) rfl ?_
    refine nk_p (i := .iadd) (len := 1) (pc' := 206) mJ_102 (by decide +kernel) ns_iadd rfl ?_
    obtain ⟨r48, S49, h50, hr⟩ := nk_bde hr
    refine nk_callV (ci := 13) (n := 1) (x := 182) (len := 3) (j' := 197) (q' := 2) (r := r48) (S' := S49) (L2 := [(0, nk_r l0), (1, nk_i (nk_w (l3 + 1)))]) (rest := [nk_i v1, nk_r (ja_c l1 23)]) (st' := [nk_l r48, nk_i v1, nk_r (ja_c l1 23)]) (pc' := 209) mJ_102 (by decide +kernel) (by decide +kernel) rfl rfl t_l0 (Nat.le_of_ble_eq_true rfl) mJ_197 (Nat.le_of_ble_eq_true rfl) rfl (ja_X13_number_ok zs _ _ _ _ t_l0 h50) rfl ?_
    refine nk_p (i := .l2i) (len := 1) (pc' := 210) mJ_102 (by decide +kernel) ns_l2i rfl ?_
    obtain ⟨S51, h52, hr⟩ := nk_lte hr
    refine nk_iast (len := 1) (N := 1024) (pc' := 211) mJ_102 (by decide +kernel) t13 h4.1 h4.2 rfl rfl h52 ?_
    refine nk_p (i := .aload_n 0) (len := 1) (pc' := 212) mJ_102 (by decide +kernel) (ns_aload_n 1 rfl rfl) rfl ?_
    refine nk_p (i := .aload_n 1) (len := 1) (pc' := 213) mJ_102 (by decide +kernel) (ns_aload_n 2 rfl rfl) rfl ?_
    refine nk_p (i := .aload_n 1) (len := 1) (pc' := 214) mJ_102 (by decide +kernel) (ns_aload_n 2 rfl rfl) rfl ?_
    refine nk_getC (f := (4, 1, 1024)) (x := 414) (len := 3) (ci := 12) (k := 23) (pc' := 217) ja_okT mJ_102 (by decide +kernel) (by decide +kernel) (by decide +kernel) (by decide) t_l1 rfl ?_
    refine nk_p (i := .iload 6) (len := 2) (pc' := 219) mJ_102 (by decide +kernel) (ns_iload 0 rfl) rfl ?_
    refine nk_iald (len := 1) (N := 1024) (pc' := 220) mJ_102 (by decide +kernel) t13 h4.1 h4.2 rfl rfl ?_
    refine nk_p (i := .i2l) (len := 1) (pc' := 221) mJ_102 (by decide +kernel) ns_i2l rfl ?_
    obtain ⟨r53, S54, h55, hr⟩ := nk_bde hr
    refine nk_callV (ci := 13) (n := 2) (x := 420) (len := 3) (j' := 233) (q' := 0) (r := r53) (S' := S54) (L2 := [(0, nk_r l0), (1, nk_r l1), (2, nk_l (S51.1 (ja_c l1 23) v1.toNat))]) (rest := []) (st' := []) (pc' := 224) mJ_102 (by decide +kernel) (by decide +kernel) rfl rfl t_l0 (Nat.le_of_ble_eq_true rfl) mJ_233 (Nat.le_of_ble_eq_true rfl) rfl (ja_X13_thresholds_ok zs _ _ _ _ _ t_l0 t_l1 h55) rfl ?_
    refine nk_p (i := .iconst 1) (len := 1) (pc' := 225) mJ_102 (by decide +kernel) (ns_iconst (c := 1) (by decide +kernel)) rfl ?_
    cases hr
    exact nk_iret (ty := .boolean) (len := 1) mJ_102 (by decide +kernel) rfl (nk_nar_z (by decide))
  have hr := nk_ifn hc11 hr
  by_cases hc12 : r21 = 79
  · have hr := nk_ifp hc12 hr
    refine nk_p (i := .tableswitch 292 67 84 #[225, 292, 225, 238, 292, 292, 127, 292, 115, 173, 292, 85, 292, 292, 292, 292, 292, 251]) (len := 85) (pc' := 403) mJ_102 (by decide +kernel) (ns_tsw (V := 79) hc12 (by decide +kernel)) rfl ?_
    refine nk_p (i := .iconst 1) (len := 1) (pc' := 404) mJ_102 (by decide +kernel) (ns_iconst (c := 1) (by decide +kernel)) rfl ?_
    cases hr
    exact nk_iret (ty := .boolean) (len := 1) mJ_102 (by decide +kernel) rfl (nk_nar_z (by decide))
  have hr := nk_ifn hc12 hr
  by_cases hc13 : r21 = 80
  · have hr := nk_ifp hc13 hr
    refine nk_p (i := .tableswitch 292 67 84 #[225, 292, 225, 238, 292, 292, 127, 292, 115, 173, 292, 85, 292, 292, 292, 292, 292, 251]) (len := 85) (pc' := 403) mJ_102 (by decide +kernel) (ns_tsw (V := 80) hc13 (by decide +kernel)) rfl ?_
    refine nk_p (i := .iconst 1) (len := 1) (pc' := 404) mJ_102 (by decide +kernel) (ns_iconst (c := 1) (by decide +kernel)) rfl ?_
    cases hr
    exact nk_iret (ty := .boolean) (len := 1) mJ_102 (by decide +kernel) rfl (nk_nar_z (by decide))
  have hr := nk_ifn hc13 hr
  by_cases hc14 : r21 = 81
  · have hr := nk_ifp hc14 hr
    refine nk_p (i := .tableswitch 292 67 84 #[225, 292, 225, 238, 292, 292, 127, 292, 115, 173, 292, 85, 292, 292, 292, 292, 292, 251]) (len := 85) (pc' := 403) mJ_102 (by decide +kernel) (ns_tsw (V := 81) hc14 (by decide +kernel)) rfl ?_
    refine nk_p (i := .iconst 1) (len := 1) (pc' := 404) mJ_102 (by decide +kernel) (ns_iconst (c := 1) (by decide +kernel)) rfl ?_
    cases hr
    exact nk_iret (ty := .boolean) (len := 1) mJ_102 (by decide +kernel) rfl (nk_nar_z (by decide))
  have hr := nk_ifn hc14 hr
  by_cases hc15 : r21 = 82
  · have hr := nk_ifp hc15 hr
    refine nk_p (i := .tableswitch 292 67 84 #[225, 292, 225, 238, 292, 292, 127, 292, 115, 173, 292, 85, 292, 292, 292, 292, 292, 251]) (len := 85) (pc' := 403) mJ_102 (by decide +kernel) (ns_tsw (V := 82) hc15 (by decide +kernel)) rfl ?_
    refine nk_p (i := .iconst 1) (len := 1) (pc' := 404) mJ_102 (by decide +kernel) (ns_iconst (c := 1) (by decide +kernel)) rfl ?_
    cases hr
    exact nk_iret (ty := .boolean) (len := 1) mJ_102 (by decide +kernel) rfl (nk_nar_z (by decide))
  have hr := nk_ifn hc15 hr
  by_cases hc16 : r21 = 83
  · have hr := nk_ifp hc16 hr
    refine nk_p (i := .tableswitch 292 67 84 #[225, 292, 225, 238, 292, 292, 127, 292, 115, 173, 292, 85, 292, 292, 292, 292, 292, 251]) (len := 85) (pc' := 403) mJ_102 (by decide +kernel) (ns_tsw (V := 83) hc16 (by decide +kernel)) rfl ?_
    refine nk_p (i := .iconst 1) (len := 1) (pc' := 404) mJ_102 (by decide +kernel) (ns_iconst (c := 1) (by decide +kernel)) rfl ?_
    cases hr
    exact nk_iret (ty := .boolean) (len := 1) mJ_102 (by decide +kernel) rfl (nk_nar_z (by decide))
  have hr := nk_ifn hc16 hr
  by_cases hc17 : r21 = 84
  · have hr := nk_ifp hc17 hr
    refine nk_p (i := .tableswitch 292 67 84 #[225, 292, 225, 238, 292, 292, 127, 292, 115, 173, 292, 85, 292, 292, 292, 292, 292, 251]) (len := 85) (pc' := 362) mJ_102 (by decide +kernel) (ns_tsw (V := 84) hc17 (by decide +kernel)) rfl ?_
    refine nk_p (i := .aload_n 1) (len := 1) (pc' := 363) mJ_102 (by decide +kernel) (ns_aload_n 2 rfl rfl) rfl ?_
    refine nk_getC (f := (4, 1, 1024)) (x := 414) (len := 3) (ci := 12) (k := 23) (pc' := 366) ja_okT mJ_102 (by decide +kernel) (by decide +kernel) (by decide +kernel) (by decide) t_l1 rfl ?_
    refine nk_p (i := .iload 6) (len := 2) (pc' := 368) mJ_102 (by decide +kernel) (ns_iload 0 rfl) rfl ?_
    refine nk_p (i := .aload_n 0) (len := 1) (pc' := 369) mJ_102 (by decide +kernel) (ns_aload_n 1 rfl rfl) rfl ?_
    refine nk_p (i := .aload_n 1) (len := 1) (pc' := 370) mJ_102 (by decide +kernel) (ns_aload_n 2 rfl rfl) rfl ?_
    refine nk_p (i := .iload_n 3) (len := 1) (pc' := 371) mJ_102 (by decide +kernel) (ns_iload_n 4 rfl rfl) rfl ?_
    refine nk_p (i := .iconst 1) (len := 1) (pc' := 372) mJ_102 (by decide +kernel) (ns_iconst (c := 1) (by decide +kernel)) rfl ?_
    refine nk_p (i := .iadd) (len := 1) (pc' := 373) mJ_102 (by decide +kernel) ns_iadd rfl ?_
    obtain ⟨r56, S57, h58, hr⟩ := nk_bde hr
    refine nk_callV (ci := 13) (n := 2) (x := 321) (len := 3) (j' := 236) (q' := 1) (r := r56) (S' := S57) (L2 := [(0, nk_r l0), (1, nk_r l1), (2, nk_i (nk_w (l3 + 1)))]) (rest := [nk_i v1, nk_r (ja_c l1 23)]) (st' := [nk_i r56, nk_i v1, nk_r (ja_c l1 23)]) (pc' := 376) mJ_102 (by decide +kernel) (by decide +kernel) rfl rfl t_l0 (Nat.le_of_ble_eq_true rfl) mJ_236 (Nat.le_of_ble_eq_true rfl) rfl (ja_X13_typeOf_ok zs _ _ _ _ _ t_l0 t_l1 h58) rfl ?_
    obtain ⟨S59, h60, hr⟩ := nk_lte hr
    refine nk_iast (len := 1) (N := 1024) (pc' := 377) mJ_102 (by decide +kernel) t13 h4.1 h4.2 rfl rfl h60 ?_
    refine nk_p (i := .aload_n 1) (len := 1) (pc' := 378) mJ_102 (by decide +kernel) (ns_aload_n 2 rfl rfl) rfl ?_
    refine nk_getC (f := (4, 1, 1024)) (x := 414) (len := 3) (ci := 12) (k := 23) (pc' := 381) ja_okT mJ_102 (by decide +kernel) (by decide +kernel) (by decide +kernel) (by decide) t_l1 rfl ?_
    refine nk_p (i := .iload 6) (len := 2) (pc' := 383) mJ_102 (by decide +kernel) (ns_iload 0 rfl) rfl ?_
    refine nk_iald (len := 1) (N := 1024) (pc' := 384) mJ_102 (by decide +kernel) t13 h4.1 h4.2 rfl rfl ?_
    refine nk_icond (c := .ge) (off := 13) (len := 3) (t := 397) (pc' := 387) mJ_102 (by decide +kernel) (by decide +kernel) rfl (fun hc => ?_) (fun hc => ?_)
    · have hr := nk_ifp (c := 0 ≤ (S59.1 (ja_c l1 23) v1.toNat)) hc hr
      refine nk_p (i := .iconst 1) (len := 1) (pc' := 398) mJ_102 (by decide +kernel) (ns_iconst (c := 1) (by decide +kernel)) rfl ?_
      refine nk_p (i := .goto 4) (len := 3) (pc' := 402) mJ_102 (by decide +kernel) (ns_goto (by decide +kernel)) rfl ?_
      cases hr
      exact nk_iret (ty := .boolean) (len := 1) mJ_102 (by decide +kernel) rfl (nk_nar_z (by decide))
    · have hr := nk_ifn (c := 0 ≤ (S59.1 (ja_c l1 23) v1.toNat)) hc hr
      refine nk_p (i := .aload_n 0) (len := 1) (pc' := 388) mJ_102 (by decide +kernel) (ns_aload_n 1 rfl rfl) rfl ?_
      refine nk_p (i := .iload_n 3) (len := 1) (pc' := 389) mJ_102 (by decide +kernel) (ns_iload_n 4 rfl rfl) rfl ?_
      refine nk_p (i := .iconst 1) (len := 1) (pc' := 390) mJ_102 (by decide +kernel) (ns_iconst (c := 1) (by decide +kernel)) rfl ?_
      refine nk_p (i := .iadd) (len := 1) (pc' := 391) mJ_102 (by decide +kernel) ns_iadd rfl ?_
      obtain ⟨r61, S62, h63, hr⟩ := nk_bde hr
      refine nk_callV (ci := 13) (n := 1) (x := 290) (len := 3) (j' := 246) (q' := 1) (r := r61) (S' := S62) (L2 := [(0, nk_r l0), (1, nk_i (nk_w (l3 + 1)))]) (rest := []) (st' := [nk_i r61]) (pc' := 394) mJ_102 (by decide +kernel) (by decide +kernel) rfl rfl t_l0 (Nat.le_of_ble_eq_true rfl) mJ_246 (Nat.le_of_ble_eq_true rfl) rfl (ja_X13_wrong_ok zs _ _ _ _ t_l0 h63) rfl ?_
      refine nk_icond (c := .eq) (off := 7) (len := 3) (t := 401) (pc' := 397) mJ_102 (by decide +kernel) (by decide +kernel) rfl (fun hc => ?_) (fun hc => ?_)
      · have hr := nk_ifp (c := r61 = 0) hc hr
        refine nk_p (i := .iconst 0) (len := 1) (pc' := 402) mJ_102 (by decide +kernel) (ns_iconst (c := 0) (by decide +kernel)) rfl ?_
        cases hr
        exact nk_iret (ty := .boolean) (len := 1) mJ_102 (by decide +kernel) rfl (nk_nar_z (by decide))
      · have hr := nk_ifn (c := r61 = 0) hc hr
        refine nk_p (i := .iconst 1) (len := 1) (pc' := 398) mJ_102 (by decide +kernel) (ns_iconst (c := 1) (by decide +kernel)) rfl ?_
        refine nk_p (i := .goto 4) (len := 3) (pc' := 402) mJ_102 (by decide +kernel) (ns_goto (by decide +kernel)) rfl ?_
        cases hr
        exact nk_iret (ty := .boolean) (len := 1) mJ_102 (by decide +kernel) rfl (nk_nar_z (by decide))
  have hr := nk_ifn hc17 hr
  refine nk_p (i := .tableswitch 292 67 84 #[225, 292, 225, 238, 292, 292, 127, 292, 115, 173, 292, 85, 292, 292, 292, 292, 292, 251]) (len := 85) (pc' := 403) mJ_102 (by decide +kernel) (ns_tsd (by omega) (by decide +kernel)) rfl ?_
  refine nk_p (i := .iconst 1) (len := 1) (pc' := 404) mJ_102 (by decide +kernel) (ns_iconst (c := 1) (by decide +kernel)) rfl ?_
  cases hr
  exact nk_iret (ty := .boolean) (len := 1) mJ_102 (by decide +kernel) rfl (nk_nar_z (by decide))
noncomputable def ja_X13_code_b31 (l0 : Nat) (l1 : Nat) (l2 : Int) (l3 : Int) (l4 : Int) (l5 : Int) (S : nk_S) : Option (Int × nk_S) :=
  if (S.1 l1 4) = 48 then
    ja_X13_code_b40 l0 l3 S
  else
    ja_X13_code_b46 l0 l1 l2 l3 l4 l5 S
theorem ja_X13_code_b31_ok (zs : List Int32) : ∀ (l0 : Nat) (l1 : Nat) (l2 : Int) (l3 : Int) (l4 : Int) (l5 : Int) (S : nk_S) (R : Int × nk_S), nk_cl ja_Tt l0 = some 13 → nk_cl ja_Tt l1 = some 12 → ja_X13_code_b31 l0 l1 l2 l3 l4 l5 S = some R → nk_K ja_Tt mi_Γ (mi_ev zs) 1 102 31 [(0, nk_r l0), (1, nk_r l1), (2, nk_i l2), (3, nk_i l3), (4, nk_i l4), (5, nk_i l5)] [] S R := by
  intro l0 l1 l2 l3 l4 l5 S R t_l0 t_l1 hr
  unfold ja_X13_code_b31 at hr
  refine nk_p (i := .aload_n 1) (len := 1) (pc' := 32) mJ_102 (by decide +kernel) (ns_aload_n 1 rfl rfl) rfl ?_
  refine nk_getI (y := (0, 0)) (x := 356) (len := 3) (ci := 12) (k := 4) (pc' := 35) ja_okT mJ_102 (by decide +kernel) (by decide +kernel) (by decide +kernel) t_l1 rfl ?_
  refine nk_p (i := .bipush 48) (len := 2) (pc' := 37) mJ_102 (by decide +kernel) (ns_bipush (c := 48) (by decide +kernel)) rfl ?_
  refine nk_icmp (c := .ne) (off := 9) (len := 3) (t := 46) (pc' := 40) mJ_102 (by decide +kernel) (by decide +kernel) rfl (fun hc => ?_) (fun hc => ?_)
  · have hr := nk_ifn (c := (S.1 l1 4) = 48) hc hr
    exact ja_X13_code_b46_ok zs _ _ _ _ _ _ _ _ t_l0 t_l1 hr
  · have hr := nk_ifp (c := (S.1 l1 4) = 48) (Decidable.of_not_not hc) hr
    refine nk_sub [0, 3] (L' := [(0, nk_r l0), (3, nk_i l3)]) rfl ?_
    exact ja_X13_code_b40_ok zs _ _ _ _ t_l0 hr
noncomputable def ja_X13_code (l0 : Nat) (l1 : Nat) (l2 : Int) (l3 : Int) (l4 : Int) (S : nk_S) : Option (Int × nk_S) :=
  nk_bd (ja_X13_opOf l0 l3 S) fun r1 S2 =>
  if (S2.1 l1 3) = 1024 then
    ja_X13_code_b40 l0 l3 S2
  else
    if r1 = 30 then
      ja_X13_code_b31 l0 l1 l2 l3 l4 r1 S2
    else
      if r1 = 31 then
        ja_X13_code_b31 l0 l1 l2 l3 l4 r1 S2
      else
        ja_X13_code_b46 l0 l1 l2 l3 l4 r1 S2
theorem ja_X13_code_ok (zs : List Int32) : ∀ (l0 : Nat) (l1 : Nat) (l2 : Int) (l3 : Int) (l4 : Int) (S : nk_S) (R : Int × nk_S), nk_cl ja_Tt l0 = some 13 → nk_cl ja_Tt l1 = some 12 → ja_X13_code l0 l1 l2 l3 l4 S = some R → nk_K ja_Tt mi_Γ (mi_ev zs) 1 102 0 [(0, nk_r l0), (1, nk_r l1), (2, nk_i l2), (3, nk_i l3), (4, nk_i l4)] [] S R := by
  intro l0 l1 l2 l3 l4 S R t_l0 t_l1 hr
  unfold ja_X13_code at hr
  refine nk_p (i := .aload_n 0) (len := 1) (pc' := 1) mJ_102 (by decide +kernel) (ns_aload_n 0 rfl rfl) rfl ?_
  refine nk_p (i := .iload_n 3) (len := 1) (pc' := 2) mJ_102 (by decide +kernel) (ns_iload_n 3 rfl rfl) rfl ?_
  obtain ⟨r1, S2, h3, hr⟩ := nk_bde hr
  refine nk_callV (ci := 13) (n := 1) (x := 257) (len := 3) (j' := 203) (q' := 1) (r := r1) (S' := S2) (L2 := [(0, nk_r l0), (1, nk_i l3)]) (rest := []) (st' := [nk_i r1]) (pc' := 5) mJ_102 (by decide +kernel) (by decide +kernel) rfl rfl t_l0 (Nat.le_of_ble_eq_true rfl) mJ_203 (Nat.le_of_ble_eq_true rfl) rfl (ja_X13_opOf_ok zs _ _ _ _ t_l0 h3) rfl ?_
  refine nk_p (i := .istore 5) (len := 2) (pc' := 7) mJ_102 (by decide +kernel) (ns_istore (L' := [(5, nk_i r1), (0, nk_r l0), (1, nk_r l1), (2, nk_i l2), (3, nk_i l3), (4, nk_i l4)]) rfl rfl (by decide +kernel)) rfl ?_
  refine nk_p (i := .aload_n 1) (len := 1) (pc' := 8) mJ_102 (by decide +kernel) (ns_aload_n 2 rfl rfl) rfl ?_
  refine nk_getI (y := (0, 0)) (x := 353) (len := 3) (ci := 12) (k := 3) (pc' := 11) ja_okT mJ_102 (by decide +kernel) (by decide +kernel) (by decide +kernel) t_l1 rfl ?_
  refine nk_p (i := .sipush 1024) (len := 3) (pc' := 14) mJ_102 (by decide +kernel) (ns_sipush (c := 1024) (by decide +kernel)) rfl ?_
  refine nk_icmp (c := .eq) (off := 26) (len := 3) (t := 40) (pc' := 17) mJ_102 (by decide +kernel) (by decide +kernel) rfl (fun hc => ?_) (fun hc => ?_)
  · have hr := nk_ifp (c := (S2.1 l1 3) = 1024) hc hr
    refine nk_sub [1, 4] (L' := [(0, nk_r l0), (3, nk_i l3)]) rfl ?_
    exact ja_X13_code_b40_ok zs _ _ _ _ t_l0 hr
  · have hr := nk_ifn (c := (S2.1 l1 3) = 1024) hc hr
    refine nk_p (i := .iload 5) (len := 2) (pc' := 19) mJ_102 (by decide +kernel) (ns_iload 0 rfl) rfl ?_
    refine nk_p (i := .bipush 30) (len := 2) (pc' := 21) mJ_102 (by decide +kernel) (ns_bipush (c := 30) (by decide +kernel)) rfl ?_
    refine nk_icmp (c := .eq) (off := 10) (len := 3) (t := 31) (pc' := 24) mJ_102 (by decide +kernel) (by decide +kernel) rfl (fun hc => ?_) (fun hc => ?_)
    · have hr := nk_ifp (c := r1 = 30) hc hr
      refine nk_sub [1, 2, 3, 4, 5, 0] (L' := [(0, nk_r l0), (1, nk_r l1), (2, nk_i l2), (3, nk_i l3), (4, nk_i l4), (5, nk_i r1)]) rfl ?_
      exact ja_X13_code_b31_ok zs _ _ _ _ _ _ _ _ t_l0 t_l1 hr
    · have hr := nk_ifn (c := r1 = 30) hc hr
      refine nk_p (i := .iload 5) (len := 2) (pc' := 26) mJ_102 (by decide +kernel) (ns_iload 0 rfl) rfl ?_
      refine nk_p (i := .bipush 31) (len := 2) (pc' := 28) mJ_102 (by decide +kernel) (ns_bipush (c := 31) (by decide +kernel)) rfl ?_
      refine nk_icmp (c := .ne) (off := 18) (len := 3) (t := 46) (pc' := 31) mJ_102 (by decide +kernel) (by decide +kernel) rfl (fun hc => ?_) (fun hc => ?_)
      · have hr := nk_ifn (c := r1 = 31) hc hr
        refine nk_sub [1, 2, 3, 4, 5, 0] (L' := [(0, nk_r l0), (1, nk_r l1), (2, nk_i l2), (3, nk_i l3), (4, nk_i l4), (5, nk_i r1)]) rfl ?_
        exact ja_X13_code_b46_ok zs _ _ _ _ _ _ _ _ t_l0 t_l1 hr
      · have hr := nk_ifp (c := r1 = 31) (Decidable.of_not_not hc) hr
        refine nk_sub [1, 2, 3, 4, 5, 0] (L' := [(0, nk_r l0), (1, nk_r l1), (2, nk_i l2), (3, nk_i l3), (4, nk_i l4), (5, nk_i r1)]) rfl ?_
        exact ja_X13_code_b31_ok zs _ _ _ _ _ _ _ _ t_l0 t_l1 hr
/-! SafeCodeModel contrary (I)I -/
noncomputable def ja_X13_contrary_b24 (l0 : Int) (S : nk_S) : Option (Int × nk_S) :=
  some ((nk_w (47 - l0)), S)
theorem ja_X13_contrary_b24_ok (zs : List Int32) : ∀ (l0 : Int) (S : nk_S) (R : Int × nk_S), ja_X13_contrary_b24 l0 S = some R → nk_K ja_Tt mi_Γ (mi_ev zs) 1 103 24 [(0, nk_i l0)] [] S R := by
  intro l0 S R hr
  unfold ja_X13_contrary_b24 at hr
  refine nk_p (i := .bipush 47) (len := 2) (pc' := 26) mJ_103 (by decide +kernel) (ns_bipush (c := 47) (by decide +kernel)) rfl ?_
  refine nk_p (i := .iload_n 0) (len := 1) (pc' := 27) mJ_103 (by decide +kernel) (ns_iload_n 0 rfl rfl) rfl ?_
  refine nk_p (i := .isub) (len := 1) (pc' := 28) mJ_103 (by decide +kernel) ns_isub rfl ?_
  refine nk_p (i := .goto 18) (len := 3) (pc' := 46) mJ_103 (by decide +kernel) (ns_goto (by decide +kernel)) rfl ?_
  cases hr
  exact nk_iret (ty := .int) (len := 1) mJ_103 (by decide +kernel) rfl (nk_nar_i _)
noncomputable def ja_X13_contrary (l0 : Int) (S : nk_S) : Option (Int × nk_S) :=
  if l0 = 22 then
    ja_X13_contrary_b24 l0 S
  else
    if l0 = 23 then
      ja_X13_contrary_b24 l0 S
    else
      if l0 = 24 then
        ja_X13_contrary_b24 l0 S
      else
        if l0 = 25 then
          ja_X13_contrary_b24 l0 S
        else
          if (nk_irem l0 2) = 0 then
            some ((nk_w (l0 + 1)), S)
          else
            some ((nk_w (l0 - 1)), S)
theorem ja_X13_contrary_ok (zs : List Int32) : ∀ (l0 : Int) (S : nk_S) (R : Int × nk_S), ja_X13_contrary l0 S = some R → nk_K ja_Tt mi_Γ (mi_ev zs) 1 103 0 [(0, nk_i l0)] [] S R := by
  intro l0 S R hr
  unfold ja_X13_contrary at hr
  refine nk_p (i := .iload_n 0) (len := 1) (pc' := 1) mJ_103 (by decide +kernel) (ns_iload_n 0 rfl rfl) rfl ?_
  refine nk_p (i := .bipush 22) (len := 2) (pc' := 3) mJ_103 (by decide +kernel) (ns_bipush (c := 22) (by decide +kernel)) rfl ?_
  refine nk_icmp (c := .eq) (off := 21) (len := 3) (t := 24) (pc' := 6) mJ_103 (by decide +kernel) (by decide +kernel) rfl (fun hc => ?_) (fun hc => ?_)
  · have hr := nk_ifp (c := l0 = 22) hc hr
    exact ja_X13_contrary_b24_ok zs _ _ _ hr
  · have hr := nk_ifn (c := l0 = 22) hc hr
    refine nk_p (i := .iload_n 0) (len := 1) (pc' := 7) mJ_103 (by decide +kernel) (ns_iload_n 0 rfl rfl) rfl ?_
    refine nk_p (i := .bipush 23) (len := 2) (pc' := 9) mJ_103 (by decide +kernel) (ns_bipush (c := 23) (by decide +kernel)) rfl ?_
    refine nk_icmp (c := .eq) (off := 15) (len := 3) (t := 24) (pc' := 12) mJ_103 (by decide +kernel) (by decide +kernel) rfl (fun hc => ?_) (fun hc => ?_)
    · have hr := nk_ifp (c := l0 = 23) hc hr
      exact ja_X13_contrary_b24_ok zs _ _ _ hr
    · have hr := nk_ifn (c := l0 = 23) hc hr
      refine nk_p (i := .iload_n 0) (len := 1) (pc' := 13) mJ_103 (by decide +kernel) (ns_iload_n 0 rfl rfl) rfl ?_
      refine nk_p (i := .bipush 24) (len := 2) (pc' := 15) mJ_103 (by decide +kernel) (ns_bipush (c := 24) (by decide +kernel)) rfl ?_
      refine nk_icmp (c := .eq) (off := 9) (len := 3) (t := 24) (pc' := 18) mJ_103 (by decide +kernel) (by decide +kernel) rfl (fun hc => ?_) (fun hc => ?_)
      · have hr := nk_ifp (c := l0 = 24) hc hr
        exact ja_X13_contrary_b24_ok zs _ _ _ hr
      · have hr := nk_ifn (c := l0 = 24) hc hr
        refine nk_p (i := .iload_n 0) (len := 1) (pc' := 19) mJ_103 (by decide +kernel) (ns_iload_n 0 rfl rfl) rfl ?_
        refine nk_p (i := .bipush 25) (len := 2) (pc' := 21) mJ_103 (by decide +kernel) (ns_bipush (c := 25) (by decide +kernel)) rfl ?_
        refine nk_icmp (c := .ne) (off := 10) (len := 3) (t := 31) (pc' := 24) mJ_103 (by decide +kernel) (by decide +kernel) rfl (fun hc => ?_) (fun hc => ?_)
        · have hr := nk_ifn (c := l0 = 25) hc hr
          refine nk_p (i := .iload_n 0) (len := 1) (pc' := 32) mJ_103 (by decide +kernel) (ns_iload_n 0 rfl rfl) rfl ?_
          refine nk_p (i := .iconst 2) (len := 1) (pc' := 33) mJ_103 (by decide +kernel) (ns_iconst (c := 2) (by decide +kernel)) rfl ?_
          refine nk_p (i := .irem) (len := 1) (pc' := 34) mJ_103 (by decide +kernel) (ns_irem (by decide)) rfl ?_
          refine nk_icond (c := .ne) (off := 9) (len := 3) (t := 43) (pc' := 37) mJ_103 (by decide +kernel) (by decide +kernel) rfl (fun hc => ?_) (fun hc => ?_)
          · have hr := nk_ifn (c := (nk_irem l0 2) = 0) hc hr
            refine nk_p (i := .iload_n 0) (len := 1) (pc' := 44) mJ_103 (by decide +kernel) (ns_iload_n 0 rfl rfl) rfl ?_
            refine nk_p (i := .iconst 1) (len := 1) (pc' := 45) mJ_103 (by decide +kernel) (ns_iconst (c := 1) (by decide +kernel)) rfl ?_
            refine nk_p (i := .isub) (len := 1) (pc' := 46) mJ_103 (by decide +kernel) ns_isub rfl ?_
            cases hr
            exact nk_iret (ty := .int) (len := 1) mJ_103 (by decide +kernel) rfl (nk_nar_i _)
          · have hr := nk_ifp (c := (nk_irem l0 2) = 0) (Decidable.of_not_not hc) hr
            refine nk_p (i := .iload_n 0) (len := 1) (pc' := 38) mJ_103 (by decide +kernel) (ns_iload_n 0 rfl rfl) rfl ?_
            refine nk_p (i := .iconst 1) (len := 1) (pc' := 39) mJ_103 (by decide +kernel) (ns_iconst (c := 1) (by decide +kernel)) rfl ?_
            refine nk_p (i := .iadd) (len := 1) (pc' := 40) mJ_103 (by decide +kernel) ns_iadd rfl ?_
            refine nk_p (i := .goto 6) (len := 3) (pc' := 46) mJ_103 (by decide +kernel) (ns_goto (by decide +kernel)) rfl ?_
            cases hr
            exact nk_iret (ty := .int) (len := 1) mJ_103 (by decide +kernel) rfl (nk_nar_i _)
        · have hr := nk_ifp (c := l0 = 25) (Decidable.of_not_not hc) hr
          exact ja_X13_contrary_b24_ok zs _ _ _ hr
/-! SafeCodeModel cut ()Z -/
noncomputable def ja_X13_cut_b215 (rec11 : Nat → Int → Int → Int → nk_S → Option (Int × nk_S)) (l0 : Nat) (l2 : Int) (l3 : Int) (l6 : Int) (S : nk_S) : Option (Int × nk_S) :=
  if 0 ≤ (nk_w ((S.1 l0 10) - 1)) ∧ (nk_w ((S.1 l0 10) - 1)) < 16002 then
  nk_lt (nk_wi S (ja_c l0 9) (nk_w ((S.1 l0 10) - 1)).toNat (nk_w (l3 + 1))) fun S3 =>
  if l6 = 0 then
    nk_lt (nk_w (l3 + 1)) fun v7 =>
    rec11 l0 1 l2 v7 S3
  else
    nk_lt (nk_w (l3 + 1)) fun v5 =>
    rec11 l0 0 l2 v5 S3
  else none
theorem ja_X13_cut_b215_ok (zs : List Int32) {rec11 : Nat → Int → Int → Int → nk_S → Option (Int × nk_S)} (hrec11 : ∀ (l0 : Nat) (l1 : Int) (l2 : Int) (l3 : Int) (S : nk_S) (R : Int × nk_S), nk_cl ja_Tt l0 = some 13 → rec11 l0 l1 l2 l3 S = some R → nk_K ja_Tt mi_Γ (mi_ev zs) 1 105 11 [(0, nk_r l0), (1, nk_i l1), (2, nk_i l2), (3, nk_i l3)] [] S R) : ∀ (l0 : Nat) (l2 : Int) (l3 : Int) (l6 : Int) (S : nk_S) (R : Int × nk_S), nk_cl ja_Tt l0 = some 13 → ja_X13_cut_b215 rec11 l0 l2 l3 l6 S = some R → nk_K ja_Tt mi_Γ (mi_ev zs) 1 105 215 [(0, nk_r l0), (2, nk_i l2), (3, nk_i l3), (6, nk_i l6)] [] S R := by
  intro l0 l2 l3 l6 S R t_l0 hr
  unfold ja_X13_cut_b215 at hr
  refine nk_p (i := .aload_n 0) (len := 1) (pc' := 216) mJ_105 (by decide +kernel) (ns_aload_n 0 rfl rfl) rfl ?_
  refine nk_getC (f := (4, 1, 16002)) (x := 30) (len := 3) (ci := 13) (k := 9) (pc' := 219) ja_okT mJ_105 (by decide +kernel) (by decide +kernel) (by decide +kernel) (by decide) t_l0 rfl ?_
  have t1 : nk_ar ja_Tt (ja_c l0 9) = some (1, 16002) := nk_ta ja_okT t_l0 (by decide +kernel)
  refine nk_p (i := .aload_n 0) (len := 1) (pc' := 220) mJ_105 (by decide +kernel) (ns_aload_n 0 rfl rfl) rfl ?_
  refine nk_getI (y := (0, 0)) (x := 155) (len := 3) (ci := 13) (k := 10) (pc' := 223) ja_okT mJ_105 (by decide +kernel) (by decide +kernel) (by decide +kernel) t_l0 rfl ?_
  refine nk_p (i := .iconst 1) (len := 1) (pc' := 224) mJ_105 (by decide +kernel) (ns_iconst (c := 1) (by decide +kernel)) rfl ?_
  refine nk_p (i := .isub) (len := 1) (pc' := 225) mJ_105 (by decide +kernel) ns_isub rfl ?_
  refine nk_p (i := .iload_n 3) (len := 1) (pc' := 226) mJ_105 (by decide +kernel) (ns_iload_n 2 rfl rfl) rfl ?_
  refine nk_p (i := .iconst 1) (len := 1) (pc' := 227) mJ_105 (by decide +kernel) (ns_iconst (c := 1) (by decide +kernel)) rfl ?_
  refine nk_p (i := .iadd) (len := 1) (pc' := 228) mJ_105 (by decide +kernel) ns_iadd rfl ?_
  obtain ⟨h2, hr⟩ := nk_cke hr
  obtain ⟨S3, h4, hr⟩ := nk_lte hr
  refine nk_iast (len := 1) (N := 16002) (pc' := 229) mJ_105 (by decide +kernel) t1 h2.1 h2.2 rfl rfl h4 ?_
  refine nk_p (i := .iload 6) (len := 2) (pc' := 231) mJ_105 (by decide +kernel) (ns_iload 3 rfl) rfl ?_
  refine nk_icond (c := .ne) (off := 7) (len := 3) (t := 238) (pc' := 234) mJ_105 (by decide +kernel) (by decide +kernel) rfl (fun hc => ?_) (fun hc => ?_)
  · have hr := nk_ifn (c := l6 = 0) hc hr
    refine nk_p (i := .iconst 0) (len := 1) (pc' := 239) mJ_105 (by decide +kernel) (ns_iconst (c := 0) (by decide +kernel)) rfl ?_
    refine nk_p (i := .istore_n 1) (len := 1) (pc' := 240) mJ_105 (by decide +kernel) (ns_istore_n (L' := [(1, nk_i 0), (0, nk_r l0), (2, nk_i l2), (3, nk_i l3), (6, nk_i l6)]) rfl rfl rfl (by decide +kernel)) rfl ?_
    obtain ⟨v5, h6, hr⟩ := nk_lte hr
    refine nk_p (i := .iinc 3 1) (len := 3) (pc' := 243) mJ_105 (by decide +kernel) (ns_iinc (c := 1) (L' := [(3, nk_i v5), (1, nk_i 0), (0, nk_r l0), (2, nk_i l2), (6, nk_i l6)]) 3 rfl (by decide +kernel) h6 rfl (by decide +kernel)) rfl ?_
    refine nk_p (i := .goto (-232)) (len := 3) (pc' := 11) mJ_105 (by decide +kernel) (ns_goto (by decide +kernel)) rfl ?_
    refine nk_sub [2, 1, 3, 0] (L' := [(0, nk_r l0), (1, nk_i 0), (2, nk_i l2), (3, nk_i v5)]) rfl ?_
    exact hrec11 _ _ _ _ _ _ t_l0 hr
  · have hr := nk_ifp (c := l6 = 0) (Decidable.of_not_not hc) hr
    refine nk_p (i := .iconst 1) (len := 1) (pc' := 235) mJ_105 (by decide +kernel) (ns_iconst (c := 1) (by decide +kernel)) rfl ?_
    refine nk_p (i := .goto 4) (len := 3) (pc' := 239) mJ_105 (by decide +kernel) (ns_goto (by decide +kernel)) rfl ?_
    refine nk_p (i := .istore_n 1) (len := 1) (pc' := 240) mJ_105 (by decide +kernel) (ns_istore_n (L' := [(1, nk_i 1), (0, nk_r l0), (2, nk_i l2), (3, nk_i l3), (6, nk_i l6)]) rfl rfl rfl (by decide +kernel)) rfl ?_
    obtain ⟨v7, h8, hr⟩ := nk_lte hr
    refine nk_p (i := .iinc 3 1) (len := 3) (pc' := 243) mJ_105 (by decide +kernel) (ns_iinc (c := 1) (L' := [(3, nk_i v7), (1, nk_i 1), (0, nk_r l0), (2, nk_i l2), (6, nk_i l6)]) 3 rfl (by decide +kernel) h8 rfl (by decide +kernel)) rfl ?_
    refine nk_p (i := .goto (-232)) (len := 3) (pc' := 11) mJ_105 (by decide +kernel) (ns_goto (by decide +kernel)) rfl ?_
    refine nk_sub [2, 1, 3, 0] (L' := [(0, nk_r l0), (1, nk_i 1), (2, nk_i l2), (3, nk_i v7)]) rfl ?_
    exact hrec11 _ _ _ _ _ _ t_l0 hr
noncomputable def ja_X13_cut_b183 (rec11 : Nat → Int → Int → Int → nk_S → Option (Int × nk_S)) (l0 : Nat) (l1 : Int) (l2 : Int) (l3 : Int) (l5 : Int) (l6 : Int) (S : nk_S) : Option (Int × nk_S) :=
  if l5 = 0 then
    if l1 = 0 then
      if 0 ≤ (S.1 l0 10) ∧ (S.1 l0 10) < 16002 then
      nk_lt (nk_wi S (ja_c l0 8) (S.1 l0 10).toNat l3) fun S3 =>
      nk_lt (nk_wi S3 l0 10 (nk_w ((S3.1 l0 10) + 1))) fun S5 =>
      ja_X13_cut_b215 rec11 l0 l2 l3 l6 S5
      else none
    else
      ja_X13_cut_b215 rec11 l0 l2 l3 l6 S
  else
    nk_lt (nk_w (l3 + 1)) fun v7 =>
    rec11 l0 l1 l2 v7 S
theorem ja_X13_cut_b183_ok (zs : List Int32) {rec11 : Nat → Int → Int → Int → nk_S → Option (Int × nk_S)} (hrec11 : ∀ (l0 : Nat) (l1 : Int) (l2 : Int) (l3 : Int) (S : nk_S) (R : Int × nk_S), nk_cl ja_Tt l0 = some 13 → rec11 l0 l1 l2 l3 S = some R → nk_K ja_Tt mi_Γ (mi_ev zs) 1 105 11 [(0, nk_r l0), (1, nk_i l1), (2, nk_i l2), (3, nk_i l3)] [] S R) : ∀ (l0 : Nat) (l1 : Int) (l2 : Int) (l3 : Int) (l5 : Int) (l6 : Int) (S : nk_S) (R : Int × nk_S), nk_cl ja_Tt l0 = some 13 → ja_X13_cut_b183 rec11 l0 l1 l2 l3 l5 l6 S = some R → nk_K ja_Tt mi_Γ (mi_ev zs) 1 105 183 [(0, nk_r l0), (1, nk_i l1), (2, nk_i l2), (3, nk_i l3), (5, nk_i l5), (6, nk_i l6)] [] S R := by
  intro l0 l1 l2 l3 l5 l6 S R t_l0 hr
  unfold ja_X13_cut_b183 at hr
  refine nk_p (i := .iload 5) (len := 2) (pc' := 185) mJ_105 (by decide +kernel) (ns_iload 4 rfl) rfl ?_
  refine nk_icond (c := .eq) (off := 6) (len := 3) (t := 191) (pc' := 188) mJ_105 (by decide +kernel) (by decide +kernel) rfl (fun hc => ?_) (fun hc => ?_)
  · have hr := nk_ifp (c := l5 = 0) hc hr
    refine nk_p (i := .iload_n 1) (len := 1) (pc' := 192) mJ_105 (by decide +kernel) (ns_iload_n 1 rfl rfl) rfl ?_
    refine nk_icond (c := .ne) (off := 23) (len := 3) (t := 215) (pc' := 195) mJ_105 (by decide +kernel) (by decide +kernel) rfl (fun hc => ?_) (fun hc => ?_)
    · have hr := nk_ifn (c := l1 = 0) hc hr
      refine nk_sub [0, 2, 3, 5] (L' := [(0, nk_r l0), (2, nk_i l2), (3, nk_i l3), (6, nk_i l6)]) rfl ?_
      exact ja_X13_cut_b215_ok zs hrec11 _ _ _ _ _ _ t_l0 hr
    · have hr := nk_ifp (c := l1 = 0) (Decidable.of_not_not hc) hr
      refine nk_p (i := .aload_n 0) (len := 1) (pc' := 196) mJ_105 (by decide +kernel) (ns_aload_n 0 rfl rfl) rfl ?_
      refine nk_getC (f := (4, 1, 16002)) (x := 26) (len := 3) (ci := 13) (k := 8) (pc' := 199) ja_okT mJ_105 (by decide +kernel) (by decide +kernel) (by decide +kernel) (by decide) t_l0 rfl ?_
      have t1 : nk_ar ja_Tt (ja_c l0 8) = some (1, 16002) := nk_ta ja_okT t_l0 (by decide +kernel)
      refine nk_p (i := .aload_n 0) (len := 1) (pc' := 200) mJ_105 (by decide +kernel) (ns_aload_n 0 rfl rfl) rfl ?_
      refine nk_getI (y := (0, 0)) (x := 155) (len := 3) (ci := 13) (k := 10) (pc' := 203) ja_okT mJ_105 (by decide +kernel) (by decide +kernel) (by decide +kernel) t_l0 rfl ?_
      refine nk_p (i := .iload_n 3) (len := 1) (pc' := 204) mJ_105 (by decide +kernel) (ns_iload_n 3 rfl rfl) rfl ?_
      obtain ⟨h2, hr⟩ := nk_cke hr
      obtain ⟨S3, h4, hr⟩ := nk_lte hr
      refine nk_iast (len := 1) (N := 16002) (pc' := 205) mJ_105 (by decide +kernel) t1 h2.1 h2.2 rfl rfl h4 ?_
      refine nk_p (i := .aload_n 0) (len := 1) (pc' := 206) mJ_105 (by decide +kernel) (ns_aload_n 0 rfl rfl) rfl ?_
      refine nk_p (i := .dup) (len := 1) (pc' := 207) mJ_105 (by decide +kernel) (ns_dup rfl) rfl ?_
      refine nk_getI (y := (0, 0)) (x := 155) (len := 3) (ci := 13) (k := 10) (pc' := 210) ja_okT mJ_105 (by decide +kernel) (by decide +kernel) (by decide +kernel) t_l0 rfl ?_
      refine nk_p (i := .iconst 1) (len := 1) (pc' := 211) mJ_105 (by decide +kernel) (ns_iconst (c := 1) (by decide +kernel)) rfl ?_
      refine nk_p (i := .iadd) (len := 1) (pc' := 212) mJ_105 (by decide +kernel) ns_iadd rfl ?_
      obtain ⟨S5, h6, hr⟩ := nk_lte hr
      refine nk_putI (y := (0, 0)) (ty := .int) (x := 155) (len := 3) (ci := 13) (k := 10) (pc' := 215) ja_okT mJ_105 (by decide +kernel) (by decide +kernel) (by decide +kernel) t_l0 (Or.inl rfl) rfl h6 ?_
      refine nk_sub [0, 2, 3, 5] (L' := [(0, nk_r l0), (2, nk_i l2), (3, nk_i l3), (6, nk_i l6)]) rfl ?_
      exact ja_X13_cut_b215_ok zs hrec11 _ _ _ _ _ _ t_l0 hr
  · have hr := nk_ifn (c := l5 = 0) hc hr
    refine nk_p (i := .goto 52) (len := 3) (pc' := 240) mJ_105 (by decide +kernel) (ns_goto (by decide +kernel)) rfl ?_
    obtain ⟨v7, h8, hr⟩ := nk_lte hr
    refine nk_p (i := .iinc 3 1) (len := 3) (pc' := 243) mJ_105 (by decide +kernel) (ns_iinc (c := 1) (L' := [(3, nk_i v7), (0, nk_r l0), (1, nk_i l1), (2, nk_i l2), (5, nk_i l5), (6, nk_i l6)]) 3 rfl (by decide +kernel) h8 rfl (by decide +kernel)) rfl ?_
    refine nk_p (i := .goto (-232)) (len := 3) (pc' := 11) mJ_105 (by decide +kernel) (ns_goto (by decide +kernel)) rfl ?_
    refine nk_sub [1, 2, 3, 0] (L' := [(0, nk_r l0), (1, nk_i l1), (2, nk_i l2), (3, nk_i v7)]) rfl ?_
    exact hrec11 _ _ _ _ _ _ t_l0 hr
noncomputable def ja_X13_cut_b181 (rec11 : Nat → Int → Int → Int → nk_S → Option (Int × nk_S)) (l0 : Nat) (l2 : Int) (l3 : Int) (l5 : Int) (l6 : Int) (S : nk_S) : Option (Int × nk_S) :=
  ja_X13_cut_b183 rec11 l0 0 l2 l3 l5 l6 S
theorem ja_X13_cut_b181_ok (zs : List Int32) {rec11 : Nat → Int → Int → Int → nk_S → Option (Int × nk_S)} (hrec11 : ∀ (l0 : Nat) (l1 : Int) (l2 : Int) (l3 : Int) (S : nk_S) (R : Int × nk_S), nk_cl ja_Tt l0 = some 13 → rec11 l0 l1 l2 l3 S = some R → nk_K ja_Tt mi_Γ (mi_ev zs) 1 105 11 [(0, nk_r l0), (1, nk_i l1), (2, nk_i l2), (3, nk_i l3)] [] S R) : ∀ (l0 : Nat) (l2 : Int) (l3 : Int) (l5 : Int) (l6 : Int) (S : nk_S) (R : Int × nk_S), nk_cl ja_Tt l0 = some 13 → ja_X13_cut_b181 rec11 l0 l2 l3 l5 l6 S = some R → nk_K ja_Tt mi_Γ (mi_ev zs) 1 105 181 [(0, nk_r l0), (2, nk_i l2), (3, nk_i l3), (5, nk_i l5), (6, nk_i l6)] [] S R := by
  intro l0 l2 l3 l5 l6 S R t_l0 hr
  unfold ja_X13_cut_b181 at hr
  refine nk_p (i := .iconst 0) (len := 1) (pc' := 182) mJ_105 (by decide +kernel) (ns_iconst (c := 0) (by decide +kernel)) rfl ?_
  refine nk_p (i := .istore_n 1) (len := 1) (pc' := 183) mJ_105 (by decide +kernel) (ns_istore_n (L' := [(1, nk_i 0), (0, nk_r l0), (2, nk_i l2), (3, nk_i l3), (5, nk_i l5), (6, nk_i l6)]) rfl rfl rfl (by decide +kernel)) rfl ?_
  refine nk_sub [1, 0, 2, 3, 4, 5] (L' := [(0, nk_r l0), (1, nk_i 0), (2, nk_i l2), (3, nk_i l3), (5, nk_i l5), (6, nk_i l6)]) rfl ?_
  exact ja_X13_cut_b183_ok zs hrec11 _ _ _ _ _ _ _ _ t_l0 hr
noncomputable def ja_X13_cut_b169 (rec11 : Nat → Int → Int → Int → nk_S → Option (Int × nk_S)) (l0 : Nat) (l1 : Int) (l2 : Int) (l3 : Int) (l5 : Int) (s0 : Int) (S : nk_S) : Option (Int × nk_S) :=
  if l5 = 0 then
    if s0 = 0 then
      ja_X13_cut_b183 rec11 l0 l1 l2 l3 l5 s0 S
    else
      ja_X13_cut_b181 rec11 l0 l2 l3 l5 s0 S
  else
    ja_X13_cut_b181 rec11 l0 l2 l3 l5 s0 S
theorem ja_X13_cut_b169_ok (zs : List Int32) {rec11 : Nat → Int → Int → Int → nk_S → Option (Int × nk_S)} (hrec11 : ∀ (l0 : Nat) (l1 : Int) (l2 : Int) (l3 : Int) (S : nk_S) (R : Int × nk_S), nk_cl ja_Tt l0 = some 13 → rec11 l0 l1 l2 l3 S = some R → nk_K ja_Tt mi_Γ (mi_ev zs) 1 105 11 [(0, nk_r l0), (1, nk_i l1), (2, nk_i l2), (3, nk_i l3)] [] S R) : ∀ (l0 : Nat) (l1 : Int) (l2 : Int) (l3 : Int) (l5 : Int) (s0 : Int) (S : nk_S) (R : Int × nk_S), nk_cl ja_Tt l0 = some 13 → ja_X13_cut_b169 rec11 l0 l1 l2 l3 l5 s0 S = some R → nk_K ja_Tt mi_Γ (mi_ev zs) 1 105 169 [(0, nk_r l0), (1, nk_i l1), (2, nk_i l2), (3, nk_i l3), (5, nk_i l5)] [nk_i s0] S R := by
  intro l0 l1 l2 l3 l5 s0 S R t_l0 hr
  unfold ja_X13_cut_b169 at hr
  refine nk_p (i := .istore 6) (len := 2) (pc' := 171) mJ_105 (by decide +kernel) (ns_istore (L' := [(6, nk_i s0), (0, nk_r l0), (1, nk_i l1), (2, nk_i l2), (3, nk_i l3), (5, nk_i l5)]) rfl rfl (by decide +kernel)) rfl ?_
  refine nk_p (i := .iload 5) (len := 2) (pc' := 173) mJ_105 (by decide +kernel) (ns_iload 5 rfl) rfl ?_
  refine nk_icond (c := .ne) (off := 8) (len := 3) (t := 181) (pc' := 176) mJ_105 (by decide +kernel) (by decide +kernel) rfl (fun hc => ?_) (fun hc => ?_)
  · have hr := nk_ifn (c := l5 = 0) hc hr
    refine nk_sub [1, 3, 4, 5, 0] (L' := [(0, nk_r l0), (2, nk_i l2), (3, nk_i l3), (5, nk_i l5), (6, nk_i s0)]) rfl ?_
    exact ja_X13_cut_b181_ok zs hrec11 _ _ _ _ _ _ _ t_l0 hr
  · have hr := nk_ifp (c := l5 = 0) (Decidable.of_not_not hc) hr
    refine nk_p (i := .iload 6) (len := 2) (pc' := 178) mJ_105 (by decide +kernel) (ns_iload 0 rfl) rfl ?_
    refine nk_icond (c := .eq) (off := 5) (len := 3) (t := 183) (pc' := 181) mJ_105 (by decide +kernel) (by decide +kernel) rfl (fun hc => ?_) (fun hc => ?_)
    · have hr := nk_ifp (c := s0 = 0) hc hr
      refine nk_sub [1, 2, 3, 4, 5, 0] (L' := [(0, nk_r l0), (1, nk_i l1), (2, nk_i l2), (3, nk_i l3), (5, nk_i l5), (6, nk_i s0)]) rfl ?_
      exact ja_X13_cut_b183_ok zs hrec11 _ _ _ _ _ _ _ _ t_l0 hr
    · have hr := nk_ifn (c := s0 = 0) hc hr
      refine nk_sub [1, 3, 4, 5, 0] (L' := [(0, nk_r l0), (2, nk_i l2), (3, nk_i l3), (5, nk_i l5), (6, nk_i s0)]) rfl ?_
      exact ja_X13_cut_b181_ok zs hrec11 _ _ _ _ _ _ _ t_l0 hr
noncomputable def ja_X13_cut_b168 (rec11 : Nat → Int → Int → Int → nk_S → Option (Int × nk_S)) (l0 : Nat) (l1 : Int) (l2 : Int) (l3 : Int) (l5 : Int) (S : nk_S) : Option (Int × nk_S) :=
  ja_X13_cut_b169 rec11 l0 l1 l2 l3 l5 0 S
theorem ja_X13_cut_b168_ok (zs : List Int32) {rec11 : Nat → Int → Int → Int → nk_S → Option (Int × nk_S)} (hrec11 : ∀ (l0 : Nat) (l1 : Int) (l2 : Int) (l3 : Int) (S : nk_S) (R : Int × nk_S), nk_cl ja_Tt l0 = some 13 → rec11 l0 l1 l2 l3 S = some R → nk_K ja_Tt mi_Γ (mi_ev zs) 1 105 11 [(0, nk_r l0), (1, nk_i l1), (2, nk_i l2), (3, nk_i l3)] [] S R) : ∀ (l0 : Nat) (l1 : Int) (l2 : Int) (l3 : Int) (l5 : Int) (S : nk_S) (R : Int × nk_S), nk_cl ja_Tt l0 = some 13 → ja_X13_cut_b168 rec11 l0 l1 l2 l3 l5 S = some R → nk_K ja_Tt mi_Γ (mi_ev zs) 1 105 168 [(0, nk_r l0), (1, nk_i l1), (2, nk_i l2), (3, nk_i l3), (5, nk_i l5)] [] S R := by
  intro l0 l1 l2 l3 l5 S R t_l0 hr
  unfold ja_X13_cut_b168 at hr
  refine nk_p (i := .iconst 0) (len := 1) (pc' := 169) mJ_105 (by decide +kernel) (ns_iconst (c := 0) (by decide +kernel)) rfl ?_
  exact ja_X13_cut_b169_ok zs hrec11 _ _ _ _ _ _ _ _ t_l0 hr
noncomputable def ja_X13_cut_b164 (rec11 : Nat → Int → Int → Int → nk_S → Option (Int × nk_S)) (l0 : Nat) (l1 : Int) (l2 : Int) (l3 : Int) (l5 : Int) (S : nk_S) : Option (Int × nk_S) :=
  ja_X13_cut_b169 rec11 l0 l1 l2 l3 l5 1 S
theorem ja_X13_cut_b164_ok (zs : List Int32) {rec11 : Nat → Int → Int → Int → nk_S → Option (Int × nk_S)} (hrec11 : ∀ (l0 : Nat) (l1 : Int) (l2 : Int) (l3 : Int) (S : nk_S) (R : Int × nk_S), nk_cl ja_Tt l0 = some 13 → rec11 l0 l1 l2 l3 S = some R → nk_K ja_Tt mi_Γ (mi_ev zs) 1 105 11 [(0, nk_r l0), (1, nk_i l1), (2, nk_i l2), (3, nk_i l3)] [] S R) : ∀ (l0 : Nat) (l1 : Int) (l2 : Int) (l3 : Int) (l5 : Int) (S : nk_S) (R : Int × nk_S), nk_cl ja_Tt l0 = some 13 → ja_X13_cut_b164 rec11 l0 l1 l2 l3 l5 S = some R → nk_K ja_Tt mi_Γ (mi_ev zs) 1 105 164 [(0, nk_r l0), (1, nk_i l1), (2, nk_i l2), (3, nk_i l3), (5, nk_i l5)] [] S R := by
  intro l0 l1 l2 l3 l5 S R t_l0 hr
  unfold ja_X13_cut_b164 at hr
  refine nk_p (i := .iconst 1) (len := 1) (pc' := 165) mJ_105 (by decide +kernel) (ns_iconst (c := 1) (by decide +kernel)) rfl ?_
  refine nk_p (i := .goto 4) (len := 3) (pc' := 169) mJ_105 (by decide +kernel) (ns_goto (by decide +kernel)) rfl ?_
  exact ja_X13_cut_b169_ok zs hrec11 _ _ _ _ _ _ _ _ t_l0 hr
noncomputable def ja_X13_cut_b122 (rec11 : Nat → Int → Int → Int → nk_S → Option (Int × nk_S)) (l0 : Nat) (l1 : Int) (l2 : Int) (l3 : Int) (l4 : Int) (s0 : Int) (S : nk_S) : Option (Int × nk_S) :=
  if s0 = 0 then
    if l4 = 40 then
      ja_X13_cut_b164 rec11 l0 l1 l2 l3 s0 S
    else
      if l4 = 41 then
        ja_X13_cut_b164 rec11 l0 l1 l2 l3 s0 S
      else
        if l4 = 123 then
          ja_X13_cut_b164 rec11 l0 l1 l2 l3 s0 S
        else
          if l4 = 125 then
            ja_X13_cut_b164 rec11 l0 l1 l2 l3 s0 S
          else
            if l4 = 58 then
              ja_X13_cut_b164 rec11 l0 l1 l2 l3 s0 S
            else
              ja_X13_cut_b168 rec11 l0 l1 l2 l3 s0 S
  else
    ja_X13_cut_b168 rec11 l0 l1 l2 l3 s0 S
theorem ja_X13_cut_b122_ok (zs : List Int32) {rec11 : Nat → Int → Int → Int → nk_S → Option (Int × nk_S)} (hrec11 : ∀ (l0 : Nat) (l1 : Int) (l2 : Int) (l3 : Int) (S : nk_S) (R : Int × nk_S), nk_cl ja_Tt l0 = some 13 → rec11 l0 l1 l2 l3 S = some R → nk_K ja_Tt mi_Γ (mi_ev zs) 1 105 11 [(0, nk_r l0), (1, nk_i l1), (2, nk_i l2), (3, nk_i l3)] [] S R) : ∀ (l0 : Nat) (l1 : Int) (l2 : Int) (l3 : Int) (l4 : Int) (s0 : Int) (S : nk_S) (R : Int × nk_S), nk_cl ja_Tt l0 = some 13 → ja_X13_cut_b122 rec11 l0 l1 l2 l3 l4 s0 S = some R → nk_K ja_Tt mi_Γ (mi_ev zs) 1 105 122 [(0, nk_r l0), (1, nk_i l1), (2, nk_i l2), (3, nk_i l3), (4, nk_i l4)] [nk_i s0] S R := by
  intro l0 l1 l2 l3 l4 s0 S R t_l0 hr
  unfold ja_X13_cut_b122 at hr
  refine nk_p (i := .istore 5) (len := 2) (pc' := 124) mJ_105 (by decide +kernel) (ns_istore (L' := [(5, nk_i s0), (0, nk_r l0), (1, nk_i l1), (2, nk_i l2), (3, nk_i l3), (4, nk_i l4)]) rfl rfl (by decide +kernel)) rfl ?_
  refine nk_p (i := .iload 5) (len := 2) (pc' := 126) mJ_105 (by decide +kernel) (ns_iload 0 rfl) rfl ?_
  refine nk_icond (c := .ne) (off := 42) (len := 3) (t := 168) (pc' := 129) mJ_105 (by decide +kernel) (by decide +kernel) rfl (fun hc => ?_) (fun hc => ?_)
  · have hr := nk_ifn (c := s0 = 0) hc hr
    refine nk_sub [1, 2, 3, 4, 0] (L' := [(0, nk_r l0), (1, nk_i l1), (2, nk_i l2), (3, nk_i l3), (5, nk_i s0)]) rfl ?_
    exact ja_X13_cut_b168_ok zs hrec11 _ _ _ _ _ _ _ t_l0 hr
  · have hr := nk_ifp (c := s0 = 0) (Decidable.of_not_not hc) hr
    refine nk_p (i := .iload 4) (len := 2) (pc' := 131) mJ_105 (by decide +kernel) (ns_iload 5 rfl) rfl ?_
    refine nk_p (i := .bipush 40) (len := 2) (pc' := 133) mJ_105 (by decide +kernel) (ns_bipush (c := 40) (by decide +kernel)) rfl ?_
    refine nk_icmp (c := .eq) (off := 31) (len := 3) (t := 164) (pc' := 136) mJ_105 (by decide +kernel) (by decide +kernel) rfl (fun hc => ?_) (fun hc => ?_)
    · have hr := nk_ifp (c := l4 = 40) hc hr
      refine nk_sub [1, 2, 3, 4, 0] (L' := [(0, nk_r l0), (1, nk_i l1), (2, nk_i l2), (3, nk_i l3), (5, nk_i s0)]) rfl ?_
      exact ja_X13_cut_b164_ok zs hrec11 _ _ _ _ _ _ _ t_l0 hr
    · have hr := nk_ifn (c := l4 = 40) hc hr
      refine nk_p (i := .iload 4) (len := 2) (pc' := 138) mJ_105 (by decide +kernel) (ns_iload 5 rfl) rfl ?_
      refine nk_p (i := .bipush 41) (len := 2) (pc' := 140) mJ_105 (by decide +kernel) (ns_bipush (c := 41) (by decide +kernel)) rfl ?_
      refine nk_icmp (c := .eq) (off := 24) (len := 3) (t := 164) (pc' := 143) mJ_105 (by decide +kernel) (by decide +kernel) rfl (fun hc => ?_) (fun hc => ?_)
      · have hr := nk_ifp (c := l4 = 41) hc hr
        refine nk_sub [1, 2, 3, 4, 0] (L' := [(0, nk_r l0), (1, nk_i l1), (2, nk_i l2), (3, nk_i l3), (5, nk_i s0)]) rfl ?_
        exact ja_X13_cut_b164_ok zs hrec11 _ _ _ _ _ _ _ t_l0 hr
      · have hr := nk_ifn (c := l4 = 41) hc hr
        refine nk_p (i := .iload 4) (len := 2) (pc' := 145) mJ_105 (by decide +kernel) (ns_iload 5 rfl) rfl ?_
        refine nk_p (i := .bipush 123) (len := 2) (pc' := 147) mJ_105 (by decide +kernel) (ns_bipush (c := 123) (by decide +kernel)) rfl ?_
        refine nk_icmp (c := .eq) (off := 17) (len := 3) (t := 164) (pc' := 150) mJ_105 (by decide +kernel) (by decide +kernel) rfl (fun hc => ?_) (fun hc => ?_)
        · have hr := nk_ifp (c := l4 = 123) hc hr
          refine nk_sub [1, 2, 3, 4, 0] (L' := [(0, nk_r l0), (1, nk_i l1), (2, nk_i l2), (3, nk_i l3), (5, nk_i s0)]) rfl ?_
          exact ja_X13_cut_b164_ok zs hrec11 _ _ _ _ _ _ _ t_l0 hr
        · have hr := nk_ifn (c := l4 = 123) hc hr
          refine nk_p (i := .iload 4) (len := 2) (pc' := 152) mJ_105 (by decide +kernel) (ns_iload 5 rfl) rfl ?_
          refine nk_p (i := .bipush 125) (len := 2) (pc' := 154) mJ_105 (by decide +kernel) (ns_bipush (c := 125) (by decide +kernel)) rfl ?_
          refine nk_icmp (c := .eq) (off := 10) (len := 3) (t := 164) (pc' := 157) mJ_105 (by decide +kernel) (by decide +kernel) rfl (fun hc => ?_) (fun hc => ?_)
          · have hr := nk_ifp (c := l4 = 125) hc hr
            refine nk_sub [1, 2, 3, 4, 0] (L' := [(0, nk_r l0), (1, nk_i l1), (2, nk_i l2), (3, nk_i l3), (5, nk_i s0)]) rfl ?_
            exact ja_X13_cut_b164_ok zs hrec11 _ _ _ _ _ _ _ t_l0 hr
          · have hr := nk_ifn (c := l4 = 125) hc hr
            refine nk_p (i := .iload 4) (len := 2) (pc' := 159) mJ_105 (by decide +kernel) (ns_iload 5 rfl) rfl ?_
            refine nk_p (i := .bipush 58) (len := 2) (pc' := 161) mJ_105 (by decide +kernel) (ns_bipush (c := 58) (by decide +kernel)) rfl ?_
            refine nk_icmp (c := .ne) (off := 7) (len := 3) (t := 168) (pc' := 164) mJ_105 (by decide +kernel) (by decide +kernel) rfl (fun hc => ?_) (fun hc => ?_)
            · have hr := nk_ifn (c := l4 = 58) hc hr
              refine nk_sub [1, 2, 3, 4, 0] (L' := [(0, nk_r l0), (1, nk_i l1), (2, nk_i l2), (3, nk_i l3), (5, nk_i s0)]) rfl ?_
              exact ja_X13_cut_b168_ok zs hrec11 _ _ _ _ _ _ _ t_l0 hr
            · have hr := nk_ifp (c := l4 = 58) (Decidable.of_not_not hc) hr
              refine nk_sub [1, 2, 3, 4, 0] (L' := [(0, nk_r l0), (1, nk_i l1), (2, nk_i l2), (3, nk_i l3), (5, nk_i s0)]) rfl ?_
              exact ja_X13_cut_b164_ok zs hrec11 _ _ _ _ _ _ _ t_l0 hr
noncomputable def ja_X13_cut_b117 (rec11 : Nat → Int → Int → Int → nk_S → Option (Int × nk_S)) (l0 : Nat) (l1 : Int) (l2 : Int) (l3 : Int) (l4 : Int) (S : nk_S) : Option (Int × nk_S) :=
  ja_X13_cut_b122 rec11 l0 l1 l2 l3 l4 1 S
theorem ja_X13_cut_b117_ok (zs : List Int32) {rec11 : Nat → Int → Int → Int → nk_S → Option (Int × nk_S)} (hrec11 : ∀ (l0 : Nat) (l1 : Int) (l2 : Int) (l3 : Int) (S : nk_S) (R : Int × nk_S), nk_cl ja_Tt l0 = some 13 → rec11 l0 l1 l2 l3 S = some R → nk_K ja_Tt mi_Γ (mi_ev zs) 1 105 11 [(0, nk_r l0), (1, nk_i l1), (2, nk_i l2), (3, nk_i l3)] [] S R) : ∀ (l0 : Nat) (l1 : Int) (l2 : Int) (l3 : Int) (l4 : Int) (S : nk_S) (R : Int × nk_S), nk_cl ja_Tt l0 = some 13 → ja_X13_cut_b117 rec11 l0 l1 l2 l3 l4 S = some R → nk_K ja_Tt mi_Γ (mi_ev zs) 1 105 117 [(0, nk_r l0), (1, nk_i l1), (2, nk_i l2), (3, nk_i l3), (4, nk_i l4)] [] S R := by
  intro l0 l1 l2 l3 l4 S R t_l0 hr
  unfold ja_X13_cut_b117 at hr
  refine nk_p (i := .iconst 1) (len := 1) (pc' := 118) mJ_105 (by decide +kernel) (ns_iconst (c := 1) (by decide +kernel)) rfl ?_
  refine nk_p (i := .goto 4) (len := 3) (pc' := 122) mJ_105 (by decide +kernel) (ns_goto (by decide +kernel)) rfl ?_
  exact ja_X13_cut_b122_ok zs hrec11 _ _ _ _ _ _ _ _ t_l0 hr
noncomputable def ja_X13_cut_b85 (rec11 : Nat → Int → Int → Int → nk_S → Option (Int × nk_S)) (l0 : Nat) (l1 : Int) (l2 : Int) (l3 : Int) (l4 : Int) (S : nk_S) : Option (Int × nk_S) :=
  if l2 = 0 then
    if l4 = 9 then
      ja_X13_cut_b117 rec11 l0 l1 l2 l3 l4 S
    else
      if l4 = 10 then
        ja_X13_cut_b117 rec11 l0 l1 l2 l3 l4 S
      else
        if l4 = 13 then
          ja_X13_cut_b117 rec11 l0 l1 l2 l3 l4 S
        else
          if l4 = 32 then
            ja_X13_cut_b117 rec11 l0 l1 l2 l3 l4 S
          else
            ja_X13_cut_b122 rec11 l0 l1 l2 l3 l4 0 S
  else
    ja_X13_cut_b117 rec11 l0 l1 l2 l3 l4 S
theorem ja_X13_cut_b85_ok (zs : List Int32) {rec11 : Nat → Int → Int → Int → nk_S → Option (Int × nk_S)} (hrec11 : ∀ (l0 : Nat) (l1 : Int) (l2 : Int) (l3 : Int) (S : nk_S) (R : Int × nk_S), nk_cl ja_Tt l0 = some 13 → rec11 l0 l1 l2 l3 S = some R → nk_K ja_Tt mi_Γ (mi_ev zs) 1 105 11 [(0, nk_r l0), (1, nk_i l1), (2, nk_i l2), (3, nk_i l3)] [] S R) : ∀ (l0 : Nat) (l1 : Int) (l2 : Int) (l3 : Int) (l4 : Int) (S : nk_S) (R : Int × nk_S), nk_cl ja_Tt l0 = some 13 → ja_X13_cut_b85 rec11 l0 l1 l2 l3 l4 S = some R → nk_K ja_Tt mi_Γ (mi_ev zs) 1 105 85 [(0, nk_r l0), (1, nk_i l1), (2, nk_i l2), (3, nk_i l3), (4, nk_i l4)] [] S R := by
  intro l0 l1 l2 l3 l4 S R t_l0 hr
  unfold ja_X13_cut_b85 at hr
  refine nk_p (i := .iload_n 2) (len := 1) (pc' := 86) mJ_105 (by decide +kernel) (ns_iload_n 2 rfl rfl) rfl ?_
  refine nk_icond (c := .ne) (off := 31) (len := 3) (t := 117) (pc' := 89) mJ_105 (by decide +kernel) (by decide +kernel) rfl (fun hc => ?_) (fun hc => ?_)
  · have hr := nk_ifn (c := l2 = 0) hc hr
    exact ja_X13_cut_b117_ok zs hrec11 _ _ _ _ _ _ _ t_l0 hr
  · have hr := nk_ifp (c := l2 = 0) (Decidable.of_not_not hc) hr
    refine nk_p (i := .iload 4) (len := 2) (pc' := 91) mJ_105 (by decide +kernel) (ns_iload 4 rfl) rfl ?_
    refine nk_p (i := .bipush 9) (len := 2) (pc' := 93) mJ_105 (by decide +kernel) (ns_bipush (c := 9) (by decide +kernel)) rfl ?_
    refine nk_icmp (c := .eq) (off := 24) (len := 3) (t := 117) (pc' := 96) mJ_105 (by decide +kernel) (by decide +kernel) rfl (fun hc => ?_) (fun hc => ?_)
    · have hr := nk_ifp (c := l4 = 9) hc hr
      exact ja_X13_cut_b117_ok zs hrec11 _ _ _ _ _ _ _ t_l0 hr
    · have hr := nk_ifn (c := l4 = 9) hc hr
      refine nk_p (i := .iload 4) (len := 2) (pc' := 98) mJ_105 (by decide +kernel) (ns_iload 4 rfl) rfl ?_
      refine nk_p (i := .bipush 10) (len := 2) (pc' := 100) mJ_105 (by decide +kernel) (ns_bipush (c := 10) (by decide +kernel)) rfl ?_
      refine nk_icmp (c := .eq) (off := 17) (len := 3) (t := 117) (pc' := 103) mJ_105 (by decide +kernel) (by decide +kernel) rfl (fun hc => ?_) (fun hc => ?_)
      · have hr := nk_ifp (c := l4 = 10) hc hr
        exact ja_X13_cut_b117_ok zs hrec11 _ _ _ _ _ _ _ t_l0 hr
      · have hr := nk_ifn (c := l4 = 10) hc hr
        refine nk_p (i := .iload 4) (len := 2) (pc' := 105) mJ_105 (by decide +kernel) (ns_iload 4 rfl) rfl ?_
        refine nk_p (i := .bipush 13) (len := 2) (pc' := 107) mJ_105 (by decide +kernel) (ns_bipush (c := 13) (by decide +kernel)) rfl ?_
        refine nk_icmp (c := .eq) (off := 10) (len := 3) (t := 117) (pc' := 110) mJ_105 (by decide +kernel) (by decide +kernel) rfl (fun hc => ?_) (fun hc => ?_)
        · have hr := nk_ifp (c := l4 = 13) hc hr
          exact ja_X13_cut_b117_ok zs hrec11 _ _ _ _ _ _ _ t_l0 hr
        · have hr := nk_ifn (c := l4 = 13) hc hr
          refine nk_p (i := .iload 4) (len := 2) (pc' := 112) mJ_105 (by decide +kernel) (ns_iload 4 rfl) rfl ?_
          refine nk_p (i := .bipush 32) (len := 2) (pc' := 114) mJ_105 (by decide +kernel) (ns_bipush (c := 32) (by decide +kernel)) rfl ?_
          refine nk_icmp (c := .ne) (off := 7) (len := 3) (t := 121) (pc' := 117) mJ_105 (by decide +kernel) (by decide +kernel) rfl (fun hc => ?_) (fun hc => ?_)
          · have hr := nk_ifn (c := l4 = 32) hc hr
            refine nk_p (i := .iconst 0) (len := 1) (pc' := 122) mJ_105 (by decide +kernel) (ns_iconst (c := 0) (by decide +kernel)) rfl ?_
            exact ja_X13_cut_b122_ok zs hrec11 _ _ _ _ _ _ _ _ t_l0 hr
          · have hr := nk_ifp (c := l4 = 32) (Decidable.of_not_not hc) hr
            exact ja_X13_cut_b117_ok zs hrec11 _ _ _ _ _ _ _ t_l0 hr
noncomputable def ja_X13_cut_b64 (rec11 : Nat → Int → Int → Int → nk_S → Option (Int × nk_S)) (l0 : Nat) (l1 : Int) (l2 : Int) (l3 : Int) (l4 : Int) (S : nk_S) : Option (Int × nk_S) :=
  if l4 = 10 then
    ja_X13_cut_b85 rec11 l0 l1 0 l3 l4 S
  else
    if l4 = 59 then
      ja_X13_cut_b85 rec11 l0 l1 1 l3 l4 S
    else
      ja_X13_cut_b85 rec11 l0 l1 l2 l3 l4 S
theorem ja_X13_cut_b64_ok (zs : List Int32) {rec11 : Nat → Int → Int → Int → nk_S → Option (Int × nk_S)} (hrec11 : ∀ (l0 : Nat) (l1 : Int) (l2 : Int) (l3 : Int) (S : nk_S) (R : Int × nk_S), nk_cl ja_Tt l0 = some 13 → rec11 l0 l1 l2 l3 S = some R → nk_K ja_Tt mi_Γ (mi_ev zs) 1 105 11 [(0, nk_r l0), (1, nk_i l1), (2, nk_i l2), (3, nk_i l3)] [] S R) : ∀ (l0 : Nat) (l1 : Int) (l2 : Int) (l3 : Int) (l4 : Int) (S : nk_S) (R : Int × nk_S), nk_cl ja_Tt l0 = some 13 → ja_X13_cut_b64 rec11 l0 l1 l2 l3 l4 S = some R → nk_K ja_Tt mi_Γ (mi_ev zs) 1 105 64 [(0, nk_r l0), (1, nk_i l1), (2, nk_i l2), (3, nk_i l3), (4, nk_i l4)] [] S R := by
  intro l0 l1 l2 l3 l4 S R t_l0 hr
  unfold ja_X13_cut_b64 at hr
  refine nk_p (i := .iload 4) (len := 2) (pc' := 66) mJ_105 (by decide +kernel) (ns_iload 4 rfl) rfl ?_
  refine nk_p (i := .bipush 10) (len := 2) (pc' := 68) mJ_105 (by decide +kernel) (ns_bipush (c := 10) (by decide +kernel)) rfl ?_
  refine nk_icmp (c := .ne) (off := 8) (len := 3) (t := 76) (pc' := 71) mJ_105 (by decide +kernel) (by decide +kernel) rfl (fun hc => ?_) (fun hc => ?_)
  · have hr := nk_ifn (c := l4 = 10) hc hr
    refine nk_p (i := .iload 4) (len := 2) (pc' := 78) mJ_105 (by decide +kernel) (ns_iload 4 rfl) rfl ?_
    refine nk_p (i := .bipush 59) (len := 2) (pc' := 80) mJ_105 (by decide +kernel) (ns_bipush (c := 59) (by decide +kernel)) rfl ?_
    refine nk_icmp (c := .ne) (off := 5) (len := 3) (t := 85) (pc' := 83) mJ_105 (by decide +kernel) (by decide +kernel) rfl (fun hc => ?_) (fun hc => ?_)
    · have hr := nk_ifn (c := l4 = 59) hc hr
      exact ja_X13_cut_b85_ok zs hrec11 _ _ _ _ _ _ _ t_l0 hr
    · have hr := nk_ifp (c := l4 = 59) (Decidable.of_not_not hc) hr
      refine nk_p (i := .iconst 1) (len := 1) (pc' := 84) mJ_105 (by decide +kernel) (ns_iconst (c := 1) (by decide +kernel)) rfl ?_
      refine nk_p (i := .istore_n 2) (len := 1) (pc' := 85) mJ_105 (by decide +kernel) (ns_istore_n (L' := [(2, nk_i 1), (0, nk_r l0), (1, nk_i l1), (3, nk_i l3), (4, nk_i l4)]) rfl rfl rfl (by decide +kernel)) rfl ?_
      refine nk_sub [1, 2, 0, 3, 4] (L' := [(0, nk_r l0), (1, nk_i l1), (2, nk_i 1), (3, nk_i l3), (4, nk_i l4)]) rfl ?_
      exact ja_X13_cut_b85_ok zs hrec11 _ _ _ _ _ _ _ t_l0 hr
  · have hr := nk_ifp (c := l4 = 10) (Decidable.of_not_not hc) hr
    refine nk_p (i := .iconst 0) (len := 1) (pc' := 72) mJ_105 (by decide +kernel) (ns_iconst (c := 0) (by decide +kernel)) rfl ?_
    refine nk_p (i := .istore_n 2) (len := 1) (pc' := 73) mJ_105 (by decide +kernel) (ns_istore_n (L' := [(2, nk_i 0), (0, nk_r l0), (1, nk_i l1), (3, nk_i l3), (4, nk_i l4)]) rfl rfl rfl (by decide +kernel)) rfl ?_
    refine nk_p (i := .goto 12) (len := 3) (pc' := 85) mJ_105 (by decide +kernel) (ns_goto (by decide +kernel)) rfl ?_
    refine nk_sub [1, 2, 0, 3, 4] (L' := [(0, nk_r l0), (1, nk_i l1), (2, nk_i 0), (3, nk_i l3), (4, nk_i l4)]) rfl ?_
    exact ja_X13_cut_b85_ok zs hrec11 _ _ _ _ _ _ _ t_l0 hr
noncomputable def ja_X13_cut_b11 (rec11 : Nat → Int → Int → Int → nk_S → Option (Int × nk_S)) (l0 : Nat) (l1 : Int) (l2 : Int) (l3 : Int) (S : nk_S) : Option (Int × nk_S) :=
  if (S.1 l0 7) ≤ l3 then
    some (1, S)
  else
    if 0 ≤ l3 ∧ l3 < 16000 then
    nk_lt (S.1 (ja_c l0 6) l3.toNat) fun v3 =>
    if v3 = 9 then
      ja_X13_cut_b64 rec11 l0 l1 l2 l3 v3 S
    else
      if v3 = 10 then
        ja_X13_cut_b64 rec11 l0 l1 l2 l3 v3 S
      else
        if v3 = 13 then
          ja_X13_cut_b64 rec11 l0 l1 l2 l3 v3 S
        else
          if v3 < 32 then
            some (0, S)
          else
            if v3 ≤ 126 then
              ja_X13_cut_b64 rec11 l0 l1 l2 l3 v3 S
            else
              some (0, S)
    else none
theorem ja_X13_cut_b11_ok (zs : List Int32) {rec11 : Nat → Int → Int → Int → nk_S → Option (Int × nk_S)} (hrec11 : ∀ (l0 : Nat) (l1 : Int) (l2 : Int) (l3 : Int) (S : nk_S) (R : Int × nk_S), nk_cl ja_Tt l0 = some 13 → rec11 l0 l1 l2 l3 S = some R → nk_K ja_Tt mi_Γ (mi_ev zs) 1 105 11 [(0, nk_r l0), (1, nk_i l1), (2, nk_i l2), (3, nk_i l3)] [] S R) : ∀ (l0 : Nat) (l1 : Int) (l2 : Int) (l3 : Int) (S : nk_S) (R : Int × nk_S), nk_cl ja_Tt l0 = some 13 → ja_X13_cut_b11 rec11 l0 l1 l2 l3 S = some R → nk_K ja_Tt mi_Γ (mi_ev zs) 1 105 11 [(0, nk_r l0), (1, nk_i l1), (2, nk_i l2), (3, nk_i l3)] [] S R := by
  intro l0 l1 l2 l3 S R t_l0 hr
  unfold ja_X13_cut_b11 at hr
  refine nk_p (i := .iload_n 3) (len := 1) (pc' := 12) mJ_105 (by decide +kernel) (ns_iload_n 3 rfl rfl) rfl ?_
  refine nk_p (i := .aload_n 0) (len := 1) (pc' := 13) mJ_105 (by decide +kernel) (ns_aload_n 0 rfl rfl) rfl ?_
  refine nk_getI (y := (0, 0)) (x := 152) (len := 3) (ci := 13) (k := 7) (pc' := 16) ja_okT mJ_105 (by decide +kernel) (by decide +kernel) (by decide +kernel) t_l0 rfl ?_
  refine nk_icmp (c := .ge) (off := 230) (len := 3) (t := 246) (pc' := 19) mJ_105 (by decide +kernel) (by decide +kernel) rfl (fun hc => ?_) (fun hc => ?_)
  · have hr := nk_ifp (c := (S.1 l0 7) ≤ l3) hc hr
    refine nk_p (i := .iconst 1) (len := 1) (pc' := 247) mJ_105 (by decide +kernel) (ns_iconst (c := 1) (by decide +kernel)) rfl ?_
    cases hr
    exact nk_iret (ty := .boolean) (len := 1) mJ_105 (by decide +kernel) rfl (nk_nar_z (by decide))
  · have hr := nk_ifn (c := (S.1 l0 7) ≤ l3) hc hr
    refine nk_p (i := .aload_n 0) (len := 1) (pc' := 20) mJ_105 (by decide +kernel) (ns_aload_n 0 rfl rfl) rfl ?_
    refine nk_getC (f := (4, 0, 16000)) (x := 23) (len := 3) (ci := 13) (k := 6) (pc' := 23) ja_okT mJ_105 (by decide +kernel) (by decide +kernel) (by decide +kernel) (by decide) t_l0 rfl ?_
    have t1 : nk_ar ja_Tt (ja_c l0 6) = some (0, 16000) := nk_ta ja_okT t_l0 (by decide +kernel)
    refine nk_p (i := .iload_n 3) (len := 1) (pc' := 24) mJ_105 (by decide +kernel) (ns_iload_n 3 rfl rfl) rfl ?_
    obtain ⟨h2, hr⟩ := nk_cke hr
    refine nk_bald (t := 0) (len := 1) (N := 16000) (pc' := 25) mJ_105 (by decide +kernel) t1 (by decide) h2.1 h2.2 rfl rfl ?_
    obtain ⟨v3, h4, hr⟩ := nk_lte hr
    refine nk_p (i := .istore 4) (len := 2) (pc' := 27) mJ_105 (by decide +kernel) (ns_istore (L' := [(4, nk_i v3), (0, nk_r l0), (1, nk_i l1), (2, nk_i l2), (3, nk_i l3)]) h4 rfl (by decide +kernel)) rfl ?_
    refine nk_p (i := .iload 4) (len := 2) (pc' := 29) mJ_105 (by decide +kernel) (ns_iload 0 rfl) rfl ?_
    refine nk_p (i := .bipush 9) (len := 2) (pc' := 31) mJ_105 (by decide +kernel) (ns_bipush (c := 9) (by decide +kernel)) rfl ?_
    refine nk_icmp (c := .eq) (off := 33) (len := 3) (t := 64) (pc' := 34) mJ_105 (by decide +kernel) (by decide +kernel) rfl (fun hc => ?_) (fun hc => ?_)
    · have hr := nk_ifp (c := v3 = 9) hc hr
      refine nk_sub [1, 2, 3, 4, 0] (L' := [(0, nk_r l0), (1, nk_i l1), (2, nk_i l2), (3, nk_i l3), (4, nk_i v3)]) rfl ?_
      exact ja_X13_cut_b64_ok zs hrec11 _ _ _ _ _ _ _ t_l0 hr
    · have hr := nk_ifn (c := v3 = 9) hc hr
      refine nk_p (i := .iload 4) (len := 2) (pc' := 36) mJ_105 (by decide +kernel) (ns_iload 0 rfl) rfl ?_
      refine nk_p (i := .bipush 10) (len := 2) (pc' := 38) mJ_105 (by decide +kernel) (ns_bipush (c := 10) (by decide +kernel)) rfl ?_
      refine nk_icmp (c := .eq) (off := 26) (len := 3) (t := 64) (pc' := 41) mJ_105 (by decide +kernel) (by decide +kernel) rfl (fun hc => ?_) (fun hc => ?_)
      · have hr := nk_ifp (c := v3 = 10) hc hr
        refine nk_sub [1, 2, 3, 4, 0] (L' := [(0, nk_r l0), (1, nk_i l1), (2, nk_i l2), (3, nk_i l3), (4, nk_i v3)]) rfl ?_
        exact ja_X13_cut_b64_ok zs hrec11 _ _ _ _ _ _ _ t_l0 hr
      · have hr := nk_ifn (c := v3 = 10) hc hr
        refine nk_p (i := .iload 4) (len := 2) (pc' := 43) mJ_105 (by decide +kernel) (ns_iload 0 rfl) rfl ?_
        refine nk_p (i := .bipush 13) (len := 2) (pc' := 45) mJ_105 (by decide +kernel) (ns_bipush (c := 13) (by decide +kernel)) rfl ?_
        refine nk_icmp (c := .eq) (off := 19) (len := 3) (t := 64) (pc' := 48) mJ_105 (by decide +kernel) (by decide +kernel) rfl (fun hc => ?_) (fun hc => ?_)
        · have hr := nk_ifp (c := v3 = 13) hc hr
          refine nk_sub [1, 2, 3, 4, 0] (L' := [(0, nk_r l0), (1, nk_i l1), (2, nk_i l2), (3, nk_i l3), (4, nk_i v3)]) rfl ?_
          exact ja_X13_cut_b64_ok zs hrec11 _ _ _ _ _ _ _ t_l0 hr
        · have hr := nk_ifn (c := v3 = 13) hc hr
          refine nk_p (i := .iload 4) (len := 2) (pc' := 50) mJ_105 (by decide +kernel) (ns_iload 0 rfl) rfl ?_
          refine nk_p (i := .bipush 32) (len := 2) (pc' := 52) mJ_105 (by decide +kernel) (ns_bipush (c := 32) (by decide +kernel)) rfl ?_
          refine nk_icmp (c := .lt) (off := 10) (len := 3) (t := 62) (pc' := 55) mJ_105 (by decide +kernel) (by decide +kernel) rfl (fun hc => ?_) (fun hc => ?_)
          · have hr := nk_ifp (c := v3 < 32) hc hr
            refine nk_p (i := .iconst 0) (len := 1) (pc' := 63) mJ_105 (by decide +kernel) (ns_iconst (c := 0) (by decide +kernel)) rfl ?_
            cases hr
            exact nk_iret (ty := .boolean) (len := 1) mJ_105 (by decide +kernel) rfl (nk_nar_z (by decide))
          · have hr := nk_ifn (c := v3 < 32) hc hr
            refine nk_p (i := .iload 4) (len := 2) (pc' := 57) mJ_105 (by decide +kernel) (ns_iload 0 rfl) rfl ?_
            refine nk_p (i := .bipush 126) (len := 2) (pc' := 59) mJ_105 (by decide +kernel) (ns_bipush (c := 126) (by decide +kernel)) rfl ?_
            refine nk_icmp (c := .le) (off := 5) (len := 3) (t := 64) (pc' := 62) mJ_105 (by decide +kernel) (by decide +kernel) rfl (fun hc => ?_) (fun hc => ?_)
            · have hr := nk_ifp (c := v3 ≤ 126) hc hr
              refine nk_sub [1, 2, 3, 4, 0] (L' := [(0, nk_r l0), (1, nk_i l1), (2, nk_i l2), (3, nk_i l3), (4, nk_i v3)]) rfl ?_
              exact ja_X13_cut_b64_ok zs hrec11 _ _ _ _ _ _ _ t_l0 hr
            · have hr := nk_ifn (c := v3 ≤ 126) hc hr
              refine nk_p (i := .iconst 0) (len := 1) (pc' := 63) mJ_105 (by decide +kernel) (ns_iconst (c := 0) (by decide +kernel)) rfl ?_
              cases hr
              exact nk_iret (ty := .boolean) (len := 1) mJ_105 (by decide +kernel) rfl (nk_nar_z (by decide))
noncomputable def ja_X13_cut_L11 : Nat → Nat → Int → Int → Int → nk_S → Option (Int × nk_S)
  | 0, _, _, _, _, _ => none
  | n + 1, l0, l1, l2, l3, S => ja_X13_cut_b11 (ja_X13_cut_L11 n) l0 l1 l2 l3 S
theorem ja_X13_cut_L11_ok (zs : List Int32) : ∀ n : Nat, ∀ (l0 : Nat) (l1 : Int) (l2 : Int) (l3 : Int) (S : nk_S) (R : Int × nk_S), nk_cl ja_Tt l0 = some 13 → ja_X13_cut_L11 n l0 l1 l2 l3 S = some R → nk_K ja_Tt mi_Γ (mi_ev zs) 1 105 11 [(0, nk_r l0), (1, nk_i l1), (2, nk_i l2), (3, nk_i l3)] [] S R := by
  intro n
  induction n with
  | zero => intro _ _ _ _ _ _ _ hr; cases hr
  | succ n ih => intro l0 l1 l2 l3 S R t_l0 hr; exact ja_X13_cut_b11_ok zs ih l0 l1 l2 l3 S R t_l0 hr
noncomputable def ja_X13_cut (l0 : Nat) (S : nk_S) : Option (Int × nk_S) :=
  nk_lt (nk_wi S l0 10 0) fun S1 =>
  ja_X13_cut_L11 nk_big l0 0 0 0 S1
theorem ja_X13_cut_ok (zs : List Int32) : ∀ (l0 : Nat) (S : nk_S) (R : Int × nk_S), nk_cl ja_Tt l0 = some 13 → ja_X13_cut l0 S = some R → nk_K ja_Tt mi_Γ (mi_ev zs) 1 105 0 [(0, nk_r l0)] [] S R := by
  intro l0 S R t_l0 hr
  unfold ja_X13_cut at hr
  refine nk_p (i := .aload_n 0) (len := 1) (pc' := 1) mJ_105 (by decide +kernel) (ns_aload_n 0 rfl rfl) rfl ?_
  refine nk_p (i := .iconst 0) (len := 1) (pc' := 2) mJ_105 (by decide +kernel) (ns_iconst (c := 0) (by decide +kernel)) rfl ?_
  obtain ⟨S1, h2, hr⟩ := nk_lte hr
  refine nk_putI (y := (0, 0)) (ty := .int) (x := 155) (len := 3) (ci := 13) (k := 10) (pc' := 5) ja_okT mJ_105 (by decide +kernel) (by decide +kernel) (by decide +kernel) t_l0 (Or.inl rfl) rfl h2 ?_
  refine nk_p (i := .iconst 0) (len := 1) (pc' := 6) mJ_105 (by decide +kernel) (ns_iconst (c := 0) (by decide +kernel)) rfl ?_
  refine nk_p (i := .istore_n 1) (len := 1) (pc' := 7) mJ_105 (by decide +kernel) (ns_istore_n (L' := [(1, nk_i 0), (0, nk_r l0)]) rfl rfl rfl (by decide +kernel)) rfl ?_
  refine nk_p (i := .iconst 0) (len := 1) (pc' := 8) mJ_105 (by decide +kernel) (ns_iconst (c := 0) (by decide +kernel)) rfl ?_
  refine nk_p (i := .istore_n 2) (len := 1) (pc' := 9) mJ_105 (by decide +kernel) (ns_istore_n (L' := [(2, nk_i 0), (1, nk_i 0), (0, nk_r l0)]) rfl rfl rfl (by decide +kernel)) rfl ?_
  refine nk_p (i := .iconst 0) (len := 1) (pc' := 10) mJ_105 (by decide +kernel) (ns_iconst (c := 0) (by decide +kernel)) rfl ?_
  refine nk_p (i := .istore_n 3) (len := 1) (pc' := 11) mJ_105 (by decide +kernel) (ns_istore_n (L' := [(3, nk_i 0), (2, nk_i 0), (1, nk_i 0), (0, nk_r l0)]) rfl rfl rfl (by decide +kernel)) rfl ?_
  refine nk_sub [3, 2, 1, 0] (L' := [(0, nk_r l0), (1, nk_i 0), (2, nk_i 0), (3, nk_i 0)]) rfl ?_
  exact ja_X13_cut_L11_ok zs nk_big _ _ _ _ _ _ t_l0 hr
/-! SafeCodeModel index (LSafeCodeModel$Program;II)Z -/
noncomputable def ja_X13_index_b336 (l0 : Nat) (l13 : Int) (S : nk_S) : Option (Int × nk_S) :=
  if 0 ≤ l13 ∧ l13 < 24 then
  if (S.1 (ja_c l0 28) l13.toNat) < (S.1 (ja_c l0 27) l13.toNat) then
    some (0, S)
  else
    some (1, S)
  else none
theorem ja_X13_index_b336_ok (zs : List Int32) : ∀ (l0 : Nat) (l13 : Int) (S : nk_S) (R : Int × nk_S), nk_cl ja_Tt l0 = some 13 → ja_X13_index_b336 l0 l13 S = some R → nk_K ja_Tt mi_Γ (mi_ev zs) 1 135 336 [(0, nk_r l0), (13, nk_i l13)] [] S R := by
  intro l0 l13 S R t_l0 hr
  unfold ja_X13_index_b336 at hr
  refine nk_p (i := .aload_n 0) (len := 1) (pc' := 337) mJ_135 (by decide +kernel) (ns_aload_n 0 rfl rfl) rfl ?_
  refine nk_getC (f := (4, 1, 24)) (x := 74) (len := 3) (ci := 13) (k := 27) (pc' := 340) ja_okT mJ_135 (by decide +kernel) (by decide +kernel) (by decide +kernel) (by decide) t_l0 rfl ?_
  have t1 : nk_ar ja_Tt (ja_c l0 27) = some (1, 24) := nk_ta ja_okT t_l0 (by decide +kernel)
  refine nk_p (i := .iload 13) (len := 2) (pc' := 342) mJ_135 (by decide +kernel) (ns_iload 1 rfl) rfl ?_
  obtain ⟨h2, hr⟩ := nk_cke hr
  refine nk_iald (len := 1) (N := 24) (pc' := 343) mJ_135 (by decide +kernel) t1 h2.1 h2.2 rfl rfl ?_
  refine nk_p (i := .aload_n 0) (len := 1) (pc' := 344) mJ_135 (by decide +kernel) (ns_aload_n 0 rfl rfl) rfl ?_
  refine nk_getC (f := (4, 1, 24)) (x := 77) (len := 3) (ci := 13) (k := 28) (pc' := 347) ja_okT mJ_135 (by decide +kernel) (by decide +kernel) (by decide +kernel) (by decide) t_l0 rfl ?_
  have t3 : nk_ar ja_Tt (ja_c l0 28) = some (1, 24) := nk_ta ja_okT t_l0 (by decide +kernel)
  refine nk_p (i := .iload 13) (len := 2) (pc' := 349) mJ_135 (by decide +kernel) (ns_iload 1 rfl) rfl ?_
  refine nk_iald (len := 1) (N := 24) (pc' := 350) mJ_135 (by decide +kernel) t3 h2.1 h2.2 rfl rfl ?_
  refine nk_icmp (c := .gt) (off := 7) (len := 3) (t := 357) (pc' := 353) mJ_135 (by decide +kernel) (by decide +kernel) rfl (fun hc => ?_) (fun hc => ?_)
  · have hr := nk_ifp (c := (S.1 (ja_c l0 28) l13.toNat) < (S.1 (ja_c l0 27) l13.toNat)) hc hr
    refine nk_p (i := .iconst 0) (len := 1) (pc' := 358) mJ_135 (by decide +kernel) (ns_iconst (c := 0) (by decide +kernel)) rfl ?_
    cases hr
    exact nk_iret (ty := .boolean) (len := 1) mJ_135 (by decide +kernel) rfl (nk_nar_z (by decide))
  · have hr := nk_ifn (c := (S.1 (ja_c l0 28) l13.toNat) < (S.1 (ja_c l0 27) l13.toNat)) hc hr
    refine nk_p (i := .iconst 1) (len := 1) (pc' := 354) mJ_135 (by decide +kernel) (ns_iconst (c := 1) (by decide +kernel)) rfl ?_
    refine nk_p (i := .goto 4) (len := 3) (pc' := 358) mJ_135 (by decide +kernel) (ns_goto (by decide +kernel)) rfl ?_
    cases hr
    exact nk_iret (ty := .boolean) (len := 1) mJ_135 (by decide +kernel) rfl (nk_nar_z (by decide))
noncomputable def ja_X13_index_b224 (l0 : Nat) (l1 : Nat) (l2 : Int) (l3 : Int) (l9 : Int) (l11 : Int) (S : nk_S) : Option (Int × nk_S) :=
  nk_bd (ja_X13_notAbove l1 l9 S) fun r2 S3 =>
  if 0 ≤ l3 ∧ l3 < 24 then
  nk_lt (nk_wi S3 (ja_c l0 27) l3.toNat r2) fun S6 =>
  nk_bd (ja_X13_notBelow l1 l11 S6) fun r9 S10 =>
  nk_lt (nk_wi S10 (ja_c l0 28) l3.toNat r9) fun S12 =>
  nk_lt (S12.1 (ja_c l0 30) l3.toNat) fun v15 =>
  if 0 ≤ v15 then
    if 0 ≤ v15 ∧ v15 < 24 then
    nk_bd (ja_J9_max_7cf53 (S12.1 (ja_c l0 27) v15.toNat) (S12.1 (ja_c l0 27) l3.toNat) S12) fun r18 S19 =>
    nk_lt (nk_wi S19 (ja_c l0 27) v15.toNat r18) fun S21 =>
    nk_bd (ja_J9_min_7cf53 (S21.1 (ja_c l0 28) v15.toNat) (S21.1 (ja_c l0 28) l3.toNat) S21) fun r23 S24 =>
    nk_lt (nk_wi S24 (ja_c l0 28) v15.toNat r23) fun S26 =>
    if 0 ≤ l2 ∧ l2 < 24 then
    if (S26.1 (ja_c l0 30) l2.toNat) < 0 then
      ja_X13_index_b336 l0 v15 S26
    else
      nk_lt (nk_wi S26 (ja_c l0 32) v15.toNat (nk_ior (S26.1 (ja_c l0 32) v15.toNat) (nk_ishl 1 (S26.1 (ja_c l0 30) l2.toNat)))) fun S30 =>
      ja_X13_index_b336 l0 v15 S30
    else none
    else none
  else
    some (1, S12)
  else none
theorem ja_X13_index_b224_ok (zs : List Int32) : ∀ (l0 : Nat) (l1 : Nat) (l2 : Int) (l3 : Int) (l9 : Int) (l11 : Int) (S : nk_S) (R : Int × nk_S), nk_cl ja_Tt l0 = some 13 → nk_cl ja_Tt l1 = some 12 → ja_X13_index_b224 l0 l1 l2 l3 l9 l11 S = some R → nk_K ja_Tt mi_Γ (mi_ev zs) 1 135 224 [(0, nk_r l0), (1, nk_r l1), (2, nk_i l2), (3, nk_i l3), (9, nk_l l9), (11, nk_l l11)] [] S R := by
  intro l0 l1 l2 l3 l9 l11 S R t_l0 t_l1 hr
  unfold ja_X13_index_b224 at hr
  refine nk_p (i := .aload_n 0) (len := 1) (pc' := 225) mJ_135 (by decide +kernel) (ns_aload_n 0 rfl rfl) rfl ?_
  refine nk_getC (f := (4, 1, 24)) (x := 74) (len := 3) (ci := 13) (k := 27) (pc' := 228) ja_okT mJ_135 (by decide +kernel) (by decide +kernel) (by decide +kernel) (by decide) t_l0 rfl ?_
  have t1 : nk_ar ja_Tt (ja_c l0 27) = some (1, 24) := nk_ta ja_okT t_l0 (by decide +kernel)
  refine nk_p (i := .iload_n 3) (len := 1) (pc' := 229) mJ_135 (by decide +kernel) (ns_iload_n 3 rfl rfl) rfl ?_
  refine nk_p (i := .aload_n 1) (len := 1) (pc' := 230) mJ_135 (by decide +kernel) (ns_aload_n 1 rfl rfl) rfl ?_
  refine nk_p (i := .lload 9) (len := 2) (pc' := 232) mJ_135 (by decide +kernel) (ns_lload 4 rfl) rfl ?_
  obtain ⟨r2, S3, h4, hr⟩ := nk_bde hr
  refine nk_callS (ci := 0) (n := 2) (x := 563) (len := 3) (j' := 195) (q' := 1) (r := r2) (S' := S3) (L2 := [(0, nk_r l1), (1, nk_l l9)]) (rest := [nk_i l3, nk_r (ja_c l0 27)]) (st' := [nk_i r2, nk_i l3, nk_r (ja_c l0 27)]) (pc' := 235) mJ_135 (by decide +kernel) (by decide +kernel) (Nat.le_of_ble_eq_true rfl) rfl rfl (Nat.le_of_ble_eq_true rfl) mJ_195 (Nat.le_of_ble_eq_true rfl) ja_Tpos rfl (ja_X13_notAbove_ok zs _ _ _ _ t_l1 h4) rfl ?_
  obtain ⟨h5, hr⟩ := nk_cke hr
  obtain ⟨S6, h7, hr⟩ := nk_lte hr
  refine nk_iast (len := 1) (N := 24) (pc' := 236) mJ_135 (by decide +kernel) t1 h5.1 h5.2 rfl rfl h7 ?_
  refine nk_p (i := .aload_n 0) (len := 1) (pc' := 237) mJ_135 (by decide +kernel) (ns_aload_n 0 rfl rfl) rfl ?_
  refine nk_getC (f := (4, 1, 24)) (x := 77) (len := 3) (ci := 13) (k := 28) (pc' := 240) ja_okT mJ_135 (by decide +kernel) (by decide +kernel) (by decide +kernel) (by decide) t_l0 rfl ?_
  have t8 : nk_ar ja_Tt (ja_c l0 28) = some (1, 24) := nk_ta ja_okT t_l0 (by decide +kernel)
  refine nk_p (i := .iload_n 3) (len := 1) (pc' := 241) mJ_135 (by decide +kernel) (ns_iload_n 3 rfl rfl) rfl ?_
  refine nk_p (i := .aload_n 1) (len := 1) (pc' := 242) mJ_135 (by decide +kernel) (ns_aload_n 1 rfl rfl) rfl ?_
  refine nk_p (i := .lload 11) (len := 2) (pc' := 244) mJ_135 (by decide +kernel) (ns_lload 5 rfl) rfl ?_
  obtain ⟨r9, S10, h11, hr⟩ := nk_bde hr
  refine nk_callS (ci := 0) (n := 2) (x := 568) (len := 3) (j' := 196) (q' := 1) (r := r9) (S' := S10) (L2 := [(0, nk_r l1), (1, nk_l l11)]) (rest := [nk_i l3, nk_r (ja_c l0 28)]) (st' := [nk_i r9, nk_i l3, nk_r (ja_c l0 28)]) (pc' := 247) mJ_135 (by decide +kernel) (by decide +kernel) (Nat.le_of_ble_eq_true rfl) rfl rfl (Nat.le_of_ble_eq_true rfl) mJ_196 (Nat.le_of_ble_eq_true rfl) ja_Tpos rfl (ja_X13_notBelow_ok zs _ _ _ _ t_l1 h11) rfl ?_
  obtain ⟨S12, h13, hr⟩ := nk_lte hr
  refine nk_iast (len := 1) (N := 24) (pc' := 248) mJ_135 (by decide +kernel) t8 h5.1 h5.2 rfl rfl h13 ?_
  refine nk_p (i := .aload_n 0) (len := 1) (pc' := 249) mJ_135 (by decide +kernel) (ns_aload_n 0 rfl rfl) rfl ?_
  refine nk_getC (f := (4, 1, 24)) (x := 84) (len := 3) (ci := 13) (k := 30) (pc' := 252) ja_okT mJ_135 (by decide +kernel) (by decide +kernel) (by decide +kernel) (by decide) t_l0 rfl ?_
  have t14 : nk_ar ja_Tt (ja_c l0 30) = some (1, 24) := nk_ta ja_okT t_l0 (by decide +kernel)
  refine nk_p (i := .iload_n 3) (len := 1) (pc' := 253) mJ_135 (by decide +kernel) (ns_iload_n 3 rfl rfl) rfl ?_
  refine nk_iald (len := 1) (N := 24) (pc' := 254) mJ_135 (by decide +kernel) t14 h5.1 h5.2 rfl rfl ?_
  obtain ⟨v15, h16, hr⟩ := nk_lte hr
  refine nk_p (i := .istore 13) (len := 2) (pc' := 256) mJ_135 (by decide +kernel) (ns_istore (L' := [(13, nk_i v15), (0, nk_r l0), (1, nk_r l1), (2, nk_i l2), (3, nk_i l3), (9, nk_l l9), (11, nk_l l11)]) h16 rfl (by decide +kernel)) rfl ?_
  refine nk_p (i := .iload 13) (len := 2) (pc' := 258) mJ_135 (by decide +kernel) (ns_iload 0 rfl) rfl ?_
  refine nk_icond (c := .ge) (off := 5) (len := 3) (t := 263) (pc' := 261) mJ_135 (by decide +kernel) (by decide +kernel) rfl (fun hc => ?_) (fun hc => ?_)
  · have hr := nk_ifp (c := 0 ≤ v15) hc hr
    refine nk_p (i := .aload_n 0) (len := 1) (pc' := 264) mJ_135 (by decide +kernel) (ns_aload_n 1 rfl rfl) rfl ?_
    refine nk_getC (f := (4, 1, 24)) (x := 74) (len := 3) (ci := 13) (k := 27) (pc' := 267) ja_okT mJ_135 (by decide +kernel) (by decide +kernel) (by decide +kernel) (by decide) t_l0 rfl ?_
    refine nk_p (i := .iload 13) (len := 2) (pc' := 269) mJ_135 (by decide +kernel) (ns_iload 0 rfl) rfl ?_
    refine nk_p (i := .aload_n 0) (len := 1) (pc' := 270) mJ_135 (by decide +kernel) (ns_aload_n 1 rfl rfl) rfl ?_
    refine nk_getC (f := (4, 1, 24)) (x := 74) (len := 3) (ci := 13) (k := 27) (pc' := 273) ja_okT mJ_135 (by decide +kernel) (by decide +kernel) (by decide +kernel) (by decide) t_l0 rfl ?_
    refine nk_p (i := .iload 13) (len := 2) (pc' := 275) mJ_135 (by decide +kernel) (ns_iload 0 rfl) rfl ?_
    obtain ⟨h17, hr⟩ := nk_cke hr
    refine nk_iald (len := 1) (N := 24) (pc' := 276) mJ_135 (by decide +kernel) t1 h17.1 h17.2 rfl rfl ?_
    refine nk_p (i := .aload_n 0) (len := 1) (pc' := 277) mJ_135 (by decide +kernel) (ns_aload_n 1 rfl rfl) rfl ?_
    refine nk_getC (f := (4, 1, 24)) (x := 74) (len := 3) (ci := 13) (k := 27) (pc' := 280) ja_okT mJ_135 (by decide +kernel) (by decide +kernel) (by decide +kernel) (by decide) t_l0 rfl ?_
    refine nk_p (i := .iload_n 3) (len := 1) (pc' := 281) mJ_135 (by decide +kernel) (ns_iload_n 4 rfl rfl) rfl ?_
    refine nk_iald (len := 1) (N := 24) (pc' := 282) mJ_135 (by decide +kernel) t1 h5.1 h5.2 rfl rfl ?_
    obtain ⟨r18, S19, h20, hr⟩ := nk_bde hr
    refine nk_callS (ci := 0) (n := 2) (x := 557) (len := 3) (j' := 16) (q' := 1) (r := r18) (S' := S19) (L2 := [(0, nk_i (S12.1 (ja_c l0 27) v15.toNat)), (1, nk_i (S12.1 (ja_c l0 27) l3.toNat))]) (rest := [nk_i v15, nk_r (ja_c l0 27)]) (st' := [nk_i r18, nk_i v15, nk_r (ja_c l0 27)]) (pc' := 285) mJ_135 (by decide +kernel) (by decide +kernel) (Nat.le_of_ble_eq_true rfl) rfl rfl (Nat.le_of_ble_eq_true rfl) mJ_16 (Nat.le_of_ble_eq_true rfl) ja_Tpos rfl (ja_J9_max_7cf53_ok zs _ _ _ _ h20) rfl ?_
    obtain ⟨S21, h22, hr⟩ := nk_lte hr
    refine nk_iast (len := 1) (N := 24) (pc' := 286) mJ_135 (by decide +kernel) t1 h17.1 h17.2 rfl rfl h22 ?_
    refine nk_p (i := .aload_n 0) (len := 1) (pc' := 287) mJ_135 (by decide +kernel) (ns_aload_n 1 rfl rfl) rfl ?_
    refine nk_getC (f := (4, 1, 24)) (x := 77) (len := 3) (ci := 13) (k := 28) (pc' := 290) ja_okT mJ_135 (by decide +kernel) (by decide +kernel) (by decide +kernel) (by decide) t_l0 rfl ?_
    refine nk_p (i := .iload 13) (len := 2) (pc' := 292) mJ_135 (by decide +kernel) (ns_iload 0 rfl) rfl ?_
    refine nk_p (i := .aload_n 0) (len := 1) (pc' := 293) mJ_135 (by decide +kernel) (ns_aload_n 1 rfl rfl) rfl ?_
    refine nk_getC (f := (4, 1, 24)) (x := 77) (len := 3) (ci := 13) (k := 28) (pc' := 296) ja_okT mJ_135 (by decide +kernel) (by decide +kernel) (by decide +kernel) (by decide) t_l0 rfl ?_
    refine nk_p (i := .iload 13) (len := 2) (pc' := 298) mJ_135 (by decide +kernel) (ns_iload 0 rfl) rfl ?_
    refine nk_iald (len := 1) (N := 24) (pc' := 299) mJ_135 (by decide +kernel) t8 h17.1 h17.2 rfl rfl ?_
    refine nk_p (i := .aload_n 0) (len := 1) (pc' := 300) mJ_135 (by decide +kernel) (ns_aload_n 1 rfl rfl) rfl ?_
    refine nk_getC (f := (4, 1, 24)) (x := 77) (len := 3) (ci := 13) (k := 28) (pc' := 303) ja_okT mJ_135 (by decide +kernel) (by decide +kernel) (by decide +kernel) (by decide) t_l0 rfl ?_
    refine nk_p (i := .iload_n 3) (len := 1) (pc' := 304) mJ_135 (by decide +kernel) (ns_iload_n 4 rfl rfl) rfl ?_
    refine nk_iald (len := 1) (N := 24) (pc' := 305) mJ_135 (by decide +kernel) t8 h5.1 h5.2 rfl rfl ?_
    obtain ⟨r23, S24, h25, hr⟩ := nk_bde hr
    refine nk_callS (ci := 0) (n := 2) (x := 551) (len := 3) (j' := 18) (q' := 1) (r := r23) (S' := S24) (L2 := [(0, nk_i (S21.1 (ja_c l0 28) v15.toNat)), (1, nk_i (S21.1 (ja_c l0 28) l3.toNat))]) (rest := [nk_i v15, nk_r (ja_c l0 28)]) (st' := [nk_i r23, nk_i v15, nk_r (ja_c l0 28)]) (pc' := 308) mJ_135 (by decide +kernel) (by decide +kernel) (Nat.le_of_ble_eq_true rfl) rfl rfl (Nat.le_of_ble_eq_true rfl) mJ_18 (Nat.le_of_ble_eq_true rfl) ja_Tpos rfl (ja_J9_min_7cf53_ok zs _ _ _ _ h25) rfl ?_
    obtain ⟨S26, h27, hr⟩ := nk_lte hr
    refine nk_iast (len := 1) (N := 24) (pc' := 309) mJ_135 (by decide +kernel) t8 h17.1 h17.2 rfl rfl h27 ?_
    refine nk_p (i := .aload_n 0) (len := 1) (pc' := 310) mJ_135 (by decide +kernel) (ns_aload_n 1 rfl rfl) rfl ?_
    refine nk_getC (f := (4, 1, 24)) (x := 84) (len := 3) (ci := 13) (k := 30) (pc' := 313) ja_okT mJ_135 (by decide +kernel) (by decide +kernel) (by decide +kernel) (by decide) t_l0 rfl ?_
    refine nk_p (i := .iload_n 2) (len := 1) (pc' := 314) mJ_135 (by decide +kernel) (ns_iload_n 3 rfl rfl) rfl ?_
    obtain ⟨h28, hr⟩ := nk_cke hr
    refine nk_iald (len := 1) (N := 24) (pc' := 315) mJ_135 (by decide +kernel) t14 h28.1 h28.2 rfl rfl ?_
    refine nk_icond (c := .lt) (off := 21) (len := 3) (t := 336) (pc' := 318) mJ_135 (by decide +kernel) (by decide +kernel) rfl (fun hc => ?_) (fun hc => ?_)
    · have hr := nk_ifp (c := (S26.1 (ja_c l0 30) l2.toNat) < 0) hc hr
      refine nk_sub [1, 0] (L' := [(0, nk_r l0), (13, nk_i v15)]) rfl ?_
      exact ja_X13_index_b336_ok zs _ _ _ _ t_l0 hr
    · have hr := nk_ifn (c := (S26.1 (ja_c l0 30) l2.toNat) < 0) hc hr
      refine nk_p (i := .aload_n 0) (len := 1) (pc' := 319) mJ_135 (by decide +kernel) (ns_aload_n 1 rfl rfl) rfl ?_
      refine nk_getC (f := (4, 1, 24)) (x := 90) (len := 3) (ci := 13) (k := 32) (pc' := 322) ja_okT mJ_135 (by decide +kernel) (by decide +kernel) (by decide +kernel) (by decide) t_l0 rfl ?_
      have t29 : nk_ar ja_Tt (ja_c l0 32) = some (1, 24) := nk_ta ja_okT t_l0 (by decide +kernel)
      refine nk_p (i := .iload 13) (len := 2) (pc' := 324) mJ_135 (by decide +kernel) (ns_iload 0 rfl) rfl ?_
      refine nk_p (i := .dup2) (len := 1) (pc' := 325) mJ_135 (by decide +kernel) (ns_dup2 rfl rfl) rfl ?_
      refine nk_iald (len := 1) (N := 24) (pc' := 326) mJ_135 (by decide +kernel) t29 h17.1 h17.2 rfl rfl ?_
      refine nk_p (i := .iconst 1) (len := 1) (pc' := 327) mJ_135 (by decide +kernel) (ns_iconst (c := 1) (by decide +kernel)) rfl ?_
      refine nk_p (i := .aload_n 0) (len := 1) (pc' := 328) mJ_135 (by decide +kernel) (ns_aload_n 1 rfl rfl) rfl ?_
      refine nk_getC (f := (4, 1, 24)) (x := 84) (len := 3) (ci := 13) (k := 30) (pc' := 331) ja_okT mJ_135 (by decide +kernel) (by decide +kernel) (by decide +kernel) (by decide) t_l0 rfl ?_
      refine nk_p (i := .iload_n 2) (len := 1) (pc' := 332) mJ_135 (by decide +kernel) (ns_iload_n 3 rfl rfl) rfl ?_
      refine nk_iald (len := 1) (N := 24) (pc' := 333) mJ_135 (by decide +kernel) t14 h28.1 h28.2 rfl rfl ?_
      refine nk_p (i := .ishl) (len := 1) (pc' := 334) mJ_135 (by decide +kernel) ns_ishl rfl ?_
      refine nk_p (i := .ior) (len := 1) (pc' := 335) mJ_135 (by decide +kernel) ns_ior rfl ?_
      obtain ⟨S30, h31, hr⟩ := nk_lte hr
      refine nk_iast (len := 1) (N := 24) (pc' := 336) mJ_135 (by decide +kernel) t29 h17.1 h17.2 rfl rfl h31 ?_
      refine nk_sub [1, 0] (L' := [(0, nk_r l0), (13, nk_i v15)]) rfl ?_
      exact ja_X13_index_b336_ok zs _ _ _ _ t_l0 hr
  · have hr := nk_ifn (c := 0 ≤ v15) hc hr
    refine nk_p (i := .iconst 1) (len := 1) (pc' := 262) mJ_135 (by decide +kernel) (ns_iconst (c := 1) (by decide +kernel)) rfl ?_
    cases hr
    exact nk_iret (ty := .boolean) (len := 1) mJ_135 (by decide +kernel) rfl (nk_nar_z (by decide))
noncomputable def ja_X13_index_b185 (l0 : Nat) (l1 : Nat) (l2 : Int) (l3 : Int) (l6 : Int) (S : nk_S) : Option (Int × nk_S) :=
  if 0 ≤ l3 ∧ l3 < 24 then
  nk_bd (ja_J9_max_7cf53 (S.1 (ja_c l0 27) l3.toNat) 0 S) fun r3 S4 =>
  nk_bd (ja_J9_min_f86c9 (S4.1 (ja_c l0 28) l3.toNat) (nk_W (l6 - 1)) S4) fun r7 S8 =>
  if r3 ≤ r7 then
    ja_X13_index_b224 l0 l1 l2 l3 r3 r7 S8
  else
    some (0, S8)
  else none
theorem ja_X13_index_b185_ok (zs : List Int32) : ∀ (l0 : Nat) (l1 : Nat) (l2 : Int) (l3 : Int) (l6 : Int) (S : nk_S) (R : Int × nk_S), nk_cl ja_Tt l0 = some 13 → nk_cl ja_Tt l1 = some 12 → ja_X13_index_b185 l0 l1 l2 l3 l6 S = some R → nk_K ja_Tt mi_Γ (mi_ev zs) 1 135 185 [(0, nk_r l0), (1, nk_r l1), (2, nk_i l2), (3, nk_i l3), (6, nk_l l6)] [] S R := by
  intro l0 l1 l2 l3 l6 S R t_l0 t_l1 hr
  unfold ja_X13_index_b185 at hr
  refine nk_p (i := .aload_n 0) (len := 1) (pc' := 186) mJ_135 (by decide +kernel) (ns_aload_n 0 rfl rfl) rfl ?_
  refine nk_getC (f := (4, 1, 24)) (x := 74) (len := 3) (ci := 13) (k := 27) (pc' := 189) ja_okT mJ_135 (by decide +kernel) (by decide +kernel) (by decide +kernel) (by decide) t_l0 rfl ?_
  have t1 : nk_ar ja_Tt (ja_c l0 27) = some (1, 24) := nk_ta ja_okT t_l0 (by decide +kernel)
  refine nk_p (i := .iload_n 3) (len := 1) (pc' := 190) mJ_135 (by decide +kernel) (ns_iload_n 3 rfl rfl) rfl ?_
  obtain ⟨h2, hr⟩ := nk_cke hr
  refine nk_iald (len := 1) (N := 24) (pc' := 191) mJ_135 (by decide +kernel) t1 h2.1 h2.2 rfl rfl ?_
  refine nk_p (i := .iconst 0) (len := 1) (pc' := 192) mJ_135 (by decide +kernel) (ns_iconst (c := 0) (by decide +kernel)) rfl ?_
  obtain ⟨r3, S4, h5, hr⟩ := nk_bde hr
  refine nk_callS (ci := 0) (n := 2) (x := 557) (len := 3) (j' := 16) (q' := 1) (r := r3) (S' := S4) (L2 := [(0, nk_i (S.1 (ja_c l0 27) l3.toNat)), (1, nk_i 0)]) (rest := []) (st' := [nk_i r3]) (pc' := 195) mJ_135 (by decide +kernel) (by decide +kernel) (Nat.le_of_ble_eq_true rfl) rfl rfl (Nat.le_of_ble_eq_true rfl) mJ_16 (Nat.le_of_ble_eq_true rfl) ja_Tpos rfl (ja_J9_max_7cf53_ok zs _ _ _ _ h5) rfl ?_
  refine nk_p (i := .i2l) (len := 1) (pc' := 196) mJ_135 (by decide +kernel) ns_i2l rfl ?_
  refine nk_p (i := .lstore 9) (len := 2) (pc' := 198) mJ_135 (by decide +kernel) (ns_lstore (L' := [(9, nk_l r3), (0, nk_r l0), (1, nk_r l1), (2, nk_i l2), (3, nk_i l3), (6, nk_l l6)]) rfl rfl (by decide +kernel)) rfl ?_
  refine nk_p (i := .aload_n 0) (len := 1) (pc' := 199) mJ_135 (by decide +kernel) (ns_aload_n 1 rfl rfl) rfl ?_
  refine nk_getC (f := (4, 1, 24)) (x := 77) (len := 3) (ci := 13) (k := 28) (pc' := 202) ja_okT mJ_135 (by decide +kernel) (by decide +kernel) (by decide +kernel) (by decide) t_l0 rfl ?_
  have t6 : nk_ar ja_Tt (ja_c l0 28) = some (1, 24) := nk_ta ja_okT t_l0 (by decide +kernel)
  refine nk_p (i := .iload_n 3) (len := 1) (pc' := 203) mJ_135 (by decide +kernel) (ns_iload_n 4 rfl rfl) rfl ?_
  refine nk_iald (len := 1) (N := 24) (pc' := 204) mJ_135 (by decide +kernel) t6 h2.1 h2.2 rfl rfl ?_
  refine nk_p (i := .i2l) (len := 1) (pc' := 205) mJ_135 (by decide +kernel) ns_i2l rfl ?_
  refine nk_p (i := .lload 6) (len := 2) (pc' := 207) mJ_135 (by decide +kernel) (ns_lload 5 rfl) rfl ?_
  refine nk_p (i := .lconst 1) (len := 1) (pc' := 208) mJ_135 (by decide +kernel) (ns_lconst (c := 1) (by decide +kernel)) rfl ?_
  refine nk_p (i := .lsub) (len := 1) (pc' := 209) mJ_135 (by decide +kernel) ns_lsub rfl ?_
  obtain ⟨r7, S8, h9, hr⟩ := nk_bde hr
  refine nk_callS (ci := 0) (n := 2) (x := 676) (len := 3) (j' := 19) (q' := 2) (r := r7) (S' := S8) (L2 := [(0, nk_l (S4.1 (ja_c l0 28) l3.toNat)), (2, nk_l (nk_W (l6 - 1)))]) (rest := []) (st' := [nk_l r7]) (pc' := 212) mJ_135 (by decide +kernel) (by decide +kernel) (Nat.le_of_ble_eq_true rfl) rfl rfl (Nat.le_of_ble_eq_true rfl) mJ_19 (Nat.le_of_ble_eq_true rfl) ja_Tpos rfl (ja_J9_min_f86c9_ok zs _ _ _ _ h9) rfl ?_
  refine nk_p (i := .lstore 11) (len := 2) (pc' := 214) mJ_135 (by decide +kernel) (ns_lstore (L' := [(11, nk_l r7), (9, nk_l r3), (0, nk_r l0), (1, nk_r l1), (2, nk_i l2), (3, nk_i l3), (6, nk_l l6)]) rfl rfl (by decide +kernel)) rfl ?_
  refine nk_p (i := .lload 9) (len := 2) (pc' := 216) mJ_135 (by decide +kernel) (ns_lload 1 rfl) rfl ?_
  refine nk_p (i := .lload 11) (len := 2) (pc' := 218) mJ_135 (by decide +kernel) (ns_lload 0 rfl) rfl ?_
  refine nk_p (i := .lcmp) (len := 1) (pc' := 219) mJ_135 (by decide +kernel) ns_lcmp rfl ?_
  refine nk_lcond (c := .le) (off := 5) (len := 3) (t := 224) (pc' := 222) mJ_135 (by decide +kernel) (by decide +kernel) rfl (fun hc => ?_) (fun hc => ?_)
  · have hr := nk_ifp (c := r3 ≤ r7) hc hr
    refine nk_sub [2, 3, 4, 5, 1, 0] (L' := [(0, nk_r l0), (1, nk_r l1), (2, nk_i l2), (3, nk_i l3), (9, nk_l r3), (11, nk_l r7)]) rfl ?_
    exact ja_X13_index_b224_ok zs _ _ _ _ _ _ _ _ t_l0 t_l1 hr
  · have hr := nk_ifn (c := r3 ≤ r7) hc hr
    refine nk_p (i := .iconst 0) (len := 1) (pc' := 223) mJ_135 (by decide +kernel) (ns_iconst (c := 0) (by decide +kernel)) rfl ?_
    cases hr
    exact nk_iret (ty := .boolean) (len := 1) mJ_135 (by decide +kernel) rfl (nk_nar_z (by decide))
noncomputable def ja_X13_index_b175 (l0 : Nat) (l1 : Nat) (l2 : Int) (l3 : Int) (l6 : Int) (S : nk_S) : Option (Int × nk_S) :=
  nk_lt (nk_wi S l0 39 (nk_ior (S.1 l0 39) 2)) fun S1 =>
  ja_X13_index_b185 l0 l1 l2 l3 l6 S1
theorem ja_X13_index_b175_ok (zs : List Int32) : ∀ (l0 : Nat) (l1 : Nat) (l2 : Int) (l3 : Int) (l6 : Int) (S : nk_S) (R : Int × nk_S), nk_cl ja_Tt l0 = some 13 → nk_cl ja_Tt l1 = some 12 → ja_X13_index_b175 l0 l1 l2 l3 l6 S = some R → nk_K ja_Tt mi_Γ (mi_ev zs) 1 135 175 [(0, nk_r l0), (1, nk_r l1), (2, nk_i l2), (3, nk_i l3), (6, nk_l l6)] [] S R := by
  intro l0 l1 l2 l3 l6 S R t_l0 t_l1 hr
  unfold ja_X13_index_b175 at hr
  refine nk_p (i := .aload_n 0) (len := 1) (pc' := 176) mJ_135 (by decide +kernel) (ns_aload_n 0 rfl rfl) rfl ?_
  refine nk_p (i := .dup) (len := 1) (pc' := 177) mJ_135 (by decide +kernel) (ns_dup rfl) rfl ?_
  refine nk_getI (y := (0, 0)) (x := 625) (len := 3) (ci := 13) (k := 39) (pc' := 180) ja_okT mJ_135 (by decide +kernel) (by decide +kernel) (by decide +kernel) t_l0 rfl ?_
  refine nk_p (i := .iconst 2) (len := 1) (pc' := 181) mJ_135 (by decide +kernel) (ns_iconst (c := 2) (by decide +kernel)) rfl ?_
  refine nk_p (i := .ior) (len := 1) (pc' := 182) mJ_135 (by decide +kernel) ns_ior rfl ?_
  obtain ⟨S1, h2, hr⟩ := nk_lte hr
  refine nk_putI (y := (0, 0)) (ty := .int) (x := 625) (len := 3) (ci := 13) (k := 39) (pc' := 185) ja_okT mJ_135 (by decide +kernel) (by decide +kernel) (by decide +kernel) t_l0 (Or.inl rfl) rfl h2 ?_
  exact ja_X13_index_b185_ok zs _ _ _ _ _ _ _ t_l0 t_l1 hr
noncomputable def ja_X13_index_b159 (l0 : Nat) (l1 : Nat) (l2 : Int) (l3 : Int) (l6 : Int) (s0 : Int) (S : nk_S) : Option (Int × nk_S) :=
  if 0 ≤ l3 ∧ l3 < 24 then
  if (S.1 (ja_c l0 27) l3.toNat) < 0 then
    ja_X13_index_b175 l0 l1 l2 l3 l6 S
  else
    if s0 = 0 then
      ja_X13_index_b175 l0 l1 l2 l3 l6 S
    else
      ja_X13_index_b185 l0 l1 l2 l3 l6 S
  else none
theorem ja_X13_index_b159_ok (zs : List Int32) : ∀ (l0 : Nat) (l1 : Nat) (l2 : Int) (l3 : Int) (l6 : Int) (s0 : Int) (S : nk_S) (R : Int × nk_S), nk_cl ja_Tt l0 = some 13 → nk_cl ja_Tt l1 = some 12 → ja_X13_index_b159 l0 l1 l2 l3 l6 s0 S = some R → nk_K ja_Tt mi_Γ (mi_ev zs) 1 135 159 [(0, nk_r l0), (1, nk_r l1), (2, nk_i l2), (3, nk_i l3), (6, nk_l l6)] [nk_i s0] S R := by
  intro l0 l1 l2 l3 l6 s0 S R t_l0 t_l1 hr
  unfold ja_X13_index_b159 at hr
  refine nk_p (i := .istore 8) (len := 2) (pc' := 161) mJ_135 (by decide +kernel) (ns_istore (L' := [(8, nk_i s0), (0, nk_r l0), (1, nk_r l1), (2, nk_i l2), (3, nk_i l3), (6, nk_l l6)]) rfl rfl (by decide +kernel)) rfl ?_
  refine nk_p (i := .aload_n 0) (len := 1) (pc' := 162) mJ_135 (by decide +kernel) (ns_aload_n 1 rfl rfl) rfl ?_
  refine nk_getC (f := (4, 1, 24)) (x := 74) (len := 3) (ci := 13) (k := 27) (pc' := 165) ja_okT mJ_135 (by decide +kernel) (by decide +kernel) (by decide +kernel) (by decide) t_l0 rfl ?_
  have t1 : nk_ar ja_Tt (ja_c l0 27) = some (1, 24) := nk_ta ja_okT t_l0 (by decide +kernel)
  refine nk_p (i := .iload_n 3) (len := 1) (pc' := 166) mJ_135 (by decide +kernel) (ns_iload_n 4 rfl rfl) rfl ?_
  obtain ⟨h2, hr⟩ := nk_cke hr
  refine nk_iald (len := 1) (N := 24) (pc' := 167) mJ_135 (by decide +kernel) t1 h2.1 h2.2 rfl rfl ?_
  refine nk_icond (c := .lt) (off := 8) (len := 3) (t := 175) (pc' := 170) mJ_135 (by decide +kernel) (by decide +kernel) rfl (fun hc => ?_) (fun hc => ?_)
  · have hr := nk_ifp (c := (S.1 (ja_c l0 27) l3.toNat) < 0) hc hr
    refine nk_sub [1, 2, 3, 4, 5] (L' := [(0, nk_r l0), (1, nk_r l1), (2, nk_i l2), (3, nk_i l3), (6, nk_l l6)]) rfl ?_
    exact ja_X13_index_b175_ok zs _ _ _ _ _ _ _ t_l0 t_l1 hr
  · have hr := nk_ifn (c := (S.1 (ja_c l0 27) l3.toNat) < 0) hc hr
    refine nk_p (i := .iload 8) (len := 2) (pc' := 172) mJ_135 (by decide +kernel) (ns_iload 0 rfl) rfl ?_
    refine nk_icond (c := .ne) (off := 13) (len := 3) (t := 185) (pc' := 175) mJ_135 (by decide +kernel) (by decide +kernel) rfl (fun hc => ?_) (fun hc => ?_)
    · have hr := nk_ifn (c := s0 = 0) hc hr
      refine nk_sub [1, 2, 3, 4, 5] (L' := [(0, nk_r l0), (1, nk_r l1), (2, nk_i l2), (3, nk_i l3), (6, nk_l l6)]) rfl ?_
      exact ja_X13_index_b185_ok zs _ _ _ _ _ _ _ t_l0 t_l1 hr
    · have hr := nk_ifp (c := s0 = 0) (Decidable.of_not_not hc) hr
      refine nk_sub [1, 2, 3, 4, 5] (L' := [(0, nk_r l0), (1, nk_r l1), (2, nk_i l2), (3, nk_i l3), (6, nk_l l6)]) rfl ?_
      exact ja_X13_index_b175_ok zs _ _ _ _ _ _ _ t_l0 t_l1 hr
noncomputable def ja_X13_index_b154 (l0 : Nat) (l1 : Nat) (l2 : Int) (l3 : Int) (l6 : Int) (S : nk_S) : Option (Int × nk_S) :=
  ja_X13_index_b159 l0 l1 l2 l3 l6 1 S
theorem ja_X13_index_b154_ok (zs : List Int32) : ∀ (l0 : Nat) (l1 : Nat) (l2 : Int) (l3 : Int) (l6 : Int) (S : nk_S) (R : Int × nk_S), nk_cl ja_Tt l0 = some 13 → nk_cl ja_Tt l1 = some 12 → ja_X13_index_b154 l0 l1 l2 l3 l6 S = some R → nk_K ja_Tt mi_Γ (mi_ev zs) 1 135 154 [(0, nk_r l0), (1, nk_r l1), (2, nk_i l2), (3, nk_i l3), (6, nk_l l6)] [] S R := by
  intro l0 l1 l2 l3 l6 S R t_l0 t_l1 hr
  unfold ja_X13_index_b154 at hr
  refine nk_p (i := .iconst 1) (len := 1) (pc' := 155) mJ_135 (by decide +kernel) (ns_iconst (c := 1) (by decide +kernel)) rfl ?_
  refine nk_p (i := .goto 4) (len := 3) (pc' := 159) mJ_135 (by decide +kernel) (ns_goto (by decide +kernel)) rfl ?_
  exact ja_X13_index_b159_ok zs _ _ _ _ _ _ _ _ t_l0 t_l1 hr
noncomputable def ja_X13_index_b125 (l0 : Nat) (l1 : Nat) (l2 : Int) (l3 : Int) (l4 : Int) (l6 : Int) (S : nk_S) : Option (Int × nk_S) :=
  if 0 ≤ l3 ∧ l3 < 24 then
  if 0 ≤ l2 ∧ l2 < 24 then
  if (nk_iand (S.1 (ja_c l0 31) l3.toNat) (S.1 (ja_c l0 34) l2.toNat)) = 0 then
    if l4 ≤ (S.1 (ja_c l0 28) l3.toNat) then
      ja_X13_index_b159 l0 l1 l2 l3 l6 0 S
    else
      ja_X13_index_b154 l0 l1 l2 l3 l6 S
  else
    ja_X13_index_b154 l0 l1 l2 l3 l6 S
  else none
  else none
theorem ja_X13_index_b125_ok (zs : List Int32) : ∀ (l0 : Nat) (l1 : Nat) (l2 : Int) (l3 : Int) (l4 : Int) (l6 : Int) (S : nk_S) (R : Int × nk_S), nk_cl ja_Tt l0 = some 13 → nk_cl ja_Tt l1 = some 12 → ja_X13_index_b125 l0 l1 l2 l3 l4 l6 S = some R → nk_K ja_Tt mi_Γ (mi_ev zs) 1 135 125 [(0, nk_r l0), (1, nk_r l1), (2, nk_i l2), (3, nk_i l3), (4, nk_l l4), (6, nk_l l6)] [] S R := by
  intro l0 l1 l2 l3 l4 l6 S R t_l0 t_l1 hr
  unfold ja_X13_index_b125 at hr
  refine nk_p (i := .aload_n 0) (len := 1) (pc' := 126) mJ_135 (by decide +kernel) (ns_aload_n 0 rfl rfl) rfl ?_
  refine nk_getC (f := (4, 1, 24)) (x := 87) (len := 3) (ci := 13) (k := 31) (pc' := 129) ja_okT mJ_135 (by decide +kernel) (by decide +kernel) (by decide +kernel) (by decide) t_l0 rfl ?_
  have t1 : nk_ar ja_Tt (ja_c l0 31) = some (1, 24) := nk_ta ja_okT t_l0 (by decide +kernel)
  refine nk_p (i := .iload_n 3) (len := 1) (pc' := 130) mJ_135 (by decide +kernel) (ns_iload_n 3 rfl rfl) rfl ?_
  obtain ⟨h2, hr⟩ := nk_cke hr
  refine nk_iald (len := 1) (N := 24) (pc' := 131) mJ_135 (by decide +kernel) t1 h2.1 h2.2 rfl rfl ?_
  refine nk_p (i := .aload_n 0) (len := 1) (pc' := 132) mJ_135 (by decide +kernel) (ns_aload_n 0 rfl rfl) rfl ?_
  refine nk_getC (f := (4, 1, 24)) (x := 96) (len := 3) (ci := 13) (k := 34) (pc' := 135) ja_okT mJ_135 (by decide +kernel) (by decide +kernel) (by decide +kernel) (by decide) t_l0 rfl ?_
  have t3 : nk_ar ja_Tt (ja_c l0 34) = some (1, 24) := nk_ta ja_okT t_l0 (by decide +kernel)
  refine nk_p (i := .iload_n 2) (len := 1) (pc' := 136) mJ_135 (by decide +kernel) (ns_iload_n 2 rfl rfl) rfl ?_
  obtain ⟨h4, hr⟩ := nk_cke hr
  refine nk_iald (len := 1) (N := 24) (pc' := 137) mJ_135 (by decide +kernel) t3 h4.1 h4.2 rfl rfl ?_
  refine nk_p (i := .iand) (len := 1) (pc' := 138) mJ_135 (by decide +kernel) ns_iand rfl ?_
  refine nk_icond (c := .ne) (off := 16) (len := 3) (t := 154) (pc' := 141) mJ_135 (by decide +kernel) (by decide +kernel) rfl (fun hc => ?_) (fun hc => ?_)
  · have hr := nk_ifn (c := (nk_iand (S.1 (ja_c l0 31) l3.toNat) (S.1 (ja_c l0 34) l2.toNat)) = 0) hc hr
    refine nk_sub [0, 1, 2, 3, 5] (L' := [(0, nk_r l0), (1, nk_r l1), (2, nk_i l2), (3, nk_i l3), (6, nk_l l6)]) rfl ?_
    exact ja_X13_index_b154_ok zs _ _ _ _ _ _ _ t_l0 t_l1 hr
  · have hr := nk_ifp (c := (nk_iand (S.1 (ja_c l0 31) l3.toNat) (S.1 (ja_c l0 34) l2.toNat)) = 0) (Decidable.of_not_not hc) hr
    refine nk_p (i := .aload_n 0) (len := 1) (pc' := 142) mJ_135 (by decide +kernel) (ns_aload_n 0 rfl rfl) rfl ?_
    refine nk_getC (f := (4, 1, 24)) (x := 77) (len := 3) (ci := 13) (k := 28) (pc' := 145) ja_okT mJ_135 (by decide +kernel) (by decide +kernel) (by decide +kernel) (by decide) t_l0 rfl ?_
    have t5 : nk_ar ja_Tt (ja_c l0 28) = some (1, 24) := nk_ta ja_okT t_l0 (by decide +kernel)
    refine nk_p (i := .iload_n 3) (len := 1) (pc' := 146) mJ_135 (by decide +kernel) (ns_iload_n 3 rfl rfl) rfl ?_
    refine nk_iald (len := 1) (N := 24) (pc' := 147) mJ_135 (by decide +kernel) t5 h2.1 h2.2 rfl rfl ?_
    refine nk_p (i := .i2l) (len := 1) (pc' := 148) mJ_135 (by decide +kernel) ns_i2l rfl ?_
    refine nk_p (i := .lload 4) (len := 2) (pc' := 150) mJ_135 (by decide +kernel) (ns_lload 4 rfl) rfl ?_
    refine nk_p (i := .lcmp) (len := 1) (pc' := 151) mJ_135 (by decide +kernel) ns_lcmp rfl ?_
    refine nk_lcond (c := .ge) (off := 7) (len := 3) (t := 158) (pc' := 154) mJ_135 (by decide +kernel) (by decide +kernel) rfl (fun hc => ?_) (fun hc => ?_)
    · have hr := nk_ifp (c := l4 ≤ (S.1 (ja_c l0 28) l3.toNat)) hc hr
      refine nk_p (i := .iconst 0) (len := 1) (pc' := 159) mJ_135 (by decide +kernel) (ns_iconst (c := 0) (by decide +kernel)) rfl ?_
      refine nk_sub [0, 1, 2, 3, 5] (L' := [(0, nk_r l0), (1, nk_r l1), (2, nk_i l2), (3, nk_i l3), (6, nk_l l6)]) rfl ?_
      exact ja_X13_index_b159_ok zs _ _ _ _ _ _ _ _ t_l0 t_l1 hr
    · have hr := nk_ifn (c := l4 ≤ (S.1 (ja_c l0 28) l3.toNat)) hc hr
      refine nk_sub [0, 1, 2, 3, 5] (L' := [(0, nk_r l0), (1, nk_r l1), (2, nk_i l2), (3, nk_i l3), (6, nk_l l6)]) rfl ?_
      exact ja_X13_index_b154_ok zs _ _ _ _ _ _ _ t_l0 t_l1 hr
noncomputable def ja_X13_index_b11 (rec11 : Nat → Nat → Int → Int → Int → Int → Int → nk_S → Option (Int × nk_S)) (l0 : Nat) (l1 : Nat) (l2 : Int) (l3 : Int) (l4 : Int) (l6 : Int) (l8 : Int) (S : nk_S) : Option (Int × nk_S) :=
  if (S.1 l1 4) ≤ l8 then
    if 0 ≤ l2 ∧ l2 < 24 then
    if (S.1 (ja_c l0 30) l2.toNat) < 0 then
      ja_X13_index_b125 l0 l1 l2 l3 l4 l6 S
    else
      if 0 ≤ l3 ∧ l3 < 24 then
      if (nk_iand (nk_ishr (S.1 (ja_c l0 32) l3.toNat) (S.1 (ja_c l0 30) l2.toNat)) 1) = 1 then
        ja_X13_index_b154 l0 l1 l2 l3 l6 S
      else
        ja_X13_index_b125 l0 l1 l2 l3 l4 l6 S
      else none
    else none
  else
    if 0 ≤ l2 ∧ l2 < 24 then
    if (nk_land (nk_lshr (S.1 (ja_c l0 29) l2.toNat) l8) 1) = 0 then
      nk_lt (nk_w (l8 + 1)) fun v7 =>
      rec11 l0 l1 l2 l3 l4 l6 v7 S
    else
      if 0 ≤ (nk_w (2646 + l8)) ∧ (nk_w (2646 + l8)) < 3324 then
      if (S.1 (ja_c l1 46) (nk_w (2646 + l8)).toNat) = 0 then
        nk_lt (nk_w (l8 + 1)) fun v21 =>
        rec11 l0 l1 l2 l3 l4 l6 v21 S
      else
        nk_bd (ja_J9_min_f86c9 l4 (S.1 (ja_c l1 47) (nk_w (2646 + l8)).toNat) S) fun r12 S13 =>
        nk_bd (ja_J9_max_f86c9 l6 (S13.1 (ja_c l1 48) (nk_w (2646 + l8)).toNat) S13) fun r16 S17 =>
        nk_lt (nk_w (l8 + 1)) fun v19 =>
        rec11 l0 l1 l2 l3 r12 r16 v19 S17
      else none
    else none
theorem ja_X13_index_b11_ok (zs : List Int32) {rec11 : Nat → Nat → Int → Int → Int → Int → Int → nk_S → Option (Int × nk_S)} (hrec11 : ∀ (l0 : Nat) (l1 : Nat) (l2 : Int) (l3 : Int) (l4 : Int) (l6 : Int) (l8 : Int) (S : nk_S) (R : Int × nk_S), nk_cl ja_Tt l0 = some 13 → nk_cl ja_Tt l1 = some 12 → rec11 l0 l1 l2 l3 l4 l6 l8 S = some R → nk_K ja_Tt mi_Γ (mi_ev zs) 1 135 11 [(0, nk_r l0), (1, nk_r l1), (2, nk_i l2), (3, nk_i l3), (4, nk_l l4), (6, nk_l l6), (8, nk_i l8)] [] S R) : ∀ (l0 : Nat) (l1 : Nat) (l2 : Int) (l3 : Int) (l4 : Int) (l6 : Int) (l8 : Int) (S : nk_S) (R : Int × nk_S), nk_cl ja_Tt l0 = some 13 → nk_cl ja_Tt l1 = some 12 → ja_X13_index_b11 rec11 l0 l1 l2 l3 l4 l6 l8 S = some R → nk_K ja_Tt mi_Γ (mi_ev zs) 1 135 11 [(0, nk_r l0), (1, nk_r l1), (2, nk_i l2), (3, nk_i l3), (4, nk_l l4), (6, nk_l l6), (8, nk_i l8)] [] S R := by
  intro l0 l1 l2 l3 l4 l6 l8 S R t_l0 t_l1 hr
  unfold ja_X13_index_b11 at hr
  refine nk_p (i := .iload 8) (len := 2) (pc' := 13) mJ_135 (by decide +kernel) (ns_iload 6 rfl) rfl ?_
  refine nk_p (i := .aload_n 1) (len := 1) (pc' := 14) mJ_135 (by decide +kernel) (ns_aload_n 1 rfl rfl) rfl ?_
  refine nk_getI (y := (0, 0)) (x := 356) (len := 3) (ci := 12) (k := 4) (pc' := 17) ja_okT mJ_135 (by decide +kernel) (by decide +kernel) (by decide +kernel) t_l1 rfl ?_
  refine nk_icmp (c := .ge) (off := 80) (len := 3) (t := 97) (pc' := 20) mJ_135 (by decide +kernel) (by decide +kernel) rfl (fun hc => ?_) (fun hc => ?_)
  · have hr := nk_ifp (c := (S.1 l1 4) ≤ l8) hc hr
    refine nk_p (i := .aload_n 0) (len := 1) (pc' := 98) mJ_135 (by decide +kernel) (ns_aload_n 0 rfl rfl) rfl ?_
    refine nk_getC (f := (4, 1, 24)) (x := 84) (len := 3) (ci := 13) (k := 30) (pc' := 101) ja_okT mJ_135 (by decide +kernel) (by decide +kernel) (by decide +kernel) (by decide) t_l0 rfl ?_
    have t1 : nk_ar ja_Tt (ja_c l0 30) = some (1, 24) := nk_ta ja_okT t_l0 (by decide +kernel)
    refine nk_p (i := .iload_n 2) (len := 1) (pc' := 102) mJ_135 (by decide +kernel) (ns_iload_n 2 rfl rfl) rfl ?_
    obtain ⟨h2, hr⟩ := nk_cke hr
    refine nk_iald (len := 1) (N := 24) (pc' := 103) mJ_135 (by decide +kernel) t1 h2.1 h2.2 rfl rfl ?_
    refine nk_icond (c := .lt) (off := 22) (len := 3) (t := 125) (pc' := 106) mJ_135 (by decide +kernel) (by decide +kernel) rfl (fun hc => ?_) (fun hc => ?_)
    · have hr := nk_ifp (c := (S.1 (ja_c l0 30) l2.toNat) < 0) hc hr
      refine nk_sub [0, 1, 2, 3, 4, 5] (L' := [(0, nk_r l0), (1, nk_r l1), (2, nk_i l2), (3, nk_i l3), (4, nk_l l4), (6, nk_l l6)]) rfl ?_
      exact ja_X13_index_b125_ok zs _ _ _ _ _ _ _ _ t_l0 t_l1 hr
    · have hr := nk_ifn (c := (S.1 (ja_c l0 30) l2.toNat) < 0) hc hr
      refine nk_p (i := .aload_n 0) (len := 1) (pc' := 107) mJ_135 (by decide +kernel) (ns_aload_n 0 rfl rfl) rfl ?_
      refine nk_getC (f := (4, 1, 24)) (x := 90) (len := 3) (ci := 13) (k := 32) (pc' := 110) ja_okT mJ_135 (by decide +kernel) (by decide +kernel) (by decide +kernel) (by decide) t_l0 rfl ?_
      have t3 : nk_ar ja_Tt (ja_c l0 32) = some (1, 24) := nk_ta ja_okT t_l0 (by decide +kernel)
      refine nk_p (i := .iload_n 3) (len := 1) (pc' := 111) mJ_135 (by decide +kernel) (ns_iload_n 3 rfl rfl) rfl ?_
      obtain ⟨h4, hr⟩ := nk_cke hr
      refine nk_iald (len := 1) (N := 24) (pc' := 112) mJ_135 (by decide +kernel) t3 h4.1 h4.2 rfl rfl ?_
      refine nk_p (i := .aload_n 0) (len := 1) (pc' := 113) mJ_135 (by decide +kernel) (ns_aload_n 0 rfl rfl) rfl ?_
      refine nk_getC (f := (4, 1, 24)) (x := 84) (len := 3) (ci := 13) (k := 30) (pc' := 116) ja_okT mJ_135 (by decide +kernel) (by decide +kernel) (by decide +kernel) (by decide) t_l0 rfl ?_
      refine nk_p (i := .iload_n 2) (len := 1) (pc' := 117) mJ_135 (by decide +kernel) (ns_iload_n 2 rfl rfl) rfl ?_
      refine nk_iald (len := 1) (N := 24) (pc' := 118) mJ_135 (by decide +kernel) t1 h2.1 h2.2 rfl rfl ?_
      refine nk_p (i := .ishr) (len := 1) (pc' := 119) mJ_135 (by decide +kernel) ns_ishr rfl ?_
      refine nk_p (i := .iconst 1) (len := 1) (pc' := 120) mJ_135 (by decide +kernel) (ns_iconst (c := 1) (by decide +kernel)) rfl ?_
      refine nk_p (i := .iand) (len := 1) (pc' := 121) mJ_135 (by decide +kernel) ns_iand rfl ?_
      refine nk_p (i := .iconst 1) (len := 1) (pc' := 122) mJ_135 (by decide +kernel) (ns_iconst (c := 1) (by decide +kernel)) rfl ?_
      refine nk_icmp (c := .eq) (off := 32) (len := 3) (t := 154) (pc' := 125) mJ_135 (by decide +kernel) (by decide +kernel) rfl (fun hc => ?_) (fun hc => ?_)
      · have hr := nk_ifp (c := (nk_iand (nk_ishr (S.1 (ja_c l0 32) l3.toNat) (S.1 (ja_c l0 30) l2.toNat)) 1) = 1) hc hr
        refine nk_sub [0, 1, 2, 3, 5] (L' := [(0, nk_r l0), (1, nk_r l1), (2, nk_i l2), (3, nk_i l3), (6, nk_l l6)]) rfl ?_
        exact ja_X13_index_b154_ok zs _ _ _ _ _ _ _ t_l0 t_l1 hr
      · have hr := nk_ifn (c := (nk_iand (nk_ishr (S.1 (ja_c l0 32) l3.toNat) (S.1 (ja_c l0 30) l2.toNat)) 1) = 1) hc hr
        refine nk_sub [0, 1, 2, 3, 4, 5] (L' := [(0, nk_r l0), (1, nk_r l1), (2, nk_i l2), (3, nk_i l3), (4, nk_l l4), (6, nk_l l6)]) rfl ?_
        exact ja_X13_index_b125_ok zs _ _ _ _ _ _ _ _ t_l0 t_l1 hr
  · have hr := nk_ifn (c := (S.1 l1 4) ≤ l8) hc hr
    refine nk_p (i := .aload_n 0) (len := 1) (pc' := 21) mJ_135 (by decide +kernel) (ns_aload_n 0 rfl rfl) rfl ?_
    refine nk_getC (f := (4, 2, 24)) (x := 80) (len := 3) (ci := 13) (k := 29) (pc' := 24) ja_okT mJ_135 (by decide +kernel) (by decide +kernel) (by decide +kernel) (by decide) t_l0 rfl ?_
    have t5 : nk_ar ja_Tt (ja_c l0 29) = some (2, 24) := nk_ta ja_okT t_l0 (by decide +kernel)
    refine nk_p (i := .iload_n 2) (len := 1) (pc' := 25) mJ_135 (by decide +kernel) (ns_iload_n 2 rfl rfl) rfl ?_
    obtain ⟨h6, hr⟩ := nk_cke hr
    refine nk_lald (len := 1) (N := 24) (pc' := 26) mJ_135 (by decide +kernel) t5 h6.1 h6.2 rfl rfl ?_
    refine nk_p (i := .iload 8) (len := 2) (pc' := 28) mJ_135 (by decide +kernel) (ns_iload 6 rfl) rfl ?_
    refine nk_p (i := .lshr) (len := 1) (pc' := 29) mJ_135 (by decide +kernel) ns_lshr rfl ?_
    refine nk_p (i := .lconst 1) (len := 1) (pc' := 30) mJ_135 (by decide +kernel) (ns_lconst (c := 1) (by decide +kernel)) rfl ?_
    refine nk_p (i := .land) (len := 1) (pc' := 31) mJ_135 (by decide +kernel) ns_land rfl ?_
    refine nk_p (i := .lconst 0) (len := 1) (pc' := 32) mJ_135 (by decide +kernel) (ns_lconst (c := 0) (by decide +kernel)) rfl ?_
    refine nk_p (i := .lcmp) (len := 1) (pc' := 33) mJ_135 (by decide +kernel) ns_lcmp rfl ?_
    refine nk_lcond (c := .eq) (off := 58) (len := 3) (t := 91) (pc' := 36) mJ_135 (by decide +kernel) (by decide +kernel) rfl (fun hc => ?_) (fun hc => ?_)
    · have hr := nk_ifp (c := (nk_land (nk_lshr (S.1 (ja_c l0 29) l2.toNat) l8) 1) = 0) hc hr
      obtain ⟨v7, h8, hr⟩ := nk_lte hr
      refine nk_p (i := .iinc 8 1) (len := 3) (pc' := 94) mJ_135 (by decide +kernel) (ns_iinc (c := 1) (L' := [(8, nk_i v7), (0, nk_r l0), (1, nk_r l1), (2, nk_i l2), (3, nk_i l3), (4, nk_l l4), (6, nk_l l6)]) 6 rfl (by decide +kernel) h8 rfl (by decide +kernel)) rfl ?_
      refine nk_p (i := .goto (-83)) (len := 3) (pc' := 11) mJ_135 (by decide +kernel) (ns_goto (by decide +kernel)) rfl ?_
      refine nk_sub [1, 2, 3, 4, 5, 6, 0] (L' := [(0, nk_r l0), (1, nk_r l1), (2, nk_i l2), (3, nk_i l3), (4, nk_l l4), (6, nk_l l6), (8, nk_i v7)]) rfl ?_
      exact hrec11 _ _ _ _ _ _ _ _ _ t_l0 t_l1 hr
    · have hr := nk_ifn (c := (nk_land (nk_lshr (S.1 (ja_c l0 29) l2.toNat) l8) 1) = 0) hc hr
      refine nk_p (i := .aload_n 1) (len := 1) (pc' := 37) mJ_135 (by decide +kernel) (ns_aload_n 1 rfl rfl) rfl ?_
      refine nk_getC (f := (4, 0, 3324)) (x := 576) (len := 3) (ci := 12) (k := 46) (pc' := 40) ja_okT mJ_135 (by decide +kernel) (by decide +kernel) (by decide +kernel) (by decide) t_l1 rfl ?_
      have t9 : nk_ar ja_Tt (ja_c l1 46) = some (0, 3324) := nk_ta ja_okT t_l1 (by decide +kernel)
      refine nk_p (i := .sipush 2646) (len := 3) (pc' := 43) mJ_135 (by decide +kernel) (ns_sipush (c := 2646) (by decide +kernel)) rfl ?_
      refine nk_p (i := .iload 8) (len := 2) (pc' := 45) mJ_135 (by decide +kernel) (ns_iload 6 rfl) rfl ?_
      refine nk_p (i := .iadd) (len := 1) (pc' := 46) mJ_135 (by decide +kernel) ns_iadd rfl ?_
      obtain ⟨h10, hr⟩ := nk_cke hr
      refine nk_bald (t := 0) (len := 1) (N := 3324) (pc' := 47) mJ_135 (by decide +kernel) t9 (by decide) h10.1 h10.2 rfl rfl ?_
      refine nk_icond (c := .ne) (off := 6) (len := 3) (t := 53) (pc' := 50) mJ_135 (by decide +kernel) (by decide +kernel) rfl (fun hc => ?_) (fun hc => ?_)
      · have hr := nk_ifn (c := (S.1 (ja_c l1 46) (nk_w (2646 + l8)).toNat) = 0) hc hr
        refine nk_p (i := .lload 4) (len := 2) (pc' := 55) mJ_135 (by decide +kernel) (ns_lload 4 rfl) rfl ?_
        refine nk_p (i := .aload_n 1) (len := 1) (pc' := 56) mJ_135 (by decide +kernel) (ns_aload_n 1 rfl rfl) rfl ?_
        refine nk_getC (f := (4, 1, 3324)) (x := 579) (len := 3) (ci := 12) (k := 47) (pc' := 59) ja_okT mJ_135 (by decide +kernel) (by decide +kernel) (by decide +kernel) (by decide) t_l1 rfl ?_
        have t11 : nk_ar ja_Tt (ja_c l1 47) = some (1, 3324) := nk_ta ja_okT t_l1 (by decide +kernel)
        refine nk_p (i := .sipush 2646) (len := 3) (pc' := 62) mJ_135 (by decide +kernel) (ns_sipush (c := 2646) (by decide +kernel)) rfl ?_
        refine nk_p (i := .iload 8) (len := 2) (pc' := 64) mJ_135 (by decide +kernel) (ns_iload 6 rfl) rfl ?_
        refine nk_p (i := .iadd) (len := 1) (pc' := 65) mJ_135 (by decide +kernel) ns_iadd rfl ?_
        refine nk_iald (len := 1) (N := 3324) (pc' := 66) mJ_135 (by decide +kernel) t11 h10.1 h10.2 rfl rfl ?_
        refine nk_p (i := .i2l) (len := 1) (pc' := 67) mJ_135 (by decide +kernel) ns_i2l rfl ?_
        obtain ⟨r12, S13, h14, hr⟩ := nk_bde hr
        refine nk_callS (ci := 0) (n := 2) (x := 676) (len := 3) (j' := 19) (q' := 2) (r := r12) (S' := S13) (L2 := [(0, nk_l l4), (2, nk_l (S.1 (ja_c l1 47) (nk_w (2646 + l8)).toNat))]) (rest := []) (st' := [nk_l r12]) (pc' := 70) mJ_135 (by decide +kernel) (by decide +kernel) (Nat.le_of_ble_eq_true rfl) rfl rfl (Nat.le_of_ble_eq_true rfl) mJ_19 (Nat.le_of_ble_eq_true rfl) ja_Tpos rfl (ja_J9_min_f86c9_ok zs _ _ _ _ h14) rfl ?_
        refine nk_p (i := .lstore 4) (len := 2) (pc' := 72) mJ_135 (by decide +kernel) (ns_lstore (L' := [(4, nk_l r12), (0, nk_r l0), (1, nk_r l1), (2, nk_i l2), (3, nk_i l3), (6, nk_l l6), (8, nk_i l8)]) rfl rfl (by decide +kernel)) rfl ?_
        refine nk_p (i := .lload 6) (len := 2) (pc' := 74) mJ_135 (by decide +kernel) (ns_lload 5 rfl) rfl ?_
        refine nk_p (i := .aload_n 1) (len := 1) (pc' := 75) mJ_135 (by decide +kernel) (ns_aload_n 2 rfl rfl) rfl ?_
        refine nk_getC (f := (4, 1, 3324)) (x := 582) (len := 3) (ci := 12) (k := 48) (pc' := 78) ja_okT mJ_135 (by decide +kernel) (by decide +kernel) (by decide +kernel) (by decide) t_l1 rfl ?_
        have t15 : nk_ar ja_Tt (ja_c l1 48) = some (1, 3324) := nk_ta ja_okT t_l1 (by decide +kernel)
        refine nk_p (i := .sipush 2646) (len := 3) (pc' := 81) mJ_135 (by decide +kernel) (ns_sipush (c := 2646) (by decide +kernel)) rfl ?_
        refine nk_p (i := .iload 8) (len := 2) (pc' := 83) mJ_135 (by decide +kernel) (ns_iload 6 rfl) rfl ?_
        refine nk_p (i := .iadd) (len := 1) (pc' := 84) mJ_135 (by decide +kernel) ns_iadd rfl ?_
        refine nk_iald (len := 1) (N := 3324) (pc' := 85) mJ_135 (by decide +kernel) t15 h10.1 h10.2 rfl rfl ?_
        refine nk_p (i := .i2l) (len := 1) (pc' := 86) mJ_135 (by decide +kernel) ns_i2l rfl ?_
        obtain ⟨r16, S17, h18, hr⟩ := nk_bde hr
        refine nk_callS (ci := 0) (n := 2) (x := 679) (len := 3) (j' := 17) (q' := 2) (r := r16) (S' := S17) (L2 := [(0, nk_l l6), (2, nk_l (S13.1 (ja_c l1 48) (nk_w (2646 + l8)).toNat))]) (rest := []) (st' := [nk_l r16]) (pc' := 89) mJ_135 (by decide +kernel) (by decide +kernel) (Nat.le_of_ble_eq_true rfl) rfl rfl (Nat.le_of_ble_eq_true rfl) mJ_17 (Nat.le_of_ble_eq_true rfl) ja_Tpos rfl (ja_J9_max_f86c9_ok zs _ _ _ _ h18) rfl ?_
        refine nk_p (i := .lstore 6) (len := 2) (pc' := 91) mJ_135 (by decide +kernel) (ns_lstore (L' := [(6, nk_l r16), (4, nk_l r12), (0, nk_r l0), (1, nk_r l1), (2, nk_i l2), (3, nk_i l3), (8, nk_i l8)]) rfl rfl (by decide +kernel)) rfl ?_
        obtain ⟨v19, h20, hr⟩ := nk_lte hr
        refine nk_p (i := .iinc 8 1) (len := 3) (pc' := 94) mJ_135 (by decide +kernel) (ns_iinc (c := 1) (L' := [(8, nk_i v19), (6, nk_l r16), (4, nk_l r12), (0, nk_r l0), (1, nk_r l1), (2, nk_i l2), (3, nk_i l3)]) 6 rfl (by decide +kernel) h20 rfl (by decide +kernel)) rfl ?_
        refine nk_p (i := .goto (-83)) (len := 3) (pc' := 11) mJ_135 (by decide +kernel) (ns_goto (by decide +kernel)) rfl ?_
        refine nk_sub [3, 4, 5, 6, 2, 1, 0] (L' := [(0, nk_r l0), (1, nk_r l1), (2, nk_i l2), (3, nk_i l3), (4, nk_l r12), (6, nk_l r16), (8, nk_i v19)]) rfl ?_
        exact hrec11 _ _ _ _ _ _ _ _ _ t_l0 t_l1 hr
      · have hr := nk_ifp (c := (S.1 (ja_c l1 46) (nk_w (2646 + l8)).toNat) = 0) (Decidable.of_not_not hc) hr
        refine nk_p (i := .goto 41) (len := 3) (pc' := 91) mJ_135 (by decide +kernel) (ns_goto (by decide +kernel)) rfl ?_
        obtain ⟨v21, h22, hr⟩ := nk_lte hr
        refine nk_p (i := .iinc 8 1) (len := 3) (pc' := 94) mJ_135 (by decide +kernel) (ns_iinc (c := 1) (L' := [(8, nk_i v21), (0, nk_r l0), (1, nk_r l1), (2, nk_i l2), (3, nk_i l3), (4, nk_l l4), (6, nk_l l6)]) 6 rfl (by decide +kernel) h22 rfl (by decide +kernel)) rfl ?_
        refine nk_p (i := .goto (-83)) (len := 3) (pc' := 11) mJ_135 (by decide +kernel) (ns_goto (by decide +kernel)) rfl ?_
        refine nk_sub [1, 2, 3, 4, 5, 6, 0] (L' := [(0, nk_r l0), (1, nk_r l1), (2, nk_i l2), (3, nk_i l3), (4, nk_l l4), (6, nk_l l6), (8, nk_i v21)]) rfl ?_
        exact hrec11 _ _ _ _ _ _ _ _ _ t_l0 t_l1 hr
noncomputable def ja_X13_index_L11 : Nat → Nat → Nat → Int → Int → Int → Int → Int → nk_S → Option (Int × nk_S)
  | 0, _, _, _, _, _, _, _, _ => none
  | n + 1, l0, l1, l2, l3, l4, l6, l8, S => ja_X13_index_b11 (ja_X13_index_L11 n) l0 l1 l2 l3 l4 l6 l8 S
theorem ja_X13_index_L11_ok (zs : List Int32) : ∀ n : Nat, ∀ (l0 : Nat) (l1 : Nat) (l2 : Int) (l3 : Int) (l4 : Int) (l6 : Int) (l8 : Int) (S : nk_S) (R : Int × nk_S), nk_cl ja_Tt l0 = some 13 → nk_cl ja_Tt l1 = some 12 → ja_X13_index_L11 n l0 l1 l2 l3 l4 l6 l8 S = some R → nk_K ja_Tt mi_Γ (mi_ev zs) 1 135 11 [(0, nk_r l0), (1, nk_r l1), (2, nk_i l2), (3, nk_i l3), (4, nk_l l4), (6, nk_l l6), (8, nk_i l8)] [] S R := by
  intro n
  induction n with
  | zero => intro _ _ _ _ _ _ _ _ _ _ _ hr; cases hr
  | succ n ih => intro l0 l1 l2 l3 l4 l6 l8 S R t_l0 t_l1 hr; exact ja_X13_index_b11_ok zs ih l0 l1 l2 l3 l4 l6 l8 S R t_l0 t_l1 hr
noncomputable def ja_X13_index (l0 : Nat) (l1 : Nat) (l2 : Int) (l3 : Int) (S : nk_S) : Option (Int × nk_S) :=
  ja_X13_index_L11 nk_big l0 l1 l2 l3 9223372036854775807 0 0 S
theorem ja_X13_index_ok (zs : List Int32) : ∀ (l0 : Nat) (l1 : Nat) (l2 : Int) (l3 : Int) (S : nk_S) (R : Int × nk_S), nk_cl ja_Tt l0 = some 13 → nk_cl ja_Tt l1 = some 12 → ja_X13_index l0 l1 l2 l3 S = some R → nk_K ja_Tt mi_Γ (mi_ev zs) 1 135 0 [(0, nk_r l0), (1, nk_r l1), (2, nk_i l2), (3, nk_i l3)] [] S R := by
  intro l0 l1 l2 l3 S R t_l0 t_l1 hr
  unfold ja_X13_index at hr
  refine nk_ldc2 (x := 763) (len := 3) (X := 9223372036854775807) (v := 9223372036854775807) (pc' := 3) mJ_135 (by decide +kernel) (by decide +kernel) (by decide +kernel) rfl ?_
  refine nk_p (i := .lstore 4) (len := 2) (pc' := 5) mJ_135 (by decide +kernel) (ns_lstore (L' := [(4, nk_l 9223372036854775807), (0, nk_r l0), (1, nk_r l1), (2, nk_i l2), (3, nk_i l3)]) rfl rfl (by decide +kernel)) rfl ?_
  refine nk_p (i := .lconst 0) (len := 1) (pc' := 6) mJ_135 (by decide +kernel) (ns_lconst (c := 0) (by decide +kernel)) rfl ?_
  refine nk_p (i := .lstore 6) (len := 2) (pc' := 8) mJ_135 (by decide +kernel) (ns_lstore (L' := [(6, nk_l 0), (4, nk_l 9223372036854775807), (0, nk_r l0), (1, nk_r l1), (2, nk_i l2), (3, nk_i l3)]) rfl rfl (by decide +kernel)) rfl ?_
  refine nk_p (i := .iconst 0) (len := 1) (pc' := 9) mJ_135 (by decide +kernel) (ns_iconst (c := 0) (by decide +kernel)) rfl ?_
  refine nk_p (i := .istore 8) (len := 2) (pc' := 11) mJ_135 (by decide +kernel) (ns_istore (L' := [(8, nk_i 0), (6, nk_l 0), (4, nk_l 9223372036854775807), (0, nk_r l0), (1, nk_r l1), (2, nk_i l2), (3, nk_i l3)]) rfl rfl (by decide +kernel)) rfl ?_
  refine nk_sub [3, 4, 5, 6, 2, 1, 0] (L' := [(0, nk_r l0), (1, nk_r l1), (2, nk_i l2), (3, nk_i l3), (4, nk_l 9223372036854775807), (6, nk_l 0), (8, nk_i 0)]) rfl ?_
  exact ja_X13_index_L11_ok zs nk_big _ _ _ _ _ _ _ _ _ t_l0 t_l1 hr
/-! SafeCodeModel elementOf (I)I -/
noncomputable def ja_X13_elementOf (l0 : Int) (S : nk_S) : Option (Int × nk_S) :=
  if l0 = 40 then
    some (0, S)
  else
    if l0 < 48 then
      some (2, S)
    else
      some ((nk_w ((nk_w (l0 - 48)) + 8)), S)
theorem ja_X13_elementOf_ok (zs : List Int32) : ∀ (l0 : Int) (S : nk_S) (R : Int × nk_S), ja_X13_elementOf l0 S = some R → nk_K ja_Tt mi_Γ (mi_ev zs) 1 108 0 [(0, nk_i l0)] [] S R := by
  intro l0 S R hr
  unfold ja_X13_elementOf at hr
  refine nk_p (i := .iload_n 0) (len := 1) (pc' := 1) mJ_108 (by decide +kernel) (ns_iload_n 0 rfl rfl) rfl ?_
  refine nk_p (i := .bipush 40) (len := 2) (pc' := 3) mJ_108 (by decide +kernel) (ns_bipush (c := 40) (by decide +kernel)) rfl ?_
  refine nk_icmp (c := .ne) (off := 7) (len := 3) (t := 10) (pc' := 6) mJ_108 (by decide +kernel) (by decide +kernel) rfl (fun hc => ?_) (fun hc => ?_)
  · have hr := nk_ifn (c := l0 = 40) hc hr
    refine nk_p (i := .iload_n 0) (len := 1) (pc' := 11) mJ_108 (by decide +kernel) (ns_iload_n 0 rfl rfl) rfl ?_
    refine nk_p (i := .bipush 48) (len := 2) (pc' := 13) mJ_108 (by decide +kernel) (ns_bipush (c := 48) (by decide +kernel)) rfl ?_
    refine nk_icmp (c := .lt) (off := 13) (len := 3) (t := 26) (pc' := 16) mJ_108 (by decide +kernel) (by decide +kernel) rfl (fun hc => ?_) (fun hc => ?_)
    · have hr := nk_ifp (c := l0 < 48) hc hr
      refine nk_p (i := .iconst 2) (len := 1) (pc' := 27) mJ_108 (by decide +kernel) (ns_iconst (c := 2) (by decide +kernel)) rfl ?_
      cases hr
      exact nk_iret (ty := .int) (len := 1) mJ_108 (by decide +kernel) rfl (nk_nar_i _)
    · have hr := nk_ifn (c := l0 < 48) hc hr
      refine nk_p (i := .iload_n 0) (len := 1) (pc' := 17) mJ_108 (by decide +kernel) (ns_iload_n 0 rfl rfl) rfl ?_
      refine nk_p (i := .bipush 48) (len := 2) (pc' := 19) mJ_108 (by decide +kernel) (ns_bipush (c := 48) (by decide +kernel)) rfl ?_
      refine nk_p (i := .isub) (len := 1) (pc' := 20) mJ_108 (by decide +kernel) ns_isub rfl ?_
      refine nk_p (i := .bipush 8) (len := 2) (pc' := 22) mJ_108 (by decide +kernel) (ns_bipush (c := 8) (by decide +kernel)) rfl ?_
      refine nk_p (i := .iadd) (len := 1) (pc' := 23) mJ_108 (by decide +kernel) ns_iadd rfl ?_
      refine nk_p (i := .goto 4) (len := 3) (pc' := 27) mJ_108 (by decide +kernel) (ns_goto (by decide +kernel)) rfl ?_
      cases hr
      exact nk_iret (ty := .int) (len := 1) mJ_108 (by decide +kernel) rfl (nk_nar_i _)
  · have hr := nk_ifp (c := l0 = 40) (Decidable.of_not_not hc) hr
    refine nk_p (i := .iconst 0) (len := 1) (pc' := 7) mJ_108 (by decide +kernel) (ns_iconst (c := 0) (by decide +kernel)) rfl ?_
    refine nk_p (i := .goto 20) (len := 3) (pc' := 27) mJ_108 (by decide +kernel) (ns_goto (by decide +kernel)) rfl ?_
    cases hr
    exact nk_iret (ty := .int) (len := 1) mJ_108 (by decide +kernel) rfl (nk_nar_i _)
/-! SafeCodeModel sitesBelow (LSafeCodeModel$Program;I)J -/
noncomputable def ja_X13_sitesBelow_b28 (rec5 : Nat → Int → Int → Int → nk_S → Option (Int × nk_S)) (l0 : Nat) (l1 : Int) (l2 : Int) (l4 : Int) (S : nk_S) : Option (Int × nk_S) :=
  if 0 ≤ l4 ∧ l4 < 54 then
  nk_bd (ja_X13_isBelow l0 (S.1 (ja_c l0 27) l4.toNat) l1 S) fun r3 S4 =>
  if r3 = 0 then
    nk_lt (nk_w (l4 + 1)) fun v6 =>
    rec5 l0 l1 l2 v6 S4
  else
    nk_lt (nk_lor l2 (nk_lshl 1 l4)) fun v8 =>
    nk_lt (nk_w (l4 + 1)) fun v10 =>
    rec5 l0 l1 v8 v10 S4
  else none
theorem ja_X13_sitesBelow_b28_ok (zs : List Int32) {rec5 : Nat → Int → Int → Int → nk_S → Option (Int × nk_S)} (hrec5 : ∀ (l0 : Nat) (l1 : Int) (l2 : Int) (l4 : Int) (S : nk_S) (R : Int × nk_S), nk_cl ja_Tt l0 = some 12 → rec5 l0 l1 l2 l4 S = some R → nk_K ja_Tt mi_Γ (mi_ev zs) 2 225 5 [(0, nk_r l0), (1, nk_i l1), (2, nk_l l2), (4, nk_i l4)] [] S R) : ∀ (l0 : Nat) (l1 : Int) (l2 : Int) (l4 : Int) (S : nk_S) (R : Int × nk_S), nk_cl ja_Tt l0 = some 12 → ja_X13_sitesBelow_b28 rec5 l0 l1 l2 l4 S = some R → nk_K ja_Tt mi_Γ (mi_ev zs) 2 225 28 [(0, nk_r l0), (1, nk_i l1), (2, nk_l l2), (4, nk_i l4)] [] S R := by
  intro l0 l1 l2 l4 S R t_l0 hr
  unfold ja_X13_sitesBelow_b28 at hr
  refine nk_p (i := .aload_n 0) (len := 1) (pc' := 29) mJ_225 (by decide +kernel) (ns_aload_n 0 rfl rfl) rfl ?_
  refine nk_p (i := .aload_n 0) (len := 1) (pc' := 30) mJ_225 (by decide +kernel) (ns_aload_n 0 rfl rfl) rfl ?_
  refine nk_getC (f := (4, 1, 54)) (x := 432) (len := 3) (ci := 12) (k := 27) (pc' := 33) ja_okT mJ_225 (by decide +kernel) (by decide +kernel) (by decide +kernel) (by decide) t_l0 rfl ?_
  have t1 : nk_ar ja_Tt (ja_c l0 27) = some (1, 54) := nk_ta ja_okT t_l0 (by decide +kernel)
  refine nk_p (i := .iload 4) (len := 2) (pc' := 35) mJ_225 (by decide +kernel) (ns_iload 3 rfl) rfl ?_
  obtain ⟨h2, hr⟩ := nk_cke hr
  refine nk_iald (len := 1) (N := 54) (pc' := 36) mJ_225 (by decide +kernel) t1 h2.1 h2.2 rfl rfl ?_
  refine nk_p (i := .iload_n 1) (len := 1) (pc' := 37) mJ_225 (by decide +kernel) (ns_iload_n 1 rfl rfl) rfl ?_
  obtain ⟨r3, S4, h5, hr⟩ := nk_bde hr
  refine nk_callS (ci := 0) (n := 3) (x := 486) (len := 3) (j' := 143) (q' := 1) (r := r3) (S' := S4) (L2 := [(0, nk_r l0), (1, nk_i (S.1 (ja_c l0 27) l4.toNat)), (2, nk_i l1)]) (rest := []) (st' := [nk_i r3]) (pc' := 40) mJ_225 (by decide +kernel) (by decide +kernel) (Nat.le_of_ble_eq_true rfl) rfl rfl (Nat.le_of_ble_eq_true rfl) mJ_143 (Nat.le_of_ble_eq_true rfl) ja_Tpos rfl (ja_X13_isBelow_ok zs _ _ _ _ _ t_l0 h5) rfl ?_
  refine nk_icond (c := .eq) (off := 10) (len := 3) (t := 50) (pc' := 43) mJ_225 (by decide +kernel) (by decide +kernel) rfl (fun hc => ?_) (fun hc => ?_)
  · have hr := nk_ifp (c := r3 = 0) hc hr
    obtain ⟨v6, h7, hr⟩ := nk_lte hr
    refine nk_p (i := .iinc 4 1) (len := 3) (pc' := 53) mJ_225 (by decide +kernel) (ns_iinc (c := 1) (L' := [(4, nk_i v6), (0, nk_r l0), (1, nk_i l1), (2, nk_l l2)]) 3 rfl (by decide +kernel) h7 rfl (by decide +kernel)) rfl ?_
    refine nk_p (i := .goto (-48)) (len := 3) (pc' := 5) mJ_225 (by decide +kernel) (ns_goto (by decide +kernel)) rfl ?_
    refine nk_sub [1, 2, 3, 0] (L' := [(0, nk_r l0), (1, nk_i l1), (2, nk_l l2), (4, nk_i v6)]) rfl ?_
    exact hrec5 _ _ _ _ _ _ t_l0 hr
  · have hr := nk_ifn (c := r3 = 0) hc hr
    refine nk_p (i := .lload_n 2) (len := 1) (pc' := 44) mJ_225 (by decide +kernel) (ns_lload_n 2 rfl rfl) rfl ?_
    refine nk_p (i := .lconst 1) (len := 1) (pc' := 45) mJ_225 (by decide +kernel) (ns_lconst (c := 1) (by decide +kernel)) rfl ?_
    refine nk_p (i := .iload 4) (len := 2) (pc' := 47) mJ_225 (by decide +kernel) (ns_iload 3 rfl) rfl ?_
    refine nk_p (i := .lshl) (len := 1) (pc' := 48) mJ_225 (by decide +kernel) ns_lshl rfl ?_
    refine nk_p (i := .lor) (len := 1) (pc' := 49) mJ_225 (by decide +kernel) ns_lor rfl ?_
    obtain ⟨v8, h9, hr⟩ := nk_lte hr
    refine nk_p (i := .lstore_n 2) (len := 1) (pc' := 50) mJ_225 (by decide +kernel) (ns_lstore_n (L' := [(2, nk_l v8), (0, nk_r l0), (1, nk_i l1), (4, nk_i l4)]) h9 rfl rfl (by decide +kernel)) rfl ?_
    obtain ⟨v10, h11, hr⟩ := nk_lte hr
    refine nk_p (i := .iinc 4 1) (len := 3) (pc' := 53) mJ_225 (by decide +kernel) (ns_iinc (c := 1) (L' := [(4, nk_i v10), (2, nk_l v8), (0, nk_r l0), (1, nk_i l1)]) 3 rfl (by decide +kernel) h11 rfl (by decide +kernel)) rfl ?_
    refine nk_p (i := .goto (-48)) (len := 3) (pc' := 5) mJ_225 (by decide +kernel) (ns_goto (by decide +kernel)) rfl ?_
    refine nk_sub [2, 3, 1, 0] (L' := [(0, nk_r l0), (1, nk_i l1), (2, nk_l v8), (4, nk_i v10)]) rfl ?_
    exact hrec5 _ _ _ _ _ _ t_l0 hr
noncomputable def ja_X13_sitesBelow_b5 (rec5 : Nat → Int → Int → Int → nk_S → Option (Int × nk_S)) (l0 : Nat) (l1 : Int) (l2 : Int) (l4 : Int) (S : nk_S) : Option (Int × nk_S) :=
  if 54 ≤ l4 then
    some (l2, S)
  else
    if l4 < (S.1 l0 4) then
      ja_X13_sitesBelow_b28 rec5 l0 l1 l2 l4 S
    else
      if l4 < 48 then
        nk_lt (nk_w (l4 + 1)) fun v1 =>
        rec5 l0 l1 l2 v1 S
      else
        ja_X13_sitesBelow_b28 rec5 l0 l1 l2 l4 S
theorem ja_X13_sitesBelow_b5_ok (zs : List Int32) {rec5 : Nat → Int → Int → Int → nk_S → Option (Int × nk_S)} (hrec5 : ∀ (l0 : Nat) (l1 : Int) (l2 : Int) (l4 : Int) (S : nk_S) (R : Int × nk_S), nk_cl ja_Tt l0 = some 12 → rec5 l0 l1 l2 l4 S = some R → nk_K ja_Tt mi_Γ (mi_ev zs) 2 225 5 [(0, nk_r l0), (1, nk_i l1), (2, nk_l l2), (4, nk_i l4)] [] S R) : ∀ (l0 : Nat) (l1 : Int) (l2 : Int) (l4 : Int) (S : nk_S) (R : Int × nk_S), nk_cl ja_Tt l0 = some 12 → ja_X13_sitesBelow_b5 rec5 l0 l1 l2 l4 S = some R → nk_K ja_Tt mi_Γ (mi_ev zs) 2 225 5 [(0, nk_r l0), (1, nk_i l1), (2, nk_l l2), (4, nk_i l4)] [] S R := by
  intro l0 l1 l2 l4 S R t_l0 hr
  unfold ja_X13_sitesBelow_b5 at hr
  refine nk_p (i := .iload 4) (len := 2) (pc' := 7) mJ_225 (by decide +kernel) (ns_iload 3 rfl) rfl ?_
  refine nk_p (i := .bipush 54) (len := 2) (pc' := 9) mJ_225 (by decide +kernel) (ns_bipush (c := 54) (by decide +kernel)) rfl ?_
  refine nk_icmp (c := .ge) (off := 47) (len := 3) (t := 56) (pc' := 12) mJ_225 (by decide +kernel) (by decide +kernel) rfl (fun hc => ?_) (fun hc => ?_)
  · have hr := nk_ifp (c := 54 ≤ l4) hc hr
    refine nk_p (i := .lload_n 2) (len := 1) (pc' := 57) mJ_225 (by decide +kernel) (ns_lload_n 2 rfl rfl) rfl ?_
    cases hr
    exact nk_lret (len := 1) mJ_225 (by decide +kernel) rfl
  · have hr := nk_ifn (c := 54 ≤ l4) hc hr
    refine nk_p (i := .iload 4) (len := 2) (pc' := 14) mJ_225 (by decide +kernel) (ns_iload 3 rfl) rfl ?_
    refine nk_p (i := .aload_n 0) (len := 1) (pc' := 15) mJ_225 (by decide +kernel) (ns_aload_n 0 rfl rfl) rfl ?_
    refine nk_getI (y := (0, 0)) (x := 356) (len := 3) (ci := 12) (k := 4) (pc' := 18) ja_okT mJ_225 (by decide +kernel) (by decide +kernel) (by decide +kernel) t_l0 rfl ?_
    refine nk_icmp (c := .lt) (off := 10) (len := 3) (t := 28) (pc' := 21) mJ_225 (by decide +kernel) (by decide +kernel) rfl (fun hc => ?_) (fun hc => ?_)
    · have hr := nk_ifp (c := l4 < (S.1 l0 4)) hc hr
      exact ja_X13_sitesBelow_b28_ok zs hrec5 _ _ _ _ _ _ t_l0 hr
    · have hr := nk_ifn (c := l4 < (S.1 l0 4)) hc hr
      refine nk_p (i := .iload 4) (len := 2) (pc' := 23) mJ_225 (by decide +kernel) (ns_iload 3 rfl) rfl ?_
      refine nk_p (i := .bipush 48) (len := 2) (pc' := 25) mJ_225 (by decide +kernel) (ns_bipush (c := 48) (by decide +kernel)) rfl ?_
      refine nk_icmp (c := .lt) (off := 25) (len := 3) (t := 50) (pc' := 28) mJ_225 (by decide +kernel) (by decide +kernel) rfl (fun hc => ?_) (fun hc => ?_)
      · have hr := nk_ifp (c := l4 < 48) hc hr
        obtain ⟨v1, h2, hr⟩ := nk_lte hr
        refine nk_p (i := .iinc 4 1) (len := 3) (pc' := 53) mJ_225 (by decide +kernel) (ns_iinc (c := 1) (L' := [(4, nk_i v1), (0, nk_r l0), (1, nk_i l1), (2, nk_l l2)]) 3 rfl (by decide +kernel) h2 rfl (by decide +kernel)) rfl ?_
        refine nk_p (i := .goto (-48)) (len := 3) (pc' := 5) mJ_225 (by decide +kernel) (ns_goto (by decide +kernel)) rfl ?_
        refine nk_sub [1, 2, 3, 0] (L' := [(0, nk_r l0), (1, nk_i l1), (2, nk_l l2), (4, nk_i v1)]) rfl ?_
        exact hrec5 _ _ _ _ _ _ t_l0 hr
      · have hr := nk_ifn (c := l4 < 48) hc hr
        exact ja_X13_sitesBelow_b28_ok zs hrec5 _ _ _ _ _ _ t_l0 hr
noncomputable def ja_X13_sitesBelow_L5 : Nat → Nat → Int → Int → Int → nk_S → Option (Int × nk_S)
  | 0, _, _, _, _, _ => none
  | n + 1, l0, l1, l2, l4, S => ja_X13_sitesBelow_b5 (ja_X13_sitesBelow_L5 n) l0 l1 l2 l4 S
theorem ja_X13_sitesBelow_L5_ok (zs : List Int32) : ∀ n : Nat, ∀ (l0 : Nat) (l1 : Int) (l2 : Int) (l4 : Int) (S : nk_S) (R : Int × nk_S), nk_cl ja_Tt l0 = some 12 → ja_X13_sitesBelow_L5 n l0 l1 l2 l4 S = some R → nk_K ja_Tt mi_Γ (mi_ev zs) 2 225 5 [(0, nk_r l0), (1, nk_i l1), (2, nk_l l2), (4, nk_i l4)] [] S R := by
  intro n
  induction n with
  | zero => intro _ _ _ _ _ _ _ hr; cases hr
  | succ n ih => intro l0 l1 l2 l4 S R t_l0 hr; exact ja_X13_sitesBelow_b5_ok zs ih l0 l1 l2 l4 S R t_l0 hr
noncomputable def ja_X13_sitesBelow (l0 : Nat) (l1 : Int) (S : nk_S) : Option (Int × nk_S) :=
  ja_X13_sitesBelow_L5 nk_big l0 l1 0 0 S
theorem ja_X13_sitesBelow_ok (zs : List Int32) : ∀ (l0 : Nat) (l1 : Int) (S : nk_S) (R : Int × nk_S), nk_cl ja_Tt l0 = some 12 → ja_X13_sitesBelow l0 l1 S = some R → nk_K ja_Tt mi_Γ (mi_ev zs) 2 225 0 [(0, nk_r l0), (1, nk_i l1)] [] S R := by
  intro l0 l1 S R t_l0 hr
  unfold ja_X13_sitesBelow at hr
  refine nk_p (i := .lconst 0) (len := 1) (pc' := 1) mJ_225 (by decide +kernel) (ns_lconst (c := 0) (by decide +kernel)) rfl ?_
  refine nk_p (i := .lstore_n 2) (len := 1) (pc' := 2) mJ_225 (by decide +kernel) (ns_lstore_n (L' := [(2, nk_l 0), (0, nk_r l0), (1, nk_i l1)]) rfl rfl rfl (by decide +kernel)) rfl ?_
  refine nk_p (i := .iconst 0) (len := 1) (pc' := 3) mJ_225 (by decide +kernel) (ns_iconst (c := 0) (by decide +kernel)) rfl ?_
  refine nk_p (i := .istore 4) (len := 2) (pc' := 5) mJ_225 (by decide +kernel) (ns_istore (L' := [(4, nk_i 0), (2, nk_l 0), (0, nk_r l0), (1, nk_i l1)]) rfl rfl (by decide +kernel)) rfl ?_
  refine nk_sub [2, 3, 1, 0] (L' := [(0, nk_r l0), (1, nk_i l1), (2, nk_l 0), (4, nk_i 0)]) rfl ?_
  exact ja_X13_sitesBelow_L5_ok zs nk_big _ _ _ _ _ _ t_l0 hr
/-! SafeCodeModel element (LSafeCodeModel$Program;Z)Z -/
noncomputable def ja_X13_element_b198 (rec88 : Nat → Nat → Int → Int → Int → nk_S → Option (Int × nk_S)) (l0 : Nat) (l1 : Nat) (l5 : Int) (l7 : Int) (l8 : Int) (l10 : Int) (S : nk_S) : Option (Int × nk_S) :=
  if 0 ≤ (nk_w ((S.1 l0 25) - 1)) ∧ (nk_w ((S.1 l0 25) - 1)) < 24 then
  if (nk_land (S.1 (ja_c l0 29) (nk_w ((S.1 l0 25) - 1)).toNat) l10) = 0 then
    nk_lt (nk_w (l8 + 1)) fun v8 =>
    rec88 l0 l1 l5 l7 v8 S
  else
    nk_bd (ja_X13_joinSites l0 l1 (nk_w (2592 + l8)) (nk_land (S.1 (ja_c l0 29) (nk_w ((S.1 l0 25) - 1)).toNat) l10) S) fun r3 S4 =>
    nk_lt (nk_w (l8 + 1)) fun v6 =>
    rec88 l0 l1 l5 1 v6 S4
  else none
theorem ja_X13_element_b198_ok (zs : List Int32) {rec88 : Nat → Nat → Int → Int → Int → nk_S → Option (Int × nk_S)} (hrec88 : ∀ (l0 : Nat) (l1 : Nat) (l5 : Int) (l7 : Int) (l8 : Int) (S : nk_S) (R : Int × nk_S), nk_cl ja_Tt l0 = some 13 → nk_cl ja_Tt l1 = some 12 → rec88 l0 l1 l5 l7 l8 S = some R → nk_K ja_Tt mi_Γ (mi_ev zs) 1 107 88 [(0, nk_r l0), (1, nk_r l1), (5, nk_l l5), (7, nk_i l7), (8, nk_i l8)] [] S R) : ∀ (l0 : Nat) (l1 : Nat) (l5 : Int) (l7 : Int) (l8 : Int) (l10 : Int) (S : nk_S) (R : Int × nk_S), nk_cl ja_Tt l0 = some 13 → nk_cl ja_Tt l1 = some 12 → ja_X13_element_b198 rec88 l0 l1 l5 l7 l8 l10 S = some R → nk_K ja_Tt mi_Γ (mi_ev zs) 1 107 198 [(0, nk_r l0), (1, nk_r l1), (5, nk_l l5), (7, nk_i l7), (8, nk_i l8), (10, nk_l l10)] [] S R := by
  intro l0 l1 l5 l7 l8 l10 S R t_l0 t_l1 hr
  unfold ja_X13_element_b198 at hr
  refine nk_p (i := .aload_n 0) (len := 1) (pc' := 199) mJ_107 (by decide +kernel) (ns_aload_n 0 rfl rfl) rfl ?_
  refine nk_getC (f := (4, 2, 24)) (x := 80) (len := 3) (ci := 13) (k := 29) (pc' := 202) ja_okT mJ_107 (by decide +kernel) (by decide +kernel) (by decide +kernel) (by decide) t_l0 rfl ?_
  have t1 : nk_ar ja_Tt (ja_c l0 29) = some (2, 24) := nk_ta ja_okT t_l0 (by decide +kernel)
  refine nk_p (i := .aload_n 0) (len := 1) (pc' := 203) mJ_107 (by decide +kernel) (ns_aload_n 0 rfl rfl) rfl ?_
  refine nk_getI (y := (0, 0)) (x := 495) (len := 3) (ci := 13) (k := 25) (pc' := 206) ja_okT mJ_107 (by decide +kernel) (by decide +kernel) (by decide +kernel) t_l0 rfl ?_
  refine nk_p (i := .iconst 1) (len := 1) (pc' := 207) mJ_107 (by decide +kernel) (ns_iconst (c := 1) (by decide +kernel)) rfl ?_
  refine nk_p (i := .isub) (len := 1) (pc' := 208) mJ_107 (by decide +kernel) ns_isub rfl ?_
  obtain ⟨h2, hr⟩ := nk_cke hr
  refine nk_lald (len := 1) (N := 24) (pc' := 209) mJ_107 (by decide +kernel) t1 h2.1 h2.2 rfl rfl ?_
  refine nk_p (i := .lload 10) (len := 2) (pc' := 211) mJ_107 (by decide +kernel) (ns_lload 5 rfl) rfl ?_
  refine nk_p (i := .land) (len := 1) (pc' := 212) mJ_107 (by decide +kernel) ns_land rfl ?_
  refine nk_p (i := .lconst 0) (len := 1) (pc' := 213) mJ_107 (by decide +kernel) (ns_lconst (c := 0) (by decide +kernel)) rfl ?_
  refine nk_p (i := .lcmp) (len := 1) (pc' := 214) mJ_107 (by decide +kernel) ns_lcmp rfl ?_
  refine nk_lcond (c := .ne) (off := 6) (len := 3) (t := 220) (pc' := 217) mJ_107 (by decide +kernel) (by decide +kernel) rfl (fun hc => ?_) (fun hc => ?_)
  · have hr := nk_ifn (c := (nk_land (S.1 (ja_c l0 29) (nk_w ((S.1 l0 25) - 1)).toNat) l10) = 0) hc hr
    refine nk_p (i := .aload_n 0) (len := 1) (pc' := 221) mJ_107 (by decide +kernel) (ns_aload_n 0 rfl rfl) rfl ?_
    refine nk_p (i := .aload_n 1) (len := 1) (pc' := 222) mJ_107 (by decide +kernel) (ns_aload_n 1 rfl rfl) rfl ?_
    refine nk_p (i := .sipush 2592) (len := 3) (pc' := 225) mJ_107 (by decide +kernel) (ns_sipush (c := 2592) (by decide +kernel)) rfl ?_
    refine nk_p (i := .iload 8) (len := 2) (pc' := 227) mJ_107 (by decide +kernel) (ns_iload 4 rfl) rfl ?_
    refine nk_p (i := .iadd) (len := 1) (pc' := 228) mJ_107 (by decide +kernel) ns_iadd rfl ?_
    refine nk_p (i := .aload_n 0) (len := 1) (pc' := 229) mJ_107 (by decide +kernel) (ns_aload_n 0 rfl rfl) rfl ?_
    refine nk_getC (f := (4, 2, 24)) (x := 80) (len := 3) (ci := 13) (k := 29) (pc' := 232) ja_okT mJ_107 (by decide +kernel) (by decide +kernel) (by decide +kernel) (by decide) t_l0 rfl ?_
    refine nk_p (i := .aload_n 0) (len := 1) (pc' := 233) mJ_107 (by decide +kernel) (ns_aload_n 0 rfl rfl) rfl ?_
    refine nk_getI (y := (0, 0)) (x := 495) (len := 3) (ci := 13) (k := 25) (pc' := 236) ja_okT mJ_107 (by decide +kernel) (by decide +kernel) (by decide +kernel) t_l0 rfl ?_
    refine nk_p (i := .iconst 1) (len := 1) (pc' := 237) mJ_107 (by decide +kernel) (ns_iconst (c := 1) (by decide +kernel)) rfl ?_
    refine nk_p (i := .isub) (len := 1) (pc' := 238) mJ_107 (by decide +kernel) ns_isub rfl ?_
    refine nk_lald (len := 1) (N := 24) (pc' := 239) mJ_107 (by decide +kernel) t1 h2.1 h2.2 rfl rfl ?_
    refine nk_p (i := .lload 10) (len := 2) (pc' := 241) mJ_107 (by decide +kernel) (ns_lload 5 rfl) rfl ?_
    refine nk_p (i := .land) (len := 1) (pc' := 242) mJ_107 (by decide +kernel) ns_land rfl ?_
    obtain ⟨r3, S4, h5, hr⟩ := nk_bde hr
    refine nk_callV (ci := 13) (n := 3) (x := 595) (len := 3) (j' := 166) (q' := 0) (r := r3) (S' := S4) (L2 := [(0, nk_r l0), (1, nk_r l1), (2, nk_i (nk_w (2592 + l8))), (3, nk_l (nk_land (S.1 (ja_c l0 29) (nk_w ((S.1 l0 25) - 1)).toNat) l10))]) (rest := []) (st' := []) (pc' := 245) mJ_107 (by decide +kernel) (by decide +kernel) rfl rfl t_l0 (Nat.le_of_ble_eq_true rfl) mJ_166 (Nat.le_of_ble_eq_true rfl) rfl (ja_X13_joinSites_ok zs _ _ _ _ _ _ t_l0 t_l1 h5) rfl ?_
    refine nk_p (i := .iconst 1) (len := 1) (pc' := 246) mJ_107 (by decide +kernel) (ns_iconst (c := 1) (by decide +kernel)) rfl ?_
    refine nk_p (i := .istore 7) (len := 2) (pc' := 248) mJ_107 (by decide +kernel) (ns_istore (L' := [(7, nk_i 1), (0, nk_r l0), (1, nk_r l1), (5, nk_l l5), (8, nk_i l8), (10, nk_l l10)]) rfl rfl (by decide +kernel)) rfl ?_
    obtain ⟨v6, h7, hr⟩ := nk_lte hr
    refine nk_p (i := .iinc 8 1) (len := 3) (pc' := 251) mJ_107 (by decide +kernel) (ns_iinc (c := 1) (L' := [(8, nk_i v6), (7, nk_i 1), (0, nk_r l0), (1, nk_r l1), (5, nk_l l5), (10, nk_l l10)]) 4 rfl (by decide +kernel) h7 rfl (by decide +kernel)) rfl ?_
    refine nk_p (i := .goto (-163)) (len := 3) (pc' := 88) mJ_107 (by decide +kernel) (ns_goto (by decide +kernel)) rfl ?_
    refine nk_sub [2, 3, 4, 1, 0] (L' := [(0, nk_r l0), (1, nk_r l1), (5, nk_l l5), (7, nk_i 1), (8, nk_i v6)]) rfl ?_
    exact hrec88 _ _ _ _ _ _ _ t_l0 t_l1 hr
  · have hr := nk_ifp (c := (nk_land (S.1 (ja_c l0 29) (nk_w ((S.1 l0 25) - 1)).toNat) l10) = 0) (Decidable.of_not_not hc) hr
    refine nk_p (i := .goto 31) (len := 3) (pc' := 248) mJ_107 (by decide +kernel) (ns_goto (by decide +kernel)) rfl ?_
    obtain ⟨v8, h9, hr⟩ := nk_lte hr
    refine nk_p (i := .iinc 8 1) (len := 3) (pc' := 251) mJ_107 (by decide +kernel) (ns_iinc (c := 1) (L' := [(8, nk_i v8), (0, nk_r l0), (1, nk_r l1), (5, nk_l l5), (7, nk_i l7), (10, nk_l l10)]) 4 rfl (by decide +kernel) h9 rfl (by decide +kernel)) rfl ?_
    refine nk_p (i := .goto (-163)) (len := 3) (pc' := 88) mJ_107 (by decide +kernel) (ns_goto (by decide +kernel)) rfl ?_
    refine nk_sub [1, 2, 3, 4, 0] (L' := [(0, nk_r l0), (1, nk_r l1), (5, nk_l l5), (7, nk_i l7), (8, nk_i v8)]) rfl ?_
    exact hrec88 _ _ _ _ _ _ _ t_l0 t_l1 hr
noncomputable def ja_X13_element_b88 (rec88 : Nat → Nat → Int → Int → Int → nk_S → Option (Int × nk_S)) (l0 : Nat) (l1 : Nat) (l5 : Int) (l7 : Int) (l8 : Int) (S : nk_S) : Option (Int × nk_S) :=
  if (S.1 l1 4) ≤ l8 then
    nk_lt (nk_wi S l0 25 (nk_w ((S.1 l0 25) - 3))) fun S1 =>
    if l7 = 0 ∨ l7 = 1 then
    some (l7, S1)
    else none
  else
    if (nk_land (nk_lshr l5 l8) 1) = 0 then
      nk_lt (nk_w (l8 + 1)) fun v23 =>
      rec88 l0 l1 l5 l7 v23 S
    else
      if 0 ≤ l8 ∧ l8 < 54 then
      nk_bd (ja_X13_elementOf (S.1 (ja_c l1 27) l8.toNat) S) fun r6 S7 =>
      if r6 = 0 then
        nk_bd (ja_X13_joinSlotInto l0 l1 (nk_w (2592 + l8)) (nk_w ((S7.1 l0 25) - 1)) S7) fun r18 S19 =>
        nk_lt (nk_w (l8 + 1)) fun v21 =>
        rec88 l0 l1 l5 1 v21 S19
      else
        nk_bd (ja_X13_sitesBelow l1 r6 S7) fun r9 S10 =>
        nk_lt (nk_lor r9 4611686018427387904) fun v12 =>
        if 0 ≤ (nk_w ((S10.1 l0 25) - 1)) ∧ (nk_w ((S10.1 l0 25) - 1)) < 24 then
        if (nk_land (S10.1 (ja_c l0 29) (nk_w ((S10.1 l0 25) - 1)).toNat) (nk_lxor v12 (-1))) = 0 then
          ja_X13_element_b198 rec88 l0 l1 l5 l7 l8 v12 S10
        else
          nk_lt (nk_wi S10 l0 39 (nk_ior (S10.1 l0 39) 32)) fun S16 =>
          ja_X13_element_b198 rec88 l0 l1 l5 l7 l8 v12 S16
        else none
      else none
theorem ja_X13_element_b88_ok (zs : List Int32) {rec88 : Nat → Nat → Int → Int → Int → nk_S → Option (Int × nk_S)} (hrec88 : ∀ (l0 : Nat) (l1 : Nat) (l5 : Int) (l7 : Int) (l8 : Int) (S : nk_S) (R : Int × nk_S), nk_cl ja_Tt l0 = some 13 → nk_cl ja_Tt l1 = some 12 → rec88 l0 l1 l5 l7 l8 S = some R → nk_K ja_Tt mi_Γ (mi_ev zs) 1 107 88 [(0, nk_r l0), (1, nk_r l1), (5, nk_l l5), (7, nk_i l7), (8, nk_i l8)] [] S R) : ∀ (l0 : Nat) (l1 : Nat) (l5 : Int) (l7 : Int) (l8 : Int) (S : nk_S) (R : Int × nk_S), nk_cl ja_Tt l0 = some 13 → nk_cl ja_Tt l1 = some 12 → ja_X13_element_b88 rec88 l0 l1 l5 l7 l8 S = some R → nk_K ja_Tt mi_Γ (mi_ev zs) 1 107 88 [(0, nk_r l0), (1, nk_r l1), (5, nk_l l5), (7, nk_i l7), (8, nk_i l8)] [] S R := by
  intro l0 l1 l5 l7 l8 S R t_l0 t_l1 hr
  unfold ja_X13_element_b88 at hr
  refine nk_p (i := .iload 8) (len := 2) (pc' := 90) mJ_107 (by decide +kernel) (ns_iload 4 rfl) rfl ?_
  refine nk_p (i := .aload_n 1) (len := 1) (pc' := 91) mJ_107 (by decide +kernel) (ns_aload_n 1 rfl rfl) rfl ?_
  refine nk_getI (y := (0, 0)) (x := 356) (len := 3) (ci := 12) (k := 4) (pc' := 94) ja_okT mJ_107 (by decide +kernel) (by decide +kernel) (by decide +kernel) t_l1 rfl ?_
  refine nk_icmp (c := .ge) (off := 160) (len := 3) (t := 254) (pc' := 97) mJ_107 (by decide +kernel) (by decide +kernel) rfl (fun hc => ?_) (fun hc => ?_)
  · have hr := nk_ifp (c := (S.1 l1 4) ≤ l8) hc hr
    refine nk_p (i := .aload_n 0) (len := 1) (pc' := 255) mJ_107 (by decide +kernel) (ns_aload_n 0 rfl rfl) rfl ?_
    refine nk_p (i := .dup) (len := 1) (pc' := 256) mJ_107 (by decide +kernel) (ns_dup rfl) rfl ?_
    refine nk_getI (y := (0, 0)) (x := 495) (len := 3) (ci := 13) (k := 25) (pc' := 259) ja_okT mJ_107 (by decide +kernel) (by decide +kernel) (by decide +kernel) t_l0 rfl ?_
    refine nk_p (i := .iconst 3) (len := 1) (pc' := 260) mJ_107 (by decide +kernel) (ns_iconst (c := 3) (by decide +kernel)) rfl ?_
    refine nk_p (i := .isub) (len := 1) (pc' := 261) mJ_107 (by decide +kernel) ns_isub rfl ?_
    obtain ⟨S1, h2, hr⟩ := nk_lte hr
    refine nk_putI (y := (0, 0)) (ty := .int) (x := 495) (len := 3) (ci := 13) (k := 25) (pc' := 264) ja_okT mJ_107 (by decide +kernel) (by decide +kernel) (by decide +kernel) t_l0 (Or.inl rfl) rfl h2 ?_
    refine nk_p (i := .iload 7) (len := 2) (pc' := 266) mJ_107 (by decide +kernel) (ns_iload 3 rfl) rfl ?_
    obtain ⟨h3, hr⟩ := nk_cke hr
    cases hr
    exact nk_iret (ty := .boolean) (len := 1) mJ_107 (by decide +kernel) rfl (nk_nar_z h3)
  · have hr := nk_ifn (c := (S.1 l1 4) ≤ l8) hc hr
    refine nk_p (i := .lload 5) (len := 2) (pc' := 99) mJ_107 (by decide +kernel) (ns_lload 2 rfl) rfl ?_
    refine nk_p (i := .iload 8) (len := 2) (pc' := 101) mJ_107 (by decide +kernel) (ns_iload 4 rfl) rfl ?_
    refine nk_p (i := .lshr) (len := 1) (pc' := 102) mJ_107 (by decide +kernel) ns_lshr rfl ?_
    refine nk_p (i := .lconst 1) (len := 1) (pc' := 103) mJ_107 (by decide +kernel) (ns_lconst (c := 1) (by decide +kernel)) rfl ?_
    refine nk_p (i := .land) (len := 1) (pc' := 104) mJ_107 (by decide +kernel) ns_land rfl ?_
    refine nk_p (i := .lconst 0) (len := 1) (pc' := 105) mJ_107 (by decide +kernel) (ns_lconst (c := 0) (by decide +kernel)) rfl ?_
    refine nk_p (i := .lcmp) (len := 1) (pc' := 106) mJ_107 (by decide +kernel) ns_lcmp rfl ?_
    refine nk_lcond (c := .ne) (off := 6) (len := 3) (t := 112) (pc' := 109) mJ_107 (by decide +kernel) (by decide +kernel) rfl (fun hc => ?_) (fun hc => ?_)
    · have hr := nk_ifn (c := (nk_land (nk_lshr l5 l8) 1) = 0) hc hr
      refine nk_p (i := .aload_n 1) (len := 1) (pc' := 113) mJ_107 (by decide +kernel) (ns_aload_n 1 rfl rfl) rfl ?_
      refine nk_getC (f := (4, 1, 54)) (x := 432) (len := 3) (ci := 12) (k := 27) (pc' := 116) ja_okT mJ_107 (by decide +kernel) (by decide +kernel) (by decide +kernel) (by decide) t_l1 rfl ?_
      have t4 : nk_ar ja_Tt (ja_c l1 27) = some (1, 54) := nk_ta ja_okT t_l1 (by decide +kernel)
      refine nk_p (i := .iload 8) (len := 2) (pc' := 118) mJ_107 (by decide +kernel) (ns_iload 4 rfl) rfl ?_
      obtain ⟨h5, hr⟩ := nk_cke hr
      refine nk_iald (len := 1) (N := 54) (pc' := 119) mJ_107 (by decide +kernel) t4 h5.1 h5.2 rfl rfl ?_
      obtain ⟨r6, S7, h8, hr⟩ := nk_bde hr
      refine nk_callS (ci := 0) (n := 1) (x := 514) (len := 3) (j' := 108) (q' := 1) (r := r6) (S' := S7) (L2 := [(0, nk_i (S.1 (ja_c l1 27) l8.toNat))]) (rest := []) (st' := [nk_i r6]) (pc' := 122) mJ_107 (by decide +kernel) (by decide +kernel) (Nat.le_of_ble_eq_true rfl) rfl rfl (Nat.le_of_ble_eq_true rfl) mJ_108 (Nat.le_of_ble_eq_true rfl) ja_Tpos rfl (ja_X13_elementOf_ok zs _ _ _ h8) rfl ?_
      refine nk_p (i := .istore 9) (len := 2) (pc' := 124) mJ_107 (by decide +kernel) (ns_istore (L' := [(9, nk_i r6), (0, nk_r l0), (1, nk_r l1), (5, nk_l l5), (7, nk_i l7), (8, nk_i l8)]) rfl rfl (by decide +kernel)) rfl ?_
      refine nk_p (i := .iload 9) (len := 2) (pc' := 126) mJ_107 (by decide +kernel) (ns_iload 0 rfl) rfl ?_
      refine nk_icond (c := .ne) (off := 26) (len := 3) (t := 152) (pc' := 129) mJ_107 (by decide +kernel) (by decide +kernel) rfl (fun hc => ?_) (fun hc => ?_)
      · have hr := nk_ifn (c := r6 = 0) hc hr
        refine nk_p (i := .aload_n 1) (len := 1) (pc' := 153) mJ_107 (by decide +kernel) (ns_aload_n 2 rfl rfl) rfl ?_
        refine nk_p (i := .iload 9) (len := 2) (pc' := 155) mJ_107 (by decide +kernel) (ns_iload 0 rfl) rfl ?_
        obtain ⟨r9, S10, h11, hr⟩ := nk_bde hr
        refine nk_callS (ci := 0) (n := 2) (x := 650) (len := 3) (j' := 225) (q' := 2) (r := r9) (S' := S10) (L2 := [(0, nk_r l1), (1, nk_i r6)]) (rest := []) (st' := [nk_l r9]) (pc' := 158) mJ_107 (by decide +kernel) (by decide +kernel) (Nat.le_of_ble_eq_true rfl) rfl rfl (Nat.le_of_ble_eq_true rfl) mJ_225 (Nat.le_of_ble_eq_true rfl) ja_Tpos rfl (ja_X13_sitesBelow_ok zs _ _ _ _ t_l1 h11) rfl ?_
        refine nk_ldc2 (x := 599) (len := 3) (X := 4611686018427387904) (v := 4611686018427387904) (pc' := 161) mJ_107 (by decide +kernel) (by decide +kernel) (by decide +kernel) rfl ?_
        refine nk_p (i := .lor) (len := 1) (pc' := 162) mJ_107 (by decide +kernel) ns_lor rfl ?_
        obtain ⟨v12, h13, hr⟩ := nk_lte hr
        refine nk_p (i := .lstore 10) (len := 2) (pc' := 164) mJ_107 (by decide +kernel) (ns_lstore (L' := [(10, nk_l v12), (9, nk_i r6), (0, nk_r l0), (1, nk_r l1), (5, nk_l l5), (7, nk_i l7), (8, nk_i l8)]) h13 rfl (by decide +kernel)) rfl ?_
        refine nk_p (i := .aload_n 0) (len := 1) (pc' := 165) mJ_107 (by decide +kernel) (ns_aload_n 2 rfl rfl) rfl ?_
        refine nk_getC (f := (4, 2, 24)) (x := 80) (len := 3) (ci := 13) (k := 29) (pc' := 168) ja_okT mJ_107 (by decide +kernel) (by decide +kernel) (by decide +kernel) (by decide) t_l0 rfl ?_
        have t14 : nk_ar ja_Tt (ja_c l0 29) = some (2, 24) := nk_ta ja_okT t_l0 (by decide +kernel)
        refine nk_p (i := .aload_n 0) (len := 1) (pc' := 169) mJ_107 (by decide +kernel) (ns_aload_n 2 rfl rfl) rfl ?_
        refine nk_getI (y := (0, 0)) (x := 495) (len := 3) (ci := 13) (k := 25) (pc' := 172) ja_okT mJ_107 (by decide +kernel) (by decide +kernel) (by decide +kernel) t_l0 rfl ?_
        refine nk_p (i := .iconst 1) (len := 1) (pc' := 173) mJ_107 (by decide +kernel) (ns_iconst (c := 1) (by decide +kernel)) rfl ?_
        refine nk_p (i := .isub) (len := 1) (pc' := 174) mJ_107 (by decide +kernel) ns_isub rfl ?_
        obtain ⟨h15, hr⟩ := nk_cke hr
        refine nk_lald (len := 1) (N := 24) (pc' := 175) mJ_107 (by decide +kernel) t14 h15.1 h15.2 rfl rfl ?_
        refine nk_p (i := .lload 10) (len := 2) (pc' := 177) mJ_107 (by decide +kernel) (ns_lload 0 rfl) rfl ?_
        refine nk_ldc2 (x := 549) (len := 3) (X := (-1)) (v := (-1)) (pc' := 180) mJ_107 (by decide +kernel) (by decide +kernel) (by decide +kernel) rfl ?_
        refine nk_p (i := .lxor) (len := 1) (pc' := 181) mJ_107 (by decide +kernel) ns_lxor rfl ?_
        refine nk_p (i := .land) (len := 1) (pc' := 182) mJ_107 (by decide +kernel) ns_land rfl ?_
        refine nk_p (i := .lconst 0) (len := 1) (pc' := 183) mJ_107 (by decide +kernel) (ns_lconst (c := 0) (by decide +kernel)) rfl ?_
        refine nk_p (i := .lcmp) (len := 1) (pc' := 184) mJ_107 (by decide +kernel) ns_lcmp rfl ?_
        refine nk_lcond (c := .eq) (off := 14) (len := 3) (t := 198) (pc' := 187) mJ_107 (by decide +kernel) (by decide +kernel) rfl (fun hc => ?_) (fun hc => ?_)
        · have hr := nk_ifp (c := (nk_land (S10.1 (ja_c l0 29) (nk_w ((S10.1 l0 25) - 1)).toNat) (nk_lxor v12 (-1))) = 0) hc hr
          refine nk_sub [2, 3, 4, 5, 6, 0] (L' := [(0, nk_r l0), (1, nk_r l1), (5, nk_l l5), (7, nk_i l7), (8, nk_i l8), (10, nk_l v12)]) rfl ?_
          exact ja_X13_element_b198_ok zs hrec88 _ _ _ _ _ _ _ _ t_l0 t_l1 hr
        · have hr := nk_ifn (c := (nk_land (S10.1 (ja_c l0 29) (nk_w ((S10.1 l0 25) - 1)).toNat) (nk_lxor v12 (-1))) = 0) hc hr
          refine nk_p (i := .aload_n 0) (len := 1) (pc' := 188) mJ_107 (by decide +kernel) (ns_aload_n 2 rfl rfl) rfl ?_
          refine nk_p (i := .dup) (len := 1) (pc' := 189) mJ_107 (by decide +kernel) (ns_dup rfl) rfl ?_
          refine nk_getI (y := (0, 0)) (x := 625) (len := 3) (ci := 13) (k := 39) (pc' := 192) ja_okT mJ_107 (by decide +kernel) (by decide +kernel) (by decide +kernel) t_l0 rfl ?_
          refine nk_p (i := .bipush 32) (len := 2) (pc' := 194) mJ_107 (by decide +kernel) (ns_bipush (c := 32) (by decide +kernel)) rfl ?_
          refine nk_p (i := .ior) (len := 1) (pc' := 195) mJ_107 (by decide +kernel) ns_ior rfl ?_
          obtain ⟨S16, h17, hr⟩ := nk_lte hr
          refine nk_putI (y := (0, 0)) (ty := .int) (x := 625) (len := 3) (ci := 13) (k := 39) (pc' := 198) ja_okT mJ_107 (by decide +kernel) (by decide +kernel) (by decide +kernel) t_l0 (Or.inl rfl) rfl h17 ?_
          refine nk_sub [2, 3, 4, 5, 6, 0] (L' := [(0, nk_r l0), (1, nk_r l1), (5, nk_l l5), (7, nk_i l7), (8, nk_i l8), (10, nk_l v12)]) rfl ?_
          exact ja_X13_element_b198_ok zs hrec88 _ _ _ _ _ _ _ _ t_l0 t_l1 hr
      · have hr := nk_ifp (c := r6 = 0) (Decidable.of_not_not hc) hr
        refine nk_p (i := .aload_n 0) (len := 1) (pc' := 130) mJ_107 (by decide +kernel) (ns_aload_n 1 rfl rfl) rfl ?_
        refine nk_p (i := .aload_n 1) (len := 1) (pc' := 131) mJ_107 (by decide +kernel) (ns_aload_n 2 rfl rfl) rfl ?_
        refine nk_p (i := .sipush 2592) (len := 3) (pc' := 134) mJ_107 (by decide +kernel) (ns_sipush (c := 2592) (by decide +kernel)) rfl ?_
        refine nk_p (i := .iload 8) (len := 2) (pc' := 136) mJ_107 (by decide +kernel) (ns_iload 5 rfl) rfl ?_
        refine nk_p (i := .iadd) (len := 1) (pc' := 137) mJ_107 (by decide +kernel) ns_iadd rfl ?_
        refine nk_p (i := .aload_n 0) (len := 1) (pc' := 138) mJ_107 (by decide +kernel) (ns_aload_n 1 rfl rfl) rfl ?_
        refine nk_getI (y := (0, 0)) (x := 495) (len := 3) (ci := 13) (k := 25) (pc' := 141) ja_okT mJ_107 (by decide +kernel) (by decide +kernel) (by decide +kernel) t_l0 rfl ?_
        refine nk_p (i := .iconst 1) (len := 1) (pc' := 142) mJ_107 (by decide +kernel) (ns_iconst (c := 1) (by decide +kernel)) rfl ?_
        refine nk_p (i := .isub) (len := 1) (pc' := 143) mJ_107 (by decide +kernel) ns_isub rfl ?_
        obtain ⟨r18, S19, h20, hr⟩ := nk_bde hr
        refine nk_callV (ci := 13) (n := 3) (x := 725) (len := 3) (j' := 168) (q' := 0) (r := r18) (S' := S19) (L2 := [(0, nk_r l0), (1, nk_r l1), (2, nk_i (nk_w (2592 + l8))), (3, nk_i (nk_w ((S7.1 l0 25) - 1)))]) (rest := []) (st' := []) (pc' := 146) mJ_107 (by decide +kernel) (by decide +kernel) rfl rfl t_l0 (Nat.le_of_ble_eq_true rfl) mJ_168 (Nat.le_of_ble_eq_true rfl) rfl (ja_X13_joinSlotInto_ok zs _ _ _ _ _ _ t_l0 t_l1 h20) rfl ?_
        refine nk_p (i := .iconst 1) (len := 1) (pc' := 147) mJ_107 (by decide +kernel) (ns_iconst (c := 1) (by decide +kernel)) rfl ?_
        refine nk_p (i := .istore 7) (len := 2) (pc' := 149) mJ_107 (by decide +kernel) (ns_istore (L' := [(7, nk_i 1), (9, nk_i r6), (0, nk_r l0), (1, nk_r l1), (5, nk_l l5), (8, nk_i l8)]) rfl rfl (by decide +kernel)) rfl ?_
        refine nk_p (i := .goto 99) (len := 3) (pc' := 248) mJ_107 (by decide +kernel) (ns_goto (by decide +kernel)) rfl ?_
        obtain ⟨v21, h22, hr⟩ := nk_lte hr
        refine nk_p (i := .iinc 8 1) (len := 3) (pc' := 251) mJ_107 (by decide +kernel) (ns_iinc (c := 1) (L' := [(8, nk_i v21), (7, nk_i 1), (9, nk_i r6), (0, nk_r l0), (1, nk_r l1), (5, nk_l l5)]) 5 rfl (by decide +kernel) h22 rfl (by decide +kernel)) rfl ?_
        refine nk_p (i := .goto (-163)) (len := 3) (pc' := 88) mJ_107 (by decide +kernel) (ns_goto (by decide +kernel)) rfl ?_
        refine nk_sub [3, 4, 5, 1, 0] (L' := [(0, nk_r l0), (1, nk_r l1), (5, nk_l l5), (7, nk_i 1), (8, nk_i v21)]) rfl ?_
        exact hrec88 _ _ _ _ _ _ _ t_l0 t_l1 hr
    · have hr := nk_ifp (c := (nk_land (nk_lshr l5 l8) 1) = 0) (Decidable.of_not_not hc) hr
      refine nk_p (i := .goto 139) (len := 3) (pc' := 248) mJ_107 (by decide +kernel) (ns_goto (by decide +kernel)) rfl ?_
      obtain ⟨v23, h24, hr⟩ := nk_lte hr
      refine nk_p (i := .iinc 8 1) (len := 3) (pc' := 251) mJ_107 (by decide +kernel) (ns_iinc (c := 1) (L' := [(8, nk_i v23), (0, nk_r l0), (1, nk_r l1), (5, nk_l l5), (7, nk_i l7)]) 4 rfl (by decide +kernel) h24 rfl (by decide +kernel)) rfl ?_
      refine nk_p (i := .goto (-163)) (len := 3) (pc' := 88) mJ_107 (by decide +kernel) (ns_goto (by decide +kernel)) rfl ?_
      refine nk_sub [1, 2, 3, 4, 0] (L' := [(0, nk_r l0), (1, nk_r l1), (5, nk_l l5), (7, nk_i l7), (8, nk_i v23)]) rfl ?_
      exact hrec88 _ _ _ _ _ _ _ t_l0 t_l1 hr
noncomputable def ja_X13_element_L88 : Nat → Nat → Nat → Int → Int → Int → nk_S → Option (Int × nk_S)
  | 0, _, _, _, _, _, _ => none
  | n + 1, l0, l1, l5, l7, l8, S => ja_X13_element_b88 (ja_X13_element_L88 n) l0 l1 l5 l7 l8 S
theorem ja_X13_element_L88_ok (zs : List Int32) : ∀ n : Nat, ∀ (l0 : Nat) (l1 : Nat) (l5 : Int) (l7 : Int) (l8 : Int) (S : nk_S) (R : Int × nk_S), nk_cl ja_Tt l0 = some 13 → nk_cl ja_Tt l1 = some 12 → ja_X13_element_L88 n l0 l1 l5 l7 l8 S = some R → nk_K ja_Tt mi_Γ (mi_ev zs) 1 107 88 [(0, nk_r l0), (1, nk_r l1), (5, nk_l l5), (7, nk_i l7), (8, nk_i l8)] [] S R := by
  intro n
  induction n with
  | zero => intro _ _ _ _ _ _ _ _ _ hr; cases hr
  | succ n ih => intro l0 l1 l5 l7 l8 S R t_l0 t_l1 hr; exact ja_X13_element_b88_ok zs ih l0 l1 l5 l7 l8 S R t_l0 t_l1 hr
noncomputable def ja_X13_element_b19 (l0 : Nat) (l1 : Nat) (l2 : Int) (s0 : Int) (S : nk_S) : Option (Int × nk_S) :=
  nk_lt (nk_w (s0 - 1)) fun v1 =>
  nk_bd (ja_X13_dereference l0 v1 S) fun r3 S4 =>
  if r3 = 0 then
    some (0, S4)
  else
    nk_bd (ja_X13_index l0 l1 v1 s0 S4) fun r6 S7 =>
    if r6 = 0 then
      some (0, S7)
    else
      if 0 ≤ v1 ∧ v1 < 24 then
      nk_lt (S7.1 (ja_c l0 29) v1.toNat) fun v11 =>
      if l2 = 0 then
        nk_lt (nk_wi S7 l0 25 (nk_w ((S7.1 l0 25) - 2))) fun S13 =>
        nk_bd (ja_X13_leaveValues l0 l1 2592 1 v11 S13) fun r15 S16 =>
        if r15 = 0 ∨ r15 = 1 then
        some (r15, S16)
        else none
      else
        ja_X13_element_L88 nk_big l0 l1 v11 0 0 S7
      else none
theorem ja_X13_element_b19_ok (zs : List Int32) : ∀ (l0 : Nat) (l1 : Nat) (l2 : Int) (s0 : Int) (S : nk_S) (R : Int × nk_S), nk_cl ja_Tt l0 = some 13 → nk_cl ja_Tt l1 = some 12 → ja_X13_element_b19 l0 l1 l2 s0 S = some R → nk_K ja_Tt mi_Γ (mi_ev zs) 1 107 19 [(0, nk_r l0), (1, nk_r l1), (2, nk_i l2)] [nk_i s0] S R := by
  intro l0 l1 l2 s0 S R t_l0 t_l1 hr
  unfold ja_X13_element_b19 at hr
  refine nk_p (i := .istore_n 3) (len := 1) (pc' := 20) mJ_107 (by decide +kernel) (ns_istore_n (L' := [(3, nk_i s0), (0, nk_r l0), (1, nk_r l1), (2, nk_i l2)]) rfl rfl rfl (by decide +kernel)) rfl ?_
  refine nk_p (i := .iload_n 3) (len := 1) (pc' := 21) mJ_107 (by decide +kernel) (ns_iload_n 0 rfl rfl) rfl ?_
  refine nk_p (i := .iconst 1) (len := 1) (pc' := 22) mJ_107 (by decide +kernel) (ns_iconst (c := 1) (by decide +kernel)) rfl ?_
  refine nk_p (i := .isub) (len := 1) (pc' := 23) mJ_107 (by decide +kernel) ns_isub rfl ?_
  obtain ⟨v1, h2, hr⟩ := nk_lte hr
  refine nk_p (i := .istore 4) (len := 2) (pc' := 25) mJ_107 (by decide +kernel) (ns_istore (L' := [(4, nk_i v1), (3, nk_i s0), (0, nk_r l0), (1, nk_r l1), (2, nk_i l2)]) h2 rfl (by decide +kernel)) rfl ?_
  refine nk_p (i := .aload_n 0) (len := 1) (pc' := 26) mJ_107 (by decide +kernel) (ns_aload_n 2 rfl rfl) rfl ?_
  refine nk_p (i := .iload 4) (len := 2) (pc' := 28) mJ_107 (by decide +kernel) (ns_iload 0 rfl) rfl ?_
  obtain ⟨r3, S4, h5, hr⟩ := nk_bde hr
  refine nk_callV (ci := 13) (n := 1) (x := 751) (len := 3) (j' := 106) (q' := 1) (r := r3) (S' := S4) (L2 := [(0, nk_r l0), (1, nk_i v1)]) (rest := []) (st' := [nk_i r3]) (pc' := 31) mJ_107 (by decide +kernel) (by decide +kernel) rfl rfl t_l0 (Nat.le_of_ble_eq_true rfl) mJ_106 (Nat.le_of_ble_eq_true rfl) rfl (ja_X13_dereference_ok zs _ _ _ _ t_l0 h5) rfl ?_
  refine nk_icond (c := .eq) (off := 14) (len := 3) (t := 45) (pc' := 34) mJ_107 (by decide +kernel) (by decide +kernel) rfl (fun hc => ?_) (fun hc => ?_)
  · have hr := nk_ifp (c := r3 = 0) hc hr
    refine nk_p (i := .iconst 0) (len := 1) (pc' := 46) mJ_107 (by decide +kernel) (ns_iconst (c := 0) (by decide +kernel)) rfl ?_
    cases hr
    exact nk_iret (ty := .boolean) (len := 1) mJ_107 (by decide +kernel) rfl (nk_nar_z (by decide))
  · have hr := nk_ifn (c := r3 = 0) hc hr
    refine nk_p (i := .aload_n 0) (len := 1) (pc' := 35) mJ_107 (by decide +kernel) (ns_aload_n 2 rfl rfl) rfl ?_
    refine nk_p (i := .aload_n 1) (len := 1) (pc' := 36) mJ_107 (by decide +kernel) (ns_aload_n 3 rfl rfl) rfl ?_
    refine nk_p (i := .iload 4) (len := 2) (pc' := 38) mJ_107 (by decide +kernel) (ns_iload 0 rfl) rfl ?_
    refine nk_p (i := .iload_n 3) (len := 1) (pc' := 39) mJ_107 (by decide +kernel) (ns_iload_n 1 rfl rfl) rfl ?_
    obtain ⟨r6, S7, h8, hr⟩ := nk_bde hr
    refine nk_callV (ci := 13) (n := 3) (x := 758) (len := 3) (j' := 135) (q' := 1) (r := r6) (S' := S7) (L2 := [(0, nk_r l0), (1, nk_r l1), (2, nk_i v1), (3, nk_i s0)]) (rest := []) (st' := [nk_i r6]) (pc' := 42) mJ_107 (by decide +kernel) (by decide +kernel) rfl rfl t_l0 (Nat.le_of_ble_eq_true rfl) mJ_135 (Nat.le_of_ble_eq_true rfl) rfl (ja_X13_index_ok zs _ _ _ _ _ _ t_l0 t_l1 h8) rfl ?_
    refine nk_icond (c := .ne) (off := 5) (len := 3) (t := 47) (pc' := 45) mJ_107 (by decide +kernel) (by decide +kernel) rfl (fun hc => ?_) (fun hc => ?_)
    · have hr := nk_ifn (c := r6 = 0) hc hr
      refine nk_p (i := .aload_n 0) (len := 1) (pc' := 48) mJ_107 (by decide +kernel) (ns_aload_n 2 rfl rfl) rfl ?_
      refine nk_getC (f := (4, 2, 24)) (x := 80) (len := 3) (ci := 13) (k := 29) (pc' := 51) ja_okT mJ_107 (by decide +kernel) (by decide +kernel) (by decide +kernel) (by decide) t_l0 rfl ?_
      have t9 : nk_ar ja_Tt (ja_c l0 29) = some (2, 24) := nk_ta ja_okT t_l0 (by decide +kernel)
      refine nk_p (i := .iload 4) (len := 2) (pc' := 53) mJ_107 (by decide +kernel) (ns_iload 0 rfl) rfl ?_
      obtain ⟨h10, hr⟩ := nk_cke hr
      refine nk_lald (len := 1) (N := 24) (pc' := 54) mJ_107 (by decide +kernel) t9 h10.1 h10.2 rfl rfl ?_
      obtain ⟨v11, h12, hr⟩ := nk_lte hr
      refine nk_p (i := .lstore 5) (len := 2) (pc' := 56) mJ_107 (by decide +kernel) (ns_lstore (L' := [(5, nk_l v11), (4, nk_i v1), (3, nk_i s0), (0, nk_r l0), (1, nk_r l1), (2, nk_i l2)]) h12 rfl (by decide +kernel)) rfl ?_
      refine nk_p (i := .iload_n 2) (len := 1) (pc' := 57) mJ_107 (by decide +kernel) (ns_iload_n 5 rfl rfl) rfl ?_
      refine nk_icond (c := .ne) (off := 25) (len := 3) (t := 82) (pc' := 60) mJ_107 (by decide +kernel) (by decide +kernel) rfl (fun hc => ?_) (fun hc => ?_)
      · have hr := nk_ifn (c := l2 = 0) hc hr
        refine nk_p (i := .iconst 0) (len := 1) (pc' := 83) mJ_107 (by decide +kernel) (ns_iconst (c := 0) (by decide +kernel)) rfl ?_
        refine nk_p (i := .istore 7) (len := 2) (pc' := 85) mJ_107 (by decide +kernel) (ns_istore (L' := [(7, nk_i 0), (5, nk_l v11), (4, nk_i v1), (3, nk_i s0), (0, nk_r l0), (1, nk_r l1), (2, nk_i l2)]) rfl rfl (by decide +kernel)) rfl ?_
        refine nk_p (i := .iconst 0) (len := 1) (pc' := 86) mJ_107 (by decide +kernel) (ns_iconst (c := 0) (by decide +kernel)) rfl ?_
        refine nk_p (i := .istore 8) (len := 2) (pc' := 88) mJ_107 (by decide +kernel) (ns_istore (L' := [(8, nk_i 0), (7, nk_i 0), (5, nk_l v11), (4, nk_i v1), (3, nk_i s0), (0, nk_r l0), (1, nk_r l1), (2, nk_i l2)]) rfl rfl (by decide +kernel)) rfl ?_
        refine nk_sub [5, 6, 2, 1, 0] (L' := [(0, nk_r l0), (1, nk_r l1), (5, nk_l v11), (7, nk_i 0), (8, nk_i 0)]) rfl ?_
        exact ja_X13_element_L88_ok zs nk_big _ _ _ _ _ _ _ t_l0 t_l1 hr
      · have hr := nk_ifp (c := l2 = 0) (Decidable.of_not_not hc) hr
        refine nk_p (i := .aload_n 0) (len := 1) (pc' := 61) mJ_107 (by decide +kernel) (ns_aload_n 3 rfl rfl) rfl ?_
        refine nk_p (i := .dup) (len := 1) (pc' := 62) mJ_107 (by decide +kernel) (ns_dup rfl) rfl ?_
        refine nk_getI (y := (0, 0)) (x := 495) (len := 3) (ci := 13) (k := 25) (pc' := 65) ja_okT mJ_107 (by decide +kernel) (by decide +kernel) (by decide +kernel) t_l0 rfl ?_
        refine nk_p (i := .iconst 2) (len := 1) (pc' := 66) mJ_107 (by decide +kernel) (ns_iconst (c := 2) (by decide +kernel)) rfl ?_
        refine nk_p (i := .isub) (len := 1) (pc' := 67) mJ_107 (by decide +kernel) ns_isub rfl ?_
        obtain ⟨S13, h14, hr⟩ := nk_lte hr
        refine nk_putI (y := (0, 0)) (ty := .int) (x := 495) (len := 3) (ci := 13) (k := 25) (pc' := 70) ja_okT mJ_107 (by decide +kernel) (by decide +kernel) (by decide +kernel) t_l0 (Or.inl rfl) rfl h14 ?_
        refine nk_p (i := .aload_n 0) (len := 1) (pc' := 71) mJ_107 (by decide +kernel) (ns_aload_n 3 rfl rfl) rfl ?_
        refine nk_p (i := .aload_n 1) (len := 1) (pc' := 72) mJ_107 (by decide +kernel) (ns_aload_n 4 rfl rfl) rfl ?_
        refine nk_p (i := .sipush 2592) (len := 3) (pc' := 75) mJ_107 (by decide +kernel) (ns_sipush (c := 2592) (by decide +kernel)) rfl ?_
        refine nk_p (i := .iconst 1) (len := 1) (pc' := 76) mJ_107 (by decide +kernel) (ns_iconst (c := 1) (by decide +kernel)) rfl ?_
        refine nk_p (i := .lload 5) (len := 2) (pc' := 78) mJ_107 (by decide +kernel) (ns_lload 0 rfl) rfl ?_
        obtain ⟨r15, S16, h17, hr⟩ := nk_bde hr
        refine nk_callV (ci := 13) (n := 4) (x := 754) (len := 3) (j' := 177) (q' := 1) (r := r15) (S' := S16) (L2 := [(0, nk_r l0), (1, nk_r l1), (2, nk_i 2592), (3, nk_i 1), (4, nk_l v11)]) (rest := []) (st' := [nk_i r15]) (pc' := 81) mJ_107 (by decide +kernel) (by decide +kernel) rfl rfl t_l0 (Nat.le_of_ble_eq_true rfl) mJ_177 (Nat.le_of_ble_eq_true rfl) rfl (ja_X13_leaveValues_ok zs _ _ _ _ _ _ _ t_l0 t_l1 h17) rfl ?_
        obtain ⟨h18, hr⟩ := nk_cke hr
        cases hr
        exact nk_iret (ty := .boolean) (len := 1) mJ_107 (by decide +kernel) rfl (nk_nar_z h18)
    · have hr := nk_ifp (c := r6 = 0) (Decidable.of_not_not hc) hr
      refine nk_p (i := .iconst 0) (len := 1) (pc' := 46) mJ_107 (by decide +kernel) (ns_iconst (c := 0) (by decide +kernel)) rfl ?_
      cases hr
      exact nk_iret (ty := .boolean) (len := 1) mJ_107 (by decide +kernel) rfl (nk_nar_z (by decide))
noncomputable def ja_X13_element (l0 : Nat) (l1 : Nat) (l2 : Int) (S : nk_S) : Option (Int × nk_S) :=
  if l2 = 0 then
    ja_X13_element_b19 l0 l1 l2 (nk_w ((S.1 l0 25) - 1)) S
  else
    ja_X13_element_b19 l0 l1 l2 (nk_w ((S.1 l0 25) - 2)) S
theorem ja_X13_element_ok (zs : List Int32) : ∀ (l0 : Nat) (l1 : Nat) (l2 : Int) (S : nk_S) (R : Int × nk_S), nk_cl ja_Tt l0 = some 13 → nk_cl ja_Tt l1 = some 12 → ja_X13_element l0 l1 l2 S = some R → nk_K ja_Tt mi_Γ (mi_ev zs) 1 107 0 [(0, nk_r l0), (1, nk_r l1), (2, nk_i l2)] [] S R := by
  intro l0 l1 l2 S R t_l0 t_l1 hr
  unfold ja_X13_element at hr
  refine nk_p (i := .iload_n 2) (len := 1) (pc' := 1) mJ_107 (by decide +kernel) (ns_iload_n 2 rfl rfl) rfl ?_
  refine nk_icond (c := .eq) (off := 12) (len := 3) (t := 13) (pc' := 4) mJ_107 (by decide +kernel) (by decide +kernel) rfl (fun hc => ?_) (fun hc => ?_)
  · have hr := nk_ifp (c := l2 = 0) hc hr
    refine nk_p (i := .aload_n 0) (len := 1) (pc' := 14) mJ_107 (by decide +kernel) (ns_aload_n 0 rfl rfl) rfl ?_
    refine nk_getI (y := (0, 0)) (x := 495) (len := 3) (ci := 13) (k := 25) (pc' := 17) ja_okT mJ_107 (by decide +kernel) (by decide +kernel) (by decide +kernel) t_l0 rfl ?_
    refine nk_p (i := .iconst 1) (len := 1) (pc' := 18) mJ_107 (by decide +kernel) (ns_iconst (c := 1) (by decide +kernel)) rfl ?_
    refine nk_p (i := .isub) (len := 1) (pc' := 19) mJ_107 (by decide +kernel) ns_isub rfl ?_
    exact ja_X13_element_b19_ok zs _ _ _ _ _ _ t_l0 t_l1 hr
  · have hr := nk_ifn (c := l2 = 0) hc hr
    refine nk_p (i := .aload_n 0) (len := 1) (pc' := 5) mJ_107 (by decide +kernel) (ns_aload_n 0 rfl rfl) rfl ?_
    refine nk_getI (y := (0, 0)) (x := 495) (len := 3) (ci := 13) (k := 25) (pc' := 8) ja_okT mJ_107 (by decide +kernel) (by decide +kernel) (by decide +kernel) t_l0 rfl ?_
    refine nk_p (i := .iconst 2) (len := 1) (pc' := 9) mJ_107 (by decide +kernel) (ns_iconst (c := 2) (by decide +kernel)) rfl ?_
    refine nk_p (i := .isub) (len := 1) (pc' := 10) mJ_107 (by decide +kernel) ns_isub rfl ?_
    refine nk_p (i := .goto 9) (len := 3) (pc' := 19) mJ_107 (by decide +kernel) (ns_goto (by decide +kernel)) rfl ?_
    exact ja_X13_element_b19_ok zs _ _ _ _ _ _ t_l0 t_l1 hr
/-! SafeCodeModel isObject (J)Z -/
noncomputable def ja_X13_isObject (l0 : Int) (S : nk_S) : Option (Int × nk_S) :=
  if l0 ≤ 1099511627776 then
    some (0, S)
  else
    if l0 = 1125899906842624 then
      some (0, S)
    else
      some (1, S)
theorem ja_X13_isObject_ok (zs : List Int32) : ∀ (l0 : Int) (S : nk_S) (R : Int × nk_S), ja_X13_isObject l0 S = some R → nk_K ja_Tt mi_Γ (mi_ev zs) 1 155 0 [(0, nk_l l0)] [] S R := by
  intro l0 S R hr
  unfold ja_X13_isObject at hr
  refine nk_p (i := .lload_n 0) (len := 1) (pc' := 1) mJ_155 (by decide +kernel) (ns_lload_n 0 rfl rfl) rfl ?_
  refine nk_ldc2 (x := 846) (len := 3) (X := 1099511627776) (v := 1099511627776) (pc' := 4) mJ_155 (by decide +kernel) (by decide +kernel) (by decide +kernel) rfl ?_
  refine nk_p (i := .lcmp) (len := 1) (pc' := 5) mJ_155 (by decide +kernel) ns_lcmp rfl ?_
  refine nk_lcond (c := .le) (off := 15) (len := 3) (t := 20) (pc' := 8) mJ_155 (by decide +kernel) (by decide +kernel) rfl (fun hc => ?_) (fun hc => ?_)
  · have hr := nk_ifp (c := l0 ≤ 1099511627776) hc hr
    refine nk_p (i := .iconst 0) (len := 1) (pc' := 21) mJ_155 (by decide +kernel) (ns_iconst (c := 0) (by decide +kernel)) rfl ?_
    cases hr
    exact nk_iret (ty := .boolean) (len := 1) mJ_155 (by decide +kernel) rfl (nk_nar_z (by decide))
  · have hr := nk_ifn (c := l0 ≤ 1099511627776) hc hr
    refine nk_p (i := .lload_n 0) (len := 1) (pc' := 9) mJ_155 (by decide +kernel) (ns_lload_n 0 rfl rfl) rfl ?_
    refine nk_ldc2 (x := 844) (len := 3) (X := 1125899906842624) (v := 1125899906842624) (pc' := 12) mJ_155 (by decide +kernel) (by decide +kernel) (by decide +kernel) rfl ?_
    refine nk_p (i := .lcmp) (len := 1) (pc' := 13) mJ_155 (by decide +kernel) ns_lcmp rfl ?_
    refine nk_lcond (c := .eq) (off := 7) (len := 3) (t := 20) (pc' := 16) mJ_155 (by decide +kernel) (by decide +kernel) rfl (fun hc => ?_) (fun hc => ?_)
    · have hr := nk_ifp (c := l0 = 1125899906842624) hc hr
      refine nk_p (i := .iconst 0) (len := 1) (pc' := 21) mJ_155 (by decide +kernel) (ns_iconst (c := 0) (by decide +kernel)) rfl ?_
      cases hr
      exact nk_iret (ty := .boolean) (len := 1) mJ_155 (by decide +kernel) rfl (nk_nar_z (by decide))
    · have hr := nk_ifn (c := l0 = 1125899906842624) hc hr
      refine nk_p (i := .iconst 1) (len := 1) (pc' := 17) mJ_155 (by decide +kernel) (ns_iconst (c := 1) (by decide +kernel)) rfl ?_
      refine nk_p (i := .goto 4) (len := 3) (pc' := 21) mJ_155 (by decide +kernel) (ns_goto (by decide +kernel)) rfl ?_
      cases hr
      exact nk_iret (ty := .boolean) (len := 1) mJ_155 (by decide +kernel) rfl (nk_nar_z (by decide))
/-! SafeCodeModel elementStep (II)V -/
noncomputable def ja_X13_elementStep_b71 (l0 : Nat) (l2 : Int) (S : nk_S) : Option (Int × nk_S) :=
  nk_bd (ja_X13_raise l0 1 l2 S) fun r1 S2 =>
  some (0, S2)
theorem ja_X13_elementStep_b71_ok (zs : List Int32) : ∀ (l0 : Nat) (l2 : Int) (S : nk_S) (R : Int × nk_S), nk_cl ja_Tt l0 = some 13 → ja_X13_elementStep_b71 l0 l2 S = some R → nk_K ja_Tt mi_Γ (mi_ev zs) 0 109 71 [(0, nk_r l0), (2, nk_i l2)] [] S R := by
  intro l0 l2 S R t_l0 hr
  unfold ja_X13_elementStep_b71 at hr
  refine nk_p (i := .aload_n 0) (len := 1) (pc' := 72) mJ_109 (by decide +kernel) (ns_aload_n 0 rfl rfl) rfl ?_
  refine nk_p (i := .iconst 1) (len := 1) (pc' := 73) mJ_109 (by decide +kernel) (ns_iconst (c := 1) (by decide +kernel)) rfl ?_
  refine nk_p (i := .iload_n 2) (len := 1) (pc' := 74) mJ_109 (by decide +kernel) (ns_iload_n 1 rfl rfl) rfl ?_
  obtain ⟨r1, S2, h3, hr⟩ := nk_bde hr
  refine nk_callV (ci := 13) (n := 2) (x := 902) (len := 3) (j' := 214) (q' := 0) (r := r1) (S' := S2) (L2 := [(0, nk_r l0), (1, nk_i 1), (2, nk_i l2)]) (rest := []) (st' := []) (pc' := 77) mJ_109 (by decide +kernel) (by decide +kernel) rfl rfl t_l0 (Nat.le_of_ble_eq_true rfl) mJ_214 (Nat.le_of_ble_eq_true rfl) rfl (ja_X13_raise_ok zs _ _ _ _ _ t_l0 h3) rfl ?_
  cases hr
  exact nk_vret (len := 1) mJ_109 (by decide +kernel) rfl
noncomputable def ja_X13_elementStep_b162 (l0 : Nat) (S : nk_S) : Option (Int × nk_S) :=
  nk_bd (ja_X13_next l0 S) fun r1 S2 =>
  some (0, S2)
theorem ja_X13_elementStep_b162_ok (zs : List Int32) : ∀ (l0 : Nat) (S : nk_S) (R : Int × nk_S), nk_cl ja_Tt l0 = some 13 → ja_X13_elementStep_b162 l0 S = some R → nk_K ja_Tt mi_Γ (mi_ev zs) 0 109 162 [(0, nk_r l0)] [] S R := by
  intro l0 S R t_l0 hr
  unfold ja_X13_elementStep_b162 at hr
  refine nk_p (i := .aload_n 0) (len := 1) (pc' := 163) mJ_109 (by decide +kernel) (ns_aload_n 0 rfl rfl) rfl ?_
  obtain ⟨r1, S2, h3, hr⟩ := nk_bde hr
  refine nk_callV (ci := 13) (n := 0) (x := 899) (len := 3) (j' := 194) (q' := 0) (r := r1) (S' := S2) (L2 := [(0, nk_r l0)]) (rest := []) (st' := []) (pc' := 166) mJ_109 (by decide +kernel) (by decide +kernel) rfl rfl t_l0 (Nat.le_of_ble_eq_true rfl) mJ_194 (Nat.le_of_ble_eq_true rfl) rfl (ja_X13_next_ok zs _ _ _ t_l0 h3) rfl ?_
  cases hr
  exact nk_vret (len := 1) mJ_109 (by decide +kernel) rfl
noncomputable def ja_X13_elementStep_b154 (l0 : Nat) (l3 : Int) (l10 : Int) (S : nk_S) : Option (Int × nk_S) :=
  if 0 ≤ l10 ∧ l10 < 12000 then
  nk_lt (nk_wi S (ja_c l0 49) l10.toNat l3) fun S3 =>
  ja_X13_elementStep_b162 l0 S3
  else none
theorem ja_X13_elementStep_b154_ok (zs : List Int32) : ∀ (l0 : Nat) (l3 : Int) (l10 : Int) (S : nk_S) (R : Int × nk_S), nk_cl ja_Tt l0 = some 13 → ja_X13_elementStep_b154 l0 l3 l10 S = some R → nk_K ja_Tt mi_Γ (mi_ev zs) 0 109 154 [(0, nk_r l0), (3, nk_l l3), (10, nk_i l10)] [] S R := by
  intro l0 l3 l10 S R t_l0 hr
  unfold ja_X13_elementStep_b154 at hr
  refine nk_p (i := .aload_n 0) (len := 1) (pc' := 155) mJ_109 (by decide +kernel) (ns_aload_n 0 rfl rfl) rfl ?_
  refine nk_getC (f := (4, 2, 12000)) (x := 126) (len := 3) (ci := 13) (k := 49) (pc' := 158) ja_okT mJ_109 (by decide +kernel) (by decide +kernel) (by decide +kernel) (by decide) t_l0 rfl ?_
  have t1 : nk_ar ja_Tt (ja_c l0 49) = some (2, 12000) := nk_ta ja_okT t_l0 (by decide +kernel)
  refine nk_p (i := .iload 10) (len := 2) (pc' := 160) mJ_109 (by decide +kernel) (ns_iload 2 rfl) rfl ?_
  refine nk_p (i := .lload_n 3) (len := 1) (pc' := 161) mJ_109 (by decide +kernel) (ns_lload_n 1 rfl rfl) rfl ?_
  obtain ⟨h2, hr⟩ := nk_cke hr
  obtain ⟨S3, h4, hr⟩ := nk_lte hr
  refine nk_last (len := 1) (N := 12000) (pc' := 162) mJ_109 (by decide +kernel) t1 h2.1 h2.2 rfl rfl h4 ?_
  refine nk_sub [0] (L' := [(0, nk_r l0)]) rfl ?_
  exact ja_X13_elementStep_b162_ok zs _ _ _ t_l0 hr
noncomputable def ja_X13_elementStep_b14 (l0 : Nat) (l1 : Int) (l2 : Int) (s0 : Int) (S : nk_S) : Option (Int × nk_S) :=
  nk_bd (ja_X13_pop l0 S) fun r1 S2 =>
  nk_bd (ja_X13_pop l0 S2) fun r4 S5 =>
  if r4 = 1099511627776 then
    nk_bd (ja_X13_raise l0 0 l2 S5) fun r38 S39 =>
    some (0, S39)
  else
    nk_bd (ja_X13_objectOf r4 S5) fun r7 S8 =>
    if r1 < 0 then
      ja_X13_elementStep_b71 l0 l2 S8
    else
      if 0 ≤ r7 ∧ r7 < 2000 then
      if r1 < (S8.1 (ja_c l0 48) r7.toNat) then
        nk_lt (nk_w ((S8.1 (ja_c l0 47) r7.toNat) + (nk_w r1))) fun v13 =>
        if l1 = 33 then
          if 0 ≤ v13 ∧ v13 < 12000 then
          nk_bd (ja_X13_push l0 (S8.1 (ja_c l0 49) v13.toNat) S8) fun r35 S36 =>
          ja_X13_elementStep_b162 l0 S36
          else none
        else
          nk_bd (ja_X13_isObject s0 S8) fun r15 S16 =>
          if r15 = 0 then
            ja_X13_elementStep_b154 l0 s0 v13 S16
          else
            nk_bd (ja_X13_objectOf s0 S16) fun r20 S21 =>
            if 0 ≤ r20 ∧ r20 < 2000 then
            nk_bd (ja_X13_elementOf (S21.1 (ja_c l0 45) r7.toNat) S21) fun r24 S25 =>
            nk_bd (ja_X13_isBelow (S16.2 l0 0) (S21.1 (ja_c l0 45) r20.toNat) r24 S25) fun r27 S28 =>
            if r27 = 0 then
              nk_bd (ja_X13_raise l0 5 l2 S28) fun r30 S31 =>
              some (0, S31)
            else
              ja_X13_elementStep_b154 l0 s0 v13 S28
            else none
      else
        ja_X13_elementStep_b71 l0 l2 S8
      else none
theorem ja_X13_elementStep_b14_ok (zs : List Int32) : ∀ (l0 : Nat) (l1 : Int) (l2 : Int) (s0 : Int) (S : nk_S) (R : Int × nk_S), nk_cl ja_Tt l0 = some 13 → ja_X13_elementStep_b14 l0 l1 l2 s0 S = some R → nk_K ja_Tt mi_Γ (mi_ev zs) 0 109 14 [(0, nk_r l0), (1, nk_i l1), (2, nk_i l2)] [nk_l s0] S R := by
  intro l0 l1 l2 s0 S R t_l0 hr
  unfold ja_X13_elementStep_b14 at hr
  refine nk_p (i := .lstore_n 3) (len := 1) (pc' := 15) mJ_109 (by decide +kernel) (ns_lstore_n (L' := [(3, nk_l s0), (0, nk_r l0), (1, nk_i l1), (2, nk_i l2)]) rfl rfl rfl (by decide +kernel)) rfl ?_
  refine nk_p (i := .aload_n 0) (len := 1) (pc' := 16) mJ_109 (by decide +kernel) (ns_aload_n 1 rfl rfl) rfl ?_
  obtain ⟨r1, S2, h3, hr⟩ := nk_bde hr
  refine nk_callV (ci := 13) (n := 0) (x := 885) (len := 3) (j' := 208) (q' := 2) (r := r1) (S' := S2) (L2 := [(0, nk_r l0)]) (rest := []) (st' := [nk_l r1]) (pc' := 19) mJ_109 (by decide +kernel) (by decide +kernel) rfl rfl t_l0 (Nat.le_of_ble_eq_true rfl) mJ_208 (Nat.le_of_ble_eq_true rfl) rfl (ja_X13_pop_ok zs _ _ _ t_l0 h3) rfl ?_
  refine nk_p (i := .lstore 5) (len := 2) (pc' := 21) mJ_109 (by decide +kernel) (ns_lstore (L' := [(5, nk_l r1), (3, nk_l s0), (0, nk_r l0), (1, nk_i l1), (2, nk_i l2)]) rfl rfl (by decide +kernel)) rfl ?_
  refine nk_p (i := .aload_n 0) (len := 1) (pc' := 22) mJ_109 (by decide +kernel) (ns_aload_n 2 rfl rfl) rfl ?_
  obtain ⟨r4, S5, h6, hr⟩ := nk_bde hr
  refine nk_callV (ci := 13) (n := 0) (x := 885) (len := 3) (j' := 208) (q' := 2) (r := r4) (S' := S5) (L2 := [(0, nk_r l0)]) (rest := []) (st' := [nk_l r4]) (pc' := 25) mJ_109 (by decide +kernel) (by decide +kernel) rfl rfl t_l0 (Nat.le_of_ble_eq_true rfl) mJ_208 (Nat.le_of_ble_eq_true rfl) rfl (ja_X13_pop_ok zs _ _ _ t_l0 h6) rfl ?_
  refine nk_p (i := .lstore 7) (len := 2) (pc' := 27) mJ_109 (by decide +kernel) (ns_lstore (L' := [(7, nk_l r4), (5, nk_l r1), (3, nk_l s0), (0, nk_r l0), (1, nk_i l1), (2, nk_i l2)]) rfl rfl (by decide +kernel)) rfl ?_
  refine nk_p (i := .lload 7) (len := 2) (pc' := 29) mJ_109 (by decide +kernel) (ns_lload 0 rfl) rfl ?_
  refine nk_ldc2 (x := 846) (len := 3) (X := 1099511627776) (v := 1099511627776) (pc' := 32) mJ_109 (by decide +kernel) (by decide +kernel) (by decide +kernel) rfl ?_
  refine nk_p (i := .lcmp) (len := 1) (pc' := 33) mJ_109 (by decide +kernel) ns_lcmp rfl ?_
  refine nk_lcond (c := .ne) (off := 10) (len := 3) (t := 43) (pc' := 36) mJ_109 (by decide +kernel) (by decide +kernel) rfl (fun hc => ?_) (fun hc => ?_)
  · have hr := nk_ifn (c := r4 = 1099511627776) hc hr
    refine nk_p (i := .lload 7) (len := 2) (pc' := 45) mJ_109 (by decide +kernel) (ns_lload 0 rfl) rfl ?_
    obtain ⟨r7, S8, h9, hr⟩ := nk_bde hr
    refine nk_callS (ci := 0) (n := 1) (x := 852) (len := 3) (j' := 200) (q' := 1) (r := r7) (S' := S8) (L2 := [(0, nk_l r4)]) (rest := []) (st' := [nk_i r7]) (pc' := 48) mJ_109 (by decide +kernel) (by decide +kernel) (Nat.le_of_ble_eq_true rfl) rfl rfl (Nat.le_of_ble_eq_true rfl) mJ_200 (Nat.le_of_ble_eq_true rfl) ja_Tpos rfl (ja_X13_objectOf_ok zs _ _ _ h9) rfl ?_
    refine nk_p (i := .istore 9) (len := 2) (pc' := 50) mJ_109 (by decide +kernel) (ns_istore (L' := [(9, nk_i r7), (7, nk_l r4), (5, nk_l r1), (3, nk_l s0), (0, nk_r l0), (1, nk_i l1), (2, nk_i l2)]) rfl rfl (by decide +kernel)) rfl ?_
    refine nk_p (i := .lload 5) (len := 2) (pc' := 52) mJ_109 (by decide +kernel) (ns_lload 2 rfl) rfl ?_
    refine nk_p (i := .lconst 0) (len := 1) (pc' := 53) mJ_109 (by decide +kernel) (ns_lconst (c := 0) (by decide +kernel)) rfl ?_
    refine nk_p (i := .lcmp) (len := 1) (pc' := 54) mJ_109 (by decide +kernel) ns_lcmp rfl ?_
    refine nk_lcond (c := .lt) (off := 17) (len := 3) (t := 71) (pc' := 57) mJ_109 (by decide +kernel) (by decide +kernel) rfl (fun hc => ?_) (fun hc => ?_)
    · have hr := nk_ifp (c := r1 < 0) hc hr
      refine nk_sub [4, 6] (L' := [(0, nk_r l0), (2, nk_i l2)]) rfl ?_
      exact ja_X13_elementStep_b71_ok zs _ _ _ _ t_l0 hr
    · have hr := nk_ifn (c := r1 < 0) hc hr
      refine nk_p (i := .lload 5) (len := 2) (pc' := 59) mJ_109 (by decide +kernel) (ns_lload 2 rfl) rfl ?_
      refine nk_p (i := .aload_n 0) (len := 1) (pc' := 60) mJ_109 (by decide +kernel) (ns_aload_n 4 rfl rfl) rfl ?_
      refine nk_getC (f := (4, 1, 2000)) (x := 123) (len := 3) (ci := 13) (k := 48) (pc' := 63) ja_okT mJ_109 (by decide +kernel) (by decide +kernel) (by decide +kernel) (by decide) t_l0 rfl ?_
      have t10 : nk_ar ja_Tt (ja_c l0 48) = some (1, 2000) := nk_ta ja_okT t_l0 (by decide +kernel)
      refine nk_p (i := .iload 9) (len := 2) (pc' := 65) mJ_109 (by decide +kernel) (ns_iload 0 rfl) rfl ?_
      obtain ⟨h11, hr⟩ := nk_cke hr
      refine nk_iald (len := 1) (N := 2000) (pc' := 66) mJ_109 (by decide +kernel) t10 h11.1 h11.2 rfl rfl ?_
      refine nk_p (i := .i2l) (len := 1) (pc' := 67) mJ_109 (by decide +kernel) ns_i2l rfl ?_
      refine nk_p (i := .lcmp) (len := 1) (pc' := 68) mJ_109 (by decide +kernel) ns_lcmp rfl ?_
      refine nk_lcond (c := .lt) (off := 10) (len := 3) (t := 78) (pc' := 71) mJ_109 (by decide +kernel) (by decide +kernel) rfl (fun hc => ?_) (fun hc => ?_)
      · have hr := nk_ifp (c := r1 < (S8.1 (ja_c l0 48) r7.toNat)) hc hr
        refine nk_p (i := .aload_n 0) (len := 1) (pc' := 79) mJ_109 (by decide +kernel) (ns_aload_n 4 rfl rfl) rfl ?_
        refine nk_getC (f := (4, 1, 2000)) (x := 120) (len := 3) (ci := 13) (k := 47) (pc' := 82) ja_okT mJ_109 (by decide +kernel) (by decide +kernel) (by decide +kernel) (by decide) t_l0 rfl ?_
        have t12 : nk_ar ja_Tt (ja_c l0 47) = some (1, 2000) := nk_ta ja_okT t_l0 (by decide +kernel)
        refine nk_p (i := .iload 9) (len := 2) (pc' := 84) mJ_109 (by decide +kernel) (ns_iload 0 rfl) rfl ?_
        refine nk_iald (len := 1) (N := 2000) (pc' := 85) mJ_109 (by decide +kernel) t12 h11.1 h11.2 rfl rfl ?_
        refine nk_p (i := .lload 5) (len := 2) (pc' := 87) mJ_109 (by decide +kernel) (ns_lload 2 rfl) rfl ?_
        refine nk_p (i := .l2i) (len := 1) (pc' := 88) mJ_109 (by decide +kernel) ns_l2i rfl ?_
        refine nk_p (i := .iadd) (len := 1) (pc' := 89) mJ_109 (by decide +kernel) ns_iadd rfl ?_
        obtain ⟨v13, h14, hr⟩ := nk_lte hr
        refine nk_p (i := .istore 10) (len := 2) (pc' := 91) mJ_109 (by decide +kernel) (ns_istore (L' := [(10, nk_i v13), (9, nk_i r7), (7, nk_l r4), (5, nk_l r1), (3, nk_l s0), (0, nk_r l0), (1, nk_i l1), (2, nk_i l2)]) h14 rfl (by decide +kernel)) rfl ?_
        refine nk_p (i := .iload_n 1) (len := 1) (pc' := 92) mJ_109 (by decide +kernel) (ns_iload_n 6 rfl rfl) rfl ?_
        refine nk_p (i := .bipush 33) (len := 2) (pc' := 94) mJ_109 (by decide +kernel) (ns_bipush (c := 33) (by decide +kernel)) rfl ?_
        refine nk_icmp (c := .ne) (off := 17) (len := 3) (t := 111) (pc' := 97) mJ_109 (by decide +kernel) (by decide +kernel) rfl (fun hc => ?_) (fun hc => ?_)
        · have hr := nk_ifn (c := l1 = 33) hc hr
          refine nk_p (i := .lload_n 3) (len := 1) (pc' := 112) mJ_109 (by decide +kernel) (ns_lload_n 4 rfl rfl) rfl ?_
          obtain ⟨r15, S16, h17, hr⟩ := nk_bde hr
          refine nk_callS (ci := 0) (n := 1) (x := 848) (len := 3) (j' := 155) (q' := 1) (r := r15) (S' := S16) (L2 := [(0, nk_l s0)]) (rest := []) (st' := [nk_i r15]) (pc' := 115) mJ_109 (by decide +kernel) (by decide +kernel) (Nat.le_of_ble_eq_true rfl) rfl rfl (Nat.le_of_ble_eq_true rfl) mJ_155 (Nat.le_of_ble_eq_true rfl) ja_Tpos rfl (ja_X13_isObject_ok zs _ _ _ h17) rfl ?_
          refine nk_icond (c := .eq) (off := 39) (len := 3) (t := 154) (pc' := 118) mJ_109 (by decide +kernel) (by decide +kernel) rfl (fun hc => ?_) (fun hc => ?_)
          · have hr := nk_ifp (c := r15 = 0) hc hr
            refine nk_sub [5, 4, 0] (L' := [(0, nk_r l0), (3, nk_l s0), (10, nk_i v13)]) rfl ?_
            exact ja_X13_elementStep_b154_ok zs _ _ _ _ _ t_l0 hr
          · have hr := nk_ifn (c := r15 = 0) hc hr
            refine nk_p (i := .aload_n 0) (len := 1) (pc' := 119) mJ_109 (by decide +kernel) (ns_aload_n 5 rfl rfl) rfl ?_
            refine nk_getM (cj := 12) (z := 0) (x := 12) (len := 3) (ci := 13) (k := 0) (pc' := 122) ja_okT mJ_109 (by decide +kernel) (by decide +kernel) (by decide +kernel) t_l0 rfl (fun t18 => ?_)
            refine nk_p (i := .aload_n 0) (len := 1) (pc' := 123) mJ_109 (by decide +kernel) (ns_aload_n 5 rfl rfl) rfl ?_
            refine nk_getC (f := (4, 1, 2000)) (x := 114) (len := 3) (ci := 13) (k := 45) (pc' := 126) ja_okT mJ_109 (by decide +kernel) (by decide +kernel) (by decide +kernel) (by decide) t_l0 rfl ?_
            have t19 : nk_ar ja_Tt (ja_c l0 45) = some (1, 2000) := nk_ta ja_okT t_l0 (by decide +kernel)
            refine nk_p (i := .lload_n 3) (len := 1) (pc' := 127) mJ_109 (by decide +kernel) (ns_lload_n 4 rfl rfl) rfl ?_
            obtain ⟨r20, S21, h22, hr⟩ := nk_bde hr
            refine nk_callS (ci := 0) (n := 1) (x := 852) (len := 3) (j' := 200) (q' := 1) (r := r20) (S' := S21) (L2 := [(0, nk_l s0)]) (rest := [nk_r (ja_c l0 45), nk_r (S16.2 l0 0)]) (st' := [nk_i r20, nk_r (ja_c l0 45), nk_r (S16.2 l0 0)]) (pc' := 130) mJ_109 (by decide +kernel) (by decide +kernel) (Nat.le_of_ble_eq_true rfl) rfl rfl (Nat.le_of_ble_eq_true rfl) mJ_200 (Nat.le_of_ble_eq_true rfl) ja_Tpos rfl (ja_X13_objectOf_ok zs _ _ _ h22) rfl ?_
            obtain ⟨h23, hr⟩ := nk_cke hr
            refine nk_iald (len := 1) (N := 2000) (pc' := 131) mJ_109 (by decide +kernel) t19 h23.1 h23.2 rfl rfl ?_
            refine nk_p (i := .aload_n 0) (len := 1) (pc' := 132) mJ_109 (by decide +kernel) (ns_aload_n 5 rfl rfl) rfl ?_
            refine nk_getC (f := (4, 1, 2000)) (x := 114) (len := 3) (ci := 13) (k := 45) (pc' := 135) ja_okT mJ_109 (by decide +kernel) (by decide +kernel) (by decide +kernel) (by decide) t_l0 rfl ?_
            refine nk_p (i := .iload 9) (len := 2) (pc' := 137) mJ_109 (by decide +kernel) (ns_iload 1 rfl) rfl ?_
            refine nk_iald (len := 1) (N := 2000) (pc' := 138) mJ_109 (by decide +kernel) t19 h11.1 h11.2 rfl rfl ?_
            obtain ⟨r24, S25, h26, hr⟩ := nk_bde hr
            refine nk_callS (ci := 0) (n := 1) (x := 514) (len := 3) (j' := 108) (q' := 1) (r := r24) (S' := S25) (L2 := [(0, nk_i (S21.1 (ja_c l0 45) r7.toNat))]) (rest := [nk_i (S21.1 (ja_c l0 45) r20.toNat), nk_r (S16.2 l0 0)]) (st' := [nk_i r24, nk_i (S21.1 (ja_c l0 45) r20.toNat), nk_r (S16.2 l0 0)]) (pc' := 141) mJ_109 (by decide +kernel) (by decide +kernel) (Nat.le_of_ble_eq_true rfl) rfl rfl (Nat.le_of_ble_eq_true rfl) mJ_108 (Nat.le_of_ble_eq_true rfl) ja_Tpos rfl (ja_X13_elementOf_ok zs _ _ _ h26) rfl ?_
            obtain ⟨r27, S28, h29, hr⟩ := nk_bde hr
            refine nk_callS (ci := 0) (n := 3) (x := 486) (len := 3) (j' := 143) (q' := 1) (r := r27) (S' := S28) (L2 := [(0, nk_r (S16.2 l0 0)), (1, nk_i (S21.1 (ja_c l0 45) r20.toNat)), (2, nk_i r24)]) (rest := []) (st' := [nk_i r27]) (pc' := 144) mJ_109 (by decide +kernel) (by decide +kernel) (Nat.le_of_ble_eq_true rfl) rfl rfl (Nat.le_of_ble_eq_true rfl) mJ_143 (Nat.le_of_ble_eq_true rfl) ja_Tpos rfl (ja_X13_isBelow_ok zs _ _ _ _ _ t18 h29) rfl ?_
            refine nk_icond (c := .ne) (off := 10) (len := 3) (t := 154) (pc' := 147) mJ_109 (by decide +kernel) (by decide +kernel) rfl (fun hc => ?_) (fun hc => ?_)
            · have hr := nk_ifn (c := r27 = 0) hc hr
              refine nk_sub [5, 4, 0] (L' := [(0, nk_r l0), (3, nk_l s0), (10, nk_i v13)]) rfl ?_
              exact ja_X13_elementStep_b154_ok zs _ _ _ _ _ t_l0 hr
            · have hr := nk_ifp (c := r27 = 0) (Decidable.of_not_not hc) hr
              refine nk_p (i := .aload_n 0) (len := 1) (pc' := 148) mJ_109 (by decide +kernel) (ns_aload_n 5 rfl rfl) rfl ?_
              refine nk_p (i := .iconst 5) (len := 1) (pc' := 149) mJ_109 (by decide +kernel) (ns_iconst (c := 5) (by decide +kernel)) rfl ?_
              refine nk_p (i := .iload_n 2) (len := 1) (pc' := 150) mJ_109 (by decide +kernel) (ns_iload_n 7 rfl rfl) rfl ?_
              obtain ⟨r30, S31, h32, hr⟩ := nk_bde hr
              refine nk_callV (ci := 13) (n := 2) (x := 902) (len := 3) (j' := 214) (q' := 0) (r := r30) (S' := S31) (L2 := [(0, nk_r l0), (1, nk_i 5), (2, nk_i l2)]) (rest := []) (st' := []) (pc' := 153) mJ_109 (by decide +kernel) (by decide +kernel) rfl rfl t_l0 (Nat.le_of_ble_eq_true rfl) mJ_214 (Nat.le_of_ble_eq_true rfl) rfl (ja_X13_raise_ok zs _ _ _ _ _ t_l0 h32) rfl ?_
              cases hr
              exact nk_vret (len := 1) mJ_109 (by decide +kernel) rfl
        · have hr := nk_ifp (c := l1 = 33) (Decidable.of_not_not hc) hr
          refine nk_p (i := .aload_n 0) (len := 1) (pc' := 98) mJ_109 (by decide +kernel) (ns_aload_n 5 rfl rfl) rfl ?_
          refine nk_p (i := .aload_n 0) (len := 1) (pc' := 99) mJ_109 (by decide +kernel) (ns_aload_n 5 rfl rfl) rfl ?_
          refine nk_getC (f := (4, 2, 12000)) (x := 126) (len := 3) (ci := 13) (k := 49) (pc' := 102) ja_okT mJ_109 (by decide +kernel) (by decide +kernel) (by decide +kernel) (by decide) t_l0 rfl ?_
          have t33 : nk_ar ja_Tt (ja_c l0 49) = some (2, 12000) := nk_ta ja_okT t_l0 (by decide +kernel)
          refine nk_p (i := .iload 10) (len := 2) (pc' := 104) mJ_109 (by decide +kernel) (ns_iload 0 rfl) rfl ?_
          obtain ⟨h34, hr⟩ := nk_cke hr
          refine nk_lald (len := 1) (N := 12000) (pc' := 105) mJ_109 (by decide +kernel) t33 h34.1 h34.2 rfl rfl ?_
          obtain ⟨r35, S36, h37, hr⟩ := nk_bde hr
          refine nk_callV (ci := 13) (n := 1) (x := 882) (len := 3) (j' := 211) (q' := 0) (r := r35) (S' := S36) (L2 := [(0, nk_r l0), (1, nk_l (S8.1 (ja_c l0 49) v13.toNat))]) (rest := []) (st' := []) (pc' := 108) mJ_109 (by decide +kernel) (by decide +kernel) rfl rfl t_l0 (Nat.le_of_ble_eq_true rfl) mJ_211 (Nat.le_of_ble_eq_true rfl) rfl (ja_X13_push_ok zs _ _ _ _ t_l0 h37) rfl ?_
          refine nk_p (i := .goto 54) (len := 3) (pc' := 162) mJ_109 (by decide +kernel) (ns_goto (by decide +kernel)) rfl ?_
          refine nk_sub [5] (L' := [(0, nk_r l0)]) rfl ?_
          exact ja_X13_elementStep_b162_ok zs _ _ _ t_l0 hr
      · have hr := nk_ifn (c := r1 < (S8.1 (ja_c l0 48) r7.toNat)) hc hr
        refine nk_sub [4, 6] (L' := [(0, nk_r l0), (2, nk_i l2)]) rfl ?_
        exact ja_X13_elementStep_b71_ok zs _ _ _ _ t_l0 hr
  · have hr := nk_ifp (c := r4 = 1099511627776) (Decidable.of_not_not hc) hr
    refine nk_p (i := .aload_n 0) (len := 1) (pc' := 37) mJ_109 (by decide +kernel) (ns_aload_n 3 rfl rfl) rfl ?_
    refine nk_p (i := .iconst 0) (len := 1) (pc' := 38) mJ_109 (by decide +kernel) (ns_iconst (c := 0) (by decide +kernel)) rfl ?_
    refine nk_p (i := .iload_n 2) (len := 1) (pc' := 39) mJ_109 (by decide +kernel) (ns_iload_n 5 rfl rfl) rfl ?_
    obtain ⟨r38, S39, h40, hr⟩ := nk_bde hr
    refine nk_callV (ci := 13) (n := 2) (x := 902) (len := 3) (j' := 214) (q' := 0) (r := r38) (S' := S39) (L2 := [(0, nk_r l0), (1, nk_i 0), (2, nk_i l2)]) (rest := []) (st' := []) (pc' := 42) mJ_109 (by decide +kernel) (by decide +kernel) rfl rfl t_l0 (Nat.le_of_ble_eq_true rfl) mJ_214 (Nat.le_of_ble_eq_true rfl) rfl (ja_X13_raise_ok zs _ _ _ _ _ t_l0 h40) rfl ?_
    cases hr
    exact nk_vret (len := 1) mJ_109 (by decide +kernel) rfl
noncomputable def ja_X13_elementStep (l0 : Nat) (l1 : Int) (l2 : Int) (S : nk_S) : Option (Int × nk_S) :=
  if l1 = 34 then
    nk_bd (ja_X13_pop l0 S) fun r1 S2 =>
    ja_X13_elementStep_b14 l0 l1 l2 r1 S2
  else
    ja_X13_elementStep_b14 l0 l1 l2 0 S
theorem ja_X13_elementStep_ok (zs : List Int32) : ∀ (l0 : Nat) (l1 : Int) (l2 : Int) (S : nk_S) (R : Int × nk_S), nk_cl ja_Tt l0 = some 13 → ja_X13_elementStep l0 l1 l2 S = some R → nk_K ja_Tt mi_Γ (mi_ev zs) 0 109 0 [(0, nk_r l0), (1, nk_i l1), (2, nk_i l2)] [] S R := by
  intro l0 l1 l2 S R t_l0 hr
  unfold ja_X13_elementStep at hr
  refine nk_p (i := .iload_n 1) (len := 1) (pc' := 1) mJ_109 (by decide +kernel) (ns_iload_n 1 rfl rfl) rfl ?_
  refine nk_p (i := .bipush 34) (len := 2) (pc' := 3) mJ_109 (by decide +kernel) (ns_bipush (c := 34) (by decide +kernel)) rfl ?_
  refine nk_icmp (c := .ne) (off := 10) (len := 3) (t := 13) (pc' := 6) mJ_109 (by decide +kernel) (by decide +kernel) rfl (fun hc => ?_) (fun hc => ?_)
  · have hr := nk_ifn (c := l1 = 34) hc hr
    refine nk_p (i := .lconst 0) (len := 1) (pc' := 14) mJ_109 (by decide +kernel) (ns_lconst (c := 0) (by decide +kernel)) rfl ?_
    exact ja_X13_elementStep_b14_ok zs _ _ _ _ _ _ t_l0 hr
  · have hr := nk_ifp (c := l1 = 34) (Decidable.of_not_not hc) hr
    refine nk_p (i := .aload_n 0) (len := 1) (pc' := 7) mJ_109 (by decide +kernel) (ns_aload_n 0 rfl rfl) rfl ?_
    obtain ⟨r1, S2, h3, hr⟩ := nk_bde hr
    refine nk_callV (ci := 13) (n := 0) (x := 885) (len := 3) (j' := 208) (q' := 2) (r := r1) (S' := S2) (L2 := [(0, nk_r l0)]) (rest := []) (st' := [nk_l r1]) (pc' := 10) mJ_109 (by decide +kernel) (by decide +kernel) rfl rfl t_l0 (Nat.le_of_ble_eq_true rfl) mJ_208 (Nat.le_of_ble_eq_true rfl) rfl (ja_X13_pop_ok zs _ _ _ t_l0 h3) rfl ?_
    refine nk_p (i := .goto 4) (len := 3) (pc' := 14) mJ_109 (by decide +kernel) (ns_goto (by decide +kernel)) rfl ?_
    exact ja_X13_elementStep_b14_ok zs _ _ _ _ _ _ t_l0 hr
