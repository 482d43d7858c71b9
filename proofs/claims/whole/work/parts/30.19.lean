/-! SafeCodeModel fieldStep (LSafeCodeModel$Program;IZ)Z -/
noncomputable def ja_X13_fieldStep_b69 (rec69 : Nat → Nat → Int → Int → Int → nk_S → Option (Int × nk_S)) (l0 : Nat) (l1 : Nat) (l2 : Int) (l5 : Int) (l7 : Int) (S : nk_S) : Option (Int × nk_S) :=
  if (S.1 l1 4) ≤ l7 then
    nk_lt (nk_wi S l0 25 (nk_w ((S.1 l0 25) - 2))) fun S1 =>
    some (1, S1)
  else
    if (nk_land (nk_lshr l5 l7) 1) = 1 then
      nk_bd (ja_X13_joinSlotInto l0 l1 (nk_w ((nk_w (l7 * 48)) + l2)) (nk_w ((S.1 l0 25) - 1)) S) fun r5 S6 =>
      nk_lt (nk_w (l7 + 1)) fun v8 =>
      rec69 l0 l1 l2 l5 v8 S6
    else
      nk_lt (nk_w (l7 + 1)) fun v3 =>
      rec69 l0 l1 l2 l5 v3 S
theorem ja_X13_fieldStep_b69_ok (zs : List Int32) {rec69 : Nat → Nat → Int → Int → Int → nk_S → Option (Int × nk_S)} (hrec69 : ∀ (l0 : Nat) (l1 : Nat) (l2 : Int) (l5 : Int) (l7 : Int) (S : nk_S) (R : Int × nk_S), nk_cl ja_Tt l0 = some 13 → nk_cl ja_Tt l1 = some 12 → rec69 l0 l1 l2 l5 l7 S = some R → nk_K ja_Tt mi_Γ (mi_ev zs) 1 123 69 [(0, nk_r l0), (1, nk_r l1), (2, nk_i l2), (5, nk_l l5), (7, nk_i l7)] [] S R) : ∀ (l0 : Nat) (l1 : Nat) (l2 : Int) (l5 : Int) (l7 : Int) (S : nk_S) (R : Int × nk_S), nk_cl ja_Tt l0 = some 13 → nk_cl ja_Tt l1 = some 12 → ja_X13_fieldStep_b69 rec69 l0 l1 l2 l5 l7 S = some R → nk_K ja_Tt mi_Γ (mi_ev zs) 1 123 69 [(0, nk_r l0), (1, nk_r l1), (2, nk_i l2), (5, nk_l l5), (7, nk_i l7)] [] S R := by
  intro l0 l1 l2 l5 l7 S R t_l0 t_l1 hr
  unfold ja_X13_fieldStep_b69 at hr
  refine nk_p (i := .iload 7) (len := 2) (pc' := 71) mJ_123 (by decide +kernel) (ns_iload 4 rfl) rfl ?_
  refine nk_p (i := .aload_n 1) (len := 1) (pc' := 72) mJ_123 (by decide +kernel) (ns_aload_n 1 rfl rfl) rfl ?_
  refine nk_getI (y := (0, 0)) (x := 356) (len := 3) (ci := 12) (k := 4) (pc' := 75) ja_okT mJ_123 (by decide +kernel) (by decide +kernel) (by decide +kernel) t_l1 rfl ?_
  refine nk_icmp (c := .ge) (off := 39) (len := 3) (t := 114) (pc' := 78) mJ_123 (by decide +kernel) (by decide +kernel) rfl (fun hc => ?_) (fun hc => ?_)
  · have hr := nk_ifp (c := (S.1 l1 4) ≤ l7) hc hr
    refine nk_p (i := .aload_n 0) (len := 1) (pc' := 115) mJ_123 (by decide +kernel) (ns_aload_n 0 rfl rfl) rfl ?_
    refine nk_p (i := .dup) (len := 1) (pc' := 116) mJ_123 (by decide +kernel) (ns_dup rfl) rfl ?_
    refine nk_getI (y := (0, 0)) (x := 495) (len := 3) (ci := 13) (k := 25) (pc' := 119) ja_okT mJ_123 (by decide +kernel) (by decide +kernel) (by decide +kernel) t_l0 rfl ?_
    refine nk_p (i := .iconst 2) (len := 1) (pc' := 120) mJ_123 (by decide +kernel) (ns_iconst (c := 2) (by decide +kernel)) rfl ?_
    refine nk_p (i := .isub) (len := 1) (pc' := 121) mJ_123 (by decide +kernel) ns_isub rfl ?_
    obtain ⟨S1, h2, hr⟩ := nk_lte hr
    refine nk_putI (y := (0, 0)) (ty := .int) (x := 495) (len := 3) (ci := 13) (k := 25) (pc' := 124) ja_okT mJ_123 (by decide +kernel) (by decide +kernel) (by decide +kernel) t_l0 (Or.inl rfl) rfl h2 ?_
    refine nk_p (i := .iconst 1) (len := 1) (pc' := 125) mJ_123 (by decide +kernel) (ns_iconst (c := 1) (by decide +kernel)) rfl ?_
    cases hr
    exact nk_iret (ty := .boolean) (len := 1) mJ_123 (by decide +kernel) rfl (nk_nar_z (by decide))
  · have hr := nk_ifn (c := (S.1 l1 4) ≤ l7) hc hr
    refine nk_p (i := .lload 5) (len := 2) (pc' := 80) mJ_123 (by decide +kernel) (ns_lload 3 rfl) rfl ?_
    refine nk_p (i := .iload 7) (len := 2) (pc' := 82) mJ_123 (by decide +kernel) (ns_iload 4 rfl) rfl ?_
    refine nk_p (i := .lshr) (len := 1) (pc' := 83) mJ_123 (by decide +kernel) ns_lshr rfl ?_
    refine nk_p (i := .lconst 1) (len := 1) (pc' := 84) mJ_123 (by decide +kernel) (ns_lconst (c := 1) (by decide +kernel)) rfl ?_
    refine nk_p (i := .land) (len := 1) (pc' := 85) mJ_123 (by decide +kernel) ns_land rfl ?_
    refine nk_p (i := .lconst 1) (len := 1) (pc' := 86) mJ_123 (by decide +kernel) (ns_lconst (c := 1) (by decide +kernel)) rfl ?_
    refine nk_p (i := .lcmp) (len := 1) (pc' := 87) mJ_123 (by decide +kernel) ns_lcmp rfl ?_
    refine nk_lcond (c := .ne) (off := 21) (len := 3) (t := 108) (pc' := 90) mJ_123 (by decide +kernel) (by decide +kernel) rfl (fun hc => ?_) (fun hc => ?_)
    · have hr := nk_ifn (c := (nk_land (nk_lshr l5 l7) 1) = 1) hc hr
      obtain ⟨v3, h4, hr⟩ := nk_lte hr
      refine nk_p (i := .iinc 7 1) (len := 3) (pc' := 111) mJ_123 (by decide +kernel) (ns_iinc (c := 1) (L' := [(7, nk_i v3), (0, nk_r l0), (1, nk_r l1), (2, nk_i l2), (5, nk_l l5)]) 4 rfl (by decide +kernel) h4 rfl (by decide +kernel)) rfl ?_
      refine nk_p (i := .goto (-42)) (len := 3) (pc' := 69) mJ_123 (by decide +kernel) (ns_goto (by decide +kernel)) rfl ?_
      refine nk_sub [1, 2, 3, 4, 0] (L' := [(0, nk_r l0), (1, nk_r l1), (2, nk_i l2), (5, nk_l l5), (7, nk_i v3)]) rfl ?_
      exact hrec69 _ _ _ _ _ _ _ t_l0 t_l1 hr
    · have hr := nk_ifp (c := (nk_land (nk_lshr l5 l7) 1) = 1) (Decidable.of_not_not hc) hr
      refine nk_p (i := .aload_n 0) (len := 1) (pc' := 91) mJ_123 (by decide +kernel) (ns_aload_n 0 rfl rfl) rfl ?_
      refine nk_p (i := .aload_n 1) (len := 1) (pc' := 92) mJ_123 (by decide +kernel) (ns_aload_n 1 rfl rfl) rfl ?_
      refine nk_p (i := .iload 7) (len := 2) (pc' := 94) mJ_123 (by decide +kernel) (ns_iload 4 rfl) rfl ?_
      refine nk_p (i := .bipush 48) (len := 2) (pc' := 96) mJ_123 (by decide +kernel) (ns_bipush (c := 48) (by decide +kernel)) rfl ?_
      refine nk_p (i := .imul) (len := 1) (pc' := 97) mJ_123 (by decide +kernel) ns_imul rfl ?_
      refine nk_p (i := .iload_n 2) (len := 1) (pc' := 98) mJ_123 (by decide +kernel) (ns_iload_n 2 rfl rfl) rfl ?_
      refine nk_p (i := .iadd) (len := 1) (pc' := 99) mJ_123 (by decide +kernel) ns_iadd rfl ?_
      refine nk_p (i := .aload_n 0) (len := 1) (pc' := 100) mJ_123 (by decide +kernel) (ns_aload_n 0 rfl rfl) rfl ?_
      refine nk_getI (y := (0, 0)) (x := 495) (len := 3) (ci := 13) (k := 25) (pc' := 103) ja_okT mJ_123 (by decide +kernel) (by decide +kernel) (by decide +kernel) t_l0 rfl ?_
      refine nk_p (i := .iconst 1) (len := 1) (pc' := 104) mJ_123 (by decide +kernel) (ns_iconst (c := 1) (by decide +kernel)) rfl ?_
      refine nk_p (i := .isub) (len := 1) (pc' := 105) mJ_123 (by decide +kernel) ns_isub rfl ?_
      obtain ⟨r5, S6, h7, hr⟩ := nk_bde hr
      refine nk_callV (ci := 13) (n := 3) (x := 725) (len := 3) (j' := 168) (q' := 0) (r := r5) (S' := S6) (L2 := [(0, nk_r l0), (1, nk_r l1), (2, nk_i (nk_w ((nk_w (l7 * 48)) + l2))), (3, nk_i (nk_w ((S.1 l0 25) - 1)))]) (rest := []) (st' := []) (pc' := 108) mJ_123 (by decide +kernel) (by decide +kernel) rfl rfl t_l0 (Nat.le_of_ble_eq_true rfl) mJ_168 (Nat.le_of_ble_eq_true rfl) rfl (ja_X13_joinSlotInto_ok zs _ _ _ _ _ _ t_l0 t_l1 h7) rfl ?_
      obtain ⟨v8, h9, hr⟩ := nk_lte hr
      refine nk_p (i := .iinc 7 1) (len := 3) (pc' := 111) mJ_123 (by decide +kernel) (ns_iinc (c := 1) (L' := [(7, nk_i v8), (0, nk_r l0), (1, nk_r l1), (2, nk_i l2), (5, nk_l l5)]) 4 rfl (by decide +kernel) h9 rfl (by decide +kernel)) rfl ?_
      refine nk_p (i := .goto (-42)) (len := 3) (pc' := 69) mJ_123 (by decide +kernel) (ns_goto (by decide +kernel)) rfl ?_
      refine nk_sub [1, 2, 3, 4, 0] (L' := [(0, nk_r l0), (1, nk_r l1), (2, nk_i l2), (5, nk_l l5), (7, nk_i v8)]) rfl ?_
      exact hrec69 _ _ _ _ _ _ _ t_l0 t_l1 hr
noncomputable def ja_X13_fieldStep_L69 : Nat → Nat → Nat → Int → Int → Int → nk_S → Option (Int × nk_S)
  | 0, _, _, _, _, _, _ => none
  | n + 1, l0, l1, l2, l5, l7, S => ja_X13_fieldStep_b69 (ja_X13_fieldStep_L69 n) l0 l1 l2 l5 l7 S
theorem ja_X13_fieldStep_L69_ok (zs : List Int32) : ∀ n : Nat, ∀ (l0 : Nat) (l1 : Nat) (l2 : Int) (l5 : Int) (l7 : Int) (S : nk_S) (R : Int × nk_S), nk_cl ja_Tt l0 = some 13 → nk_cl ja_Tt l1 = some 12 → ja_X13_fieldStep_L69 n l0 l1 l2 l5 l7 S = some R → nk_K ja_Tt mi_Γ (mi_ev zs) 1 123 69 [(0, nk_r l0), (1, nk_r l1), (2, nk_i l2), (5, nk_l l5), (7, nk_i l7)] [] S R := by
  intro n
  induction n with
  | zero => intro _ _ _ _ _ _ _ _ _ hr; cases hr
  | succ n ih => intro l0 l1 l2 l5 l7 S R t_l0 t_l1 hr; exact ja_X13_fieldStep_b69_ok zs ih l0 l1 l2 l5 l7 S R t_l0 t_l1 hr
noncomputable def ja_X13_fieldStep_b19 (l0 : Nat) (l1 : Nat) (l2 : Int) (l3 : Int) (s0 : Int) (S : nk_S) : Option (Int × nk_S) :=
  nk_bd (ja_X13_dereference l0 s0 S) fun r1 S2 =>
  if r1 = 0 then
    some (0, S2)
  else
    if 0 ≤ s0 ∧ s0 < 24 then
    nk_lt (S2.1 (ja_c l0 29) s0.toNat) fun v6 =>
    if l3 = 0 then
      nk_lt (nk_wi S2 l0 25 (nk_w ((S2.1 l0 25) - 1))) fun S8 =>
      nk_bd (ja_X13_leaveValues l0 l1 l2 48 v6 S8) fun r10 S11 =>
      if r10 = 0 ∨ r10 = 1 then
      some (r10, S11)
      else none
    else
      ja_X13_fieldStep_L69 nk_big l0 l1 l2 v6 0 S2
    else none
theorem ja_X13_fieldStep_b19_ok (zs : List Int32) : ∀ (l0 : Nat) (l1 : Nat) (l2 : Int) (l3 : Int) (s0 : Int) (S : nk_S) (R : Int × nk_S), nk_cl ja_Tt l0 = some 13 → nk_cl ja_Tt l1 = some 12 → ja_X13_fieldStep_b19 l0 l1 l2 l3 s0 S = some R → nk_K ja_Tt mi_Γ (mi_ev zs) 1 123 19 [(0, nk_r l0), (1, nk_r l1), (2, nk_i l2), (3, nk_i l3)] [nk_i s0] S R := by
  intro l0 l1 l2 l3 s0 S R t_l0 t_l1 hr
  unfold ja_X13_fieldStep_b19 at hr
  refine nk_p (i := .istore 4) (len := 2) (pc' := 21) mJ_123 (by decide +kernel) (ns_istore (L' := [(4, nk_i s0), (0, nk_r l0), (1, nk_r l1), (2, nk_i l2), (3, nk_i l3)]) rfl rfl (by decide +kernel)) rfl ?_
  refine nk_p (i := .aload_n 0) (len := 1) (pc' := 22) mJ_123 (by decide +kernel) (ns_aload_n 1 rfl rfl) rfl ?_
  refine nk_p (i := .iload 4) (len := 2) (pc' := 24) mJ_123 (by decide +kernel) (ns_iload 0 rfl) rfl ?_
  obtain ⟨r1, S2, h3, hr⟩ := nk_bde hr
  refine nk_callV (ci := 13) (n := 1) (x := 751) (len := 3) (j' := 106) (q' := 1) (r := r1) (S' := S2) (L2 := [(0, nk_r l0), (1, nk_i s0)]) (rest := []) (st' := [nk_i r1]) (pc' := 27) mJ_123 (by decide +kernel) (by decide +kernel) rfl rfl t_l0 (Nat.le_of_ble_eq_true rfl) mJ_106 (Nat.le_of_ble_eq_true rfl) rfl (ja_X13_dereference_ok zs _ _ _ _ t_l0 h3) rfl ?_
  refine nk_icond (c := .ne) (off := 5) (len := 3) (t := 32) (pc' := 30) mJ_123 (by decide +kernel) (by decide +kernel) rfl (fun hc => ?_) (fun hc => ?_)
  · have hr := nk_ifn (c := r1 = 0) hc hr
    refine nk_p (i := .aload_n 0) (len := 1) (pc' := 33) mJ_123 (by decide +kernel) (ns_aload_n 1 rfl rfl) rfl ?_
    refine nk_getC (f := (4, 2, 24)) (x := 80) (len := 3) (ci := 13) (k := 29) (pc' := 36) ja_okT mJ_123 (by decide +kernel) (by decide +kernel) (by decide +kernel) (by decide) t_l0 rfl ?_
    have t4 : nk_ar ja_Tt (ja_c l0 29) = some (2, 24) := nk_ta ja_okT t_l0 (by decide +kernel)
    refine nk_p (i := .iload 4) (len := 2) (pc' := 38) mJ_123 (by decide +kernel) (ns_iload 0 rfl) rfl ?_
    obtain ⟨h5, hr⟩ := nk_cke hr
    refine nk_lald (len := 1) (N := 24) (pc' := 39) mJ_123 (by decide +kernel) t4 h5.1 h5.2 rfl rfl ?_
    obtain ⟨v6, h7, hr⟩ := nk_lte hr
    refine nk_p (i := .lstore 5) (len := 2) (pc' := 41) mJ_123 (by decide +kernel) (ns_lstore (L' := [(5, nk_l v6), (4, nk_i s0), (0, nk_r l0), (1, nk_r l1), (2, nk_i l2), (3, nk_i l3)]) h7 rfl (by decide +kernel)) rfl ?_
    refine nk_p (i := .iload_n 3) (len := 1) (pc' := 42) mJ_123 (by decide +kernel) (ns_iload_n 5 rfl rfl) rfl ?_
    refine nk_icond (c := .ne) (off := 24) (len := 3) (t := 66) (pc' := 45) mJ_123 (by decide +kernel) (by decide +kernel) rfl (fun hc => ?_) (fun hc => ?_)
    · have hr := nk_ifn (c := l3 = 0) hc hr
      refine nk_p (i := .iconst 0) (len := 1) (pc' := 67) mJ_123 (by decide +kernel) (ns_iconst (c := 0) (by decide +kernel)) rfl ?_
      refine nk_p (i := .istore 7) (len := 2) (pc' := 69) mJ_123 (by decide +kernel) (ns_istore (L' := [(7, nk_i 0), (5, nk_l v6), (4, nk_i s0), (0, nk_r l0), (1, nk_r l1), (2, nk_i l2), (3, nk_i l3)]) rfl rfl (by decide +kernel)) rfl ?_
      refine nk_sub [3, 4, 5, 1, 0] (L' := [(0, nk_r l0), (1, nk_r l1), (2, nk_i l2), (5, nk_l v6), (7, nk_i 0)]) rfl ?_
      exact ja_X13_fieldStep_L69_ok zs nk_big _ _ _ _ _ _ _ t_l0 t_l1 hr
    · have hr := nk_ifp (c := l3 = 0) (Decidable.of_not_not hc) hr
      refine nk_p (i := .aload_n 0) (len := 1) (pc' := 46) mJ_123 (by decide +kernel) (ns_aload_n 2 rfl rfl) rfl ?_
      refine nk_p (i := .dup) (len := 1) (pc' := 47) mJ_123 (by decide +kernel) (ns_dup rfl) rfl ?_
      refine nk_getI (y := (0, 0)) (x := 495) (len := 3) (ci := 13) (k := 25) (pc' := 50) ja_okT mJ_123 (by decide +kernel) (by decide +kernel) (by decide +kernel) t_l0 rfl ?_
      refine nk_p (i := .iconst 1) (len := 1) (pc' := 51) mJ_123 (by decide +kernel) (ns_iconst (c := 1) (by decide +kernel)) rfl ?_
      refine nk_p (i := .isub) (len := 1) (pc' := 52) mJ_123 (by decide +kernel) ns_isub rfl ?_
      obtain ⟨S8, h9, hr⟩ := nk_lte hr
      refine nk_putI (y := (0, 0)) (ty := .int) (x := 495) (len := 3) (ci := 13) (k := 25) (pc' := 55) ja_okT mJ_123 (by decide +kernel) (by decide +kernel) (by decide +kernel) t_l0 (Or.inl rfl) rfl h9 ?_
      refine nk_p (i := .aload_n 0) (len := 1) (pc' := 56) mJ_123 (by decide +kernel) (ns_aload_n 2 rfl rfl) rfl ?_
      refine nk_p (i := .aload_n 1) (len := 1) (pc' := 57) mJ_123 (by decide +kernel) (ns_aload_n 3 rfl rfl) rfl ?_
      refine nk_p (i := .iload_n 2) (len := 1) (pc' := 58) mJ_123 (by decide +kernel) (ns_iload_n 4 rfl rfl) rfl ?_
      refine nk_p (i := .bipush 48) (len := 2) (pc' := 60) mJ_123 (by decide +kernel) (ns_bipush (c := 48) (by decide +kernel)) rfl ?_
      refine nk_p (i := .lload 5) (len := 2) (pc' := 62) mJ_123 (by decide +kernel) (ns_lload 0 rfl) rfl ?_
      obtain ⟨r10, S11, h12, hr⟩ := nk_bde hr
      refine nk_callV (ci := 13) (n := 4) (x := 754) (len := 3) (j' := 177) (q' := 1) (r := r10) (S' := S11) (L2 := [(0, nk_r l0), (1, nk_r l1), (2, nk_i l2), (3, nk_i 48), (4, nk_l v6)]) (rest := []) (st' := [nk_i r10]) (pc' := 65) mJ_123 (by decide +kernel) (by decide +kernel) rfl rfl t_l0 (Nat.le_of_ble_eq_true rfl) mJ_177 (Nat.le_of_ble_eq_true rfl) rfl (ja_X13_leaveValues_ok zs _ _ _ _ _ _ _ t_l0 t_l1 h12) rfl ?_
      obtain ⟨h13, hr⟩ := nk_cke hr
      cases hr
      exact nk_iret (ty := .boolean) (len := 1) mJ_123 (by decide +kernel) rfl (nk_nar_z h13)
  · have hr := nk_ifp (c := r1 = 0) (Decidable.of_not_not hc) hr
    refine nk_p (i := .iconst 0) (len := 1) (pc' := 31) mJ_123 (by decide +kernel) (ns_iconst (c := 0) (by decide +kernel)) rfl ?_
    cases hr
    exact nk_iret (ty := .boolean) (len := 1) mJ_123 (by decide +kernel) rfl (nk_nar_z (by decide))
noncomputable def ja_X13_fieldStep (l0 : Nat) (l1 : Nat) (l2 : Int) (l3 : Int) (S : nk_S) : Option (Int × nk_S) :=
  if l3 = 0 then
    ja_X13_fieldStep_b19 l0 l1 l2 l3 (nk_w ((S.1 l0 25) - 1)) S
  else
    ja_X13_fieldStep_b19 l0 l1 l2 l3 (nk_w ((S.1 l0 25) - 2)) S
theorem ja_X13_fieldStep_ok (zs : List Int32) : ∀ (l0 : Nat) (l1 : Nat) (l2 : Int) (l3 : Int) (S : nk_S) (R : Int × nk_S), nk_cl ja_Tt l0 = some 13 → nk_cl ja_Tt l1 = some 12 → ja_X13_fieldStep l0 l1 l2 l3 S = some R → nk_K ja_Tt mi_Γ (mi_ev zs) 1 123 0 [(0, nk_r l0), (1, nk_r l1), (2, nk_i l2), (3, nk_i l3)] [] S R := by
  intro l0 l1 l2 l3 S R t_l0 t_l1 hr
  unfold ja_X13_fieldStep at hr
  refine nk_p (i := .iload_n 3) (len := 1) (pc' := 1) mJ_123 (by decide +kernel) (ns_iload_n 3 rfl rfl) rfl ?_
  refine nk_icond (c := .eq) (off := 12) (len := 3) (t := 13) (pc' := 4) mJ_123 (by decide +kernel) (by decide +kernel) rfl (fun hc => ?_) (fun hc => ?_)
  · have hr := nk_ifp (c := l3 = 0) hc hr
    refine nk_p (i := .aload_n 0) (len := 1) (pc' := 14) mJ_123 (by decide +kernel) (ns_aload_n 0 rfl rfl) rfl ?_
    refine nk_getI (y := (0, 0)) (x := 495) (len := 3) (ci := 13) (k := 25) (pc' := 17) ja_okT mJ_123 (by decide +kernel) (by decide +kernel) (by decide +kernel) t_l0 rfl ?_
    refine nk_p (i := .iconst 1) (len := 1) (pc' := 18) mJ_123 (by decide +kernel) (ns_iconst (c := 1) (by decide +kernel)) rfl ?_
    refine nk_p (i := .isub) (len := 1) (pc' := 19) mJ_123 (by decide +kernel) ns_isub rfl ?_
    exact ja_X13_fieldStep_b19_ok zs _ _ _ _ _ _ _ t_l0 t_l1 hr
  · have hr := nk_ifn (c := l3 = 0) hc hr
    refine nk_p (i := .aload_n 0) (len := 1) (pc' := 5) mJ_123 (by decide +kernel) (ns_aload_n 0 rfl rfl) rfl ?_
    refine nk_getI (y := (0, 0)) (x := 495) (len := 3) (ci := 13) (k := 25) (pc' := 8) ja_okT mJ_123 (by decide +kernel) (by decide +kernel) (by decide +kernel) t_l0 rfl ?_
    refine nk_p (i := .iconst 2) (len := 1) (pc' := 9) mJ_123 (by decide +kernel) (ns_iconst (c := 2) (by decide +kernel)) rfl ?_
    refine nk_p (i := .isub) (len := 1) (pc' := 10) mJ_123 (by decide +kernel) ns_isub rfl ?_
    refine nk_p (i := .goto 9) (len := 3) (pc' := 19) mJ_123 (by decide +kernel) (ns_goto (by decide +kernel)) rfl ?_
    exact ja_X13_fieldStep_b19_ok zs _ _ _ _ _ _ _ t_l0 t_l1 hr
/-! SafeCodeModel given (LSafeCodeModel$Program;IZ)Z -/
noncomputable def ja_X13_given_b34 (l1 : Nat) (l2 : Int) (S : nk_S) : Option (Int × nk_S) :=
  if 0 ≤ l2 ∧ l2 < 48 then
  nk_lt (nk_wi S (ja_c l1 50) l2.toNat 1) fun S3 =>
  some (0, S3)
  else none
theorem ja_X13_given_b34_ok (zs : List Int32) : ∀ (l1 : Nat) (l2 : Int) (S : nk_S) (R : Int × nk_S), nk_cl ja_Tt l1 = some 12 → ja_X13_given_b34 l1 l2 S = some R → nk_K ja_Tt mi_Γ (mi_ev zs) 1 125 34 [(1, nk_r l1), (2, nk_i l2)] [] S R := by
  intro l1 l2 S R t_l1 hr
  unfold ja_X13_given_b34 at hr
  refine nk_p (i := .aload_n 1) (len := 1) (pc' := 35) mJ_125 (by decide +kernel) (ns_aload_n 0 rfl rfl) rfl ?_
  refine nk_getC (f := (4, 3, 48)) (x := 607) (len := 3) (ci := 12) (k := 50) (pc' := 38) ja_okT mJ_125 (by decide +kernel) (by decide +kernel) (by decide +kernel) (by decide) t_l1 rfl ?_
  have t1 : nk_ar ja_Tt (ja_c l1 50) = some (3, 48) := nk_ta ja_okT t_l1 (by decide +kernel)
  refine nk_p (i := .iload_n 2) (len := 1) (pc' := 39) mJ_125 (by decide +kernel) (ns_iload_n 1 rfl rfl) rfl ?_
  refine nk_p (i := .iconst 1) (len := 1) (pc' := 40) mJ_125 (by decide +kernel) (ns_iconst (c := 1) (by decide +kernel)) rfl ?_
  obtain ⟨h2, hr⟩ := nk_cke hr
  obtain ⟨S3, h4, hr⟩ := nk_lte hr
  refine nk_zast (len := 1) (N := 48) (pc' := 41) mJ_125 (by decide +kernel) t1 h2.1 h2.2 (by decide) rfl rfl h4 ?_
  refine nk_p (i := .iconst 0) (len := 1) (pc' := 42) mJ_125 (by decide +kernel) (ns_iconst (c := 0) (by decide +kernel)) rfl ?_
  cases hr
  exact nk_iret (ty := .boolean) (len := 1) mJ_125 (by decide +kernel) rfl (nk_nar_z (by decide))
noncomputable def ja_X13_given_b20 (l0 : Nat) (l1 : Nat) (l2 : Int) (S : nk_S) : Option (Int × nk_S) :=
  if 0 ≤ l2 ∧ l2 < 48 then
  if (S.1 (ja_c l1 50) l2.toNat) = 0 then
    nk_lt (nk_wi S l0 37 1) fun S3 =>
    ja_X13_given_b34 l1 l2 S3
  else
    ja_X13_given_b34 l1 l2 S
  else none
theorem ja_X13_given_b20_ok (zs : List Int32) : ∀ (l0 : Nat) (l1 : Nat) (l2 : Int) (S : nk_S) (R : Int × nk_S), nk_cl ja_Tt l0 = some 13 → nk_cl ja_Tt l1 = some 12 → ja_X13_given_b20 l0 l1 l2 S = some R → nk_K ja_Tt mi_Γ (mi_ev zs) 1 125 20 [(0, nk_r l0), (1, nk_r l1), (2, nk_i l2)] [] S R := by
  intro l0 l1 l2 S R t_l0 t_l1 hr
  unfold ja_X13_given_b20 at hr
  refine nk_p (i := .aload_n 1) (len := 1) (pc' := 21) mJ_125 (by decide +kernel) (ns_aload_n 1 rfl rfl) rfl ?_
  refine nk_getC (f := (4, 3, 48)) (x := 607) (len := 3) (ci := 12) (k := 50) (pc' := 24) ja_okT mJ_125 (by decide +kernel) (by decide +kernel) (by decide +kernel) (by decide) t_l1 rfl ?_
  have t1 : nk_ar ja_Tt (ja_c l1 50) = some (3, 48) := nk_ta ja_okT t_l1 (by decide +kernel)
  refine nk_p (i := .iload_n 2) (len := 1) (pc' := 25) mJ_125 (by decide +kernel) (ns_iload_n 2 rfl rfl) rfl ?_
  obtain ⟨h2, hr⟩ := nk_cke hr
  refine nk_bald (t := 3) (len := 1) (N := 48) (pc' := 26) mJ_125 (by decide +kernel) t1 (by decide) h2.1 h2.2 rfl rfl ?_
  refine nk_icond (c := .ne) (off := 8) (len := 3) (t := 34) (pc' := 29) mJ_125 (by decide +kernel) (by decide +kernel) rfl (fun hc => ?_) (fun hc => ?_)
  · have hr := nk_ifn (c := (S.1 (ja_c l1 50) l2.toNat) = 0) hc hr
    refine nk_sub [1, 2] (L' := [(1, nk_r l1), (2, nk_i l2)]) rfl ?_
    exact ja_X13_given_b34_ok zs _ _ _ _ t_l1 hr
  · have hr := nk_ifp (c := (S.1 (ja_c l1 50) l2.toNat) = 0) (Decidable.of_not_not hc) hr
    refine nk_p (i := .aload_n 0) (len := 1) (pc' := 30) mJ_125 (by decide +kernel) (ns_aload_n 0 rfl rfl) rfl ?_
    refine nk_p (i := .iconst 1) (len := 1) (pc' := 31) mJ_125 (by decide +kernel) (ns_iconst (c := 1) (by decide +kernel)) rfl ?_
    obtain ⟨S3, h4, hr⟩ := nk_lte hr
    refine nk_putI (y := (0, 0)) (ty := .boolean) (x := 585) (len := 3) (ci := 13) (k := 37) (pc' := 34) ja_okT mJ_125 (by decide +kernel) (by decide +kernel) (by decide +kernel) t_l0 (Or.inr ⟨rfl, by decide⟩) rfl h4 ?_
    refine nk_sub [1, 2] (L' := [(1, nk_r l1), (2, nk_i l2)]) rfl ?_
    exact ja_X13_given_b34_ok zs _ _ _ _ t_l1 hr
noncomputable def ja_X13_given (l0 : Nat) (l1 : Nat) (l2 : Int) (l3 : Int) (S : nk_S) : Option (Int × nk_S) :=
  if l3 = 0 then
    ja_X13_given_b20 l0 l1 l2 S
  else
    nk_bd (ja_X13_joinSlotInto l0 l1 (nk_w (3276 + l2)) (nk_w ((S.1 l0 25) - 1)) S) fun r1 S2 =>
    ja_X13_given_b20 l0 l1 l2 S2
theorem ja_X13_given_ok (zs : List Int32) : ∀ (l0 : Nat) (l1 : Nat) (l2 : Int) (l3 : Int) (S : nk_S) (R : Int × nk_S), nk_cl ja_Tt l0 = some 13 → nk_cl ja_Tt l1 = some 12 → ja_X13_given l0 l1 l2 l3 S = some R → nk_K ja_Tt mi_Γ (mi_ev zs) 1 125 0 [(0, nk_r l0), (1, nk_r l1), (2, nk_i l2), (3, nk_i l3)] [] S R := by
  intro l0 l1 l2 l3 S R t_l0 t_l1 hr
  unfold ja_X13_given at hr
  refine nk_p (i := .iload_n 3) (len := 1) (pc' := 1) mJ_125 (by decide +kernel) (ns_iload_n 3 rfl rfl) rfl ?_
  refine nk_icond (c := .eq) (off := 19) (len := 3) (t := 20) (pc' := 4) mJ_125 (by decide +kernel) (by decide +kernel) rfl (fun hc => ?_) (fun hc => ?_)
  · have hr := nk_ifp (c := l3 = 0) hc hr
    refine nk_sub [0, 1, 2] (L' := [(0, nk_r l0), (1, nk_r l1), (2, nk_i l2)]) rfl ?_
    exact ja_X13_given_b20_ok zs _ _ _ _ _ t_l0 t_l1 hr
  · have hr := nk_ifn (c := l3 = 0) hc hr
    refine nk_p (i := .aload_n 0) (len := 1) (pc' := 5) mJ_125 (by decide +kernel) (ns_aload_n 0 rfl rfl) rfl ?_
    refine nk_p (i := .aload_n 1) (len := 1) (pc' := 6) mJ_125 (by decide +kernel) (ns_aload_n 1 rfl rfl) rfl ?_
    refine nk_p (i := .sipush 3276) (len := 3) (pc' := 9) mJ_125 (by decide +kernel) (ns_sipush (c := 3276) (by decide +kernel)) rfl ?_
    refine nk_p (i := .iload_n 2) (len := 1) (pc' := 10) mJ_125 (by decide +kernel) (ns_iload_n 2 rfl rfl) rfl ?_
    refine nk_p (i := .iadd) (len := 1) (pc' := 11) mJ_125 (by decide +kernel) ns_iadd rfl ?_
    refine nk_p (i := .aload_n 0) (len := 1) (pc' := 12) mJ_125 (by decide +kernel) (ns_aload_n 0 rfl rfl) rfl ?_
    refine nk_getI (y := (0, 0)) (x := 495) (len := 3) (ci := 13) (k := 25) (pc' := 15) ja_okT mJ_125 (by decide +kernel) (by decide +kernel) (by decide +kernel) t_l0 rfl ?_
    refine nk_p (i := .iconst 1) (len := 1) (pc' := 16) mJ_125 (by decide +kernel) (ns_iconst (c := 1) (by decide +kernel)) rfl ?_
    refine nk_p (i := .isub) (len := 1) (pc' := 17) mJ_125 (by decide +kernel) ns_isub rfl ?_
    obtain ⟨r1, S2, h3, hr⟩ := nk_bde hr
    refine nk_callV (ci := 13) (n := 3) (x := 725) (len := 3) (j' := 168) (q' := 0) (r := r1) (S' := S2) (L2 := [(0, nk_r l0), (1, nk_r l1), (2, nk_i (nk_w (3276 + l2))), (3, nk_i (nk_w ((S.1 l0 25) - 1)))]) (rest := []) (st' := []) (pc' := 20) mJ_125 (by decide +kernel) (by decide +kernel) rfl rfl t_l0 (Nat.le_of_ble_eq_true rfl) mJ_168 (Nat.le_of_ble_eq_true rfl) rfl (ja_X13_joinSlotInto_ok zs _ _ _ _ _ _ t_l0 t_l1 h3) rfl ?_
    refine nk_sub [0, 1, 2] (L' := [(0, nk_r l0), (1, nk_r l1), (2, nk_i l2)]) rfl ?_
    exact ja_X13_given_b20_ok zs _ _ _ _ _ t_l0 t_l1 hr
/-! SafeCodeModel goOn (LSafeCodeModel$Program;I)V -/
noncomputable def ja_X13_goOn (l0 : Nat) (l1 : Nat) (l2 : Int) (S : nk_S) : Option (Int × nk_S) :=
  nk_lt (nk_wi S l0 38 1) fun S1 =>
  nk_bd (ja_X13_bring l0 l1 l2 S1) fun r3 S4 =>
  some (0, S4)
theorem ja_X13_goOn_ok (zs : List Int32) : ∀ (l0 : Nat) (l1 : Nat) (l2 : Int) (S : nk_S) (R : Int × nk_S), nk_cl ja_Tt l0 = some 13 → nk_cl ja_Tt l1 = some 12 → ja_X13_goOn l0 l1 l2 S = some R → nk_K ja_Tt mi_Γ (mi_ev zs) 0 126 0 [(0, nk_r l0), (1, nk_r l1), (2, nk_i l2)] [] S R := by
  intro l0 l1 l2 S R t_l0 t_l1 hr
  unfold ja_X13_goOn at hr
  refine nk_p (i := .aload_n 0) (len := 1) (pc' := 1) mJ_126 (by decide +kernel) (ns_aload_n 0 rfl rfl) rfl ?_
  refine nk_p (i := .iconst 1) (len := 1) (pc' := 2) mJ_126 (by decide +kernel) (ns_iconst (c := 1) (by decide +kernel)) rfl ?_
  obtain ⟨S1, h2, hr⟩ := nk_lte hr
  refine nk_putI (y := (0, 0)) (ty := .boolean) (x := 632) (len := 3) (ci := 13) (k := 38) (pc' := 5) ja_okT mJ_126 (by decide +kernel) (by decide +kernel) (by decide +kernel) t_l0 (Or.inr ⟨rfl, by decide⟩) rfl h2 ?_
  refine nk_p (i := .aload_n 0) (len := 1) (pc' := 6) mJ_126 (by decide +kernel) (ns_aload_n 0 rfl rfl) rfl ?_
  refine nk_p (i := .aload_n 1) (len := 1) (pc' := 7) mJ_126 (by decide +kernel) (ns_aload_n 1 rfl rfl) rfl ?_
  refine nk_p (i := .iload_n 2) (len := 1) (pc' := 8) mJ_126 (by decide +kernel) (ns_iload_n 2 rfl rfl) rfl ?_
  obtain ⟨r3, S4, h5, hr⟩ := nk_bde hr
  refine nk_callV (ci := 13) (n := 2) (x := 622) (len := 3) (j' := 92) (q' := 0) (r := r3) (S' := S4) (L2 := [(0, nk_r l0), (1, nk_r l1), (2, nk_i l2)]) (rest := []) (st' := []) (pc' := 11) mJ_126 (by decide +kernel) (by decide +kernel) rfl rfl t_l0 (Nat.le_of_ble_eq_true rfl) mJ_92 (Nat.le_of_ble_eq_true rfl) rfl (ja_X13_bring_ok zs _ _ _ _ _ t_l0 t_l1 h5) rfl ?_
  cases hr
  exact nk_vret (len := 1) mJ_126 (by decide +kernel) rfl
/-! SafeCodeModel range (LSafeCodeModel$Program;IJJ)V -/
noncomputable def ja_X13_range_b57 (l0 : Nat) (l1 : Nat) (l2 : Int) (l5 : Int) (l7 : Int) (s0 : Nat) (s1 : Int) (s2 : Int) (S : nk_S) : Option (Int × nk_S) :=
  if 0 ≤ s1 ∧ s1 < 24 then
  nk_lt (nk_wi S s0 s1.toNat s2) fun S2 =>
  if l7 = 0 then
    if 0 ≤ l2 ∧ l2 < 24 then
    nk_lt (nk_wi S2 (ja_c l0 28) l2.toNat 2147483647) fun S6 =>
    some (0, S6)
    else none
  else
    nk_bd (ja_X13_notBelow l1 l5 S2) fun r8 S9 =>
    if 0 ≤ l2 ∧ l2 < 24 then
    nk_lt (nk_wi S9 (ja_c l0 28) l2.toNat r8) fun S12 =>
    some (0, S12)
    else none
  else none
theorem ja_X13_range_b57_ok (zs : List Int32) : ∀ (l0 : Nat) (l1 : Nat) (l2 : Int) (l5 : Int) (l7 : Int) (s0 : Nat) (s1 : Int) (s2 : Int) (S : nk_S) (R : Int × nk_S), nk_cl ja_Tt l0 = some 13 → nk_cl ja_Tt l1 = some 12 → nk_ar ja_Tt s0 = some (1, 24) → ja_X13_range_b57 l0 l1 l2 l5 l7 s0 s1 s2 S = some R → nk_K ja_Tt mi_Γ (mi_ev zs) 0 216 57 [(0, nk_r l0), (1, nk_r l1), (2, nk_i l2), (5, nk_l l5), (7, nk_i l7)] [nk_i s2, nk_i s1, nk_r s0] S R := by
  intro l0 l1 l2 l5 l7 s0 s1 s2 S R t_l0 t_l1 t_s0 hr
  unfold ja_X13_range_b57 at hr
  obtain ⟨h1, hr⟩ := nk_cke hr
  obtain ⟨S2, h3, hr⟩ := nk_lte hr
  refine nk_iast (len := 1) (N := 24) (pc' := 58) mJ_216 (by decide +kernel) t_s0 h1.1 h1.2 rfl rfl h3 ?_
  refine nk_p (i := .aload_n 0) (len := 1) (pc' := 59) mJ_216 (by decide +kernel) (ns_aload_n 0 rfl rfl) rfl ?_
  refine nk_getC (f := (4, 1, 24)) (x := 77) (len := 3) (ci := 13) (k := 28) (pc' := 62) ja_okT mJ_216 (by decide +kernel) (by decide +kernel) (by decide +kernel) (by decide) t_l0 rfl ?_
  have t4 : nk_ar ja_Tt (ja_c l0 28) = some (1, 24) := nk_ta ja_okT t_l0 (by decide +kernel)
  refine nk_p (i := .iload_n 2) (len := 1) (pc' := 63) mJ_216 (by decide +kernel) (ns_iload_n 2 rfl rfl) rfl ?_
  refine nk_p (i := .iload 7) (len := 2) (pc' := 65) mJ_216 (by decide +kernel) (ns_iload 4 rfl) rfl ?_
  refine nk_icond (c := .eq) (off := 12) (len := 3) (t := 77) (pc' := 68) mJ_216 (by decide +kernel) (by decide +kernel) rfl (fun hc => ?_) (fun hc => ?_)
  · have hr := nk_ifp (c := l7 = 0) hc hr
    refine nk_ldcw (x := 571) (len := 3) (X := 2147483647) (v := 2147483647) (pc' := 80) mJ_216 (by decide +kernel) (by decide +kernel) (by decide +kernel) rfl ?_
    obtain ⟨h5, hr⟩ := nk_cke hr
    obtain ⟨S6, h7, hr⟩ := nk_lte hr
    refine nk_iast (len := 1) (N := 24) (pc' := 81) mJ_216 (by decide +kernel) t4 h5.1 h5.2 rfl rfl h7 ?_
    cases hr
    exact nk_vret (len := 1) mJ_216 (by decide +kernel) rfl
  · have hr := nk_ifn (c := l7 = 0) hc hr
    refine nk_p (i := .aload_n 1) (len := 1) (pc' := 69) mJ_216 (by decide +kernel) (ns_aload_n 1 rfl rfl) rfl ?_
    refine nk_p (i := .lload 5) (len := 2) (pc' := 71) mJ_216 (by decide +kernel) (ns_lload 3 rfl) rfl ?_
    obtain ⟨r8, S9, h10, hr⟩ := nk_bde hr
    refine nk_callS (ci := 0) (n := 2) (x := 568) (len := 3) (j' := 196) (q' := 1) (r := r8) (S' := S9) (L2 := [(0, nk_r l1), (1, nk_l l5)]) (rest := [nk_i l2, nk_r (ja_c l0 28)]) (st' := [nk_i r8, nk_i l2, nk_r (ja_c l0 28)]) (pc' := 74) mJ_216 (by decide +kernel) (by decide +kernel) (Nat.le_of_ble_eq_true rfl) rfl rfl (Nat.le_of_ble_eq_true rfl) mJ_196 (Nat.le_of_ble_eq_true rfl) ja_Tpos rfl (ja_X13_notBelow_ok zs _ _ _ _ t_l1 h10) rfl ?_
    refine nk_p (i := .goto 6) (len := 3) (pc' := 80) mJ_216 (by decide +kernel) (ns_goto (by decide +kernel)) rfl ?_
    obtain ⟨h11, hr⟩ := nk_cke hr
    obtain ⟨S12, h13, hr⟩ := nk_lte hr
    refine nk_iast (len := 1) (N := 24) (pc' := 81) mJ_216 (by decide +kernel) t4 h11.1 h11.2 rfl rfl h13 ?_
    cases hr
    exact nk_vret (len := 1) mJ_216 (by decide +kernel) rfl
noncomputable def ja_X13_range_b27 (l0 : Nat) (l1 : Nat) (l2 : Int) (l3 : Int) (l5 : Int) (s0 : Int) (S : nk_S) : Option (Int × nk_S) :=
  if 0 ≤ l2 ∧ l2 < 24 then
  nk_lt (nk_wi S (ja_c l0 26) l2.toNat (nk_i2b 1)) fun S3 =>
  if s0 = 0 then
    ja_X13_range_b57 l0 l1 l2 l5 s0 (ja_c l0 27) l2 (-2147483648) S3
  else
    nk_bd (ja_X13_notAbove l1 l3 S3) fun r6 S7 =>
    ja_X13_range_b57 l0 l1 l2 l5 s0 (ja_c l0 27) l2 r6 S7
  else none
theorem ja_X13_range_b27_ok (zs : List Int32) : ∀ (l0 : Nat) (l1 : Nat) (l2 : Int) (l3 : Int) (l5 : Int) (s0 : Int) (S : nk_S) (R : Int × nk_S), nk_cl ja_Tt l0 = some 13 → nk_cl ja_Tt l1 = some 12 → ja_X13_range_b27 l0 l1 l2 l3 l5 s0 S = some R → nk_K ja_Tt mi_Γ (mi_ev zs) 0 216 27 [(0, nk_r l0), (1, nk_r l1), (2, nk_i l2), (3, nk_l l3), (5, nk_l l5)] [nk_i s0] S R := by
  intro l0 l1 l2 l3 l5 s0 S R t_l0 t_l1 hr
  unfold ja_X13_range_b27 at hr
  refine nk_p (i := .istore 7) (len := 2) (pc' := 29) mJ_216 (by decide +kernel) (ns_istore (L' := [(7, nk_i s0), (0, nk_r l0), (1, nk_r l1), (2, nk_i l2), (3, nk_l l3), (5, nk_l l5)]) rfl rfl (by decide +kernel)) rfl ?_
  refine nk_p (i := .aload_n 0) (len := 1) (pc' := 30) mJ_216 (by decide +kernel) (ns_aload_n 1 rfl rfl) rfl ?_
  refine nk_getC (f := (4, 0, 24)) (x := 71) (len := 3) (ci := 13) (k := 26) (pc' := 33) ja_okT mJ_216 (by decide +kernel) (by decide +kernel) (by decide +kernel) (by decide) t_l0 rfl ?_
  have t1 : nk_ar ja_Tt (ja_c l0 26) = some (0, 24) := nk_ta ja_okT t_l0 (by decide +kernel)
  refine nk_p (i := .iload_n 2) (len := 1) (pc' := 34) mJ_216 (by decide +kernel) (ns_iload_n 3 rfl rfl) rfl ?_
  refine nk_p (i := .iconst 1) (len := 1) (pc' := 35) mJ_216 (by decide +kernel) (ns_iconst (c := 1) (by decide +kernel)) rfl ?_
  obtain ⟨h2, hr⟩ := nk_cke hr
  obtain ⟨S3, h4, hr⟩ := nk_lte hr
  refine nk_bast (len := 1) (N := 24) (pc' := 36) mJ_216 (by decide +kernel) t1 h2.1 h2.2 rfl rfl h4 ?_
  refine nk_p (i := .aload_n 0) (len := 1) (pc' := 37) mJ_216 (by decide +kernel) (ns_aload_n 1 rfl rfl) rfl ?_
  refine nk_getC (f := (4, 1, 24)) (x := 74) (len := 3) (ci := 13) (k := 27) (pc' := 40) ja_okT mJ_216 (by decide +kernel) (by decide +kernel) (by decide +kernel) (by decide) t_l0 rfl ?_
  have t5 : nk_ar ja_Tt (ja_c l0 27) = some (1, 24) := nk_ta ja_okT t_l0 (by decide +kernel)
  refine nk_p (i := .iload_n 2) (len := 1) (pc' := 41) mJ_216 (by decide +kernel) (ns_iload_n 3 rfl rfl) rfl ?_
  refine nk_p (i := .iload 7) (len := 2) (pc' := 43) mJ_216 (by decide +kernel) (ns_iload 0 rfl) rfl ?_
  refine nk_icond (c := .eq) (off := 11) (len := 3) (t := 54) (pc' := 46) mJ_216 (by decide +kernel) (by decide +kernel) rfl (fun hc => ?_) (fun hc => ?_)
  · have hr := nk_ifp (c := s0 = 0) hc hr
    refine nk_ldcw (x := 567) (len := 3) (X := (-2147483648)) (v := (-2147483648)) (pc' := 57) mJ_216 (by decide +kernel) (by decide +kernel) (by decide +kernel) rfl ?_
    refine nk_sub [1, 2, 3, 5, 0] (L' := [(0, nk_r l0), (1, nk_r l1), (2, nk_i l2), (5, nk_l l5), (7, nk_i s0)]) rfl ?_
    exact ja_X13_range_b57_ok zs _ _ _ _ _ _ _ _ _ _ t_l0 t_l1 t5 hr
  · have hr := nk_ifn (c := s0 = 0) hc hr
    refine nk_p (i := .aload_n 1) (len := 1) (pc' := 47) mJ_216 (by decide +kernel) (ns_aload_n 2 rfl rfl) rfl ?_
    refine nk_p (i := .lload_n 3) (len := 1) (pc' := 48) mJ_216 (by decide +kernel) (ns_lload_n 4 rfl rfl) rfl ?_
    obtain ⟨r6, S7, h8, hr⟩ := nk_bde hr
    refine nk_callS (ci := 0) (n := 2) (x := 563) (len := 3) (j' := 195) (q' := 1) (r := r6) (S' := S7) (L2 := [(0, nk_r l1), (1, nk_l l3)]) (rest := [nk_i l2, nk_r (ja_c l0 27)]) (st' := [nk_i r6, nk_i l2, nk_r (ja_c l0 27)]) (pc' := 51) mJ_216 (by decide +kernel) (by decide +kernel) (Nat.le_of_ble_eq_true rfl) rfl rfl (Nat.le_of_ble_eq_true rfl) mJ_195 (Nat.le_of_ble_eq_true rfl) ja_Tpos rfl (ja_X13_notAbove_ok zs _ _ _ _ t_l1 h8) rfl ?_
    refine nk_p (i := .goto 6) (len := 3) (pc' := 57) mJ_216 (by decide +kernel) (ns_goto (by decide +kernel)) rfl ?_
    refine nk_sub [1, 2, 3, 5, 0] (L' := [(0, nk_r l0), (1, nk_r l1), (2, nk_i l2), (5, nk_l l5), (7, nk_i s0)]) rfl ?_
    exact ja_X13_range_b57_ok zs _ _ _ _ _ _ _ _ _ _ t_l0 t_l1 t5 hr
noncomputable def ja_X13_range_b26 (l0 : Nat) (l1 : Nat) (l2 : Int) (l3 : Int) (l5 : Int) (S : nk_S) : Option (Int × nk_S) :=
  ja_X13_range_b27 l0 l1 l2 l3 l5 0 S
theorem ja_X13_range_b26_ok (zs : List Int32) : ∀ (l0 : Nat) (l1 : Nat) (l2 : Int) (l3 : Int) (l5 : Int) (S : nk_S) (R : Int × nk_S), nk_cl ja_Tt l0 = some 13 → nk_cl ja_Tt l1 = some 12 → ja_X13_range_b26 l0 l1 l2 l3 l5 S = some R → nk_K ja_Tt mi_Γ (mi_ev zs) 0 216 26 [(0, nk_r l0), (1, nk_r l1), (2, nk_i l2), (3, nk_l l3), (5, nk_l l5)] [] S R := by
  intro l0 l1 l2 l3 l5 S R t_l0 t_l1 hr
  unfold ja_X13_range_b26 at hr
  refine nk_p (i := .iconst 0) (len := 1) (pc' := 27) mJ_216 (by decide +kernel) (ns_iconst (c := 0) (by decide +kernel)) rfl ?_
  exact ja_X13_range_b27_ok zs _ _ _ _ _ _ _ _ t_l0 t_l1 hr
noncomputable def ja_X13_range (l0 : Nat) (l1 : Nat) (l2 : Int) (l3 : Int) (l5 : Int) (S : nk_S) : Option (Int × nk_S) :=
  nk_bd (ja_X13_clear l0 l2 S) fun r1 S2 =>
  if l3 < (-2147483648) then
    ja_X13_range_b26 l0 l1 l2 l3 l5 S2
  else
    if 2147483647 < l5 then
      ja_X13_range_b26 l0 l1 l2 l3 l5 S2
    else
      ja_X13_range_b27 l0 l1 l2 l3 l5 1 S2
theorem ja_X13_range_ok (zs : List Int32) : ∀ (l0 : Nat) (l1 : Nat) (l2 : Int) (l3 : Int) (l5 : Int) (S : nk_S) (R : Int × nk_S), nk_cl ja_Tt l0 = some 13 → nk_cl ja_Tt l1 = some 12 → ja_X13_range l0 l1 l2 l3 l5 S = some R → nk_K ja_Tt mi_Γ (mi_ev zs) 0 216 0 [(0, nk_r l0), (1, nk_r l1), (2, nk_i l2), (3, nk_l l3), (5, nk_l l5)] [] S R := by
  intro l0 l1 l2 l3 l5 S R t_l0 t_l1 hr
  unfold ja_X13_range at hr
  refine nk_p (i := .aload_n 0) (len := 1) (pc' := 1) mJ_216 (by decide +kernel) (ns_aload_n 0 rfl rfl) rfl ?_
  refine nk_p (i := .iload_n 2) (len := 1) (pc' := 2) mJ_216 (by decide +kernel) (ns_iload_n 2 rfl rfl) rfl ?_
  obtain ⟨r1, S2, h3, hr⟩ := nk_bde hr
  refine nk_callV (ci := 13) (n := 1) (x := 560) (len := 3) (j' := 101) (q' := 0) (r := r1) (S' := S2) (L2 := [(0, nk_r l0), (1, nk_i l2)]) (rest := []) (st' := []) (pc' := 5) mJ_216 (by decide +kernel) (by decide +kernel) rfl rfl t_l0 (Nat.le_of_ble_eq_true rfl) mJ_101 (Nat.le_of_ble_eq_true rfl) rfl (ja_X13_clear_ok zs _ _ _ _ t_l0 h3) rfl ?_
  refine nk_p (i := .lload_n 3) (len := 1) (pc' := 6) mJ_216 (by decide +kernel) (ns_lload_n 3 rfl rfl) rfl ?_
  refine nk_ldc2 (x := 186) (len := 3) (X := (-2147483648)) (v := (-2147483648)) (pc' := 9) mJ_216 (by decide +kernel) (by decide +kernel) (by decide +kernel) rfl ?_
  refine nk_p (i := .lcmp) (len := 1) (pc' := 10) mJ_216 (by decide +kernel) ns_lcmp rfl ?_
  refine nk_lcond (c := .lt) (off := 16) (len := 3) (t := 26) (pc' := 13) mJ_216 (by decide +kernel) (by decide +kernel) rfl (fun hc => ?_) (fun hc => ?_)
  · have hr := nk_ifp (c := l3 < (-2147483648)) hc hr
    exact ja_X13_range_b26_ok zs _ _ _ _ _ _ _ t_l0 t_l1 hr
  · have hr := nk_ifn (c := l3 < (-2147483648)) hc hr
    refine nk_p (i := .lload 5) (len := 2) (pc' := 15) mJ_216 (by decide +kernel) (ns_lload 4 rfl) rfl ?_
    refine nk_ldc2 (x := 188) (len := 3) (X := 2147483647) (v := 2147483647) (pc' := 18) mJ_216 (by decide +kernel) (by decide +kernel) (by decide +kernel) rfl ?_
    refine nk_p (i := .lcmp) (len := 1) (pc' := 19) mJ_216 (by decide +kernel) ns_lcmp rfl ?_
    refine nk_lcond (c := .gt) (off := 7) (len := 3) (t := 26) (pc' := 22) mJ_216 (by decide +kernel) (by decide +kernel) rfl (fun hc => ?_) (fun hc => ?_)
    · have hr := nk_ifp (c := 2147483647 < l5) hc hr
      exact ja_X13_range_b26_ok zs _ _ _ _ _ _ _ t_l0 t_l1 hr
    · have hr := nk_ifn (c := 2147483647 < l5) hc hr
      refine nk_p (i := .iconst 1) (len := 1) (pc' := 23) mJ_216 (by decide +kernel) (ns_iconst (c := 1) (by decide +kernel)) rfl ?_
      refine nk_p (i := .goto 4) (len := 3) (pc' := 27) mJ_216 (by decide +kernel) (ns_goto (by decide +kernel)) rfl ?_
      exact ja_X13_range_b27_ok zs _ _ _ _ _ _ _ _ t_l0 t_l1 hr
/-! SafeCodeModel leaveRange (LSafeCodeModel$Program;JJ)V -/
noncomputable def ja_X13_leaveRange (l0 : Nat) (l1 : Nat) (l2 : Int) (l4 : Int) (S : nk_S) : Option (Int × nk_S) :=
  nk_bd (ja_X13_range l0 l1 (S.1 l0 25) l2 l4 S) fun r1 S2 =>
  nk_lt (nk_wi S2 l0 25 (nk_w ((S2.1 l0 25) + 1))) fun S4 =>
  some (0, S4)
theorem ja_X13_leaveRange_ok (zs : List Int32) : ∀ (l0 : Nat) (l1 : Nat) (l2 : Int) (l4 : Int) (S : nk_S) (R : Int × nk_S), nk_cl ja_Tt l0 = some 13 → nk_cl ja_Tt l1 = some 12 → ja_X13_leaveRange l0 l1 l2 l4 S = some R → nk_K ja_Tt mi_Γ (mi_ev zs) 0 175 0 [(0, nk_r l0), (1, nk_r l1), (2, nk_l l2), (4, nk_l l4)] [] S R := by
  intro l0 l1 l2 l4 S R t_l0 t_l1 hr
  unfold ja_X13_leaveRange at hr
  refine nk_p (i := .aload_n 0) (len := 1) (pc' := 1) mJ_175 (by decide +kernel) (ns_aload_n 0 rfl rfl) rfl ?_
  refine nk_p (i := .aload_n 1) (len := 1) (pc' := 2) mJ_175 (by decide +kernel) (ns_aload_n 1 rfl rfl) rfl ?_
  refine nk_p (i := .aload_n 0) (len := 1) (pc' := 3) mJ_175 (by decide +kernel) (ns_aload_n 0 rfl rfl) rfl ?_
  refine nk_getI (y := (0, 0)) (x := 495) (len := 3) (ci := 13) (k := 25) (pc' := 6) ja_okT mJ_175 (by decide +kernel) (by decide +kernel) (by decide +kernel) t_l0 rfl ?_
  refine nk_p (i := .lload_n 2) (len := 1) (pc' := 7) mJ_175 (by decide +kernel) (ns_lload_n 2 rfl rfl) rfl ?_
  refine nk_p (i := .lload 4) (len := 2) (pc' := 9) mJ_175 (by decide +kernel) (ns_lload 3 rfl) rfl ?_
  obtain ⟨r1, S2, h3, hr⟩ := nk_bde hr
  refine nk_callV (ci := 13) (n := 4) (x := 572) (len := 3) (j' := 216) (q' := 0) (r := r1) (S' := S2) (L2 := [(0, nk_r l0), (1, nk_r l1), (2, nk_i (S.1 l0 25)), (3, nk_l l2), (5, nk_l l4)]) (rest := []) (st' := []) (pc' := 12) mJ_175 (by decide +kernel) (by decide +kernel) rfl rfl t_l0 (Nat.le_of_ble_eq_true rfl) mJ_216 (Nat.le_of_ble_eq_true rfl) rfl (ja_X13_range_ok zs _ _ _ _ _ _ _ t_l0 t_l1 h3) rfl ?_
  refine nk_p (i := .aload_n 0) (len := 1) (pc' := 13) mJ_175 (by decide +kernel) (ns_aload_n 0 rfl rfl) rfl ?_
  refine nk_p (i := .dup) (len := 1) (pc' := 14) mJ_175 (by decide +kernel) (ns_dup rfl) rfl ?_
  refine nk_getI (y := (0, 0)) (x := 495) (len := 3) (ci := 13) (k := 25) (pc' := 17) ja_okT mJ_175 (by decide +kernel) (by decide +kernel) (by decide +kernel) t_l0 rfl ?_
  refine nk_p (i := .iconst 1) (len := 1) (pc' := 18) mJ_175 (by decide +kernel) (ns_iconst (c := 1) (by decide +kernel)) rfl ?_
  refine nk_p (i := .iadd) (len := 1) (pc' := 19) mJ_175 (by decide +kernel) ns_iadd rfl ?_
  obtain ⟨S4, h5, hr⟩ := nk_lte hr
  refine nk_putI (y := (0, 0)) (ty := .int) (x := 495) (len := 3) (ci := 13) (k := 25) (pc' := 22) ja_okT mJ_175 (by decide +kernel) (by decide +kernel) (by decide +kernel) t_l0 (Or.inl rfl) rfl h5 ?_
  cases hr
  exact nk_vret (len := 1) mJ_175 (by decide +kernel) rfl
/-! SafeCodeModel leaveSites (J)V -/
noncomputable def ja_X13_leaveSites (l0 : Nat) (l1 : Int) (S : nk_S) : Option (Int × nk_S) :=
  nk_bd (ja_X13_clear l0 (S.1 l0 25) S) fun r1 S2 =>
  if 0 ≤ (S2.1 l0 25) ∧ (S2.1 l0 25) < 24 then
  nk_lt (nk_wi S2 (ja_c l0 26) (S2.1 l0 25).toNat (nk_i2b 2)) fun S6 =>
  if 0 ≤ (S6.1 l0 25) ∧ (S6.1 l0 25) < 24 then
  nk_lt (nk_wi S6 (ja_c l0 29) (S6.1 l0 25).toNat l1) fun S10 =>
  nk_lt (nk_wi S10 l0 25 (nk_w ((S10.1 l0 25) + 1))) fun S12 =>
  some (0, S12)
  else none
  else none
theorem ja_X13_leaveSites_ok (zs : List Int32) : ∀ (l0 : Nat) (l1 : Int) (S : nk_S) (R : Int × nk_S), nk_cl ja_Tt l0 = some 13 → ja_X13_leaveSites l0 l1 S = some R → nk_K ja_Tt mi_Γ (mi_ev zs) 0 176 0 [(0, nk_r l0), (1, nk_l l1)] [] S R := by
  intro l0 l1 S R t_l0 hr
  unfold ja_X13_leaveSites at hr
  refine nk_p (i := .aload_n 0) (len := 1) (pc' := 1) mJ_176 (by decide +kernel) (ns_aload_n 0 rfl rfl) rfl ?_
  refine nk_p (i := .aload_n 0) (len := 1) (pc' := 2) mJ_176 (by decide +kernel) (ns_aload_n 0 rfl rfl) rfl ?_
  refine nk_getI (y := (0, 0)) (x := 495) (len := 3) (ci := 13) (k := 25) (pc' := 5) ja_okT mJ_176 (by decide +kernel) (by decide +kernel) (by decide +kernel) t_l0 rfl ?_
  obtain ⟨r1, S2, h3, hr⟩ := nk_bde hr
  refine nk_callV (ci := 13) (n := 1) (x := 560) (len := 3) (j' := 101) (q' := 0) (r := r1) (S' := S2) (L2 := [(0, nk_r l0), (1, nk_i (S.1 l0 25))]) (rest := []) (st' := []) (pc' := 8) mJ_176 (by decide +kernel) (by decide +kernel) rfl rfl t_l0 (Nat.le_of_ble_eq_true rfl) mJ_101 (Nat.le_of_ble_eq_true rfl) rfl (ja_X13_clear_ok zs _ _ _ _ t_l0 h3) rfl ?_
  refine nk_p (i := .aload_n 0) (len := 1) (pc' := 9) mJ_176 (by decide +kernel) (ns_aload_n 0 rfl rfl) rfl ?_
  refine nk_getC (f := (4, 0, 24)) (x := 71) (len := 3) (ci := 13) (k := 26) (pc' := 12) ja_okT mJ_176 (by decide +kernel) (by decide +kernel) (by decide +kernel) (by decide) t_l0 rfl ?_
  have t4 : nk_ar ja_Tt (ja_c l0 26) = some (0, 24) := nk_ta ja_okT t_l0 (by decide +kernel)
  refine nk_p (i := .aload_n 0) (len := 1) (pc' := 13) mJ_176 (by decide +kernel) (ns_aload_n 0 rfl rfl) rfl ?_
  refine nk_getI (y := (0, 0)) (x := 495) (len := 3) (ci := 13) (k := 25) (pc' := 16) ja_okT mJ_176 (by decide +kernel) (by decide +kernel) (by decide +kernel) t_l0 rfl ?_
  refine nk_p (i := .iconst 2) (len := 1) (pc' := 17) mJ_176 (by decide +kernel) (ns_iconst (c := 2) (by decide +kernel)) rfl ?_
  obtain ⟨h5, hr⟩ := nk_cke hr
  obtain ⟨S6, h7, hr⟩ := nk_lte hr
  refine nk_bast (len := 1) (N := 24) (pc' := 18) mJ_176 (by decide +kernel) t4 h5.1 h5.2 rfl rfl h7 ?_
  refine nk_p (i := .aload_n 0) (len := 1) (pc' := 19) mJ_176 (by decide +kernel) (ns_aload_n 0 rfl rfl) rfl ?_
  refine nk_getC (f := (4, 2, 24)) (x := 80) (len := 3) (ci := 13) (k := 29) (pc' := 22) ja_okT mJ_176 (by decide +kernel) (by decide +kernel) (by decide +kernel) (by decide) t_l0 rfl ?_
  have t8 : nk_ar ja_Tt (ja_c l0 29) = some (2, 24) := nk_ta ja_okT t_l0 (by decide +kernel)
  refine nk_p (i := .aload_n 0) (len := 1) (pc' := 23) mJ_176 (by decide +kernel) (ns_aload_n 0 rfl rfl) rfl ?_
  refine nk_getI (y := (0, 0)) (x := 495) (len := 3) (ci := 13) (k := 25) (pc' := 26) ja_okT mJ_176 (by decide +kernel) (by decide +kernel) (by decide +kernel) t_l0 rfl ?_
  refine nk_p (i := .lload_n 1) (len := 1) (pc' := 27) mJ_176 (by decide +kernel) (ns_lload_n 1 rfl rfl) rfl ?_
  obtain ⟨h9, hr⟩ := nk_cke hr
  obtain ⟨S10, h11, hr⟩ := nk_lte hr
  refine nk_last (len := 1) (N := 24) (pc' := 28) mJ_176 (by decide +kernel) t8 h9.1 h9.2 rfl rfl h11 ?_
  refine nk_p (i := .aload_n 0) (len := 1) (pc' := 29) mJ_176 (by decide +kernel) (ns_aload_n 0 rfl rfl) rfl ?_
  refine nk_p (i := .dup) (len := 1) (pc' := 30) mJ_176 (by decide +kernel) (ns_dup rfl) rfl ?_
  refine nk_getI (y := (0, 0)) (x := 495) (len := 3) (ci := 13) (k := 25) (pc' := 33) ja_okT mJ_176 (by decide +kernel) (by decide +kernel) (by decide +kernel) t_l0 rfl ?_
  refine nk_p (i := .iconst 1) (len := 1) (pc' := 34) mJ_176 (by decide +kernel) (ns_iconst (c := 1) (by decide +kernel)) rfl ?_
  refine nk_p (i := .iadd) (len := 1) (pc' := 35) mJ_176 (by decide +kernel) ns_iadd rfl ?_
  obtain ⟨S12, h13, hr⟩ := nk_lte hr
  refine nk_putI (y := (0, 0)) (ty := .int) (x := 495) (len := 3) (ci := 13) (k := 25) (pc' := 38) ja_okT mJ_176 (by decide +kernel) (by decide +kernel) (by decide +kernel) t_l0 (Or.inl rfl) rfl h13 ?_
  cases hr
  exact nk_vret (len := 1) mJ_176 (by decide +kernel) rfl
/-! SafeCodeModel put (II)V -/
noncomputable def ja_X13_put (l0 : Nat) (l1 : Int) (l2 : Int) (S : nk_S) : Option (Int × nk_S) :=
  if 0 ≤ l1 ∧ l1 < 24 then
  if 0 ≤ l2 ∧ l2 < 24 then
  nk_lt (nk_wi S (ja_c l0 26) l2.toNat (nk_i2b (S.1 (ja_c l0 26) l1.toNat))) fun S4 =>
  nk_lt (nk_wi S4 (ja_c l0 27) l2.toNat (S4.1 (ja_c l0 27) l1.toNat)) fun S7 =>
  nk_lt (nk_wi S7 (ja_c l0 28) l2.toNat (S7.1 (ja_c l0 28) l1.toNat)) fun S10 =>
  nk_lt (nk_wi S10 (ja_c l0 29) l2.toNat (S10.1 (ja_c l0 29) l1.toNat)) fun S13 =>
  nk_lt (nk_wi S13 (ja_c l0 30) l2.toNat (S13.1 (ja_c l0 30) l1.toNat)) fun S16 =>
  nk_lt (nk_wi S16 (ja_c l0 31) l2.toNat (S16.1 (ja_c l0 31) l1.toNat)) fun S19 =>
  nk_lt (nk_wi S19 (ja_c l0 32) l2.toNat (S19.1 (ja_c l0 32) l1.toNat)) fun S22 =>
  nk_lt (nk_wi S22 (ja_c l0 33) l2.toNat (S22.1 (ja_c l0 33) l1.toNat)) fun S25 =>
  nk_lt (nk_wi S25 (ja_c l0 34) l2.toNat (S25.1 (ja_c l0 34) l1.toNat)) fun S28 =>
  some (0, S28)
  else none
  else none
theorem ja_X13_put_ok (zs : List Int32) : ∀ (l0 : Nat) (l1 : Int) (l2 : Int) (S : nk_S) (R : Int × nk_S), nk_cl ja_Tt l0 = some 13 → ja_X13_put l0 l1 l2 S = some R → nk_K ja_Tt mi_Γ (mi_ev zs) 0 212 0 [(0, nk_r l0), (1, nk_i l1), (2, nk_i l2)] [] S R := by
  intro l0 l1 l2 S R t_l0 hr
  unfold ja_X13_put at hr
  refine nk_p (i := .aload_n 0) (len := 1) (pc' := 1) mJ_212 (by decide +kernel) (ns_aload_n 0 rfl rfl) rfl ?_
  refine nk_getC (f := (4, 0, 24)) (x := 71) (len := 3) (ci := 13) (k := 26) (pc' := 4) ja_okT mJ_212 (by decide +kernel) (by decide +kernel) (by decide +kernel) (by decide) t_l0 rfl ?_
  have t1 : nk_ar ja_Tt (ja_c l0 26) = some (0, 24) := nk_ta ja_okT t_l0 (by decide +kernel)
  refine nk_p (i := .iload_n 2) (len := 1) (pc' := 5) mJ_212 (by decide +kernel) (ns_iload_n 2 rfl rfl) rfl ?_
  refine nk_p (i := .aload_n 0) (len := 1) (pc' := 6) mJ_212 (by decide +kernel) (ns_aload_n 0 rfl rfl) rfl ?_
  refine nk_getC (f := (4, 0, 24)) (x := 71) (len := 3) (ci := 13) (k := 26) (pc' := 9) ja_okT mJ_212 (by decide +kernel) (by decide +kernel) (by decide +kernel) (by decide) t_l0 rfl ?_
  refine nk_p (i := .iload_n 1) (len := 1) (pc' := 10) mJ_212 (by decide +kernel) (ns_iload_n 1 rfl rfl) rfl ?_
  obtain ⟨h2, hr⟩ := nk_cke hr
  refine nk_bald (t := 0) (len := 1) (N := 24) (pc' := 11) mJ_212 (by decide +kernel) t1 (by decide) h2.1 h2.2 rfl rfl ?_
  obtain ⟨h3, hr⟩ := nk_cke hr
  obtain ⟨S4, h5, hr⟩ := nk_lte hr
  refine nk_bast (len := 1) (N := 24) (pc' := 12) mJ_212 (by decide +kernel) t1 h3.1 h3.2 rfl rfl h5 ?_
  refine nk_p (i := .aload_n 0) (len := 1) (pc' := 13) mJ_212 (by decide +kernel) (ns_aload_n 0 rfl rfl) rfl ?_
  refine nk_getC (f := (4, 1, 24)) (x := 74) (len := 3) (ci := 13) (k := 27) (pc' := 16) ja_okT mJ_212 (by decide +kernel) (by decide +kernel) (by decide +kernel) (by decide) t_l0 rfl ?_
  have t6 : nk_ar ja_Tt (ja_c l0 27) = some (1, 24) := nk_ta ja_okT t_l0 (by decide +kernel)
  refine nk_p (i := .iload_n 2) (len := 1) (pc' := 17) mJ_212 (by decide +kernel) (ns_iload_n 2 rfl rfl) rfl ?_
  refine nk_p (i := .aload_n 0) (len := 1) (pc' := 18) mJ_212 (by decide +kernel) (ns_aload_n 0 rfl rfl) rfl ?_
  refine nk_getC (f := (4, 1, 24)) (x := 74) (len := 3) (ci := 13) (k := 27) (pc' := 21) ja_okT mJ_212 (by decide +kernel) (by decide +kernel) (by decide +kernel) (by decide) t_l0 rfl ?_
  refine nk_p (i := .iload_n 1) (len := 1) (pc' := 22) mJ_212 (by decide +kernel) (ns_iload_n 1 rfl rfl) rfl ?_
  refine nk_iald (len := 1) (N := 24) (pc' := 23) mJ_212 (by decide +kernel) t6 h2.1 h2.2 rfl rfl ?_
  obtain ⟨S7, h8, hr⟩ := nk_lte hr
  refine nk_iast (len := 1) (N := 24) (pc' := 24) mJ_212 (by decide +kernel) t6 h3.1 h3.2 rfl rfl h8 ?_
  refine nk_p (i := .aload_n 0) (len := 1) (pc' := 25) mJ_212 (by decide +kernel) (ns_aload_n 0 rfl rfl) rfl ?_
  refine nk_getC (f := (4, 1, 24)) (x := 77) (len := 3) (ci := 13) (k := 28) (pc' := 28) ja_okT mJ_212 (by decide +kernel) (by decide +kernel) (by decide +kernel) (by decide) t_l0 rfl ?_
  have t9 : nk_ar ja_Tt (ja_c l0 28) = some (1, 24) := nk_ta ja_okT t_l0 (by decide +kernel)
  refine nk_p (i := .iload_n 2) (len := 1) (pc' := 29) mJ_212 (by decide +kernel) (ns_iload_n 2 rfl rfl) rfl ?_
  refine nk_p (i := .aload_n 0) (len := 1) (pc' := 30) mJ_212 (by decide +kernel) (ns_aload_n 0 rfl rfl) rfl ?_
  refine nk_getC (f := (4, 1, 24)) (x := 77) (len := 3) (ci := 13) (k := 28) (pc' := 33) ja_okT mJ_212 (by decide +kernel) (by decide +kernel) (by decide +kernel) (by decide) t_l0 rfl ?_
  refine nk_p (i := .iload_n 1) (len := 1) (pc' := 34) mJ_212 (by decide +kernel) (ns_iload_n 1 rfl rfl) rfl ?_
  refine nk_iald (len := 1) (N := 24) (pc' := 35) mJ_212 (by decide +kernel) t9 h2.1 h2.2 rfl rfl ?_
  obtain ⟨S10, h11, hr⟩ := nk_lte hr
  refine nk_iast (len := 1) (N := 24) (pc' := 36) mJ_212 (by decide +kernel) t9 h3.1 h3.2 rfl rfl h11 ?_
  refine nk_p (i := .aload_n 0) (len := 1) (pc' := 37) mJ_212 (by decide +kernel) (ns_aload_n 0 rfl rfl) rfl ?_
  refine nk_getC (f := (4, 2, 24)) (x := 80) (len := 3) (ci := 13) (k := 29) (pc' := 40) ja_okT mJ_212 (by decide +kernel) (by decide +kernel) (by decide +kernel) (by decide) t_l0 rfl ?_
  have t12 : nk_ar ja_Tt (ja_c l0 29) = some (2, 24) := nk_ta ja_okT t_l0 (by decide +kernel)
  refine nk_p (i := .iload_n 2) (len := 1) (pc' := 41) mJ_212 (by decide +kernel) (ns_iload_n 2 rfl rfl) rfl ?_
  refine nk_p (i := .aload_n 0) (len := 1) (pc' := 42) mJ_212 (by decide +kernel) (ns_aload_n 0 rfl rfl) rfl ?_
  refine nk_getC (f := (4, 2, 24)) (x := 80) (len := 3) (ci := 13) (k := 29) (pc' := 45) ja_okT mJ_212 (by decide +kernel) (by decide +kernel) (by decide +kernel) (by decide) t_l0 rfl ?_
  refine nk_p (i := .iload_n 1) (len := 1) (pc' := 46) mJ_212 (by decide +kernel) (ns_iload_n 1 rfl rfl) rfl ?_
  refine nk_lald (len := 1) (N := 24) (pc' := 47) mJ_212 (by decide +kernel) t12 h2.1 h2.2 rfl rfl ?_
  obtain ⟨S13, h14, hr⟩ := nk_lte hr
  refine nk_last (len := 1) (N := 24) (pc' := 48) mJ_212 (by decide +kernel) t12 h3.1 h3.2 rfl rfl h14 ?_
  refine nk_p (i := .aload_n 0) (len := 1) (pc' := 49) mJ_212 (by decide +kernel) (ns_aload_n 0 rfl rfl) rfl ?_
  refine nk_getC (f := (4, 1, 24)) (x := 84) (len := 3) (ci := 13) (k := 30) (pc' := 52) ja_okT mJ_212 (by decide +kernel) (by decide +kernel) (by decide +kernel) (by decide) t_l0 rfl ?_
  have t15 : nk_ar ja_Tt (ja_c l0 30) = some (1, 24) := nk_ta ja_okT t_l0 (by decide +kernel)
  refine nk_p (i := .iload_n 2) (len := 1) (pc' := 53) mJ_212 (by decide +kernel) (ns_iload_n 2 rfl rfl) rfl ?_
  refine nk_p (i := .aload_n 0) (len := 1) (pc' := 54) mJ_212 (by decide +kernel) (ns_aload_n 0 rfl rfl) rfl ?_
  refine nk_getC (f := (4, 1, 24)) (x := 84) (len := 3) (ci := 13) (k := 30) (pc' := 57) ja_okT mJ_212 (by decide +kernel) (by decide +kernel) (by decide +kernel) (by decide) t_l0 rfl ?_
  refine nk_p (i := .iload_n 1) (len := 1) (pc' := 58) mJ_212 (by decide +kernel) (ns_iload_n 1 rfl rfl) rfl ?_
  refine nk_iald (len := 1) (N := 24) (pc' := 59) mJ_212 (by decide +kernel) t15 h2.1 h2.2 rfl rfl ?_
  obtain ⟨S16, h17, hr⟩ := nk_lte hr
  refine nk_iast (len := 1) (N := 24) (pc' := 60) mJ_212 (by decide +kernel) t15 h3.1 h3.2 rfl rfl h17 ?_
  refine nk_p (i := .aload_n 0) (len := 1) (pc' := 61) mJ_212 (by decide +kernel) (ns_aload_n 0 rfl rfl) rfl ?_
  refine nk_getC (f := (4, 1, 24)) (x := 87) (len := 3) (ci := 13) (k := 31) (pc' := 64) ja_okT mJ_212 (by decide +kernel) (by decide +kernel) (by decide +kernel) (by decide) t_l0 rfl ?_
  have t18 : nk_ar ja_Tt (ja_c l0 31) = some (1, 24) := nk_ta ja_okT t_l0 (by decide +kernel)
  refine nk_p (i := .iload_n 2) (len := 1) (pc' := 65) mJ_212 (by decide +kernel) (ns_iload_n 2 rfl rfl) rfl ?_
  refine nk_p (i := .aload_n 0) (len := 1) (pc' := 66) mJ_212 (by decide +kernel) (ns_aload_n 0 rfl rfl) rfl ?_
  refine nk_getC (f := (4, 1, 24)) (x := 87) (len := 3) (ci := 13) (k := 31) (pc' := 69) ja_okT mJ_212 (by decide +kernel) (by decide +kernel) (by decide +kernel) (by decide) t_l0 rfl ?_
  refine nk_p (i := .iload_n 1) (len := 1) (pc' := 70) mJ_212 (by decide +kernel) (ns_iload_n 1 rfl rfl) rfl ?_
  refine nk_iald (len := 1) (N := 24) (pc' := 71) mJ_212 (by decide +kernel) t18 h2.1 h2.2 rfl rfl ?_
  obtain ⟨S19, h20, hr⟩ := nk_lte hr
  refine nk_iast (len := 1) (N := 24) (pc' := 72) mJ_212 (by decide +kernel) t18 h3.1 h3.2 rfl rfl h20 ?_
  refine nk_p (i := .aload_n 0) (len := 1) (pc' := 73) mJ_212 (by decide +kernel) (ns_aload_n 0 rfl rfl) rfl ?_
  refine nk_getC (f := (4, 1, 24)) (x := 90) (len := 3) (ci := 13) (k := 32) (pc' := 76) ja_okT mJ_212 (by decide +kernel) (by decide +kernel) (by decide +kernel) (by decide) t_l0 rfl ?_
  have t21 : nk_ar ja_Tt (ja_c l0 32) = some (1, 24) := nk_ta ja_okT t_l0 (by decide +kernel)
  refine nk_p (i := .iload_n 2) (len := 1) (pc' := 77) mJ_212 (by decide +kernel) (ns_iload_n 2 rfl rfl) rfl ?_
  refine nk_p (i := .aload_n 0) (len := 1) (pc' := 78) mJ_212 (by decide +kernel) (ns_aload_n 0 rfl rfl) rfl ?_
  refine nk_getC (f := (4, 1, 24)) (x := 90) (len := 3) (ci := 13) (k := 32) (pc' := 81) ja_okT mJ_212 (by decide +kernel) (by decide +kernel) (by decide +kernel) (by decide) t_l0 rfl ?_
  refine nk_p (i := .iload_n 1) (len := 1) (pc' := 82) mJ_212 (by decide +kernel) (ns_iload_n 1 rfl rfl) rfl ?_
  refine nk_iald (len := 1) (N := 24) (pc' := 83) mJ_212 (by decide +kernel) t21 h2.1 h2.2 rfl rfl ?_
  obtain ⟨S22, h23, hr⟩ := nk_lte hr
  refine nk_iast (len := 1) (N := 24) (pc' := 84) mJ_212 (by decide +kernel) t21 h3.1 h3.2 rfl rfl h23 ?_
  refine nk_p (i := .aload_n 0) (len := 1) (pc' := 85) mJ_212 (by decide +kernel) (ns_aload_n 0 rfl rfl) rfl ?_
  refine nk_getC (f := (4, 1, 24)) (x := 93) (len := 3) (ci := 13) (k := 33) (pc' := 88) ja_okT mJ_212 (by decide +kernel) (by decide +kernel) (by decide +kernel) (by decide) t_l0 rfl ?_
  have t24 : nk_ar ja_Tt (ja_c l0 33) = some (1, 24) := nk_ta ja_okT t_l0 (by decide +kernel)
  refine nk_p (i := .iload_n 2) (len := 1) (pc' := 89) mJ_212 (by decide +kernel) (ns_iload_n 2 rfl rfl) rfl ?_
  refine nk_p (i := .aload_n 0) (len := 1) (pc' := 90) mJ_212 (by decide +kernel) (ns_aload_n 0 rfl rfl) rfl ?_
  refine nk_getC (f := (4, 1, 24)) (x := 93) (len := 3) (ci := 13) (k := 33) (pc' := 93) ja_okT mJ_212 (by decide +kernel) (by decide +kernel) (by decide +kernel) (by decide) t_l0 rfl ?_
  refine nk_p (i := .iload_n 1) (len := 1) (pc' := 94) mJ_212 (by decide +kernel) (ns_iload_n 1 rfl rfl) rfl ?_
  refine nk_iald (len := 1) (N := 24) (pc' := 95) mJ_212 (by decide +kernel) t24 h2.1 h2.2 rfl rfl ?_
  obtain ⟨S25, h26, hr⟩ := nk_lte hr
  refine nk_iast (len := 1) (N := 24) (pc' := 96) mJ_212 (by decide +kernel) t24 h3.1 h3.2 rfl rfl h26 ?_
  refine nk_p (i := .aload_n 0) (len := 1) (pc' := 97) mJ_212 (by decide +kernel) (ns_aload_n 0 rfl rfl) rfl ?_
  refine nk_getC (f := (4, 1, 24)) (x := 96) (len := 3) (ci := 13) (k := 34) (pc' := 100) ja_okT mJ_212 (by decide +kernel) (by decide +kernel) (by decide +kernel) (by decide) t_l0 rfl ?_
  have t27 : nk_ar ja_Tt (ja_c l0 34) = some (1, 24) := nk_ta ja_okT t_l0 (by decide +kernel)
  refine nk_p (i := .iload_n 2) (len := 1) (pc' := 101) mJ_212 (by decide +kernel) (ns_iload_n 2 rfl rfl) rfl ?_
  refine nk_p (i := .aload_n 0) (len := 1) (pc' := 102) mJ_212 (by decide +kernel) (ns_aload_n 0 rfl rfl) rfl ?_
  refine nk_getC (f := (4, 1, 24)) (x := 96) (len := 3) (ci := 13) (k := 34) (pc' := 105) ja_okT mJ_212 (by decide +kernel) (by decide +kernel) (by decide +kernel) (by decide) t_l0 rfl ?_
  refine nk_p (i := .iload_n 1) (len := 1) (pc' := 106) mJ_212 (by decide +kernel) (ns_iload_n 1 rfl rfl) rfl ?_
  refine nk_iald (len := 1) (N := 24) (pc' := 107) mJ_212 (by decide +kernel) t27 h2.1 h2.2 rfl rfl ?_
  obtain ⟨S28, h29, hr⟩ := nk_lte hr
  refine nk_iast (len := 1) (N := 24) (pc' := 108) mJ_212 (by decide +kernel) t27 h3.1 h3.2 rfl rfl h29 ?_
  cases hr
  exact nk_vret (len := 1) mJ_212 (by decide +kernel) rfl
/-! SafeCodeModel joinNothing (LSafeCodeModel$Program;II)V -/
noncomputable def ja_X13_joinNothing (l0 : Nat) (l1 : Nat) (l2 : Int) (l3 : Int) (S : nk_S) : Option (Int × nk_S) :=
  if l3 = 0 then
    nk_bd (ja_X13_joinRange l0 l1 l2 0 0 S) fun r4 S5 =>
    some (0, S5)
  else
    nk_bd (ja_X13_joinSites l0 l1 l2 4611686018427387904 S) fun r1 S2 =>
    some (0, S2)
theorem ja_X13_joinNothing_ok (zs : List Int32) : ∀ (l0 : Nat) (l1 : Nat) (l2 : Int) (l3 : Int) (S : nk_S) (R : Int × nk_S), nk_cl ja_Tt l0 = some 13 → nk_cl ja_Tt l1 = some 12 → ja_X13_joinNothing l0 l1 l2 l3 S = some R → nk_K ja_Tt mi_Γ (mi_ev zs) 0 164 0 [(0, nk_r l0), (1, nk_r l1), (2, nk_i l2), (3, nk_i l3)] [] S R := by
  intro l0 l1 l2 l3 S R t_l0 t_l1 hr
  unfold ja_X13_joinNothing at hr
  refine nk_p (i := .iload_n 3) (len := 1) (pc' := 1) mJ_164 (by decide +kernel) (ns_iload_n 3 rfl rfl) rfl ?_
  refine nk_icond (c := .ne) (off := 14) (len := 3) (t := 15) (pc' := 4) mJ_164 (by decide +kernel) (by decide +kernel) rfl (fun hc => ?_) (fun hc => ?_)
  · have hr := nk_ifn (c := l3 = 0) hc hr
    refine nk_p (i := .aload_n 0) (len := 1) (pc' := 16) mJ_164 (by decide +kernel) (ns_aload_n 0 rfl rfl) rfl ?_
    refine nk_p (i := .aload_n 1) (len := 1) (pc' := 17) mJ_164 (by decide +kernel) (ns_aload_n 1 rfl rfl) rfl ?_
    refine nk_p (i := .iload_n 2) (len := 1) (pc' := 18) mJ_164 (by decide +kernel) (ns_iload_n 2 rfl rfl) rfl ?_
    refine nk_ldc2 (x := 599) (len := 3) (X := 4611686018427387904) (v := 4611686018427387904) (pc' := 21) mJ_164 (by decide +kernel) (by decide +kernel) (by decide +kernel) rfl ?_
    obtain ⟨r1, S2, h3, hr⟩ := nk_bde hr
    refine nk_callV (ci := 13) (n := 3) (x := 595) (len := 3) (j' := 166) (q' := 0) (r := r1) (S' := S2) (L2 := [(0, nk_r l0), (1, nk_r l1), (2, nk_i l2), (3, nk_l 4611686018427387904)]) (rest := []) (st' := []) (pc' := 24) mJ_164 (by decide +kernel) (by decide +kernel) rfl rfl t_l0 (Nat.le_of_ble_eq_true rfl) mJ_166 (Nat.le_of_ble_eq_true rfl) rfl (ja_X13_joinSites_ok zs _ _ _ _ _ _ t_l0 t_l1 h3) rfl ?_
    cases hr
    exact nk_vret (len := 1) mJ_164 (by decide +kernel) rfl
  · have hr := nk_ifp (c := l3 = 0) (Decidable.of_not_not hc) hr
    refine nk_p (i := .aload_n 0) (len := 1) (pc' := 5) mJ_164 (by decide +kernel) (ns_aload_n 0 rfl rfl) rfl ?_
    refine nk_p (i := .aload_n 1) (len := 1) (pc' := 6) mJ_164 (by decide +kernel) (ns_aload_n 1 rfl rfl) rfl ?_
    refine nk_p (i := .iload_n 2) (len := 1) (pc' := 7) mJ_164 (by decide +kernel) (ns_iload_n 2 rfl rfl) rfl ?_
    refine nk_p (i := .iconst 0) (len := 1) (pc' := 8) mJ_164 (by decide +kernel) (ns_iconst (c := 0) (by decide +kernel)) rfl ?_
    refine nk_p (i := .iconst 0) (len := 1) (pc' := 9) mJ_164 (by decide +kernel) (ns_iconst (c := 0) (by decide +kernel)) rfl ?_
    obtain ⟨r4, S5, h6, hr⟩ := nk_bde hr
    refine nk_callV (ci := 13) (n := 4) (x := 591) (len := 3) (j' := 165) (q' := 0) (r := r4) (S' := S5) (L2 := [(0, nk_r l0), (1, nk_r l1), (2, nk_i l2), (3, nk_i 0), (4, nk_i 0)]) (rest := []) (st' := []) (pc' := 12) mJ_164 (by decide +kernel) (by decide +kernel) rfl rfl t_l0 (Nat.le_of_ble_eq_true rfl) mJ_165 (Nat.le_of_ble_eq_true rfl) rfl (ja_X13_joinRange_ok zs _ _ _ _ _ _ _ t_l0 t_l1 h6) rfl ?_
    refine nk_p (i := .goto 12) (len := 3) (pc' := 24) mJ_164 (by decide +kernel) (ns_goto (by decide +kernel)) rfl ?_
    cases hr
    exact nk_vret (len := 1) mJ_164 (by decide +kernel) rfl
/-! SafeCodeModel made (LSafeCodeModel$Program;I)Z -/
noncomputable def ja_X13_made_b13 (rec13 : Nat → Nat → Int → Int → Int → nk_S → Option (Int × nk_S)) (l0 : Nat) (l1 : Nat) (l2 : Int) (l3 : Int) (l4 : Int) (S : nk_S) : Option (Int × nk_S) :=
  if (S.1 l1 1) ≤ l4 then
    nk_bd (ja_X13_leaveSites l0 (nk_lshl 1 l2) S) fun r1 S2 =>
    some (1, S2)
  else
    if 0 ≤ l4 ∧ l4 < 48 then
    nk_bd (ja_X13_isAtOrBelow l1 l3 (S.1 (ja_c l1 10) l4.toNat) S) fun r6 S7 =>
    if r6 = 0 then
      nk_lt (nk_w (l4 + 1)) fun v9 =>
      rec13 l0 l1 l2 l3 v9 S7
    else
      nk_bd (ja_X13_joinNothing l0 l1 (nk_w ((nk_w (l2 * 48)) + l4)) (S7.1 (ja_c l1 11) l4.toNat) S7) fun r12 S13 =>
      nk_lt (nk_w (l4 + 1)) fun v15 =>
      rec13 l0 l1 l2 l3 v15 S13
    else none
theorem ja_X13_made_b13_ok (zs : List Int32) {rec13 : Nat → Nat → Int → Int → Int → nk_S → Option (Int × nk_S)} (hrec13 : ∀ (l0 : Nat) (l1 : Nat) (l2 : Int) (l3 : Int) (l4 : Int) (S : nk_S) (R : Int × nk_S), nk_cl ja_Tt l0 = some 13 → nk_cl ja_Tt l1 = some 12 → rec13 l0 l1 l2 l3 l4 S = some R → nk_K ja_Tt mi_Γ (mi_ev zs) 1 189 13 [(0, nk_r l0), (1, nk_r l1), (2, nk_i l2), (3, nk_i l3), (4, nk_i l4)] [] S R) : ∀ (l0 : Nat) (l1 : Nat) (l2 : Int) (l3 : Int) (l4 : Int) (S : nk_S) (R : Int × nk_S), nk_cl ja_Tt l0 = some 13 → nk_cl ja_Tt l1 = some 12 → ja_X13_made_b13 rec13 l0 l1 l2 l3 l4 S = some R → nk_K ja_Tt mi_Γ (mi_ev zs) 1 189 13 [(0, nk_r l0), (1, nk_r l1), (2, nk_i l2), (3, nk_i l3), (4, nk_i l4)] [] S R := by
  intro l0 l1 l2 l3 l4 S R t_l0 t_l1 hr
  unfold ja_X13_made_b13 at hr
  refine nk_p (i := .iload 4) (len := 2) (pc' := 15) mJ_189 (by decide +kernel) (ns_iload 4 rfl) rfl ?_
  refine nk_p (i := .aload_n 1) (len := 1) (pc' := 16) mJ_189 (by decide +kernel) (ns_aload_n 1 rfl rfl) rfl ?_
  refine nk_getI (y := (0, 0)) (x := 293) (len := 3) (ci := 12) (k := 1) (pc' := 19) ja_okT mJ_189 (by decide +kernel) (by decide +kernel) (by decide +kernel) t_l1 rfl ?_
  refine nk_icmp (c := .ge) (off := 43) (len := 3) (t := 62) (pc' := 22) mJ_189 (by decide +kernel) (by decide +kernel) rfl (fun hc => ?_) (fun hc => ?_)
  · have hr := nk_ifp (c := (S.1 l1 1) ≤ l4) hc hr
    refine nk_p (i := .aload_n 0) (len := 1) (pc' := 63) mJ_189 (by decide +kernel) (ns_aload_n 0 rfl rfl) rfl ?_
    refine nk_p (i := .lconst 1) (len := 1) (pc' := 64) mJ_189 (by decide +kernel) (ns_lconst (c := 1) (by decide +kernel)) rfl ?_
    refine nk_p (i := .iload_n 2) (len := 1) (pc' := 65) mJ_189 (by decide +kernel) (ns_iload_n 2 rfl rfl) rfl ?_
    refine nk_p (i := .lshl) (len := 1) (pc' := 66) mJ_189 (by decide +kernel) ns_lshl rfl ?_
    obtain ⟨r1, S2, h3, hr⟩ := nk_bde hr
    refine nk_callV (ci := 13) (n := 1) (x := 654) (len := 3) (j' := 176) (q' := 0) (r := r1) (S' := S2) (L2 := [(0, nk_r l0), (1, nk_l (nk_lshl 1 l2))]) (rest := []) (st' := []) (pc' := 69) mJ_189 (by decide +kernel) (by decide +kernel) rfl rfl t_l0 (Nat.le_of_ble_eq_true rfl) mJ_176 (Nat.le_of_ble_eq_true rfl) rfl (ja_X13_leaveSites_ok zs _ _ _ _ t_l0 h3) rfl ?_
    refine nk_p (i := .iconst 1) (len := 1) (pc' := 70) mJ_189 (by decide +kernel) (ns_iconst (c := 1) (by decide +kernel)) rfl ?_
    cases hr
    exact nk_iret (ty := .boolean) (len := 1) mJ_189 (by decide +kernel) rfl (nk_nar_z (by decide))
  · have hr := nk_ifn (c := (S.1 l1 1) ≤ l4) hc hr
    refine nk_p (i := .aload_n 1) (len := 1) (pc' := 23) mJ_189 (by decide +kernel) (ns_aload_n 1 rfl rfl) rfl ?_
    refine nk_p (i := .iload_n 3) (len := 1) (pc' := 24) mJ_189 (by decide +kernel) (ns_iload_n 3 rfl rfl) rfl ?_
    refine nk_p (i := .aload_n 1) (len := 1) (pc' := 25) mJ_189 (by decide +kernel) (ns_aload_n 1 rfl rfl) rfl ?_
    refine nk_getC (f := (4, 1, 48)) (x := 296) (len := 3) (ci := 12) (k := 10) (pc' := 28) ja_okT mJ_189 (by decide +kernel) (by decide +kernel) (by decide +kernel) (by decide) t_l1 rfl ?_
    have t4 : nk_ar ja_Tt (ja_c l1 10) = some (1, 48) := nk_ta ja_okT t_l1 (by decide +kernel)
    refine nk_p (i := .iload 4) (len := 2) (pc' := 30) mJ_189 (by decide +kernel) (ns_iload 4 rfl) rfl ?_
    obtain ⟨h5, hr⟩ := nk_cke hr
    refine nk_iald (len := 1) (N := 48) (pc' := 31) mJ_189 (by decide +kernel) t4 h5.1 h5.2 rfl rfl ?_
    obtain ⟨r6, S7, h8, hr⟩ := nk_bde hr
    refine nk_callS (ci := 0) (n := 3) (x := 299) (len := 3) (j' := 142) (q' := 1) (r := r6) (S' := S7) (L2 := [(0, nk_r l1), (1, nk_i l3), (2, nk_i (S.1 (ja_c l1 10) l4.toNat))]) (rest := []) (st' := [nk_i r6]) (pc' := 34) mJ_189 (by decide +kernel) (by decide +kernel) (Nat.le_of_ble_eq_true rfl) rfl rfl (Nat.le_of_ble_eq_true rfl) mJ_142 (Nat.le_of_ble_eq_true rfl) ja_Tpos rfl (ja_X13_isAtOrBelow_ok zs _ _ _ _ _ t_l1 h8) rfl ?_
    refine nk_icond (c := .eq) (off := 22) (len := 3) (t := 56) (pc' := 37) mJ_189 (by decide +kernel) (by decide +kernel) rfl (fun hc => ?_) (fun hc => ?_)
    · have hr := nk_ifp (c := r6 = 0) hc hr
      obtain ⟨v9, h10, hr⟩ := nk_lte hr
      refine nk_p (i := .iinc 4 1) (len := 3) (pc' := 59) mJ_189 (by decide +kernel) (ns_iinc (c := 1) (L' := [(4, nk_i v9), (0, nk_r l0), (1, nk_r l1), (2, nk_i l2), (3, nk_i l3)]) 4 rfl (by decide +kernel) h10 rfl (by decide +kernel)) rfl ?_
      refine nk_p (i := .goto (-46)) (len := 3) (pc' := 13) mJ_189 (by decide +kernel) (ns_goto (by decide +kernel)) rfl ?_
      refine nk_sub [1, 2, 3, 4, 0] (L' := [(0, nk_r l0), (1, nk_r l1), (2, nk_i l2), (3, nk_i l3), (4, nk_i v9)]) rfl ?_
      exact hrec13 _ _ _ _ _ _ _ t_l0 t_l1 hr
    · have hr := nk_ifn (c := r6 = 0) hc hr
      refine nk_p (i := .aload_n 0) (len := 1) (pc' := 38) mJ_189 (by decide +kernel) (ns_aload_n 0 rfl rfl) rfl ?_
      refine nk_p (i := .aload_n 1) (len := 1) (pc' := 39) mJ_189 (by decide +kernel) (ns_aload_n 1 rfl rfl) rfl ?_
      refine nk_p (i := .iload_n 2) (len := 1) (pc' := 40) mJ_189 (by decide +kernel) (ns_iload_n 2 rfl rfl) rfl ?_
      refine nk_p (i := .bipush 48) (len := 2) (pc' := 42) mJ_189 (by decide +kernel) (ns_bipush (c := 48) (by decide +kernel)) rfl ?_
      refine nk_p (i := .imul) (len := 1) (pc' := 43) mJ_189 (by decide +kernel) ns_imul rfl ?_
      refine nk_p (i := .iload 4) (len := 2) (pc' := 45) mJ_189 (by decide +kernel) (ns_iload 4 rfl) rfl ?_
      refine nk_p (i := .iadd) (len := 1) (pc' := 46) mJ_189 (by decide +kernel) ns_iadd rfl ?_
      refine nk_p (i := .aload_n 1) (len := 1) (pc' := 47) mJ_189 (by decide +kernel) (ns_aload_n 1 rfl rfl) rfl ?_
      refine nk_getC (f := (4, 1, 48)) (x := 324) (len := 3) (ci := 12) (k := 11) (pc' := 50) ja_okT mJ_189 (by decide +kernel) (by decide +kernel) (by decide +kernel) (by decide) t_l1 rfl ?_
      have t11 : nk_ar ja_Tt (ja_c l1 11) = some (1, 48) := nk_ta ja_okT t_l1 (by decide +kernel)
      refine nk_p (i := .iload 4) (len := 2) (pc' := 52) mJ_189 (by decide +kernel) (ns_iload 4 rfl) rfl ?_
      refine nk_iald (len := 1) (N := 48) (pc' := 53) mJ_189 (by decide +kernel) t11 h5.1 h5.2 rfl rfl ?_
      obtain ⟨r12, S13, h14, hr⟩ := nk_bde hr
      refine nk_callV (ci := 13) (n := 3) (x := 748) (len := 3) (j' := 164) (q' := 0) (r := r12) (S' := S13) (L2 := [(0, nk_r l0), (1, nk_r l1), (2, nk_i (nk_w ((nk_w (l2 * 48)) + l4))), (3, nk_i (S7.1 (ja_c l1 11) l4.toNat))]) (rest := []) (st' := []) (pc' := 56) mJ_189 (by decide +kernel) (by decide +kernel) rfl rfl t_l0 (Nat.le_of_ble_eq_true rfl) mJ_164 (Nat.le_of_ble_eq_true rfl) rfl (ja_X13_joinNothing_ok zs _ _ _ _ _ _ t_l0 t_l1 h14) rfl ?_
      obtain ⟨v15, h16, hr⟩ := nk_lte hr
      refine nk_p (i := .iinc 4 1) (len := 3) (pc' := 59) mJ_189 (by decide +kernel) (ns_iinc (c := 1) (L' := [(4, nk_i v15), (0, nk_r l0), (1, nk_r l1), (2, nk_i l2), (3, nk_i l3)]) 4 rfl (by decide +kernel) h16 rfl (by decide +kernel)) rfl ?_
      refine nk_p (i := .goto (-46)) (len := 3) (pc' := 13) mJ_189 (by decide +kernel) (ns_goto (by decide +kernel)) rfl ?_
      refine nk_sub [1, 2, 3, 4, 0] (L' := [(0, nk_r l0), (1, nk_r l1), (2, nk_i l2), (3, nk_i l3), (4, nk_i v15)]) rfl ?_
      exact hrec13 _ _ _ _ _ _ _ t_l0 t_l1 hr
noncomputable def ja_X13_made_L13 : Nat → Nat → Nat → Int → Int → Int → nk_S → Option (Int × nk_S)
  | 0, _, _, _, _, _, _ => none
  | n + 1, l0, l1, l2, l3, l4, S => ja_X13_made_b13 (ja_X13_made_L13 n) l0 l1 l2 l3 l4 S
theorem ja_X13_made_L13_ok (zs : List Int32) : ∀ n : Nat, ∀ (l0 : Nat) (l1 : Nat) (l2 : Int) (l3 : Int) (l4 : Int) (S : nk_S) (R : Int × nk_S), nk_cl ja_Tt l0 = some 13 → nk_cl ja_Tt l1 = some 12 → ja_X13_made_L13 n l0 l1 l2 l3 l4 S = some R → nk_K ja_Tt mi_Γ (mi_ev zs) 1 189 13 [(0, nk_r l0), (1, nk_r l1), (2, nk_i l2), (3, nk_i l3), (4, nk_i l4)] [] S R := by
  intro n
  induction n with
  | zero => intro _ _ _ _ _ _ _ _ _ hr; cases hr
  | succ n ih => intro l0 l1 l2 l3 l4 S R t_l0 t_l1 hr; exact ja_X13_made_b13_ok zs ih l0 l1 l2 l3 l4 S R t_l0 t_l1 hr
noncomputable def ja_X13_made (l0 : Nat) (l1 : Nat) (l2 : Int) (S : nk_S) : Option (Int × nk_S) :=
  if 0 ≤ l2 ∧ l2 < 54 then
  nk_lt (nk_w ((S.1 (ja_c l1 27) l2.toNat) - 8)) fun v3 =>
  ja_X13_made_L13 nk_big l0 l1 l2 v3 0 S
  else none
theorem ja_X13_made_ok (zs : List Int32) : ∀ (l0 : Nat) (l1 : Nat) (l2 : Int) (S : nk_S) (R : Int × nk_S), nk_cl ja_Tt l0 = some 13 → nk_cl ja_Tt l1 = some 12 → ja_X13_made l0 l1 l2 S = some R → nk_K ja_Tt mi_Γ (mi_ev zs) 1 189 0 [(0, nk_r l0), (1, nk_r l1), (2, nk_i l2)] [] S R := by
  intro l0 l1 l2 S R t_l0 t_l1 hr
  unfold ja_X13_made at hr
  refine nk_p (i := .aload_n 1) (len := 1) (pc' := 1) mJ_189 (by decide +kernel) (ns_aload_n 1 rfl rfl) rfl ?_
  refine nk_getC (f := (4, 1, 54)) (x := 432) (len := 3) (ci := 12) (k := 27) (pc' := 4) ja_okT mJ_189 (by decide +kernel) (by decide +kernel) (by decide +kernel) (by decide) t_l1 rfl ?_
  have t1 : nk_ar ja_Tt (ja_c l1 27) = some (1, 54) := nk_ta ja_okT t_l1 (by decide +kernel)
  refine nk_p (i := .iload_n 2) (len := 1) (pc' := 5) mJ_189 (by decide +kernel) (ns_iload_n 2 rfl rfl) rfl ?_
  obtain ⟨h2, hr⟩ := nk_cke hr
  refine nk_iald (len := 1) (N := 54) (pc' := 6) mJ_189 (by decide +kernel) t1 h2.1 h2.2 rfl rfl ?_
  refine nk_p (i := .bipush 8) (len := 2) (pc' := 8) mJ_189 (by decide +kernel) (ns_bipush (c := 8) (by decide +kernel)) rfl ?_
  refine nk_p (i := .isub) (len := 1) (pc' := 9) mJ_189 (by decide +kernel) ns_isub rfl ?_
  obtain ⟨v3, h4, hr⟩ := nk_lte hr
  refine nk_p (i := .istore_n 3) (len := 1) (pc' := 10) mJ_189 (by decide +kernel) (ns_istore_n (L' := [(3, nk_i v3), (0, nk_r l0), (1, nk_r l1), (2, nk_i l2)]) h4 rfl rfl (by decide +kernel)) rfl ?_
  refine nk_p (i := .iconst 0) (len := 1) (pc' := 11) mJ_189 (by decide +kernel) (ns_iconst (c := 0) (by decide +kernel)) rfl ?_
  refine nk_p (i := .istore 4) (len := 2) (pc' := 13) mJ_189 (by decide +kernel) (ns_istore (L' := [(4, nk_i 0), (3, nk_i v3), (0, nk_r l0), (1, nk_r l1), (2, nk_i l2)]) rfl rfl (by decide +kernel)) rfl ?_
  refine nk_sub [2, 3, 4, 1, 0] (L' := [(0, nk_r l0), (1, nk_r l1), (2, nk_i l2), (3, nk_i v3), (4, nk_i 0)]) rfl ?_
  exact ja_X13_made_L13_ok zs nk_big _ _ _ _ _ _ _ t_l0 t_l1 hr
/-! SafeCodeModel madeArray (LSafeCodeModel$Program;I)Z -/
noncomputable def ja_X13_madeArray_b32 (l0 : Nat) (l1 : Nat) (l2 : Int) (S : nk_S) : Option (Int × nk_S) :=
  if 0 ≤ (S.1 l0 25) ∧ (S.1 l0 25) < 24 then
  if 0 ≤ (S.1 (ja_c l0 28) (S.1 l0 25).toNat) then
    nk_bd (ja_J9_max_7cf53 (S.1 (ja_c l0 27) (S.1 l0 25).toNat) 0 S) fun r4 S5 =>
    if 0 ≤ (S5.1 l0 25) ∧ (S5.1 l0 25) < 24 then
    nk_bd (ja_X13_joinRange l0 l1 (nk_w (2646 + l2)) r4 (S5.1 (ja_c l0 28) (S5.1 l0 25).toNat) S5) fun r8 S9 =>
    if 0 ≤ l2 ∧ l2 < 54 then
    nk_bd (ja_X13_elementOf (S9.1 (ja_c l1 27) l2.toNat) S9) fun r13 S14 =>
    nk_bd (ja_X13_joinNothing l0 l1 (nk_w (2592 + l2)) r13 S14) fun r16 S17 =>
    if 0 ≤ (S17.1 l0 25) ∧ (S17.1 l0 25) < 24 then
    nk_lt (S17.1 (ja_c l0 30) (S17.1 l0 25).toNat) fun v21 =>
    nk_bd (ja_X13_leaveSites l0 (nk_lshl 1 l2) S17) fun r23 S24 =>
    if v21 < 0 then
      some (1, S24)
    else
      if 0 ≤ (nk_w ((S24.1 l0 25) - 1)) ∧ (nk_w ((S24.1 l0 25) - 1)) < 24 then
      nk_lt (nk_wi S24 (ja_c l0 34) (nk_w ((S24.1 l0 25) - 1)).toNat (nk_ishl 1 v21)) fun S28 =>
      some (1, S28)
      else none
    else none
    else none
    else none
  else
    some (0, S)
  else none
theorem ja_X13_madeArray_b32_ok (zs : List Int32) : ∀ (l0 : Nat) (l1 : Nat) (l2 : Int) (S : nk_S) (R : Int × nk_S), nk_cl ja_Tt l0 = some 13 → nk_cl ja_Tt l1 = some 12 → ja_X13_madeArray_b32 l0 l1 l2 S = some R → nk_K ja_Tt mi_Γ (mi_ev zs) 1 190 32 [(0, nk_r l0), (1, nk_r l1), (2, nk_i l2)] [] S R := by
  intro l0 l1 l2 S R t_l0 t_l1 hr
  unfold ja_X13_madeArray_b32 at hr
  refine nk_p (i := .aload_n 0) (len := 1) (pc' := 33) mJ_190 (by decide +kernel) (ns_aload_n 0 rfl rfl) rfl ?_
  refine nk_getC (f := (4, 1, 24)) (x := 77) (len := 3) (ci := 13) (k := 28) (pc' := 36) ja_okT mJ_190 (by decide +kernel) (by decide +kernel) (by decide +kernel) (by decide) t_l0 rfl ?_
  have t1 : nk_ar ja_Tt (ja_c l0 28) = some (1, 24) := nk_ta ja_okT t_l0 (by decide +kernel)
  refine nk_p (i := .aload_n 0) (len := 1) (pc' := 37) mJ_190 (by decide +kernel) (ns_aload_n 0 rfl rfl) rfl ?_
  refine nk_getI (y := (0, 0)) (x := 495) (len := 3) (ci := 13) (k := 25) (pc' := 40) ja_okT mJ_190 (by decide +kernel) (by decide +kernel) (by decide +kernel) t_l0 rfl ?_
  obtain ⟨h2, hr⟩ := nk_cke hr
  refine nk_iald (len := 1) (N := 24) (pc' := 41) mJ_190 (by decide +kernel) t1 h2.1 h2.2 rfl rfl ?_
  refine nk_icond (c := .ge) (off := 5) (len := 3) (t := 46) (pc' := 44) mJ_190 (by decide +kernel) (by decide +kernel) rfl (fun hc => ?_) (fun hc => ?_)
  · have hr := nk_ifp (c := 0 ≤ (S.1 (ja_c l0 28) (S.1 l0 25).toNat)) hc hr
    refine nk_p (i := .aload_n 0) (len := 1) (pc' := 47) mJ_190 (by decide +kernel) (ns_aload_n 0 rfl rfl) rfl ?_
    refine nk_p (i := .aload_n 1) (len := 1) (pc' := 48) mJ_190 (by decide +kernel) (ns_aload_n 1 rfl rfl) rfl ?_
    refine nk_p (i := .sipush 2646) (len := 3) (pc' := 51) mJ_190 (by decide +kernel) (ns_sipush (c := 2646) (by decide +kernel)) rfl ?_
    refine nk_p (i := .iload_n 2) (len := 1) (pc' := 52) mJ_190 (by decide +kernel) (ns_iload_n 2 rfl rfl) rfl ?_
    refine nk_p (i := .iadd) (len := 1) (pc' := 53) mJ_190 (by decide +kernel) ns_iadd rfl ?_
    refine nk_p (i := .aload_n 0) (len := 1) (pc' := 54) mJ_190 (by decide +kernel) (ns_aload_n 0 rfl rfl) rfl ?_
    refine nk_getC (f := (4, 1, 24)) (x := 74) (len := 3) (ci := 13) (k := 27) (pc' := 57) ja_okT mJ_190 (by decide +kernel) (by decide +kernel) (by decide +kernel) (by decide) t_l0 rfl ?_
    have t3 : nk_ar ja_Tt (ja_c l0 27) = some (1, 24) := nk_ta ja_okT t_l0 (by decide +kernel)
    refine nk_p (i := .aload_n 0) (len := 1) (pc' := 58) mJ_190 (by decide +kernel) (ns_aload_n 0 rfl rfl) rfl ?_
    refine nk_getI (y := (0, 0)) (x := 495) (len := 3) (ci := 13) (k := 25) (pc' := 61) ja_okT mJ_190 (by decide +kernel) (by decide +kernel) (by decide +kernel) t_l0 rfl ?_
    refine nk_iald (len := 1) (N := 24) (pc' := 62) mJ_190 (by decide +kernel) t3 h2.1 h2.2 rfl rfl ?_
    refine nk_p (i := .iconst 0) (len := 1) (pc' := 63) mJ_190 (by decide +kernel) (ns_iconst (c := 0) (by decide +kernel)) rfl ?_
    obtain ⟨r4, S5, h6, hr⟩ := nk_bde hr
    refine nk_callS (ci := 0) (n := 2) (x := 557) (len := 3) (j' := 16) (q' := 1) (r := r4) (S' := S5) (L2 := [(0, nk_i (S.1 (ja_c l0 27) (S.1 l0 25).toNat)), (1, nk_i 0)]) (rest := [nk_i (nk_w (2646 + l2)), nk_r l1, nk_r l0]) (st' := [nk_i r4, nk_i (nk_w (2646 + l2)), nk_r l1, nk_r l0]) (pc' := 66) mJ_190 (by decide +kernel) (by decide +kernel) (Nat.le_of_ble_eq_true rfl) rfl rfl (Nat.le_of_ble_eq_true rfl) mJ_16 (Nat.le_of_ble_eq_true rfl) ja_Tpos rfl (ja_J9_max_7cf53_ok zs _ _ _ _ h6) rfl ?_
    refine nk_p (i := .aload_n 0) (len := 1) (pc' := 67) mJ_190 (by decide +kernel) (ns_aload_n 0 rfl rfl) rfl ?_
    refine nk_getC (f := (4, 1, 24)) (x := 77) (len := 3) (ci := 13) (k := 28) (pc' := 70) ja_okT mJ_190 (by decide +kernel) (by decide +kernel) (by decide +kernel) (by decide) t_l0 rfl ?_
    refine nk_p (i := .aload_n 0) (len := 1) (pc' := 71) mJ_190 (by decide +kernel) (ns_aload_n 0 rfl rfl) rfl ?_
    refine nk_getI (y := (0, 0)) (x := 495) (len := 3) (ci := 13) (k := 25) (pc' := 74) ja_okT mJ_190 (by decide +kernel) (by decide +kernel) (by decide +kernel) t_l0 rfl ?_
    obtain ⟨h7, hr⟩ := nk_cke hr
    refine nk_iald (len := 1) (N := 24) (pc' := 75) mJ_190 (by decide +kernel) t1 h7.1 h7.2 rfl rfl ?_
    obtain ⟨r8, S9, h10, hr⟩ := nk_bde hr
    refine nk_callV (ci := 13) (n := 4) (x := 591) (len := 3) (j' := 165) (q' := 0) (r := r8) (S' := S9) (L2 := [(0, nk_r l0), (1, nk_r l1), (2, nk_i (nk_w (2646 + l2))), (3, nk_i r4), (4, nk_i (S5.1 (ja_c l0 28) (S5.1 l0 25).toNat))]) (rest := []) (st' := []) (pc' := 78) mJ_190 (by decide +kernel) (by decide +kernel) rfl rfl t_l0 (Nat.le_of_ble_eq_true rfl) mJ_165 (Nat.le_of_ble_eq_true rfl) rfl (ja_X13_joinRange_ok zs _ _ _ _ _ _ _ t_l0 t_l1 h10) rfl ?_
    refine nk_p (i := .aload_n 0) (len := 1) (pc' := 79) mJ_190 (by decide +kernel) (ns_aload_n 0 rfl rfl) rfl ?_
    refine nk_p (i := .aload_n 1) (len := 1) (pc' := 80) mJ_190 (by decide +kernel) (ns_aload_n 1 rfl rfl) rfl ?_
    refine nk_p (i := .sipush 2592) (len := 3) (pc' := 83) mJ_190 (by decide +kernel) (ns_sipush (c := 2592) (by decide +kernel)) rfl ?_
    refine nk_p (i := .iload_n 2) (len := 1) (pc' := 84) mJ_190 (by decide +kernel) (ns_iload_n 2 rfl rfl) rfl ?_
    refine nk_p (i := .iadd) (len := 1) (pc' := 85) mJ_190 (by decide +kernel) ns_iadd rfl ?_
    refine nk_p (i := .aload_n 1) (len := 1) (pc' := 86) mJ_190 (by decide +kernel) (ns_aload_n 1 rfl rfl) rfl ?_
    refine nk_getC (f := (4, 1, 54)) (x := 432) (len := 3) (ci := 12) (k := 27) (pc' := 89) ja_okT mJ_190 (by decide +kernel) (by decide +kernel) (by decide +kernel) (by decide) t_l1 rfl ?_
    have t11 : nk_ar ja_Tt (ja_c l1 27) = some (1, 54) := nk_ta ja_okT t_l1 (by decide +kernel)
    refine nk_p (i := .iload_n 2) (len := 1) (pc' := 90) mJ_190 (by decide +kernel) (ns_iload_n 2 rfl rfl) rfl ?_
    obtain ⟨h12, hr⟩ := nk_cke hr
    refine nk_iald (len := 1) (N := 54) (pc' := 91) mJ_190 (by decide +kernel) t11 h12.1 h12.2 rfl rfl ?_
    obtain ⟨r13, S14, h15, hr⟩ := nk_bde hr
    refine nk_callS (ci := 0) (n := 1) (x := 514) (len := 3) (j' := 108) (q' := 1) (r := r13) (S' := S14) (L2 := [(0, nk_i (S9.1 (ja_c l1 27) l2.toNat))]) (rest := [nk_i (nk_w (2592 + l2)), nk_r l1, nk_r l0]) (st' := [nk_i r13, nk_i (nk_w (2592 + l2)), nk_r l1, nk_r l0]) (pc' := 94) mJ_190 (by decide +kernel) (by decide +kernel) (Nat.le_of_ble_eq_true rfl) rfl rfl (Nat.le_of_ble_eq_true rfl) mJ_108 (Nat.le_of_ble_eq_true rfl) ja_Tpos rfl (ja_X13_elementOf_ok zs _ _ _ h15) rfl ?_
    obtain ⟨r16, S17, h18, hr⟩ := nk_bde hr
    refine nk_callV (ci := 13) (n := 3) (x := 748) (len := 3) (j' := 164) (q' := 0) (r := r16) (S' := S17) (L2 := [(0, nk_r l0), (1, nk_r l1), (2, nk_i (nk_w (2592 + l2))), (3, nk_i r13)]) (rest := []) (st' := []) (pc' := 97) mJ_190 (by decide +kernel) (by decide +kernel) rfl rfl t_l0 (Nat.le_of_ble_eq_true rfl) mJ_164 (Nat.le_of_ble_eq_true rfl) rfl (ja_X13_joinNothing_ok zs _ _ _ _ _ _ t_l0 t_l1 h18) rfl ?_
    refine nk_p (i := .aload_n 0) (len := 1) (pc' := 98) mJ_190 (by decide +kernel) (ns_aload_n 0 rfl rfl) rfl ?_
    refine nk_getC (f := (4, 1, 24)) (x := 84) (len := 3) (ci := 13) (k := 30) (pc' := 101) ja_okT mJ_190 (by decide +kernel) (by decide +kernel) (by decide +kernel) (by decide) t_l0 rfl ?_
    have t19 : nk_ar ja_Tt (ja_c l0 30) = some (1, 24) := nk_ta ja_okT t_l0 (by decide +kernel)
    refine nk_p (i := .aload_n 0) (len := 1) (pc' := 102) mJ_190 (by decide +kernel) (ns_aload_n 0 rfl rfl) rfl ?_
    refine nk_getI (y := (0, 0)) (x := 495) (len := 3) (ci := 13) (k := 25) (pc' := 105) ja_okT mJ_190 (by decide +kernel) (by decide +kernel) (by decide +kernel) t_l0 rfl ?_
    obtain ⟨h20, hr⟩ := nk_cke hr
    refine nk_iald (len := 1) (N := 24) (pc' := 106) mJ_190 (by decide +kernel) t19 h20.1 h20.2 rfl rfl ?_
    obtain ⟨v21, h22, hr⟩ := nk_lte hr
    refine nk_p (i := .istore_n 3) (len := 1) (pc' := 107) mJ_190 (by decide +kernel) (ns_istore_n (L' := [(3, nk_i v21), (0, nk_r l0), (1, nk_r l1), (2, nk_i l2)]) h22 rfl rfl (by decide +kernel)) rfl ?_
    refine nk_p (i := .aload_n 0) (len := 1) (pc' := 108) mJ_190 (by decide +kernel) (ns_aload_n 1 rfl rfl) rfl ?_
    refine nk_p (i := .lconst 1) (len := 1) (pc' := 109) mJ_190 (by decide +kernel) (ns_lconst (c := 1) (by decide +kernel)) rfl ?_
    refine nk_p (i := .iload_n 2) (len := 1) (pc' := 110) mJ_190 (by decide +kernel) (ns_iload_n 3 rfl rfl) rfl ?_
    refine nk_p (i := .lshl) (len := 1) (pc' := 111) mJ_190 (by decide +kernel) ns_lshl rfl ?_
    obtain ⟨r23, S24, h25, hr⟩ := nk_bde hr
    refine nk_callV (ci := 13) (n := 1) (x := 654) (len := 3) (j' := 176) (q' := 0) (r := r23) (S' := S24) (L2 := [(0, nk_r l0), (1, nk_l (nk_lshl 1 l2))]) (rest := []) (st' := []) (pc' := 114) mJ_190 (by decide +kernel) (by decide +kernel) rfl rfl t_l0 (Nat.le_of_ble_eq_true rfl) mJ_176 (Nat.le_of_ble_eq_true rfl) rfl (ja_X13_leaveSites_ok zs _ _ _ _ t_l0 h25) rfl ?_
    refine nk_p (i := .iload_n 3) (len := 1) (pc' := 115) mJ_190 (by decide +kernel) (ns_iload_n 0 rfl rfl) rfl ?_
    refine nk_icond (c := .lt) (off := 17) (len := 3) (t := 132) (pc' := 118) mJ_190 (by decide +kernel) (by decide +kernel) rfl (fun hc => ?_) (fun hc => ?_)
    · have hr := nk_ifp (c := v21 < 0) hc hr
      refine nk_p (i := .iconst 1) (len := 1) (pc' := 133) mJ_190 (by decide +kernel) (ns_iconst (c := 1) (by decide +kernel)) rfl ?_
      cases hr
      exact nk_iret (ty := .boolean) (len := 1) mJ_190 (by decide +kernel) rfl (nk_nar_z (by decide))
    · have hr := nk_ifn (c := v21 < 0) hc hr
      refine nk_p (i := .aload_n 0) (len := 1) (pc' := 119) mJ_190 (by decide +kernel) (ns_aload_n 1 rfl rfl) rfl ?_
      refine nk_getC (f := (4, 1, 24)) (x := 96) (len := 3) (ci := 13) (k := 34) (pc' := 122) ja_okT mJ_190 (by decide +kernel) (by decide +kernel) (by decide +kernel) (by decide) t_l0 rfl ?_
      have t26 : nk_ar ja_Tt (ja_c l0 34) = some (1, 24) := nk_ta ja_okT t_l0 (by decide +kernel)
      refine nk_p (i := .aload_n 0) (len := 1) (pc' := 123) mJ_190 (by decide +kernel) (ns_aload_n 1 rfl rfl) rfl ?_
      refine nk_getI (y := (0, 0)) (x := 495) (len := 3) (ci := 13) (k := 25) (pc' := 126) ja_okT mJ_190 (by decide +kernel) (by decide +kernel) (by decide +kernel) t_l0 rfl ?_
      refine nk_p (i := .iconst 1) (len := 1) (pc' := 127) mJ_190 (by decide +kernel) (ns_iconst (c := 1) (by decide +kernel)) rfl ?_
      refine nk_p (i := .isub) (len := 1) (pc' := 128) mJ_190 (by decide +kernel) ns_isub rfl ?_
      refine nk_p (i := .iconst 1) (len := 1) (pc' := 129) mJ_190 (by decide +kernel) (ns_iconst (c := 1) (by decide +kernel)) rfl ?_
      refine nk_p (i := .iload_n 3) (len := 1) (pc' := 130) mJ_190 (by decide +kernel) (ns_iload_n 0 rfl rfl) rfl ?_
      refine nk_p (i := .ishl) (len := 1) (pc' := 131) mJ_190 (by decide +kernel) ns_ishl rfl ?_
      obtain ⟨h27, hr⟩ := nk_cke hr
      obtain ⟨S28, h29, hr⟩ := nk_lte hr
      refine nk_iast (len := 1) (N := 24) (pc' := 132) mJ_190 (by decide +kernel) t26 h27.1 h27.2 rfl rfl h29 ?_
      refine nk_p (i := .iconst 1) (len := 1) (pc' := 133) mJ_190 (by decide +kernel) (ns_iconst (c := 1) (by decide +kernel)) rfl ?_
      cases hr
      exact nk_iret (ty := .boolean) (len := 1) mJ_190 (by decide +kernel) rfl (nk_nar_z (by decide))
  · have hr := nk_ifn (c := 0 ≤ (S.1 (ja_c l0 28) (S.1 l0 25).toNat)) hc hr
    refine nk_p (i := .iconst 0) (len := 1) (pc' := 45) mJ_190 (by decide +kernel) (ns_iconst (c := 0) (by decide +kernel)) rfl ?_
    cases hr
    exact nk_iret (ty := .boolean) (len := 1) mJ_190 (by decide +kernel) rfl (nk_nar_z (by decide))
noncomputable def ja_X13_madeArray (l0 : Nat) (l1 : Nat) (l2 : Int) (S : nk_S) : Option (Int × nk_S) :=
  nk_lt (nk_wi S l0 25 (nk_w ((S.1 l0 25) - 1))) fun S1 =>
  if 0 ≤ (S1.1 l0 25) ∧ (S1.1 l0 25) < 24 then
  if 0 ≤ (S1.1 (ja_c l0 27) (S1.1 l0 25).toNat) then
    ja_X13_madeArray_b32 l0 l1 l2 S1
  else
    nk_lt (nk_wi S1 l0 39 (nk_ior (S1.1 l0 39) 4)) fun S5 =>
    ja_X13_madeArray_b32 l0 l1 l2 S5
  else none
theorem ja_X13_madeArray_ok (zs : List Int32) : ∀ (l0 : Nat) (l1 : Nat) (l2 : Int) (S : nk_S) (R : Int × nk_S), nk_cl ja_Tt l0 = some 13 → nk_cl ja_Tt l1 = some 12 → ja_X13_madeArray l0 l1 l2 S = some R → nk_K ja_Tt mi_Γ (mi_ev zs) 1 190 0 [(0, nk_r l0), (1, nk_r l1), (2, nk_i l2)] [] S R := by
  intro l0 l1 l2 S R t_l0 t_l1 hr
  unfold ja_X13_madeArray at hr
  refine nk_p (i := .aload_n 0) (len := 1) (pc' := 1) mJ_190 (by decide +kernel) (ns_aload_n 0 rfl rfl) rfl ?_
  refine nk_p (i := .dup) (len := 1) (pc' := 2) mJ_190 (by decide +kernel) (ns_dup rfl) rfl ?_
  refine nk_getI (y := (0, 0)) (x := 495) (len := 3) (ci := 13) (k := 25) (pc' := 5) ja_okT mJ_190 (by decide +kernel) (by decide +kernel) (by decide +kernel) t_l0 rfl ?_
  refine nk_p (i := .iconst 1) (len := 1) (pc' := 6) mJ_190 (by decide +kernel) (ns_iconst (c := 1) (by decide +kernel)) rfl ?_
  refine nk_p (i := .isub) (len := 1) (pc' := 7) mJ_190 (by decide +kernel) ns_isub rfl ?_
  obtain ⟨S1, h2, hr⟩ := nk_lte hr
  refine nk_putI (y := (0, 0)) (ty := .int) (x := 495) (len := 3) (ci := 13) (k := 25) (pc' := 10) ja_okT mJ_190 (by decide +kernel) (by decide +kernel) (by decide +kernel) t_l0 (Or.inl rfl) rfl h2 ?_
  refine nk_p (i := .aload_n 0) (len := 1) (pc' := 11) mJ_190 (by decide +kernel) (ns_aload_n 0 rfl rfl) rfl ?_
  refine nk_getC (f := (4, 1, 24)) (x := 74) (len := 3) (ci := 13) (k := 27) (pc' := 14) ja_okT mJ_190 (by decide +kernel) (by decide +kernel) (by decide +kernel) (by decide) t_l0 rfl ?_
  have t3 : nk_ar ja_Tt (ja_c l0 27) = some (1, 24) := nk_ta ja_okT t_l0 (by decide +kernel)
  refine nk_p (i := .aload_n 0) (len := 1) (pc' := 15) mJ_190 (by decide +kernel) (ns_aload_n 0 rfl rfl) rfl ?_
  refine nk_getI (y := (0, 0)) (x := 495) (len := 3) (ci := 13) (k := 25) (pc' := 18) ja_okT mJ_190 (by decide +kernel) (by decide +kernel) (by decide +kernel) t_l0 rfl ?_
  obtain ⟨h4, hr⟩ := nk_cke hr
  refine nk_iald (len := 1) (N := 24) (pc' := 19) mJ_190 (by decide +kernel) t3 h4.1 h4.2 rfl rfl ?_
  refine nk_icond (c := .ge) (off := 13) (len := 3) (t := 32) (pc' := 22) mJ_190 (by decide +kernel) (by decide +kernel) rfl (fun hc => ?_) (fun hc => ?_)
  · have hr := nk_ifp (c := 0 ≤ (S1.1 (ja_c l0 27) (S1.1 l0 25).toNat)) hc hr
    exact ja_X13_madeArray_b32_ok zs _ _ _ _ _ t_l0 t_l1 hr
  · have hr := nk_ifn (c := 0 ≤ (S1.1 (ja_c l0 27) (S1.1 l0 25).toNat)) hc hr
    refine nk_p (i := .aload_n 0) (len := 1) (pc' := 23) mJ_190 (by decide +kernel) (ns_aload_n 0 rfl rfl) rfl ?_
    refine nk_p (i := .dup) (len := 1) (pc' := 24) mJ_190 (by decide +kernel) (ns_dup rfl) rfl ?_
    refine nk_getI (y := (0, 0)) (x := 625) (len := 3) (ci := 13) (k := 39) (pc' := 27) ja_okT mJ_190 (by decide +kernel) (by decide +kernel) (by decide +kernel) t_l0 rfl ?_
    refine nk_p (i := .iconst 4) (len := 1) (pc' := 28) mJ_190 (by decide +kernel) (ns_iconst (c := 4) (by decide +kernel)) rfl ?_
    refine nk_p (i := .ior) (len := 1) (pc' := 29) mJ_190 (by decide +kernel) ns_ior rfl ?_
    obtain ⟨S5, h6, hr⟩ := nk_lte hr
    refine nk_putI (y := (0, 0)) (ty := .int) (x := 625) (len := 3) (ci := 13) (k := 39) (pc' := 32) ja_okT mJ_190 (by decide +kernel) (by decide +kernel) (by decide +kernel) t_l0 (Or.inl rfl) rfl h6 ?_
    exact ja_X13_madeArray_b32_ok zs _ _ _ _ _ t_l0 t_l1 hr
/-! SafeCodeModel lengthOf (LSafeCodeModel$Program;)Z -/
noncomputable def ja_X13_lengthOf (l0 : Nat) (l1 : Nat) (S : nk_S) : Option (Int × nk_S) :=
  nk_lt (nk_w ((S.1 l0 25) - 1)) fun v1 =>
  nk_bd (ja_X13_dereference l0 v1 S) fun r3 S4 =>
  if r3 = 0 then
    some (0, S4)
  else
    if 0 ≤ v1 ∧ v1 < 24 then
    nk_lt (S4.1 (ja_c l0 29) v1.toNat) fun v8 =>
    nk_lt (S4.1 (ja_c l0 30) v1.toNat) fun v11 =>
    nk_lt (nk_wi S4 l0 25 (nk_w ((S4.1 l0 25) - 1))) fun S13 =>
    nk_bd (ja_X13_leaveValues l0 l1 2646 1 v8 S13) fun r15 S16 =>
    if v11 < 0 then
      if r15 = 0 ∨ r15 = 1 then
      some (r15, S16)
      else none
    else
      if 0 ≤ (nk_w ((S16.1 l0 25) - 1)) ∧ (nk_w ((S16.1 l0 25) - 1)) < 24 then
      nk_lt (nk_wi S16 (ja_c l0 33) (nk_w ((S16.1 l0 25) - 1)).toNat (nk_ishl 1 v11)) fun S21 =>
      if r15 = 0 ∨ r15 = 1 then
      some (r15, S21)
      else none
      else none
    else none
theorem ja_X13_lengthOf_ok (zs : List Int32) : ∀ (l0 : Nat) (l1 : Nat) (S : nk_S) (R : Int × nk_S), nk_cl ja_Tt l0 = some 13 → nk_cl ja_Tt l1 = some 12 → ja_X13_lengthOf l0 l1 S = some R → nk_K ja_Tt mi_Γ (mi_ev zs) 1 179 0 [(0, nk_r l0), (1, nk_r l1)] [] S R := by
  intro l0 l1 S R t_l0 t_l1 hr
  unfold ja_X13_lengthOf at hr
  refine nk_p (i := .aload_n 0) (len := 1) (pc' := 1) mJ_179 (by decide +kernel) (ns_aload_n 0 rfl rfl) rfl ?_
  refine nk_getI (y := (0, 0)) (x := 495) (len := 3) (ci := 13) (k := 25) (pc' := 4) ja_okT mJ_179 (by decide +kernel) (by decide +kernel) (by decide +kernel) t_l0 rfl ?_
  refine nk_p (i := .iconst 1) (len := 1) (pc' := 5) mJ_179 (by decide +kernel) (ns_iconst (c := 1) (by decide +kernel)) rfl ?_
  refine nk_p (i := .isub) (len := 1) (pc' := 6) mJ_179 (by decide +kernel) ns_isub rfl ?_
  obtain ⟨v1, h2, hr⟩ := nk_lte hr
  refine nk_p (i := .istore_n 2) (len := 1) (pc' := 7) mJ_179 (by decide +kernel) (ns_istore_n (L' := [(2, nk_i v1), (0, nk_r l0), (1, nk_r l1)]) h2 rfl rfl (by decide +kernel)) rfl ?_
  refine nk_p (i := .aload_n 0) (len := 1) (pc' := 8) mJ_179 (by decide +kernel) (ns_aload_n 1 rfl rfl) rfl ?_
  refine nk_p (i := .iload_n 2) (len := 1) (pc' := 9) mJ_179 (by decide +kernel) (ns_iload_n 0 rfl rfl) rfl ?_
  obtain ⟨r3, S4, h5, hr⟩ := nk_bde hr
  refine nk_callV (ci := 13) (n := 1) (x := 751) (len := 3) (j' := 106) (q' := 1) (r := r3) (S' := S4) (L2 := [(0, nk_r l0), (1, nk_i v1)]) (rest := []) (st' := [nk_i r3]) (pc' := 12) mJ_179 (by decide +kernel) (by decide +kernel) rfl rfl t_l0 (Nat.le_of_ble_eq_true rfl) mJ_106 (Nat.le_of_ble_eq_true rfl) rfl (ja_X13_dereference_ok zs _ _ _ _ t_l0 h5) rfl ?_
  refine nk_icond (c := .ne) (off := 5) (len := 3) (t := 17) (pc' := 15) mJ_179 (by decide +kernel) (by decide +kernel) rfl (fun hc => ?_) (fun hc => ?_)
  · have hr := nk_ifn (c := r3 = 0) hc hr
    refine nk_p (i := .aload_n 0) (len := 1) (pc' := 18) mJ_179 (by decide +kernel) (ns_aload_n 1 rfl rfl) rfl ?_
    refine nk_getC (f := (4, 2, 24)) (x := 80) (len := 3) (ci := 13) (k := 29) (pc' := 21) ja_okT mJ_179 (by decide +kernel) (by decide +kernel) (by decide +kernel) (by decide) t_l0 rfl ?_
    have t6 : nk_ar ja_Tt (ja_c l0 29) = some (2, 24) := nk_ta ja_okT t_l0 (by decide +kernel)
    refine nk_p (i := .iload_n 2) (len := 1) (pc' := 22) mJ_179 (by decide +kernel) (ns_iload_n 0 rfl rfl) rfl ?_
    obtain ⟨h7, hr⟩ := nk_cke hr
    refine nk_lald (len := 1) (N := 24) (pc' := 23) mJ_179 (by decide +kernel) t6 h7.1 h7.2 rfl rfl ?_
    obtain ⟨v8, h9, hr⟩ := nk_lte hr
    refine nk_p (i := .lstore_n 3) (len := 1) (pc' := 24) mJ_179 (by decide +kernel) (ns_lstore_n (L' := [(3, nk_l v8), (2, nk_i v1), (0, nk_r l0), (1, nk_r l1)]) h9 rfl rfl (by decide +kernel)) rfl ?_
    refine nk_p (i := .aload_n 0) (len := 1) (pc' := 25) mJ_179 (by decide +kernel) (ns_aload_n 2 rfl rfl) rfl ?_
    refine nk_getC (f := (4, 1, 24)) (x := 84) (len := 3) (ci := 13) (k := 30) (pc' := 28) ja_okT mJ_179 (by decide +kernel) (by decide +kernel) (by decide +kernel) (by decide) t_l0 rfl ?_
    have t10 : nk_ar ja_Tt (ja_c l0 30) = some (1, 24) := nk_ta ja_okT t_l0 (by decide +kernel)
    refine nk_p (i := .iload_n 2) (len := 1) (pc' := 29) mJ_179 (by decide +kernel) (ns_iload_n 1 rfl rfl) rfl ?_
    refine nk_iald (len := 1) (N := 24) (pc' := 30) mJ_179 (by decide +kernel) t10 h7.1 h7.2 rfl rfl ?_
    obtain ⟨v11, h12, hr⟩ := nk_lte hr
    refine nk_p (i := .istore 5) (len := 2) (pc' := 32) mJ_179 (by decide +kernel) (ns_istore (L' := [(5, nk_i v11), (3, nk_l v8), (2, nk_i v1), (0, nk_r l0), (1, nk_r l1)]) h12 rfl (by decide +kernel)) rfl ?_
    refine nk_p (i := .aload_n 0) (len := 1) (pc' := 33) mJ_179 (by decide +kernel) (ns_aload_n 3 rfl rfl) rfl ?_
    refine nk_p (i := .dup) (len := 1) (pc' := 34) mJ_179 (by decide +kernel) (ns_dup rfl) rfl ?_
    refine nk_getI (y := (0, 0)) (x := 495) (len := 3) (ci := 13) (k := 25) (pc' := 37) ja_okT mJ_179 (by decide +kernel) (by decide +kernel) (by decide +kernel) t_l0 rfl ?_
    refine nk_p (i := .iconst 1) (len := 1) (pc' := 38) mJ_179 (by decide +kernel) (ns_iconst (c := 1) (by decide +kernel)) rfl ?_
    refine nk_p (i := .isub) (len := 1) (pc' := 39) mJ_179 (by decide +kernel) ns_isub rfl ?_
    obtain ⟨S13, h14, hr⟩ := nk_lte hr
    refine nk_putI (y := (0, 0)) (ty := .int) (x := 495) (len := 3) (ci := 13) (k := 25) (pc' := 42) ja_okT mJ_179 (by decide +kernel) (by decide +kernel) (by decide +kernel) t_l0 (Or.inl rfl) rfl h14 ?_
    refine nk_p (i := .aload_n 0) (len := 1) (pc' := 43) mJ_179 (by decide +kernel) (ns_aload_n 3 rfl rfl) rfl ?_
    refine nk_p (i := .aload_n 1) (len := 1) (pc' := 44) mJ_179 (by decide +kernel) (ns_aload_n 4 rfl rfl) rfl ?_
    refine nk_p (i := .sipush 2646) (len := 3) (pc' := 47) mJ_179 (by decide +kernel) (ns_sipush (c := 2646) (by decide +kernel)) rfl ?_
    refine nk_p (i := .iconst 1) (len := 1) (pc' := 48) mJ_179 (by decide +kernel) (ns_iconst (c := 1) (by decide +kernel)) rfl ?_
    refine nk_p (i := .lload_n 3) (len := 1) (pc' := 49) mJ_179 (by decide +kernel) (ns_lload_n 1 rfl rfl) rfl ?_
    obtain ⟨r15, S16, h17, hr⟩ := nk_bde hr
    refine nk_callV (ci := 13) (n := 4) (x := 754) (len := 3) (j' := 177) (q' := 1) (r := r15) (S' := S16) (L2 := [(0, nk_r l0), (1, nk_r l1), (2, nk_i 2646), (3, nk_i 1), (4, nk_l v8)]) (rest := []) (st' := [nk_i r15]) (pc' := 52) mJ_179 (by decide +kernel) (by decide +kernel) rfl rfl t_l0 (Nat.le_of_ble_eq_true rfl) mJ_177 (Nat.le_of_ble_eq_true rfl) rfl (ja_X13_leaveValues_ok zs _ _ _ _ _ _ _ t_l0 t_l1 h17) rfl ?_
    refine nk_p (i := .istore 6) (len := 2) (pc' := 54) mJ_179 (by decide +kernel) (ns_istore (L' := [(6, nk_i r15), (5, nk_i v11), (3, nk_l v8), (2, nk_i v1), (0, nk_r l0), (1, nk_r l1)]) rfl rfl (by decide +kernel)) rfl ?_
    refine nk_p (i := .iload 5) (len := 2) (pc' := 56) mJ_179 (by decide +kernel) (ns_iload 1 rfl) rfl ?_
    refine nk_icond (c := .lt) (off := 18) (len := 3) (t := 74) (pc' := 59) mJ_179 (by decide +kernel) (by decide +kernel) rfl (fun hc => ?_) (fun hc => ?_)
    · have hr := nk_ifp (c := v11 < 0) hc hr
      refine nk_p (i := .iload 6) (len := 2) (pc' := 76) mJ_179 (by decide +kernel) (ns_iload 0 rfl) rfl ?_
      obtain ⟨h18, hr⟩ := nk_cke hr
      cases hr
      exact nk_iret (ty := .boolean) (len := 1) mJ_179 (by decide +kernel) rfl (nk_nar_z h18)
    · have hr := nk_ifn (c := v11 < 0) hc hr
      refine nk_p (i := .aload_n 0) (len := 1) (pc' := 60) mJ_179 (by decide +kernel) (ns_aload_n 4 rfl rfl) rfl ?_
      refine nk_getC (f := (4, 1, 24)) (x := 93) (len := 3) (ci := 13) (k := 33) (pc' := 63) ja_okT mJ_179 (by decide +kernel) (by decide +kernel) (by decide +kernel) (by decide) t_l0 rfl ?_
      have t19 : nk_ar ja_Tt (ja_c l0 33) = some (1, 24) := nk_ta ja_okT t_l0 (by decide +kernel)
      refine nk_p (i := .aload_n 0) (len := 1) (pc' := 64) mJ_179 (by decide +kernel) (ns_aload_n 4 rfl rfl) rfl ?_
      refine nk_getI (y := (0, 0)) (x := 495) (len := 3) (ci := 13) (k := 25) (pc' := 67) ja_okT mJ_179 (by decide +kernel) (by decide +kernel) (by decide +kernel) t_l0 rfl ?_
      refine nk_p (i := .iconst 1) (len := 1) (pc' := 68) mJ_179 (by decide +kernel) (ns_iconst (c := 1) (by decide +kernel)) rfl ?_
      refine nk_p (i := .isub) (len := 1) (pc' := 69) mJ_179 (by decide +kernel) ns_isub rfl ?_
      refine nk_p (i := .iconst 1) (len := 1) (pc' := 70) mJ_179 (by decide +kernel) (ns_iconst (c := 1) (by decide +kernel)) rfl ?_
      refine nk_p (i := .iload 5) (len := 2) (pc' := 72) mJ_179 (by decide +kernel) (ns_iload 1 rfl) rfl ?_
      refine nk_p (i := .ishl) (len := 1) (pc' := 73) mJ_179 (by decide +kernel) ns_ishl rfl ?_
      obtain ⟨h20, hr⟩ := nk_cke hr
      obtain ⟨S21, h22, hr⟩ := nk_lte hr
      refine nk_iast (len := 1) (N := 24) (pc' := 74) mJ_179 (by decide +kernel) t19 h20.1 h20.2 rfl rfl h22 ?_
      refine nk_p (i := .iload 6) (len := 2) (pc' := 76) mJ_179 (by decide +kernel) (ns_iload 0 rfl) rfl ?_
      obtain ⟨h23, hr⟩ := nk_cke hr
      cases hr
      exact nk_iret (ty := .boolean) (len := 1) mJ_179 (by decide +kernel) rfl (nk_nar_z h23)
  · have hr := nk_ifp (c := r3 = 0) (Decidable.of_not_not hc) hr
    refine nk_p (i := .iconst 0) (len := 1) (pc' := 16) mJ_179 (by decide +kernel) (ns_iconst (c := 0) (by decide +kernel)) rfl ?_
    cases hr
    exact nk_iret (ty := .boolean) (len := 1) mJ_179 (by decide +kernel) rfl (nk_nar_z (by decide))
/-! SafeCodeModel ofType (LSafeCodeModel$Program;IZ)Z -/
noncomputable def ja_X13_ofType_b184 (l7 : Int) (l8 : Int) (s0 : Nat) (s1 : Nat) (s2 : Int) (s3 : Int) (S : nk_S) : Option (Int × nk_S) :=
  nk_bd (ja_X13_leaveRange s0 s1 s2 s3 S) fun r1 S2 =>
  if l7 = 0 then
    if l8 = 0 then
      some (0, S2)
    else
      some (1, S2)
  else
    some (1, S2)
theorem ja_X13_ofType_b184_ok (zs : List Int32) : ∀ (l7 : Int) (l8 : Int) (s0 : Nat) (s1 : Nat) (s2 : Int) (s3 : Int) (S : nk_S) (R : Int × nk_S), nk_cl ja_Tt s0 = some 13 → nk_cl ja_Tt s1 = some 12 → ja_X13_ofType_b184 l7 l8 s0 s1 s2 s3 S = some R → nk_K ja_Tt mi_Γ (mi_ev zs) 1 202 184 [(7, nk_i l7), (8, nk_i l8)] [nk_l s3, nk_l s2, nk_r s1, nk_r s0] S R := by
  intro l7 l8 s0 s1 s2 s3 S R t_s0 t_s1 hr
  unfold ja_X13_ofType_b184 at hr
  obtain ⟨r1, S2, h3, hr⟩ := nk_bde hr
  refine nk_callV (ci := 13) (n := 3) (x := 684) (len := 3) (j' := 175) (q' := 0) (r := r1) (S' := S2) (L2 := [(0, nk_r s0), (1, nk_r s1), (2, nk_l s2), (4, nk_l s3)]) (rest := []) (st' := []) (pc' := 187) mJ_202 (by decide +kernel) (by decide +kernel) rfl rfl t_s0 (Nat.le_of_ble_eq_true rfl) mJ_175 (Nat.le_of_ble_eq_true rfl) rfl (ja_X13_leaveRange_ok zs _ _ _ _ _ _ t_s0 t_s1 h3) rfl ?_
  refine nk_p (i := .iload 7) (len := 2) (pc' := 189) mJ_202 (by decide +kernel) (ns_iload 0 rfl) rfl ?_
  refine nk_icond (c := .ne) (off := 8) (len := 3) (t := 197) (pc' := 192) mJ_202 (by decide +kernel) (by decide +kernel) rfl (fun hc => ?_) (fun hc => ?_)
  · have hr := nk_ifn (c := l7 = 0) hc hr
    refine nk_p (i := .iconst 1) (len := 1) (pc' := 198) mJ_202 (by decide +kernel) (ns_iconst (c := 1) (by decide +kernel)) rfl ?_
    refine nk_p (i := .goto 4) (len := 3) (pc' := 202) mJ_202 (by decide +kernel) (ns_goto (by decide +kernel)) rfl ?_
    cases hr
    exact nk_iret (ty := .boolean) (len := 1) mJ_202 (by decide +kernel) rfl (nk_nar_z (by decide))
  · have hr := nk_ifp (c := l7 = 0) (Decidable.of_not_not hc) hr
    refine nk_p (i := .iload 8) (len := 2) (pc' := 194) mJ_202 (by decide +kernel) (ns_iload 1 rfl) rfl ?_
    refine nk_icond (c := .eq) (off := 7) (len := 3) (t := 201) (pc' := 197) mJ_202 (by decide +kernel) (by decide +kernel) rfl (fun hc => ?_) (fun hc => ?_)
    · have hr := nk_ifp (c := l8 = 0) hc hr
      refine nk_p (i := .iconst 0) (len := 1) (pc' := 202) mJ_202 (by decide +kernel) (ns_iconst (c := 0) (by decide +kernel)) rfl ?_
      cases hr
      exact nk_iret (ty := .boolean) (len := 1) mJ_202 (by decide +kernel) rfl (nk_nar_z (by decide))
    · have hr := nk_ifn (c := l8 = 0) hc hr
      refine nk_p (i := .iconst 1) (len := 1) (pc' := 198) mJ_202 (by decide +kernel) (ns_iconst (c := 1) (by decide +kernel)) rfl ?_
      refine nk_p (i := .goto 4) (len := 3) (pc' := 202) mJ_202 (by decide +kernel) (ns_goto (by decide +kernel)) rfl ?_
      cases hr
      exact nk_iret (ty := .boolean) (len := 1) mJ_202 (by decide +kernel) rfl (nk_nar_z (by decide))
noncomputable def ja_X13_ofType_b174 (l7 : Int) (l8 : Int) (s0 : Nat) (s1 : Nat) (s2 : Int) (S : nk_S) : Option (Int × nk_S) :=
  if l7 = 0 then
    ja_X13_ofType_b184 l7 l8 s0 s1 s2 0 S
  else
    ja_X13_ofType_b184 l7 l8 s0 s1 s2 1 S
theorem ja_X13_ofType_b174_ok (zs : List Int32) : ∀ (l7 : Int) (l8 : Int) (s0 : Nat) (s1 : Nat) (s2 : Int) (S : nk_S) (R : Int × nk_S), nk_cl ja_Tt s0 = some 13 → nk_cl ja_Tt s1 = some 12 → ja_X13_ofType_b174 l7 l8 s0 s1 s2 S = some R → nk_K ja_Tt mi_Γ (mi_ev zs) 1 202 174 [(7, nk_i l7), (8, nk_i l8)] [nk_l s2, nk_r s1, nk_r s0] S R := by
  intro l7 l8 s0 s1 s2 S R t_s0 t_s1 hr
  unfold ja_X13_ofType_b174 at hr
  refine nk_p (i := .iload 7) (len := 2) (pc' := 176) mJ_202 (by decide +kernel) (ns_iload 0 rfl) rfl ?_
  refine nk_icond (c := .eq) (off := 7) (len := 3) (t := 183) (pc' := 179) mJ_202 (by decide +kernel) (by decide +kernel) rfl (fun hc => ?_) (fun hc => ?_)
  · have hr := nk_ifp (c := l7 = 0) hc hr
    refine nk_p (i := .lconst 0) (len := 1) (pc' := 184) mJ_202 (by decide +kernel) (ns_lconst (c := 0) (by decide +kernel)) rfl ?_
    exact ja_X13_ofType_b184_ok zs _ _ _ _ _ _ _ _ t_s0 t_s1 hr
  · have hr := nk_ifn (c := l7 = 0) hc hr
    refine nk_p (i := .lconst 1) (len := 1) (pc' := 180) mJ_202 (by decide +kernel) (ns_lconst (c := 1) (by decide +kernel)) rfl ?_
    refine nk_p (i := .goto 4) (len := 3) (pc' := 184) mJ_202 (by decide +kernel) (ns_goto (by decide +kernel)) rfl ?_
    exact ja_X13_ofType_b184_ok zs _ _ _ _ _ _ _ _ t_s0 t_s1 hr
noncomputable def ja_X13_ofType_b150 (l0 : Nat) (l1 : Nat) (l7 : Int) (s0 : Int) (S : nk_S) : Option (Int × nk_S) :=
  nk_lt (nk_wi S l0 25 (nk_w ((S.1 l0 25) - 1))) fun S1 =>
  if s0 = 0 then
    ja_X13_ofType_b174 l7 s0 l0 l1 1 S1
  else
    ja_X13_ofType_b174 l7 s0 l0 l1 0 S1
theorem ja_X13_ofType_b150_ok (zs : List Int32) : ∀ (l0 : Nat) (l1 : Nat) (l7 : Int) (s0 : Int) (S : nk_S) (R : Int × nk_S), nk_cl ja_Tt l0 = some 13 → nk_cl ja_Tt l1 = some 12 → ja_X13_ofType_b150 l0 l1 l7 s0 S = some R → nk_K ja_Tt mi_Γ (mi_ev zs) 1 202 150 [(0, nk_r l0), (1, nk_r l1), (7, nk_i l7)] [nk_i s0] S R := by
  intro l0 l1 l7 s0 S R t_l0 t_l1 hr
  unfold ja_X13_ofType_b150 at hr
  refine nk_p (i := .istore 8) (len := 2) (pc' := 152) mJ_202 (by decide +kernel) (ns_istore (L' := [(8, nk_i s0), (0, nk_r l0), (1, nk_r l1), (7, nk_i l7)]) rfl rfl (by decide +kernel)) rfl ?_
  refine nk_p (i := .aload_n 0) (len := 1) (pc' := 153) mJ_202 (by decide +kernel) (ns_aload_n 1 rfl rfl) rfl ?_
  refine nk_p (i := .dup) (len := 1) (pc' := 154) mJ_202 (by decide +kernel) (ns_dup rfl) rfl ?_
  refine nk_getI (y := (0, 0)) (x := 495) (len := 3) (ci := 13) (k := 25) (pc' := 157) ja_okT mJ_202 (by decide +kernel) (by decide +kernel) (by decide +kernel) t_l0 rfl ?_
  refine nk_p (i := .iconst 1) (len := 1) (pc' := 158) mJ_202 (by decide +kernel) (ns_iconst (c := 1) (by decide +kernel)) rfl ?_
  refine nk_p (i := .isub) (len := 1) (pc' := 159) mJ_202 (by decide +kernel) ns_isub rfl ?_
  obtain ⟨S1, h2, hr⟩ := nk_lte hr
  refine nk_putI (y := (0, 0)) (ty := .int) (x := 495) (len := 3) (ci := 13) (k := 25) (pc' := 162) ja_okT mJ_202 (by decide +kernel) (by decide +kernel) (by decide +kernel) t_l0 (Or.inl rfl) rfl h2 ?_
  refine nk_p (i := .aload_n 0) (len := 1) (pc' := 163) mJ_202 (by decide +kernel) (ns_aload_n 1 rfl rfl) rfl ?_
  refine nk_p (i := .aload_n 1) (len := 1) (pc' := 164) mJ_202 (by decide +kernel) (ns_aload_n 2 rfl rfl) rfl ?_
  refine nk_p (i := .iload 8) (len := 2) (pc' := 166) mJ_202 (by decide +kernel) (ns_iload 0 rfl) rfl ?_
  refine nk_icond (c := .eq) (off := 7) (len := 3) (t := 173) (pc' := 169) mJ_202 (by decide +kernel) (by decide +kernel) rfl (fun hc => ?_) (fun hc => ?_)
  · have hr := nk_ifp (c := s0 = 0) hc hr
    refine nk_p (i := .lconst 1) (len := 1) (pc' := 174) mJ_202 (by decide +kernel) (ns_lconst (c := 1) (by decide +kernel)) rfl ?_
    refine nk_sub [3, 0] (L' := [(7, nk_i l7), (8, nk_i s0)]) rfl ?_
    exact ja_X13_ofType_b174_ok zs _ _ _ _ _ _ _ t_l0 t_l1 hr
  · have hr := nk_ifn (c := s0 = 0) hc hr
    refine nk_p (i := .lconst 0) (len := 1) (pc' := 170) mJ_202 (by decide +kernel) (ns_lconst (c := 0) (by decide +kernel)) rfl ?_
    refine nk_p (i := .goto 4) (len := 3) (pc' := 174) mJ_202 (by decide +kernel) (ns_goto (by decide +kernel)) rfl ?_
    refine nk_sub [3, 0] (L' := [(7, nk_i l7), (8, nk_i s0)]) rfl ?_
    exact ja_X13_ofType_b174_ok zs _ _ _ _ _ _ _ t_l0 t_l1 hr
noncomputable def ja_X13_ofType_b75 (l0 : Nat) (l4 : Int) (l5 : Int) (S : nk_S) : Option (Int × nk_S) :=
  if 0 ≤ l4 ∧ l4 < 24 then
  nk_bd (ja_X13_keeps l0 l4 (nk_land (S.1 (ja_c l0 29) l4.toNat) (nk_lor l5 4611686018427387904)) S) fun r3 S4 =>
  if r3 = 0 then
    some (0, S4)
  else
    nk_lt (nk_wi S4 (ja_c l0 31) l4.toNat 0) fun S7 =>
    nk_lt (nk_wi S7 (ja_c l0 32) l4.toNat 0) fun S10 =>
    nk_lt (nk_wi S10 (ja_c l0 33) l4.toNat 0) fun S13 =>
    some (1, S13)
  else none
theorem ja_X13_ofType_b75_ok (zs : List Int32) : ∀ (l0 : Nat) (l4 : Int) (l5 : Int) (S : nk_S) (R : Int × nk_S), nk_cl ja_Tt l0 = some 13 → ja_X13_ofType_b75 l0 l4 l5 S = some R → nk_K ja_Tt mi_Γ (mi_ev zs) 1 202 75 [(0, nk_r l0), (4, nk_i l4), (5, nk_l l5)] [] S R := by
  intro l0 l4 l5 S R t_l0 hr
  unfold ja_X13_ofType_b75 at hr
  refine nk_p (i := .aload_n 0) (len := 1) (pc' := 76) mJ_202 (by decide +kernel) (ns_aload_n 0 rfl rfl) rfl ?_
  refine nk_p (i := .iload 4) (len := 2) (pc' := 78) mJ_202 (by decide +kernel) (ns_iload 1 rfl) rfl ?_
  refine nk_p (i := .aload_n 0) (len := 1) (pc' := 79) mJ_202 (by decide +kernel) (ns_aload_n 0 rfl rfl) rfl ?_
  refine nk_getC (f := (4, 2, 24)) (x := 80) (len := 3) (ci := 13) (k := 29) (pc' := 82) ja_okT mJ_202 (by decide +kernel) (by decide +kernel) (by decide +kernel) (by decide) t_l0 rfl ?_
  have t1 : nk_ar ja_Tt (ja_c l0 29) = some (2, 24) := nk_ta ja_okT t_l0 (by decide +kernel)
  refine nk_p (i := .iload 4) (len := 2) (pc' := 84) mJ_202 (by decide +kernel) (ns_iload 1 rfl) rfl ?_
  obtain ⟨h2, hr⟩ := nk_cke hr
  refine nk_lald (len := 1) (N := 24) (pc' := 85) mJ_202 (by decide +kernel) t1 h2.1 h2.2 rfl rfl ?_
  refine nk_p (i := .lload 5) (len := 2) (pc' := 87) mJ_202 (by decide +kernel) (ns_lload 2 rfl) rfl ?_
  refine nk_ldc2 (x := 599) (len := 3) (X := 4611686018427387904) (v := 4611686018427387904) (pc' := 90) mJ_202 (by decide +kernel) (by decide +kernel) (by decide +kernel) rfl ?_
  refine nk_p (i := .lor) (len := 1) (pc' := 91) mJ_202 (by decide +kernel) ns_lor rfl ?_
  refine nk_p (i := .land) (len := 1) (pc' := 92) mJ_202 (by decide +kernel) ns_land rfl ?_
  obtain ⟨r3, S4, h5, hr⟩ := nk_bde hr
  refine nk_callV (ci := 13) (n := 2) (x := 660) (len := 3) (j' := 170) (q' := 1) (r := r3) (S' := S4) (L2 := [(0, nk_r l0), (1, nk_i l4), (2, nk_l (nk_land (S.1 (ja_c l0 29) l4.toNat) (nk_lor l5 4611686018427387904)))]) (rest := []) (st' := [nk_i r3]) (pc' := 95) mJ_202 (by decide +kernel) (by decide +kernel) rfl rfl t_l0 (Nat.le_of_ble_eq_true rfl) mJ_170 (Nat.le_of_ble_eq_true rfl) rfl (ja_X13_keeps_ok zs _ _ _ _ _ t_l0 h5) rfl ?_
  refine nk_icond (c := .ne) (off := 5) (len := 3) (t := 100) (pc' := 98) mJ_202 (by decide +kernel) (by decide +kernel) rfl (fun hc => ?_) (fun hc => ?_)
  · have hr := nk_ifn (c := r3 = 0) hc hr
    refine nk_p (i := .aload_n 0) (len := 1) (pc' := 101) mJ_202 (by decide +kernel) (ns_aload_n 0 rfl rfl) rfl ?_
    refine nk_getC (f := (4, 1, 24)) (x := 87) (len := 3) (ci := 13) (k := 31) (pc' := 104) ja_okT mJ_202 (by decide +kernel) (by decide +kernel) (by decide +kernel) (by decide) t_l0 rfl ?_
    have t6 : nk_ar ja_Tt (ja_c l0 31) = some (1, 24) := nk_ta ja_okT t_l0 (by decide +kernel)
    refine nk_p (i := .iload 4) (len := 2) (pc' := 106) mJ_202 (by decide +kernel) (ns_iload 1 rfl) rfl ?_
    refine nk_p (i := .iconst 0) (len := 1) (pc' := 107) mJ_202 (by decide +kernel) (ns_iconst (c := 0) (by decide +kernel)) rfl ?_
    obtain ⟨S7, h8, hr⟩ := nk_lte hr
    refine nk_iast (len := 1) (N := 24) (pc' := 108) mJ_202 (by decide +kernel) t6 h2.1 h2.2 rfl rfl h8 ?_
    refine nk_p (i := .aload_n 0) (len := 1) (pc' := 109) mJ_202 (by decide +kernel) (ns_aload_n 0 rfl rfl) rfl ?_
    refine nk_getC (f := (4, 1, 24)) (x := 90) (len := 3) (ci := 13) (k := 32) (pc' := 112) ja_okT mJ_202 (by decide +kernel) (by decide +kernel) (by decide +kernel) (by decide) t_l0 rfl ?_
    have t9 : nk_ar ja_Tt (ja_c l0 32) = some (1, 24) := nk_ta ja_okT t_l0 (by decide +kernel)
    refine nk_p (i := .iload 4) (len := 2) (pc' := 114) mJ_202 (by decide +kernel) (ns_iload 1 rfl) rfl ?_
    refine nk_p (i := .iconst 0) (len := 1) (pc' := 115) mJ_202 (by decide +kernel) (ns_iconst (c := 0) (by decide +kernel)) rfl ?_
    obtain ⟨S10, h11, hr⟩ := nk_lte hr
    refine nk_iast (len := 1) (N := 24) (pc' := 116) mJ_202 (by decide +kernel) t9 h2.1 h2.2 rfl rfl h11 ?_
    refine nk_p (i := .aload_n 0) (len := 1) (pc' := 117) mJ_202 (by decide +kernel) (ns_aload_n 0 rfl rfl) rfl ?_
    refine nk_getC (f := (4, 1, 24)) (x := 93) (len := 3) (ci := 13) (k := 33) (pc' := 120) ja_okT mJ_202 (by decide +kernel) (by decide +kernel) (by decide +kernel) (by decide) t_l0 rfl ?_
    have t12 : nk_ar ja_Tt (ja_c l0 33) = some (1, 24) := nk_ta ja_okT t_l0 (by decide +kernel)
    refine nk_p (i := .iload 4) (len := 2) (pc' := 122) mJ_202 (by decide +kernel) (ns_iload 1 rfl) rfl ?_
    refine nk_p (i := .iconst 0) (len := 1) (pc' := 123) mJ_202 (by decide +kernel) (ns_iconst (c := 0) (by decide +kernel)) rfl ?_
    obtain ⟨S13, h14, hr⟩ := nk_lte hr
    refine nk_iast (len := 1) (N := 24) (pc' := 124) mJ_202 (by decide +kernel) t12 h2.1 h2.2 rfl rfl h14 ?_
    refine nk_p (i := .iconst 1) (len := 1) (pc' := 125) mJ_202 (by decide +kernel) (ns_iconst (c := 1) (by decide +kernel)) rfl ?_
    cases hr
    exact nk_iret (ty := .boolean) (len := 1) mJ_202 (by decide +kernel) rfl (nk_nar_z (by decide))
  · have hr := nk_ifp (c := r3 = 0) (Decidable.of_not_not hc) hr
    refine nk_p (i := .iconst 0) (len := 1) (pc' := 99) mJ_202 (by decide +kernel) (ns_iconst (c := 0) (by decide +kernel)) rfl ?_
    cases hr
    exact nk_iret (ty := .boolean) (len := 1) mJ_202 (by decide +kernel) rfl (nk_nar_z (by decide))
noncomputable def ja_X13_ofType_b35 (l0 : Nat) (l1 : Nat) (l3 : Int) (l4 : Int) (l5 : Int) (s0 : Int) (S : nk_S) : Option (Int × nk_S) :=
  if l3 = 0 then
    if 0 ≤ l4 ∧ l4 < 24 then
    if (nk_land (S.1 (ja_c l0 29) l4.toNat) (nk_lxor l5 (-1))) = 0 then
      ja_X13_ofType_b150 l0 l1 s0 0 S
    else
      ja_X13_ofType_b150 l0 l1 s0 1 S
    else none
  else
    if 0 ≤ l4 ∧ l4 < 24 then
    if (nk_land (nk_land (S.1 (ja_c l0 29) l4.toNat) (nk_lxor l5 (-1))) (-4611686018427387905)) = 0 then
      ja_X13_ofType_b75 l0 l4 l5 S
    else
      nk_lt (nk_wi S l0 39 (nk_ior (S.1 l0 39) 16)) fun S5 =>
      ja_X13_ofType_b75 l0 l4 l5 S5
    else none
theorem ja_X13_ofType_b35_ok (zs : List Int32) : ∀ (l0 : Nat) (l1 : Nat) (l3 : Int) (l4 : Int) (l5 : Int) (s0 : Int) (S : nk_S) (R : Int × nk_S), nk_cl ja_Tt l0 = some 13 → nk_cl ja_Tt l1 = some 12 → ja_X13_ofType_b35 l0 l1 l3 l4 l5 s0 S = some R → nk_K ja_Tt mi_Γ (mi_ev zs) 1 202 35 [(0, nk_r l0), (1, nk_r l1), (3, nk_i l3), (4, nk_i l4), (5, nk_l l5)] [nk_i s0] S R := by
  intro l0 l1 l3 l4 l5 s0 S R t_l0 t_l1 hr
  unfold ja_X13_ofType_b35 at hr
  refine nk_p (i := .istore 7) (len := 2) (pc' := 37) mJ_202 (by decide +kernel) (ns_istore (L' := [(7, nk_i s0), (0, nk_r l0), (1, nk_r l1), (3, nk_i l3), (4, nk_i l4), (5, nk_l l5)]) rfl rfl (by decide +kernel)) rfl ?_
  refine nk_p (i := .iload_n 3) (len := 1) (pc' := 38) mJ_202 (by decide +kernel) (ns_iload_n 3 rfl rfl) rfl ?_
  refine nk_icond (c := .eq) (off := 88) (len := 3) (t := 126) (pc' := 41) mJ_202 (by decide +kernel) (by decide +kernel) rfl (fun hc => ?_) (fun hc => ?_)
  · have hr := nk_ifp (c := l3 = 0) hc hr
    refine nk_p (i := .aload_n 0) (len := 1) (pc' := 127) mJ_202 (by decide +kernel) (ns_aload_n 1 rfl rfl) rfl ?_
    refine nk_getC (f := (4, 2, 24)) (x := 80) (len := 3) (ci := 13) (k := 29) (pc' := 130) ja_okT mJ_202 (by decide +kernel) (by decide +kernel) (by decide +kernel) (by decide) t_l0 rfl ?_
    have t1 : nk_ar ja_Tt (ja_c l0 29) = some (2, 24) := nk_ta ja_okT t_l0 (by decide +kernel)
    refine nk_p (i := .iload 4) (len := 2) (pc' := 132) mJ_202 (by decide +kernel) (ns_iload 4 rfl) rfl ?_
    obtain ⟨h2, hr⟩ := nk_cke hr
    refine nk_lald (len := 1) (N := 24) (pc' := 133) mJ_202 (by decide +kernel) t1 h2.1 h2.2 rfl rfl ?_
    refine nk_p (i := .lload 5) (len := 2) (pc' := 135) mJ_202 (by decide +kernel) (ns_lload 5 rfl) rfl ?_
    refine nk_ldc2 (x := 549) (len := 3) (X := (-1)) (v := (-1)) (pc' := 138) mJ_202 (by decide +kernel) (by decide +kernel) (by decide +kernel) rfl ?_
    refine nk_p (i := .lxor) (len := 1) (pc' := 139) mJ_202 (by decide +kernel) ns_lxor rfl ?_
    refine nk_p (i := .land) (len := 1) (pc' := 140) mJ_202 (by decide +kernel) ns_land rfl ?_
    refine nk_p (i := .lconst 0) (len := 1) (pc' := 141) mJ_202 (by decide +kernel) (ns_lconst (c := 0) (by decide +kernel)) rfl ?_
    refine nk_p (i := .lcmp) (len := 1) (pc' := 142) mJ_202 (by decide +kernel) ns_lcmp rfl ?_
    refine nk_lcond (c := .eq) (off := 7) (len := 3) (t := 149) (pc' := 145) mJ_202 (by decide +kernel) (by decide +kernel) rfl (fun hc => ?_) (fun hc => ?_)
    · have hr := nk_ifp (c := (nk_land (S.1 (ja_c l0 29) l4.toNat) (nk_lxor l5 (-1))) = 0) hc hr
      refine nk_p (i := .iconst 0) (len := 1) (pc' := 150) mJ_202 (by decide +kernel) (ns_iconst (c := 0) (by decide +kernel)) rfl ?_
      refine nk_sub [1, 2, 0] (L' := [(0, nk_r l0), (1, nk_r l1), (7, nk_i s0)]) rfl ?_
      exact ja_X13_ofType_b150_ok zs _ _ _ _ _ _ t_l0 t_l1 hr
    · have hr := nk_ifn (c := (nk_land (S.1 (ja_c l0 29) l4.toNat) (nk_lxor l5 (-1))) = 0) hc hr
      refine nk_p (i := .iconst 1) (len := 1) (pc' := 146) mJ_202 (by decide +kernel) (ns_iconst (c := 1) (by decide +kernel)) rfl ?_
      refine nk_p (i := .goto 4) (len := 3) (pc' := 150) mJ_202 (by decide +kernel) (ns_goto (by decide +kernel)) rfl ?_
      refine nk_sub [1, 2, 0] (L' := [(0, nk_r l0), (1, nk_r l1), (7, nk_i s0)]) rfl ?_
      exact ja_X13_ofType_b150_ok zs _ _ _ _ _ _ t_l0 t_l1 hr
  · have hr := nk_ifn (c := l3 = 0) hc hr
    refine nk_p (i := .aload_n 0) (len := 1) (pc' := 42) mJ_202 (by decide +kernel) (ns_aload_n 1 rfl rfl) rfl ?_
    refine nk_getC (f := (4, 2, 24)) (x := 80) (len := 3) (ci := 13) (k := 29) (pc' := 45) ja_okT mJ_202 (by decide +kernel) (by decide +kernel) (by decide +kernel) (by decide) t_l0 rfl ?_
    have t3 : nk_ar ja_Tt (ja_c l0 29) = some (2, 24) := nk_ta ja_okT t_l0 (by decide +kernel)
    refine nk_p (i := .iload 4) (len := 2) (pc' := 47) mJ_202 (by decide +kernel) (ns_iload 4 rfl) rfl ?_
    obtain ⟨h4, hr⟩ := nk_cke hr
    refine nk_lald (len := 1) (N := 24) (pc' := 48) mJ_202 (by decide +kernel) t3 h4.1 h4.2 rfl rfl ?_
    refine nk_p (i := .lload 5) (len := 2) (pc' := 50) mJ_202 (by decide +kernel) (ns_lload 5 rfl) rfl ?_
    refine nk_ldc2 (x := 549) (len := 3) (X := (-1)) (v := (-1)) (pc' := 53) mJ_202 (by decide +kernel) (by decide +kernel) (by decide +kernel) rfl ?_
    refine nk_p (i := .lxor) (len := 1) (pc' := 54) mJ_202 (by decide +kernel) ns_lxor rfl ?_
    refine nk_p (i := .land) (len := 1) (pc' := 55) mJ_202 (by decide +kernel) ns_land rfl ?_
    refine nk_ldc2 (x := 658) (len := 3) (X := (-4611686018427387905)) (v := (-4611686018427387905)) (pc' := 58) mJ_202 (by decide +kernel) (by decide +kernel) (by decide +kernel) rfl ?_
    refine nk_p (i := .land) (len := 1) (pc' := 59) mJ_202 (by decide +kernel) ns_land rfl ?_
    refine nk_p (i := .lconst 0) (len := 1) (pc' := 60) mJ_202 (by decide +kernel) (ns_lconst (c := 0) (by decide +kernel)) rfl ?_
    refine nk_p (i := .lcmp) (len := 1) (pc' := 61) mJ_202 (by decide +kernel) ns_lcmp rfl ?_
    refine nk_lcond (c := .eq) (off := 14) (len := 3) (t := 75) (pc' := 64) mJ_202 (by decide +kernel) (by decide +kernel) rfl (fun hc => ?_) (fun hc => ?_)
    · have hr := nk_ifp (c := (nk_land (nk_land (S.1 (ja_c l0 29) l4.toNat) (nk_lxor l5 (-1))) (-4611686018427387905)) = 0) hc hr
      refine nk_sub [1, 4, 5] (L' := [(0, nk_r l0), (4, nk_i l4), (5, nk_l l5)]) rfl ?_
      exact ja_X13_ofType_b75_ok zs _ _ _ _ _ t_l0 hr
    · have hr := nk_ifn (c := (nk_land (nk_land (S.1 (ja_c l0 29) l4.toNat) (nk_lxor l5 (-1))) (-4611686018427387905)) = 0) hc hr
      refine nk_p (i := .aload_n 0) (len := 1) (pc' := 65) mJ_202 (by decide +kernel) (ns_aload_n 1 rfl rfl) rfl ?_
      refine nk_p (i := .dup) (len := 1) (pc' := 66) mJ_202 (by decide +kernel) (ns_dup rfl) rfl ?_
      refine nk_getI (y := (0, 0)) (x := 625) (len := 3) (ci := 13) (k := 39) (pc' := 69) ja_okT mJ_202 (by decide +kernel) (by decide +kernel) (by decide +kernel) t_l0 rfl ?_
      refine nk_p (i := .bipush 16) (len := 2) (pc' := 71) mJ_202 (by decide +kernel) (ns_bipush (c := 16) (by decide +kernel)) rfl ?_
      refine nk_p (i := .ior) (len := 1) (pc' := 72) mJ_202 (by decide +kernel) ns_ior rfl ?_
      obtain ⟨S5, h6, hr⟩ := nk_lte hr
      refine nk_putI (y := (0, 0)) (ty := .int) (x := 625) (len := 3) (ci := 13) (k := 39) (pc' := 75) ja_okT mJ_202 (by decide +kernel) (by decide +kernel) (by decide +kernel) t_l0 (Or.inl rfl) rfl h6 ?_
      refine nk_sub [1, 4, 5] (L' := [(0, nk_r l0), (4, nk_i l4), (5, nk_l l5)]) rfl ?_
      exact ja_X13_ofType_b75_ok zs _ _ _ _ _ t_l0 hr
noncomputable def ja_X13_ofType (l0 : Nat) (l1 : Nat) (l2 : Int) (l3 : Int) (S : nk_S) : Option (Int × nk_S) :=
  nk_lt (nk_w ((S.1 l0 25) - 1)) fun v1 =>
  nk_bd (ja_X13_sitesBelow l1 l2 S) fun r3 S4 =>
  if 0 ≤ v1 ∧ v1 < 24 then
  if (nk_land (S4.1 (ja_c l0 29) v1.toNat) r3) = 0 then
    ja_X13_ofType_b35 l0 l1 l3 v1 r3 0 S4
  else
    ja_X13_ofType_b35 l0 l1 l3 v1 r3 1 S4
  else none
theorem ja_X13_ofType_ok (zs : List Int32) : ∀ (l0 : Nat) (l1 : Nat) (l2 : Int) (l3 : Int) (S : nk_S) (R : Int × nk_S), nk_cl ja_Tt l0 = some 13 → nk_cl ja_Tt l1 = some 12 → ja_X13_ofType l0 l1 l2 l3 S = some R → nk_K ja_Tt mi_Γ (mi_ev zs) 1 202 0 [(0, nk_r l0), (1, nk_r l1), (2, nk_i l2), (3, nk_i l3)] [] S R := by
  intro l0 l1 l2 l3 S R t_l0 t_l1 hr
  unfold ja_X13_ofType at hr
  refine nk_p (i := .aload_n 0) (len := 1) (pc' := 1) mJ_202 (by decide +kernel) (ns_aload_n 0 rfl rfl) rfl ?_
  refine nk_getI (y := (0, 0)) (x := 495) (len := 3) (ci := 13) (k := 25) (pc' := 4) ja_okT mJ_202 (by decide +kernel) (by decide +kernel) (by decide +kernel) t_l0 rfl ?_
  refine nk_p (i := .iconst 1) (len := 1) (pc' := 5) mJ_202 (by decide +kernel) (ns_iconst (c := 1) (by decide +kernel)) rfl ?_
  refine nk_p (i := .isub) (len := 1) (pc' := 6) mJ_202 (by decide +kernel) ns_isub rfl ?_
  obtain ⟨v1, h2, hr⟩ := nk_lte hr
  refine nk_p (i := .istore 4) (len := 2) (pc' := 8) mJ_202 (by decide +kernel) (ns_istore (L' := [(4, nk_i v1), (0, nk_r l0), (1, nk_r l1), (2, nk_i l2), (3, nk_i l3)]) h2 rfl (by decide +kernel)) rfl ?_
  refine nk_p (i := .aload_n 1) (len := 1) (pc' := 9) mJ_202 (by decide +kernel) (ns_aload_n 2 rfl rfl) rfl ?_
  refine nk_p (i := .iload_n 2) (len := 1) (pc' := 10) mJ_202 (by decide +kernel) (ns_iload_n 3 rfl rfl) rfl ?_
  obtain ⟨r3, S4, h5, hr⟩ := nk_bde hr
  refine nk_callS (ci := 0) (n := 2) (x := 650) (len := 3) (j' := 225) (q' := 2) (r := r3) (S' := S4) (L2 := [(0, nk_r l1), (1, nk_i l2)]) (rest := []) (st' := [nk_l r3]) (pc' := 13) mJ_202 (by decide +kernel) (by decide +kernel) (Nat.le_of_ble_eq_true rfl) rfl rfl (Nat.le_of_ble_eq_true rfl) mJ_225 (Nat.le_of_ble_eq_true rfl) ja_Tpos rfl (ja_X13_sitesBelow_ok zs _ _ _ _ t_l1 h5) rfl ?_
  refine nk_p (i := .lstore 5) (len := 2) (pc' := 15) mJ_202 (by decide +kernel) (ns_lstore (L' := [(5, nk_l r3), (4, nk_i v1), (0, nk_r l0), (1, nk_r l1), (2, nk_i l2), (3, nk_i l3)]) rfl rfl (by decide +kernel)) rfl ?_
  refine nk_p (i := .aload_n 0) (len := 1) (pc' := 16) mJ_202 (by decide +kernel) (ns_aload_n 2 rfl rfl) rfl ?_
  refine nk_getC (f := (4, 2, 24)) (x := 80) (len := 3) (ci := 13) (k := 29) (pc' := 19) ja_okT mJ_202 (by decide +kernel) (by decide +kernel) (by decide +kernel) (by decide) t_l0 rfl ?_
  have t6 : nk_ar ja_Tt (ja_c l0 29) = some (2, 24) := nk_ta ja_okT t_l0 (by decide +kernel)
  refine nk_p (i := .iload 4) (len := 2) (pc' := 21) mJ_202 (by decide +kernel) (ns_iload 1 rfl) rfl ?_
  obtain ⟨h7, hr⟩ := nk_cke hr
  refine nk_lald (len := 1) (N := 24) (pc' := 22) mJ_202 (by decide +kernel) t6 h7.1 h7.2 rfl rfl ?_
  refine nk_p (i := .lload 5) (len := 2) (pc' := 24) mJ_202 (by decide +kernel) (ns_lload 0 rfl) rfl ?_
  refine nk_p (i := .land) (len := 1) (pc' := 25) mJ_202 (by decide +kernel) ns_land rfl ?_
  refine nk_p (i := .lconst 0) (len := 1) (pc' := 26) mJ_202 (by decide +kernel) (ns_lconst (c := 0) (by decide +kernel)) rfl ?_
  refine nk_p (i := .lcmp) (len := 1) (pc' := 27) mJ_202 (by decide +kernel) ns_lcmp rfl ?_
  refine nk_lcond (c := .eq) (off := 7) (len := 3) (t := 34) (pc' := 30) mJ_202 (by decide +kernel) (by decide +kernel) rfl (fun hc => ?_) (fun hc => ?_)
  · have hr := nk_ifp (c := (nk_land (S4.1 (ja_c l0 29) v1.toNat) r3) = 0) hc hr
    refine nk_p (i := .iconst 0) (len := 1) (pc' := 35) mJ_202 (by decide +kernel) (ns_iconst (c := 0) (by decide +kernel)) rfl ?_
    refine nk_sub [2, 3, 5, 1, 0] (L' := [(0, nk_r l0), (1, nk_r l1), (3, nk_i l3), (4, nk_i v1), (5, nk_l r3)]) rfl ?_
    exact ja_X13_ofType_b35_ok zs _ _ _ _ _ _ _ _ t_l0 t_l1 hr
  · have hr := nk_ifn (c := (nk_land (S4.1 (ja_c l0 29) v1.toNat) r3) = 0) hc hr
    refine nk_p (i := .iconst 1) (len := 1) (pc' := 31) mJ_202 (by decide +kernel) (ns_iconst (c := 1) (by decide +kernel)) rfl ?_
    refine nk_p (i := .goto 4) (len := 3) (pc' := 35) mJ_202 (by decide +kernel) (ns_goto (by decide +kernel)) rfl ?_
    refine nk_sub [2, 3, 5, 1, 0] (L' := [(0, nk_r l0), (1, nk_r l1), (3, nk_i l3), (4, nk_i v1), (5, nk_l r3)]) rfl ?_
    exact ja_X13_ofType_b35_ok zs _ _ _ _ _ _ _ _ t_l0 t_l1 hr
/-! SafeCodeModel product (LSafeCodeModel$Program;JJJJ)V -/
noncomputable def ja_X13_product (l0 : Nat) (l1 : Nat) (l2 : Int) (l4 : Int) (l6 : Int) (l8 : Int) (S : nk_S) : Option (Int × nk_S) :=
  nk_bd (ja_J9_min_f86c9 (nk_W (l2 * l6)) (nk_W (l2 * l8)) S) fun r1 S2 =>
  nk_bd (ja_J9_min_f86c9 (nk_W (l4 * l6)) (nk_W (l4 * l8)) S2) fun r4 S5 =>
  nk_bd (ja_J9_min_f86c9 r1 r4 S5) fun r7 S8 =>
  nk_bd (ja_J9_max_f86c9 (nk_W (l2 * l6)) (nk_W (l2 * l8)) S8) fun r10 S11 =>
  nk_bd (ja_J9_max_f86c9 (nk_W (l4 * l6)) (nk_W (l4 * l8)) S11) fun r13 S14 =>
  nk_bd (ja_J9_max_f86c9 r10 r13 S14) fun r16 S17 =>
  nk_bd (ja_X13_leaveRange l0 l1 r7 r16 S17) fun r19 S20 =>
  some (0, S20)
theorem ja_X13_product_ok (zs : List Int32) : ∀ (l0 : Nat) (l1 : Nat) (l2 : Int) (l4 : Int) (l6 : Int) (l8 : Int) (S : nk_S) (R : Int × nk_S), nk_cl ja_Tt l0 = some 13 → nk_cl ja_Tt l1 = some 12 → ja_X13_product l0 l1 l2 l4 l6 l8 S = some R → nk_K ja_Tt mi_Γ (mi_ev zs) 0 209 0 [(0, nk_r l0), (1, nk_r l1), (2, nk_l l2), (4, nk_l l4), (6, nk_l l6), (8, nk_l l8)] [] S R := by
  intro l0 l1 l2 l4 l6 l8 S R t_l0 t_l1 hr
  unfold ja_X13_product at hr
  refine nk_p (i := .lload_n 2) (len := 1) (pc' := 1) mJ_209 (by decide +kernel) (ns_lload_n 2 rfl rfl) rfl ?_
  refine nk_p (i := .lload 6) (len := 2) (pc' := 3) mJ_209 (by decide +kernel) (ns_lload 4 rfl) rfl ?_
  refine nk_p (i := .lmul) (len := 1) (pc' := 4) mJ_209 (by decide +kernel) ns_lmul rfl ?_
  refine nk_p (i := .lload_n 2) (len := 1) (pc' := 5) mJ_209 (by decide +kernel) (ns_lload_n 2 rfl rfl) rfl ?_
  refine nk_p (i := .lload 8) (len := 2) (pc' := 7) mJ_209 (by decide +kernel) (ns_lload 5 rfl) rfl ?_
  refine nk_p (i := .lmul) (len := 1) (pc' := 8) mJ_209 (by decide +kernel) ns_lmul rfl ?_
  obtain ⟨r1, S2, h3, hr⟩ := nk_bde hr
  refine nk_callS (ci := 0) (n := 2) (x := 676) (len := 3) (j' := 19) (q' := 2) (r := r1) (S' := S2) (L2 := [(0, nk_l (nk_W (l2 * l6))), (2, nk_l (nk_W (l2 * l8)))]) (rest := []) (st' := [nk_l r1]) (pc' := 11) mJ_209 (by decide +kernel) (by decide +kernel) (Nat.le_of_ble_eq_true rfl) rfl rfl (Nat.le_of_ble_eq_true rfl) mJ_19 (Nat.le_of_ble_eq_true rfl) ja_Tpos rfl (ja_J9_min_f86c9_ok zs _ _ _ _ h3) rfl ?_
  refine nk_p (i := .lload 4) (len := 2) (pc' := 13) mJ_209 (by decide +kernel) (ns_lload 3 rfl) rfl ?_
  refine nk_p (i := .lload 6) (len := 2) (pc' := 15) mJ_209 (by decide +kernel) (ns_lload 4 rfl) rfl ?_
  refine nk_p (i := .lmul) (len := 1) (pc' := 16) mJ_209 (by decide +kernel) ns_lmul rfl ?_
  refine nk_p (i := .lload 4) (len := 2) (pc' := 18) mJ_209 (by decide +kernel) (ns_lload 3 rfl) rfl ?_
  refine nk_p (i := .lload 8) (len := 2) (pc' := 20) mJ_209 (by decide +kernel) (ns_lload 5 rfl) rfl ?_
  refine nk_p (i := .lmul) (len := 1) (pc' := 21) mJ_209 (by decide +kernel) ns_lmul rfl ?_
  obtain ⟨r4, S5, h6, hr⟩ := nk_bde hr
  refine nk_callS (ci := 0) (n := 2) (x := 676) (len := 3) (j' := 19) (q' := 2) (r := r4) (S' := S5) (L2 := [(0, nk_l (nk_W (l4 * l6))), (2, nk_l (nk_W (l4 * l8)))]) (rest := [nk_l r1]) (st' := [nk_l r4, nk_l r1]) (pc' := 24) mJ_209 (by decide +kernel) (by decide +kernel) (Nat.le_of_ble_eq_true rfl) rfl rfl (Nat.le_of_ble_eq_true rfl) mJ_19 (Nat.le_of_ble_eq_true rfl) ja_Tpos rfl (ja_J9_min_f86c9_ok zs _ _ _ _ h6) rfl ?_
  obtain ⟨r7, S8, h9, hr⟩ := nk_bde hr
  refine nk_callS (ci := 0) (n := 2) (x := 676) (len := 3) (j' := 19) (q' := 2) (r := r7) (S' := S8) (L2 := [(0, nk_l r1), (2, nk_l r4)]) (rest := []) (st' := [nk_l r7]) (pc' := 27) mJ_209 (by decide +kernel) (by decide +kernel) (Nat.le_of_ble_eq_true rfl) rfl rfl (Nat.le_of_ble_eq_true rfl) mJ_19 (Nat.le_of_ble_eq_true rfl) ja_Tpos rfl (ja_J9_min_f86c9_ok zs _ _ _ _ h9) rfl ?_
  refine nk_p (i := .lstore 10) (len := 2) (pc' := 29) mJ_209 (by decide +kernel) (ns_lstore (L' := [(10, nk_l r7), (0, nk_r l0), (1, nk_r l1), (2, nk_l l2), (4, nk_l l4), (6, nk_l l6), (8, nk_l l8)]) rfl rfl (by decide +kernel)) rfl ?_
  refine nk_p (i := .lload_n 2) (len := 1) (pc' := 30) mJ_209 (by decide +kernel) (ns_lload_n 3 rfl rfl) rfl ?_
  refine nk_p (i := .lload 6) (len := 2) (pc' := 32) mJ_209 (by decide +kernel) (ns_lload 5 rfl) rfl ?_
  refine nk_p (i := .lmul) (len := 1) (pc' := 33) mJ_209 (by decide +kernel) ns_lmul rfl ?_
  refine nk_p (i := .lload_n 2) (len := 1) (pc' := 34) mJ_209 (by decide +kernel) (ns_lload_n 3 rfl rfl) rfl ?_
  refine nk_p (i := .lload 8) (len := 2) (pc' := 36) mJ_209 (by decide +kernel) (ns_lload 6 rfl) rfl ?_
  refine nk_p (i := .lmul) (len := 1) (pc' := 37) mJ_209 (by decide +kernel) ns_lmul rfl ?_
  obtain ⟨r10, S11, h12, hr⟩ := nk_bde hr
  refine nk_callS (ci := 0) (n := 2) (x := 679) (len := 3) (j' := 17) (q' := 2) (r := r10) (S' := S11) (L2 := [(0, nk_l (nk_W (l2 * l6))), (2, nk_l (nk_W (l2 * l8)))]) (rest := []) (st' := [nk_l r10]) (pc' := 40) mJ_209 (by decide +kernel) (by decide +kernel) (Nat.le_of_ble_eq_true rfl) rfl rfl (Nat.le_of_ble_eq_true rfl) mJ_17 (Nat.le_of_ble_eq_true rfl) ja_Tpos rfl (ja_J9_max_f86c9_ok zs _ _ _ _ h12) rfl ?_
  refine nk_p (i := .lload 4) (len := 2) (pc' := 42) mJ_209 (by decide +kernel) (ns_lload 4 rfl) rfl ?_
  refine nk_p (i := .lload 6) (len := 2) (pc' := 44) mJ_209 (by decide +kernel) (ns_lload 5 rfl) rfl ?_
  refine nk_p (i := .lmul) (len := 1) (pc' := 45) mJ_209 (by decide +kernel) ns_lmul rfl ?_
  refine nk_p (i := .lload 4) (len := 2) (pc' := 47) mJ_209 (by decide +kernel) (ns_lload 4 rfl) rfl ?_
  refine nk_p (i := .lload 8) (len := 2) (pc' := 49) mJ_209 (by decide +kernel) (ns_lload 6 rfl) rfl ?_
  refine nk_p (i := .lmul) (len := 1) (pc' := 50) mJ_209 (by decide +kernel) ns_lmul rfl ?_
  obtain ⟨r13, S14, h15, hr⟩ := nk_bde hr
  refine nk_callS (ci := 0) (n := 2) (x := 679) (len := 3) (j' := 17) (q' := 2) (r := r13) (S' := S14) (L2 := [(0, nk_l (nk_W (l4 * l6))), (2, nk_l (nk_W (l4 * l8)))]) (rest := [nk_l r10]) (st' := [nk_l r13, nk_l r10]) (pc' := 53) mJ_209 (by decide +kernel) (by decide +kernel) (Nat.le_of_ble_eq_true rfl) rfl rfl (Nat.le_of_ble_eq_true rfl) mJ_17 (Nat.le_of_ble_eq_true rfl) ja_Tpos rfl (ja_J9_max_f86c9_ok zs _ _ _ _ h15) rfl ?_
  obtain ⟨r16, S17, h18, hr⟩ := nk_bde hr
  refine nk_callS (ci := 0) (n := 2) (x := 679) (len := 3) (j' := 17) (q' := 2) (r := r16) (S' := S17) (L2 := [(0, nk_l r10), (2, nk_l r13)]) (rest := []) (st' := [nk_l r16]) (pc' := 56) mJ_209 (by decide +kernel) (by decide +kernel) (Nat.le_of_ble_eq_true rfl) rfl rfl (Nat.le_of_ble_eq_true rfl) mJ_17 (Nat.le_of_ble_eq_true rfl) ja_Tpos rfl (ja_J9_max_f86c9_ok zs _ _ _ _ h18) rfl ?_
  refine nk_p (i := .lstore 12) (len := 2) (pc' := 58) mJ_209 (by decide +kernel) (ns_lstore (L' := [(12, nk_l r16), (10, nk_l r7), (0, nk_r l0), (1, nk_r l1), (2, nk_l l2), (4, nk_l l4), (6, nk_l l6), (8, nk_l l8)]) rfl rfl (by decide +kernel)) rfl ?_
  refine nk_p (i := .aload_n 0) (len := 1) (pc' := 59) mJ_209 (by decide +kernel) (ns_aload_n 2 rfl rfl) rfl ?_
  refine nk_p (i := .aload_n 1) (len := 1) (pc' := 60) mJ_209 (by decide +kernel) (ns_aload_n 3 rfl rfl) rfl ?_
  refine nk_p (i := .lload 10) (len := 2) (pc' := 62) mJ_209 (by decide +kernel) (ns_lload 1 rfl) rfl ?_
  refine nk_p (i := .lload 12) (len := 2) (pc' := 64) mJ_209 (by decide +kernel) (ns_lload 0 rfl) rfl ?_
  obtain ⟨r19, S20, h21, hr⟩ := nk_bde hr
  refine nk_callV (ci := 13) (n := 3) (x := 684) (len := 3) (j' := 175) (q' := 0) (r := r19) (S' := S20) (L2 := [(0, nk_r l0), (1, nk_r l1), (2, nk_l r7), (4, nk_l r16)]) (rest := []) (st' := []) (pc' := 67) mJ_209 (by decide +kernel) (by decide +kernel) rfl rfl t_l0 (Nat.le_of_ble_eq_true rfl) mJ_175 (Nat.le_of_ble_eq_true rfl) rfl (ja_X13_leaveRange_ok zs _ _ _ _ _ _ t_l0 t_l1 h21) rfl ?_
  cases hr
  exact nk_vret (len := 1) mJ_209 (by decide +kernel) rfl
/-! SafeCodeModel raisedByZero (JJ)V -/
noncomputable def ja_X13_raisedByZero (l0 : Nat) (l1 : Int) (l3 : Int) (S : nk_S) : Option (Int × nk_S) :=
  if 0 < l1 then
    some (0, S)
  else
    if l3 < 0 then
      some (0, S)
    else
      nk_lt (nk_wi S l0 39 (nk_ior (S.1 l0 39) 8)) fun S1 =>
      some (0, S1)
theorem ja_X13_raisedByZero_ok (zs : List Int32) : ∀ (l0 : Nat) (l1 : Int) (l3 : Int) (S : nk_S) (R : Int × nk_S), nk_cl ja_Tt l0 = some 13 → ja_X13_raisedByZero l0 l1 l3 S = some R → nk_K ja_Tt mi_Γ (mi_ev zs) 0 215 0 [(0, nk_r l0), (1, nk_l l1), (3, nk_l l3)] [] S R := by
  intro l0 l1 l3 S R t_l0 hr
  unfold ja_X13_raisedByZero at hr
  refine nk_p (i := .lload_n 1) (len := 1) (pc' := 1) mJ_215 (by decide +kernel) (ns_lload_n 1 rfl rfl) rfl ?_
  refine nk_p (i := .lconst 0) (len := 1) (pc' := 2) mJ_215 (by decide +kernel) (ns_lconst (c := 0) (by decide +kernel)) rfl ?_
  refine nk_p (i := .lcmp) (len := 1) (pc' := 3) mJ_215 (by decide +kernel) ns_lcmp rfl ?_
  refine nk_lcond (c := .gt) (off := 20) (len := 3) (t := 23) (pc' := 6) mJ_215 (by decide +kernel) (by decide +kernel) rfl (fun hc => ?_) (fun hc => ?_)
  · have hr := nk_ifp (c := 0 < l1) hc hr
    cases hr
    exact nk_vret (len := 1) mJ_215 (by decide +kernel) rfl
  · have hr := nk_ifn (c := 0 < l1) hc hr
    refine nk_p (i := .lload_n 3) (len := 1) (pc' := 7) mJ_215 (by decide +kernel) (ns_lload_n 2 rfl rfl) rfl ?_
    refine nk_p (i := .lconst 0) (len := 1) (pc' := 8) mJ_215 (by decide +kernel) (ns_lconst (c := 0) (by decide +kernel)) rfl ?_
    refine nk_p (i := .lcmp) (len := 1) (pc' := 9) mJ_215 (by decide +kernel) ns_lcmp rfl ?_
    refine nk_lcond (c := .lt) (off := 14) (len := 3) (t := 23) (pc' := 12) mJ_215 (by decide +kernel) (by decide +kernel) rfl (fun hc => ?_) (fun hc => ?_)
    · have hr := nk_ifp (c := l3 < 0) hc hr
      cases hr
      exact nk_vret (len := 1) mJ_215 (by decide +kernel) rfl
    · have hr := nk_ifn (c := l3 < 0) hc hr
      refine nk_p (i := .aload_n 0) (len := 1) (pc' := 13) mJ_215 (by decide +kernel) (ns_aload_n 0 rfl rfl) rfl ?_
      refine nk_p (i := .dup) (len := 1) (pc' := 14) mJ_215 (by decide +kernel) (ns_dup rfl) rfl ?_
      refine nk_getI (y := (0, 0)) (x := 625) (len := 3) (ci := 13) (k := 39) (pc' := 17) ja_okT mJ_215 (by decide +kernel) (by decide +kernel) (by decide +kernel) t_l0 rfl ?_
      refine nk_p (i := .bipush 8) (len := 2) (pc' := 19) mJ_215 (by decide +kernel) (ns_bipush (c := 8) (by decide +kernel)) rfl ?_
      refine nk_p (i := .ior) (len := 1) (pc' := 20) mJ_215 (by decide +kernel) ns_ior rfl ?_
      obtain ⟨S1, h2, hr⟩ := nk_lte hr
      refine nk_putI (y := (0, 0)) (ty := .int) (x := 625) (len := 3) (ci := 13) (k := 39) (pc' := 23) ja_okT mJ_215 (by decide +kernel) (by decide +kernel) (by decide +kernel) t_l0 (Or.inl rfl) rfl h2 ?_
      cases hr
      exact nk_vret (len := 1) mJ_215 (by decide +kernel) rfl
/-! SafeCodeModel quotient (LSafeCodeModel$Program;JJJJ)Z -/
noncomputable def ja_X13_quotient_b149 (rec12 : Nat → Nat → Int → Int → Int → Int → Int → Int → Int → Int → nk_S → Option (Int × nk_S)) (l0 : Nat) (l1 : Nat) (l2 : Int) (l4 : Int) (l6 : Int) (l8 : Int) (l11 : Int) (l15 : Int) (s0 : Int) (S : nk_S) : Option (Int × nk_S) :=
  nk_lt (nk_w (l15 + 1)) fun v1 =>
  rec12 l0 l1 l2 l4 l6 l8 1 l11 s0 v1 S
theorem ja_X13_quotient_b149_ok (zs : List Int32) {rec12 : Nat → Nat → Int → Int → Int → Int → Int → Int → Int → Int → nk_S → Option (Int × nk_S)} (hrec12 : ∀ (l0 : Nat) (l1 : Nat) (l2 : Int) (l4 : Int) (l6 : Int) (l8 : Int) (l10 : Int) (l11 : Int) (l13 : Int) (l15 : Int) (S : nk_S) (R : Int × nk_S), nk_cl ja_Tt l0 = some 13 → nk_cl ja_Tt l1 = some 12 → rec12 l0 l1 l2 l4 l6 l8 l10 l11 l13 l15 S = some R → nk_K ja_Tt mi_Γ (mi_ev zs) 1 213 12 [(0, nk_r l0), (1, nk_r l1), (2, nk_l l2), (4, nk_l l4), (6, nk_l l6), (8, nk_l l8), (10, nk_i l10), (11, nk_l l11), (13, nk_l l13), (15, nk_i l15)] [] S R) : ∀ (l0 : Nat) (l1 : Nat) (l2 : Int) (l4 : Int) (l6 : Int) (l8 : Int) (l11 : Int) (l15 : Int) (s0 : Int) (S : nk_S) (R : Int × nk_S), nk_cl ja_Tt l0 = some 13 → nk_cl ja_Tt l1 = some 12 → ja_X13_quotient_b149 rec12 l0 l1 l2 l4 l6 l8 l11 l15 s0 S = some R → nk_K ja_Tt mi_Γ (mi_ev zs) 1 213 149 [(0, nk_r l0), (1, nk_r l1), (2, nk_l l2), (4, nk_l l4), (6, nk_l l6), (8, nk_l l8), (11, nk_l l11), (15, nk_i l15)] [nk_l s0] S R := by
  intro l0 l1 l2 l4 l6 l8 l11 l15 s0 S R t_l0 t_l1 hr
  unfold ja_X13_quotient_b149 at hr
  refine nk_p (i := .lstore 13) (len := 2) (pc' := 151) mJ_213 (by decide +kernel) (ns_lstore (L' := [(13, nk_l s0), (0, nk_r l0), (1, nk_r l1), (2, nk_l l2), (4, nk_l l4), (6, nk_l l6), (8, nk_l l8), (11, nk_l l11), (15, nk_i l15)]) rfl rfl (by decide +kernel)) rfl ?_
  refine nk_p (i := .iconst 1) (len := 1) (pc' := 152) mJ_213 (by decide +kernel) (ns_iconst (c := 1) (by decide +kernel)) rfl ?_
  refine nk_p (i := .istore 10) (len := 2) (pc' := 154) mJ_213 (by decide +kernel) (ns_istore (L' := [(10, nk_i 1), (13, nk_l s0), (0, nk_r l0), (1, nk_r l1), (2, nk_l l2), (4, nk_l l4), (6, nk_l l6), (8, nk_l l8), (11, nk_l l11), (15, nk_i l15)]) rfl rfl (by decide +kernel)) rfl ?_
  obtain ⟨v1, h2, hr⟩ := nk_lte hr
  refine nk_p (i := .iinc 15 1) (len := 3) (pc' := 157) mJ_213 (by decide +kernel) (ns_iinc (c := 1) (L' := [(15, nk_i v1), (10, nk_i 1), (13, nk_l s0), (0, nk_r l0), (1, nk_r l1), (2, nk_l l2), (4, nk_l l4), (6, nk_l l6), (8, nk_l l8), (11, nk_l l11)]) 9 rfl (by decide +kernel) h2 rfl (by decide +kernel)) rfl ?_
  refine nk_p (i := .goto (-145)) (len := 3) (pc' := 12) mJ_213 (by decide +kernel) (ns_goto (by decide +kernel)) rfl ?_
  refine nk_sub [3, 4, 5, 6, 7, 8, 1, 9, 2, 0] (L' := [(0, nk_r l0), (1, nk_r l1), (2, nk_l l2), (4, nk_l l4), (6, nk_l l6), (8, nk_l l8), (10, nk_i 1), (11, nk_l l11), (13, nk_l s0), (15, nk_i v1)]) rfl ?_
  exact hrec12 _ _ _ _ _ _ _ _ _ _ _ _ t_l0 t_l1 hr
noncomputable def ja_X13_quotient_b120 (rec12 : Nat → Nat → Int → Int → Int → Int → Int → Int → Int → Int → nk_S → Option (Int × nk_S)) (l0 : Nat) (l1 : Nat) (l2 : Int) (l4 : Int) (l6 : Int) (l8 : Int) (l10 : Int) (l13 : Int) (l15 : Int) (l18 : Int) (l20 : Int) (s0 : Int) (S : nk_S) : Option (Int × nk_S) :=
  if l10 = 0 then
    nk_bd (ja_J9_max_f86c9 l18 l20 S) fun r1 S2 =>
    ja_X13_quotient_b149 rec12 l0 l1 l2 l4 l6 l8 s0 l15 r1 S2
  else
    nk_bd (ja_J9_max_f86c9 l18 l20 S) fun r4 S5 =>
    nk_bd (ja_J9_max_f86c9 l13 r4 S5) fun r7 S8 =>
    ja_X13_quotient_b149 rec12 l0 l1 l2 l4 l6 l8 s0 l15 r7 S8
theorem ja_X13_quotient_b120_ok (zs : List Int32) {rec12 : Nat → Nat → Int → Int → Int → Int → Int → Int → Int → Int → nk_S → Option (Int × nk_S)} (hrec12 : ∀ (l0 : Nat) (l1 : Nat) (l2 : Int) (l4 : Int) (l6 : Int) (l8 : Int) (l10 : Int) (l11 : Int) (l13 : Int) (l15 : Int) (S : nk_S) (R : Int × nk_S), nk_cl ja_Tt l0 = some 13 → nk_cl ja_Tt l1 = some 12 → rec12 l0 l1 l2 l4 l6 l8 l10 l11 l13 l15 S = some R → nk_K ja_Tt mi_Γ (mi_ev zs) 1 213 12 [(0, nk_r l0), (1, nk_r l1), (2, nk_l l2), (4, nk_l l4), (6, nk_l l6), (8, nk_l l8), (10, nk_i l10), (11, nk_l l11), (13, nk_l l13), (15, nk_i l15)] [] S R) : ∀ (l0 : Nat) (l1 : Nat) (l2 : Int) (l4 : Int) (l6 : Int) (l8 : Int) (l10 : Int) (l13 : Int) (l15 : Int) (l18 : Int) (l20 : Int) (s0 : Int) (S : nk_S) (R : Int × nk_S), nk_cl ja_Tt l0 = some 13 → nk_cl ja_Tt l1 = some 12 → ja_X13_quotient_b120 rec12 l0 l1 l2 l4 l6 l8 l10 l13 l15 l18 l20 s0 S = some R → nk_K ja_Tt mi_Γ (mi_ev zs) 1 213 120 [(0, nk_r l0), (1, nk_r l1), (2, nk_l l2), (4, nk_l l4), (6, nk_l l6), (8, nk_l l8), (10, nk_i l10), (13, nk_l l13), (15, nk_i l15), (18, nk_l l18), (20, nk_l l20)] [nk_l s0] S R := by
  intro l0 l1 l2 l4 l6 l8 l10 l13 l15 l18 l20 s0 S R t_l0 t_l1 hr
  unfold ja_X13_quotient_b120 at hr
  refine nk_p (i := .lstore 11) (len := 2) (pc' := 122) mJ_213 (by decide +kernel) (ns_lstore (L' := [(11, nk_l s0), (0, nk_r l0), (1, nk_r l1), (2, nk_l l2), (4, nk_l l4), (6, nk_l l6), (8, nk_l l8), (10, nk_i l10), (13, nk_l l13), (15, nk_i l15), (18, nk_l l18), (20, nk_l l20)]) rfl rfl (by decide +kernel)) rfl ?_
  refine nk_p (i := .iload 10) (len := 2) (pc' := 124) mJ_213 (by decide +kernel) (ns_iload 7 rfl) rfl ?_
  refine nk_icond (c := .eq) (off := 18) (len := 3) (t := 142) (pc' := 127) mJ_213 (by decide +kernel) (by decide +kernel) rfl (fun hc => ?_) (fun hc => ?_)
  · have hr := nk_ifp (c := l10 = 0) hc hr
    refine nk_p (i := .lload 18) (len := 2) (pc' := 144) mJ_213 (by decide +kernel) (ns_lload 10 rfl) rfl ?_
    refine nk_p (i := .lload 20) (len := 2) (pc' := 146) mJ_213 (by decide +kernel) (ns_lload 11 rfl) rfl ?_
    obtain ⟨r1, S2, h3, hr⟩ := nk_bde hr
    refine nk_callS (ci := 0) (n := 2) (x := 679) (len := 3) (j' := 17) (q' := 2) (r := r1) (S' := S2) (L2 := [(0, nk_l l18), (2, nk_l l20)]) (rest := []) (st' := [nk_l r1]) (pc' := 149) mJ_213 (by decide +kernel) (by decide +kernel) (Nat.le_of_ble_eq_true rfl) rfl rfl (Nat.le_of_ble_eq_true rfl) mJ_17 (Nat.le_of_ble_eq_true rfl) ja_Tpos rfl (ja_J9_max_f86c9_ok zs _ _ _ _ h3) rfl ?_
    refine nk_sub [1, 2, 3, 4, 5, 6, 0, 9] (L' := [(0, nk_r l0), (1, nk_r l1), (2, nk_l l2), (4, nk_l l4), (6, nk_l l6), (8, nk_l l8), (11, nk_l s0), (15, nk_i l15)]) rfl ?_
    exact ja_X13_quotient_b149_ok zs hrec12 _ _ _ _ _ _ _ _ _ _ _ t_l0 t_l1 hr
  · have hr := nk_ifn (c := l10 = 0) hc hr
    refine nk_p (i := .lload 13) (len := 2) (pc' := 129) mJ_213 (by decide +kernel) (ns_lload 8 rfl) rfl ?_
    refine nk_p (i := .lload 18) (len := 2) (pc' := 131) mJ_213 (by decide +kernel) (ns_lload 10 rfl) rfl ?_
    refine nk_p (i := .lload 20) (len := 2) (pc' := 133) mJ_213 (by decide +kernel) (ns_lload 11 rfl) rfl ?_
    obtain ⟨r4, S5, h6, hr⟩ := nk_bde hr
    refine nk_callS (ci := 0) (n := 2) (x := 679) (len := 3) (j' := 17) (q' := 2) (r := r4) (S' := S5) (L2 := [(0, nk_l l18), (2, nk_l l20)]) (rest := [nk_l l13]) (st' := [nk_l r4, nk_l l13]) (pc' := 136) mJ_213 (by decide +kernel) (by decide +kernel) (Nat.le_of_ble_eq_true rfl) rfl rfl (Nat.le_of_ble_eq_true rfl) mJ_17 (Nat.le_of_ble_eq_true rfl) ja_Tpos rfl (ja_J9_max_f86c9_ok zs _ _ _ _ h6) rfl ?_
    obtain ⟨r7, S8, h9, hr⟩ := nk_bde hr
    refine nk_callS (ci := 0) (n := 2) (x := 679) (len := 3) (j' := 17) (q' := 2) (r := r7) (S' := S8) (L2 := [(0, nk_l l13), (2, nk_l r4)]) (rest := []) (st' := [nk_l r7]) (pc' := 139) mJ_213 (by decide +kernel) (by decide +kernel) (Nat.le_of_ble_eq_true rfl) rfl rfl (Nat.le_of_ble_eq_true rfl) mJ_17 (Nat.le_of_ble_eq_true rfl) ja_Tpos rfl (ja_J9_max_f86c9_ok zs _ _ _ _ h9) rfl ?_
    refine nk_p (i := .goto 10) (len := 3) (pc' := 149) mJ_213 (by decide +kernel) (ns_goto (by decide +kernel)) rfl ?_
    refine nk_sub [1, 2, 3, 4, 5, 6, 0, 9] (L' := [(0, nk_r l0), (1, nk_r l1), (2, nk_l l2), (4, nk_l l4), (6, nk_l l6), (8, nk_l l8), (11, nk_l s0), (15, nk_i l15)]) rfl ?_
    exact ja_X13_quotient_b149_ok zs hrec12 _ _ _ _ _ _ _ _ _ _ _ t_l0 t_l1 hr
noncomputable def ja_X13_quotient_b52 (rec12 : Nat → Nat → Int → Int → Int → Int → Int → Int → Int → Int → nk_S → Option (Int × nk_S)) (l0 : Nat) (l1 : Nat) (l2 : Int) (l4 : Int) (l6 : Int) (l8 : Int) (l10 : Int) (l11 : Int) (l13 : Int) (l15 : Int) (s0 : Int) (S : nk_S) : Option (Int × nk_S) :=
  if s0 = 0 then
    nk_lt (nk_w (l15 + 1)) fun v1 =>
    rec12 l0 l1 l2 l4 l6 l8 l10 l11 l13 v1 S
  else
    if s0 < l6 then
      nk_lt (nk_w (l15 + 1)) fun v3 =>
      rec12 l0 l1 l2 l4 l6 l8 l10 l11 l13 v3 S
    else
      if s0 ≤ l8 then
        if ¬ s0 = 0 then
        nk_lt (nk_ldiv l2 s0) fun v6 =>
        if ¬ s0 = 0 then
        nk_lt (nk_ldiv l4 s0) fun v9 =>
        if l10 = 0 then
          nk_bd (ja_J9_min_f86c9 v6 v9 S) fun r11 S12 =>
          ja_X13_quotient_b120 rec12 l0 l1 l2 l4 l6 l8 l10 l13 l15 v6 v9 r11 S12
        else
          nk_bd (ja_J9_min_f86c9 v6 v9 S) fun r14 S15 =>
          nk_bd (ja_J9_min_f86c9 l11 r14 S15) fun r17 S18 =>
          ja_X13_quotient_b120 rec12 l0 l1 l2 l4 l6 l8 l10 l13 l15 v6 v9 r17 S18
        else none
        else none
      else
        nk_lt (nk_w (l15 + 1)) fun v20 =>
        rec12 l0 l1 l2 l4 l6 l8 l10 l11 l13 v20 S
theorem ja_X13_quotient_b52_ok (zs : List Int32) {rec12 : Nat → Nat → Int → Int → Int → Int → Int → Int → Int → Int → nk_S → Option (Int × nk_S)} (hrec12 : ∀ (l0 : Nat) (l1 : Nat) (l2 : Int) (l4 : Int) (l6 : Int) (l8 : Int) (l10 : Int) (l11 : Int) (l13 : Int) (l15 : Int) (S : nk_S) (R : Int × nk_S), nk_cl ja_Tt l0 = some 13 → nk_cl ja_Tt l1 = some 12 → rec12 l0 l1 l2 l4 l6 l8 l10 l11 l13 l15 S = some R → nk_K ja_Tt mi_Γ (mi_ev zs) 1 213 12 [(0, nk_r l0), (1, nk_r l1), (2, nk_l l2), (4, nk_l l4), (6, nk_l l6), (8, nk_l l8), (10, nk_i l10), (11, nk_l l11), (13, nk_l l13), (15, nk_i l15)] [] S R) : ∀ (l0 : Nat) (l1 : Nat) (l2 : Int) (l4 : Int) (l6 : Int) (l8 : Int) (l10 : Int) (l11 : Int) (l13 : Int) (l15 : Int) (s0 : Int) (S : nk_S) (R : Int × nk_S), nk_cl ja_Tt l0 = some 13 → nk_cl ja_Tt l1 = some 12 → ja_X13_quotient_b52 rec12 l0 l1 l2 l4 l6 l8 l10 l11 l13 l15 s0 S = some R → nk_K ja_Tt mi_Γ (mi_ev zs) 1 213 52 [(0, nk_r l0), (1, nk_r l1), (2, nk_l l2), (4, nk_l l4), (6, nk_l l6), (8, nk_l l8), (10, nk_i l10), (11, nk_l l11), (13, nk_l l13), (15, nk_i l15)] [nk_l s0] S R := by
  intro l0 l1 l2 l4 l6 l8 l10 l11 l13 l15 s0 S R t_l0 t_l1 hr
  unfold ja_X13_quotient_b52 at hr
  refine nk_p (i := .lstore 16) (len := 2) (pc' := 54) mJ_213 (by decide +kernel) (ns_lstore (L' := [(16, nk_l s0), (0, nk_r l0), (1, nk_r l1), (2, nk_l l2), (4, nk_l l4), (6, nk_l l6), (8, nk_l l8), (10, nk_i l10), (11, nk_l l11), (13, nk_l l13), (15, nk_i l15)]) rfl rfl (by decide +kernel)) rfl ?_
  refine nk_p (i := .lload 16) (len := 2) (pc' := 56) mJ_213 (by decide +kernel) (ns_lload 0 rfl) rfl ?_
  refine nk_p (i := .lconst 0) (len := 1) (pc' := 57) mJ_213 (by decide +kernel) (ns_lconst (c := 0) (by decide +kernel)) rfl ?_
  refine nk_p (i := .lcmp) (len := 1) (pc' := 58) mJ_213 (by decide +kernel) ns_lcmp rfl ?_
  refine nk_lcond (c := .eq) (off := 96) (len := 3) (t := 154) (pc' := 61) mJ_213 (by decide +kernel) (by decide +kernel) rfl (fun hc => ?_) (fun hc => ?_)
  · have hr := nk_ifp (c := s0 = 0) hc hr
    obtain ⟨v1, h2, hr⟩ := nk_lte hr
    refine nk_p (i := .iinc 15 1) (len := 3) (pc' := 157) mJ_213 (by decide +kernel) (ns_iinc (c := 1) (L' := [(15, nk_i v1), (16, nk_l s0), (0, nk_r l0), (1, nk_r l1), (2, nk_l l2), (4, nk_l l4), (6, nk_l l6), (8, nk_l l8), (10, nk_i l10), (11, nk_l l11), (13, nk_l l13)]) 10 rfl (by decide +kernel) h2 rfl (by decide +kernel)) rfl ?_
    refine nk_p (i := .goto (-145)) (len := 3) (pc' := 12) mJ_213 (by decide +kernel) (ns_goto (by decide +kernel)) rfl ?_
    refine nk_sub [2, 3, 4, 5, 6, 7, 8, 9, 10, 0] (L' := [(0, nk_r l0), (1, nk_r l1), (2, nk_l l2), (4, nk_l l4), (6, nk_l l6), (8, nk_l l8), (10, nk_i l10), (11, nk_l l11), (13, nk_l l13), (15, nk_i v1)]) rfl ?_
    exact hrec12 _ _ _ _ _ _ _ _ _ _ _ _ t_l0 t_l1 hr
  · have hr := nk_ifn (c := s0 = 0) hc hr
    refine nk_p (i := .lload 16) (len := 2) (pc' := 63) mJ_213 (by decide +kernel) (ns_lload 0 rfl) rfl ?_
    refine nk_p (i := .lload 6) (len := 2) (pc' := 65) mJ_213 (by decide +kernel) (ns_lload 5 rfl) rfl ?_
    refine nk_p (i := .lcmp) (len := 1) (pc' := 66) mJ_213 (by decide +kernel) ns_lcmp rfl ?_
    refine nk_lcond (c := .lt) (off := 88) (len := 3) (t := 154) (pc' := 69) mJ_213 (by decide +kernel) (by decide +kernel) rfl (fun hc => ?_) (fun hc => ?_)
    · have hr := nk_ifp (c := s0 < l6) hc hr
      obtain ⟨v3, h4, hr⟩ := nk_lte hr
      refine nk_p (i := .iinc 15 1) (len := 3) (pc' := 157) mJ_213 (by decide +kernel) (ns_iinc (c := 1) (L' := [(15, nk_i v3), (16, nk_l s0), (0, nk_r l0), (1, nk_r l1), (2, nk_l l2), (4, nk_l l4), (6, nk_l l6), (8, nk_l l8), (10, nk_i l10), (11, nk_l l11), (13, nk_l l13)]) 10 rfl (by decide +kernel) h4 rfl (by decide +kernel)) rfl ?_
      refine nk_p (i := .goto (-145)) (len := 3) (pc' := 12) mJ_213 (by decide +kernel) (ns_goto (by decide +kernel)) rfl ?_
      refine nk_sub [2, 3, 4, 5, 6, 7, 8, 9, 10, 0] (L' := [(0, nk_r l0), (1, nk_r l1), (2, nk_l l2), (4, nk_l l4), (6, nk_l l6), (8, nk_l l8), (10, nk_i l10), (11, nk_l l11), (13, nk_l l13), (15, nk_i v3)]) rfl ?_
      exact hrec12 _ _ _ _ _ _ _ _ _ _ _ _ t_l0 t_l1 hr
    · have hr := nk_ifn (c := s0 < l6) hc hr
      refine nk_p (i := .lload 16) (len := 2) (pc' := 71) mJ_213 (by decide +kernel) (ns_lload 0 rfl) rfl ?_
      refine nk_p (i := .lload 8) (len := 2) (pc' := 73) mJ_213 (by decide +kernel) (ns_lload 6 rfl) rfl ?_
      refine nk_p (i := .lcmp) (len := 1) (pc' := 74) mJ_213 (by decide +kernel) ns_lcmp rfl ?_
      refine nk_lcond (c := .le) (off := 6) (len := 3) (t := 80) (pc' := 77) mJ_213 (by decide +kernel) (by decide +kernel) rfl (fun hc => ?_) (fun hc => ?_)
      · have hr := nk_ifp (c := s0 ≤ l8) hc hr
        refine nk_p (i := .lload_n 2) (len := 1) (pc' := 81) mJ_213 (by decide +kernel) (ns_lload_n 3 rfl rfl) rfl ?_
        refine nk_p (i := .lload 16) (len := 2) (pc' := 83) mJ_213 (by decide +kernel) (ns_lload 0 rfl) rfl ?_
        obtain ⟨h5, hr⟩ := nk_cke hr
        refine nk_p (i := .ldiv) (len := 1) (pc' := 84) mJ_213 (by decide +kernel) (ns_ldiv h5) rfl ?_
        obtain ⟨v6, h7, hr⟩ := nk_lte hr
        refine nk_p (i := .lstore 18) (len := 2) (pc' := 86) mJ_213 (by decide +kernel) (ns_lstore (L' := [(18, nk_l v6), (16, nk_l s0), (0, nk_r l0), (1, nk_r l1), (2, nk_l l2), (4, nk_l l4), (6, nk_l l6), (8, nk_l l8), (10, nk_i l10), (11, nk_l l11), (13, nk_l l13), (15, nk_i l15)]) h7 rfl (by decide +kernel)) rfl ?_
        refine nk_p (i := .lload 4) (len := 2) (pc' := 88) mJ_213 (by decide +kernel) (ns_lload 5 rfl) rfl ?_
        refine nk_p (i := .lload 16) (len := 2) (pc' := 90) mJ_213 (by decide +kernel) (ns_lload 1 rfl) rfl ?_
        obtain ⟨h8, hr⟩ := nk_cke hr
        refine nk_p (i := .ldiv) (len := 1) (pc' := 91) mJ_213 (by decide +kernel) (ns_ldiv h8) rfl ?_
        obtain ⟨v9, h10, hr⟩ := nk_lte hr
        refine nk_p (i := .lstore 20) (len := 2) (pc' := 93) mJ_213 (by decide +kernel) (ns_lstore (L' := [(20, nk_l v9), (18, nk_l v6), (16, nk_l s0), (0, nk_r l0), (1, nk_r l1), (2, nk_l l2), (4, nk_l l4), (6, nk_l l6), (8, nk_l l8), (10, nk_i l10), (11, nk_l l11), (13, nk_l l13), (15, nk_i l15)]) h10 rfl (by decide +kernel)) rfl ?_
        refine nk_p (i := .iload 10) (len := 2) (pc' := 95) mJ_213 (by decide +kernel) (ns_iload 9 rfl) rfl ?_
        refine nk_icond (c := .eq) (off := 18) (len := 3) (t := 113) (pc' := 98) mJ_213 (by decide +kernel) (by decide +kernel) rfl (fun hc => ?_) (fun hc => ?_)
        · have hr := nk_ifp (c := l10 = 0) hc hr
          refine nk_p (i := .lload 18) (len := 2) (pc' := 115) mJ_213 (by decide +kernel) (ns_lload 1 rfl) rfl ?_
          refine nk_p (i := .lload 20) (len := 2) (pc' := 117) mJ_213 (by decide +kernel) (ns_lload 0 rfl) rfl ?_
          obtain ⟨r11, S12, h13, hr⟩ := nk_bde hr
          refine nk_callS (ci := 0) (n := 2) (x := 676) (len := 3) (j' := 19) (q' := 2) (r := r11) (S' := S12) (L2 := [(0, nk_l v6), (2, nk_l v9)]) (rest := []) (st' := [nk_l r11]) (pc' := 120) mJ_213 (by decide +kernel) (by decide +kernel) (Nat.le_of_ble_eq_true rfl) rfl rfl (Nat.le_of_ble_eq_true rfl) mJ_19 (Nat.le_of_ble_eq_true rfl) ja_Tpos rfl (ja_J9_min_f86c9_ok zs _ _ _ _ h13) rfl ?_
          refine nk_sub [3, 4, 5, 6, 7, 8, 9, 11, 12, 1, 0] (L' := [(0, nk_r l0), (1, nk_r l1), (2, nk_l l2), (4, nk_l l4), (6, nk_l l6), (8, nk_l l8), (10, nk_i l10), (13, nk_l l13), (15, nk_i l15), (18, nk_l v6), (20, nk_l v9)]) rfl ?_
          exact ja_X13_quotient_b120_ok zs hrec12 _ _ _ _ _ _ _ _ _ _ _ _ _ _ t_l0 t_l1 hr
        · have hr := nk_ifn (c := l10 = 0) hc hr
          refine nk_p (i := .lload 11) (len := 2) (pc' := 100) mJ_213 (by decide +kernel) (ns_lload 10 rfl) rfl ?_
          refine nk_p (i := .lload 18) (len := 2) (pc' := 102) mJ_213 (by decide +kernel) (ns_lload 1 rfl) rfl ?_
          refine nk_p (i := .lload 20) (len := 2) (pc' := 104) mJ_213 (by decide +kernel) (ns_lload 0 rfl) rfl ?_
          obtain ⟨r14, S15, h16, hr⟩ := nk_bde hr
          refine nk_callS (ci := 0) (n := 2) (x := 676) (len := 3) (j' := 19) (q' := 2) (r := r14) (S' := S15) (L2 := [(0, nk_l v6), (2, nk_l v9)]) (rest := [nk_l l11]) (st' := [nk_l r14, nk_l l11]) (pc' := 107) mJ_213 (by decide +kernel) (by decide +kernel) (Nat.le_of_ble_eq_true rfl) rfl rfl (Nat.le_of_ble_eq_true rfl) mJ_19 (Nat.le_of_ble_eq_true rfl) ja_Tpos rfl (ja_J9_min_f86c9_ok zs _ _ _ _ h16) rfl ?_
          obtain ⟨r17, S18, h19, hr⟩ := nk_bde hr
          refine nk_callS (ci := 0) (n := 2) (x := 676) (len := 3) (j' := 19) (q' := 2) (r := r17) (S' := S18) (L2 := [(0, nk_l l11), (2, nk_l r14)]) (rest := []) (st' := [nk_l r17]) (pc' := 110) mJ_213 (by decide +kernel) (by decide +kernel) (Nat.le_of_ble_eq_true rfl) rfl rfl (Nat.le_of_ble_eq_true rfl) mJ_19 (Nat.le_of_ble_eq_true rfl) ja_Tpos rfl (ja_J9_min_f86c9_ok zs _ _ _ _ h19) rfl ?_
          refine nk_p (i := .goto 10) (len := 3) (pc' := 120) mJ_213 (by decide +kernel) (ns_goto (by decide +kernel)) rfl ?_
          refine nk_sub [3, 4, 5, 6, 7, 8, 9, 11, 12, 1, 0] (L' := [(0, nk_r l0), (1, nk_r l1), (2, nk_l l2), (4, nk_l l4), (6, nk_l l6), (8, nk_l l8), (10, nk_i l10), (13, nk_l l13), (15, nk_i l15), (18, nk_l v6), (20, nk_l v9)]) rfl ?_
          exact ja_X13_quotient_b120_ok zs hrec12 _ _ _ _ _ _ _ _ _ _ _ _ _ _ t_l0 t_l1 hr
      · have hr := nk_ifn (c := s0 ≤ l8) hc hr
        refine nk_p (i := .goto 77) (len := 3) (pc' := 154) mJ_213 (by decide +kernel) (ns_goto (by decide +kernel)) rfl ?_
        obtain ⟨v20, h21, hr⟩ := nk_lte hr
        refine nk_p (i := .iinc 15 1) (len := 3) (pc' := 157) mJ_213 (by decide +kernel) (ns_iinc (c := 1) (L' := [(15, nk_i v20), (16, nk_l s0), (0, nk_r l0), (1, nk_r l1), (2, nk_l l2), (4, nk_l l4), (6, nk_l l6), (8, nk_l l8), (10, nk_i l10), (11, nk_l l11), (13, nk_l l13)]) 10 rfl (by decide +kernel) h21 rfl (by decide +kernel)) rfl ?_
        refine nk_p (i := .goto (-145)) (len := 3) (pc' := 12) mJ_213 (by decide +kernel) (ns_goto (by decide +kernel)) rfl ?_
        refine nk_sub [2, 3, 4, 5, 6, 7, 8, 9, 10, 0] (L' := [(0, nk_r l0), (1, nk_r l1), (2, nk_l l2), (4, nk_l l4), (6, nk_l l6), (8, nk_l l8), (10, nk_i l10), (11, nk_l l11), (13, nk_l l13), (15, nk_i v20)]) rfl ?_
        exact hrec12 _ _ _ _ _ _ _ _ _ _ _ _ t_l0 t_l1 hr
noncomputable def ja_X13_quotient_b12 (rec12 : Nat → Nat → Int → Int → Int → Int → Int → Int → Int → Int → nk_S → Option (Int × nk_S)) (l0 : Nat) (l1 : Nat) (l2 : Int) (l4 : Int) (l6 : Int) (l8 : Int) (l10 : Int) (l11 : Int) (l13 : Int) (l15 : Int) (S : nk_S) : Option (Int × nk_S) :=
  if 4 ≤ l15 then
    nk_bd (ja_X13_raisedByZero l0 l6 l8 S) fun r1 S2 =>
    if l10 = 0 then
      if l10 = 0 ∨ l10 = 1 then
      some (l10, S2)
      else none
    else
      nk_bd (ja_X13_leaveRange l0 l1 l11 l13 S2) fun r5 S6 =>
      if l10 = 0 ∨ l10 = 1 then
      some (l10, S6)
      else none
  else
    if l15 = 0 then
      ja_X13_quotient_b52 rec12 l0 l1 l2 l4 l6 l8 l10 l11 l13 l15 (-1) S
    else
      if l15 = 1 then
        ja_X13_quotient_b52 rec12 l0 l1 l2 l4 l6 l8 l10 l11 l13 l15 1 S
      else
        if l15 = 2 then
          ja_X13_quotient_b52 rec12 l0 l1 l2 l4 l6 l8 l10 l11 l13 l15 l6 S
        else
          ja_X13_quotient_b52 rec12 l0 l1 l2 l4 l6 l8 l10 l11 l13 l15 l8 S
theorem ja_X13_quotient_b12_ok (zs : List Int32) {rec12 : Nat → Nat → Int → Int → Int → Int → Int → Int → Int → Int → nk_S → Option (Int × nk_S)} (hrec12 : ∀ (l0 : Nat) (l1 : Nat) (l2 : Int) (l4 : Int) (l6 : Int) (l8 : Int) (l10 : Int) (l11 : Int) (l13 : Int) (l15 : Int) (S : nk_S) (R : Int × nk_S), nk_cl ja_Tt l0 = some 13 → nk_cl ja_Tt l1 = some 12 → rec12 l0 l1 l2 l4 l6 l8 l10 l11 l13 l15 S = some R → nk_K ja_Tt mi_Γ (mi_ev zs) 1 213 12 [(0, nk_r l0), (1, nk_r l1), (2, nk_l l2), (4, nk_l l4), (6, nk_l l6), (8, nk_l l8), (10, nk_i l10), (11, nk_l l11), (13, nk_l l13), (15, nk_i l15)] [] S R) : ∀ (l0 : Nat) (l1 : Nat) (l2 : Int) (l4 : Int) (l6 : Int) (l8 : Int) (l10 : Int) (l11 : Int) (l13 : Int) (l15 : Int) (S : nk_S) (R : Int × nk_S), nk_cl ja_Tt l0 = some 13 → nk_cl ja_Tt l1 = some 12 → ja_X13_quotient_b12 rec12 l0 l1 l2 l4 l6 l8 l10 l11 l13 l15 S = some R → nk_K ja_Tt mi_Γ (mi_ev zs) 1 213 12 [(0, nk_r l0), (1, nk_r l1), (2, nk_l l2), (4, nk_l l4), (6, nk_l l6), (8, nk_l l8), (10, nk_i l10), (11, nk_l l11), (13, nk_l l13), (15, nk_i l15)] [] S R := by
  intro l0 l1 l2 l4 l6 l8 l10 l11 l13 l15 S R t_l0 t_l1 hr
  unfold ja_X13_quotient_b12 at hr
  refine nk_p (i := .iload 15) (len := 2) (pc' := 14) mJ_213 (by decide +kernel) (ns_iload 9 rfl) rfl ?_
  refine nk_p (i := .iconst 4) (len := 1) (pc' := 15) mJ_213 (by decide +kernel) (ns_iconst (c := 4) (by decide +kernel)) rfl ?_
  refine nk_icmp (c := .ge) (off := 145) (len := 3) (t := 160) (pc' := 18) mJ_213 (by decide +kernel) (by decide +kernel) rfl (fun hc => ?_) (fun hc => ?_)
  · have hr := nk_ifp (c := 4 ≤ l15) hc hr
    refine nk_p (i := .aload_n 0) (len := 1) (pc' := 161) mJ_213 (by decide +kernel) (ns_aload_n 0 rfl rfl) rfl ?_
    refine nk_p (i := .lload 6) (len := 2) (pc' := 163) mJ_213 (by decide +kernel) (ns_lload 4 rfl) rfl ?_
    refine nk_p (i := .lload 8) (len := 2) (pc' := 165) mJ_213 (by decide +kernel) (ns_lload 5 rfl) rfl ?_
    obtain ⟨r1, S2, h3, hr⟩ := nk_bde hr
    refine nk_callV (ci := 13) (n := 2) (x := 744) (len := 3) (j' := 215) (q' := 0) (r := r1) (S' := S2) (L2 := [(0, nk_r l0), (1, nk_l l6), (3, nk_l l8)]) (rest := []) (st' := []) (pc' := 168) mJ_213 (by decide +kernel) (by decide +kernel) rfl rfl t_l0 (Nat.le_of_ble_eq_true rfl) mJ_215 (Nat.le_of_ble_eq_true rfl) rfl (ja_X13_raisedByZero_ok zs _ _ _ _ _ t_l0 h3) rfl ?_
    refine nk_p (i := .iload 10) (len := 2) (pc' := 170) mJ_213 (by decide +kernel) (ns_iload 6 rfl) rfl ?_
    refine nk_icond (c := .eq) (off := 12) (len := 3) (t := 182) (pc' := 173) mJ_213 (by decide +kernel) (by decide +kernel) rfl (fun hc => ?_) (fun hc => ?_)
    · have hr := nk_ifp (c := l10 = 0) hc hr
      refine nk_p (i := .iload 10) (len := 2) (pc' := 184) mJ_213 (by decide +kernel) (ns_iload 6 rfl) rfl ?_
      obtain ⟨h4, hr⟩ := nk_cke hr
      cases hr
      exact nk_iret (ty := .boolean) (len := 1) mJ_213 (by decide +kernel) rfl (nk_nar_z h4)
    · have hr := nk_ifn (c := l10 = 0) hc hr
      refine nk_p (i := .aload_n 0) (len := 1) (pc' := 174) mJ_213 (by decide +kernel) (ns_aload_n 0 rfl rfl) rfl ?_
      refine nk_p (i := .aload_n 1) (len := 1) (pc' := 175) mJ_213 (by decide +kernel) (ns_aload_n 1 rfl rfl) rfl ?_
      refine nk_p (i := .lload 11) (len := 2) (pc' := 177) mJ_213 (by decide +kernel) (ns_lload 7 rfl) rfl ?_
      refine nk_p (i := .lload 13) (len := 2) (pc' := 179) mJ_213 (by decide +kernel) (ns_lload 8 rfl) rfl ?_
      obtain ⟨r5, S6, h7, hr⟩ := nk_bde hr
      refine nk_callV (ci := 13) (n := 3) (x := 684) (len := 3) (j' := 175) (q' := 0) (r := r5) (S' := S6) (L2 := [(0, nk_r l0), (1, nk_r l1), (2, nk_l l11), (4, nk_l l13)]) (rest := []) (st' := []) (pc' := 182) mJ_213 (by decide +kernel) (by decide +kernel) rfl rfl t_l0 (Nat.le_of_ble_eq_true rfl) mJ_175 (Nat.le_of_ble_eq_true rfl) rfl (ja_X13_leaveRange_ok zs _ _ _ _ _ _ t_l0 t_l1 h7) rfl ?_
      refine nk_p (i := .iload 10) (len := 2) (pc' := 184) mJ_213 (by decide +kernel) (ns_iload 6 rfl) rfl ?_
      obtain ⟨h8, hr⟩ := nk_cke hr
      cases hr
      exact nk_iret (ty := .boolean) (len := 1) mJ_213 (by decide +kernel) rfl (nk_nar_z h8)
  · have hr := nk_ifn (c := 4 ≤ l15) hc hr
    refine nk_p (i := .iload 15) (len := 2) (pc' := 20) mJ_213 (by decide +kernel) (ns_iload 9 rfl) rfl ?_
    refine nk_icond (c := .ne) (off := 9) (len := 3) (t := 29) (pc' := 23) mJ_213 (by decide +kernel) (by decide +kernel) rfl (fun hc => ?_) (fun hc => ?_)
    · have hr := nk_ifn (c := l15 = 0) hc hr
      refine nk_p (i := .iload 15) (len := 2) (pc' := 31) mJ_213 (by decide +kernel) (ns_iload 9 rfl) rfl ?_
      refine nk_p (i := .iconst 1) (len := 1) (pc' := 32) mJ_213 (by decide +kernel) (ns_iconst (c := 1) (by decide +kernel)) rfl ?_
      refine nk_icmp (c := .ne) (off := 7) (len := 3) (t := 39) (pc' := 35) mJ_213 (by decide +kernel) (by decide +kernel) rfl (fun hc => ?_) (fun hc => ?_)
      · have hr := nk_ifn (c := l15 = 1) hc hr
        refine nk_p (i := .iload 15) (len := 2) (pc' := 41) mJ_213 (by decide +kernel) (ns_iload 9 rfl) rfl ?_
        refine nk_p (i := .iconst 2) (len := 1) (pc' := 42) mJ_213 (by decide +kernel) (ns_iconst (c := 2) (by decide +kernel)) rfl ?_
        refine nk_icmp (c := .ne) (off := 8) (len := 3) (t := 50) (pc' := 45) mJ_213 (by decide +kernel) (by decide +kernel) rfl (fun hc => ?_) (fun hc => ?_)
        · have hr := nk_ifn (c := l15 = 2) hc hr
          refine nk_p (i := .lload 8) (len := 2) (pc' := 52) mJ_213 (by decide +kernel) (ns_lload 5 rfl) rfl ?_
          exact ja_X13_quotient_b52_ok zs hrec12 _ _ _ _ _ _ _ _ _ _ _ _ _ t_l0 t_l1 hr
        · have hr := nk_ifp (c := l15 = 2) (Decidable.of_not_not hc) hr
          refine nk_p (i := .lload 6) (len := 2) (pc' := 47) mJ_213 (by decide +kernel) (ns_lload 4 rfl) rfl ?_
          refine nk_p (i := .goto 5) (len := 3) (pc' := 52) mJ_213 (by decide +kernel) (ns_goto (by decide +kernel)) rfl ?_
          exact ja_X13_quotient_b52_ok zs hrec12 _ _ _ _ _ _ _ _ _ _ _ _ _ t_l0 t_l1 hr
      · have hr := nk_ifp (c := l15 = 1) (Decidable.of_not_not hc) hr
        refine nk_p (i := .lconst 1) (len := 1) (pc' := 36) mJ_213 (by decide +kernel) (ns_lconst (c := 1) (by decide +kernel)) rfl ?_
        refine nk_p (i := .goto 16) (len := 3) (pc' := 52) mJ_213 (by decide +kernel) (ns_goto (by decide +kernel)) rfl ?_
        exact ja_X13_quotient_b52_ok zs hrec12 _ _ _ _ _ _ _ _ _ _ _ _ _ t_l0 t_l1 hr
    · have hr := nk_ifp (c := l15 = 0) (Decidable.of_not_not hc) hr
      refine nk_ldc2 (x := 549) (len := 3) (X := (-1)) (v := (-1)) (pc' := 26) mJ_213 (by decide +kernel) (by decide +kernel) (by decide +kernel) rfl ?_
      refine nk_p (i := .goto 26) (len := 3) (pc' := 52) mJ_213 (by decide +kernel) (ns_goto (by decide +kernel)) rfl ?_
      exact ja_X13_quotient_b52_ok zs hrec12 _ _ _ _ _ _ _ _ _ _ _ _ _ t_l0 t_l1 hr
noncomputable def ja_X13_quotient_L12 : Nat → Nat → Nat → Int → Int → Int → Int → Int → Int → Int → Int → nk_S → Option (Int × nk_S)
  | 0, _, _, _, _, _, _, _, _, _, _, _ => none
  | n + 1, l0, l1, l2, l4, l6, l8, l10, l11, l13, l15, S => ja_X13_quotient_b12 (ja_X13_quotient_L12 n) l0 l1 l2 l4 l6 l8 l10 l11 l13 l15 S
theorem ja_X13_quotient_L12_ok (zs : List Int32) : ∀ n : Nat, ∀ (l0 : Nat) (l1 : Nat) (l2 : Int) (l4 : Int) (l6 : Int) (l8 : Int) (l10 : Int) (l11 : Int) (l13 : Int) (l15 : Int) (S : nk_S) (R : Int × nk_S), nk_cl ja_Tt l0 = some 13 → nk_cl ja_Tt l1 = some 12 → ja_X13_quotient_L12 n l0 l1 l2 l4 l6 l8 l10 l11 l13 l15 S = some R → nk_K ja_Tt mi_Γ (mi_ev zs) 1 213 12 [(0, nk_r l0), (1, nk_r l1), (2, nk_l l2), (4, nk_l l4), (6, nk_l l6), (8, nk_l l8), (10, nk_i l10), (11, nk_l l11), (13, nk_l l13), (15, nk_i l15)] [] S R := by
  intro n
  induction n with
  | zero => intro _ _ _ _ _ _ _ _ _ _ _ _ _ _ hr; cases hr
  | succ n ih => intro l0 l1 l2 l4 l6 l8 l10 l11 l13 l15 S R t_l0 t_l1 hr; exact ja_X13_quotient_b12_ok zs ih l0 l1 l2 l4 l6 l8 l10 l11 l13 l15 S R t_l0 t_l1 hr
noncomputable def ja_X13_quotient (l0 : Nat) (l1 : Nat) (l2 : Int) (l4 : Int) (l6 : Int) (l8 : Int) (S : nk_S) : Option (Int × nk_S) :=
  ja_X13_quotient_L12 nk_big l0 l1 l2 l4 l6 l8 0 0 0 0 S
theorem ja_X13_quotient_ok (zs : List Int32) : ∀ (l0 : Nat) (l1 : Nat) (l2 : Int) (l4 : Int) (l6 : Int) (l8 : Int) (S : nk_S) (R : Int × nk_S), nk_cl ja_Tt l0 = some 13 → nk_cl ja_Tt l1 = some 12 → ja_X13_quotient l0 l1 l2 l4 l6 l8 S = some R → nk_K ja_Tt mi_Γ (mi_ev zs) 1 213 0 [(0, nk_r l0), (1, nk_r l1), (2, nk_l l2), (4, nk_l l4), (6, nk_l l6), (8, nk_l l8)] [] S R := by
  intro l0 l1 l2 l4 l6 l8 S R t_l0 t_l1 hr
  unfold ja_X13_quotient at hr
  refine nk_p (i := .iconst 0) (len := 1) (pc' := 1) mJ_213 (by decide +kernel) (ns_iconst (c := 0) (by decide +kernel)) rfl ?_
  refine nk_p (i := .istore 10) (len := 2) (pc' := 3) mJ_213 (by decide +kernel) (ns_istore (L' := [(10, nk_i 0), (0, nk_r l0), (1, nk_r l1), (2, nk_l l2), (4, nk_l l4), (6, nk_l l6), (8, nk_l l8)]) rfl rfl (by decide +kernel)) rfl ?_
  refine nk_p (i := .lconst 0) (len := 1) (pc' := 4) mJ_213 (by decide +kernel) (ns_lconst (c := 0) (by decide +kernel)) rfl ?_
  refine nk_p (i := .lstore 11) (len := 2) (pc' := 6) mJ_213 (by decide +kernel) (ns_lstore (L' := [(11, nk_l 0), (10, nk_i 0), (0, nk_r l0), (1, nk_r l1), (2, nk_l l2), (4, nk_l l4), (6, nk_l l6), (8, nk_l l8)]) rfl rfl (by decide +kernel)) rfl ?_
  refine nk_p (i := .lconst 0) (len := 1) (pc' := 7) mJ_213 (by decide +kernel) (ns_lconst (c := 0) (by decide +kernel)) rfl ?_
  refine nk_p (i := .lstore 13) (len := 2) (pc' := 9) mJ_213 (by decide +kernel) (ns_lstore (L' := [(13, nk_l 0), (11, nk_l 0), (10, nk_i 0), (0, nk_r l0), (1, nk_r l1), (2, nk_l l2), (4, nk_l l4), (6, nk_l l6), (8, nk_l l8)]) rfl rfl (by decide +kernel)) rfl ?_
  refine nk_p (i := .iconst 0) (len := 1) (pc' := 10) mJ_213 (by decide +kernel) (ns_iconst (c := 0) (by decide +kernel)) rfl ?_
  refine nk_p (i := .istore 15) (len := 2) (pc' := 12) mJ_213 (by decide +kernel) (ns_istore (L' := [(15, nk_i 0), (13, nk_l 0), (11, nk_l 0), (10, nk_i 0), (0, nk_r l0), (1, nk_r l1), (2, nk_l l2), (4, nk_l l4), (6, nk_l l6), (8, nk_l l8)]) rfl rfl (by decide +kernel)) rfl ?_
  refine nk_sub [4, 5, 6, 7, 8, 9, 3, 2, 1, 0] (L' := [(0, nk_r l0), (1, nk_r l1), (2, nk_l l2), (4, nk_l l4), (6, nk_l l6), (8, nk_l l8), (10, nk_i 0), (11, nk_l 0), (13, nk_l 0), (15, nk_i 0)]) rfl ?_
  exact ja_X13_quotient_L12_ok zs nk_big _ _ _ _ _ _ _ _ _ _ _ _ t_l0 t_l1 hr
/-! SafeCodeModel rest (LSafeCodeModel$Program;JJJJ)Z -/
noncomputable def ja_X13_rest_b110 (s0 : Nat) (s1 : Nat) (s2 : Int) (s3 : Int) (S : nk_S) : Option (Int × nk_S) :=
  nk_bd (ja_X13_leaveRange s0 s1 s2 s3 S) fun r1 S2 =>
  some (1, S2)
theorem ja_X13_rest_b110_ok (zs : List Int32) : ∀ (s0 : Nat) (s1 : Nat) (s2 : Int) (s3 : Int) (S : nk_S) (R : Int × nk_S), nk_cl ja_Tt s0 = some 13 → nk_cl ja_Tt s1 = some 12 → ja_X13_rest_b110 s0 s1 s2 s3 S = some R → nk_K ja_Tt mi_Γ (mi_ev zs) 1 220 110 [] [nk_l s3, nk_l s2, nk_r s1, nk_r s0] S R := by
  intro s0 s1 s2 s3 S R t_s0 t_s1 hr
  unfold ja_X13_rest_b110 at hr
  obtain ⟨r1, S2, h3, hr⟩ := nk_bde hr
  refine nk_callV (ci := 13) (n := 3) (x := 684) (len := 3) (j' := 175) (q' := 0) (r := r1) (S' := S2) (L2 := [(0, nk_r s0), (1, nk_r s1), (2, nk_l s2), (4, nk_l s3)]) (rest := []) (st' := []) (pc' := 113) mJ_220 (by decide +kernel) (by decide +kernel) rfl rfl t_s0 (Nat.le_of_ble_eq_true rfl) mJ_175 (Nat.le_of_ble_eq_true rfl) rfl (ja_X13_leaveRange_ok zs _ _ _ _ _ _ t_s0 t_s1 h3) rfl ?_
  refine nk_p (i := .iconst 1) (len := 1) (pc' := 114) mJ_220 (by decide +kernel) (ns_iconst (c := 1) (by decide +kernel)) rfl ?_
  cases hr
  exact nk_iret (ty := .boolean) (len := 1) mJ_220 (by decide +kernel) rfl (nk_nar_z (by decide))
noncomputable def ja_X13_rest_b54 (l0 : Nat) (l1 : Nat) (l2 : Int) (l4 : Int) (s0 : Int) (s1 : Int) (S : nk_S) : Option (Int × nk_S) :=
  nk_bd (ja_J9_max_f86c9 s0 s1 S) fun r1 S2 =>
  nk_lt (nk_W (r1 - 1)) fun v4 =>
  if l2 < 0 then
    nk_bd (ja_J9_max_f86c9 l2 (nk_W (-v4)) S2) fun r6 S7 =>
    if 0 < l4 then
      nk_bd (ja_J9_min_f86c9 l4 v4 S7) fun r9 S10 =>
      ja_X13_rest_b110 l0 l1 r6 r9 S10
    else
      ja_X13_rest_b110 l0 l1 r6 0 S7
  else
    nk_bd (ja_J9_min_f86c9 l4 v4 S2) fun r12 S13 =>
    nk_bd (ja_X13_leaveRange l0 l1 0 r12 S13) fun r15 S16 =>
    some (1, S16)
theorem ja_X13_rest_b54_ok (zs : List Int32) : ∀ (l0 : Nat) (l1 : Nat) (l2 : Int) (l4 : Int) (s0 : Int) (s1 : Int) (S : nk_S) (R : Int × nk_S), nk_cl ja_Tt l0 = some 13 → nk_cl ja_Tt l1 = some 12 → ja_X13_rest_b54 l0 l1 l2 l4 s0 s1 S = some R → nk_K ja_Tt mi_Γ (mi_ev zs) 1 220 54 [(0, nk_r l0), (1, nk_r l1), (2, nk_l l2), (4, nk_l l4)] [nk_l s1, nk_l s0] S R := by
  intro l0 l1 l2 l4 s0 s1 S R t_l0 t_l1 hr
  unfold ja_X13_rest_b54 at hr
  obtain ⟨r1, S2, h3, hr⟩ := nk_bde hr
  refine nk_callS (ci := 0) (n := 2) (x := 679) (len := 3) (j' := 17) (q' := 2) (r := r1) (S' := S2) (L2 := [(0, nk_l s0), (2, nk_l s1)]) (rest := []) (st' := [nk_l r1]) (pc' := 57) mJ_220 (by decide +kernel) (by decide +kernel) (Nat.le_of_ble_eq_true rfl) rfl rfl (Nat.le_of_ble_eq_true rfl) mJ_17 (Nat.le_of_ble_eq_true rfl) ja_Tpos rfl (ja_J9_max_f86c9_ok zs _ _ _ _ h3) rfl ?_
  refine nk_p (i := .lconst 1) (len := 1) (pc' := 58) mJ_220 (by decide +kernel) (ns_lconst (c := 1) (by decide +kernel)) rfl ?_
  refine nk_p (i := .lsub) (len := 1) (pc' := 59) mJ_220 (by decide +kernel) ns_lsub rfl ?_
  obtain ⟨v4, h5, hr⟩ := nk_lte hr
  refine nk_p (i := .lstore 10) (len := 2) (pc' := 61) mJ_220 (by decide +kernel) (ns_lstore (L' := [(10, nk_l v4), (0, nk_r l0), (1, nk_r l1), (2, nk_l l2), (4, nk_l l4)]) h5 rfl (by decide +kernel)) rfl ?_
  refine nk_p (i := .lload_n 2) (len := 1) (pc' := 62) mJ_220 (by decide +kernel) (ns_lload_n 3 rfl rfl) rfl ?_
  refine nk_p (i := .lconst 0) (len := 1) (pc' := 63) mJ_220 (by decide +kernel) (ns_lconst (c := 0) (by decide +kernel)) rfl ?_
  refine nk_p (i := .lcmp) (len := 1) (pc' := 64) mJ_220 (by decide +kernel) ns_lcmp rfl ?_
  refine nk_lcond (c := .lt) (off := 19) (len := 3) (t := 83) (pc' := 67) mJ_220 (by decide +kernel) (by decide +kernel) rfl (fun hc => ?_) (fun hc => ?_)
  · have hr := nk_ifp (c := l2 < 0) hc hr
    refine nk_p (i := .aload_n 0) (len := 1) (pc' := 84) mJ_220 (by decide +kernel) (ns_aload_n 1 rfl rfl) rfl ?_
    refine nk_p (i := .aload_n 1) (len := 1) (pc' := 85) mJ_220 (by decide +kernel) (ns_aload_n 2 rfl rfl) rfl ?_
    refine nk_p (i := .lload_n 2) (len := 1) (pc' := 86) mJ_220 (by decide +kernel) (ns_lload_n 3 rfl rfl) rfl ?_
    refine nk_p (i := .lload 10) (len := 2) (pc' := 88) mJ_220 (by decide +kernel) (ns_lload 0 rfl) rfl ?_
    refine nk_p (i := .lneg) (len := 1) (pc' := 89) mJ_220 (by decide +kernel) ns_lneg rfl ?_
    obtain ⟨r6, S7, h8, hr⟩ := nk_bde hr
    refine nk_callS (ci := 0) (n := 2) (x := 679) (len := 3) (j' := 17) (q' := 2) (r := r6) (S' := S7) (L2 := [(0, nk_l l2), (2, nk_l (nk_W (-v4)))]) (rest := [nk_r l1, nk_r l0]) (st' := [nk_l r6, nk_r l1, nk_r l0]) (pc' := 92) mJ_220 (by decide +kernel) (by decide +kernel) (Nat.le_of_ble_eq_true rfl) rfl rfl (Nat.le_of_ble_eq_true rfl) mJ_17 (Nat.le_of_ble_eq_true rfl) ja_Tpos rfl (ja_J9_max_f86c9_ok zs _ _ _ _ h8) rfl ?_
    refine nk_p (i := .lload 4) (len := 2) (pc' := 94) mJ_220 (by decide +kernel) (ns_lload 4 rfl) rfl ?_
    refine nk_p (i := .lconst 0) (len := 1) (pc' := 95) mJ_220 (by decide +kernel) (ns_lconst (c := 0) (by decide +kernel)) rfl ?_
    refine nk_p (i := .lcmp) (len := 1) (pc' := 96) mJ_220 (by decide +kernel) ns_lcmp rfl ?_
    refine nk_lcond (c := .gt) (off := 7) (len := 3) (t := 103) (pc' := 99) mJ_220 (by decide +kernel) (by decide +kernel) rfl (fun hc => ?_) (fun hc => ?_)
    · have hr := nk_ifp (c := 0 < l4) hc hr
      refine nk_p (i := .lload 4) (len := 2) (pc' := 105) mJ_220 (by decide +kernel) (ns_lload 4 rfl) rfl ?_
      refine nk_p (i := .lload 10) (len := 2) (pc' := 107) mJ_220 (by decide +kernel) (ns_lload 0 rfl) rfl ?_
      obtain ⟨r9, S10, h11, hr⟩ := nk_bde hr
      refine nk_callS (ci := 0) (n := 2) (x := 676) (len := 3) (j' := 19) (q' := 2) (r := r9) (S' := S10) (L2 := [(0, nk_l l4), (2, nk_l v4)]) (rest := [nk_l r6, nk_r l1, nk_r l0]) (st' := [nk_l r9, nk_l r6, nk_r l1, nk_r l0]) (pc' := 110) mJ_220 (by decide +kernel) (by decide +kernel) (Nat.le_of_ble_eq_true rfl) rfl rfl (Nat.le_of_ble_eq_true rfl) mJ_19 (Nat.le_of_ble_eq_true rfl) ja_Tpos rfl (ja_J9_min_f86c9_ok zs _ _ _ _ h11) rfl ?_
      refine nk_sub [] (L' := []) rfl ?_
      exact ja_X13_rest_b110_ok zs _ _ _ _ _ _ t_l0 t_l1 hr
    · have hr := nk_ifn (c := 0 < l4) hc hr
      refine nk_p (i := .lconst 0) (len := 1) (pc' := 100) mJ_220 (by decide +kernel) (ns_lconst (c := 0) (by decide +kernel)) rfl ?_
      refine nk_p (i := .goto 10) (len := 3) (pc' := 110) mJ_220 (by decide +kernel) (ns_goto (by decide +kernel)) rfl ?_
      refine nk_sub [] (L' := []) rfl ?_
      exact ja_X13_rest_b110_ok zs _ _ _ _ _ _ t_l0 t_l1 hr
  · have hr := nk_ifn (c := l2 < 0) hc hr
    refine nk_p (i := .aload_n 0) (len := 1) (pc' := 68) mJ_220 (by decide +kernel) (ns_aload_n 1 rfl rfl) rfl ?_
    refine nk_p (i := .aload_n 1) (len := 1) (pc' := 69) mJ_220 (by decide +kernel) (ns_aload_n 2 rfl rfl) rfl ?_
    refine nk_p (i := .lconst 0) (len := 1) (pc' := 70) mJ_220 (by decide +kernel) (ns_lconst (c := 0) (by decide +kernel)) rfl ?_
    refine nk_p (i := .lload 4) (len := 2) (pc' := 72) mJ_220 (by decide +kernel) (ns_lload 4 rfl) rfl ?_
    refine nk_p (i := .lload 10) (len := 2) (pc' := 74) mJ_220 (by decide +kernel) (ns_lload 0 rfl) rfl ?_
    obtain ⟨r12, S13, h14, hr⟩ := nk_bde hr
    refine nk_callS (ci := 0) (n := 2) (x := 676) (len := 3) (j' := 19) (q' := 2) (r := r12) (S' := S13) (L2 := [(0, nk_l l4), (2, nk_l v4)]) (rest := [nk_l 0, nk_r l1, nk_r l0]) (st' := [nk_l r12, nk_l 0, nk_r l1, nk_r l0]) (pc' := 77) mJ_220 (by decide +kernel) (by decide +kernel) (Nat.le_of_ble_eq_true rfl) rfl rfl (Nat.le_of_ble_eq_true rfl) mJ_19 (Nat.le_of_ble_eq_true rfl) ja_Tpos rfl (ja_J9_min_f86c9_ok zs _ _ _ _ h14) rfl ?_
    obtain ⟨r15, S16, h17, hr⟩ := nk_bde hr
    refine nk_callV (ci := 13) (n := 3) (x := 684) (len := 3) (j' := 175) (q' := 0) (r := r15) (S' := S16) (L2 := [(0, nk_r l0), (1, nk_r l1), (2, nk_l 0), (4, nk_l r12)]) (rest := []) (st' := []) (pc' := 80) mJ_220 (by decide +kernel) (by decide +kernel) rfl rfl t_l0 (Nat.le_of_ble_eq_true rfl) mJ_175 (Nat.le_of_ble_eq_true rfl) rfl (ja_X13_leaveRange_ok zs _ _ _ _ _ _ t_l0 t_l1 h17) rfl ?_
    refine nk_p (i := .goto 33) (len := 3) (pc' := 113) mJ_220 (by decide +kernel) (ns_goto (by decide +kernel)) rfl ?_
    refine nk_p (i := .iconst 1) (len := 1) (pc' := 114) mJ_220 (by decide +kernel) (ns_iconst (c := 1) (by decide +kernel)) rfl ?_
    cases hr
    exact nk_iret (ty := .boolean) (len := 1) mJ_220 (by decide +kernel) rfl (nk_nar_z (by decide))
noncomputable def ja_X13_rest_b39 (l0 : Nat) (l1 : Nat) (l2 : Int) (l4 : Int) (l8 : Int) (s0 : Int) (S : nk_S) : Option (Int × nk_S) :=
  if 0 ≤ l8 then
    ja_X13_rest_b54 l0 l1 l2 l4 s0 l8 S
  else
    ja_X13_rest_b54 l0 l1 l2 l4 s0 (nk_W (-l8)) S
theorem ja_X13_rest_b39_ok (zs : List Int32) : ∀ (l0 : Nat) (l1 : Nat) (l2 : Int) (l4 : Int) (l8 : Int) (s0 : Int) (S : nk_S) (R : Int × nk_S), nk_cl ja_Tt l0 = some 13 → nk_cl ja_Tt l1 = some 12 → ja_X13_rest_b39 l0 l1 l2 l4 l8 s0 S = some R → nk_K ja_Tt mi_Γ (mi_ev zs) 1 220 39 [(0, nk_r l0), (1, nk_r l1), (2, nk_l l2), (4, nk_l l4), (8, nk_l l8)] [nk_l s0] S R := by
  intro l0 l1 l2 l4 l8 s0 S R t_l0 t_l1 hr
  unfold ja_X13_rest_b39 at hr
  refine nk_p (i := .lload 8) (len := 2) (pc' := 41) mJ_220 (by decide +kernel) (ns_lload 4 rfl) rfl ?_
  refine nk_p (i := .lconst 0) (len := 1) (pc' := 42) mJ_220 (by decide +kernel) (ns_lconst (c := 0) (by decide +kernel)) rfl ?_
  refine nk_p (i := .lcmp) (len := 1) (pc' := 43) mJ_220 (by decide +kernel) ns_lcmp rfl ?_
  refine nk_lcond (c := .ge) (off := 9) (len := 3) (t := 52) (pc' := 46) mJ_220 (by decide +kernel) (by decide +kernel) rfl (fun hc => ?_) (fun hc => ?_)
  · have hr := nk_ifp (c := 0 ≤ l8) hc hr
    refine nk_p (i := .lload 8) (len := 2) (pc' := 54) mJ_220 (by decide +kernel) (ns_lload 4 rfl) rfl ?_
    refine nk_sub [0, 1, 2, 3] (L' := [(0, nk_r l0), (1, nk_r l1), (2, nk_l l2), (4, nk_l l4)]) rfl ?_
    exact ja_X13_rest_b54_ok zs _ _ _ _ _ _ _ _ t_l0 t_l1 hr
  · have hr := nk_ifn (c := 0 ≤ l8) hc hr
    refine nk_p (i := .lload 8) (len := 2) (pc' := 48) mJ_220 (by decide +kernel) (ns_lload 4 rfl) rfl ?_
    refine nk_p (i := .lneg) (len := 1) (pc' := 49) mJ_220 (by decide +kernel) ns_lneg rfl ?_
    refine nk_p (i := .goto 5) (len := 3) (pc' := 54) mJ_220 (by decide +kernel) (ns_goto (by decide +kernel)) rfl ?_
    refine nk_sub [0, 1, 2, 3] (L' := [(0, nk_r l0), (1, nk_r l1), (2, nk_l l2), (4, nk_l l4)]) rfl ?_
    exact ja_X13_rest_b54_ok zs _ _ _ _ _ _ _ _ t_l0 t_l1 hr
noncomputable def ja_X13_rest_b24 (l0 : Nat) (l1 : Nat) (l2 : Int) (l4 : Int) (l6 : Int) (l8 : Int) (S : nk_S) : Option (Int × nk_S) :=
  if 0 ≤ l6 then
    ja_X13_rest_b39 l0 l1 l2 l4 l8 l6 S
  else
    ja_X13_rest_b39 l0 l1 l2 l4 l8 (nk_W (-l6)) S
theorem ja_X13_rest_b24_ok (zs : List Int32) : ∀ (l0 : Nat) (l1 : Nat) (l2 : Int) (l4 : Int) (l6 : Int) (l8 : Int) (S : nk_S) (R : Int × nk_S), nk_cl ja_Tt l0 = some 13 → nk_cl ja_Tt l1 = some 12 → ja_X13_rest_b24 l0 l1 l2 l4 l6 l8 S = some R → nk_K ja_Tt mi_Γ (mi_ev zs) 1 220 24 [(0, nk_r l0), (1, nk_r l1), (2, nk_l l2), (4, nk_l l4), (6, nk_l l6), (8, nk_l l8)] [] S R := by
  intro l0 l1 l2 l4 l6 l8 S R t_l0 t_l1 hr
  unfold ja_X13_rest_b24 at hr
  refine nk_p (i := .lload 6) (len := 2) (pc' := 26) mJ_220 (by decide +kernel) (ns_lload 4 rfl) rfl ?_
  refine nk_p (i := .lconst 0) (len := 1) (pc' := 27) mJ_220 (by decide +kernel) (ns_lconst (c := 0) (by decide +kernel)) rfl ?_
  refine nk_p (i := .lcmp) (len := 1) (pc' := 28) mJ_220 (by decide +kernel) ns_lcmp rfl ?_
  refine nk_lcond (c := .ge) (off := 9) (len := 3) (t := 37) (pc' := 31) mJ_220 (by decide +kernel) (by decide +kernel) rfl (fun hc => ?_) (fun hc => ?_)
  · have hr := nk_ifp (c := 0 ≤ l6) hc hr
    refine nk_p (i := .lload 6) (len := 2) (pc' := 39) mJ_220 (by decide +kernel) (ns_lload 4 rfl) rfl ?_
    refine nk_sub [0, 1, 2, 3, 5] (L' := [(0, nk_r l0), (1, nk_r l1), (2, nk_l l2), (4, nk_l l4), (8, nk_l l8)]) rfl ?_
    exact ja_X13_rest_b39_ok zs _ _ _ _ _ _ _ _ t_l0 t_l1 hr
  · have hr := nk_ifn (c := 0 ≤ l6) hc hr
    refine nk_p (i := .lload 6) (len := 2) (pc' := 33) mJ_220 (by decide +kernel) (ns_lload 4 rfl) rfl ?_
    refine nk_p (i := .lneg) (len := 1) (pc' := 34) mJ_220 (by decide +kernel) ns_lneg rfl ?_
    refine nk_p (i := .goto 5) (len := 3) (pc' := 39) mJ_220 (by decide +kernel) (ns_goto (by decide +kernel)) rfl ?_
    refine nk_sub [0, 1, 2, 3, 5] (L' := [(0, nk_r l0), (1, nk_r l1), (2, nk_l l2), (4, nk_l l4), (8, nk_l l8)]) rfl ?_
    exact ja_X13_rest_b39_ok zs _ _ _ _ _ _ _ _ t_l0 t_l1 hr
noncomputable def ja_X13_rest (l0 : Nat) (l1 : Nat) (l2 : Int) (l4 : Int) (l6 : Int) (l8 : Int) (S : nk_S) : Option (Int × nk_S) :=
  nk_bd (ja_X13_raisedByZero l0 l6 l8 S) fun r1 S2 =>
  if l6 = 0 then
    if l8 = 0 then
      some (0, S2)
    else
      ja_X13_rest_b24 l0 l1 l2 l4 l6 l8 S2
  else
    ja_X13_rest_b24 l0 l1 l2 l4 l6 l8 S2
theorem ja_X13_rest_ok (zs : List Int32) : ∀ (l0 : Nat) (l1 : Nat) (l2 : Int) (l4 : Int) (l6 : Int) (l8 : Int) (S : nk_S) (R : Int × nk_S), nk_cl ja_Tt l0 = some 13 → nk_cl ja_Tt l1 = some 12 → ja_X13_rest l0 l1 l2 l4 l6 l8 S = some R → nk_K ja_Tt mi_Γ (mi_ev zs) 1 220 0 [(0, nk_r l0), (1, nk_r l1), (2, nk_l l2), (4, nk_l l4), (6, nk_l l6), (8, nk_l l8)] [] S R := by
  intro l0 l1 l2 l4 l6 l8 S R t_l0 t_l1 hr
  unfold ja_X13_rest at hr
  refine nk_p (i := .aload_n 0) (len := 1) (pc' := 1) mJ_220 (by decide +kernel) (ns_aload_n 0 rfl rfl) rfl ?_
  refine nk_p (i := .lload 6) (len := 2) (pc' := 3) mJ_220 (by decide +kernel) (ns_lload 4 rfl) rfl ?_
  refine nk_p (i := .lload 8) (len := 2) (pc' := 5) mJ_220 (by decide +kernel) (ns_lload 5 rfl) rfl ?_
  obtain ⟨r1, S2, h3, hr⟩ := nk_bde hr
  refine nk_callV (ci := 13) (n := 2) (x := 744) (len := 3) (j' := 215) (q' := 0) (r := r1) (S' := S2) (L2 := [(0, nk_r l0), (1, nk_l l6), (3, nk_l l8)]) (rest := []) (st' := []) (pc' := 8) mJ_220 (by decide +kernel) (by decide +kernel) rfl rfl t_l0 (Nat.le_of_ble_eq_true rfl) mJ_215 (Nat.le_of_ble_eq_true rfl) rfl (ja_X13_raisedByZero_ok zs _ _ _ _ _ t_l0 h3) rfl ?_
  refine nk_p (i := .lload 6) (len := 2) (pc' := 10) mJ_220 (by decide +kernel) (ns_lload 4 rfl) rfl ?_
  refine nk_p (i := .lconst 0) (len := 1) (pc' := 11) mJ_220 (by decide +kernel) (ns_lconst (c := 0) (by decide +kernel)) rfl ?_
  refine nk_p (i := .lcmp) (len := 1) (pc' := 12) mJ_220 (by decide +kernel) ns_lcmp rfl ?_
  refine nk_lcond (c := .ne) (off := 12) (len := 3) (t := 24) (pc' := 15) mJ_220 (by decide +kernel) (by decide +kernel) rfl (fun hc => ?_) (fun hc => ?_)
  · have hr := nk_ifn (c := l6 = 0) hc hr
    exact ja_X13_rest_b24_ok zs _ _ _ _ _ _ _ _ t_l0 t_l1 hr
  · have hr := nk_ifp (c := l6 = 0) (Decidable.of_not_not hc) hr
    refine nk_p (i := .lload 8) (len := 2) (pc' := 17) mJ_220 (by decide +kernel) (ns_lload 5 rfl) rfl ?_
    refine nk_p (i := .lconst 0) (len := 1) (pc' := 18) mJ_220 (by decide +kernel) (ns_lconst (c := 0) (by decide +kernel)) rfl ?_
    refine nk_p (i := .lcmp) (len := 1) (pc' := 19) mJ_220 (by decide +kernel) ns_lcmp rfl ?_
    refine nk_lcond (c := .ne) (off := 5) (len := 3) (t := 24) (pc' := 22) mJ_220 (by decide +kernel) (by decide +kernel) rfl (fun hc => ?_) (fun hc => ?_)
    · have hr := nk_ifn (c := l8 = 0) hc hr
      exact ja_X13_rest_b24_ok zs _ _ _ _ _ _ _ _ t_l0 t_l1 hr
    · have hr := nk_ifp (c := l8 = 0) (Decidable.of_not_not hc) hr
      refine nk_p (i := .iconst 0) (len := 1) (pc' := 23) mJ_220 (by decide +kernel) (ns_iconst (c := 0) (by decide +kernel)) rfl ?_
      cases hr
      exact nk_iret (ty := .boolean) (len := 1) mJ_220 (by decide +kernel) rfl (nk_nar_z (by decide))
/-! SafeCodeModel numbers (LSafeCodeModel$Program;I)Z -/
noncomputable def ja_X13_numbers_b290 (s0 : Nat) (s1 : Nat) (s2 : Int) (s3 : Int) (S : nk_S) : Option (Int × nk_S) :=
  nk_bd (ja_X13_leaveRange s0 s1 s2 s3 S) fun r1 S2 =>
  some (1, S2)
theorem ja_X13_numbers_b290_ok (zs : List Int32) : ∀ (s0 : Nat) (s1 : Nat) (s2 : Int) (s3 : Int) (S : nk_S) (R : Int × nk_S), nk_cl ja_Tt s0 = some 13 → nk_cl ja_Tt s1 = some 12 → ja_X13_numbers_b290 s0 s1 s2 s3 S = some R → nk_K ja_Tt mi_Γ (mi_ev zs) 1 198 290 [] [nk_l s3, nk_l s2, nk_r s1, nk_r s0] S R := by
  intro s0 s1 s2 s3 S R t_s0 t_s1 hr
  unfold ja_X13_numbers_b290 at hr
  obtain ⟨r1, S2, h3, hr⟩ := nk_bde hr
  refine nk_callV (ci := 13) (n := 3) (x := 684) (len := 3) (j' := 175) (q' := 0) (r := r1) (S' := S2) (L2 := [(0, nk_r s0), (1, nk_r s1), (2, nk_l s2), (4, nk_l s3)]) (rest := []) (st' := []) (pc' := 293) mJ_198 (by decide +kernel) (by decide +kernel) rfl rfl t_s0 (Nat.le_of_ble_eq_true rfl) mJ_175 (Nat.le_of_ble_eq_true rfl) rfl (ja_X13_leaveRange_ok zs _ _ _ _ _ _ t_s0 t_s1 h3) rfl ?_
  refine nk_p (i := .goto 14) (len := 3) (pc' := 307) mJ_198 (by decide +kernel) (ns_goto (by decide +kernel)) rfl ?_
  refine nk_p (i := .iconst 1) (len := 1) (pc' := 308) mJ_198 (by decide +kernel) (ns_iconst (c := 1) (by decide +kernel)) rfl ?_
  cases hr
  exact nk_iret (ty := .boolean) (len := 1) mJ_198 (by decide +kernel) rfl (nk_nar_z (by decide))
noncomputable def ja_X13_numbers_b274 (l0 : Nat) (l1 : Nat) (l3 : Int) (l5 : Int) (l9 : Int) (S : nk_S) : Option (Int × nk_S) :=
  if l3 < 0 then
    ja_X13_numbers_b290 l0 l1 0 l9 S
  else
    ja_X13_numbers_b290 l0 l1 0 l5 S
theorem ja_X13_numbers_b274_ok (zs : List Int32) : ∀ (l0 : Nat) (l1 : Nat) (l3 : Int) (l5 : Int) (l9 : Int) (S : nk_S) (R : Int × nk_S), nk_cl ja_Tt l0 = some 13 → nk_cl ja_Tt l1 = some 12 → ja_X13_numbers_b274 l0 l1 l3 l5 l9 S = some R → nk_K ja_Tt mi_Γ (mi_ev zs) 1 198 274 [(0, nk_r l0), (1, nk_r l1), (3, nk_l l3), (5, nk_l l5), (9, nk_l l9)] [] S R := by
  intro l0 l1 l3 l5 l9 S R t_l0 t_l1 hr
  unfold ja_X13_numbers_b274 at hr
  refine nk_p (i := .aload_n 0) (len := 1) (pc' := 275) mJ_198 (by decide +kernel) (ns_aload_n 0 rfl rfl) rfl ?_
  refine nk_p (i := .aload_n 1) (len := 1) (pc' := 276) mJ_198 (by decide +kernel) (ns_aload_n 1 rfl rfl) rfl ?_
  refine nk_p (i := .lconst 0) (len := 1) (pc' := 277) mJ_198 (by decide +kernel) (ns_lconst (c := 0) (by decide +kernel)) rfl ?_
  refine nk_p (i := .lload_n 3) (len := 1) (pc' := 278) mJ_198 (by decide +kernel) (ns_lload_n 2 rfl rfl) rfl ?_
  refine nk_p (i := .lconst 0) (len := 1) (pc' := 279) mJ_198 (by decide +kernel) (ns_lconst (c := 0) (by decide +kernel)) rfl ?_
  refine nk_p (i := .lcmp) (len := 1) (pc' := 280) mJ_198 (by decide +kernel) ns_lcmp rfl ?_
  refine nk_lcond (c := .lt) (off := 8) (len := 3) (t := 288) (pc' := 283) mJ_198 (by decide +kernel) (by decide +kernel) rfl (fun hc => ?_) (fun hc => ?_)
  · have hr := nk_ifp (c := l3 < 0) hc hr
    refine nk_p (i := .lload 9) (len := 2) (pc' := 290) mJ_198 (by decide +kernel) (ns_lload 4 rfl) rfl ?_
    refine nk_sub [] (L' := []) rfl ?_
    exact ja_X13_numbers_b290_ok zs _ _ _ _ _ _ t_l0 t_l1 hr
  · have hr := nk_ifn (c := l3 < 0) hc hr
    refine nk_p (i := .lload 5) (len := 2) (pc' := 285) mJ_198 (by decide +kernel) (ns_lload 3 rfl) rfl ?_
    refine nk_p (i := .goto 5) (len := 3) (pc' := 290) mJ_198 (by decide +kernel) (ns_goto (by decide +kernel)) rfl ?_
    refine nk_sub [] (L' := []) rfl ?_
    exact ja_X13_numbers_b290_ok zs _ _ _ _ _ _ t_l0 t_l1 hr
noncomputable def ja_X13_numbers_b261 (l0 : Nat) (l1 : Nat) (l3 : Int) (l5 : Int) (l7 : Int) (l9 : Int) (S : nk_S) : Option (Int × nk_S) :=
  if 0 ≤ l3 then
    ja_X13_numbers_b274 l0 l1 l3 l5 l9 S
  else
    if l7 < 0 then
      nk_bd (ja_X13_leaveRange l0 l1 (-2147483648) 2147483647 S) fun r1 S2 =>
      some (1, S2)
    else
      ja_X13_numbers_b274 l0 l1 l3 l5 l9 S
theorem ja_X13_numbers_b261_ok (zs : List Int32) : ∀ (l0 : Nat) (l1 : Nat) (l3 : Int) (l5 : Int) (l7 : Int) (l9 : Int) (S : nk_S) (R : Int × nk_S), nk_cl ja_Tt l0 = some 13 → nk_cl ja_Tt l1 = some 12 → ja_X13_numbers_b261 l0 l1 l3 l5 l7 l9 S = some R → nk_K ja_Tt mi_Γ (mi_ev zs) 1 198 261 [(0, nk_r l0), (1, nk_r l1), (3, nk_l l3), (5, nk_l l5), (7, nk_l l7), (9, nk_l l9)] [] S R := by
  intro l0 l1 l3 l5 l7 l9 S R t_l0 t_l1 hr
  unfold ja_X13_numbers_b261 at hr
  refine nk_p (i := .lload_n 3) (len := 1) (pc' := 262) mJ_198 (by decide +kernel) (ns_lload_n 2 rfl rfl) rfl ?_
  refine nk_p (i := .lconst 0) (len := 1) (pc' := 263) mJ_198 (by decide +kernel) (ns_lconst (c := 0) (by decide +kernel)) rfl ?_
  refine nk_p (i := .lcmp) (len := 1) (pc' := 264) mJ_198 (by decide +kernel) ns_lcmp rfl ?_
  refine nk_lcond (c := .ge) (off := 10) (len := 3) (t := 274) (pc' := 267) mJ_198 (by decide +kernel) (by decide +kernel) rfl (fun hc => ?_) (fun hc => ?_)
  · have hr := nk_ifp (c := 0 ≤ l3) hc hr
    refine nk_sub [0, 1, 2, 3, 5] (L' := [(0, nk_r l0), (1, nk_r l1), (3, nk_l l3), (5, nk_l l5), (9, nk_l l9)]) rfl ?_
    exact ja_X13_numbers_b274_ok zs _ _ _ _ _ _ _ t_l0 t_l1 hr
  · have hr := nk_ifn (c := 0 ≤ l3) hc hr
    refine nk_p (i := .lload 7) (len := 2) (pc' := 269) mJ_198 (by decide +kernel) (ns_lload 4 rfl) rfl ?_
    refine nk_p (i := .lconst 0) (len := 1) (pc' := 270) mJ_198 (by decide +kernel) (ns_lconst (c := 0) (by decide +kernel)) rfl ?_
    refine nk_p (i := .lcmp) (len := 1) (pc' := 271) mJ_198 (by decide +kernel) ns_lcmp rfl ?_
    refine nk_lcond (c := .lt) (off := 25) (len := 3) (t := 296) (pc' := 274) mJ_198 (by decide +kernel) (by decide +kernel) rfl (fun hc => ?_) (fun hc => ?_)
    · have hr := nk_ifp (c := l7 < 0) hc hr
      refine nk_p (i := .aload_n 0) (len := 1) (pc' := 297) mJ_198 (by decide +kernel) (ns_aload_n 0 rfl rfl) rfl ?_
      refine nk_p (i := .aload_n 1) (len := 1) (pc' := 298) mJ_198 (by decide +kernel) (ns_aload_n 1 rfl rfl) rfl ?_
      refine nk_ldc2 (x := 186) (len := 3) (X := (-2147483648)) (v := (-2147483648)) (pc' := 301) mJ_198 (by decide +kernel) (by decide +kernel) (by decide +kernel) rfl ?_
      refine nk_ldc2 (x := 188) (len := 3) (X := 2147483647) (v := 2147483647) (pc' := 304) mJ_198 (by decide +kernel) (by decide +kernel) (by decide +kernel) rfl ?_
      obtain ⟨r1, S2, h3, hr⟩ := nk_bde hr
      refine nk_callV (ci := 13) (n := 3) (x := 684) (len := 3) (j' := 175) (q' := 0) (r := r1) (S' := S2) (L2 := [(0, nk_r l0), (1, nk_r l1), (2, nk_l (-2147483648)), (4, nk_l 2147483647)]) (rest := []) (st' := []) (pc' := 307) mJ_198 (by decide +kernel) (by decide +kernel) rfl rfl t_l0 (Nat.le_of_ble_eq_true rfl) mJ_175 (Nat.le_of_ble_eq_true rfl) rfl (ja_X13_leaveRange_ok zs _ _ _ _ _ _ t_l0 t_l1 h3) rfl ?_
      refine nk_p (i := .iconst 1) (len := 1) (pc' := 308) mJ_198 (by decide +kernel) (ns_iconst (c := 1) (by decide +kernel)) rfl ?_
      cases hr
      exact nk_iret (ty := .boolean) (len := 1) mJ_198 (by decide +kernel) rfl (nk_nar_z (by decide))
    · have hr := nk_ifn (c := l7 < 0) hc hr
      refine nk_sub [0, 1, 2, 3, 5] (L' := [(0, nk_r l0), (1, nk_r l1), (3, nk_l l3), (5, nk_l l5), (9, nk_l l9)]) rfl ?_
      exact ja_X13_numbers_b274_ok zs _ _ _ _ _ _ _ t_l0 t_l1 hr
noncomputable def ja_X13_numbers_b328 (rec312 : Nat → Nat → Int → Int → Int → Int → Int → nk_S → Option (Int × nk_S)) (l0 : Nat) (l1 : Nat) (l3 : Int) (l5 : Int) (l7 : Int) (l9 : Int) (l11 : Int) (S : nk_S) : Option (Int × nk_S) :=
  nk_lt (nk_W ((nk_W (2 * l11)) + 1)) fun v1 =>
  rec312 l0 l1 l3 l5 l7 l9 v1 S
theorem ja_X13_numbers_b328_ok (zs : List Int32) {rec312 : Nat → Nat → Int → Int → Int → Int → Int → nk_S → Option (Int × nk_S)} (hrec312 : ∀ (l0 : Nat) (l1 : Nat) (l3 : Int) (l5 : Int) (l7 : Int) (l9 : Int) (l11 : Int) (S : nk_S) (R : Int × nk_S), nk_cl ja_Tt l0 = some 13 → nk_cl ja_Tt l1 = some 12 → rec312 l0 l1 l3 l5 l7 l9 l11 S = some R → nk_K ja_Tt mi_Γ (mi_ev zs) 1 198 312 [(0, nk_r l0), (1, nk_r l1), (3, nk_l l3), (5, nk_l l5), (7, nk_l l7), (9, nk_l l9), (11, nk_l l11)] [] S R) : ∀ (l0 : Nat) (l1 : Nat) (l3 : Int) (l5 : Int) (l7 : Int) (l9 : Int) (l11 : Int) (S : nk_S) (R : Int × nk_S), nk_cl ja_Tt l0 = some 13 → nk_cl ja_Tt l1 = some 12 → ja_X13_numbers_b328 rec312 l0 l1 l3 l5 l7 l9 l11 S = some R → nk_K ja_Tt mi_Γ (mi_ev zs) 1 198 328 [(0, nk_r l0), (1, nk_r l1), (3, nk_l l3), (5, nk_l l5), (7, nk_l l7), (9, nk_l l9), (11, nk_l l11)] [] S R := by
  intro l0 l1 l3 l5 l7 l9 l11 S R t_l0 t_l1 hr
  unfold ja_X13_numbers_b328 at hr
  refine nk_ldc2 (x := 740) (len := 3) (X := 2) (v := 2) (pc' := 331) mJ_198 (by decide +kernel) (by decide +kernel) (by decide +kernel) rfl ?_
  refine nk_p (i := .lload 11) (len := 2) (pc' := 333) mJ_198 (by decide +kernel) (ns_lload 6 rfl) rfl ?_
  refine nk_p (i := .lmul) (len := 1) (pc' := 334) mJ_198 (by decide +kernel) ns_lmul rfl ?_
  refine nk_p (i := .lconst 1) (len := 1) (pc' := 335) mJ_198 (by decide +kernel) (ns_lconst (c := 1) (by decide +kernel)) rfl ?_
  refine nk_p (i := .ladd) (len := 1) (pc' := 336) mJ_198 (by decide +kernel) ns_ladd rfl ?_
  obtain ⟨v1, h2, hr⟩ := nk_lte hr
  refine nk_p (i := .lstore 11) (len := 2) (pc' := 338) mJ_198 (by decide +kernel) (ns_lstore (L' := [(11, nk_l v1), (0, nk_r l0), (1, nk_r l1), (3, nk_l l3), (5, nk_l l5), (7, nk_l l7), (9, nk_l l9)]) h2 rfl (by decide +kernel)) rfl ?_
  refine nk_p (i := .goto (-26)) (len := 3) (pc' := 312) mJ_198 (by decide +kernel) (ns_goto (by decide +kernel)) rfl ?_
  refine nk_sub [1, 2, 3, 4, 5, 6, 0] (L' := [(0, nk_r l0), (1, nk_r l1), (3, nk_l l3), (5, nk_l l5), (7, nk_l l7), (9, nk_l l9), (11, nk_l v1)]) rfl ?_
  exact hrec312 _ _ _ _ _ _ _ _ _ t_l0 t_l1 hr
noncomputable def ja_X13_numbers_b365 (l0 : Nat) (l1 : Nat) (S : nk_S) : Option (Int × nk_S) :=
  nk_bd (ja_X13_leaveRange l0 l1 (-2147483648) 2147483647 S) fun r1 S2 =>
  some (1, S2)
theorem ja_X13_numbers_b365_ok (zs : List Int32) : ∀ (l0 : Nat) (l1 : Nat) (S : nk_S) (R : Int × nk_S), nk_cl ja_Tt l0 = some 13 → nk_cl ja_Tt l1 = some 12 → ja_X13_numbers_b365 l0 l1 S = some R → nk_K ja_Tt mi_Γ (mi_ev zs) 1 198 365 [(0, nk_r l0), (1, nk_r l1)] [] S R := by
  intro l0 l1 S R t_l0 t_l1 hr
  unfold ja_X13_numbers_b365 at hr
  refine nk_p (i := .aload_n 0) (len := 1) (pc' := 366) mJ_198 (by decide +kernel) (ns_aload_n 0 rfl rfl) rfl ?_
  refine nk_p (i := .aload_n 1) (len := 1) (pc' := 367) mJ_198 (by decide +kernel) (ns_aload_n 1 rfl rfl) rfl ?_
  refine nk_ldc2 (x := 186) (len := 3) (X := (-2147483648)) (v := (-2147483648)) (pc' := 370) mJ_198 (by decide +kernel) (by decide +kernel) (by decide +kernel) rfl ?_
  refine nk_ldc2 (x := 188) (len := 3) (X := 2147483647) (v := 2147483647) (pc' := 373) mJ_198 (by decide +kernel) (by decide +kernel) (by decide +kernel) rfl ?_
  obtain ⟨r1, S2, h3, hr⟩ := nk_bde hr
  refine nk_callV (ci := 13) (n := 3) (x := 684) (len := 3) (j' := 175) (q' := 0) (r := r1) (S' := S2) (L2 := [(0, nk_r l0), (1, nk_r l1), (2, nk_l (-2147483648)), (4, nk_l 2147483647)]) (rest := []) (st' := []) (pc' := 376) mJ_198 (by decide +kernel) (by decide +kernel) rfl rfl t_l0 (Nat.le_of_ble_eq_true rfl) mJ_175 (Nat.le_of_ble_eq_true rfl) rfl (ja_X13_leaveRange_ok zs _ _ _ _ _ _ t_l0 t_l1 h3) rfl ?_
  refine nk_p (i := .iconst 1) (len := 1) (pc' := 377) mJ_198 (by decide +kernel) (ns_iconst (c := 1) (by decide +kernel)) rfl ?_
  cases hr
  exact nk_iret (ty := .boolean) (len := 1) mJ_198 (by decide +kernel) rfl (nk_nar_z (by decide))
noncomputable def ja_X13_numbers_b312 (rec312 : Nat → Nat → Int → Int → Int → Int → Int → nk_S → Option (Int × nk_S)) (l0 : Nat) (l1 : Nat) (l3 : Int) (l5 : Int) (l7 : Int) (l9 : Int) (l11 : Int) (S : nk_S) : Option (Int × nk_S) :=
  if l11 < l5 then
    ja_X13_numbers_b328 rec312 l0 l1 l3 l5 l7 l9 l11 S
  else
    if l9 ≤ l11 then
      if l3 < 0 then
        ja_X13_numbers_b365 l0 l1 S
      else
        if l7 < 0 then
          ja_X13_numbers_b365 l0 l1 S
        else
          nk_bd (ja_X13_leaveRange l0 l1 0 l11 S) fun r1 S2 =>
          some (1, S2)
    else
      ja_X13_numbers_b328 rec312 l0 l1 l3 l5 l7 l9 l11 S
theorem ja_X13_numbers_b312_ok (zs : List Int32) {rec312 : Nat → Nat → Int → Int → Int → Int → Int → nk_S → Option (Int × nk_S)} (hrec312 : ∀ (l0 : Nat) (l1 : Nat) (l3 : Int) (l5 : Int) (l7 : Int) (l9 : Int) (l11 : Int) (S : nk_S) (R : Int × nk_S), nk_cl ja_Tt l0 = some 13 → nk_cl ja_Tt l1 = some 12 → rec312 l0 l1 l3 l5 l7 l9 l11 S = some R → nk_K ja_Tt mi_Γ (mi_ev zs) 1 198 312 [(0, nk_r l0), (1, nk_r l1), (3, nk_l l3), (5, nk_l l5), (7, nk_l l7), (9, nk_l l9), (11, nk_l l11)] [] S R) : ∀ (l0 : Nat) (l1 : Nat) (l3 : Int) (l5 : Int) (l7 : Int) (l9 : Int) (l11 : Int) (S : nk_S) (R : Int × nk_S), nk_cl ja_Tt l0 = some 13 → nk_cl ja_Tt l1 = some 12 → ja_X13_numbers_b312 rec312 l0 l1 l3 l5 l7 l9 l11 S = some R → nk_K ja_Tt mi_Γ (mi_ev zs) 1 198 312 [(0, nk_r l0), (1, nk_r l1), (3, nk_l l3), (5, nk_l l5), (7, nk_l l7), (9, nk_l l9), (11, nk_l l11)] [] S R := by
  intro l0 l1 l3 l5 l7 l9 l11 S R t_l0 t_l1 hr
  unfold ja_X13_numbers_b312 at hr
  refine nk_p (i := .lload 11) (len := 2) (pc' := 314) mJ_198 (by decide +kernel) (ns_lload 6 rfl) rfl ?_
  refine nk_p (i := .lload 5) (len := 2) (pc' := 316) mJ_198 (by decide +kernel) (ns_lload 3 rfl) rfl ?_
  refine nk_p (i := .lcmp) (len := 1) (pc' := 317) mJ_198 (by decide +kernel) ns_lcmp rfl ?_
  refine nk_lcond (c := .lt) (off := 11) (len := 3) (t := 328) (pc' := 320) mJ_198 (by decide +kernel) (by decide +kernel) rfl (fun hc => ?_) (fun hc => ?_)
  · have hr := nk_ifp (c := l11 < l5) hc hr
    exact ja_X13_numbers_b328_ok zs hrec312 _ _ _ _ _ _ _ _ _ t_l0 t_l1 hr
  · have hr := nk_ifn (c := l11 < l5) hc hr
    refine nk_p (i := .lload 11) (len := 2) (pc' := 322) mJ_198 (by decide +kernel) (ns_lload 6 rfl) rfl ?_
    refine nk_p (i := .lload 9) (len := 2) (pc' := 324) mJ_198 (by decide +kernel) (ns_lload 5 rfl) rfl ?_
    refine nk_p (i := .lcmp) (len := 1) (pc' := 325) mJ_198 (by decide +kernel) ns_lcmp rfl ?_
    refine nk_lcond (c := .ge) (off := 16) (len := 3) (t := 341) (pc' := 328) mJ_198 (by decide +kernel) (by decide +kernel) rfl (fun hc => ?_) (fun hc => ?_)
    · have hr := nk_ifp (c := l9 ≤ l11) hc hr
      refine nk_p (i := .lload_n 3) (len := 1) (pc' := 342) mJ_198 (by decide +kernel) (ns_lload_n 2 rfl rfl) rfl ?_
      refine nk_p (i := .lconst 0) (len := 1) (pc' := 343) mJ_198 (by decide +kernel) (ns_lconst (c := 0) (by decide +kernel)) rfl ?_
      refine nk_p (i := .lcmp) (len := 1) (pc' := 344) mJ_198 (by decide +kernel) ns_lcmp rfl ?_
      refine nk_lcond (c := .lt) (off := 21) (len := 3) (t := 365) (pc' := 347) mJ_198 (by decide +kernel) (by decide +kernel) rfl (fun hc => ?_) (fun hc => ?_)
      · have hr := nk_ifp (c := l3 < 0) hc hr
        refine nk_sub [0, 1] (L' := [(0, nk_r l0), (1, nk_r l1)]) rfl ?_
        exact ja_X13_numbers_b365_ok zs _ _ _ _ t_l0 t_l1 hr
      · have hr := nk_ifn (c := l3 < 0) hc hr
        refine nk_p (i := .lload 7) (len := 2) (pc' := 349) mJ_198 (by decide +kernel) (ns_lload 4 rfl) rfl ?_
        refine nk_p (i := .lconst 0) (len := 1) (pc' := 350) mJ_198 (by decide +kernel) (ns_lconst (c := 0) (by decide +kernel)) rfl ?_
        refine nk_p (i := .lcmp) (len := 1) (pc' := 351) mJ_198 (by decide +kernel) ns_lcmp rfl ?_
        refine nk_lcond (c := .lt) (off := 14) (len := 3) (t := 365) (pc' := 354) mJ_198 (by decide +kernel) (by decide +kernel) rfl (fun hc => ?_) (fun hc => ?_)
        · have hr := nk_ifp (c := l7 < 0) hc hr
          refine nk_sub [0, 1] (L' := [(0, nk_r l0), (1, nk_r l1)]) rfl ?_
          exact ja_X13_numbers_b365_ok zs _ _ _ _ t_l0 t_l1 hr
        · have hr := nk_ifn (c := l7 < 0) hc hr
          refine nk_p (i := .aload_n 0) (len := 1) (pc' := 355) mJ_198 (by decide +kernel) (ns_aload_n 0 rfl rfl) rfl ?_
          refine nk_p (i := .aload_n 1) (len := 1) (pc' := 356) mJ_198 (by decide +kernel) (ns_aload_n 1 rfl rfl) rfl ?_
          refine nk_p (i := .lconst 0) (len := 1) (pc' := 357) mJ_198 (by decide +kernel) (ns_lconst (c := 0) (by decide +kernel)) rfl ?_
          refine nk_p (i := .lload 11) (len := 2) (pc' := 359) mJ_198 (by decide +kernel) (ns_lload 6 rfl) rfl ?_
          obtain ⟨r1, S2, h3, hr⟩ := nk_bde hr
          refine nk_callV (ci := 13) (n := 3) (x := 684) (len := 3) (j' := 175) (q' := 0) (r := r1) (S' := S2) (L2 := [(0, nk_r l0), (1, nk_r l1), (2, nk_l 0), (4, nk_l l11)]) (rest := []) (st' := []) (pc' := 362) mJ_198 (by decide +kernel) (by decide +kernel) rfl rfl t_l0 (Nat.le_of_ble_eq_true rfl) mJ_175 (Nat.le_of_ble_eq_true rfl) rfl (ja_X13_leaveRange_ok zs _ _ _ _ _ _ t_l0 t_l1 h3) rfl ?_
          refine nk_p (i := .goto 14) (len := 3) (pc' := 376) mJ_198 (by decide +kernel) (ns_goto (by decide +kernel)) rfl ?_
          refine nk_p (i := .iconst 1) (len := 1) (pc' := 377) mJ_198 (by decide +kernel) (ns_iconst (c := 1) (by decide +kernel)) rfl ?_
          cases hr
          exact nk_iret (ty := .boolean) (len := 1) mJ_198 (by decide +kernel) rfl (nk_nar_z (by decide))
    · have hr := nk_ifn (c := l9 ≤ l11) hc hr
      exact ja_X13_numbers_b328_ok zs hrec312 _ _ _ _ _ _ _ _ _ t_l0 t_l1 hr
noncomputable def ja_X13_numbers_L312 : Nat → Nat → Nat → Int → Int → Int → Int → Int → nk_S → Option (Int × nk_S)
  | 0, _, _, _, _, _, _, _, _ => none
  | n + 1, l0, l1, l3, l5, l7, l9, l11, S => ja_X13_numbers_b312 (ja_X13_numbers_L312 n) l0 l1 l3 l5 l7 l9 l11 S
theorem ja_X13_numbers_L312_ok (zs : List Int32) : ∀ n : Nat, ∀ (l0 : Nat) (l1 : Nat) (l3 : Int) (l5 : Int) (l7 : Int) (l9 : Int) (l11 : Int) (S : nk_S) (R : Int × nk_S), nk_cl ja_Tt l0 = some 13 → nk_cl ja_Tt l1 = some 12 → ja_X13_numbers_L312 n l0 l1 l3 l5 l7 l9 l11 S = some R → nk_K ja_Tt mi_Γ (mi_ev zs) 1 198 312 [(0, nk_r l0), (1, nk_r l1), (3, nk_l l3), (5, nk_l l5), (7, nk_l l7), (9, nk_l l9), (11, nk_l l11)] [] S R := by
  intro n
  induction n with
  | zero => intro _ _ _ _ _ _ _ _ _ _ _ hr; cases hr
  | succ n ih => intro l0 l1 l3 l5 l7 l9 l11 S R t_l0 t_l1 hr; exact ja_X13_numbers_b312_ok zs ih l0 l1 l3 l5 l7 l9 l11 S R t_l0 t_l1 hr
noncomputable def ja_X13_numbers_b47 (l0 : Nat) (l1 : Nat) (l2 : Int) (S : nk_S) : Option (Int × nk_S) :=
  nk_lt (nk_wi S l0 25 (nk_w ((S.1 l0 25) - 2))) fun S1 =>
  if 0 ≤ (S1.1 l0 25) ∧ (S1.1 l0 25) < 24 then
  nk_lt (S1.1 (ja_c l0 27) (S1.1 l0 25).toNat) fun v5 =>
  nk_lt (S1.1 (ja_c l0 28) (S1.1 l0 25).toNat) fun v8 =>
  if 0 ≤ (nk_w ((S1.1 l0 25) + 1)) ∧ (nk_w ((S1.1 l0 25) + 1)) < 24 then
  nk_lt (S1.1 (ja_c l0 27) (nk_w ((S1.1 l0 25) + 1)).toNat) fun v11 =>
  nk_lt (S1.1 (ja_c l0 28) (nk_w ((S1.1 l0 25) + 1)).toNat) fun v13 =>
  if l2 = 8 then
    nk_bd (ja_X13_leaveRange l0 l1 (nk_W (v5 + v11)) (nk_W (v8 + v13)) S1) fun r15 S16 =>
    some (1, S16)
  else
  if l2 = 9 then
    nk_bd (ja_X13_leaveRange l0 l1 (nk_W (v5 - v13)) (nk_W (v8 - v11)) S1) fun r18 S19 =>
    some (1, S19)
  else
  if l2 = 10 then
    nk_bd (ja_X13_product l0 l1 v5 v8 v11 v13 S1) fun r21 S22 =>
    some (1, S22)
  else
  if l2 = 11 then
    nk_bd (ja_X13_quotient l0 l1 v5 v8 v11 v13 S1) fun r24 S25 =>
    if r24 = 0 ∨ r24 = 1 then
    some (r24, S25)
    else none
  else
  if l2 = 12 then
    nk_bd (ja_X13_rest l0 l1 v5 v8 v11 v13 S1) fun r28 S29 =>
    if r28 = 0 ∨ r28 = 1 then
    some (r28, S29)
    else none
  else
  if l2 = 13 then
    if v5 < 0 then
      ja_X13_numbers_b261 l0 l1 v5 v8 v11 v13 S1
    else
      if v11 < 0 then
        ja_X13_numbers_b261 l0 l1 v5 v8 v11 v13 S1
      else
        nk_bd (ja_J9_min_f86c9 v8 v13 S1) fun r32 S33 =>
        nk_bd (ja_X13_leaveRange l0 l1 0 r32 S33) fun r35 S36 =>
        some (1, S36)
  else
  if l2 = 14 then
    ja_X13_numbers_L312 nk_big l0 l1 v5 v8 v11 v13 0 S1
  else
  if l2 = 15 then
    ja_X13_numbers_L312 nk_big l0 l1 v5 v8 v11 v13 0 S1
  else
  if l2 = 16 then
    nk_lt (nk_lshl 1 (nk_w (nk_land v11 31))) fun v38 =>
    if v11 = v13 then
      nk_bd (ja_X13_product l0 l1 v5 v8 v38 v38 S1) fun r43 S44 =>
      some (1, S44)
    else
      nk_bd (ja_X13_leaveRange l0 l1 (-2147483648) 2147483647 S1) fun r40 S41 =>
      some (1, S41)
  else
  if v11 = v13 then
    nk_bd (ja_X13_leaveRange l0 l1 (nk_lshr v5 (nk_w (nk_land v11 31))) (nk_lshr v8 (nk_w (nk_land v11 31))) S1) fun r55 S56 =>
    some (1, S56)
  else
    nk_bd (ja_J9_min_f86c9 v5 0 S1) fun r46 S47 =>
    nk_bd (ja_J9_max_f86c9 v8 (-1) S47) fun r49 S50 =>
    nk_bd (ja_X13_leaveRange l0 l1 r46 r49 S50) fun r52 S53 =>
    some (1, S53)
  else none
  else none
theorem ja_X13_numbers_b47_ok (zs : List Int32) : ∀ (l0 : Nat) (l1 : Nat) (l2 : Int) (S : nk_S) (R : Int × nk_S), nk_cl ja_Tt l0 = some 13 → nk_cl ja_Tt l1 = some 12 → ja_X13_numbers_b47 l0 l1 l2 S = some R → nk_K ja_Tt mi_Γ (mi_ev zs) 1 198 47 [(0, nk_r l0), (1, nk_r l1), (2, nk_i l2)] [] S R := by
  intro l0 l1 l2 S R t_l0 t_l1 hr
  unfold ja_X13_numbers_b47 at hr
  refine nk_p (i := .aload_n 0) (len := 1) (pc' := 48) mJ_198 (by decide +kernel) (ns_aload_n 0 rfl rfl) rfl ?_
  refine nk_p (i := .dup) (len := 1) (pc' := 49) mJ_198 (by decide +kernel) (ns_dup rfl) rfl ?_
  refine nk_getI (y := (0, 0)) (x := 495) (len := 3) (ci := 13) (k := 25) (pc' := 52) ja_okT mJ_198 (by decide +kernel) (by decide +kernel) (by decide +kernel) t_l0 rfl ?_
  refine nk_p (i := .iconst 2) (len := 1) (pc' := 53) mJ_198 (by decide +kernel) (ns_iconst (c := 2) (by decide +kernel)) rfl ?_
  refine nk_p (i := .isub) (len := 1) (pc' := 54) mJ_198 (by decide +kernel) ns_isub rfl ?_
  obtain ⟨S1, h2, hr⟩ := nk_lte hr
  refine nk_putI (y := (0, 0)) (ty := .int) (x := 495) (len := 3) (ci := 13) (k := 25) (pc' := 57) ja_okT mJ_198 (by decide +kernel) (by decide +kernel) (by decide +kernel) t_l0 (Or.inl rfl) rfl h2 ?_
  refine nk_p (i := .aload_n 0) (len := 1) (pc' := 58) mJ_198 (by decide +kernel) (ns_aload_n 0 rfl rfl) rfl ?_
  refine nk_getC (f := (4, 1, 24)) (x := 74) (len := 3) (ci := 13) (k := 27) (pc' := 61) ja_okT mJ_198 (by decide +kernel) (by decide +kernel) (by decide +kernel) (by decide) t_l0 rfl ?_
  have t3 : nk_ar ja_Tt (ja_c l0 27) = some (1, 24) := nk_ta ja_okT t_l0 (by decide +kernel)
  refine nk_p (i := .aload_n 0) (len := 1) (pc' := 62) mJ_198 (by decide +kernel) (ns_aload_n 0 rfl rfl) rfl ?_
  refine nk_getI (y := (0, 0)) (x := 495) (len := 3) (ci := 13) (k := 25) (pc' := 65) ja_okT mJ_198 (by decide +kernel) (by decide +kernel) (by decide +kernel) t_l0 rfl ?_
  obtain ⟨h4, hr⟩ := nk_cke hr
  refine nk_iald (len := 1) (N := 24) (pc' := 66) mJ_198 (by decide +kernel) t3 h4.1 h4.2 rfl rfl ?_
  refine nk_p (i := .i2l) (len := 1) (pc' := 67) mJ_198 (by decide +kernel) ns_i2l rfl ?_
  obtain ⟨v5, h6, hr⟩ := nk_lte hr
  refine nk_p (i := .lstore_n 3) (len := 1) (pc' := 68) mJ_198 (by decide +kernel) (ns_lstore_n (L' := [(3, nk_l v5), (0, nk_r l0), (1, nk_r l1), (2, nk_i l2)]) h6 rfl rfl (by decide +kernel)) rfl ?_
  refine nk_p (i := .aload_n 0) (len := 1) (pc' := 69) mJ_198 (by decide +kernel) (ns_aload_n 1 rfl rfl) rfl ?_
  refine nk_getC (f := (4, 1, 24)) (x := 77) (len := 3) (ci := 13) (k := 28) (pc' := 72) ja_okT mJ_198 (by decide +kernel) (by decide +kernel) (by decide +kernel) (by decide) t_l0 rfl ?_
  have t7 : nk_ar ja_Tt (ja_c l0 28) = some (1, 24) := nk_ta ja_okT t_l0 (by decide +kernel)
  refine nk_p (i := .aload_n 0) (len := 1) (pc' := 73) mJ_198 (by decide +kernel) (ns_aload_n 1 rfl rfl) rfl ?_
  refine nk_getI (y := (0, 0)) (x := 495) (len := 3) (ci := 13) (k := 25) (pc' := 76) ja_okT mJ_198 (by decide +kernel) (by decide +kernel) (by decide +kernel) t_l0 rfl ?_
  refine nk_iald (len := 1) (N := 24) (pc' := 77) mJ_198 (by decide +kernel) t7 h4.1 h4.2 rfl rfl ?_
  refine nk_p (i := .i2l) (len := 1) (pc' := 78) mJ_198 (by decide +kernel) ns_i2l rfl ?_
  obtain ⟨v8, h9, hr⟩ := nk_lte hr
  refine nk_p (i := .lstore 5) (len := 2) (pc' := 80) mJ_198 (by decide +kernel) (ns_lstore (L' := [(5, nk_l v8), (3, nk_l v5), (0, nk_r l0), (1, nk_r l1), (2, nk_i l2)]) h9 rfl (by decide +kernel)) rfl ?_
  refine nk_p (i := .aload_n 0) (len := 1) (pc' := 81) mJ_198 (by decide +kernel) (ns_aload_n 2 rfl rfl) rfl ?_
  refine nk_getC (f := (4, 1, 24)) (x := 74) (len := 3) (ci := 13) (k := 27) (pc' := 84) ja_okT mJ_198 (by decide +kernel) (by decide +kernel) (by decide +kernel) (by decide) t_l0 rfl ?_
  refine nk_p (i := .aload_n 0) (len := 1) (pc' := 85) mJ_198 (by decide +kernel) (ns_aload_n 2 rfl rfl) rfl ?_
  refine nk_getI (y := (0, 0)) (x := 495) (len := 3) (ci := 13) (k := 25) (pc' := 88) ja_okT mJ_198 (by decide +kernel) (by decide +kernel) (by decide +kernel) t_l0 rfl ?_
  refine nk_p (i := .iconst 1) (len := 1) (pc' := 89) mJ_198 (by decide +kernel) (ns_iconst (c := 1) (by decide +kernel)) rfl ?_
  refine nk_p (i := .iadd) (len := 1) (pc' := 90) mJ_198 (by decide +kernel) ns_iadd rfl ?_
  obtain ⟨h10, hr⟩ := nk_cke hr
  refine nk_iald (len := 1) (N := 24) (pc' := 91) mJ_198 (by decide +kernel) t3 h10.1 h10.2 rfl rfl ?_
  refine nk_p (i := .i2l) (len := 1) (pc' := 92) mJ_198 (by decide +kernel) ns_i2l rfl ?_
  obtain ⟨v11, h12, hr⟩ := nk_lte hr
  refine nk_p (i := .lstore 7) (len := 2) (pc' := 94) mJ_198 (by decide +kernel) (ns_lstore (L' := [(7, nk_l v11), (5, nk_l v8), (3, nk_l v5), (0, nk_r l0), (1, nk_r l1), (2, nk_i l2)]) h12 rfl (by decide +kernel)) rfl ?_
  refine nk_p (i := .aload_n 0) (len := 1) (pc' := 95) mJ_198 (by decide +kernel) (ns_aload_n 3 rfl rfl) rfl ?_
  refine nk_getC (f := (4, 1, 24)) (x := 77) (len := 3) (ci := 13) (k := 28) (pc' := 98) ja_okT mJ_198 (by decide +kernel) (by decide +kernel) (by decide +kernel) (by decide) t_l0 rfl ?_
  refine nk_p (i := .aload_n 0) (len := 1) (pc' := 99) mJ_198 (by decide +kernel) (ns_aload_n 3 rfl rfl) rfl ?_
  refine nk_getI (y := (0, 0)) (x := 495) (len := 3) (ci := 13) (k := 25) (pc' := 102) ja_okT mJ_198 (by decide +kernel) (by decide +kernel) (by decide +kernel) t_l0 rfl ?_
  refine nk_p (i := .iconst 1) (len := 1) (pc' := 103) mJ_198 (by decide +kernel) (ns_iconst (c := 1) (by decide +kernel)) rfl ?_
  refine nk_p (i := .iadd) (len := 1) (pc' := 104) mJ_198 (by decide +kernel) ns_iadd rfl ?_
  refine nk_iald (len := 1) (N := 24) (pc' := 105) mJ_198 (by decide +kernel) t7 h10.1 h10.2 rfl rfl ?_
  refine nk_p (i := .i2l) (len := 1) (pc' := 106) mJ_198 (by decide +kernel) ns_i2l rfl ?_
  obtain ⟨v13, h14, hr⟩ := nk_lte hr
  refine nk_p (i := .lstore 9) (len := 2) (pc' := 108) mJ_198 (by decide +kernel) (ns_lstore (L' := [(9, nk_l v13), (7, nk_l v11), (5, nk_l v8), (3, nk_l v5), (0, nk_r l0), (1, nk_r l1), (2, nk_i l2)]) h14 rfl (by decide +kernel)) rfl ?_
  refine nk_p (i := .iload_n 2) (len := 1) (pc' := 109) mJ_198 (by decide +kernel) (ns_iload_n 6 rfl rfl) rfl ?_
  by_cases hc0 : l2 = 8
  · have hr := nk_ifp hc0 hr
    refine nk_p (i := .tableswitch 316 8 16 #[51, 67, 83, 97, 110, 123, 200, 200, 269]) (len := 51) (pc' := 160) mJ_198 (by decide +kernel) (ns_tsw (V := 8) hc0 (by decide +kernel)) rfl ?_
    refine nk_p (i := .aload_n 0) (len := 1) (pc' := 161) mJ_198 (by decide +kernel) (ns_aload_n 4 rfl rfl) rfl ?_
    refine nk_p (i := .aload_n 1) (len := 1) (pc' := 162) mJ_198 (by decide +kernel) (ns_aload_n 5 rfl rfl) rfl ?_
    refine nk_p (i := .lload_n 3) (len := 1) (pc' := 163) mJ_198 (by decide +kernel) (ns_lload_n 3 rfl rfl) rfl ?_
    refine nk_p (i := .lload 7) (len := 2) (pc' := 165) mJ_198 (by decide +kernel) (ns_lload 1 rfl) rfl ?_
    refine nk_p (i := .ladd) (len := 1) (pc' := 166) mJ_198 (by decide +kernel) ns_ladd rfl ?_
    refine nk_p (i := .lload 5) (len := 2) (pc' := 168) mJ_198 (by decide +kernel) (ns_lload 2 rfl) rfl ?_
    refine nk_p (i := .lload 9) (len := 2) (pc' := 170) mJ_198 (by decide +kernel) (ns_lload 0 rfl) rfl ?_
    refine nk_p (i := .ladd) (len := 1) (pc' := 171) mJ_198 (by decide +kernel) ns_ladd rfl ?_
    obtain ⟨r15, S16, h17, hr⟩ := nk_bde hr
    refine nk_callV (ci := 13) (n := 3) (x := 684) (len := 3) (j' := 175) (q' := 0) (r := r15) (S' := S16) (L2 := [(0, nk_r l0), (1, nk_r l1), (2, nk_l (nk_W (v5 + v11))), (4, nk_l (nk_W (v8 + v13)))]) (rest := []) (st' := []) (pc' := 174) mJ_198 (by decide +kernel) (by decide +kernel) rfl rfl t_l0 (Nat.le_of_ble_eq_true rfl) mJ_175 (Nat.le_of_ble_eq_true rfl) rfl (ja_X13_leaveRange_ok zs _ _ _ _ _ _ t_l0 t_l1 h17) rfl ?_
    refine nk_p (i := .iconst 1) (len := 1) (pc' := 175) mJ_198 (by decide +kernel) (ns_iconst (c := 1) (by decide +kernel)) rfl ?_
    cases hr
    exact nk_iret (ty := .boolean) (len := 1) mJ_198 (by decide +kernel) rfl (nk_nar_z (by decide))
  have hr := nk_ifn hc0 hr
  by_cases hc1 : l2 = 9
  · have hr := nk_ifp hc1 hr
    refine nk_p (i := .tableswitch 316 8 16 #[51, 67, 83, 97, 110, 123, 200, 200, 269]) (len := 51) (pc' := 176) mJ_198 (by decide +kernel) (ns_tsw (V := 9) hc1 (by decide +kernel)) rfl ?_
    refine nk_p (i := .aload_n 0) (len := 1) (pc' := 177) mJ_198 (by decide +kernel) (ns_aload_n 4 rfl rfl) rfl ?_
    refine nk_p (i := .aload_n 1) (len := 1) (pc' := 178) mJ_198 (by decide +kernel) (ns_aload_n 5 rfl rfl) rfl ?_
    refine nk_p (i := .lload_n 3) (len := 1) (pc' := 179) mJ_198 (by decide +kernel) (ns_lload_n 3 rfl rfl) rfl ?_
    refine nk_p (i := .lload 9) (len := 2) (pc' := 181) mJ_198 (by decide +kernel) (ns_lload 0 rfl) rfl ?_
    refine nk_p (i := .lsub) (len := 1) (pc' := 182) mJ_198 (by decide +kernel) ns_lsub rfl ?_
    refine nk_p (i := .lload 5) (len := 2) (pc' := 184) mJ_198 (by decide +kernel) (ns_lload 2 rfl) rfl ?_
    refine nk_p (i := .lload 7) (len := 2) (pc' := 186) mJ_198 (by decide +kernel) (ns_lload 1 rfl) rfl ?_
    refine nk_p (i := .lsub) (len := 1) (pc' := 187) mJ_198 (by decide +kernel) ns_lsub rfl ?_
    obtain ⟨r18, S19, h20, hr⟩ := nk_bde hr
    refine nk_callV (ci := 13) (n := 3) (x := 684) (len := 3) (j' := 175) (q' := 0) (r := r18) (S' := S19) (L2 := [(0, nk_r l0), (1, nk_r l1), (2, nk_l (nk_W (v5 - v13))), (4, nk_l (nk_W (v8 - v11)))]) (rest := []) (st' := []) (pc' := 190) mJ_198 (by decide +kernel) (by decide +kernel) rfl rfl t_l0 (Nat.le_of_ble_eq_true rfl) mJ_175 (Nat.le_of_ble_eq_true rfl) rfl (ja_X13_leaveRange_ok zs _ _ _ _ _ _ t_l0 t_l1 h20) rfl ?_
    refine nk_p (i := .iconst 1) (len := 1) (pc' := 191) mJ_198 (by decide +kernel) (ns_iconst (c := 1) (by decide +kernel)) rfl ?_
    cases hr
    exact nk_iret (ty := .boolean) (len := 1) mJ_198 (by decide +kernel) rfl (nk_nar_z (by decide))
  have hr := nk_ifn hc1 hr
  by_cases hc2 : l2 = 10
  · have hr := nk_ifp hc2 hr
    refine nk_p (i := .tableswitch 316 8 16 #[51, 67, 83, 97, 110, 123, 200, 200, 269]) (len := 51) (pc' := 192) mJ_198 (by decide +kernel) (ns_tsw (V := 10) hc2 (by decide +kernel)) rfl ?_
    refine nk_p (i := .aload_n 0) (len := 1) (pc' := 193) mJ_198 (by decide +kernel) (ns_aload_n 4 rfl rfl) rfl ?_
    refine nk_p (i := .aload_n 1) (len := 1) (pc' := 194) mJ_198 (by decide +kernel) (ns_aload_n 5 rfl rfl) rfl ?_
    refine nk_p (i := .lload_n 3) (len := 1) (pc' := 195) mJ_198 (by decide +kernel) (ns_lload_n 3 rfl rfl) rfl ?_
    refine nk_p (i := .lload 5) (len := 2) (pc' := 197) mJ_198 (by decide +kernel) (ns_lload 2 rfl) rfl ?_
    refine nk_p (i := .lload 7) (len := 2) (pc' := 199) mJ_198 (by decide +kernel) (ns_lload 1 rfl) rfl ?_
    refine nk_p (i := .lload 9) (len := 2) (pc' := 201) mJ_198 (by decide +kernel) (ns_lload 0 rfl) rfl ?_
    obtain ⟨r21, S22, h23, hr⟩ := nk_bde hr
    refine nk_callV (ci := 13) (n := 5) (x := 729) (len := 3) (j' := 209) (q' := 0) (r := r21) (S' := S22) (L2 := [(0, nk_r l0), (1, nk_r l1), (2, nk_l v5), (4, nk_l v8), (6, nk_l v11), (8, nk_l v13)]) (rest := []) (st' := []) (pc' := 204) mJ_198 (by decide +kernel) (by decide +kernel) rfl rfl t_l0 (Nat.le_of_ble_eq_true rfl) mJ_209 (Nat.le_of_ble_eq_true rfl) rfl (ja_X13_product_ok zs _ _ _ _ _ _ _ _ t_l0 t_l1 h23) rfl ?_
    refine nk_p (i := .iconst 1) (len := 1) (pc' := 205) mJ_198 (by decide +kernel) (ns_iconst (c := 1) (by decide +kernel)) rfl ?_
    cases hr
    exact nk_iret (ty := .boolean) (len := 1) mJ_198 (by decide +kernel) rfl (nk_nar_z (by decide))
  have hr := nk_ifn hc2 hr
  by_cases hc3 : l2 = 11
  · have hr := nk_ifp hc3 hr
    refine nk_p (i := .tableswitch 316 8 16 #[51, 67, 83, 97, 110, 123, 200, 200, 269]) (len := 51) (pc' := 206) mJ_198 (by decide +kernel) (ns_tsw (V := 11) hc3 (by decide +kernel)) rfl ?_
    refine nk_p (i := .aload_n 0) (len := 1) (pc' := 207) mJ_198 (by decide +kernel) (ns_aload_n 4 rfl rfl) rfl ?_
    refine nk_p (i := .aload_n 1) (len := 1) (pc' := 208) mJ_198 (by decide +kernel) (ns_aload_n 5 rfl rfl) rfl ?_
    refine nk_p (i := .lload_n 3) (len := 1) (pc' := 209) mJ_198 (by decide +kernel) (ns_lload_n 3 rfl rfl) rfl ?_
    refine nk_p (i := .lload 5) (len := 2) (pc' := 211) mJ_198 (by decide +kernel) (ns_lload 2 rfl) rfl ?_
    refine nk_p (i := .lload 7) (len := 2) (pc' := 213) mJ_198 (by decide +kernel) (ns_lload 1 rfl) rfl ?_
    refine nk_p (i := .lload 9) (len := 2) (pc' := 215) mJ_198 (by decide +kernel) (ns_lload 0 rfl) rfl ?_
    obtain ⟨r24, S25, h26, hr⟩ := nk_bde hr
    refine nk_callV (ci := 13) (n := 5) (x := 733) (len := 3) (j' := 213) (q' := 1) (r := r24) (S' := S25) (L2 := [(0, nk_r l0), (1, nk_r l1), (2, nk_l v5), (4, nk_l v8), (6, nk_l v11), (8, nk_l v13)]) (rest := []) (st' := [nk_i r24]) (pc' := 218) mJ_198 (by decide +kernel) (by decide +kernel) rfl rfl t_l0 (Nat.le_of_ble_eq_true rfl) mJ_213 (Nat.le_of_ble_eq_true rfl) rfl (ja_X13_quotient_ok zs _ _ _ _ _ _ _ _ t_l0 t_l1 h26) rfl ?_
    obtain ⟨h27, hr⟩ := nk_cke hr
    cases hr
    exact nk_iret (ty := .boolean) (len := 1) mJ_198 (by decide +kernel) rfl (nk_nar_z h27)
  have hr := nk_ifn hc3 hr
  by_cases hc4 : l2 = 12
  · have hr := nk_ifp hc4 hr
    refine nk_p (i := .tableswitch 316 8 16 #[51, 67, 83, 97, 110, 123, 200, 200, 269]) (len := 51) (pc' := 219) mJ_198 (by decide +kernel) (ns_tsw (V := 12) hc4 (by decide +kernel)) rfl ?_
    refine nk_p (i := .aload_n 0) (len := 1) (pc' := 220) mJ_198 (by decide +kernel) (ns_aload_n 4 rfl rfl) rfl ?_
    refine nk_p (i := .aload_n 1) (len := 1) (pc' := 221) mJ_198 (by decide +kernel) (ns_aload_n 5 rfl rfl) rfl ?_
    refine nk_p (i := .lload_n 3) (len := 1) (pc' := 222) mJ_198 (by decide +kernel) (ns_lload_n 3 rfl rfl) rfl ?_
    refine nk_p (i := .lload 5) (len := 2) (pc' := 224) mJ_198 (by decide +kernel) (ns_lload 2 rfl) rfl ?_
    refine nk_p (i := .lload 7) (len := 2) (pc' := 226) mJ_198 (by decide +kernel) (ns_lload 1 rfl) rfl ?_
    refine nk_p (i := .lload 9) (len := 2) (pc' := 228) mJ_198 (by decide +kernel) (ns_lload 0 rfl) rfl ?_
    obtain ⟨r28, S29, h30, hr⟩ := nk_bde hr
    refine nk_callV (ci := 13) (n := 5) (x := 737) (len := 3) (j' := 220) (q' := 1) (r := r28) (S' := S29) (L2 := [(0, nk_r l0), (1, nk_r l1), (2, nk_l v5), (4, nk_l v8), (6, nk_l v11), (8, nk_l v13)]) (rest := []) (st' := [nk_i r28]) (pc' := 231) mJ_198 (by decide +kernel) (by decide +kernel) rfl rfl t_l0 (Nat.le_of_ble_eq_true rfl) mJ_220 (Nat.le_of_ble_eq_true rfl) rfl (ja_X13_rest_ok zs _ _ _ _ _ _ _ _ t_l0 t_l1 h30) rfl ?_
    obtain ⟨h31, hr⟩ := nk_cke hr
    cases hr
    exact nk_iret (ty := .boolean) (len := 1) mJ_198 (by decide +kernel) rfl (nk_nar_z h31)
  have hr := nk_ifn hc4 hr
  by_cases hc5 : l2 = 13
  · have hr := nk_ifp hc5 hr
    refine nk_p (i := .tableswitch 316 8 16 #[51, 67, 83, 97, 110, 123, 200, 200, 269]) (len := 51) (pc' := 232) mJ_198 (by decide +kernel) (ns_tsw (V := 13) hc5 (by decide +kernel)) rfl ?_
    refine nk_p (i := .lload_n 3) (len := 1) (pc' := 233) mJ_198 (by decide +kernel) (ns_lload_n 3 rfl rfl) rfl ?_
    refine nk_p (i := .lconst 0) (len := 1) (pc' := 234) mJ_198 (by decide +kernel) (ns_lconst (c := 0) (by decide +kernel)) rfl ?_
    refine nk_p (i := .lcmp) (len := 1) (pc' := 235) mJ_198 (by decide +kernel) ns_lcmp rfl ?_
    refine nk_lcond (c := .lt) (off := 26) (len := 3) (t := 261) (pc' := 238) mJ_198 (by decide +kernel) (by decide +kernel) rfl (fun hc => ?_) (fun hc => ?_)
    · have hr := nk_ifp (c := v5 < 0) hc hr
      refine nk_sub [4, 5, 3, 2, 1, 0] (L' := [(0, nk_r l0), (1, nk_r l1), (3, nk_l v5), (5, nk_l v8), (7, nk_l v11), (9, nk_l v13)]) rfl ?_
      exact ja_X13_numbers_b261_ok zs _ _ _ _ _ _ _ _ t_l0 t_l1 hr
    · have hr := nk_ifn (c := v5 < 0) hc hr
      refine nk_p (i := .lload 7) (len := 2) (pc' := 240) mJ_198 (by decide +kernel) (ns_lload 1 rfl) rfl ?_
      refine nk_p (i := .lconst 0) (len := 1) (pc' := 241) mJ_198 (by decide +kernel) (ns_lconst (c := 0) (by decide +kernel)) rfl ?_
      refine nk_p (i := .lcmp) (len := 1) (pc' := 242) mJ_198 (by decide +kernel) ns_lcmp rfl ?_
      refine nk_lcond (c := .lt) (off := 19) (len := 3) (t := 261) (pc' := 245) mJ_198 (by decide +kernel) (by decide +kernel) rfl (fun hc => ?_) (fun hc => ?_)
      · have hr := nk_ifp (c := v11 < 0) hc hr
        refine nk_sub [4, 5, 3, 2, 1, 0] (L' := [(0, nk_r l0), (1, nk_r l1), (3, nk_l v5), (5, nk_l v8), (7, nk_l v11), (9, nk_l v13)]) rfl ?_
        exact ja_X13_numbers_b261_ok zs _ _ _ _ _ _ _ _ t_l0 t_l1 hr
      · have hr := nk_ifn (c := v11 < 0) hc hr
        refine nk_p (i := .aload_n 0) (len := 1) (pc' := 246) mJ_198 (by decide +kernel) (ns_aload_n 4 rfl rfl) rfl ?_
        refine nk_p (i := .aload_n 1) (len := 1) (pc' := 247) mJ_198 (by decide +kernel) (ns_aload_n 5 rfl rfl) rfl ?_
        refine nk_p (i := .lconst 0) (len := 1) (pc' := 248) mJ_198 (by decide +kernel) (ns_lconst (c := 0) (by decide +kernel)) rfl ?_
        refine nk_p (i := .lload 5) (len := 2) (pc' := 250) mJ_198 (by decide +kernel) (ns_lload 2 rfl) rfl ?_
        refine nk_p (i := .lload 9) (len := 2) (pc' := 252) mJ_198 (by decide +kernel) (ns_lload 0 rfl) rfl ?_
        obtain ⟨r32, S33, h34, hr⟩ := nk_bde hr
        refine nk_callS (ci := 0) (n := 2) (x := 676) (len := 3) (j' := 19) (q' := 2) (r := r32) (S' := S33) (L2 := [(0, nk_l v8), (2, nk_l v13)]) (rest := [nk_l 0, nk_r l1, nk_r l0]) (st' := [nk_l r32, nk_l 0, nk_r l1, nk_r l0]) (pc' := 255) mJ_198 (by decide +kernel) (by decide +kernel) (Nat.le_of_ble_eq_true rfl) rfl rfl (Nat.le_of_ble_eq_true rfl) mJ_19 (Nat.le_of_ble_eq_true rfl) ja_Tpos rfl (ja_J9_min_f86c9_ok zs _ _ _ _ h34) rfl ?_
        obtain ⟨r35, S36, h37, hr⟩ := nk_bde hr
        refine nk_callV (ci := 13) (n := 3) (x := 684) (len := 3) (j' := 175) (q' := 0) (r := r35) (S' := S36) (L2 := [(0, nk_r l0), (1, nk_r l1), (2, nk_l 0), (4, nk_l r32)]) (rest := []) (st' := []) (pc' := 258) mJ_198 (by decide +kernel) (by decide +kernel) rfl rfl t_l0 (Nat.le_of_ble_eq_true rfl) mJ_175 (Nat.le_of_ble_eq_true rfl) rfl (ja_X13_leaveRange_ok zs _ _ _ _ _ _ t_l0 t_l1 h37) rfl ?_
        refine nk_p (i := .goto 49) (len := 3) (pc' := 307) mJ_198 (by decide +kernel) (ns_goto (by decide +kernel)) rfl ?_
        refine nk_p (i := .iconst 1) (len := 1) (pc' := 308) mJ_198 (by decide +kernel) (ns_iconst (c := 1) (by decide +kernel)) rfl ?_
        cases hr
        exact nk_iret (ty := .boolean) (len := 1) mJ_198 (by decide +kernel) rfl (nk_nar_z (by decide))
  have hr := nk_ifn hc5 hr
  by_cases hc6 : l2 = 14
  · have hr := nk_ifp hc6 hr
    refine nk_p (i := .tableswitch 316 8 16 #[51, 67, 83, 97, 110, 123, 200, 200, 269]) (len := 51) (pc' := 309) mJ_198 (by decide +kernel) (ns_tsw (V := 14) hc6 (by decide +kernel)) rfl ?_
    refine nk_p (i := .lconst 0) (len := 1) (pc' := 310) mJ_198 (by decide +kernel) (ns_lconst (c := 0) (by decide +kernel)) rfl ?_
    refine nk_p (i := .lstore 11) (len := 2) (pc' := 312) mJ_198 (by decide +kernel) (ns_lstore (L' := [(11, nk_l 0), (9, nk_l v13), (7, nk_l v11), (5, nk_l v8), (3, nk_l v5), (0, nk_r l0), (1, nk_r l1), (2, nk_i l2)]) rfl rfl (by decide +kernel)) rfl ?_
    refine nk_sub [5, 6, 4, 3, 2, 1, 0] (L' := [(0, nk_r l0), (1, nk_r l1), (3, nk_l v5), (5, nk_l v8), (7, nk_l v11), (9, nk_l v13), (11, nk_l 0)]) rfl ?_
    exact ja_X13_numbers_L312_ok zs nk_big _ _ _ _ _ _ _ _ _ t_l0 t_l1 hr
  have hr := nk_ifn hc6 hr
  by_cases hc7 : l2 = 15
  · have hr := nk_ifp hc7 hr
    refine nk_p (i := .tableswitch 316 8 16 #[51, 67, 83, 97, 110, 123, 200, 200, 269]) (len := 51) (pc' := 309) mJ_198 (by decide +kernel) (ns_tsw (V := 15) hc7 (by decide +kernel)) rfl ?_
    refine nk_p (i := .lconst 0) (len := 1) (pc' := 310) mJ_198 (by decide +kernel) (ns_lconst (c := 0) (by decide +kernel)) rfl ?_
    refine nk_p (i := .lstore 11) (len := 2) (pc' := 312) mJ_198 (by decide +kernel) (ns_lstore (L' := [(11, nk_l 0), (9, nk_l v13), (7, nk_l v11), (5, nk_l v8), (3, nk_l v5), (0, nk_r l0), (1, nk_r l1), (2, nk_i l2)]) rfl rfl (by decide +kernel)) rfl ?_
    refine nk_sub [5, 6, 4, 3, 2, 1, 0] (L' := [(0, nk_r l0), (1, nk_r l1), (3, nk_l v5), (5, nk_l v8), (7, nk_l v11), (9, nk_l v13), (11, nk_l 0)]) rfl ?_
    exact ja_X13_numbers_L312_ok zs nk_big _ _ _ _ _ _ _ _ _ t_l0 t_l1 hr
  have hr := nk_ifn hc7 hr
  by_cases hc8 : l2 = 16
  · have hr := nk_ifp hc8 hr
    refine nk_p (i := .tableswitch 316 8 16 #[51, 67, 83, 97, 110, 123, 200, 200, 269]) (len := 51) (pc' := 378) mJ_198 (by decide +kernel) (ns_tsw (V := 16) hc8 (by decide +kernel)) rfl ?_
    refine nk_p (i := .lconst 1) (len := 1) (pc' := 379) mJ_198 (by decide +kernel) (ns_lconst (c := 1) (by decide +kernel)) rfl ?_
    refine nk_p (i := .lload 7) (len := 2) (pc' := 381) mJ_198 (by decide +kernel) (ns_lload 1 rfl) rfl ?_
    refine nk_ldc2 (x := 742) (len := 3) (X := 31) (v := 31) (pc' := 384) mJ_198 (by decide +kernel) (by decide +kernel) (by decide +kernel) rfl ?_
    refine nk_p (i := .land) (len := 1) (pc' := 385) mJ_198 (by decide +kernel) ns_land rfl ?_
    refine nk_p (i := .l2i) (len := 1) (pc' := 386) mJ_198 (by decide +kernel) ns_l2i rfl ?_
    refine nk_p (i := .lshl) (len := 1) (pc' := 387) mJ_198 (by decide +kernel) ns_lshl rfl ?_
    obtain ⟨v38, h39, hr⟩ := nk_lte hr
    refine nk_p (i := .lstore 13) (len := 2) (pc' := 389) mJ_198 (by decide +kernel) (ns_lstore (L' := [(13, nk_l v38), (9, nk_l v13), (7, nk_l v11), (5, nk_l v8), (3, nk_l v5), (0, nk_r l0), (1, nk_r l1), (2, nk_i l2)]) h39 rfl (by decide +kernel)) rfl ?_
    refine nk_p (i := .lload 7) (len := 2) (pc' := 391) mJ_198 (by decide +kernel) (ns_lload 2 rfl) rfl ?_
    refine nk_p (i := .lload 9) (len := 2) (pc' := 393) mJ_198 (by decide +kernel) (ns_lload 1 rfl) rfl ?_
    refine nk_p (i := .lcmp) (len := 1) (pc' := 394) mJ_198 (by decide +kernel) ns_lcmp rfl ?_
    refine nk_lcond (c := .ne) (off := 18) (len := 3) (t := 412) (pc' := 397) mJ_198 (by decide +kernel) (by decide +kernel) rfl (fun hc => ?_) (fun hc => ?_)
    · have hr := nk_ifn (c := v11 = v13) hc hr
      refine nk_p (i := .aload_n 0) (len := 1) (pc' := 413) mJ_198 (by decide +kernel) (ns_aload_n 5 rfl rfl) rfl ?_
      refine nk_p (i := .aload_n 1) (len := 1) (pc' := 414) mJ_198 (by decide +kernel) (ns_aload_n 6 rfl rfl) rfl ?_
      refine nk_ldc2 (x := 186) (len := 3) (X := (-2147483648)) (v := (-2147483648)) (pc' := 417) mJ_198 (by decide +kernel) (by decide +kernel) (by decide +kernel) rfl ?_
      refine nk_ldc2 (x := 188) (len := 3) (X := 2147483647) (v := 2147483647) (pc' := 420) mJ_198 (by decide +kernel) (by decide +kernel) (by decide +kernel) rfl ?_
      obtain ⟨r40, S41, h42, hr⟩ := nk_bde hr
      refine nk_callV (ci := 13) (n := 3) (x := 684) (len := 3) (j' := 175) (q' := 0) (r := r40) (S' := S41) (L2 := [(0, nk_r l0), (1, nk_r l1), (2, nk_l (-2147483648)), (4, nk_l 2147483647)]) (rest := []) (st' := []) (pc' := 423) mJ_198 (by decide +kernel) (by decide +kernel) rfl rfl t_l0 (Nat.le_of_ble_eq_true rfl) mJ_175 (Nat.le_of_ble_eq_true rfl) rfl (ja_X13_leaveRange_ok zs _ _ _ _ _ _ t_l0 t_l1 h42) rfl ?_
      refine nk_p (i := .iconst 1) (len := 1) (pc' := 424) mJ_198 (by decide +kernel) (ns_iconst (c := 1) (by decide +kernel)) rfl ?_
      cases hr
      exact nk_iret (ty := .boolean) (len := 1) mJ_198 (by decide +kernel) rfl (nk_nar_z (by decide))
    · have hr := nk_ifp (c := v11 = v13) (Decidable.of_not_not hc) hr
      refine nk_p (i := .aload_n 0) (len := 1) (pc' := 398) mJ_198 (by decide +kernel) (ns_aload_n 5 rfl rfl) rfl ?_
      refine nk_p (i := .aload_n 1) (len := 1) (pc' := 399) mJ_198 (by decide +kernel) (ns_aload_n 6 rfl rfl) rfl ?_
      refine nk_p (i := .lload_n 3) (len := 1) (pc' := 400) mJ_198 (by decide +kernel) (ns_lload_n 4 rfl rfl) rfl ?_
      refine nk_p (i := .lload 5) (len := 2) (pc' := 402) mJ_198 (by decide +kernel) (ns_lload 3 rfl) rfl ?_
      refine nk_p (i := .lload 13) (len := 2) (pc' := 404) mJ_198 (by decide +kernel) (ns_lload 0 rfl) rfl ?_
      refine nk_p (i := .lload 13) (len := 2) (pc' := 406) mJ_198 (by decide +kernel) (ns_lload 0 rfl) rfl ?_
      obtain ⟨r43, S44, h45, hr⟩ := nk_bde hr
      refine nk_callV (ci := 13) (n := 5) (x := 729) (len := 3) (j' := 209) (q' := 0) (r := r43) (S' := S44) (L2 := [(0, nk_r l0), (1, nk_r l1), (2, nk_l v5), (4, nk_l v8), (6, nk_l v38), (8, nk_l v38)]) (rest := []) (st' := []) (pc' := 409) mJ_198 (by decide +kernel) (by decide +kernel) rfl rfl t_l0 (Nat.le_of_ble_eq_true rfl) mJ_209 (Nat.le_of_ble_eq_true rfl) rfl (ja_X13_product_ok zs _ _ _ _ _ _ _ _ t_l0 t_l1 h45) rfl ?_
      refine nk_p (i := .goto 14) (len := 3) (pc' := 423) mJ_198 (by decide +kernel) (ns_goto (by decide +kernel)) rfl ?_
      refine nk_p (i := .iconst 1) (len := 1) (pc' := 424) mJ_198 (by decide +kernel) (ns_iconst (c := 1) (by decide +kernel)) rfl ?_
      cases hr
      exact nk_iret (ty := .boolean) (len := 1) mJ_198 (by decide +kernel) rfl (nk_nar_z (by decide))
  have hr := nk_ifn hc8 hr
  refine nk_p (i := .tableswitch 316 8 16 #[51, 67, 83, 97, 110, 123, 200, 200, 269]) (len := 51) (pc' := 425) mJ_198 (by decide +kernel) (ns_tsd (by omega) (by decide +kernel)) rfl ?_
  refine nk_p (i := .lload 7) (len := 2) (pc' := 427) mJ_198 (by decide +kernel) (ns_lload 1 rfl) rfl ?_
  refine nk_p (i := .lload 9) (len := 2) (pc' := 429) mJ_198 (by decide +kernel) (ns_lload 0 rfl) rfl ?_
  refine nk_p (i := .lcmp) (len := 1) (pc' := 430) mJ_198 (by decide +kernel) ns_lcmp rfl ?_
  refine nk_lcond (c := .ne) (off := 30) (len := 3) (t := 460) (pc' := 433) mJ_198 (by decide +kernel) (by decide +kernel) rfl (fun hc => ?_) (fun hc => ?_)
  · have hr := nk_ifn (c := v11 = v13) hc hr
    refine nk_p (i := .aload_n 0) (len := 1) (pc' := 461) mJ_198 (by decide +kernel) (ns_aload_n 4 rfl rfl) rfl ?_
    refine nk_p (i := .aload_n 1) (len := 1) (pc' := 462) mJ_198 (by decide +kernel) (ns_aload_n 5 rfl rfl) rfl ?_
    refine nk_p (i := .lload_n 3) (len := 1) (pc' := 463) mJ_198 (by decide +kernel) (ns_lload_n 3 rfl rfl) rfl ?_
    refine nk_p (i := .lconst 0) (len := 1) (pc' := 464) mJ_198 (by decide +kernel) (ns_lconst (c := 0) (by decide +kernel)) rfl ?_
    obtain ⟨r46, S47, h48, hr⟩ := nk_bde hr
    refine nk_callS (ci := 0) (n := 2) (x := 676) (len := 3) (j' := 19) (q' := 2) (r := r46) (S' := S47) (L2 := [(0, nk_l v5), (2, nk_l 0)]) (rest := [nk_r l1, nk_r l0]) (st' := [nk_l r46, nk_r l1, nk_r l0]) (pc' := 467) mJ_198 (by decide +kernel) (by decide +kernel) (Nat.le_of_ble_eq_true rfl) rfl rfl (Nat.le_of_ble_eq_true rfl) mJ_19 (Nat.le_of_ble_eq_true rfl) ja_Tpos rfl (ja_J9_min_f86c9_ok zs _ _ _ _ h48) rfl ?_
    refine nk_p (i := .lload 5) (len := 2) (pc' := 469) mJ_198 (by decide +kernel) (ns_lload 2 rfl) rfl ?_
    refine nk_ldc2 (x := 549) (len := 3) (X := (-1)) (v := (-1)) (pc' := 472) mJ_198 (by decide +kernel) (by decide +kernel) (by decide +kernel) rfl ?_
    obtain ⟨r49, S50, h51, hr⟩ := nk_bde hr
    refine nk_callS (ci := 0) (n := 2) (x := 679) (len := 3) (j' := 17) (q' := 2) (r := r49) (S' := S50) (L2 := [(0, nk_l v8), (2, nk_l (-1))]) (rest := [nk_l r46, nk_r l1, nk_r l0]) (st' := [nk_l r49, nk_l r46, nk_r l1, nk_r l0]) (pc' := 475) mJ_198 (by decide +kernel) (by decide +kernel) (Nat.le_of_ble_eq_true rfl) rfl rfl (Nat.le_of_ble_eq_true rfl) mJ_17 (Nat.le_of_ble_eq_true rfl) ja_Tpos rfl (ja_J9_max_f86c9_ok zs _ _ _ _ h51) rfl ?_
    obtain ⟨r52, S53, h54, hr⟩ := nk_bde hr
    refine nk_callV (ci := 13) (n := 3) (x := 684) (len := 3) (j' := 175) (q' := 0) (r := r52) (S' := S53) (L2 := [(0, nk_r l0), (1, nk_r l1), (2, nk_l r46), (4, nk_l r49)]) (rest := []) (st' := []) (pc' := 478) mJ_198 (by decide +kernel) (by decide +kernel) rfl rfl t_l0 (Nat.le_of_ble_eq_true rfl) mJ_175 (Nat.le_of_ble_eq_true rfl) rfl (ja_X13_leaveRange_ok zs _ _ _ _ _ _ t_l0 t_l1 h54) rfl ?_
    refine nk_p (i := .iconst 1) (len := 1) (pc' := 479) mJ_198 (by decide +kernel) (ns_iconst (c := 1) (by decide +kernel)) rfl ?_
    cases hr
    exact nk_iret (ty := .boolean) (len := 1) mJ_198 (by decide +kernel) rfl (nk_nar_z (by decide))
  · have hr := nk_ifp (c := v11 = v13) (Decidable.of_not_not hc) hr
    refine nk_p (i := .aload_n 0) (len := 1) (pc' := 434) mJ_198 (by decide +kernel) (ns_aload_n 4 rfl rfl) rfl ?_
    refine nk_p (i := .aload_n 1) (len := 1) (pc' := 435) mJ_198 (by decide +kernel) (ns_aload_n 5 rfl rfl) rfl ?_
    refine nk_p (i := .lload_n 3) (len := 1) (pc' := 436) mJ_198 (by decide +kernel) (ns_lload_n 3 rfl rfl) rfl ?_
    refine nk_p (i := .lload 7) (len := 2) (pc' := 438) mJ_198 (by decide +kernel) (ns_lload 1 rfl) rfl ?_
    refine nk_ldc2 (x := 742) (len := 3) (X := 31) (v := 31) (pc' := 441) mJ_198 (by decide +kernel) (by decide +kernel) (by decide +kernel) rfl ?_
    refine nk_p (i := .land) (len := 1) (pc' := 442) mJ_198 (by decide +kernel) ns_land rfl ?_
    refine nk_p (i := .l2i) (len := 1) (pc' := 443) mJ_198 (by decide +kernel) ns_l2i rfl ?_
    refine nk_p (i := .lshr) (len := 1) (pc' := 444) mJ_198 (by decide +kernel) ns_lshr rfl ?_
    refine nk_p (i := .lload 5) (len := 2) (pc' := 446) mJ_198 (by decide +kernel) (ns_lload 2 rfl) rfl ?_
    refine nk_p (i := .lload 7) (len := 2) (pc' := 448) mJ_198 (by decide +kernel) (ns_lload 1 rfl) rfl ?_
    refine nk_ldc2 (x := 742) (len := 3) (X := 31) (v := 31) (pc' := 451) mJ_198 (by decide +kernel) (by decide +kernel) (by decide +kernel) rfl ?_
    refine nk_p (i := .land) (len := 1) (pc' := 452) mJ_198 (by decide +kernel) ns_land rfl ?_
    refine nk_p (i := .l2i) (len := 1) (pc' := 453) mJ_198 (by decide +kernel) ns_l2i rfl ?_
    refine nk_p (i := .lshr) (len := 1) (pc' := 454) mJ_198 (by decide +kernel) ns_lshr rfl ?_
    obtain ⟨r55, S56, h57, hr⟩ := nk_bde hr
    refine nk_callV (ci := 13) (n := 3) (x := 684) (len := 3) (j' := 175) (q' := 0) (r := r55) (S' := S56) (L2 := [(0, nk_r l0), (1, nk_r l1), (2, nk_l (nk_lshr v5 (nk_w (nk_land v11 31)))), (4, nk_l (nk_lshr v8 (nk_w (nk_land v11 31))))]) (rest := []) (st' := []) (pc' := 457) mJ_198 (by decide +kernel) (by decide +kernel) rfl rfl t_l0 (Nat.le_of_ble_eq_true rfl) mJ_175 (Nat.le_of_ble_eq_true rfl) rfl (ja_X13_leaveRange_ok zs _ _ _ _ _ _ t_l0 t_l1 h57) rfl ?_
    refine nk_p (i := .goto 21) (len := 3) (pc' := 478) mJ_198 (by decide +kernel) (ns_goto (by decide +kernel)) rfl ?_
    refine nk_p (i := .iconst 1) (len := 1) (pc' := 479) mJ_198 (by decide +kernel) (ns_iconst (c := 1) (by decide +kernel)) rfl ?_
    cases hr
    exact nk_iret (ty := .boolean) (len := 1) mJ_198 (by decide +kernel) rfl (nk_nar_z (by decide))
noncomputable def ja_X13_numbers (l0 : Nat) (l1 : Nat) (l2 : Int) (S : nk_S) : Option (Int × nk_S) :=
  if l2 = 18 then
    nk_lt (nk_wi S l0 25 (nk_w ((S.1 l0 25) - 1))) fun S1 =>
    if 0 ≤ (S1.1 l0 25) ∧ (S1.1 l0 25) < 24 then
    nk_lt (nk_W (-(S1.1 (ja_c l0 28) (S1.1 l0 25).toNat))) fun v5 =>
    nk_bd (ja_X13_leaveRange l0 l1 v5 (nk_W (-(S1.1 (ja_c l0 27) (S1.1 l0 25).toNat))) S1) fun r8 S9 =>
    some (1, S9)
    else none
  else
    ja_X13_numbers_b47 l0 l1 l2 S
theorem ja_X13_numbers_ok (zs : List Int32) : ∀ (l0 : Nat) (l1 : Nat) (l2 : Int) (S : nk_S) (R : Int × nk_S), nk_cl ja_Tt l0 = some 13 → nk_cl ja_Tt l1 = some 12 → ja_X13_numbers l0 l1 l2 S = some R → nk_K ja_Tt mi_Γ (mi_ev zs) 1 198 0 [(0, nk_r l0), (1, nk_r l1), (2, nk_i l2)] [] S R := by
  intro l0 l1 l2 S R t_l0 t_l1 hr
  unfold ja_X13_numbers at hr
  refine nk_p (i := .iload_n 2) (len := 1) (pc' := 1) mJ_198 (by decide +kernel) (ns_iload_n 2 rfl rfl) rfl ?_
  refine nk_p (i := .bipush 18) (len := 2) (pc' := 3) mJ_198 (by decide +kernel) (ns_bipush (c := 18) (by decide +kernel)) rfl ?_
  refine nk_icmp (c := .ne) (off := 44) (len := 3) (t := 47) (pc' := 6) mJ_198 (by decide +kernel) (by decide +kernel) rfl (fun hc => ?_) (fun hc => ?_)
  · have hr := nk_ifn (c := l2 = 18) hc hr
    exact ja_X13_numbers_b47_ok zs _ _ _ _ _ t_l0 t_l1 hr
  · have hr := nk_ifp (c := l2 = 18) (Decidable.of_not_not hc) hr
    refine nk_p (i := .aload_n 0) (len := 1) (pc' := 7) mJ_198 (by decide +kernel) (ns_aload_n 0 rfl rfl) rfl ?_
    refine nk_p (i := .dup) (len := 1) (pc' := 8) mJ_198 (by decide +kernel) (ns_dup rfl) rfl ?_
    refine nk_getI (y := (0, 0)) (x := 495) (len := 3) (ci := 13) (k := 25) (pc' := 11) ja_okT mJ_198 (by decide +kernel) (by decide +kernel) (by decide +kernel) t_l0 rfl ?_
    refine nk_p (i := .iconst 1) (len := 1) (pc' := 12) mJ_198 (by decide +kernel) (ns_iconst (c := 1) (by decide +kernel)) rfl ?_
    refine nk_p (i := .isub) (len := 1) (pc' := 13) mJ_198 (by decide +kernel) ns_isub rfl ?_
    obtain ⟨S1, h2, hr⟩ := nk_lte hr
    refine nk_putI (y := (0, 0)) (ty := .int) (x := 495) (len := 3) (ci := 13) (k := 25) (pc' := 16) ja_okT mJ_198 (by decide +kernel) (by decide +kernel) (by decide +kernel) t_l0 (Or.inl rfl) rfl h2 ?_
    refine nk_p (i := .aload_n 0) (len := 1) (pc' := 17) mJ_198 (by decide +kernel) (ns_aload_n 0 rfl rfl) rfl ?_
    refine nk_getC (f := (4, 1, 24)) (x := 77) (len := 3) (ci := 13) (k := 28) (pc' := 20) ja_okT mJ_198 (by decide +kernel) (by decide +kernel) (by decide +kernel) (by decide) t_l0 rfl ?_
    have t3 : nk_ar ja_Tt (ja_c l0 28) = some (1, 24) := nk_ta ja_okT t_l0 (by decide +kernel)
    refine nk_p (i := .aload_n 0) (len := 1) (pc' := 21) mJ_198 (by decide +kernel) (ns_aload_n 0 rfl rfl) rfl ?_
    refine nk_getI (y := (0, 0)) (x := 495) (len := 3) (ci := 13) (k := 25) (pc' := 24) ja_okT mJ_198 (by decide +kernel) (by decide +kernel) (by decide +kernel) t_l0 rfl ?_
    obtain ⟨h4, hr⟩ := nk_cke hr
    refine nk_iald (len := 1) (N := 24) (pc' := 25) mJ_198 (by decide +kernel) t3 h4.1 h4.2 rfl rfl ?_
    refine nk_p (i := .i2l) (len := 1) (pc' := 26) mJ_198 (by decide +kernel) ns_i2l rfl ?_
    refine nk_p (i := .lneg) (len := 1) (pc' := 27) mJ_198 (by decide +kernel) ns_lneg rfl ?_
    obtain ⟨v5, h6, hr⟩ := nk_lte hr
    refine nk_p (i := .lstore_n 3) (len := 1) (pc' := 28) mJ_198 (by decide +kernel) (ns_lstore_n (L' := [(3, nk_l v5), (0, nk_r l0), (1, nk_r l1), (2, nk_i l2)]) h6 rfl rfl (by decide +kernel)) rfl ?_
    refine nk_p (i := .aload_n 0) (len := 1) (pc' := 29) mJ_198 (by decide +kernel) (ns_aload_n 1 rfl rfl) rfl ?_
    refine nk_p (i := .aload_n 1) (len := 1) (pc' := 30) mJ_198 (by decide +kernel) (ns_aload_n 2 rfl rfl) rfl ?_
    refine nk_p (i := .lload_n 3) (len := 1) (pc' := 31) mJ_198 (by decide +kernel) (ns_lload_n 0 rfl rfl) rfl ?_
    refine nk_p (i := .aload_n 0) (len := 1) (pc' := 32) mJ_198 (by decide +kernel) (ns_aload_n 1 rfl rfl) rfl ?_
    refine nk_getC (f := (4, 1, 24)) (x := 74) (len := 3) (ci := 13) (k := 27) (pc' := 35) ja_okT mJ_198 (by decide +kernel) (by decide +kernel) (by decide +kernel) (by decide) t_l0 rfl ?_
    have t7 : nk_ar ja_Tt (ja_c l0 27) = some (1, 24) := nk_ta ja_okT t_l0 (by decide +kernel)
    refine nk_p (i := .aload_n 0) (len := 1) (pc' := 36) mJ_198 (by decide +kernel) (ns_aload_n 1 rfl rfl) rfl ?_
    refine nk_getI (y := (0, 0)) (x := 495) (len := 3) (ci := 13) (k := 25) (pc' := 39) ja_okT mJ_198 (by decide +kernel) (by decide +kernel) (by decide +kernel) t_l0 rfl ?_
    refine nk_iald (len := 1) (N := 24) (pc' := 40) mJ_198 (by decide +kernel) t7 h4.1 h4.2 rfl rfl ?_
    refine nk_p (i := .i2l) (len := 1) (pc' := 41) mJ_198 (by decide +kernel) ns_i2l rfl ?_
    refine nk_p (i := .lneg) (len := 1) (pc' := 42) mJ_198 (by decide +kernel) ns_lneg rfl ?_
    obtain ⟨r8, S9, h10, hr⟩ := nk_bde hr
    refine nk_callV (ci := 13) (n := 3) (x := 684) (len := 3) (j' := 175) (q' := 0) (r := r8) (S' := S9) (L2 := [(0, nk_r l0), (1, nk_r l1), (2, nk_l v5), (4, nk_l (nk_W (-(S1.1 (ja_c l0 27) (S1.1 l0 25).toNat))))]) (rest := []) (st' := []) (pc' := 45) mJ_198 (by decide +kernel) (by decide +kernel) rfl rfl t_l0 (Nat.le_of_ble_eq_true rfl) mJ_175 (Nat.le_of_ble_eq_true rfl) rfl (ja_X13_leaveRange_ok zs _ _ _ _ _ _ t_l0 t_l1 h10) rfl ?_
    refine nk_p (i := .iconst 1) (len := 1) (pc' := 46) mJ_198 (by decide +kernel) (ns_iconst (c := 1) (by decide +kernel)) rfl ?_
    cases hr
    exact nk_iret (ty := .boolean) (len := 1) mJ_198 (by decide +kernel) rfl (nk_nar_z (by decide))
