/-! SafeCodeModel areArguments (LSafeCodeModel$Program;II)Z -/
noncomputable def ja_X13_areArguments_b58 (rec11 : Nat → Nat → Int → Int → Int → Int → nk_S → Option (Int × nk_S)) (l0 : Nat) (l1 : Nat) (l2 : Int) (l3 : Int) (l4 : Int) (l5 : Int) (s0 : Int) (S : nk_S) : Option (Int × nk_S) :=
  if 0 ≤ (nk_w ((nk_w ((S.1 l0 25) - l4)) + l5)) ∧ (nk_w ((nk_w ((S.1 l0 25) - l4)) + l5)) < 24 then
  nk_bd (ja_X13_isBelow l1 (S.1 (ja_c l0 24) (nk_w ((nk_w ((S.1 l0 25) - l4)) + l5)).toNat) s0 S) fun r3 S4 =>
  if r3 = 0 then
    some (0, S4)
  else
    nk_lt (nk_w (l5 + 1)) fun v6 =>
    rec11 l0 l1 l2 l3 l4 v6 S4
  else none
theorem ja_X13_areArguments_b58_ok (zs : List Int32) {rec11 : Nat → Nat → Int → Int → Int → Int → nk_S → Option (Int × nk_S)} (hrec11 : ∀ (l0 : Nat) (l1 : Nat) (l2 : Int) (l3 : Int) (l4 : Int) (l5 : Int) (S : nk_S) (R : Int × nk_S), nk_cl ja_Tt l0 = some 13 → nk_cl ja_Tt l1 = some 12 → rec11 l0 l1 l2 l3 l4 l5 S = some R → nk_K ja_Tt mi_Γ (mi_ev zs) 1 85 11 [(0, nk_r l0), (1, nk_r l1), (2, nk_i l2), (3, nk_i l3), (4, nk_i l4), (5, nk_i l5)] [] S R) : ∀ (l0 : Nat) (l1 : Nat) (l2 : Int) (l3 : Int) (l4 : Int) (l5 : Int) (s0 : Int) (S : nk_S) (R : Int × nk_S), nk_cl ja_Tt l0 = some 13 → nk_cl ja_Tt l1 = some 12 → ja_X13_areArguments_b58 rec11 l0 l1 l2 l3 l4 l5 s0 S = some R → nk_K ja_Tt mi_Γ (mi_ev zs) 1 85 58 [(0, nk_r l0), (1, nk_r l1), (2, nk_i l2), (3, nk_i l3), (4, nk_i l4), (5, nk_i l5)] [nk_i s0] S R := by
  intro l0 l1 l2 l3 l4 l5 s0 S R t_l0 t_l1 hr
  unfold ja_X13_areArguments_b58 at hr
  refine nk_p (i := .istore 6) (len := 2) (pc' := 60) mJ_85 (by decide +kernel) (ns_istore (L' := [(6, nk_i s0), (0, nk_r l0), (1, nk_r l1), (2, nk_i l2), (3, nk_i l3), (4, nk_i l4), (5, nk_i l5)]) rfl rfl (by decide +kernel)) rfl ?_
  refine nk_p (i := .aload_n 1) (len := 1) (pc' := 61) mJ_85 (by decide +kernel) (ns_aload_n 2 rfl rfl) rfl ?_
  refine nk_p (i := .aload_n 0) (len := 1) (pc' := 62) mJ_85 (by decide +kernel) (ns_aload_n 1 rfl rfl) rfl ?_
  refine nk_getC (f := (4, 1, 24)) (x := 68) (len := 3) (ci := 13) (k := 24) (pc' := 65) ja_okT mJ_85 (by decide +kernel) (by decide +kernel) (by decide +kernel) (by decide) t_l0 rfl ?_
  have t1 : nk_ar ja_Tt (ja_c l0 24) = some (1, 24) := nk_ta ja_okT t_l0 (by decide +kernel)
  refine nk_p (i := .aload_n 0) (len := 1) (pc' := 66) mJ_85 (by decide +kernel) (ns_aload_n 1 rfl rfl) rfl ?_
  refine nk_getI (y := (0, 0)) (x := 495) (len := 3) (ci := 13) (k := 25) (pc' := 69) ja_okT mJ_85 (by decide +kernel) (by decide +kernel) (by decide +kernel) t_l0 rfl ?_
  refine nk_p (i := .iload 4) (len := 2) (pc' := 71) mJ_85 (by decide +kernel) (ns_iload 5 rfl) rfl ?_
  refine nk_p (i := .isub) (len := 1) (pc' := 72) mJ_85 (by decide +kernel) ns_isub rfl ?_
  refine nk_p (i := .iload 5) (len := 2) (pc' := 74) mJ_85 (by decide +kernel) (ns_iload 6 rfl) rfl ?_
  refine nk_p (i := .iadd) (len := 1) (pc' := 75) mJ_85 (by decide +kernel) ns_iadd rfl ?_
  obtain ⟨h2, hr⟩ := nk_cke hr
  refine nk_iald (len := 1) (N := 24) (pc' := 76) mJ_85 (by decide +kernel) t1 h2.1 h2.2 rfl rfl ?_
  refine nk_p (i := .iload 6) (len := 2) (pc' := 78) mJ_85 (by decide +kernel) (ns_iload 0 rfl) rfl ?_
  obtain ⟨r3, S4, h5, hr⟩ := nk_bde hr
  refine nk_callS (ci := 0) (n := 3) (x := 486) (len := 3) (j' := 143) (q' := 1) (r := r3) (S' := S4) (L2 := [(0, nk_r l1), (1, nk_i (S.1 (ja_c l0 24) (nk_w ((nk_w ((S.1 l0 25) - l4)) + l5)).toNat)), (2, nk_i s0)]) (rest := []) (st' := [nk_i r3]) (pc' := 81) mJ_85 (by decide +kernel) (by decide +kernel) (Nat.le_of_ble_eq_true rfl) rfl rfl (Nat.le_of_ble_eq_true rfl) mJ_143 (Nat.le_of_ble_eq_true rfl) ja_Tpos rfl (ja_X13_isBelow_ok zs _ _ _ _ _ t_l1 h5) rfl ?_
  refine nk_icond (c := .ne) (off := 5) (len := 3) (t := 86) (pc' := 84) mJ_85 (by decide +kernel) (by decide +kernel) rfl (fun hc => ?_) (fun hc => ?_)
  · have hr := nk_ifn (c := r3 = 0) hc hr
    obtain ⟨v6, h7, hr⟩ := nk_lte hr
    refine nk_p (i := .iinc 5 1) (len := 3) (pc' := 89) mJ_85 (by decide +kernel) (ns_iinc (c := 1) (L' := [(5, nk_i v6), (6, nk_i s0), (0, nk_r l0), (1, nk_r l1), (2, nk_i l2), (3, nk_i l3), (4, nk_i l4)]) 6 rfl (by decide +kernel) h7 rfl (by decide +kernel)) rfl ?_
    refine nk_p (i := .goto (-78)) (len := 3) (pc' := 11) mJ_85 (by decide +kernel) (ns_goto (by decide +kernel)) rfl ?_
    refine nk_sub [2, 3, 4, 5, 6, 0] (L' := [(0, nk_r l0), (1, nk_r l1), (2, nk_i l2), (3, nk_i l3), (4, nk_i l4), (5, nk_i v6)]) rfl ?_
    exact hrec11 _ _ _ _ _ _ _ _ t_l0 t_l1 hr
  · have hr := nk_ifp (c := r3 = 0) (Decidable.of_not_not hc) hr
    refine nk_p (i := .iconst 0) (len := 1) (pc' := 85) mJ_85 (by decide +kernel) (ns_iconst (c := 0) (by decide +kernel)) rfl ?_
    cases hr
    exact nk_iret (ty := .boolean) (len := 1) mJ_85 (by decide +kernel) rfl (nk_nar_z (by decide))
noncomputable def ja_X13_areArguments_b46 (rec11 : Nat → Nat → Int → Int → Int → Int → nk_S → Option (Int × nk_S)) (l0 : Nat) (l1 : Nat) (l2 : Int) (l3 : Int) (l4 : Int) (l5 : Int) (S : nk_S) : Option (Int × nk_S) :=
  if 0 ≤ (nk_w ((nk_w (l3 * 12)) + l5)) ∧ (nk_w ((nk_w (l3 * 12)) + l5)) < 576 then
  ja_X13_areArguments_b58 rec11 l0 l1 l2 l3 l4 l5 (S.1 (ja_c l1 16) (nk_w ((nk_w (l3 * 12)) + l5)).toNat) S
  else none
theorem ja_X13_areArguments_b46_ok (zs : List Int32) {rec11 : Nat → Nat → Int → Int → Int → Int → nk_S → Option (Int × nk_S)} (hrec11 : ∀ (l0 : Nat) (l1 : Nat) (l2 : Int) (l3 : Int) (l4 : Int) (l5 : Int) (S : nk_S) (R : Int × nk_S), nk_cl ja_Tt l0 = some 13 → nk_cl ja_Tt l1 = some 12 → rec11 l0 l1 l2 l3 l4 l5 S = some R → nk_K ja_Tt mi_Γ (mi_ev zs) 1 85 11 [(0, nk_r l0), (1, nk_r l1), (2, nk_i l2), (3, nk_i l3), (4, nk_i l4), (5, nk_i l5)] [] S R) : ∀ (l0 : Nat) (l1 : Nat) (l2 : Int) (l3 : Int) (l4 : Int) (l5 : Int) (S : nk_S) (R : Int × nk_S), nk_cl ja_Tt l0 = some 13 → nk_cl ja_Tt l1 = some 12 → ja_X13_areArguments_b46 rec11 l0 l1 l2 l3 l4 l5 S = some R → nk_K ja_Tt mi_Γ (mi_ev zs) 1 85 46 [(0, nk_r l0), (1, nk_r l1), (2, nk_i l2), (3, nk_i l3), (4, nk_i l4), (5, nk_i l5)] [] S R := by
  intro l0 l1 l2 l3 l4 l5 S R t_l0 t_l1 hr
  unfold ja_X13_areArguments_b46 at hr
  refine nk_p (i := .aload_n 1) (len := 1) (pc' := 47) mJ_85 (by decide +kernel) (ns_aload_n 1 rfl rfl) rfl ?_
  refine nk_getC (f := (4, 1, 576)) (x := 340) (len := 3) (ci := 12) (k := 16) (pc' := 50) ja_okT mJ_85 (by decide +kernel) (by decide +kernel) (by decide +kernel) (by decide) t_l1 rfl ?_
  have t1 : nk_ar ja_Tt (ja_c l1 16) = some (1, 576) := nk_ta ja_okT t_l1 (by decide +kernel)
  refine nk_p (i := .iload_n 3) (len := 1) (pc' := 51) mJ_85 (by decide +kernel) (ns_iload_n 3 rfl rfl) rfl ?_
  refine nk_p (i := .bipush 12) (len := 2) (pc' := 53) mJ_85 (by decide +kernel) (ns_bipush (c := 12) (by decide +kernel)) rfl ?_
  refine nk_p (i := .imul) (len := 1) (pc' := 54) mJ_85 (by decide +kernel) ns_imul rfl ?_
  refine nk_p (i := .iload 5) (len := 2) (pc' := 56) mJ_85 (by decide +kernel) (ns_iload 5 rfl) rfl ?_
  refine nk_p (i := .iadd) (len := 1) (pc' := 57) mJ_85 (by decide +kernel) ns_iadd rfl ?_
  obtain ⟨h2, hr⟩ := nk_cke hr
  refine nk_iald (len := 1) (N := 576) (pc' := 58) mJ_85 (by decide +kernel) t1 h2.1 h2.2 rfl rfl ?_
  exact ja_X13_areArguments_b58_ok zs hrec11 _ _ _ _ _ _ _ _ _ t_l0 t_l1 hr
noncomputable def ja_X13_areArguments_b11 (rec11 : Nat → Nat → Int → Int → Int → Int → nk_S → Option (Int × nk_S)) (l0 : Nat) (l1 : Nat) (l2 : Int) (l3 : Int) (l4 : Int) (l5 : Int) (S : nk_S) : Option (Int × nk_S) :=
  if l4 ≤ l5 then
    some (1, S)
  else
    if l5 = 0 then
      if 0 ≤ l2 ∧ l2 < 1024 then
      if (S.1 (ja_c l1 22) l2.toNat) = 40 then
        ja_X13_areArguments_b58 rec11 l0 l1 l2 l3 l4 l5 (nk_w (8 + (S.1 (ja_c l1 24) l2.toNat))) S
      else
        ja_X13_areArguments_b46 rec11 l0 l1 l2 l3 l4 l5 S
      else none
    else
      ja_X13_areArguments_b46 rec11 l0 l1 l2 l3 l4 l5 S
theorem ja_X13_areArguments_b11_ok (zs : List Int32) {rec11 : Nat → Nat → Int → Int → Int → Int → nk_S → Option (Int × nk_S)} (hrec11 : ∀ (l0 : Nat) (l1 : Nat) (l2 : Int) (l3 : Int) (l4 : Int) (l5 : Int) (S : nk_S) (R : Int × nk_S), nk_cl ja_Tt l0 = some 13 → nk_cl ja_Tt l1 = some 12 → rec11 l0 l1 l2 l3 l4 l5 S = some R → nk_K ja_Tt mi_Γ (mi_ev zs) 1 85 11 [(0, nk_r l0), (1, nk_r l1), (2, nk_i l2), (3, nk_i l3), (4, nk_i l4), (5, nk_i l5)] [] S R) : ∀ (l0 : Nat) (l1 : Nat) (l2 : Int) (l3 : Int) (l4 : Int) (l5 : Int) (S : nk_S) (R : Int × nk_S), nk_cl ja_Tt l0 = some 13 → nk_cl ja_Tt l1 = some 12 → ja_X13_areArguments_b11 rec11 l0 l1 l2 l3 l4 l5 S = some R → nk_K ja_Tt mi_Γ (mi_ev zs) 1 85 11 [(0, nk_r l0), (1, nk_r l1), (2, nk_i l2), (3, nk_i l3), (4, nk_i l4), (5, nk_i l5)] [] S R := by
  intro l0 l1 l2 l3 l4 l5 S R t_l0 t_l1 hr
  unfold ja_X13_areArguments_b11 at hr
  refine nk_p (i := .iload 5) (len := 2) (pc' := 13) mJ_85 (by decide +kernel) (ns_iload 5 rfl) rfl ?_
  refine nk_p (i := .iload 4) (len := 2) (pc' := 15) mJ_85 (by decide +kernel) (ns_iload 4 rfl) rfl ?_
  refine nk_icmp (c := .ge) (off := 77) (len := 3) (t := 92) (pc' := 18) mJ_85 (by decide +kernel) (by decide +kernel) rfl (fun hc => ?_) (fun hc => ?_)
  · have hr := nk_ifp (c := l4 ≤ l5) hc hr
    refine nk_p (i := .iconst 1) (len := 1) (pc' := 93) mJ_85 (by decide +kernel) (ns_iconst (c := 1) (by decide +kernel)) rfl ?_
    cases hr
    exact nk_iret (ty := .boolean) (len := 1) mJ_85 (by decide +kernel) rfl (nk_nar_z (by decide))
  · have hr := nk_ifn (c := l4 ≤ l5) hc hr
    refine nk_p (i := .iload 5) (len := 2) (pc' := 20) mJ_85 (by decide +kernel) (ns_iload 5 rfl) rfl ?_
    refine nk_icond (c := .ne) (off := 26) (len := 3) (t := 46) (pc' := 23) mJ_85 (by decide +kernel) (by decide +kernel) rfl (fun hc => ?_) (fun hc => ?_)
    · have hr := nk_ifn (c := l5 = 0) hc hr
      exact ja_X13_areArguments_b46_ok zs hrec11 _ _ _ _ _ _ _ _ t_l0 t_l1 hr
    · have hr := nk_ifp (c := l5 = 0) (Decidable.of_not_not hc) hr
      refine nk_p (i := .aload_n 1) (len := 1) (pc' := 24) mJ_85 (by decide +kernel) (ns_aload_n 1 rfl rfl) rfl ?_
      refine nk_getC (f := (4, 1, 1024)) (x := 391) (len := 3) (ci := 12) (k := 22) (pc' := 27) ja_okT mJ_85 (by decide +kernel) (by decide +kernel) (by decide +kernel) (by decide) t_l1 rfl ?_
      have t1 : nk_ar ja_Tt (ja_c l1 22) = some (1, 1024) := nk_ta ja_okT t_l1 (by decide +kernel)
      refine nk_p (i := .iload_n 2) (len := 1) (pc' := 28) mJ_85 (by decide +kernel) (ns_iload_n 2 rfl rfl) rfl ?_
      obtain ⟨h2, hr⟩ := nk_cke hr
      refine nk_iald (len := 1) (N := 1024) (pc' := 29) mJ_85 (by decide +kernel) t1 h2.1 h2.2 rfl rfl ?_
      refine nk_p (i := .bipush 40) (len := 2) (pc' := 31) mJ_85 (by decide +kernel) (ns_bipush (c := 40) (by decide +kernel)) rfl ?_
      refine nk_icmp (c := .ne) (off := 15) (len := 3) (t := 46) (pc' := 34) mJ_85 (by decide +kernel) (by decide +kernel) rfl (fun hc => ?_) (fun hc => ?_)
      · have hr := nk_ifn (c := (S.1 (ja_c l1 22) l2.toNat) = 40) hc hr
        exact ja_X13_areArguments_b46_ok zs hrec11 _ _ _ _ _ _ _ _ t_l0 t_l1 hr
      · have hr := nk_ifp (c := (S.1 (ja_c l1 22) l2.toNat) = 40) (Decidable.of_not_not hc) hr
        refine nk_p (i := .bipush 8) (len := 2) (pc' := 36) mJ_85 (by decide +kernel) (ns_bipush (c := 8) (by decide +kernel)) rfl ?_
        refine nk_p (i := .aload_n 1) (len := 1) (pc' := 37) mJ_85 (by decide +kernel) (ns_aload_n 1 rfl rfl) rfl ?_
        refine nk_getC (f := (4, 1, 1024)) (x := 417) (len := 3) (ci := 12) (k := 24) (pc' := 40) ja_okT mJ_85 (by decide +kernel) (by decide +kernel) (by decide +kernel) (by decide) t_l1 rfl ?_
        have t3 : nk_ar ja_Tt (ja_c l1 24) = some (1, 1024) := nk_ta ja_okT t_l1 (by decide +kernel)
        refine nk_p (i := .iload_n 2) (len := 1) (pc' := 41) mJ_85 (by decide +kernel) (ns_iload_n 2 rfl rfl) rfl ?_
        refine nk_iald (len := 1) (N := 1024) (pc' := 42) mJ_85 (by decide +kernel) t3 h2.1 h2.2 rfl rfl ?_
        refine nk_p (i := .iadd) (len := 1) (pc' := 43) mJ_85 (by decide +kernel) ns_iadd rfl ?_
        refine nk_p (i := .goto 15) (len := 3) (pc' := 58) mJ_85 (by decide +kernel) (ns_goto (by decide +kernel)) rfl ?_
        exact ja_X13_areArguments_b58_ok zs hrec11 _ _ _ _ _ _ _ _ _ t_l0 t_l1 hr
noncomputable def ja_X13_areArguments_L11 : Nat → Nat → Nat → Int → Int → Int → Int → nk_S → Option (Int × nk_S)
  | 0, _, _, _, _, _, _, _ => none
  | n + 1, l0, l1, l2, l3, l4, l5, S => ja_X13_areArguments_b11 (ja_X13_areArguments_L11 n) l0 l1 l2 l3 l4 l5 S
theorem ja_X13_areArguments_L11_ok (zs : List Int32) : ∀ n : Nat, ∀ (l0 : Nat) (l1 : Nat) (l2 : Int) (l3 : Int) (l4 : Int) (l5 : Int) (S : nk_S) (R : Int × nk_S), nk_cl ja_Tt l0 = some 13 → nk_cl ja_Tt l1 = some 12 → ja_X13_areArguments_L11 n l0 l1 l2 l3 l4 l5 S = some R → nk_K ja_Tt mi_Γ (mi_ev zs) 1 85 11 [(0, nk_r l0), (1, nk_r l1), (2, nk_i l2), (3, nk_i l3), (4, nk_i l4), (5, nk_i l5)] [] S R := by
  intro n
  induction n with
  | zero => intro _ _ _ _ _ _ _ _ _ _ hr; cases hr
  | succ n ih => intro l0 l1 l2 l3 l4 l5 S R t_l0 t_l1 hr; exact ja_X13_areArguments_b11_ok zs ih l0 l1 l2 l3 l4 l5 S R t_l0 t_l1 hr
noncomputable def ja_X13_areArguments (l0 : Nat) (l1 : Nat) (l2 : Int) (l3 : Int) (S : nk_S) : Option (Int × nk_S) :=
  if 0 ≤ l3 ∧ l3 < 48 then
  nk_lt (S.1 (ja_c l1 15) l3.toNat) fun v3 =>
  ja_X13_areArguments_L11 nk_big l0 l1 l2 l3 v3 0 S
  else none
theorem ja_X13_areArguments_ok (zs : List Int32) : ∀ (l0 : Nat) (l1 : Nat) (l2 : Int) (l3 : Int) (S : nk_S) (R : Int × nk_S), nk_cl ja_Tt l0 = some 13 → nk_cl ja_Tt l1 = some 12 → ja_X13_areArguments l0 l1 l2 l3 S = some R → nk_K ja_Tt mi_Γ (mi_ev zs) 1 85 0 [(0, nk_r l0), (1, nk_r l1), (2, nk_i l2), (3, nk_i l3)] [] S R := by
  intro l0 l1 l2 l3 S R t_l0 t_l1 hr
  unfold ja_X13_areArguments at hr
  refine nk_p (i := .aload_n 1) (len := 1) (pc' := 1) mJ_85 (by decide +kernel) (ns_aload_n 1 rfl rfl) rfl ?_
  refine nk_getC (f := (4, 1, 48)) (x := 348) (len := 3) (ci := 12) (k := 15) (pc' := 4) ja_okT mJ_85 (by decide +kernel) (by decide +kernel) (by decide +kernel) (by decide) t_l1 rfl ?_
  have t1 : nk_ar ja_Tt (ja_c l1 15) = some (1, 48) := nk_ta ja_okT t_l1 (by decide +kernel)
  refine nk_p (i := .iload_n 3) (len := 1) (pc' := 5) mJ_85 (by decide +kernel) (ns_iload_n 3 rfl rfl) rfl ?_
  obtain ⟨h2, hr⟩ := nk_cke hr
  refine nk_iald (len := 1) (N := 48) (pc' := 6) mJ_85 (by decide +kernel) t1 h2.1 h2.2 rfl rfl ?_
  obtain ⟨v3, h4, hr⟩ := nk_lte hr
  refine nk_p (i := .istore 4) (len := 2) (pc' := 8) mJ_85 (by decide +kernel) (ns_istore (L' := [(4, nk_i v3), (0, nk_r l0), (1, nk_r l1), (2, nk_i l2), (3, nk_i l3)]) h4 rfl (by decide +kernel)) rfl ?_
  refine nk_p (i := .iconst 0) (len := 1) (pc' := 9) mJ_85 (by decide +kernel) (ns_iconst (c := 0) (by decide +kernel)) rfl ?_
  refine nk_p (i := .istore 5) (len := 2) (pc' := 11) mJ_85 (by decide +kernel) (ns_istore (L' := [(5, nk_i 0), (4, nk_i v3), (0, nk_r l0), (1, nk_r l1), (2, nk_i l2), (3, nk_i l3)]) rfl rfl (by decide +kernel)) rfl ?_
  refine nk_sub [2, 3, 4, 5, 1, 0] (L' := [(0, nk_r l0), (1, nk_r l1), (2, nk_i l2), (3, nk_i l3), (4, nk_i v3), (5, nk_i 0)]) rfl ?_
  exact ja_X13_areArguments_L11_ok zs nk_big _ _ _ _ _ _ _ _ t_l0 t_l1 hr
/-! SafeCodeModel clear (I)V -/
noncomputable def ja_X13_clear (l0 : Nat) (l1 : Int) (S : nk_S) : Option (Int × nk_S) :=
  if 0 ≤ l1 ∧ l1 < 24 then
  nk_lt (nk_wi S (ja_c l0 26) l1.toNat (nk_i2b 0)) fun S3 =>
  nk_lt (nk_wi S3 (ja_c l0 27) l1.toNat 0) fun S6 =>
  nk_lt (nk_wi S6 (ja_c l0 28) l1.toNat 0) fun S9 =>
  nk_lt (nk_wi S9 (ja_c l0 29) l1.toNat 0) fun S12 =>
  nk_lt (nk_wi S12 (ja_c l0 30) l1.toNat (-1)) fun S15 =>
  nk_lt (nk_wi S15 (ja_c l0 31) l1.toNat 0) fun S18 =>
  nk_lt (nk_wi S18 (ja_c l0 32) l1.toNat 0) fun S21 =>
  nk_lt (nk_wi S21 (ja_c l0 33) l1.toNat 0) fun S24 =>
  nk_lt (nk_wi S24 (ja_c l0 34) l1.toNat 0) fun S27 =>
  some (0, S27)
  else none
theorem ja_X13_clear_ok (zs : List Int32) : ∀ (l0 : Nat) (l1 : Int) (S : nk_S) (R : Int × nk_S), nk_cl ja_Tt l0 = some 13 → ja_X13_clear l0 l1 S = some R → nk_K ja_Tt mi_Γ (mi_ev zs) 0 101 0 [(0, nk_r l0), (1, nk_i l1)] [] S R := by
  intro l0 l1 S R t_l0 hr
  unfold ja_X13_clear at hr
  refine nk_p (i := .aload_n 0) (len := 1) (pc' := 1) mJ_101 (by decide +kernel) (ns_aload_n 0 rfl rfl) rfl ?_
  refine nk_getC (f := (4, 0, 24)) (x := 71) (len := 3) (ci := 13) (k := 26) (pc' := 4) ja_okT mJ_101 (by decide +kernel) (by decide +kernel) (by decide +kernel) (by decide) t_l0 rfl ?_
  have t1 : nk_ar ja_Tt (ja_c l0 26) = some (0, 24) := nk_ta ja_okT t_l0 (by decide +kernel)
  refine nk_p (i := .iload_n 1) (len := 1) (pc' := 5) mJ_101 (by decide +kernel) (ns_iload_n 1 rfl rfl) rfl ?_
  refine nk_p (i := .iconst 0) (len := 1) (pc' := 6) mJ_101 (by decide +kernel) (ns_iconst (c := 0) (by decide +kernel)) rfl ?_
  obtain ⟨h2, hr⟩ := nk_cke hr
  obtain ⟨S3, h4, hr⟩ := nk_lte hr
  refine nk_bast (len := 1) (N := 24) (pc' := 7) mJ_101 (by decide +kernel) t1 h2.1 h2.2 rfl rfl h4 ?_
  refine nk_p (i := .aload_n 0) (len := 1) (pc' := 8) mJ_101 (by decide +kernel) (ns_aload_n 0 rfl rfl) rfl ?_
  refine nk_getC (f := (4, 1, 24)) (x := 74) (len := 3) (ci := 13) (k := 27) (pc' := 11) ja_okT mJ_101 (by decide +kernel) (by decide +kernel) (by decide +kernel) (by decide) t_l0 rfl ?_
  have t5 : nk_ar ja_Tt (ja_c l0 27) = some (1, 24) := nk_ta ja_okT t_l0 (by decide +kernel)
  refine nk_p (i := .iload_n 1) (len := 1) (pc' := 12) mJ_101 (by decide +kernel) (ns_iload_n 1 rfl rfl) rfl ?_
  refine nk_p (i := .iconst 0) (len := 1) (pc' := 13) mJ_101 (by decide +kernel) (ns_iconst (c := 0) (by decide +kernel)) rfl ?_
  obtain ⟨S6, h7, hr⟩ := nk_lte hr
  refine nk_iast (len := 1) (N := 24) (pc' := 14) mJ_101 (by decide +kernel) t5 h2.1 h2.2 rfl rfl h7 ?_
  refine nk_p (i := .aload_n 0) (len := 1) (pc' := 15) mJ_101 (by decide +kernel) (ns_aload_n 0 rfl rfl) rfl ?_
  refine nk_getC (f := (4, 1, 24)) (x := 77) (len := 3) (ci := 13) (k := 28) (pc' := 18) ja_okT mJ_101 (by decide +kernel) (by decide +kernel) (by decide +kernel) (by decide) t_l0 rfl ?_
  have t8 : nk_ar ja_Tt (ja_c l0 28) = some (1, 24) := nk_ta ja_okT t_l0 (by decide +kernel)
  refine nk_p (i := .iload_n 1) (len := 1) (pc' := 19) mJ_101 (by decide +kernel) (ns_iload_n 1 rfl rfl) rfl ?_
  refine nk_p (i := .iconst 0) (len := 1) (pc' := 20) mJ_101 (by decide +kernel) (ns_iconst (c := 0) (by decide +kernel)) rfl ?_
  obtain ⟨S9, h10, hr⟩ := nk_lte hr
  refine nk_iast (len := 1) (N := 24) (pc' := 21) mJ_101 (by decide +kernel) t8 h2.1 h2.2 rfl rfl h10 ?_
  refine nk_p (i := .aload_n 0) (len := 1) (pc' := 22) mJ_101 (by decide +kernel) (ns_aload_n 0 rfl rfl) rfl ?_
  refine nk_getC (f := (4, 2, 24)) (x := 80) (len := 3) (ci := 13) (k := 29) (pc' := 25) ja_okT mJ_101 (by decide +kernel) (by decide +kernel) (by decide +kernel) (by decide) t_l0 rfl ?_
  have t11 : nk_ar ja_Tt (ja_c l0 29) = some (2, 24) := nk_ta ja_okT t_l0 (by decide +kernel)
  refine nk_p (i := .iload_n 1) (len := 1) (pc' := 26) mJ_101 (by decide +kernel) (ns_iload_n 1 rfl rfl) rfl ?_
  refine nk_p (i := .lconst 0) (len := 1) (pc' := 27) mJ_101 (by decide +kernel) (ns_lconst (c := 0) (by decide +kernel)) rfl ?_
  obtain ⟨S12, h13, hr⟩ := nk_lte hr
  refine nk_last (len := 1) (N := 24) (pc' := 28) mJ_101 (by decide +kernel) t11 h2.1 h2.2 rfl rfl h13 ?_
  refine nk_p (i := .aload_n 0) (len := 1) (pc' := 29) mJ_101 (by decide +kernel) (ns_aload_n 0 rfl rfl) rfl ?_
  refine nk_getC (f := (4, 1, 24)) (x := 84) (len := 3) (ci := 13) (k := 30) (pc' := 32) ja_okT mJ_101 (by decide +kernel) (by decide +kernel) (by decide +kernel) (by decide) t_l0 rfl ?_
  have t14 : nk_ar ja_Tt (ja_c l0 30) = some (1, 24) := nk_ta ja_okT t_l0 (by decide +kernel)
  refine nk_p (i := .iload_n 1) (len := 1) (pc' := 33) mJ_101 (by decide +kernel) (ns_iload_n 1 rfl rfl) rfl ?_
  refine nk_p (i := .iconst (-1)) (len := 1) (pc' := 34) mJ_101 (by decide +kernel) (ns_iconst (c := (-1)) (by decide +kernel)) rfl ?_
  obtain ⟨S15, h16, hr⟩ := nk_lte hr
  refine nk_iast (len := 1) (N := 24) (pc' := 35) mJ_101 (by decide +kernel) t14 h2.1 h2.2 rfl rfl h16 ?_
  refine nk_p (i := .aload_n 0) (len := 1) (pc' := 36) mJ_101 (by decide +kernel) (ns_aload_n 0 rfl rfl) rfl ?_
  refine nk_getC (f := (4, 1, 24)) (x := 87) (len := 3) (ci := 13) (k := 31) (pc' := 39) ja_okT mJ_101 (by decide +kernel) (by decide +kernel) (by decide +kernel) (by decide) t_l0 rfl ?_
  have t17 : nk_ar ja_Tt (ja_c l0 31) = some (1, 24) := nk_ta ja_okT t_l0 (by decide +kernel)
  refine nk_p (i := .iload_n 1) (len := 1) (pc' := 40) mJ_101 (by decide +kernel) (ns_iload_n 1 rfl rfl) rfl ?_
  refine nk_p (i := .iconst 0) (len := 1) (pc' := 41) mJ_101 (by decide +kernel) (ns_iconst (c := 0) (by decide +kernel)) rfl ?_
  obtain ⟨S18, h19, hr⟩ := nk_lte hr
  refine nk_iast (len := 1) (N := 24) (pc' := 42) mJ_101 (by decide +kernel) t17 h2.1 h2.2 rfl rfl h19 ?_
  refine nk_p (i := .aload_n 0) (len := 1) (pc' := 43) mJ_101 (by decide +kernel) (ns_aload_n 0 rfl rfl) rfl ?_
  refine nk_getC (f := (4, 1, 24)) (x := 90) (len := 3) (ci := 13) (k := 32) (pc' := 46) ja_okT mJ_101 (by decide +kernel) (by decide +kernel) (by decide +kernel) (by decide) t_l0 rfl ?_
  have t20 : nk_ar ja_Tt (ja_c l0 32) = some (1, 24) := nk_ta ja_okT t_l0 (by decide +kernel)
  refine nk_p (i := .iload_n 1) (len := 1) (pc' := 47) mJ_101 (by decide +kernel) (ns_iload_n 1 rfl rfl) rfl ?_
  refine nk_p (i := .iconst 0) (len := 1) (pc' := 48) mJ_101 (by decide +kernel) (ns_iconst (c := 0) (by decide +kernel)) rfl ?_
  obtain ⟨S21, h22, hr⟩ := nk_lte hr
  refine nk_iast (len := 1) (N := 24) (pc' := 49) mJ_101 (by decide +kernel) t20 h2.1 h2.2 rfl rfl h22 ?_
  refine nk_p (i := .aload_n 0) (len := 1) (pc' := 50) mJ_101 (by decide +kernel) (ns_aload_n 0 rfl rfl) rfl ?_
  refine nk_getC (f := (4, 1, 24)) (x := 93) (len := 3) (ci := 13) (k := 33) (pc' := 53) ja_okT mJ_101 (by decide +kernel) (by decide +kernel) (by decide +kernel) (by decide) t_l0 rfl ?_
  have t23 : nk_ar ja_Tt (ja_c l0 33) = some (1, 24) := nk_ta ja_okT t_l0 (by decide +kernel)
  refine nk_p (i := .iload_n 1) (len := 1) (pc' := 54) mJ_101 (by decide +kernel) (ns_iload_n 1 rfl rfl) rfl ?_
  refine nk_p (i := .iconst 0) (len := 1) (pc' := 55) mJ_101 (by decide +kernel) (ns_iconst (c := 0) (by decide +kernel)) rfl ?_
  obtain ⟨S24, h25, hr⟩ := nk_lte hr
  refine nk_iast (len := 1) (N := 24) (pc' := 56) mJ_101 (by decide +kernel) t23 h2.1 h2.2 rfl rfl h25 ?_
  refine nk_p (i := .aload_n 0) (len := 1) (pc' := 57) mJ_101 (by decide +kernel) (ns_aload_n 0 rfl rfl) rfl ?_
  refine nk_getC (f := (4, 1, 24)) (x := 96) (len := 3) (ci := 13) (k := 34) (pc' := 60) ja_okT mJ_101 (by decide +kernel) (by decide +kernel) (by decide +kernel) (by decide) t_l0 rfl ?_
  have t26 : nk_ar ja_Tt (ja_c l0 34) = some (1, 24) := nk_ta ja_okT t_l0 (by decide +kernel)
  refine nk_p (i := .iload_n 1) (len := 1) (pc' := 61) mJ_101 (by decide +kernel) (ns_iload_n 1 rfl rfl) rfl ?_
  refine nk_p (i := .iconst 0) (len := 1) (pc' := 62) mJ_101 (by decide +kernel) (ns_iconst (c := 0) (by decide +kernel)) rfl ?_
  obtain ⟨S27, h28, hr⟩ := nk_lte hr
  refine nk_iast (len := 1) (N := 24) (pc' := 63) mJ_101 (by decide +kernel) t26 h2.1 h2.2 rfl rfl h28 ?_
  cases hr
  exact nk_vret (len := 1) mJ_101 (by decide +kernel) rfl
/-! SafeCodeModel joinSlot (LSafeCodeModel$Program;II)Z -/
noncomputable def ja_X13_joinSlot_b331 (l0 : Nat) (l1 : Nat) (l2 : Int) (l3 : Int) (l4 : Int) (S : nk_S) : Option (Int × nk_S) :=
  if 0 ≤ l2 ∧ l2 < 20480 then
  if 0 ≤ l3 ∧ l3 < 24 then
  nk_lt (nk_wi S (ja_c l1 40) l2.toNat (nk_iand (S.1 (ja_c l1 40) l2.toNat) (S.1 (ja_c l0 31) l3.toNat))) fun S5 =>
  nk_lt (nk_wi S5 (ja_c l1 41) l2.toNat (nk_iand (S5.1 (ja_c l1 41) l2.toNat) (S5.1 (ja_c l0 32) l3.toNat))) fun S9 =>
  nk_lt (nk_wi S9 (ja_c l1 42) l2.toNat (nk_iand (S9.1 (ja_c l1 42) l2.toNat) (S9.1 (ja_c l0 33) l3.toNat))) fun S13 =>
  nk_lt (nk_wi S13 (ja_c l1 43) l2.toNat (nk_iand (S13.1 (ja_c l1 43) l2.toNat) (S13.1 (ja_c l0 34) l3.toNat))) fun S17 =>
  if l4 = 0 ∨ l4 = 1 then
  some (l4, S17)
  else none
  else none
  else none
theorem ja_X13_joinSlot_b331_ok (zs : List Int32) : ∀ (l0 : Nat) (l1 : Nat) (l2 : Int) (l3 : Int) (l4 : Int) (S : nk_S) (R : Int × nk_S), nk_cl ja_Tt l0 = some 13 → nk_cl ja_Tt l1 = some 12 → ja_X13_joinSlot_b331 l0 l1 l2 l3 l4 S = some R → nk_K ja_Tt mi_Γ (mi_ev zs) 1 167 331 [(0, nk_r l0), (1, nk_r l1), (2, nk_i l2), (3, nk_i l3), (4, nk_i l4)] [] S R := by
  intro l0 l1 l2 l3 l4 S R t_l0 t_l1 hr
  unfold ja_X13_joinSlot_b331 at hr
  refine nk_p (i := .aload_n 1) (len := 1) (pc' := 332) mJ_167 (by decide +kernel) (ns_aload_n 1 rfl rfl) rfl ?_
  refine nk_getC (f := (4, 1, 20480)) (x := 535) (len := 3) (ci := 12) (k := 40) (pc' := 335) ja_okT mJ_167 (by decide +kernel) (by decide +kernel) (by decide +kernel) (by decide) t_l1 rfl ?_
  have t1 : nk_ar ja_Tt (ja_c l1 40) = some (1, 20480) := nk_ta ja_okT t_l1 (by decide +kernel)
  refine nk_p (i := .iload_n 2) (len := 1) (pc' := 336) mJ_167 (by decide +kernel) (ns_iload_n 2 rfl rfl) rfl ?_
  refine nk_p (i := .dup2) (len := 1) (pc' := 337) mJ_167 (by decide +kernel) (ns_dup2 rfl rfl) rfl ?_
  obtain ⟨h2, hr⟩ := nk_cke hr
  refine nk_iald (len := 1) (N := 20480) (pc' := 338) mJ_167 (by decide +kernel) t1 h2.1 h2.2 rfl rfl ?_
  refine nk_p (i := .aload_n 0) (len := 1) (pc' := 339) mJ_167 (by decide +kernel) (ns_aload_n 0 rfl rfl) rfl ?_
  refine nk_getC (f := (4, 1, 24)) (x := 87) (len := 3) (ci := 13) (k := 31) (pc' := 342) ja_okT mJ_167 (by decide +kernel) (by decide +kernel) (by decide +kernel) (by decide) t_l0 rfl ?_
  have t3 : nk_ar ja_Tt (ja_c l0 31) = some (1, 24) := nk_ta ja_okT t_l0 (by decide +kernel)
  refine nk_p (i := .iload_n 3) (len := 1) (pc' := 343) mJ_167 (by decide +kernel) (ns_iload_n 3 rfl rfl) rfl ?_
  obtain ⟨h4, hr⟩ := nk_cke hr
  refine nk_iald (len := 1) (N := 24) (pc' := 344) mJ_167 (by decide +kernel) t3 h4.1 h4.2 rfl rfl ?_
  refine nk_p (i := .iand) (len := 1) (pc' := 345) mJ_167 (by decide +kernel) ns_iand rfl ?_
  obtain ⟨S5, h6, hr⟩ := nk_lte hr
  refine nk_iast (len := 1) (N := 20480) (pc' := 346) mJ_167 (by decide +kernel) t1 h2.1 h2.2 rfl rfl h6 ?_
  refine nk_p (i := .aload_n 1) (len := 1) (pc' := 347) mJ_167 (by decide +kernel) (ns_aload_n 1 rfl rfl) rfl ?_
  refine nk_getC (f := (4, 1, 20480)) (x := 536) (len := 3) (ci := 12) (k := 41) (pc' := 350) ja_okT mJ_167 (by decide +kernel) (by decide +kernel) (by decide +kernel) (by decide) t_l1 rfl ?_
  have t7 : nk_ar ja_Tt (ja_c l1 41) = some (1, 20480) := nk_ta ja_okT t_l1 (by decide +kernel)
  refine nk_p (i := .iload_n 2) (len := 1) (pc' := 351) mJ_167 (by decide +kernel) (ns_iload_n 2 rfl rfl) rfl ?_
  refine nk_p (i := .dup2) (len := 1) (pc' := 352) mJ_167 (by decide +kernel) (ns_dup2 rfl rfl) rfl ?_
  refine nk_iald (len := 1) (N := 20480) (pc' := 353) mJ_167 (by decide +kernel) t7 h2.1 h2.2 rfl rfl ?_
  refine nk_p (i := .aload_n 0) (len := 1) (pc' := 354) mJ_167 (by decide +kernel) (ns_aload_n 0 rfl rfl) rfl ?_
  refine nk_getC (f := (4, 1, 24)) (x := 90) (len := 3) (ci := 13) (k := 32) (pc' := 357) ja_okT mJ_167 (by decide +kernel) (by decide +kernel) (by decide +kernel) (by decide) t_l0 rfl ?_
  have t8 : nk_ar ja_Tt (ja_c l0 32) = some (1, 24) := nk_ta ja_okT t_l0 (by decide +kernel)
  refine nk_p (i := .iload_n 3) (len := 1) (pc' := 358) mJ_167 (by decide +kernel) (ns_iload_n 3 rfl rfl) rfl ?_
  refine nk_iald (len := 1) (N := 24) (pc' := 359) mJ_167 (by decide +kernel) t8 h4.1 h4.2 rfl rfl ?_
  refine nk_p (i := .iand) (len := 1) (pc' := 360) mJ_167 (by decide +kernel) ns_iand rfl ?_
  obtain ⟨S9, h10, hr⟩ := nk_lte hr
  refine nk_iast (len := 1) (N := 20480) (pc' := 361) mJ_167 (by decide +kernel) t7 h2.1 h2.2 rfl rfl h10 ?_
  refine nk_p (i := .aload_n 1) (len := 1) (pc' := 362) mJ_167 (by decide +kernel) (ns_aload_n 1 rfl rfl) rfl ?_
  refine nk_getC (f := (4, 1, 20480)) (x := 537) (len := 3) (ci := 12) (k := 42) (pc' := 365) ja_okT mJ_167 (by decide +kernel) (by decide +kernel) (by decide +kernel) (by decide) t_l1 rfl ?_
  have t11 : nk_ar ja_Tt (ja_c l1 42) = some (1, 20480) := nk_ta ja_okT t_l1 (by decide +kernel)
  refine nk_p (i := .iload_n 2) (len := 1) (pc' := 366) mJ_167 (by decide +kernel) (ns_iload_n 2 rfl rfl) rfl ?_
  refine nk_p (i := .dup2) (len := 1) (pc' := 367) mJ_167 (by decide +kernel) (ns_dup2 rfl rfl) rfl ?_
  refine nk_iald (len := 1) (N := 20480) (pc' := 368) mJ_167 (by decide +kernel) t11 h2.1 h2.2 rfl rfl ?_
  refine nk_p (i := .aload_n 0) (len := 1) (pc' := 369) mJ_167 (by decide +kernel) (ns_aload_n 0 rfl rfl) rfl ?_
  refine nk_getC (f := (4, 1, 24)) (x := 93) (len := 3) (ci := 13) (k := 33) (pc' := 372) ja_okT mJ_167 (by decide +kernel) (by decide +kernel) (by decide +kernel) (by decide) t_l0 rfl ?_
  have t12 : nk_ar ja_Tt (ja_c l0 33) = some (1, 24) := nk_ta ja_okT t_l0 (by decide +kernel)
  refine nk_p (i := .iload_n 3) (len := 1) (pc' := 373) mJ_167 (by decide +kernel) (ns_iload_n 3 rfl rfl) rfl ?_
  refine nk_iald (len := 1) (N := 24) (pc' := 374) mJ_167 (by decide +kernel) t12 h4.1 h4.2 rfl rfl ?_
  refine nk_p (i := .iand) (len := 1) (pc' := 375) mJ_167 (by decide +kernel) ns_iand rfl ?_
  obtain ⟨S13, h14, hr⟩ := nk_lte hr
  refine nk_iast (len := 1) (N := 20480) (pc' := 376) mJ_167 (by decide +kernel) t11 h2.1 h2.2 rfl rfl h14 ?_
  refine nk_p (i := .aload_n 1) (len := 1) (pc' := 377) mJ_167 (by decide +kernel) (ns_aload_n 1 rfl rfl) rfl ?_
  refine nk_getC (f := (4, 1, 20480)) (x := 538) (len := 3) (ci := 12) (k := 43) (pc' := 380) ja_okT mJ_167 (by decide +kernel) (by decide +kernel) (by decide +kernel) (by decide) t_l1 rfl ?_
  have t15 : nk_ar ja_Tt (ja_c l1 43) = some (1, 20480) := nk_ta ja_okT t_l1 (by decide +kernel)
  refine nk_p (i := .iload_n 2) (len := 1) (pc' := 381) mJ_167 (by decide +kernel) (ns_iload_n 2 rfl rfl) rfl ?_
  refine nk_p (i := .dup2) (len := 1) (pc' := 382) mJ_167 (by decide +kernel) (ns_dup2 rfl rfl) rfl ?_
  refine nk_iald (len := 1) (N := 20480) (pc' := 383) mJ_167 (by decide +kernel) t15 h2.1 h2.2 rfl rfl ?_
  refine nk_p (i := .aload_n 0) (len := 1) (pc' := 384) mJ_167 (by decide +kernel) (ns_aload_n 0 rfl rfl) rfl ?_
  refine nk_getC (f := (4, 1, 24)) (x := 96) (len := 3) (ci := 13) (k := 34) (pc' := 387) ja_okT mJ_167 (by decide +kernel) (by decide +kernel) (by decide +kernel) (by decide) t_l0 rfl ?_
  have t16 : nk_ar ja_Tt (ja_c l0 34) = some (1, 24) := nk_ta ja_okT t_l0 (by decide +kernel)
  refine nk_p (i := .iload_n 3) (len := 1) (pc' := 388) mJ_167 (by decide +kernel) (ns_iload_n 3 rfl rfl) rfl ?_
  refine nk_iald (len := 1) (N := 24) (pc' := 389) mJ_167 (by decide +kernel) t16 h4.1 h4.2 rfl rfl ?_
  refine nk_p (i := .iand) (len := 1) (pc' := 390) mJ_167 (by decide +kernel) ns_iand rfl ?_
  obtain ⟨S17, h18, hr⟩ := nk_lte hr
  refine nk_iast (len := 1) (N := 20480) (pc' := 391) mJ_167 (by decide +kernel) t15 h2.1 h2.2 rfl rfl h18 ?_
  refine nk_p (i := .iload 4) (len := 2) (pc' := 393) mJ_167 (by decide +kernel) (ns_iload 4 rfl) rfl ?_
  obtain ⟨h19, hr⟩ := nk_cke hr
  cases hr
  exact nk_iret (ty := .boolean) (len := 1) mJ_167 (by decide +kernel) rfl (nk_nar_z h19)
noncomputable def ja_X13_joinSlot_b250 (l0 : Nat) (l1 : Nat) (l2 : Int) (l3 : Int) (s0 : Int) (S : nk_S) : Option (Int × nk_S) :=
  if 0 ≤ l2 ∧ l2 < 20480 then
  if 0 ≤ l3 ∧ l3 < 24 then
  nk_bd (ja_J9_min_7cf53 (S.1 (ja_c l1 36) l2.toNat) (S.1 (ja_c l0 27) l3.toNat) S) fun r5 S6 =>
  nk_lt (nk_wi S6 (ja_c l1 36) l2.toNat r5) fun S8 =>
  nk_bd (ja_J9_max_7cf53 (S8.1 (ja_c l1 37) l2.toNat) (S8.1 (ja_c l0 28) l3.toNat) S8) fun r12 S13 =>
  nk_lt (nk_wi S13 (ja_c l1 37) l2.toNat r12) fun S15 =>
  nk_lt (nk_wi S15 (ja_c l1 38) l2.toNat (nk_lor (S15.1 (ja_c l1 38) l2.toNat) (S15.1 (ja_c l0 29) l3.toNat))) fun S19 =>
  if (S19.1 (ja_c l0 30) l3.toNat) = (S19.1 (ja_c l1 39) l2.toNat) then
    ja_X13_joinSlot_b331 l0 l1 l2 l3 s0 S19
  else
    nk_lt (nk_wi S19 (ja_c l1 39) l2.toNat (nk_i2b (-1))) fun S23 =>
    ja_X13_joinSlot_b331 l0 l1 l2 l3 s0 S23
  else none
  else none
theorem ja_X13_joinSlot_b250_ok (zs : List Int32) : ∀ (l0 : Nat) (l1 : Nat) (l2 : Int) (l3 : Int) (s0 : Int) (S : nk_S) (R : Int × nk_S), nk_cl ja_Tt l0 = some 13 → nk_cl ja_Tt l1 = some 12 → ja_X13_joinSlot_b250 l0 l1 l2 l3 s0 S = some R → nk_K ja_Tt mi_Γ (mi_ev zs) 1 167 250 [(0, nk_r l0), (1, nk_r l1), (2, nk_i l2), (3, nk_i l3)] [nk_i s0] S R := by
  intro l0 l1 l2 l3 s0 S R t_l0 t_l1 hr
  unfold ja_X13_joinSlot_b250 at hr
  refine nk_p (i := .istore 4) (len := 2) (pc' := 252) mJ_167 (by decide +kernel) (ns_istore (L' := [(4, nk_i s0), (0, nk_r l0), (1, nk_r l1), (2, nk_i l2), (3, nk_i l3)]) rfl rfl (by decide +kernel)) rfl ?_
  refine nk_p (i := .aload_n 1) (len := 1) (pc' := 253) mJ_167 (by decide +kernel) (ns_aload_n 2 rfl rfl) rfl ?_
  refine nk_getC (f := (4, 1, 20480)) (x := 530) (len := 3) (ci := 12) (k := 36) (pc' := 256) ja_okT mJ_167 (by decide +kernel) (by decide +kernel) (by decide +kernel) (by decide) t_l1 rfl ?_
  have t1 : nk_ar ja_Tt (ja_c l1 36) = some (1, 20480) := nk_ta ja_okT t_l1 (by decide +kernel)
  refine nk_p (i := .iload_n 2) (len := 1) (pc' := 257) mJ_167 (by decide +kernel) (ns_iload_n 3 rfl rfl) rfl ?_
  refine nk_p (i := .aload_n 1) (len := 1) (pc' := 258) mJ_167 (by decide +kernel) (ns_aload_n 2 rfl rfl) rfl ?_
  refine nk_getC (f := (4, 1, 20480)) (x := 530) (len := 3) (ci := 12) (k := 36) (pc' := 261) ja_okT mJ_167 (by decide +kernel) (by decide +kernel) (by decide +kernel) (by decide) t_l1 rfl ?_
  refine nk_p (i := .iload_n 2) (len := 1) (pc' := 262) mJ_167 (by decide +kernel) (ns_iload_n 3 rfl rfl) rfl ?_
  obtain ⟨h2, hr⟩ := nk_cke hr
  refine nk_iald (len := 1) (N := 20480) (pc' := 263) mJ_167 (by decide +kernel) t1 h2.1 h2.2 rfl rfl ?_
  refine nk_p (i := .aload_n 0) (len := 1) (pc' := 264) mJ_167 (by decide +kernel) (ns_aload_n 1 rfl rfl) rfl ?_
  refine nk_getC (f := (4, 1, 24)) (x := 74) (len := 3) (ci := 13) (k := 27) (pc' := 267) ja_okT mJ_167 (by decide +kernel) (by decide +kernel) (by decide +kernel) (by decide) t_l0 rfl ?_
  have t3 : nk_ar ja_Tt (ja_c l0 27) = some (1, 24) := nk_ta ja_okT t_l0 (by decide +kernel)
  refine nk_p (i := .iload_n 3) (len := 1) (pc' := 268) mJ_167 (by decide +kernel) (ns_iload_n 4 rfl rfl) rfl ?_
  obtain ⟨h4, hr⟩ := nk_cke hr
  refine nk_iald (len := 1) (N := 24) (pc' := 269) mJ_167 (by decide +kernel) t3 h4.1 h4.2 rfl rfl ?_
  obtain ⟨r5, S6, h7, hr⟩ := nk_bde hr
  refine nk_callS (ci := 0) (n := 2) (x := 551) (len := 3) (j' := 18) (q' := 1) (r := r5) (S' := S6) (L2 := [(0, nk_i (S.1 (ja_c l1 36) l2.toNat)), (1, nk_i (S.1 (ja_c l0 27) l3.toNat))]) (rest := [nk_i l2, nk_r (ja_c l1 36)]) (st' := [nk_i r5, nk_i l2, nk_r (ja_c l1 36)]) (pc' := 272) mJ_167 (by decide +kernel) (by decide +kernel) (Nat.le_of_ble_eq_true rfl) rfl rfl (Nat.le_of_ble_eq_true rfl) mJ_18 (Nat.le_of_ble_eq_true rfl) ja_Tpos rfl (ja_J9_min_7cf53_ok zs _ _ _ _ h7) rfl ?_
  obtain ⟨S8, h9, hr⟩ := nk_lte hr
  refine nk_iast (len := 1) (N := 20480) (pc' := 273) mJ_167 (by decide +kernel) t1 h2.1 h2.2 rfl rfl h9 ?_
  refine nk_p (i := .aload_n 1) (len := 1) (pc' := 274) mJ_167 (by decide +kernel) (ns_aload_n 2 rfl rfl) rfl ?_
  refine nk_getC (f := (4, 1, 20480)) (x := 531) (len := 3) (ci := 12) (k := 37) (pc' := 277) ja_okT mJ_167 (by decide +kernel) (by decide +kernel) (by decide +kernel) (by decide) t_l1 rfl ?_
  have t10 : nk_ar ja_Tt (ja_c l1 37) = some (1, 20480) := nk_ta ja_okT t_l1 (by decide +kernel)
  refine nk_p (i := .iload_n 2) (len := 1) (pc' := 278) mJ_167 (by decide +kernel) (ns_iload_n 3 rfl rfl) rfl ?_
  refine nk_p (i := .aload_n 1) (len := 1) (pc' := 279) mJ_167 (by decide +kernel) (ns_aload_n 2 rfl rfl) rfl ?_
  refine nk_getC (f := (4, 1, 20480)) (x := 531) (len := 3) (ci := 12) (k := 37) (pc' := 282) ja_okT mJ_167 (by decide +kernel) (by decide +kernel) (by decide +kernel) (by decide) t_l1 rfl ?_
  refine nk_p (i := .iload_n 2) (len := 1) (pc' := 283) mJ_167 (by decide +kernel) (ns_iload_n 3 rfl rfl) rfl ?_
  refine nk_iald (len := 1) (N := 20480) (pc' := 284) mJ_167 (by decide +kernel) t10 h2.1 h2.2 rfl rfl ?_
  refine nk_p (i := .aload_n 0) (len := 1) (pc' := 285) mJ_167 (by decide +kernel) (ns_aload_n 1 rfl rfl) rfl ?_
  refine nk_getC (f := (4, 1, 24)) (x := 77) (len := 3) (ci := 13) (k := 28) (pc' := 288) ja_okT mJ_167 (by decide +kernel) (by decide +kernel) (by decide +kernel) (by decide) t_l0 rfl ?_
  have t11 : nk_ar ja_Tt (ja_c l0 28) = some (1, 24) := nk_ta ja_okT t_l0 (by decide +kernel)
  refine nk_p (i := .iload_n 3) (len := 1) (pc' := 289) mJ_167 (by decide +kernel) (ns_iload_n 4 rfl rfl) rfl ?_
  refine nk_iald (len := 1) (N := 24) (pc' := 290) mJ_167 (by decide +kernel) t11 h4.1 h4.2 rfl rfl ?_
  obtain ⟨r12, S13, h14, hr⟩ := nk_bde hr
  refine nk_callS (ci := 0) (n := 2) (x := 557) (len := 3) (j' := 16) (q' := 1) (r := r12) (S' := S13) (L2 := [(0, nk_i (S8.1 (ja_c l1 37) l2.toNat)), (1, nk_i (S8.1 (ja_c l0 28) l3.toNat))]) (rest := [nk_i l2, nk_r (ja_c l1 37)]) (st' := [nk_i r12, nk_i l2, nk_r (ja_c l1 37)]) (pc' := 293) mJ_167 (by decide +kernel) (by decide +kernel) (Nat.le_of_ble_eq_true rfl) rfl rfl (Nat.le_of_ble_eq_true rfl) mJ_16 (Nat.le_of_ble_eq_true rfl) ja_Tpos rfl (ja_J9_max_7cf53_ok zs _ _ _ _ h14) rfl ?_
  obtain ⟨S15, h16, hr⟩ := nk_lte hr
  refine nk_iast (len := 1) (N := 20480) (pc' := 294) mJ_167 (by decide +kernel) t10 h2.1 h2.2 rfl rfl h16 ?_
  refine nk_p (i := .aload_n 1) (len := 1) (pc' := 295) mJ_167 (by decide +kernel) (ns_aload_n 2 rfl rfl) rfl ?_
  refine nk_getC (f := (4, 2, 20480)) (x := 532) (len := 3) (ci := 12) (k := 38) (pc' := 298) ja_okT mJ_167 (by decide +kernel) (by decide +kernel) (by decide +kernel) (by decide) t_l1 rfl ?_
  have t17 : nk_ar ja_Tt (ja_c l1 38) = some (2, 20480) := nk_ta ja_okT t_l1 (by decide +kernel)
  refine nk_p (i := .iload_n 2) (len := 1) (pc' := 299) mJ_167 (by decide +kernel) (ns_iload_n 3 rfl rfl) rfl ?_
  refine nk_p (i := .dup2) (len := 1) (pc' := 300) mJ_167 (by decide +kernel) (ns_dup2 rfl rfl) rfl ?_
  refine nk_lald (len := 1) (N := 20480) (pc' := 301) mJ_167 (by decide +kernel) t17 h2.1 h2.2 rfl rfl ?_
  refine nk_p (i := .aload_n 0) (len := 1) (pc' := 302) mJ_167 (by decide +kernel) (ns_aload_n 1 rfl rfl) rfl ?_
  refine nk_getC (f := (4, 2, 24)) (x := 80) (len := 3) (ci := 13) (k := 29) (pc' := 305) ja_okT mJ_167 (by decide +kernel) (by decide +kernel) (by decide +kernel) (by decide) t_l0 rfl ?_
  have t18 : nk_ar ja_Tt (ja_c l0 29) = some (2, 24) := nk_ta ja_okT t_l0 (by decide +kernel)
  refine nk_p (i := .iload_n 3) (len := 1) (pc' := 306) mJ_167 (by decide +kernel) (ns_iload_n 4 rfl rfl) rfl ?_
  refine nk_lald (len := 1) (N := 24) (pc' := 307) mJ_167 (by decide +kernel) t18 h4.1 h4.2 rfl rfl ?_
  refine nk_p (i := .lor) (len := 1) (pc' := 308) mJ_167 (by decide +kernel) ns_lor rfl ?_
  obtain ⟨S19, h20, hr⟩ := nk_lte hr
  refine nk_last (len := 1) (N := 20480) (pc' := 309) mJ_167 (by decide +kernel) t17 h2.1 h2.2 rfl rfl h20 ?_
  refine nk_p (i := .aload_n 0) (len := 1) (pc' := 310) mJ_167 (by decide +kernel) (ns_aload_n 1 rfl rfl) rfl ?_
  refine nk_getC (f := (4, 1, 24)) (x := 84) (len := 3) (ci := 13) (k := 30) (pc' := 313) ja_okT mJ_167 (by decide +kernel) (by decide +kernel) (by decide +kernel) (by decide) t_l0 rfl ?_
  have t21 : nk_ar ja_Tt (ja_c l0 30) = some (1, 24) := nk_ta ja_okT t_l0 (by decide +kernel)
  refine nk_p (i := .iload_n 3) (len := 1) (pc' := 314) mJ_167 (by decide +kernel) (ns_iload_n 4 rfl rfl) rfl ?_
  refine nk_iald (len := 1) (N := 24) (pc' := 315) mJ_167 (by decide +kernel) t21 h4.1 h4.2 rfl rfl ?_
  refine nk_p (i := .aload_n 1) (len := 1) (pc' := 316) mJ_167 (by decide +kernel) (ns_aload_n 2 rfl rfl) rfl ?_
  refine nk_getC (f := (4, 0, 20480)) (x := 533) (len := 3) (ci := 12) (k := 39) (pc' := 319) ja_okT mJ_167 (by decide +kernel) (by decide +kernel) (by decide +kernel) (by decide) t_l1 rfl ?_
  have t22 : nk_ar ja_Tt (ja_c l1 39) = some (0, 20480) := nk_ta ja_okT t_l1 (by decide +kernel)
  refine nk_p (i := .iload_n 2) (len := 1) (pc' := 320) mJ_167 (by decide +kernel) (ns_iload_n 3 rfl rfl) rfl ?_
  refine nk_bald (t := 0) (len := 1) (N := 20480) (pc' := 321) mJ_167 (by decide +kernel) t22 (by decide) h2.1 h2.2 rfl rfl ?_
  refine nk_icmp (c := .eq) (off := 10) (len := 3) (t := 331) (pc' := 324) mJ_167 (by decide +kernel) (by decide +kernel) rfl (fun hc => ?_) (fun hc => ?_)
  · have hr := nk_ifp (c := (S19.1 (ja_c l0 30) l3.toNat) = (S19.1 (ja_c l1 39) l2.toNat)) hc hr
    refine nk_sub [1, 2, 3, 4, 0] (L' := [(0, nk_r l0), (1, nk_r l1), (2, nk_i l2), (3, nk_i l3), (4, nk_i s0)]) rfl ?_
    exact ja_X13_joinSlot_b331_ok zs _ _ _ _ _ _ _ t_l0 t_l1 hr
  · have hr := nk_ifn (c := (S19.1 (ja_c l0 30) l3.toNat) = (S19.1 (ja_c l1 39) l2.toNat)) hc hr
    refine nk_p (i := .aload_n 1) (len := 1) (pc' := 325) mJ_167 (by decide +kernel) (ns_aload_n 2 rfl rfl) rfl ?_
    refine nk_getC (f := (4, 0, 20480)) (x := 533) (len := 3) (ci := 12) (k := 39) (pc' := 328) ja_okT mJ_167 (by decide +kernel) (by decide +kernel) (by decide +kernel) (by decide) t_l1 rfl ?_
    refine nk_p (i := .iload_n 2) (len := 1) (pc' := 329) mJ_167 (by decide +kernel) (ns_iload_n 3 rfl rfl) rfl ?_
    refine nk_p (i := .iconst (-1)) (len := 1) (pc' := 330) mJ_167 (by decide +kernel) (ns_iconst (c := (-1)) (by decide +kernel)) rfl ?_
    obtain ⟨S23, h24, hr⟩ := nk_lte hr
    refine nk_bast (len := 1) (N := 20480) (pc' := 331) mJ_167 (by decide +kernel) t22 h2.1 h2.2 rfl rfl h24 ?_
    refine nk_sub [1, 2, 3, 4, 0] (L' := [(0, nk_r l0), (1, nk_r l1), (2, nk_i l2), (3, nk_i l3), (4, nk_i s0)]) rfl ?_
    exact ja_X13_joinSlot_b331_ok zs _ _ _ _ _ _ _ t_l0 t_l1 hr
noncomputable def ja_X13_joinSlot_b245 (l0 : Nat) (l1 : Nat) (l2 : Int) (l3 : Int) (S : nk_S) : Option (Int × nk_S) :=
  ja_X13_joinSlot_b250 l0 l1 l2 l3 1 S
theorem ja_X13_joinSlot_b245_ok (zs : List Int32) : ∀ (l0 : Nat) (l1 : Nat) (l2 : Int) (l3 : Int) (S : nk_S) (R : Int × nk_S), nk_cl ja_Tt l0 = some 13 → nk_cl ja_Tt l1 = some 12 → ja_X13_joinSlot_b245 l0 l1 l2 l3 S = some R → nk_K ja_Tt mi_Γ (mi_ev zs) 1 167 245 [(0, nk_r l0), (1, nk_r l1), (2, nk_i l2), (3, nk_i l3)] [] S R := by
  intro l0 l1 l2 l3 S R t_l0 t_l1 hr
  unfold ja_X13_joinSlot_b245 at hr
  refine nk_p (i := .iconst 1) (len := 1) (pc' := 246) mJ_167 (by decide +kernel) (ns_iconst (c := 1) (by decide +kernel)) rfl ?_
  refine nk_p (i := .goto 4) (len := 3) (pc' := 250) mJ_167 (by decide +kernel) (ns_goto (by decide +kernel)) rfl ?_
  exact ja_X13_joinSlot_b250_ok zs _ _ _ _ _ _ _ t_l0 t_l1 hr
noncomputable def ja_X13_joinSlot_b172 (l0 : Nat) (l1 : Nat) (l2 : Int) (l3 : Int) (s0 : Int) (S : nk_S) : Option (Int × nk_S) :=
  if s0 = 0 then
    if 0 ≤ l2 ∧ l2 < 20480 then
    if 0 ≤ l3 ∧ l3 < 24 then
    if (nk_ior (nk_ior (nk_ior (nk_iand (S.1 (ja_c l1 40) l2.toNat) (nk_ixor (S.1 (ja_c l0 31) l3.toNat) (-1))) (nk_iand (S.1 (ja_c l1 41) l2.toNat) (nk_ixor (S.1 (ja_c l0 32) l3.toNat) (-1)))) (nk_iand (S.1 (ja_c l1 42) l2.toNat) (nk_ixor (S.1 (ja_c l0 33) l3.toNat) (-1)))) (nk_iand (S.1 (ja_c l1 43) l2.toNat) (nk_ixor (S.1 (ja_c l0 34) l3.toNat) (-1)))) = 0 then
      ja_X13_joinSlot_b250 l0 l1 l2 l3 0 S
    else
      ja_X13_joinSlot_b245 l0 l1 l2 l3 S
    else none
    else none
  else
    ja_X13_joinSlot_b245 l0 l1 l2 l3 S
theorem ja_X13_joinSlot_b172_ok (zs : List Int32) : ∀ (l0 : Nat) (l1 : Nat) (l2 : Int) (l3 : Int) (s0 : Int) (S : nk_S) (R : Int × nk_S), nk_cl ja_Tt l0 = some 13 → nk_cl ja_Tt l1 = some 12 → ja_X13_joinSlot_b172 l0 l1 l2 l3 s0 S = some R → nk_K ja_Tt mi_Γ (mi_ev zs) 1 167 172 [(0, nk_r l0), (1, nk_r l1), (2, nk_i l2), (3, nk_i l3)] [nk_i s0] S R := by
  intro l0 l1 l2 l3 s0 S R t_l0 t_l1 hr
  unfold ja_X13_joinSlot_b172 at hr
  refine nk_p (i := .istore 4) (len := 2) (pc' := 174) mJ_167 (by decide +kernel) (ns_istore (L' := [(4, nk_i s0), (0, nk_r l0), (1, nk_r l1), (2, nk_i l2), (3, nk_i l3)]) rfl rfl (by decide +kernel)) rfl ?_
  refine nk_p (i := .iload 4) (len := 2) (pc' := 176) mJ_167 (by decide +kernel) (ns_iload 0 rfl) rfl ?_
  refine nk_icond (c := .ne) (off := 69) (len := 3) (t := 245) (pc' := 179) mJ_167 (by decide +kernel) (by decide +kernel) rfl (fun hc => ?_) (fun hc => ?_)
  · have hr := nk_ifn (c := s0 = 0) hc hr
    refine nk_sub [1, 2, 3, 4] (L' := [(0, nk_r l0), (1, nk_r l1), (2, nk_i l2), (3, nk_i l3)]) rfl ?_
    exact ja_X13_joinSlot_b245_ok zs _ _ _ _ _ _ t_l0 t_l1 hr
  · have hr := nk_ifp (c := s0 = 0) (Decidable.of_not_not hc) hr
    refine nk_p (i := .aload_n 1) (len := 1) (pc' := 180) mJ_167 (by decide +kernel) (ns_aload_n 2 rfl rfl) rfl ?_
    refine nk_getC (f := (4, 1, 20480)) (x := 535) (len := 3) (ci := 12) (k := 40) (pc' := 183) ja_okT mJ_167 (by decide +kernel) (by decide +kernel) (by decide +kernel) (by decide) t_l1 rfl ?_
    have t1 : nk_ar ja_Tt (ja_c l1 40) = some (1, 20480) := nk_ta ja_okT t_l1 (by decide +kernel)
    refine nk_p (i := .iload_n 2) (len := 1) (pc' := 184) mJ_167 (by decide +kernel) (ns_iload_n 3 rfl rfl) rfl ?_
    obtain ⟨h2, hr⟩ := nk_cke hr
    refine nk_iald (len := 1) (N := 20480) (pc' := 185) mJ_167 (by decide +kernel) t1 h2.1 h2.2 rfl rfl ?_
    refine nk_p (i := .aload_n 0) (len := 1) (pc' := 186) mJ_167 (by decide +kernel) (ns_aload_n 1 rfl rfl) rfl ?_
    refine nk_getC (f := (4, 1, 24)) (x := 87) (len := 3) (ci := 13) (k := 31) (pc' := 189) ja_okT mJ_167 (by decide +kernel) (by decide +kernel) (by decide +kernel) (by decide) t_l0 rfl ?_
    have t3 : nk_ar ja_Tt (ja_c l0 31) = some (1, 24) := nk_ta ja_okT t_l0 (by decide +kernel)
    refine nk_p (i := .iload_n 3) (len := 1) (pc' := 190) mJ_167 (by decide +kernel) (ns_iload_n 4 rfl rfl) rfl ?_
    obtain ⟨h4, hr⟩ := nk_cke hr
    refine nk_iald (len := 1) (N := 24) (pc' := 191) mJ_167 (by decide +kernel) t3 h4.1 h4.2 rfl rfl ?_
    refine nk_p (i := .iconst (-1)) (len := 1) (pc' := 192) mJ_167 (by decide +kernel) (ns_iconst (c := (-1)) (by decide +kernel)) rfl ?_
    refine nk_p (i := .ixor) (len := 1) (pc' := 193) mJ_167 (by decide +kernel) ns_ixor rfl ?_
    refine nk_p (i := .iand) (len := 1) (pc' := 194) mJ_167 (by decide +kernel) ns_iand rfl ?_
    refine nk_p (i := .aload_n 1) (len := 1) (pc' := 195) mJ_167 (by decide +kernel) (ns_aload_n 2 rfl rfl) rfl ?_
    refine nk_getC (f := (4, 1, 20480)) (x := 536) (len := 3) (ci := 12) (k := 41) (pc' := 198) ja_okT mJ_167 (by decide +kernel) (by decide +kernel) (by decide +kernel) (by decide) t_l1 rfl ?_
    have t5 : nk_ar ja_Tt (ja_c l1 41) = some (1, 20480) := nk_ta ja_okT t_l1 (by decide +kernel)
    refine nk_p (i := .iload_n 2) (len := 1) (pc' := 199) mJ_167 (by decide +kernel) (ns_iload_n 3 rfl rfl) rfl ?_
    refine nk_iald (len := 1) (N := 20480) (pc' := 200) mJ_167 (by decide +kernel) t5 h2.1 h2.2 rfl rfl ?_
    refine nk_p (i := .aload_n 0) (len := 1) (pc' := 201) mJ_167 (by decide +kernel) (ns_aload_n 1 rfl rfl) rfl ?_
    refine nk_getC (f := (4, 1, 24)) (x := 90) (len := 3) (ci := 13) (k := 32) (pc' := 204) ja_okT mJ_167 (by decide +kernel) (by decide +kernel) (by decide +kernel) (by decide) t_l0 rfl ?_
    have t6 : nk_ar ja_Tt (ja_c l0 32) = some (1, 24) := nk_ta ja_okT t_l0 (by decide +kernel)
    refine nk_p (i := .iload_n 3) (len := 1) (pc' := 205) mJ_167 (by decide +kernel) (ns_iload_n 4 rfl rfl) rfl ?_
    refine nk_iald (len := 1) (N := 24) (pc' := 206) mJ_167 (by decide +kernel) t6 h4.1 h4.2 rfl rfl ?_
    refine nk_p (i := .iconst (-1)) (len := 1) (pc' := 207) mJ_167 (by decide +kernel) (ns_iconst (c := (-1)) (by decide +kernel)) rfl ?_
    refine nk_p (i := .ixor) (len := 1) (pc' := 208) mJ_167 (by decide +kernel) ns_ixor rfl ?_
    refine nk_p (i := .iand) (len := 1) (pc' := 209) mJ_167 (by decide +kernel) ns_iand rfl ?_
    refine nk_p (i := .ior) (len := 1) (pc' := 210) mJ_167 (by decide +kernel) ns_ior rfl ?_
    refine nk_p (i := .aload_n 1) (len := 1) (pc' := 211) mJ_167 (by decide +kernel) (ns_aload_n 2 rfl rfl) rfl ?_
    refine nk_getC (f := (4, 1, 20480)) (x := 537) (len := 3) (ci := 12) (k := 42) (pc' := 214) ja_okT mJ_167 (by decide +kernel) (by decide +kernel) (by decide +kernel) (by decide) t_l1 rfl ?_
    have t7 : nk_ar ja_Tt (ja_c l1 42) = some (1, 20480) := nk_ta ja_okT t_l1 (by decide +kernel)
    refine nk_p (i := .iload_n 2) (len := 1) (pc' := 215) mJ_167 (by decide +kernel) (ns_iload_n 3 rfl rfl) rfl ?_
    refine nk_iald (len := 1) (N := 20480) (pc' := 216) mJ_167 (by decide +kernel) t7 h2.1 h2.2 rfl rfl ?_
    refine nk_p (i := .aload_n 0) (len := 1) (pc' := 217) mJ_167 (by decide +kernel) (ns_aload_n 1 rfl rfl) rfl ?_
    refine nk_getC (f := (4, 1, 24)) (x := 93) (len := 3) (ci := 13) (k := 33) (pc' := 220) ja_okT mJ_167 (by decide +kernel) (by decide +kernel) (by decide +kernel) (by decide) t_l0 rfl ?_
    have t8 : nk_ar ja_Tt (ja_c l0 33) = some (1, 24) := nk_ta ja_okT t_l0 (by decide +kernel)
    refine nk_p (i := .iload_n 3) (len := 1) (pc' := 221) mJ_167 (by decide +kernel) (ns_iload_n 4 rfl rfl) rfl ?_
    refine nk_iald (len := 1) (N := 24) (pc' := 222) mJ_167 (by decide +kernel) t8 h4.1 h4.2 rfl rfl ?_
    refine nk_p (i := .iconst (-1)) (len := 1) (pc' := 223) mJ_167 (by decide +kernel) (ns_iconst (c := (-1)) (by decide +kernel)) rfl ?_
    refine nk_p (i := .ixor) (len := 1) (pc' := 224) mJ_167 (by decide +kernel) ns_ixor rfl ?_
    refine nk_p (i := .iand) (len := 1) (pc' := 225) mJ_167 (by decide +kernel) ns_iand rfl ?_
    refine nk_p (i := .ior) (len := 1) (pc' := 226) mJ_167 (by decide +kernel) ns_ior rfl ?_
    refine nk_p (i := .aload_n 1) (len := 1) (pc' := 227) mJ_167 (by decide +kernel) (ns_aload_n 2 rfl rfl) rfl ?_
    refine nk_getC (f := (4, 1, 20480)) (x := 538) (len := 3) (ci := 12) (k := 43) (pc' := 230) ja_okT mJ_167 (by decide +kernel) (by decide +kernel) (by decide +kernel) (by decide) t_l1 rfl ?_
    have t9 : nk_ar ja_Tt (ja_c l1 43) = some (1, 20480) := nk_ta ja_okT t_l1 (by decide +kernel)
    refine nk_p (i := .iload_n 2) (len := 1) (pc' := 231) mJ_167 (by decide +kernel) (ns_iload_n 3 rfl rfl) rfl ?_
    refine nk_iald (len := 1) (N := 20480) (pc' := 232) mJ_167 (by decide +kernel) t9 h2.1 h2.2 rfl rfl ?_
    refine nk_p (i := .aload_n 0) (len := 1) (pc' := 233) mJ_167 (by decide +kernel) (ns_aload_n 1 rfl rfl) rfl ?_
    refine nk_getC (f := (4, 1, 24)) (x := 96) (len := 3) (ci := 13) (k := 34) (pc' := 236) ja_okT mJ_167 (by decide +kernel) (by decide +kernel) (by decide +kernel) (by decide) t_l0 rfl ?_
    have t10 : nk_ar ja_Tt (ja_c l0 34) = some (1, 24) := nk_ta ja_okT t_l0 (by decide +kernel)
    refine nk_p (i := .iload_n 3) (len := 1) (pc' := 237) mJ_167 (by decide +kernel) (ns_iload_n 4 rfl rfl) rfl ?_
    refine nk_iald (len := 1) (N := 24) (pc' := 238) mJ_167 (by decide +kernel) t10 h4.1 h4.2 rfl rfl ?_
    refine nk_p (i := .iconst (-1)) (len := 1) (pc' := 239) mJ_167 (by decide +kernel) (ns_iconst (c := (-1)) (by decide +kernel)) rfl ?_
    refine nk_p (i := .ixor) (len := 1) (pc' := 240) mJ_167 (by decide +kernel) ns_ixor rfl ?_
    refine nk_p (i := .iand) (len := 1) (pc' := 241) mJ_167 (by decide +kernel) ns_iand rfl ?_
    refine nk_p (i := .ior) (len := 1) (pc' := 242) mJ_167 (by decide +kernel) ns_ior rfl ?_
    refine nk_icond (c := .eq) (off := 7) (len := 3) (t := 249) (pc' := 245) mJ_167 (by decide +kernel) (by decide +kernel) rfl (fun hc => ?_) (fun hc => ?_)
    · have hr := nk_ifp (c := (nk_ior (nk_ior (nk_ior (nk_iand (S.1 (ja_c l1 40) l2.toNat) (nk_ixor (S.1 (ja_c l0 31) l3.toNat) (-1))) (nk_iand (S.1 (ja_c l1 41) l2.toNat) (nk_ixor (S.1 (ja_c l0 32) l3.toNat) (-1)))) (nk_iand (S.1 (ja_c l1 42) l2.toNat) (nk_ixor (S.1 (ja_c l0 33) l3.toNat) (-1)))) (nk_iand (S.1 (ja_c l1 43) l2.toNat) (nk_ixor (S.1 (ja_c l0 34) l3.toNat) (-1)))) = 0) hc hr
      refine nk_p (i := .iconst 0) (len := 1) (pc' := 250) mJ_167 (by decide +kernel) (ns_iconst (c := 0) (by decide +kernel)) rfl ?_
      refine nk_sub [1, 2, 3, 4] (L' := [(0, nk_r l0), (1, nk_r l1), (2, nk_i l2), (3, nk_i l3)]) rfl ?_
      exact ja_X13_joinSlot_b250_ok zs _ _ _ _ _ _ _ t_l0 t_l1 hr
    · have hr := nk_ifn (c := (nk_ior (nk_ior (nk_ior (nk_iand (S.1 (ja_c l1 40) l2.toNat) (nk_ixor (S.1 (ja_c l0 31) l3.toNat) (-1))) (nk_iand (S.1 (ja_c l1 41) l2.toNat) (nk_ixor (S.1 (ja_c l0 32) l3.toNat) (-1)))) (nk_iand (S.1 (ja_c l1 42) l2.toNat) (nk_ixor (S.1 (ja_c l0 33) l3.toNat) (-1)))) (nk_iand (S.1 (ja_c l1 43) l2.toNat) (nk_ixor (S.1 (ja_c l0 34) l3.toNat) (-1)))) = 0) hc hr
      refine nk_sub [1, 2, 3, 4] (L' := [(0, nk_r l0), (1, nk_r l1), (2, nk_i l2), (3, nk_i l3)]) rfl ?_
      exact ja_X13_joinSlot_b245_ok zs _ _ _ _ _ _ t_l0 t_l1 hr
noncomputable def ja_X13_joinSlot_b167 (l0 : Nat) (l1 : Nat) (l2 : Int) (l3 : Int) (S : nk_S) : Option (Int × nk_S) :=
  ja_X13_joinSlot_b172 l0 l1 l2 l3 1 S
theorem ja_X13_joinSlot_b167_ok (zs : List Int32) : ∀ (l0 : Nat) (l1 : Nat) (l2 : Int) (l3 : Int) (S : nk_S) (R : Int × nk_S), nk_cl ja_Tt l0 = some 13 → nk_cl ja_Tt l1 = some 12 → ja_X13_joinSlot_b167 l0 l1 l2 l3 S = some R → nk_K ja_Tt mi_Γ (mi_ev zs) 1 167 167 [(0, nk_r l0), (1, nk_r l1), (2, nk_i l2), (3, nk_i l3)] [] S R := by
  intro l0 l1 l2 l3 S R t_l0 t_l1 hr
  unfold ja_X13_joinSlot_b167 at hr
  refine nk_p (i := .iconst 1) (len := 1) (pc' := 168) mJ_167 (by decide +kernel) (ns_iconst (c := 1) (by decide +kernel)) rfl ?_
  refine nk_p (i := .goto 4) (len := 3) (pc' := 172) mJ_167 (by decide +kernel) (ns_goto (by decide +kernel)) rfl ?_
  exact ja_X13_joinSlot_b172_ok zs _ _ _ _ _ _ _ t_l0 t_l1 hr
noncomputable def ja_X13_joinSlot_b171 (l0 : Nat) (l1 : Nat) (l2 : Int) (l3 : Int) (S : nk_S) : Option (Int × nk_S) :=
  ja_X13_joinSlot_b172 l0 l1 l2 l3 0 S
theorem ja_X13_joinSlot_b171_ok (zs : List Int32) : ∀ (l0 : Nat) (l1 : Nat) (l2 : Int) (l3 : Int) (S : nk_S) (R : Int × nk_S), nk_cl ja_Tt l0 = some 13 → nk_cl ja_Tt l1 = some 12 → ja_X13_joinSlot_b171 l0 l1 l2 l3 S = some R → nk_K ja_Tt mi_Γ (mi_ev zs) 1 167 171 [(0, nk_r l0), (1, nk_r l1), (2, nk_i l2), (3, nk_i l3)] [] S R := by
  intro l0 l1 l2 l3 S R t_l0 t_l1 hr
  unfold ja_X13_joinSlot_b171 at hr
  refine nk_p (i := .iconst 0) (len := 1) (pc' := 172) mJ_167 (by decide +kernel) (ns_iconst (c := 0) (by decide +kernel)) rfl ?_
  exact ja_X13_joinSlot_b172_ok zs _ _ _ _ _ _ _ t_l0 t_l1 hr
noncomputable def ja_X13_joinSlot_b11 (l0 : Nat) (l1 : Nat) (l2 : Int) (l3 : Int) (S : nk_S) : Option (Int × nk_S) :=
  if 0 ≤ l3 ∧ l3 < 24 then
  if 0 ≤ l2 ∧ l2 < 20480 then
  if (S.1 (ja_c l0 26) l3.toNat) = (S.1 (ja_c l1 35) l2.toNat) then
    if (S.1 (ja_c l0 27) l3.toNat) < (S.1 (ja_c l1 36) l2.toNat) then
      ja_X13_joinSlot_b167 l0 l1 l2 l3 S
    else
      if (S.1 (ja_c l1 37) l2.toNat) < (S.1 (ja_c l0 28) l3.toNat) then
        ja_X13_joinSlot_b167 l0 l1 l2 l3 S
      else
        if (nk_land (S.1 (ja_c l0 29) l3.toNat) (nk_lxor (S.1 (ja_c l1 38) l2.toNat) (-1))) = 0 then
          if (S.1 (ja_c l1 39) l2.toNat) < 0 then
            ja_X13_joinSlot_b171 l0 l1 l2 l3 S
          else
            if (S.1 (ja_c l0 30) l3.toNat) = (S.1 (ja_c l1 39) l2.toNat) then
              ja_X13_joinSlot_b171 l0 l1 l2 l3 S
            else
              ja_X13_joinSlot_b167 l0 l1 l2 l3 S
        else
          ja_X13_joinSlot_b167 l0 l1 l2 l3 S
  else
    nk_lt (nk_wi S (ja_c l1 35) l2.toNat (nk_i2b 0)) fun S13 =>
    nk_lt (nk_wi S13 (ja_c l1 36) l2.toNat 0) fun S16 =>
    nk_lt (nk_wi S16 (ja_c l1 37) l2.toNat 0) fun S19 =>
    nk_lt (nk_wi S19 (ja_c l1 38) l2.toNat 0) fun S22 =>
    nk_lt (nk_wi S22 (ja_c l1 39) l2.toNat (nk_i2b (-1))) fun S25 =>
    nk_lt (nk_wi S25 (ja_c l1 40) l2.toNat 0) fun S28 =>
    nk_lt (nk_wi S28 (ja_c l1 41) l2.toNat 0) fun S31 =>
    nk_lt (nk_wi S31 (ja_c l1 42) l2.toNat 0) fun S34 =>
    nk_lt (nk_wi S34 (ja_c l1 43) l2.toNat 0) fun S37 =>
    some (1, S37)
  else none
  else none
theorem ja_X13_joinSlot_b11_ok (zs : List Int32) : ∀ (l0 : Nat) (l1 : Nat) (l2 : Int) (l3 : Int) (S : nk_S) (R : Int × nk_S), nk_cl ja_Tt l0 = some 13 → nk_cl ja_Tt l1 = some 12 → ja_X13_joinSlot_b11 l0 l1 l2 l3 S = some R → nk_K ja_Tt mi_Γ (mi_ev zs) 1 167 11 [(0, nk_r l0), (1, nk_r l1), (2, nk_i l2), (3, nk_i l3)] [] S R := by
  intro l0 l1 l2 l3 S R t_l0 t_l1 hr
  unfold ja_X13_joinSlot_b11 at hr
  refine nk_p (i := .aload_n 0) (len := 1) (pc' := 12) mJ_167 (by decide +kernel) (ns_aload_n 0 rfl rfl) rfl ?_
  refine nk_getC (f := (4, 0, 24)) (x := 71) (len := 3) (ci := 13) (k := 26) (pc' := 15) ja_okT mJ_167 (by decide +kernel) (by decide +kernel) (by decide +kernel) (by decide) t_l0 rfl ?_
  have t1 : nk_ar ja_Tt (ja_c l0 26) = some (0, 24) := nk_ta ja_okT t_l0 (by decide +kernel)
  refine nk_p (i := .iload_n 3) (len := 1) (pc' := 16) mJ_167 (by decide +kernel) (ns_iload_n 3 rfl rfl) rfl ?_
  obtain ⟨h2, hr⟩ := nk_cke hr
  refine nk_bald (t := 0) (len := 1) (N := 24) (pc' := 17) mJ_167 (by decide +kernel) t1 (by decide) h2.1 h2.2 rfl rfl ?_
  refine nk_p (i := .aload_n 1) (len := 1) (pc' := 18) mJ_167 (by decide +kernel) (ns_aload_n 1 rfl rfl) rfl ?_
  refine nk_getC (f := (4, 0, 20480)) (x := 529) (len := 3) (ci := 12) (k := 35) (pc' := 21) ja_okT mJ_167 (by decide +kernel) (by decide +kernel) (by decide +kernel) (by decide) t_l1 rfl ?_
  have t3 : nk_ar ja_Tt (ja_c l1 35) = some (0, 20480) := nk_ta ja_okT t_l1 (by decide +kernel)
  refine nk_p (i := .iload_n 2) (len := 1) (pc' := 22) mJ_167 (by decide +kernel) (ns_iload_n 2 rfl rfl) rfl ?_
  obtain ⟨h4, hr⟩ := nk_cke hr
  refine nk_bald (t := 0) (len := 1) (N := 20480) (pc' := 23) mJ_167 (by decide +kernel) t3 (by decide) h4.1 h4.2 rfl rfl ?_
  refine nk_icmp (c := .eq) (off := 68) (len := 3) (t := 91) (pc' := 26) mJ_167 (by decide +kernel) (by decide +kernel) rfl (fun hc => ?_) (fun hc => ?_)
  · have hr := nk_ifp (c := (S.1 (ja_c l0 26) l3.toNat) = (S.1 (ja_c l1 35) l2.toNat)) hc hr
    refine nk_p (i := .aload_n 0) (len := 1) (pc' := 92) mJ_167 (by decide +kernel) (ns_aload_n 0 rfl rfl) rfl ?_
    refine nk_getC (f := (4, 1, 24)) (x := 74) (len := 3) (ci := 13) (k := 27) (pc' := 95) ja_okT mJ_167 (by decide +kernel) (by decide +kernel) (by decide +kernel) (by decide) t_l0 rfl ?_
    have t5 : nk_ar ja_Tt (ja_c l0 27) = some (1, 24) := nk_ta ja_okT t_l0 (by decide +kernel)
    refine nk_p (i := .iload_n 3) (len := 1) (pc' := 96) mJ_167 (by decide +kernel) (ns_iload_n 3 rfl rfl) rfl ?_
    refine nk_iald (len := 1) (N := 24) (pc' := 97) mJ_167 (by decide +kernel) t5 h2.1 h2.2 rfl rfl ?_
    refine nk_p (i := .aload_n 1) (len := 1) (pc' := 98) mJ_167 (by decide +kernel) (ns_aload_n 1 rfl rfl) rfl ?_
    refine nk_getC (f := (4, 1, 20480)) (x := 530) (len := 3) (ci := 12) (k := 36) (pc' := 101) ja_okT mJ_167 (by decide +kernel) (by decide +kernel) (by decide +kernel) (by decide) t_l1 rfl ?_
    have t6 : nk_ar ja_Tt (ja_c l1 36) = some (1, 20480) := nk_ta ja_okT t_l1 (by decide +kernel)
    refine nk_p (i := .iload_n 2) (len := 1) (pc' := 102) mJ_167 (by decide +kernel) (ns_iload_n 2 rfl rfl) rfl ?_
    refine nk_iald (len := 1) (N := 20480) (pc' := 103) mJ_167 (by decide +kernel) t6 h4.1 h4.2 rfl rfl ?_
    refine nk_icmp (c := .lt) (off := 64) (len := 3) (t := 167) (pc' := 106) mJ_167 (by decide +kernel) (by decide +kernel) rfl (fun hc => ?_) (fun hc => ?_)
    · have hr := nk_ifp (c := (S.1 (ja_c l0 27) l3.toNat) < (S.1 (ja_c l1 36) l2.toNat)) hc hr
      exact ja_X13_joinSlot_b167_ok zs _ _ _ _ _ _ t_l0 t_l1 hr
    · have hr := nk_ifn (c := (S.1 (ja_c l0 27) l3.toNat) < (S.1 (ja_c l1 36) l2.toNat)) hc hr
      refine nk_p (i := .aload_n 0) (len := 1) (pc' := 107) mJ_167 (by decide +kernel) (ns_aload_n 0 rfl rfl) rfl ?_
      refine nk_getC (f := (4, 1, 24)) (x := 77) (len := 3) (ci := 13) (k := 28) (pc' := 110) ja_okT mJ_167 (by decide +kernel) (by decide +kernel) (by decide +kernel) (by decide) t_l0 rfl ?_
      have t7 : nk_ar ja_Tt (ja_c l0 28) = some (1, 24) := nk_ta ja_okT t_l0 (by decide +kernel)
      refine nk_p (i := .iload_n 3) (len := 1) (pc' := 111) mJ_167 (by decide +kernel) (ns_iload_n 3 rfl rfl) rfl ?_
      refine nk_iald (len := 1) (N := 24) (pc' := 112) mJ_167 (by decide +kernel) t7 h2.1 h2.2 rfl rfl ?_
      refine nk_p (i := .aload_n 1) (len := 1) (pc' := 113) mJ_167 (by decide +kernel) (ns_aload_n 1 rfl rfl) rfl ?_
      refine nk_getC (f := (4, 1, 20480)) (x := 531) (len := 3) (ci := 12) (k := 37) (pc' := 116) ja_okT mJ_167 (by decide +kernel) (by decide +kernel) (by decide +kernel) (by decide) t_l1 rfl ?_
      have t8 : nk_ar ja_Tt (ja_c l1 37) = some (1, 20480) := nk_ta ja_okT t_l1 (by decide +kernel)
      refine nk_p (i := .iload_n 2) (len := 1) (pc' := 117) mJ_167 (by decide +kernel) (ns_iload_n 2 rfl rfl) rfl ?_
      refine nk_iald (len := 1) (N := 20480) (pc' := 118) mJ_167 (by decide +kernel) t8 h4.1 h4.2 rfl rfl ?_
      refine nk_icmp (c := .gt) (off := 49) (len := 3) (t := 167) (pc' := 121) mJ_167 (by decide +kernel) (by decide +kernel) rfl (fun hc => ?_) (fun hc => ?_)
      · have hr := nk_ifp (c := (S.1 (ja_c l1 37) l2.toNat) < (S.1 (ja_c l0 28) l3.toNat)) hc hr
        exact ja_X13_joinSlot_b167_ok zs _ _ _ _ _ _ t_l0 t_l1 hr
      · have hr := nk_ifn (c := (S.1 (ja_c l1 37) l2.toNat) < (S.1 (ja_c l0 28) l3.toNat)) hc hr
        refine nk_p (i := .aload_n 0) (len := 1) (pc' := 122) mJ_167 (by decide +kernel) (ns_aload_n 0 rfl rfl) rfl ?_
        refine nk_getC (f := (4, 2, 24)) (x := 80) (len := 3) (ci := 13) (k := 29) (pc' := 125) ja_okT mJ_167 (by decide +kernel) (by decide +kernel) (by decide +kernel) (by decide) t_l0 rfl ?_
        have t9 : nk_ar ja_Tt (ja_c l0 29) = some (2, 24) := nk_ta ja_okT t_l0 (by decide +kernel)
        refine nk_p (i := .iload_n 3) (len := 1) (pc' := 126) mJ_167 (by decide +kernel) (ns_iload_n 3 rfl rfl) rfl ?_
        refine nk_lald (len := 1) (N := 24) (pc' := 127) mJ_167 (by decide +kernel) t9 h2.1 h2.2 rfl rfl ?_
        refine nk_p (i := .aload_n 1) (len := 1) (pc' := 128) mJ_167 (by decide +kernel) (ns_aload_n 1 rfl rfl) rfl ?_
        refine nk_getC (f := (4, 2, 20480)) (x := 532) (len := 3) (ci := 12) (k := 38) (pc' := 131) ja_okT mJ_167 (by decide +kernel) (by decide +kernel) (by decide +kernel) (by decide) t_l1 rfl ?_
        have t10 : nk_ar ja_Tt (ja_c l1 38) = some (2, 20480) := nk_ta ja_okT t_l1 (by decide +kernel)
        refine nk_p (i := .iload_n 2) (len := 1) (pc' := 132) mJ_167 (by decide +kernel) (ns_iload_n 2 rfl rfl) rfl ?_
        refine nk_lald (len := 1) (N := 20480) (pc' := 133) mJ_167 (by decide +kernel) t10 h4.1 h4.2 rfl rfl ?_
        refine nk_ldc2 (x := 549) (len := 3) (X := (-1)) (v := (-1)) (pc' := 136) mJ_167 (by decide +kernel) (by decide +kernel) (by decide +kernel) rfl ?_
        refine nk_p (i := .lxor) (len := 1) (pc' := 137) mJ_167 (by decide +kernel) ns_lxor rfl ?_
        refine nk_p (i := .land) (len := 1) (pc' := 138) mJ_167 (by decide +kernel) ns_land rfl ?_
        refine nk_p (i := .lconst 0) (len := 1) (pc' := 139) mJ_167 (by decide +kernel) (ns_lconst (c := 0) (by decide +kernel)) rfl ?_
        refine nk_p (i := .lcmp) (len := 1) (pc' := 140) mJ_167 (by decide +kernel) ns_lcmp rfl ?_
        refine nk_lcond (c := .ne) (off := 27) (len := 3) (t := 167) (pc' := 143) mJ_167 (by decide +kernel) (by decide +kernel) rfl (fun hc => ?_) (fun hc => ?_)
        · have hr := nk_ifn (c := (nk_land (S.1 (ja_c l0 29) l3.toNat) (nk_lxor (S.1 (ja_c l1 38) l2.toNat) (-1))) = 0) hc hr
          exact ja_X13_joinSlot_b167_ok zs _ _ _ _ _ _ t_l0 t_l1 hr
        · have hr := nk_ifp (c := (nk_land (S.1 (ja_c l0 29) l3.toNat) (nk_lxor (S.1 (ja_c l1 38) l2.toNat) (-1))) = 0) (Decidable.of_not_not hc) hr
          refine nk_p (i := .aload_n 1) (len := 1) (pc' := 144) mJ_167 (by decide +kernel) (ns_aload_n 1 rfl rfl) rfl ?_
          refine nk_getC (f := (4, 0, 20480)) (x := 533) (len := 3) (ci := 12) (k := 39) (pc' := 147) ja_okT mJ_167 (by decide +kernel) (by decide +kernel) (by decide +kernel) (by decide) t_l1 rfl ?_
          have t11 : nk_ar ja_Tt (ja_c l1 39) = some (0, 20480) := nk_ta ja_okT t_l1 (by decide +kernel)
          refine nk_p (i := .iload_n 2) (len := 1) (pc' := 148) mJ_167 (by decide +kernel) (ns_iload_n 2 rfl rfl) rfl ?_
          refine nk_bald (t := 0) (len := 1) (N := 20480) (pc' := 149) mJ_167 (by decide +kernel) t11 (by decide) h4.1 h4.2 rfl rfl ?_
          refine nk_icond (c := .lt) (off := 22) (len := 3) (t := 171) (pc' := 152) mJ_167 (by decide +kernel) (by decide +kernel) rfl (fun hc => ?_) (fun hc => ?_)
          · have hr := nk_ifp (c := (S.1 (ja_c l1 39) l2.toNat) < 0) hc hr
            exact ja_X13_joinSlot_b171_ok zs _ _ _ _ _ _ t_l0 t_l1 hr
          · have hr := nk_ifn (c := (S.1 (ja_c l1 39) l2.toNat) < 0) hc hr
            refine nk_p (i := .aload_n 0) (len := 1) (pc' := 153) mJ_167 (by decide +kernel) (ns_aload_n 0 rfl rfl) rfl ?_
            refine nk_getC (f := (4, 1, 24)) (x := 84) (len := 3) (ci := 13) (k := 30) (pc' := 156) ja_okT mJ_167 (by decide +kernel) (by decide +kernel) (by decide +kernel) (by decide) t_l0 rfl ?_
            have t12 : nk_ar ja_Tt (ja_c l0 30) = some (1, 24) := nk_ta ja_okT t_l0 (by decide +kernel)
            refine nk_p (i := .iload_n 3) (len := 1) (pc' := 157) mJ_167 (by decide +kernel) (ns_iload_n 3 rfl rfl) rfl ?_
            refine nk_iald (len := 1) (N := 24) (pc' := 158) mJ_167 (by decide +kernel) t12 h2.1 h2.2 rfl rfl ?_
            refine nk_p (i := .aload_n 1) (len := 1) (pc' := 159) mJ_167 (by decide +kernel) (ns_aload_n 1 rfl rfl) rfl ?_
            refine nk_getC (f := (4, 0, 20480)) (x := 533) (len := 3) (ci := 12) (k := 39) (pc' := 162) ja_okT mJ_167 (by decide +kernel) (by decide +kernel) (by decide +kernel) (by decide) t_l1 rfl ?_
            refine nk_p (i := .iload_n 2) (len := 1) (pc' := 163) mJ_167 (by decide +kernel) (ns_iload_n 2 rfl rfl) rfl ?_
            refine nk_bald (t := 0) (len := 1) (N := 20480) (pc' := 164) mJ_167 (by decide +kernel) t11 (by decide) h4.1 h4.2 rfl rfl ?_
            refine nk_icmp (c := .eq) (off := 7) (len := 3) (t := 171) (pc' := 167) mJ_167 (by decide +kernel) (by decide +kernel) rfl (fun hc => ?_) (fun hc => ?_)
            · have hr := nk_ifp (c := (S.1 (ja_c l0 30) l3.toNat) = (S.1 (ja_c l1 39) l2.toNat)) hc hr
              exact ja_X13_joinSlot_b171_ok zs _ _ _ _ _ _ t_l0 t_l1 hr
            · have hr := nk_ifn (c := (S.1 (ja_c l0 30) l3.toNat) = (S.1 (ja_c l1 39) l2.toNat)) hc hr
              exact ja_X13_joinSlot_b167_ok zs _ _ _ _ _ _ t_l0 t_l1 hr
  · have hr := nk_ifn (c := (S.1 (ja_c l0 26) l3.toNat) = (S.1 (ja_c l1 35) l2.toNat)) hc hr
    refine nk_p (i := .aload_n 1) (len := 1) (pc' := 27) mJ_167 (by decide +kernel) (ns_aload_n 1 rfl rfl) rfl ?_
    refine nk_getC (f := (4, 0, 20480)) (x := 529) (len := 3) (ci := 12) (k := 35) (pc' := 30) ja_okT mJ_167 (by decide +kernel) (by decide +kernel) (by decide +kernel) (by decide) t_l1 rfl ?_
    refine nk_p (i := .iload_n 2) (len := 1) (pc' := 31) mJ_167 (by decide +kernel) (ns_iload_n 2 rfl rfl) rfl ?_
    refine nk_p (i := .iconst 0) (len := 1) (pc' := 32) mJ_167 (by decide +kernel) (ns_iconst (c := 0) (by decide +kernel)) rfl ?_
    obtain ⟨S13, h14, hr⟩ := nk_lte hr
    refine nk_bast (len := 1) (N := 20480) (pc' := 33) mJ_167 (by decide +kernel) t3 h4.1 h4.2 rfl rfl h14 ?_
    refine nk_p (i := .aload_n 1) (len := 1) (pc' := 34) mJ_167 (by decide +kernel) (ns_aload_n 1 rfl rfl) rfl ?_
    refine nk_getC (f := (4, 1, 20480)) (x := 530) (len := 3) (ci := 12) (k := 36) (pc' := 37) ja_okT mJ_167 (by decide +kernel) (by decide +kernel) (by decide +kernel) (by decide) t_l1 rfl ?_
    have t15 : nk_ar ja_Tt (ja_c l1 36) = some (1, 20480) := nk_ta ja_okT t_l1 (by decide +kernel)
    refine nk_p (i := .iload_n 2) (len := 1) (pc' := 38) mJ_167 (by decide +kernel) (ns_iload_n 2 rfl rfl) rfl ?_
    refine nk_p (i := .iconst 0) (len := 1) (pc' := 39) mJ_167 (by decide +kernel) (ns_iconst (c := 0) (by decide +kernel)) rfl ?_
    obtain ⟨S16, h17, hr⟩ := nk_lte hr
    refine nk_iast (len := 1) (N := 20480) (pc' := 40) mJ_167 (by decide +kernel) t15 h4.1 h4.2 rfl rfl h17 ?_
    refine nk_p (i := .aload_n 1) (len := 1) (pc' := 41) mJ_167 (by decide +kernel) (ns_aload_n 1 rfl rfl) rfl ?_
    refine nk_getC (f := (4, 1, 20480)) (x := 531) (len := 3) (ci := 12) (k := 37) (pc' := 44) ja_okT mJ_167 (by decide +kernel) (by decide +kernel) (by decide +kernel) (by decide) t_l1 rfl ?_
    have t18 : nk_ar ja_Tt (ja_c l1 37) = some (1, 20480) := nk_ta ja_okT t_l1 (by decide +kernel)
    refine nk_p (i := .iload_n 2) (len := 1) (pc' := 45) mJ_167 (by decide +kernel) (ns_iload_n 2 rfl rfl) rfl ?_
    refine nk_p (i := .iconst 0) (len := 1) (pc' := 46) mJ_167 (by decide +kernel) (ns_iconst (c := 0) (by decide +kernel)) rfl ?_
    obtain ⟨S19, h20, hr⟩ := nk_lte hr
    refine nk_iast (len := 1) (N := 20480) (pc' := 47) mJ_167 (by decide +kernel) t18 h4.1 h4.2 rfl rfl h20 ?_
    refine nk_p (i := .aload_n 1) (len := 1) (pc' := 48) mJ_167 (by decide +kernel) (ns_aload_n 1 rfl rfl) rfl ?_
    refine nk_getC (f := (4, 2, 20480)) (x := 532) (len := 3) (ci := 12) (k := 38) (pc' := 51) ja_okT mJ_167 (by decide +kernel) (by decide +kernel) (by decide +kernel) (by decide) t_l1 rfl ?_
    have t21 : nk_ar ja_Tt (ja_c l1 38) = some (2, 20480) := nk_ta ja_okT t_l1 (by decide +kernel)
    refine nk_p (i := .iload_n 2) (len := 1) (pc' := 52) mJ_167 (by decide +kernel) (ns_iload_n 2 rfl rfl) rfl ?_
    refine nk_p (i := .lconst 0) (len := 1) (pc' := 53) mJ_167 (by decide +kernel) (ns_lconst (c := 0) (by decide +kernel)) rfl ?_
    obtain ⟨S22, h23, hr⟩ := nk_lte hr
    refine nk_last (len := 1) (N := 20480) (pc' := 54) mJ_167 (by decide +kernel) t21 h4.1 h4.2 rfl rfl h23 ?_
    refine nk_p (i := .aload_n 1) (len := 1) (pc' := 55) mJ_167 (by decide +kernel) (ns_aload_n 1 rfl rfl) rfl ?_
    refine nk_getC (f := (4, 0, 20480)) (x := 533) (len := 3) (ci := 12) (k := 39) (pc' := 58) ja_okT mJ_167 (by decide +kernel) (by decide +kernel) (by decide +kernel) (by decide) t_l1 rfl ?_
    have t24 : nk_ar ja_Tt (ja_c l1 39) = some (0, 20480) := nk_ta ja_okT t_l1 (by decide +kernel)
    refine nk_p (i := .iload_n 2) (len := 1) (pc' := 59) mJ_167 (by decide +kernel) (ns_iload_n 2 rfl rfl) rfl ?_
    refine nk_p (i := .iconst (-1)) (len := 1) (pc' := 60) mJ_167 (by decide +kernel) (ns_iconst (c := (-1)) (by decide +kernel)) rfl ?_
    obtain ⟨S25, h26, hr⟩ := nk_lte hr
    refine nk_bast (len := 1) (N := 20480) (pc' := 61) mJ_167 (by decide +kernel) t24 h4.1 h4.2 rfl rfl h26 ?_
    refine nk_p (i := .aload_n 1) (len := 1) (pc' := 62) mJ_167 (by decide +kernel) (ns_aload_n 1 rfl rfl) rfl ?_
    refine nk_getC (f := (4, 1, 20480)) (x := 535) (len := 3) (ci := 12) (k := 40) (pc' := 65) ja_okT mJ_167 (by decide +kernel) (by decide +kernel) (by decide +kernel) (by decide) t_l1 rfl ?_
    have t27 : nk_ar ja_Tt (ja_c l1 40) = some (1, 20480) := nk_ta ja_okT t_l1 (by decide +kernel)
    refine nk_p (i := .iload_n 2) (len := 1) (pc' := 66) mJ_167 (by decide +kernel) (ns_iload_n 2 rfl rfl) rfl ?_
    refine nk_p (i := .iconst 0) (len := 1) (pc' := 67) mJ_167 (by decide +kernel) (ns_iconst (c := 0) (by decide +kernel)) rfl ?_
    obtain ⟨S28, h29, hr⟩ := nk_lte hr
    refine nk_iast (len := 1) (N := 20480) (pc' := 68) mJ_167 (by decide +kernel) t27 h4.1 h4.2 rfl rfl h29 ?_
    refine nk_p (i := .aload_n 1) (len := 1) (pc' := 69) mJ_167 (by decide +kernel) (ns_aload_n 1 rfl rfl) rfl ?_
    refine nk_getC (f := (4, 1, 20480)) (x := 536) (len := 3) (ci := 12) (k := 41) (pc' := 72) ja_okT mJ_167 (by decide +kernel) (by decide +kernel) (by decide +kernel) (by decide) t_l1 rfl ?_
    have t30 : nk_ar ja_Tt (ja_c l1 41) = some (1, 20480) := nk_ta ja_okT t_l1 (by decide +kernel)
    refine nk_p (i := .iload_n 2) (len := 1) (pc' := 73) mJ_167 (by decide +kernel) (ns_iload_n 2 rfl rfl) rfl ?_
    refine nk_p (i := .iconst 0) (len := 1) (pc' := 74) mJ_167 (by decide +kernel) (ns_iconst (c := 0) (by decide +kernel)) rfl ?_
    obtain ⟨S31, h32, hr⟩ := nk_lte hr
    refine nk_iast (len := 1) (N := 20480) (pc' := 75) mJ_167 (by decide +kernel) t30 h4.1 h4.2 rfl rfl h32 ?_
    refine nk_p (i := .aload_n 1) (len := 1) (pc' := 76) mJ_167 (by decide +kernel) (ns_aload_n 1 rfl rfl) rfl ?_
    refine nk_getC (f := (4, 1, 20480)) (x := 537) (len := 3) (ci := 12) (k := 42) (pc' := 79) ja_okT mJ_167 (by decide +kernel) (by decide +kernel) (by decide +kernel) (by decide) t_l1 rfl ?_
    have t33 : nk_ar ja_Tt (ja_c l1 42) = some (1, 20480) := nk_ta ja_okT t_l1 (by decide +kernel)
    refine nk_p (i := .iload_n 2) (len := 1) (pc' := 80) mJ_167 (by decide +kernel) (ns_iload_n 2 rfl rfl) rfl ?_
    refine nk_p (i := .iconst 0) (len := 1) (pc' := 81) mJ_167 (by decide +kernel) (ns_iconst (c := 0) (by decide +kernel)) rfl ?_
    obtain ⟨S34, h35, hr⟩ := nk_lte hr
    refine nk_iast (len := 1) (N := 20480) (pc' := 82) mJ_167 (by decide +kernel) t33 h4.1 h4.2 rfl rfl h35 ?_
    refine nk_p (i := .aload_n 1) (len := 1) (pc' := 83) mJ_167 (by decide +kernel) (ns_aload_n 1 rfl rfl) rfl ?_
    refine nk_getC (f := (4, 1, 20480)) (x := 538) (len := 3) (ci := 12) (k := 43) (pc' := 86) ja_okT mJ_167 (by decide +kernel) (by decide +kernel) (by decide +kernel) (by decide) t_l1 rfl ?_
    have t36 : nk_ar ja_Tt (ja_c l1 43) = some (1, 20480) := nk_ta ja_okT t_l1 (by decide +kernel)
    refine nk_p (i := .iload_n 2) (len := 1) (pc' := 87) mJ_167 (by decide +kernel) (ns_iload_n 2 rfl rfl) rfl ?_
    refine nk_p (i := .iconst 0) (len := 1) (pc' := 88) mJ_167 (by decide +kernel) (ns_iconst (c := 0) (by decide +kernel)) rfl ?_
    obtain ⟨S37, h38, hr⟩ := nk_lte hr
    refine nk_iast (len := 1) (N := 20480) (pc' := 89) mJ_167 (by decide +kernel) t36 h4.1 h4.2 rfl rfl h38 ?_
    refine nk_p (i := .iconst 1) (len := 1) (pc' := 90) mJ_167 (by decide +kernel) (ns_iconst (c := 1) (by decide +kernel)) rfl ?_
    cases hr
    exact nk_iret (ty := .boolean) (len := 1) mJ_167 (by decide +kernel) rfl (nk_nar_z (by decide))
noncomputable def ja_X13_joinSlot (l0 : Nat) (l1 : Nat) (l2 : Int) (l3 : Int) (S : nk_S) : Option (Int × nk_S) :=
  if 0 ≤ l2 ∧ l2 < 20480 then
  if (S.1 (ja_c l1 35) l2.toNat) = 0 then
    some (0, S)
  else
    ja_X13_joinSlot_b11 l0 l1 l2 l3 S
  else none
theorem ja_X13_joinSlot_ok (zs : List Int32) : ∀ (l0 : Nat) (l1 : Nat) (l2 : Int) (l3 : Int) (S : nk_S) (R : Int × nk_S), nk_cl ja_Tt l0 = some 13 → nk_cl ja_Tt l1 = some 12 → ja_X13_joinSlot l0 l1 l2 l3 S = some R → nk_K ja_Tt mi_Γ (mi_ev zs) 1 167 0 [(0, nk_r l0), (1, nk_r l1), (2, nk_i l2), (3, nk_i l3)] [] S R := by
  intro l0 l1 l2 l3 S R t_l0 t_l1 hr
  unfold ja_X13_joinSlot at hr
  refine nk_p (i := .aload_n 1) (len := 1) (pc' := 1) mJ_167 (by decide +kernel) (ns_aload_n 1 rfl rfl) rfl ?_
  refine nk_getC (f := (4, 0, 20480)) (x := 529) (len := 3) (ci := 12) (k := 35) (pc' := 4) ja_okT mJ_167 (by decide +kernel) (by decide +kernel) (by decide +kernel) (by decide) t_l1 rfl ?_
  have t1 : nk_ar ja_Tt (ja_c l1 35) = some (0, 20480) := nk_ta ja_okT t_l1 (by decide +kernel)
  refine nk_p (i := .iload_n 2) (len := 1) (pc' := 5) mJ_167 (by decide +kernel) (ns_iload_n 2 rfl rfl) rfl ?_
  obtain ⟨h2, hr⟩ := nk_cke hr
  refine nk_bald (t := 0) (len := 1) (N := 20480) (pc' := 6) mJ_167 (by decide +kernel) t1 (by decide) h2.1 h2.2 rfl rfl ?_
  refine nk_icond (c := .ne) (off := 5) (len := 3) (t := 11) (pc' := 9) mJ_167 (by decide +kernel) (by decide +kernel) rfl (fun hc => ?_) (fun hc => ?_)
  · have hr := nk_ifn (c := (S.1 (ja_c l1 35) l2.toNat) = 0) hc hr
    exact ja_X13_joinSlot_b11_ok zs _ _ _ _ _ _ t_l0 t_l1 hr
  · have hr := nk_ifp (c := (S.1 (ja_c l1 35) l2.toNat) = 0) (Decidable.of_not_not hc) hr
    refine nk_p (i := .iconst 0) (len := 1) (pc' := 10) mJ_167 (by decide +kernel) (ns_iconst (c := 0) (by decide +kernel)) rfl ?_
    cases hr
    exact nk_iret (ty := .boolean) (len := 1) mJ_167 (by decide +kernel) rfl (nk_nar_z (by decide))
/-! SafeCodeModel bring (LSafeCodeModel$Program;I)V -/
noncomputable def ja_X13_bring_b75 (rec18 : Nat → Nat → Int → Int → Int → nk_S → Option (Int × nk_S)) (l0 : Nat) (l1 : Nat) (l2 : Int) (l3 : Int) (l4 : Int) (l5 : Int) (S : nk_S) : Option (Int × nk_S) :=
  if 0 ≤ l4 ∧ l4 < 24 then
  if 0 ≤ l5 ∧ l5 < 20480 then
  nk_lt (nk_wi S (ja_c l1 35) l5.toNat (nk_i2b (S.1 (ja_c l0 26) l4.toNat))) fun S5 =>
  nk_lt (nk_wi S5 (ja_c l1 36) l5.toNat (S5.1 (ja_c l0 27) l4.toNat)) fun S9 =>
  nk_lt (nk_wi S9 (ja_c l1 37) l5.toNat (S9.1 (ja_c l0 28) l4.toNat)) fun S13 =>
  nk_lt (nk_wi S13 (ja_c l1 38) l5.toNat (S13.1 (ja_c l0 29) l4.toNat)) fun S17 =>
  nk_lt (nk_wi S17 (ja_c l1 39) l5.toNat (nk_i2b (nk_i2b (S17.1 (ja_c l0 30) l4.toNat)))) fun S21 =>
  nk_lt (nk_wi S21 (ja_c l1 40) l5.toNat (S21.1 (ja_c l0 31) l4.toNat)) fun S25 =>
  nk_lt (nk_wi S25 (ja_c l1 41) l5.toNat (S25.1 (ja_c l0 32) l4.toNat)) fun S29 =>
  nk_lt (nk_wi S29 (ja_c l1 42) l5.toNat (S29.1 (ja_c l0 33) l4.toNat)) fun S33 =>
  nk_lt (nk_wi S33 (ja_c l1 43) l5.toNat (S33.1 (ja_c l0 34) l4.toNat)) fun S37 =>
  nk_lt (nk_w (l4 + 1)) fun v39 =>
  rec18 l0 l1 l2 l3 v39 S37
  else none
  else none
theorem ja_X13_bring_b75_ok (zs : List Int32) {rec18 : Nat → Nat → Int → Int → Int → nk_S → Option (Int × nk_S)} (hrec18 : ∀ (l0 : Nat) (l1 : Nat) (l2 : Int) (l3 : Int) (l4 : Int) (S : nk_S) (R : Int × nk_S), nk_cl ja_Tt l0 = some 13 → nk_cl ja_Tt l1 = some 12 → rec18 l0 l1 l2 l3 l4 S = some R → nk_K ja_Tt mi_Γ (mi_ev zs) 0 92 18 [(0, nk_r l0), (1, nk_r l1), (2, nk_i l2), (3, nk_i l3), (4, nk_i l4)] [] S R) : ∀ (l0 : Nat) (l1 : Nat) (l2 : Int) (l3 : Int) (l4 : Int) (l5 : Int) (S : nk_S) (R : Int × nk_S), nk_cl ja_Tt l0 = some 13 → nk_cl ja_Tt l1 = some 12 → ja_X13_bring_b75 rec18 l0 l1 l2 l3 l4 l5 S = some R → nk_K ja_Tt mi_Γ (mi_ev zs) 0 92 75 [(0, nk_r l0), (1, nk_r l1), (2, nk_i l2), (3, nk_i l3), (4, nk_i l4), (5, nk_i l5)] [] S R := by
  intro l0 l1 l2 l3 l4 l5 S R t_l0 t_l1 hr
  unfold ja_X13_bring_b75 at hr
  refine nk_p (i := .aload_n 1) (len := 1) (pc' := 76) mJ_92 (by decide +kernel) (ns_aload_n 1 rfl rfl) rfl ?_
  refine nk_getC (f := (4, 0, 20480)) (x := 529) (len := 3) (ci := 12) (k := 35) (pc' := 79) ja_okT mJ_92 (by decide +kernel) (by decide +kernel) (by decide +kernel) (by decide) t_l1 rfl ?_
  have t1 : nk_ar ja_Tt (ja_c l1 35) = some (0, 20480) := nk_ta ja_okT t_l1 (by decide +kernel)
  refine nk_p (i := .iload 5) (len := 2) (pc' := 81) mJ_92 (by decide +kernel) (ns_iload 5 rfl) rfl ?_
  refine nk_p (i := .aload_n 0) (len := 1) (pc' := 82) mJ_92 (by decide +kernel) (ns_aload_n 0 rfl rfl) rfl ?_
  refine nk_getC (f := (4, 0, 24)) (x := 71) (len := 3) (ci := 13) (k := 26) (pc' := 85) ja_okT mJ_92 (by decide +kernel) (by decide +kernel) (by decide +kernel) (by decide) t_l0 rfl ?_
  have t2 : nk_ar ja_Tt (ja_c l0 26) = some (0, 24) := nk_ta ja_okT t_l0 (by decide +kernel)
  refine nk_p (i := .iload 4) (len := 2) (pc' := 87) mJ_92 (by decide +kernel) (ns_iload 4 rfl) rfl ?_
  obtain ⟨h3, hr⟩ := nk_cke hr
  refine nk_bald (t := 0) (len := 1) (N := 24) (pc' := 88) mJ_92 (by decide +kernel) t2 (by decide) h3.1 h3.2 rfl rfl ?_
  obtain ⟨h4, hr⟩ := nk_cke hr
  obtain ⟨S5, h6, hr⟩ := nk_lte hr
  refine nk_bast (len := 1) (N := 20480) (pc' := 89) mJ_92 (by decide +kernel) t1 h4.1 h4.2 rfl rfl h6 ?_
  refine nk_p (i := .aload_n 1) (len := 1) (pc' := 90) mJ_92 (by decide +kernel) (ns_aload_n 1 rfl rfl) rfl ?_
  refine nk_getC (f := (4, 1, 20480)) (x := 530) (len := 3) (ci := 12) (k := 36) (pc' := 93) ja_okT mJ_92 (by decide +kernel) (by decide +kernel) (by decide +kernel) (by decide) t_l1 rfl ?_
  have t7 : nk_ar ja_Tt (ja_c l1 36) = some (1, 20480) := nk_ta ja_okT t_l1 (by decide +kernel)
  refine nk_p (i := .iload 5) (len := 2) (pc' := 95) mJ_92 (by decide +kernel) (ns_iload 5 rfl) rfl ?_
  refine nk_p (i := .aload_n 0) (len := 1) (pc' := 96) mJ_92 (by decide +kernel) (ns_aload_n 0 rfl rfl) rfl ?_
  refine nk_getC (f := (4, 1, 24)) (x := 74) (len := 3) (ci := 13) (k := 27) (pc' := 99) ja_okT mJ_92 (by decide +kernel) (by decide +kernel) (by decide +kernel) (by decide) t_l0 rfl ?_
  have t8 : nk_ar ja_Tt (ja_c l0 27) = some (1, 24) := nk_ta ja_okT t_l0 (by decide +kernel)
  refine nk_p (i := .iload 4) (len := 2) (pc' := 101) mJ_92 (by decide +kernel) (ns_iload 4 rfl) rfl ?_
  refine nk_iald (len := 1) (N := 24) (pc' := 102) mJ_92 (by decide +kernel) t8 h3.1 h3.2 rfl rfl ?_
  obtain ⟨S9, h10, hr⟩ := nk_lte hr
  refine nk_iast (len := 1) (N := 20480) (pc' := 103) mJ_92 (by decide +kernel) t7 h4.1 h4.2 rfl rfl h10 ?_
  refine nk_p (i := .aload_n 1) (len := 1) (pc' := 104) mJ_92 (by decide +kernel) (ns_aload_n 1 rfl rfl) rfl ?_
  refine nk_getC (f := (4, 1, 20480)) (x := 531) (len := 3) (ci := 12) (k := 37) (pc' := 107) ja_okT mJ_92 (by decide +kernel) (by decide +kernel) (by decide +kernel) (by decide) t_l1 rfl ?_
  have t11 : nk_ar ja_Tt (ja_c l1 37) = some (1, 20480) := nk_ta ja_okT t_l1 (by decide +kernel)
  refine nk_p (i := .iload 5) (len := 2) (pc' := 109) mJ_92 (by decide +kernel) (ns_iload 5 rfl) rfl ?_
  refine nk_p (i := .aload_n 0) (len := 1) (pc' := 110) mJ_92 (by decide +kernel) (ns_aload_n 0 rfl rfl) rfl ?_
  refine nk_getC (f := (4, 1, 24)) (x := 77) (len := 3) (ci := 13) (k := 28) (pc' := 113) ja_okT mJ_92 (by decide +kernel) (by decide +kernel) (by decide +kernel) (by decide) t_l0 rfl ?_
  have t12 : nk_ar ja_Tt (ja_c l0 28) = some (1, 24) := nk_ta ja_okT t_l0 (by decide +kernel)
  refine nk_p (i := .iload 4) (len := 2) (pc' := 115) mJ_92 (by decide +kernel) (ns_iload 4 rfl) rfl ?_
  refine nk_iald (len := 1) (N := 24) (pc' := 116) mJ_92 (by decide +kernel) t12 h3.1 h3.2 rfl rfl ?_
  obtain ⟨S13, h14, hr⟩ := nk_lte hr
  refine nk_iast (len := 1) (N := 20480) (pc' := 117) mJ_92 (by decide +kernel) t11 h4.1 h4.2 rfl rfl h14 ?_
  refine nk_p (i := .aload_n 1) (len := 1) (pc' := 118) mJ_92 (by decide +kernel) (ns_aload_n 1 rfl rfl) rfl ?_
  refine nk_getC (f := (4, 2, 20480)) (x := 532) (len := 3) (ci := 12) (k := 38) (pc' := 121) ja_okT mJ_92 (by decide +kernel) (by decide +kernel) (by decide +kernel) (by decide) t_l1 rfl ?_
  have t15 : nk_ar ja_Tt (ja_c l1 38) = some (2, 20480) := nk_ta ja_okT t_l1 (by decide +kernel)
  refine nk_p (i := .iload 5) (len := 2) (pc' := 123) mJ_92 (by decide +kernel) (ns_iload 5 rfl) rfl ?_
  refine nk_p (i := .aload_n 0) (len := 1) (pc' := 124) mJ_92 (by decide +kernel) (ns_aload_n 0 rfl rfl) rfl ?_
  refine nk_getC (f := (4, 2, 24)) (x := 80) (len := 3) (ci := 13) (k := 29) (pc' := 127) ja_okT mJ_92 (by decide +kernel) (by decide +kernel) (by decide +kernel) (by decide) t_l0 rfl ?_
  have t16 : nk_ar ja_Tt (ja_c l0 29) = some (2, 24) := nk_ta ja_okT t_l0 (by decide +kernel)
  refine nk_p (i := .iload 4) (len := 2) (pc' := 129) mJ_92 (by decide +kernel) (ns_iload 4 rfl) rfl ?_
  refine nk_lald (len := 1) (N := 24) (pc' := 130) mJ_92 (by decide +kernel) t16 h3.1 h3.2 rfl rfl ?_
  obtain ⟨S17, h18, hr⟩ := nk_lte hr
  refine nk_last (len := 1) (N := 20480) (pc' := 131) mJ_92 (by decide +kernel) t15 h4.1 h4.2 rfl rfl h18 ?_
  refine nk_p (i := .aload_n 1) (len := 1) (pc' := 132) mJ_92 (by decide +kernel) (ns_aload_n 1 rfl rfl) rfl ?_
  refine nk_getC (f := (4, 0, 20480)) (x := 533) (len := 3) (ci := 12) (k := 39) (pc' := 135) ja_okT mJ_92 (by decide +kernel) (by decide +kernel) (by decide +kernel) (by decide) t_l1 rfl ?_
  have t19 : nk_ar ja_Tt (ja_c l1 39) = some (0, 20480) := nk_ta ja_okT t_l1 (by decide +kernel)
  refine nk_p (i := .iload 5) (len := 2) (pc' := 137) mJ_92 (by decide +kernel) (ns_iload 5 rfl) rfl ?_
  refine nk_p (i := .aload_n 0) (len := 1) (pc' := 138) mJ_92 (by decide +kernel) (ns_aload_n 0 rfl rfl) rfl ?_
  refine nk_getC (f := (4, 1, 24)) (x := 84) (len := 3) (ci := 13) (k := 30) (pc' := 141) ja_okT mJ_92 (by decide +kernel) (by decide +kernel) (by decide +kernel) (by decide) t_l0 rfl ?_
  have t20 : nk_ar ja_Tt (ja_c l0 30) = some (1, 24) := nk_ta ja_okT t_l0 (by decide +kernel)
  refine nk_p (i := .iload 4) (len := 2) (pc' := 143) mJ_92 (by decide +kernel) (ns_iload 4 rfl) rfl ?_
  refine nk_iald (len := 1) (N := 24) (pc' := 144) mJ_92 (by decide +kernel) t20 h3.1 h3.2 rfl rfl ?_
  refine nk_p (i := .i2b) (len := 1) (pc' := 145) mJ_92 (by decide +kernel) ns_i2b rfl ?_
  obtain ⟨S21, h22, hr⟩ := nk_lte hr
  refine nk_bast (len := 1) (N := 20480) (pc' := 146) mJ_92 (by decide +kernel) t19 h4.1 h4.2 rfl rfl h22 ?_
  refine nk_p (i := .aload_n 1) (len := 1) (pc' := 147) mJ_92 (by decide +kernel) (ns_aload_n 1 rfl rfl) rfl ?_
  refine nk_getC (f := (4, 1, 20480)) (x := 535) (len := 3) (ci := 12) (k := 40) (pc' := 150) ja_okT mJ_92 (by decide +kernel) (by decide +kernel) (by decide +kernel) (by decide) t_l1 rfl ?_
  have t23 : nk_ar ja_Tt (ja_c l1 40) = some (1, 20480) := nk_ta ja_okT t_l1 (by decide +kernel)
  refine nk_p (i := .iload 5) (len := 2) (pc' := 152) mJ_92 (by decide +kernel) (ns_iload 5 rfl) rfl ?_
  refine nk_p (i := .aload_n 0) (len := 1) (pc' := 153) mJ_92 (by decide +kernel) (ns_aload_n 0 rfl rfl) rfl ?_
  refine nk_getC (f := (4, 1, 24)) (x := 87) (len := 3) (ci := 13) (k := 31) (pc' := 156) ja_okT mJ_92 (by decide +kernel) (by decide +kernel) (by decide +kernel) (by decide) t_l0 rfl ?_
  have t24 : nk_ar ja_Tt (ja_c l0 31) = some (1, 24) := nk_ta ja_okT t_l0 (by decide +kernel)
  refine nk_p (i := .iload 4) (len := 2) (pc' := 158) mJ_92 (by decide +kernel) (ns_iload 4 rfl) rfl ?_
  refine nk_iald (len := 1) (N := 24) (pc' := 159) mJ_92 (by decide +kernel) t24 h3.1 h3.2 rfl rfl ?_
  obtain ⟨S25, h26, hr⟩ := nk_lte hr
  refine nk_iast (len := 1) (N := 20480) (pc' := 160) mJ_92 (by decide +kernel) t23 h4.1 h4.2 rfl rfl h26 ?_
  refine nk_p (i := .aload_n 1) (len := 1) (pc' := 161) mJ_92 (by decide +kernel) (ns_aload_n 1 rfl rfl) rfl ?_
  refine nk_getC (f := (4, 1, 20480)) (x := 536) (len := 3) (ci := 12) (k := 41) (pc' := 164) ja_okT mJ_92 (by decide +kernel) (by decide +kernel) (by decide +kernel) (by decide) t_l1 rfl ?_
  have t27 : nk_ar ja_Tt (ja_c l1 41) = some (1, 20480) := nk_ta ja_okT t_l1 (by decide +kernel)
  refine nk_p (i := .iload 5) (len := 2) (pc' := 166) mJ_92 (by decide +kernel) (ns_iload 5 rfl) rfl ?_
  refine nk_p (i := .aload_n 0) (len := 1) (pc' := 167) mJ_92 (by decide +kernel) (ns_aload_n 0 rfl rfl) rfl ?_
  refine nk_getC (f := (4, 1, 24)) (x := 90) (len := 3) (ci := 13) (k := 32) (pc' := 170) ja_okT mJ_92 (by decide +kernel) (by decide +kernel) (by decide +kernel) (by decide) t_l0 rfl ?_
  have t28 : nk_ar ja_Tt (ja_c l0 32) = some (1, 24) := nk_ta ja_okT t_l0 (by decide +kernel)
  refine nk_p (i := .iload 4) (len := 2) (pc' := 172) mJ_92 (by decide +kernel) (ns_iload 4 rfl) rfl ?_
  refine nk_iald (len := 1) (N := 24) (pc' := 173) mJ_92 (by decide +kernel) t28 h3.1 h3.2 rfl rfl ?_
  obtain ⟨S29, h30, hr⟩ := nk_lte hr
  refine nk_iast (len := 1) (N := 20480) (pc' := 174) mJ_92 (by decide +kernel) t27 h4.1 h4.2 rfl rfl h30 ?_
  refine nk_p (i := .aload_n 1) (len := 1) (pc' := 175) mJ_92 (by decide +kernel) (ns_aload_n 1 rfl rfl) rfl ?_
  refine nk_getC (f := (4, 1, 20480)) (x := 537) (len := 3) (ci := 12) (k := 42) (pc' := 178) ja_okT mJ_92 (by decide +kernel) (by decide +kernel) (by decide +kernel) (by decide) t_l1 rfl ?_
  have t31 : nk_ar ja_Tt (ja_c l1 42) = some (1, 20480) := nk_ta ja_okT t_l1 (by decide +kernel)
  refine nk_p (i := .iload 5) (len := 2) (pc' := 180) mJ_92 (by decide +kernel) (ns_iload 5 rfl) rfl ?_
  refine nk_p (i := .aload_n 0) (len := 1) (pc' := 181) mJ_92 (by decide +kernel) (ns_aload_n 0 rfl rfl) rfl ?_
  refine nk_getC (f := (4, 1, 24)) (x := 93) (len := 3) (ci := 13) (k := 33) (pc' := 184) ja_okT mJ_92 (by decide +kernel) (by decide +kernel) (by decide +kernel) (by decide) t_l0 rfl ?_
  have t32 : nk_ar ja_Tt (ja_c l0 33) = some (1, 24) := nk_ta ja_okT t_l0 (by decide +kernel)
  refine nk_p (i := .iload 4) (len := 2) (pc' := 186) mJ_92 (by decide +kernel) (ns_iload 4 rfl) rfl ?_
  refine nk_iald (len := 1) (N := 24) (pc' := 187) mJ_92 (by decide +kernel) t32 h3.1 h3.2 rfl rfl ?_
  obtain ⟨S33, h34, hr⟩ := nk_lte hr
  refine nk_iast (len := 1) (N := 20480) (pc' := 188) mJ_92 (by decide +kernel) t31 h4.1 h4.2 rfl rfl h34 ?_
  refine nk_p (i := .aload_n 1) (len := 1) (pc' := 189) mJ_92 (by decide +kernel) (ns_aload_n 1 rfl rfl) rfl ?_
  refine nk_getC (f := (4, 1, 20480)) (x := 538) (len := 3) (ci := 12) (k := 43) (pc' := 192) ja_okT mJ_92 (by decide +kernel) (by decide +kernel) (by decide +kernel) (by decide) t_l1 rfl ?_
  have t35 : nk_ar ja_Tt (ja_c l1 43) = some (1, 20480) := nk_ta ja_okT t_l1 (by decide +kernel)
  refine nk_p (i := .iload 5) (len := 2) (pc' := 194) mJ_92 (by decide +kernel) (ns_iload 5 rfl) rfl ?_
  refine nk_p (i := .aload_n 0) (len := 1) (pc' := 195) mJ_92 (by decide +kernel) (ns_aload_n 0 rfl rfl) rfl ?_
  refine nk_getC (f := (4, 1, 24)) (x := 96) (len := 3) (ci := 13) (k := 34) (pc' := 198) ja_okT mJ_92 (by decide +kernel) (by decide +kernel) (by decide +kernel) (by decide) t_l0 rfl ?_
  have t36 : nk_ar ja_Tt (ja_c l0 34) = some (1, 24) := nk_ta ja_okT t_l0 (by decide +kernel)
  refine nk_p (i := .iload 4) (len := 2) (pc' := 200) mJ_92 (by decide +kernel) (ns_iload 4 rfl) rfl ?_
  refine nk_iald (len := 1) (N := 24) (pc' := 201) mJ_92 (by decide +kernel) t36 h3.1 h3.2 rfl rfl ?_
  obtain ⟨S37, h38, hr⟩ := nk_lte hr
  refine nk_iast (len := 1) (N := 20480) (pc' := 202) mJ_92 (by decide +kernel) t35 h4.1 h4.2 rfl rfl h38 ?_
  obtain ⟨v39, h40, hr⟩ := nk_lte hr
  refine nk_p (i := .iinc 4 1) (len := 3) (pc' := 205) mJ_92 (by decide +kernel) (ns_iinc (c := 1) (L' := [(4, nk_i v39), (0, nk_r l0), (1, nk_r l1), (2, nk_i l2), (3, nk_i l3), (5, nk_i l5)]) 4 rfl (by decide +kernel) h40 rfl (by decide +kernel)) rfl ?_
  refine nk_p (i := .goto (-187)) (len := 3) (pc' := 18) mJ_92 (by decide +kernel) (ns_goto (by decide +kernel)) rfl ?_
  refine nk_sub [1, 2, 3, 4, 0] (L' := [(0, nk_r l0), (1, nk_r l1), (2, nk_i l2), (3, nk_i l3), (4, nk_i v39)]) rfl ?_
  exact hrec18 _ _ _ _ _ _ _ t_l0 t_l1 hr
noncomputable def ja_X13_bring_b66 (rec18 : Nat → Nat → Int → Int → Int → nk_S → Option (Int × nk_S)) (l0 : Nat) (l1 : Nat) (l2 : Int) (l4 : Int) (S : nk_S) : Option (Int × nk_S) :=
  nk_lt (nk_w (l4 + 1)) fun v1 =>
  rec18 l0 l1 l2 1 v1 S
theorem ja_X13_bring_b66_ok (zs : List Int32) {rec18 : Nat → Nat → Int → Int → Int → nk_S → Option (Int × nk_S)} (hrec18 : ∀ (l0 : Nat) (l1 : Nat) (l2 : Int) (l3 : Int) (l4 : Int) (S : nk_S) (R : Int × nk_S), nk_cl ja_Tt l0 = some 13 → nk_cl ja_Tt l1 = some 12 → rec18 l0 l1 l2 l3 l4 S = some R → nk_K ja_Tt mi_Γ (mi_ev zs) 0 92 18 [(0, nk_r l0), (1, nk_r l1), (2, nk_i l2), (3, nk_i l3), (4, nk_i l4)] [] S R) : ∀ (l0 : Nat) (l1 : Nat) (l2 : Int) (l4 : Int) (S : nk_S) (R : Int × nk_S), nk_cl ja_Tt l0 = some 13 → nk_cl ja_Tt l1 = some 12 → ja_X13_bring_b66 rec18 l0 l1 l2 l4 S = some R → nk_K ja_Tt mi_Γ (mi_ev zs) 0 92 66 [(0, nk_r l0), (1, nk_r l1), (2, nk_i l2), (4, nk_i l4)] [] S R := by
  intro l0 l1 l2 l4 S R t_l0 t_l1 hr
  unfold ja_X13_bring_b66 at hr
  refine nk_p (i := .iconst 1) (len := 1) (pc' := 67) mJ_92 (by decide +kernel) (ns_iconst (c := 1) (by decide +kernel)) rfl ?_
  refine nk_p (i := .goto 4) (len := 3) (pc' := 71) mJ_92 (by decide +kernel) (ns_goto (by decide +kernel)) rfl ?_
  refine nk_p (i := .istore_n 3) (len := 1) (pc' := 72) mJ_92 (by decide +kernel) (ns_istore_n (L' := [(3, nk_i 1), (0, nk_r l0), (1, nk_r l1), (2, nk_i l2), (4, nk_i l4)]) rfl rfl rfl (by decide +kernel)) rfl ?_
  refine nk_p (i := .goto 130) (len := 3) (pc' := 202) mJ_92 (by decide +kernel) (ns_goto (by decide +kernel)) rfl ?_
  obtain ⟨v1, h2, hr⟩ := nk_lte hr
  refine nk_p (i := .iinc 4 1) (len := 3) (pc' := 205) mJ_92 (by decide +kernel) (ns_iinc (c := 1) (L' := [(4, nk_i v1), (3, nk_i 1), (0, nk_r l0), (1, nk_r l1), (2, nk_i l2)]) 4 rfl (by decide +kernel) h2 rfl (by decide +kernel)) rfl ?_
  refine nk_p (i := .goto (-187)) (len := 3) (pc' := 18) mJ_92 (by decide +kernel) (ns_goto (by decide +kernel)) rfl ?_
  refine nk_sub [2, 3, 4, 1, 0] (L' := [(0, nk_r l0), (1, nk_r l1), (2, nk_i l2), (3, nk_i 1), (4, nk_i v1)]) rfl ?_
  exact hrec18 _ _ _ _ _ _ _ t_l0 t_l1 hr
noncomputable def ja_X13_bring_b18 (rec18 : Nat → Nat → Int → Int → Int → nk_S → Option (Int × nk_S)) (l0 : Nat) (l1 : Nat) (l2 : Int) (l3 : Int) (l4 : Int) (S : nk_S) : Option (Int × nk_S) :=
  if 0 ≤ l2 ∧ l2 < 1024 then
  if (nk_w (12 + (S.1 (ja_c l1 26) l2.toNat))) ≤ l4 then
    nk_lt (nk_wi S (ja_c l1 34) l2.toNat 1) fun S4 =>
    if l3 = 0 then
      some (0, S4)
    else
      nk_lt (nk_wi S4 (ja_c l0 35) l2.toNat 1) fun S7 =>
      nk_lt (nk_wi S7 l0 36 1) fun S9 =>
      some (0, S9)
  else
    nk_lt (nk_w ((nk_w (l2 * 20)) + l4)) fun v11 =>
    if (S.1 (ja_c l1 34) l2.toNat) = 0 then
      ja_X13_bring_b75 rec18 l0 l1 l2 l3 l4 v11 S
    else
      nk_bd (ja_X13_joinSlot l0 l1 v11 l4 S) fun r14 S15 =>
      if r14 = 0 then
        if l3 = 0 then
          nk_lt (nk_w (l4 + 1)) fun v17 =>
          rec18 l0 l1 l2 0 v17 S15
        else
          ja_X13_bring_b66 rec18 l0 l1 l2 l4 S15
      else
        ja_X13_bring_b66 rec18 l0 l1 l2 l4 S15
  else none
theorem ja_X13_bring_b18_ok (zs : List Int32) {rec18 : Nat → Nat → Int → Int → Int → nk_S → Option (Int × nk_S)} (hrec18 : ∀ (l0 : Nat) (l1 : Nat) (l2 : Int) (l3 : Int) (l4 : Int) (S : nk_S) (R : Int × nk_S), nk_cl ja_Tt l0 = some 13 → nk_cl ja_Tt l1 = some 12 → rec18 l0 l1 l2 l3 l4 S = some R → nk_K ja_Tt mi_Γ (mi_ev zs) 0 92 18 [(0, nk_r l0), (1, nk_r l1), (2, nk_i l2), (3, nk_i l3), (4, nk_i l4)] [] S R) : ∀ (l0 : Nat) (l1 : Nat) (l2 : Int) (l3 : Int) (l4 : Int) (S : nk_S) (R : Int × nk_S), nk_cl ja_Tt l0 = some 13 → nk_cl ja_Tt l1 = some 12 → ja_X13_bring_b18 rec18 l0 l1 l2 l3 l4 S = some R → nk_K ja_Tt mi_Γ (mi_ev zs) 0 92 18 [(0, nk_r l0), (1, nk_r l1), (2, nk_i l2), (3, nk_i l3), (4, nk_i l4)] [] S R := by
  intro l0 l1 l2 l3 l4 S R t_l0 t_l1 hr
  unfold ja_X13_bring_b18 at hr
  refine nk_p (i := .iload 4) (len := 2) (pc' := 20) mJ_92 (by decide +kernel) (ns_iload 4 rfl) rfl ?_
  refine nk_p (i := .bipush 12) (len := 2) (pc' := 22) mJ_92 (by decide +kernel) (ns_bipush (c := 12) (by decide +kernel)) rfl ?_
  refine nk_p (i := .aload_n 1) (len := 1) (pc' := 23) mJ_92 (by decide +kernel) (ns_aload_n 1 rfl rfl) rfl ?_
  refine nk_getC (f := (4, 1, 1024)) (x := 474) (len := 3) (ci := 12) (k := 26) (pc' := 26) ja_okT mJ_92 (by decide +kernel) (by decide +kernel) (by decide +kernel) (by decide) t_l1 rfl ?_
  have t1 : nk_ar ja_Tt (ja_c l1 26) = some (1, 1024) := nk_ta ja_okT t_l1 (by decide +kernel)
  refine nk_p (i := .iload_n 2) (len := 1) (pc' := 27) mJ_92 (by decide +kernel) (ns_iload_n 2 rfl rfl) rfl ?_
  obtain ⟨h2, hr⟩ := nk_cke hr
  refine nk_iald (len := 1) (N := 1024) (pc' := 28) mJ_92 (by decide +kernel) t1 h2.1 h2.2 rfl rfl ?_
  refine nk_p (i := .iadd) (len := 1) (pc' := 29) mJ_92 (by decide +kernel) ns_iadd rfl ?_
  refine nk_icmp (c := .ge) (off := 179) (len := 3) (t := 208) (pc' := 32) mJ_92 (by decide +kernel) (by decide +kernel) rfl (fun hc => ?_) (fun hc => ?_)
  · have hr := nk_ifp (c := (nk_w (12 + (S.1 (ja_c l1 26) l2.toNat))) ≤ l4) hc hr
    refine nk_p (i := .aload_n 1) (len := 1) (pc' := 209) mJ_92 (by decide +kernel) (ns_aload_n 1 rfl rfl) rfl ?_
    refine nk_getC (f := (4, 3, 1024)) (x := 539) (len := 3) (ci := 12) (k := 34) (pc' := 212) ja_okT mJ_92 (by decide +kernel) (by decide +kernel) (by decide +kernel) (by decide) t_l1 rfl ?_
    have t3 : nk_ar ja_Tt (ja_c l1 34) = some (3, 1024) := nk_ta ja_okT t_l1 (by decide +kernel)
    refine nk_p (i := .iload_n 2) (len := 1) (pc' := 213) mJ_92 (by decide +kernel) (ns_iload_n 2 rfl rfl) rfl ?_
    refine nk_p (i := .iconst 1) (len := 1) (pc' := 214) mJ_92 (by decide +kernel) (ns_iconst (c := 1) (by decide +kernel)) rfl ?_
    obtain ⟨S4, h5, hr⟩ := nk_lte hr
    refine nk_zast (len := 1) (N := 1024) (pc' := 215) mJ_92 (by decide +kernel) t3 h2.1 h2.2 (by decide) rfl rfl h5 ?_
    refine nk_p (i := .iload_n 3) (len := 1) (pc' := 216) mJ_92 (by decide +kernel) (ns_iload_n 3 rfl rfl) rfl ?_
    refine nk_icond (c := .ne) (off := 4) (len := 3) (t := 220) (pc' := 219) mJ_92 (by decide +kernel) (by decide +kernel) rfl (fun hc => ?_) (fun hc => ?_)
    · have hr := nk_ifn (c := l3 = 0) hc hr
      refine nk_p (i := .aload_n 0) (len := 1) (pc' := 221) mJ_92 (by decide +kernel) (ns_aload_n 0 rfl rfl) rfl ?_
      refine nk_getC (f := (4, 3, 1024)) (x := 99) (len := 3) (ci := 13) (k := 35) (pc' := 224) ja_okT mJ_92 (by decide +kernel) (by decide +kernel) (by decide +kernel) (by decide) t_l0 rfl ?_
      have t6 : nk_ar ja_Tt (ja_c l0 35) = some (3, 1024) := nk_ta ja_okT t_l0 (by decide +kernel)
      refine nk_p (i := .iload_n 2) (len := 1) (pc' := 225) mJ_92 (by decide +kernel) (ns_iload_n 2 rfl rfl) rfl ?_
      refine nk_p (i := .iconst 1) (len := 1) (pc' := 226) mJ_92 (by decide +kernel) (ns_iconst (c := 1) (by decide +kernel)) rfl ?_
      obtain ⟨S7, h8, hr⟩ := nk_lte hr
      refine nk_zast (len := 1) (N := 1024) (pc' := 227) mJ_92 (by decide +kernel) t6 h2.1 h2.2 (by decide) rfl rfl h8 ?_
      refine nk_p (i := .aload_n 0) (len := 1) (pc' := 228) mJ_92 (by decide +kernel) (ns_aload_n 0 rfl rfl) rfl ?_
      refine nk_p (i := .iconst 1) (len := 1) (pc' := 229) mJ_92 (by decide +kernel) (ns_iconst (c := 1) (by decide +kernel)) rfl ?_
      obtain ⟨S9, h10, hr⟩ := nk_lte hr
      refine nk_putI (y := (0, 0)) (ty := .boolean) (x := 545) (len := 3) (ci := 13) (k := 36) (pc' := 232) ja_okT mJ_92 (by decide +kernel) (by decide +kernel) (by decide +kernel) t_l0 (Or.inr ⟨rfl, by decide⟩) rfl h10 ?_
      cases hr
      exact nk_vret (len := 1) mJ_92 (by decide +kernel) rfl
    · have hr := nk_ifp (c := l3 = 0) (Decidable.of_not_not hc) hr
      cases hr
      exact nk_vret (len := 1) mJ_92 (by decide +kernel) rfl
  · have hr := nk_ifn (c := (nk_w (12 + (S.1 (ja_c l1 26) l2.toNat))) ≤ l4) hc hr
    refine nk_p (i := .iload_n 2) (len := 1) (pc' := 33) mJ_92 (by decide +kernel) (ns_iload_n 2 rfl rfl) rfl ?_
    refine nk_p (i := .bipush 20) (len := 2) (pc' := 35) mJ_92 (by decide +kernel) (ns_bipush (c := 20) (by decide +kernel)) rfl ?_
    refine nk_p (i := .imul) (len := 1) (pc' := 36) mJ_92 (by decide +kernel) ns_imul rfl ?_
    refine nk_p (i := .iload 4) (len := 2) (pc' := 38) mJ_92 (by decide +kernel) (ns_iload 4 rfl) rfl ?_
    refine nk_p (i := .iadd) (len := 1) (pc' := 39) mJ_92 (by decide +kernel) ns_iadd rfl ?_
    obtain ⟨v11, h12, hr⟩ := nk_lte hr
    refine nk_p (i := .istore 5) (len := 2) (pc' := 41) mJ_92 (by decide +kernel) (ns_istore (L' := [(5, nk_i v11), (0, nk_r l0), (1, nk_r l1), (2, nk_i l2), (3, nk_i l3), (4, nk_i l4)]) h12 rfl (by decide +kernel)) rfl ?_
    refine nk_p (i := .aload_n 1) (len := 1) (pc' := 42) mJ_92 (by decide +kernel) (ns_aload_n 2 rfl rfl) rfl ?_
    refine nk_getC (f := (4, 3, 1024)) (x := 539) (len := 3) (ci := 12) (k := 34) (pc' := 45) ja_okT mJ_92 (by decide +kernel) (by decide +kernel) (by decide +kernel) (by decide) t_l1 rfl ?_
    have t13 : nk_ar ja_Tt (ja_c l1 34) = some (3, 1024) := nk_ta ja_okT t_l1 (by decide +kernel)
    refine nk_p (i := .iload_n 2) (len := 1) (pc' := 46) mJ_92 (by decide +kernel) (ns_iload_n 3 rfl rfl) rfl ?_
    refine nk_bald (t := 3) (len := 1) (N := 1024) (pc' := 47) mJ_92 (by decide +kernel) t13 (by decide) h2.1 h2.2 rfl rfl ?_
    refine nk_icond (c := .eq) (off := 28) (len := 3) (t := 75) (pc' := 50) mJ_92 (by decide +kernel) (by decide +kernel) rfl (fun hc => ?_) (fun hc => ?_)
    · have hr := nk_ifp (c := (S.1 (ja_c l1 34) l2.toNat) = 0) hc hr
      refine nk_sub [1, 2, 3, 4, 5, 0] (L' := [(0, nk_r l0), (1, nk_r l1), (2, nk_i l2), (3, nk_i l3), (4, nk_i l4), (5, nk_i v11)]) rfl ?_
      exact ja_X13_bring_b75_ok zs hrec18 _ _ _ _ _ _ _ _ t_l0 t_l1 hr
    · have hr := nk_ifn (c := (S.1 (ja_c l1 34) l2.toNat) = 0) hc hr
      refine nk_p (i := .aload_n 0) (len := 1) (pc' := 51) mJ_92 (by decide +kernel) (ns_aload_n 1 rfl rfl) rfl ?_
      refine nk_p (i := .aload_n 1) (len := 1) (pc' := 52) mJ_92 (by decide +kernel) (ns_aload_n 2 rfl rfl) rfl ?_
      refine nk_p (i := .iload 5) (len := 2) (pc' := 54) mJ_92 (by decide +kernel) (ns_iload 0 rfl) rfl ?_
      refine nk_p (i := .iload 4) (len := 2) (pc' := 56) mJ_92 (by decide +kernel) (ns_iload 5 rfl) rfl ?_
      obtain ⟨r14, S15, h16, hr⟩ := nk_bde hr
      refine nk_callV (ci := 13) (n := 3) (x := 542) (len := 3) (j' := 167) (q' := 1) (r := r14) (S' := S15) (L2 := [(0, nk_r l0), (1, nk_r l1), (2, nk_i v11), (3, nk_i l4)]) (rest := []) (st' := [nk_i r14]) (pc' := 59) mJ_92 (by decide +kernel) (by decide +kernel) rfl rfl t_l0 (Nat.le_of_ble_eq_true rfl) mJ_167 (Nat.le_of_ble_eq_true rfl) rfl (ja_X13_joinSlot_ok zs _ _ _ _ _ _ t_l0 t_l1 h16) rfl ?_
      refine nk_icond (c := .ne) (off := 7) (len := 3) (t := 66) (pc' := 62) mJ_92 (by decide +kernel) (by decide +kernel) rfl (fun hc => ?_) (fun hc => ?_)
      · have hr := nk_ifn (c := r14 = 0) hc hr
        refine nk_sub [1, 2, 3, 5] (L' := [(0, nk_r l0), (1, nk_r l1), (2, nk_i l2), (4, nk_i l4)]) rfl ?_
        exact ja_X13_bring_b66_ok zs hrec18 _ _ _ _ _ _ t_l0 t_l1 hr
      · have hr := nk_ifp (c := r14 = 0) (Decidable.of_not_not hc) hr
        refine nk_p (i := .iload_n 3) (len := 1) (pc' := 63) mJ_92 (by decide +kernel) (ns_iload_n 4 rfl rfl) rfl ?_
        refine nk_icond (c := .eq) (off := 7) (len := 3) (t := 70) (pc' := 66) mJ_92 (by decide +kernel) (by decide +kernel) rfl (fun hc => ?_) (fun hc => ?_)
        · have hr := nk_ifp (c := l3 = 0) hc hr
          refine nk_p (i := .iconst 0) (len := 1) (pc' := 71) mJ_92 (by decide +kernel) (ns_iconst (c := 0) (by decide +kernel)) rfl ?_
          refine nk_p (i := .istore_n 3) (len := 1) (pc' := 72) mJ_92 (by decide +kernel) (ns_istore_n (L' := [(3, nk_i 0), (5, nk_i v11), (0, nk_r l0), (1, nk_r l1), (2, nk_i l2), (4, nk_i l4)]) rfl rfl rfl (by decide +kernel)) rfl ?_
          refine nk_p (i := .goto 130) (len := 3) (pc' := 202) mJ_92 (by decide +kernel) (ns_goto (by decide +kernel)) rfl ?_
          obtain ⟨v17, h18, hr⟩ := nk_lte hr
          refine nk_p (i := .iinc 4 1) (len := 3) (pc' := 205) mJ_92 (by decide +kernel) (ns_iinc (c := 1) (L' := [(4, nk_i v17), (3, nk_i 0), (5, nk_i v11), (0, nk_r l0), (1, nk_r l1), (2, nk_i l2)]) 5 rfl (by decide +kernel) h18 rfl (by decide +kernel)) rfl ?_
          refine nk_p (i := .goto (-187)) (len := 3) (pc' := 18) mJ_92 (by decide +kernel) (ns_goto (by decide +kernel)) rfl ?_
          refine nk_sub [3, 4, 5, 1, 0] (L' := [(0, nk_r l0), (1, nk_r l1), (2, nk_i l2), (3, nk_i 0), (4, nk_i v17)]) rfl ?_
          exact hrec18 _ _ _ _ _ _ _ t_l0 t_l1 hr
        · have hr := nk_ifn (c := l3 = 0) hc hr
          refine nk_sub [1, 2, 3, 5] (L' := [(0, nk_r l0), (1, nk_r l1), (2, nk_i l2), (4, nk_i l4)]) rfl ?_
          exact ja_X13_bring_b66_ok zs hrec18 _ _ _ _ _ _ t_l0 t_l1 hr
noncomputable def ja_X13_bring_L18 : Nat → Nat → Nat → Int → Int → Int → nk_S → Option (Int × nk_S)
  | 0, _, _, _, _, _, _ => none
  | n + 1, l0, l1, l2, l3, l4, S => ja_X13_bring_b18 (ja_X13_bring_L18 n) l0 l1 l2 l3 l4 S
theorem ja_X13_bring_L18_ok (zs : List Int32) : ∀ n : Nat, ∀ (l0 : Nat) (l1 : Nat) (l2 : Int) (l3 : Int) (l4 : Int) (S : nk_S) (R : Int × nk_S), nk_cl ja_Tt l0 = some 13 → nk_cl ja_Tt l1 = some 12 → ja_X13_bring_L18 n l0 l1 l2 l3 l4 S = some R → nk_K ja_Tt mi_Γ (mi_ev zs) 0 92 18 [(0, nk_r l0), (1, nk_r l1), (2, nk_i l2), (3, nk_i l3), (4, nk_i l4)] [] S R := by
  intro n
  induction n with
  | zero => intro _ _ _ _ _ _ _ _ _ hr; cases hr
  | succ n ih => intro l0 l1 l2 l3 l4 S R t_l0 t_l1 hr; exact ja_X13_bring_b18_ok zs ih l0 l1 l2 l3 l4 S R t_l0 t_l1 hr
noncomputable def ja_X13_bring (l0 : Nat) (l1 : Nat) (l2 : Int) (S : nk_S) : Option (Int × nk_S) :=
  if 0 ≤ l2 ∧ l2 < 1024 then
  if (S.1 (ja_c l1 34) l2.toNat) = 0 then
    ja_X13_bring_L18 nk_big l0 l1 l2 1 0 S
  else
    ja_X13_bring_L18 nk_big l0 l1 l2 0 0 S
  else none
theorem ja_X13_bring_ok (zs : List Int32) : ∀ (l0 : Nat) (l1 : Nat) (l2 : Int) (S : nk_S) (R : Int × nk_S), nk_cl ja_Tt l0 = some 13 → nk_cl ja_Tt l1 = some 12 → ja_X13_bring l0 l1 l2 S = some R → nk_K ja_Tt mi_Γ (mi_ev zs) 0 92 0 [(0, nk_r l0), (1, nk_r l1), (2, nk_i l2)] [] S R := by
  intro l0 l1 l2 S R t_l0 t_l1 hr
  unfold ja_X13_bring at hr
  refine nk_p (i := .aload_n 1) (len := 1) (pc' := 1) mJ_92 (by decide +kernel) (ns_aload_n 1 rfl rfl) rfl ?_
  refine nk_getC (f := (4, 3, 1024)) (x := 539) (len := 3) (ci := 12) (k := 34) (pc' := 4) ja_okT mJ_92 (by decide +kernel) (by decide +kernel) (by decide +kernel) (by decide) t_l1 rfl ?_
  have t1 : nk_ar ja_Tt (ja_c l1 34) = some (3, 1024) := nk_ta ja_okT t_l1 (by decide +kernel)
  refine nk_p (i := .iload_n 2) (len := 1) (pc' := 5) mJ_92 (by decide +kernel) (ns_iload_n 2 rfl rfl) rfl ?_
  obtain ⟨h2, hr⟩ := nk_cke hr
  refine nk_bald (t := 3) (len := 1) (N := 1024) (pc' := 6) mJ_92 (by decide +kernel) t1 (by decide) h2.1 h2.2 rfl rfl ?_
  refine nk_icond (c := .ne) (off := 7) (len := 3) (t := 13) (pc' := 9) mJ_92 (by decide +kernel) (by decide +kernel) rfl (fun hc => ?_) (fun hc => ?_)
  · have hr := nk_ifn (c := (S.1 (ja_c l1 34) l2.toNat) = 0) hc hr
    refine nk_p (i := .iconst 0) (len := 1) (pc' := 14) mJ_92 (by decide +kernel) (ns_iconst (c := 0) (by decide +kernel)) rfl ?_
    refine nk_p (i := .istore_n 3) (len := 1) (pc' := 15) mJ_92 (by decide +kernel) (ns_istore_n (L' := [(3, nk_i 0), (0, nk_r l0), (1, nk_r l1), (2, nk_i l2)]) rfl rfl rfl (by decide +kernel)) rfl ?_
    refine nk_p (i := .iconst 0) (len := 1) (pc' := 16) mJ_92 (by decide +kernel) (ns_iconst (c := 0) (by decide +kernel)) rfl ?_
    refine nk_p (i := .istore 4) (len := 2) (pc' := 18) mJ_92 (by decide +kernel) (ns_istore (L' := [(4, nk_i 0), (3, nk_i 0), (0, nk_r l0), (1, nk_r l1), (2, nk_i l2)]) rfl rfl (by decide +kernel)) rfl ?_
    refine nk_sub [2, 3, 4, 1, 0] (L' := [(0, nk_r l0), (1, nk_r l1), (2, nk_i l2), (3, nk_i 0), (4, nk_i 0)]) rfl ?_
    exact ja_X13_bring_L18_ok zs nk_big _ _ _ _ _ _ _ t_l0 t_l1 hr
  · have hr := nk_ifp (c := (S.1 (ja_c l1 34) l2.toNat) = 0) (Decidable.of_not_not hc) hr
    refine nk_p (i := .iconst 1) (len := 1) (pc' := 10) mJ_92 (by decide +kernel) (ns_iconst (c := 1) (by decide +kernel)) rfl ?_
    refine nk_p (i := .goto 4) (len := 3) (pc' := 14) mJ_92 (by decide +kernel) (ns_goto (by decide +kernel)) rfl ?_
    refine nk_p (i := .istore_n 3) (len := 1) (pc' := 15) mJ_92 (by decide +kernel) (ns_istore_n (L' := [(3, nk_i 1), (0, nk_r l0), (1, nk_r l1), (2, nk_i l2)]) rfl rfl rfl (by decide +kernel)) rfl ?_
    refine nk_p (i := .iconst 0) (len := 1) (pc' := 16) mJ_92 (by decide +kernel) (ns_iconst (c := 0) (by decide +kernel)) rfl ?_
    refine nk_p (i := .istore 4) (len := 2) (pc' := 18) mJ_92 (by decide +kernel) (ns_istore (L' := [(4, nk_i 0), (3, nk_i 1), (0, nk_r l0), (1, nk_r l1), (2, nk_i l2)]) rfl rfl (by decide +kernel)) rfl ?_
    refine nk_sub [2, 3, 4, 1, 0] (L' := [(0, nk_r l0), (1, nk_r l1), (2, nk_i l2), (3, nk_i 1), (4, nk_i 0)]) rfl ?_
    exact ja_X13_bring_L18_ok zs nk_big _ _ _ _ _ _ _ t_l0 t_l1 hr
/-! SafeCodeModel begin (LSafeCodeModel$Program;I)V -/
noncomputable def ja_X13_begin_b2 (rec2 : Nat → Nat → Int → Int → nk_S → Option (Int × nk_S)) (l0 : Nat) (l1 : Nat) (l2 : Int) (l3 : Int) (S : nk_S) : Option (Int × nk_S) :=
  if 12 ≤ l3 then
    if 0 ≤ l2 ∧ l2 < 48 then
    nk_bd (ja_X13_bring l0 l1 (S.1 (ja_c l1 19) l2.toNat) S) fun r3 S4 =>
    some (0, S4)
    else none
  else
    nk_bd (ja_X13_clear l0 l3 S) fun r6 S7 =>
    if 0 ≤ l2 ∧ l2 < 48 then
    if l3 < (S7.1 (ja_c l1 15) l2.toNat) then
      nk_lt (nk_w ((nk_w (2700 + (nk_w (l2 * 12)))) + l3)) fun v11 =>
      if 0 ≤ v11 ∧ v11 < 3324 then
      if 0 ≤ l3 ∧ l3 < 24 then
      nk_lt (nk_wi S7 (ja_c l0 26) l3.toNat (nk_i2b (S7.1 (ja_c l1 46) v11.toNat))) fun S17 =>
      nk_lt (nk_wi S17 (ja_c l0 27) l3.toNat (S17.1 (ja_c l1 47) v11.toNat)) fun S21 =>
      nk_lt (nk_wi S21 (ja_c l0 28) l3.toNat (S21.1 (ja_c l1 48) v11.toNat)) fun S25 =>
      nk_lt (nk_wi S25 (ja_c l0 29) l3.toNat (S25.1 (ja_c l1 49) v11.toNat)) fun S29 =>
      nk_lt (nk_w (l3 + 1)) fun v31 =>
      rec2 l0 l1 l2 v31 S29
      else none
      else none
    else
      nk_lt (nk_w (l3 + 1)) fun v33 =>
      rec2 l0 l1 l2 v33 S7
    else none
theorem ja_X13_begin_b2_ok (zs : List Int32) {rec2 : Nat → Nat → Int → Int → nk_S → Option (Int × nk_S)} (hrec2 : ∀ (l0 : Nat) (l1 : Nat) (l2 : Int) (l3 : Int) (S : nk_S) (R : Int × nk_S), nk_cl ja_Tt l0 = some 13 → nk_cl ja_Tt l1 = some 12 → rec2 l0 l1 l2 l3 S = some R → nk_K ja_Tt mi_Γ (mi_ev zs) 0 86 2 [(0, nk_r l0), (1, nk_r l1), (2, nk_i l2), (3, nk_i l3)] [] S R) : ∀ (l0 : Nat) (l1 : Nat) (l2 : Int) (l3 : Int) (S : nk_S) (R : Int × nk_S), nk_cl ja_Tt l0 = some 13 → nk_cl ja_Tt l1 = some 12 → ja_X13_begin_b2 rec2 l0 l1 l2 l3 S = some R → nk_K ja_Tt mi_Γ (mi_ev zs) 0 86 2 [(0, nk_r l0), (1, nk_r l1), (2, nk_i l2), (3, nk_i l3)] [] S R := by
  intro l0 l1 l2 l3 S R t_l0 t_l1 hr
  unfold ja_X13_begin_b2 at hr
  refine nk_p (i := .iload_n 3) (len := 1) (pc' := 3) mJ_86 (by decide +kernel) (ns_iload_n 3 rfl rfl) rfl ?_
  refine nk_p (i := .bipush 12) (len := 2) (pc' := 5) mJ_86 (by decide +kernel) (ns_bipush (c := 12) (by decide +kernel)) rfl ?_
  refine nk_icmp (c := .ge) (off := 91) (len := 3) (t := 96) (pc' := 8) mJ_86 (by decide +kernel) (by decide +kernel) rfl (fun hc => ?_) (fun hc => ?_)
  · have hr := nk_ifp (c := 12 ≤ l3) hc hr
    refine nk_p (i := .aload_n 0) (len := 1) (pc' := 97) mJ_86 (by decide +kernel) (ns_aload_n 0 rfl rfl) rfl ?_
    refine nk_p (i := .aload_n 1) (len := 1) (pc' := 98) mJ_86 (by decide +kernel) (ns_aload_n 1 rfl rfl) rfl ?_
    refine nk_p (i := .aload_n 1) (len := 1) (pc' := 99) mJ_86 (by decide +kernel) (ns_aload_n 1 rfl rfl) rfl ?_
    refine nk_getC (f := (4, 1, 48)) (x := 369) (len := 3) (ci := 12) (k := 19) (pc' := 102) ja_okT mJ_86 (by decide +kernel) (by decide +kernel) (by decide +kernel) (by decide) t_l1 rfl ?_
    have t1 : nk_ar ja_Tt (ja_c l1 19) = some (1, 48) := nk_ta ja_okT t_l1 (by decide +kernel)
    refine nk_p (i := .iload_n 2) (len := 1) (pc' := 103) mJ_86 (by decide +kernel) (ns_iload_n 2 rfl rfl) rfl ?_
    obtain ⟨h2, hr⟩ := nk_cke hr
    refine nk_iald (len := 1) (N := 48) (pc' := 104) mJ_86 (by decide +kernel) t1 h2.1 h2.2 rfl rfl ?_
    obtain ⟨r3, S4, h5, hr⟩ := nk_bde hr
    refine nk_callV (ci := 13) (n := 2) (x := 622) (len := 3) (j' := 92) (q' := 0) (r := r3) (S' := S4) (L2 := [(0, nk_r l0), (1, nk_r l1), (2, nk_i (S.1 (ja_c l1 19) l2.toNat))]) (rest := []) (st' := []) (pc' := 107) mJ_86 (by decide +kernel) (by decide +kernel) rfl rfl t_l0 (Nat.le_of_ble_eq_true rfl) mJ_92 (Nat.le_of_ble_eq_true rfl) rfl (ja_X13_bring_ok zs _ _ _ _ _ t_l0 t_l1 h5) rfl ?_
    cases hr
    exact nk_vret (len := 1) mJ_86 (by decide +kernel) rfl
  · have hr := nk_ifn (c := 12 ≤ l3) hc hr
    refine nk_p (i := .aload_n 0) (len := 1) (pc' := 9) mJ_86 (by decide +kernel) (ns_aload_n 0 rfl rfl) rfl ?_
    refine nk_p (i := .iload_n 3) (len := 1) (pc' := 10) mJ_86 (by decide +kernel) (ns_iload_n 3 rfl rfl) rfl ?_
    obtain ⟨r6, S7, h8, hr⟩ := nk_bde hr
    refine nk_callV (ci := 13) (n := 1) (x := 560) (len := 3) (j' := 101) (q' := 0) (r := r6) (S' := S7) (L2 := [(0, nk_r l0), (1, nk_i l3)]) (rest := []) (st' := []) (pc' := 13) mJ_86 (by decide +kernel) (by decide +kernel) rfl rfl t_l0 (Nat.le_of_ble_eq_true rfl) mJ_101 (Nat.le_of_ble_eq_true rfl) rfl (ja_X13_clear_ok zs _ _ _ _ t_l0 h8) rfl ?_
    refine nk_p (i := .iload_n 3) (len := 1) (pc' := 14) mJ_86 (by decide +kernel) (ns_iload_n 3 rfl rfl) rfl ?_
    refine nk_p (i := .aload_n 1) (len := 1) (pc' := 15) mJ_86 (by decide +kernel) (ns_aload_n 1 rfl rfl) rfl ?_
    refine nk_getC (f := (4, 1, 48)) (x := 348) (len := 3) (ci := 12) (k := 15) (pc' := 18) ja_okT mJ_86 (by decide +kernel) (by decide +kernel) (by decide +kernel) (by decide) t_l1 rfl ?_
    have t9 : nk_ar ja_Tt (ja_c l1 15) = some (1, 48) := nk_ta ja_okT t_l1 (by decide +kernel)
    refine nk_p (i := .iload_n 2) (len := 1) (pc' := 19) mJ_86 (by decide +kernel) (ns_iload_n 2 rfl rfl) rfl ?_
    obtain ⟨h10, hr⟩ := nk_cke hr
    refine nk_iald (len := 1) (N := 48) (pc' := 20) mJ_86 (by decide +kernel) t9 h10.1 h10.2 rfl rfl ?_
    refine nk_icmp (c := .lt) (off := 6) (len := 3) (t := 26) (pc' := 23) mJ_86 (by decide +kernel) (by decide +kernel) rfl (fun hc => ?_) (fun hc => ?_)
    · have hr := nk_ifp (c := l3 < (S7.1 (ja_c l1 15) l2.toNat)) hc hr
      refine nk_p (i := .sipush 2700) (len := 3) (pc' := 29) mJ_86 (by decide +kernel) (ns_sipush (c := 2700) (by decide +kernel)) rfl ?_
      refine nk_p (i := .iload_n 2) (len := 1) (pc' := 30) mJ_86 (by decide +kernel) (ns_iload_n 2 rfl rfl) rfl ?_
      refine nk_p (i := .bipush 12) (len := 2) (pc' := 32) mJ_86 (by decide +kernel) (ns_bipush (c := 12) (by decide +kernel)) rfl ?_
      refine nk_p (i := .imul) (len := 1) (pc' := 33) mJ_86 (by decide +kernel) ns_imul rfl ?_
      refine nk_p (i := .iadd) (len := 1) (pc' := 34) mJ_86 (by decide +kernel) ns_iadd rfl ?_
      refine nk_p (i := .iload_n 3) (len := 1) (pc' := 35) mJ_86 (by decide +kernel) (ns_iload_n 3 rfl rfl) rfl ?_
      refine nk_p (i := .iadd) (len := 1) (pc' := 36) mJ_86 (by decide +kernel) ns_iadd rfl ?_
      obtain ⟨v11, h12, hr⟩ := nk_lte hr
      refine nk_p (i := .istore 4) (len := 2) (pc' := 38) mJ_86 (by decide +kernel) (ns_istore (L' := [(4, nk_i v11), (0, nk_r l0), (1, nk_r l1), (2, nk_i l2), (3, nk_i l3)]) h12 rfl (by decide +kernel)) rfl ?_
      refine nk_p (i := .aload_n 0) (len := 1) (pc' := 39) mJ_86 (by decide +kernel) (ns_aload_n 1 rfl rfl) rfl ?_
      refine nk_getC (f := (4, 0, 24)) (x := 71) (len := 3) (ci := 13) (k := 26) (pc' := 42) ja_okT mJ_86 (by decide +kernel) (by decide +kernel) (by decide +kernel) (by decide) t_l0 rfl ?_
      have t13 : nk_ar ja_Tt (ja_c l0 26) = some (0, 24) := nk_ta ja_okT t_l0 (by decide +kernel)
      refine nk_p (i := .iload_n 3) (len := 1) (pc' := 43) mJ_86 (by decide +kernel) (ns_iload_n 4 rfl rfl) rfl ?_
      refine nk_p (i := .aload_n 1) (len := 1) (pc' := 44) mJ_86 (by decide +kernel) (ns_aload_n 2 rfl rfl) rfl ?_
      refine nk_getC (f := (4, 0, 3324)) (x := 576) (len := 3) (ci := 12) (k := 46) (pc' := 47) ja_okT mJ_86 (by decide +kernel) (by decide +kernel) (by decide +kernel) (by decide) t_l1 rfl ?_
      have t14 : nk_ar ja_Tt (ja_c l1 46) = some (0, 3324) := nk_ta ja_okT t_l1 (by decide +kernel)
      refine nk_p (i := .iload 4) (len := 2) (pc' := 49) mJ_86 (by decide +kernel) (ns_iload 0 rfl) rfl ?_
      obtain ⟨h15, hr⟩ := nk_cke hr
      refine nk_bald (t := 0) (len := 1) (N := 3324) (pc' := 50) mJ_86 (by decide +kernel) t14 (by decide) h15.1 h15.2 rfl rfl ?_
      obtain ⟨h16, hr⟩ := nk_cke hr
      obtain ⟨S17, h18, hr⟩ := nk_lte hr
      refine nk_bast (len := 1) (N := 24) (pc' := 51) mJ_86 (by decide +kernel) t13 h16.1 h16.2 rfl rfl h18 ?_
      refine nk_p (i := .aload_n 0) (len := 1) (pc' := 52) mJ_86 (by decide +kernel) (ns_aload_n 1 rfl rfl) rfl ?_
      refine nk_getC (f := (4, 1, 24)) (x := 74) (len := 3) (ci := 13) (k := 27) (pc' := 55) ja_okT mJ_86 (by decide +kernel) (by decide +kernel) (by decide +kernel) (by decide) t_l0 rfl ?_
      have t19 : nk_ar ja_Tt (ja_c l0 27) = some (1, 24) := nk_ta ja_okT t_l0 (by decide +kernel)
      refine nk_p (i := .iload_n 3) (len := 1) (pc' := 56) mJ_86 (by decide +kernel) (ns_iload_n 4 rfl rfl) rfl ?_
      refine nk_p (i := .aload_n 1) (len := 1) (pc' := 57) mJ_86 (by decide +kernel) (ns_aload_n 2 rfl rfl) rfl ?_
      refine nk_getC (f := (4, 1, 3324)) (x := 579) (len := 3) (ci := 12) (k := 47) (pc' := 60) ja_okT mJ_86 (by decide +kernel) (by decide +kernel) (by decide +kernel) (by decide) t_l1 rfl ?_
      have t20 : nk_ar ja_Tt (ja_c l1 47) = some (1, 3324) := nk_ta ja_okT t_l1 (by decide +kernel)
      refine nk_p (i := .iload 4) (len := 2) (pc' := 62) mJ_86 (by decide +kernel) (ns_iload 0 rfl) rfl ?_
      refine nk_iald (len := 1) (N := 3324) (pc' := 63) mJ_86 (by decide +kernel) t20 h15.1 h15.2 rfl rfl ?_
      obtain ⟨S21, h22, hr⟩ := nk_lte hr
      refine nk_iast (len := 1) (N := 24) (pc' := 64) mJ_86 (by decide +kernel) t19 h16.1 h16.2 rfl rfl h22 ?_
      refine nk_p (i := .aload_n 0) (len := 1) (pc' := 65) mJ_86 (by decide +kernel) (ns_aload_n 1 rfl rfl) rfl ?_
      refine nk_getC (f := (4, 1, 24)) (x := 77) (len := 3) (ci := 13) (k := 28) (pc' := 68) ja_okT mJ_86 (by decide +kernel) (by decide +kernel) (by decide +kernel) (by decide) t_l0 rfl ?_
      have t23 : nk_ar ja_Tt (ja_c l0 28) = some (1, 24) := nk_ta ja_okT t_l0 (by decide +kernel)
      refine nk_p (i := .iload_n 3) (len := 1) (pc' := 69) mJ_86 (by decide +kernel) (ns_iload_n 4 rfl rfl) rfl ?_
      refine nk_p (i := .aload_n 1) (len := 1) (pc' := 70) mJ_86 (by decide +kernel) (ns_aload_n 2 rfl rfl) rfl ?_
      refine nk_getC (f := (4, 1, 3324)) (x := 582) (len := 3) (ci := 12) (k := 48) (pc' := 73) ja_okT mJ_86 (by decide +kernel) (by decide +kernel) (by decide +kernel) (by decide) t_l1 rfl ?_
      have t24 : nk_ar ja_Tt (ja_c l1 48) = some (1, 3324) := nk_ta ja_okT t_l1 (by decide +kernel)
      refine nk_p (i := .iload 4) (len := 2) (pc' := 75) mJ_86 (by decide +kernel) (ns_iload 0 rfl) rfl ?_
      refine nk_iald (len := 1) (N := 3324) (pc' := 76) mJ_86 (by decide +kernel) t24 h15.1 h15.2 rfl rfl ?_
      obtain ⟨S25, h26, hr⟩ := nk_lte hr
      refine nk_iast (len := 1) (N := 24) (pc' := 77) mJ_86 (by decide +kernel) t23 h16.1 h16.2 rfl rfl h26 ?_
      refine nk_p (i := .aload_n 0) (len := 1) (pc' := 78) mJ_86 (by decide +kernel) (ns_aload_n 1 rfl rfl) rfl ?_
      refine nk_getC (f := (4, 2, 24)) (x := 80) (len := 3) (ci := 13) (k := 29) (pc' := 81) ja_okT mJ_86 (by decide +kernel) (by decide +kernel) (by decide +kernel) (by decide) t_l0 rfl ?_
      have t27 : nk_ar ja_Tt (ja_c l0 29) = some (2, 24) := nk_ta ja_okT t_l0 (by decide +kernel)
      refine nk_p (i := .iload_n 3) (len := 1) (pc' := 82) mJ_86 (by decide +kernel) (ns_iload_n 4 rfl rfl) rfl ?_
      refine nk_p (i := .aload_n 1) (len := 1) (pc' := 83) mJ_86 (by decide +kernel) (ns_aload_n 2 rfl rfl) rfl ?_
      refine nk_getC (f := (4, 2, 3324)) (x := 588) (len := 3) (ci := 12) (k := 49) (pc' := 86) ja_okT mJ_86 (by decide +kernel) (by decide +kernel) (by decide +kernel) (by decide) t_l1 rfl ?_
      have t28 : nk_ar ja_Tt (ja_c l1 49) = some (2, 3324) := nk_ta ja_okT t_l1 (by decide +kernel)
      refine nk_p (i := .iload 4) (len := 2) (pc' := 88) mJ_86 (by decide +kernel) (ns_iload 0 rfl) rfl ?_
      refine nk_lald (len := 1) (N := 3324) (pc' := 89) mJ_86 (by decide +kernel) t28 h15.1 h15.2 rfl rfl ?_
      obtain ⟨S29, h30, hr⟩ := nk_lte hr
      refine nk_last (len := 1) (N := 24) (pc' := 90) mJ_86 (by decide +kernel) t27 h16.1 h16.2 rfl rfl h30 ?_
      obtain ⟨v31, h32, hr⟩ := nk_lte hr
      refine nk_p (i := .iinc 3 1) (len := 3) (pc' := 93) mJ_86 (by decide +kernel) (ns_iinc (c := 1) (L' := [(3, nk_i v31), (4, nk_i v11), (0, nk_r l0), (1, nk_r l1), (2, nk_i l2)]) 4 rfl (by decide +kernel) h32 rfl (by decide +kernel)) rfl ?_
      refine nk_p (i := .goto (-91)) (len := 3) (pc' := 2) mJ_86 (by decide +kernel) (ns_goto (by decide +kernel)) rfl ?_
      refine nk_sub [2, 3, 4, 0] (L' := [(0, nk_r l0), (1, nk_r l1), (2, nk_i l2), (3, nk_i v31)]) rfl ?_
      exact hrec2 _ _ _ _ _ _ t_l0 t_l1 hr
    · have hr := nk_ifn (c := l3 < (S7.1 (ja_c l1 15) l2.toNat)) hc hr
      refine nk_p (i := .goto 67) (len := 3) (pc' := 90) mJ_86 (by decide +kernel) (ns_goto (by decide +kernel)) rfl ?_
      obtain ⟨v33, h34, hr⟩ := nk_lte hr
      refine nk_p (i := .iinc 3 1) (len := 3) (pc' := 93) mJ_86 (by decide +kernel) (ns_iinc (c := 1) (L' := [(3, nk_i v33), (0, nk_r l0), (1, nk_r l1), (2, nk_i l2)]) 3 rfl (by decide +kernel) h34 rfl (by decide +kernel)) rfl ?_
      refine nk_p (i := .goto (-91)) (len := 3) (pc' := 2) mJ_86 (by decide +kernel) (ns_goto (by decide +kernel)) rfl ?_
      refine nk_sub [1, 2, 3, 0] (L' := [(0, nk_r l0), (1, nk_r l1), (2, nk_i l2), (3, nk_i v33)]) rfl ?_
      exact hrec2 _ _ _ _ _ _ t_l0 t_l1 hr
noncomputable def ja_X13_begin_L2 : Nat → Nat → Nat → Int → Int → nk_S → Option (Int × nk_S)
  | 0, _, _, _, _, _ => none
  | n + 1, l0, l1, l2, l3, S => ja_X13_begin_b2 (ja_X13_begin_L2 n) l0 l1 l2 l3 S
theorem ja_X13_begin_L2_ok (zs : List Int32) : ∀ n : Nat, ∀ (l0 : Nat) (l1 : Nat) (l2 : Int) (l3 : Int) (S : nk_S) (R : Int × nk_S), nk_cl ja_Tt l0 = some 13 → nk_cl ja_Tt l1 = some 12 → ja_X13_begin_L2 n l0 l1 l2 l3 S = some R → nk_K ja_Tt mi_Γ (mi_ev zs) 0 86 2 [(0, nk_r l0), (1, nk_r l1), (2, nk_i l2), (3, nk_i l3)] [] S R := by
  intro n
  induction n with
  | zero => intro _ _ _ _ _ _ _ _ hr; cases hr
  | succ n ih => intro l0 l1 l2 l3 S R t_l0 t_l1 hr; exact ja_X13_begin_b2_ok zs ih l0 l1 l2 l3 S R t_l0 t_l1 hr
noncomputable def ja_X13_begin (l0 : Nat) (l1 : Nat) (l2 : Int) (S : nk_S) : Option (Int × nk_S) :=
  ja_X13_begin_L2 nk_big l0 l1 l2 0 S
theorem ja_X13_begin_ok (zs : List Int32) : ∀ (l0 : Nat) (l1 : Nat) (l2 : Int) (S : nk_S) (R : Int × nk_S), nk_cl ja_Tt l0 = some 13 → nk_cl ja_Tt l1 = some 12 → ja_X13_begin l0 l1 l2 S = some R → nk_K ja_Tt mi_Γ (mi_ev zs) 0 86 0 [(0, nk_r l0), (1, nk_r l1), (2, nk_i l2)] [] S R := by
  intro l0 l1 l2 S R t_l0 t_l1 hr
  unfold ja_X13_begin at hr
  refine nk_p (i := .iconst 0) (len := 1) (pc' := 1) mJ_86 (by decide +kernel) (ns_iconst (c := 0) (by decide +kernel)) rfl ?_
  refine nk_p (i := .istore_n 3) (len := 1) (pc' := 2) mJ_86 (by decide +kernel) (ns_istore_n (L' := [(3, nk_i 0), (0, nk_r l0), (1, nk_r l1), (2, nk_i l2)]) rfl rfl rfl (by decide +kernel)) rfl ?_
  refine nk_sub [1, 2, 3, 0] (L' := [(0, nk_r l0), (1, nk_r l1), (2, nk_i l2), (3, nk_i 0)]) rfl ?_
  exact ja_X13_begin_L2_ok zs nk_big _ _ _ _ _ _ t_l0 t_l1 hr
/-! SafeCodeModel is (ILjava/lang/String;)Z -/
noncomputable def ja_X13_is_b32 (rec32 : Nat → Int → Nat → Int → nk_S → Option (Int × nk_S)) (l0 : Nat) (l1 : Int) (l2 : Nat) (l3 : Int) (S : nk_S) : Option (Int × nk_S) :=
  nk_bd (ja_J0_length_8abf5 l2 S) fun r1 S2 =>
  if r1 ≤ l3 then
    some (1, S2)
  else
    if 0 ≤ l1 ∧ l1 < 16002 then
    if 0 ≤ (nk_w ((S2.1 (ja_c l0 8) l1.toNat) + l3)) ∧ (nk_w ((S2.1 (ja_c l0 8) l1.toNat) + l3)) < 16000 then
    nk_bd (ja_J0_charAt_5068e l2 l3 S2) fun r8 S9 =>
    if (S2.1 (ja_c l0 6) (nk_w ((S2.1 (ja_c l0 8) l1.toNat) + l3)).toNat) = r8 then
      nk_lt (nk_w (l3 + 1)) fun v11 =>
      rec32 l0 l1 l2 v11 S9
    else
      some (0, S9)
    else none
    else none
theorem ja_X13_is_b32_ok (zs : List Int32) {rec32 : Nat → Int → Nat → Int → nk_S → Option (Int × nk_S)} (hrec32 : ∀ (l0 : Nat) (l1 : Int) (l2 : Nat) (l3 : Int) (S : nk_S) (R : Int × nk_S), nk_cl ja_Tt l0 = some 13 → ja_tx zs l2 → rec32 l0 l1 l2 l3 S = some R → nk_K ja_Tt mi_Γ (mi_ev zs) 1 138 32 [(0, nk_r l0), (1, nk_i l1), (2, nk_o l2), (3, nk_i l3)] [] S R) : ∀ (l0 : Nat) (l1 : Int) (l2 : Nat) (l3 : Int) (S : nk_S) (R : Int × nk_S), nk_cl ja_Tt l0 = some 13 → ja_tx zs l2 → ja_X13_is_b32 rec32 l0 l1 l2 l3 S = some R → nk_K ja_Tt mi_Γ (mi_ev zs) 1 138 32 [(0, nk_r l0), (1, nk_i l1), (2, nk_o l2), (3, nk_i l3)] [] S R := by
  intro l0 l1 l2 l3 S R t_l0 t_l2 hr
  unfold ja_X13_is_b32 at hr
  refine nk_p (i := .iload_n 3) (len := 1) (pc' := 33) mJ_138 (by decide +kernel) (ns_iload_n 3 rfl rfl) rfl ?_
  refine nk_p (i := .aload_n 2) (len := 1) (pc' := 34) mJ_138 (by decide +kernel) (ns_oload_n 2 rfl rfl) rfl ?_
  obtain ⟨r1, S2, h3, hr⟩ := nk_bde hr
  refine nk_callT (ci := 0) (n := 0) (x := 158) (len := 3) (j' := 5) (q' := 1) (r := r1) (S' := S2) (L2 := [(0, nk_o l2)]) (rest := [nk_i l3]) (st' := [nk_i r1, nk_i l3]) (pc' := 37) mJ_138 (by decide +kernel) (by decide +kernel) rfl rfl t_l2.1 (Nat.le_of_ble_eq_true rfl) mJ_5 (Nat.le_of_ble_eq_true rfl) ja_Tpos rfl (ja_J0_length_8abf5_ok zs _ _ _ t_l2 h3) rfl ?_
  refine nk_icmp (c := .ge) (off := 32) (len := 3) (t := 69) (pc' := 40) mJ_138 (by decide +kernel) (by decide +kernel) rfl (fun hc => ?_) (fun hc => ?_)
  · have hr := nk_ifp (c := r1 ≤ l3) hc hr
    refine nk_p (i := .iconst 1) (len := 1) (pc' := 70) mJ_138 (by decide +kernel) (ns_iconst (c := 1) (by decide +kernel)) rfl ?_
    cases hr
    exact nk_iret (ty := .boolean) (len := 1) mJ_138 (by decide +kernel) rfl (nk_nar_z (by decide))
  · have hr := nk_ifn (c := r1 ≤ l3) hc hr
    refine nk_p (i := .aload_n 0) (len := 1) (pc' := 41) mJ_138 (by decide +kernel) (ns_aload_n 0 rfl rfl) rfl ?_
    refine nk_getC (f := (4, 0, 16000)) (x := 23) (len := 3) (ci := 13) (k := 6) (pc' := 44) ja_okT mJ_138 (by decide +kernel) (by decide +kernel) (by decide +kernel) (by decide) t_l0 rfl ?_
    have t4 : nk_ar ja_Tt (ja_c l0 6) = some (0, 16000) := nk_ta ja_okT t_l0 (by decide +kernel)
    refine nk_p (i := .aload_n 0) (len := 1) (pc' := 45) mJ_138 (by decide +kernel) (ns_aload_n 0 rfl rfl) rfl ?_
    refine nk_getC (f := (4, 1, 16002)) (x := 26) (len := 3) (ci := 13) (k := 8) (pc' := 48) ja_okT mJ_138 (by decide +kernel) (by decide +kernel) (by decide +kernel) (by decide) t_l0 rfl ?_
    have t5 : nk_ar ja_Tt (ja_c l0 8) = some (1, 16002) := nk_ta ja_okT t_l0 (by decide +kernel)
    refine nk_p (i := .iload_n 1) (len := 1) (pc' := 49) mJ_138 (by decide +kernel) (ns_iload_n 1 rfl rfl) rfl ?_
    obtain ⟨h6, hr⟩ := nk_cke hr
    refine nk_iald (len := 1) (N := 16002) (pc' := 50) mJ_138 (by decide +kernel) t5 h6.1 h6.2 rfl rfl ?_
    refine nk_p (i := .iload_n 3) (len := 1) (pc' := 51) mJ_138 (by decide +kernel) (ns_iload_n 3 rfl rfl) rfl ?_
    refine nk_p (i := .iadd) (len := 1) (pc' := 52) mJ_138 (by decide +kernel) ns_iadd rfl ?_
    obtain ⟨h7, hr⟩ := nk_cke hr
    refine nk_bald (t := 0) (len := 1) (N := 16000) (pc' := 53) mJ_138 (by decide +kernel) t4 (by decide) h7.1 h7.2 rfl rfl ?_
    refine nk_p (i := .aload_n 2) (len := 1) (pc' := 54) mJ_138 (by decide +kernel) (ns_oload_n 2 rfl rfl) rfl ?_
    refine nk_p (i := .iload_n 3) (len := 1) (pc' := 55) mJ_138 (by decide +kernel) (ns_iload_n 3 rfl rfl) rfl ?_
    obtain ⟨r8, S9, h10, hr⟩ := nk_bde hr
    refine nk_callT (ci := 0) (n := 1) (x := 163) (len := 3) (j' := 1) (q' := 1) (r := r8) (S' := S9) (L2 := [(0, nk_o l2), (1, nk_i l3)]) (rest := [nk_i (S2.1 (ja_c l0 6) (nk_w ((S2.1 (ja_c l0 8) l1.toNat) + l3)).toNat)]) (st' := [nk_i r8, nk_i (S2.1 (ja_c l0 6) (nk_w ((S2.1 (ja_c l0 8) l1.toNat) + l3)).toNat)]) (pc' := 58) mJ_138 (by decide +kernel) (by decide +kernel) rfl rfl t_l2.1 (Nat.le_of_ble_eq_true rfl) mJ_1 (Nat.le_of_ble_eq_true rfl) ja_Tpos rfl (ja_J0_charAt_5068e_ok zs _ _ _ _ t_l2 h10) rfl ?_
    refine nk_icmp (c := .eq) (off := 5) (len := 3) (t := 63) (pc' := 61) mJ_138 (by decide +kernel) (by decide +kernel) rfl (fun hc => ?_) (fun hc => ?_)
    · have hr := nk_ifp (c := (S2.1 (ja_c l0 6) (nk_w ((S2.1 (ja_c l0 8) l1.toNat) + l3)).toNat) = r8) hc hr
      obtain ⟨v11, h12, hr⟩ := nk_lte hr
      refine nk_p (i := .iinc 3 1) (len := 3) (pc' := 66) mJ_138 (by decide +kernel) (ns_iinc (c := 1) (L' := [(3, nk_i v11), (0, nk_r l0), (1, nk_i l1), (2, nk_o l2)]) 3 rfl (by decide +kernel) h12 rfl (by decide +kernel)) rfl ?_
      refine nk_p (i := .goto (-34)) (len := 3) (pc' := 32) mJ_138 (by decide +kernel) (ns_goto (by decide +kernel)) rfl ?_
      refine nk_sub [1, 2, 3, 0] (L' := [(0, nk_r l0), (1, nk_i l1), (2, nk_o l2), (3, nk_i v11)]) rfl ?_
      exact hrec32 _ _ _ _ _ _ t_l0 t_l2 hr
    · have hr := nk_ifn (c := (S2.1 (ja_c l0 6) (nk_w ((S2.1 (ja_c l0 8) l1.toNat) + l3)).toNat) = r8) hc hr
      refine nk_p (i := .iconst 0) (len := 1) (pc' := 62) mJ_138 (by decide +kernel) (ns_iconst (c := 0) (by decide +kernel)) rfl ?_
      cases hr
      exact nk_iret (ty := .boolean) (len := 1) mJ_138 (by decide +kernel) rfl (nk_nar_z (by decide))
noncomputable def ja_X13_is_L32 : Nat → Nat → Int → Nat → Int → nk_S → Option (Int × nk_S)
  | 0, _, _, _, _, _ => none
  | n + 1, l0, l1, l2, l3, S => ja_X13_is_b32 (ja_X13_is_L32 n) l0 l1 l2 l3 S
theorem ja_X13_is_L32_ok (zs : List Int32) : ∀ n : Nat, ∀ (l0 : Nat) (l1 : Int) (l2 : Nat) (l3 : Int) (S : nk_S) (R : Int × nk_S), nk_cl ja_Tt l0 = some 13 → ja_tx zs l2 → ja_X13_is_L32 n l0 l1 l2 l3 S = some R → nk_K ja_Tt mi_Γ (mi_ev zs) 1 138 32 [(0, nk_r l0), (1, nk_i l1), (2, nk_o l2), (3, nk_i l3)] [] S R := by
  intro n
  induction n with
  | zero => intro _ _ _ _ _ _ _ _ hr; cases hr
  | succ n ih => intro l0 l1 l2 l3 S R t_l0 t_l2 hr; exact ja_X13_is_b32_ok zs ih l0 l1 l2 l3 S R t_l0 t_l2 hr
noncomputable def ja_X13_is (l0 : Nat) (l1 : Int) (l2 : Nat) (S : nk_S) : Option (Int × nk_S) :=
  if (S.1 l0 10) ≤ l1 then
    some (0, S)
  else
    if 0 ≤ l1 ∧ l1 < 16002 then
    nk_bd (ja_J0_length_8abf5 l2 S) fun r4 S5 =>
    if (nk_w ((S.1 (ja_c l0 9) l1.toNat) - (S.1 (ja_c l0 8) l1.toNat))) = r4 then
      ja_X13_is_L32 nk_big l0 l1 l2 0 S5
    else
      some (0, S5)
    else none
theorem ja_X13_is_ok (zs : List Int32) : ∀ (l0 : Nat) (l1 : Int) (l2 : Nat) (S : nk_S) (R : Int × nk_S), nk_cl ja_Tt l0 = some 13 → ja_tx zs l2 → ja_X13_is l0 l1 l2 S = some R → nk_K ja_Tt mi_Γ (mi_ev zs) 1 138 0 [(0, nk_r l0), (1, nk_i l1), (2, nk_o l2)] [] S R := by
  intro l0 l1 l2 S R t_l0 t_l2 hr
  unfold ja_X13_is at hr
  refine nk_p (i := .iload_n 1) (len := 1) (pc' := 1) mJ_138 (by decide +kernel) (ns_iload_n 1 rfl rfl) rfl ?_
  refine nk_p (i := .aload_n 0) (len := 1) (pc' := 2) mJ_138 (by decide +kernel) (ns_aload_n 0 rfl rfl) rfl ?_
  refine nk_getI (y := (0, 0)) (x := 155) (len := 3) (ci := 13) (k := 10) (pc' := 5) ja_okT mJ_138 (by decide +kernel) (by decide +kernel) (by decide +kernel) t_l0 rfl ?_
  refine nk_icmp (c := .ge) (off := 23) (len := 3) (t := 28) (pc' := 8) mJ_138 (by decide +kernel) (by decide +kernel) rfl (fun hc => ?_) (fun hc => ?_)
  · have hr := nk_ifp (c := (S.1 l0 10) ≤ l1) hc hr
    refine nk_p (i := .iconst 0) (len := 1) (pc' := 29) mJ_138 (by decide +kernel) (ns_iconst (c := 0) (by decide +kernel)) rfl ?_
    cases hr
    exact nk_iret (ty := .boolean) (len := 1) mJ_138 (by decide +kernel) rfl (nk_nar_z (by decide))
  · have hr := nk_ifn (c := (S.1 l0 10) ≤ l1) hc hr
    refine nk_p (i := .aload_n 0) (len := 1) (pc' := 9) mJ_138 (by decide +kernel) (ns_aload_n 0 rfl rfl) rfl ?_
    refine nk_getC (f := (4, 1, 16002)) (x := 30) (len := 3) (ci := 13) (k := 9) (pc' := 12) ja_okT mJ_138 (by decide +kernel) (by decide +kernel) (by decide +kernel) (by decide) t_l0 rfl ?_
    have t1 : nk_ar ja_Tt (ja_c l0 9) = some (1, 16002) := nk_ta ja_okT t_l0 (by decide +kernel)
    refine nk_p (i := .iload_n 1) (len := 1) (pc' := 13) mJ_138 (by decide +kernel) (ns_iload_n 1 rfl rfl) rfl ?_
    obtain ⟨h2, hr⟩ := nk_cke hr
    refine nk_iald (len := 1) (N := 16002) (pc' := 14) mJ_138 (by decide +kernel) t1 h2.1 h2.2 rfl rfl ?_
    refine nk_p (i := .aload_n 0) (len := 1) (pc' := 15) mJ_138 (by decide +kernel) (ns_aload_n 0 rfl rfl) rfl ?_
    refine nk_getC (f := (4, 1, 16002)) (x := 26) (len := 3) (ci := 13) (k := 8) (pc' := 18) ja_okT mJ_138 (by decide +kernel) (by decide +kernel) (by decide +kernel) (by decide) t_l0 rfl ?_
    have t3 : nk_ar ja_Tt (ja_c l0 8) = some (1, 16002) := nk_ta ja_okT t_l0 (by decide +kernel)
    refine nk_p (i := .iload_n 1) (len := 1) (pc' := 19) mJ_138 (by decide +kernel) (ns_iload_n 1 rfl rfl) rfl ?_
    refine nk_iald (len := 1) (N := 16002) (pc' := 20) mJ_138 (by decide +kernel) t3 h2.1 h2.2 rfl rfl ?_
    refine nk_p (i := .isub) (len := 1) (pc' := 21) mJ_138 (by decide +kernel) ns_isub rfl ?_
    refine nk_p (i := .aload_n 2) (len := 1) (pc' := 22) mJ_138 (by decide +kernel) (ns_oload_n 2 rfl rfl) rfl ?_
    obtain ⟨r4, S5, h6, hr⟩ := nk_bde hr
    refine nk_callT (ci := 0) (n := 0) (x := 158) (len := 3) (j' := 5) (q' := 1) (r := r4) (S' := S5) (L2 := [(0, nk_o l2)]) (rest := [nk_i (nk_w ((S.1 (ja_c l0 9) l1.toNat) - (S.1 (ja_c l0 8) l1.toNat)))]) (st' := [nk_i r4, nk_i (nk_w ((S.1 (ja_c l0 9) l1.toNat) - (S.1 (ja_c l0 8) l1.toNat)))]) (pc' := 25) mJ_138 (by decide +kernel) (by decide +kernel) rfl rfl t_l2.1 (Nat.le_of_ble_eq_true rfl) mJ_5 (Nat.le_of_ble_eq_true rfl) ja_Tpos rfl (ja_J0_length_8abf5_ok zs _ _ _ t_l2 h6) rfl ?_
    refine nk_icmp (c := .eq) (off := 5) (len := 3) (t := 30) (pc' := 28) mJ_138 (by decide +kernel) (by decide +kernel) rfl (fun hc => ?_) (fun hc => ?_)
    · have hr := nk_ifp (c := (nk_w ((S.1 (ja_c l0 9) l1.toNat) - (S.1 (ja_c l0 8) l1.toNat))) = r4) hc hr
      refine nk_p (i := .iconst 0) (len := 1) (pc' := 31) mJ_138 (by decide +kernel) (ns_iconst (c := 0) (by decide +kernel)) rfl ?_
      refine nk_p (i := .istore_n 3) (len := 1) (pc' := 32) mJ_138 (by decide +kernel) (ns_istore_n (L' := [(3, nk_i 0), (0, nk_r l0), (1, nk_i l1), (2, nk_o l2)]) rfl rfl rfl (by decide +kernel)) rfl ?_
      refine nk_sub [1, 2, 3, 0] (L' := [(0, nk_r l0), (1, nk_i l1), (2, nk_o l2), (3, nk_i 0)]) rfl ?_
      exact ja_X13_is_L32_ok zs nk_big _ _ _ _ _ _ t_l0 t_l2 hr
    · have hr := nk_ifn (c := (nk_w ((S.1 (ja_c l0 9) l1.toNat) - (S.1 (ja_c l0 8) l1.toNat))) = r4) hc hr
      refine nk_p (i := .iconst 0) (len := 1) (pc' := 29) mJ_138 (by decide +kernel) (ns_iconst (c := 0) (by decide +kernel)) rfl ?_
      cases hr
      exact nk_iret (ty := .boolean) (len := 1) mJ_138 (by decide +kernel) rfl (nk_nar_z (by decide))
/-! SafeCodeModel behind (I)I -/
noncomputable def ja_X13_behind_b46 (rec20 : Nat → Int → Int → nk_S → Option (Int × nk_S)) (l0 : Nat) (l2 : Int) (l3 : Int) (S : nk_S) : Option (Int × nk_S) :=
  nk_lt (nk_w (l2 + 1)) fun v1 =>
  if 0 < l3 then
    rec20 l0 v1 l3 S
  else
    some (v1, S)
theorem ja_X13_behind_b46_ok (zs : List Int32) {rec20 : Nat → Int → Int → nk_S → Option (Int × nk_S)} (hrec20 : ∀ (l0 : Nat) (l2 : Int) (l3 : Int) (S : nk_S) (R : Int × nk_S), nk_cl ja_Tt l0 = some 13 → rec20 l0 l2 l3 S = some R → nk_K ja_Tt mi_Γ (mi_ev zs) 1 87 20 [(0, nk_r l0), (2, nk_i l2), (3, nk_i l3)] [] S R) : ∀ (l0 : Nat) (l2 : Int) (l3 : Int) (S : nk_S) (R : Int × nk_S), nk_cl ja_Tt l0 = some 13 → ja_X13_behind_b46 rec20 l0 l2 l3 S = some R → nk_K ja_Tt mi_Γ (mi_ev zs) 1 87 46 [(0, nk_r l0), (2, nk_i l2), (3, nk_i l3)] [] S R := by
  intro l0 l2 l3 S R t_l0 hr
  unfold ja_X13_behind_b46 at hr
  obtain ⟨v1, h2, hr⟩ := nk_lte hr
  refine nk_p (i := .iinc 2 1) (len := 3) (pc' := 49) mJ_87 (by decide +kernel) (ns_iinc (c := 1) (L' := [(2, nk_i v1), (0, nk_r l0), (3, nk_i l3)]) 1 rfl (by decide +kernel) h2 rfl (by decide +kernel)) rfl ?_
  refine nk_p (i := .iload_n 3) (len := 1) (pc' := 50) mJ_87 (by decide +kernel) (ns_iload_n 2 rfl rfl) rfl ?_
  refine nk_icond (c := .gt) (off := (-30)) (len := 3) (t := 20) (pc' := 53) mJ_87 (by decide +kernel) (by decide +kernel) rfl (fun hc => ?_) (fun hc => ?_)
  · have hr := nk_ifp (c := 0 < l3) hc hr
    refine nk_sub [1, 0, 2] (L' := [(0, nk_r l0), (2, nk_i v1), (3, nk_i l3)]) rfl ?_
    exact hrec20 _ _ _ _ _ t_l0 hr
  · have hr := nk_ifn (c := 0 < l3) hc hr
    refine nk_p (i := .iload_n 2) (len := 1) (pc' := 54) mJ_87 (by decide +kernel) (ns_iload_n 0 rfl rfl) rfl ?_
    cases hr
    exact nk_iret (ty := .int) (len := 1) mJ_87 (by decide +kernel) rfl (nk_nar_i _)
noncomputable def ja_X13_behind_b33 (rec20 : Nat → Int → Int → nk_S → Option (Int × nk_S)) (l0 : Nat) (l2 : Int) (l3 : Int) (S : nk_S) : Option (Int × nk_S) :=
  nk_bd (ja_X13_is l0 l2 13 S) fun r1 S2 =>
  if r1 = 0 then
    ja_X13_behind_b46 rec20 l0 l2 l3 S2
  else
    nk_lt (nk_w (l3 + (-1))) fun v4 =>
    ja_X13_behind_b46 rec20 l0 l2 v4 S2
theorem ja_X13_behind_b33_ok (zs : List Int32) {rec20 : Nat → Int → Int → nk_S → Option (Int × nk_S)} (hrec20 : ∀ (l0 : Nat) (l2 : Int) (l3 : Int) (S : nk_S) (R : Int × nk_S), nk_cl ja_Tt l0 = some 13 → rec20 l0 l2 l3 S = some R → nk_K ja_Tt mi_Γ (mi_ev zs) 1 87 20 [(0, nk_r l0), (2, nk_i l2), (3, nk_i l3)] [] S R) : ∀ (l0 : Nat) (l2 : Int) (l3 : Int) (S : nk_S) (R : Int × nk_S), nk_cl ja_Tt l0 = some 13 → ja_X13_behind_b33 rec20 l0 l2 l3 S = some R → nk_K ja_Tt mi_Γ (mi_ev zs) 1 87 33 [(0, nk_r l0), (2, nk_i l2), (3, nk_i l3)] [] S R := by
  intro l0 l2 l3 S R t_l0 hr
  unfold ja_X13_behind_b33 at hr
  refine nk_p (i := .aload_n 0) (len := 1) (pc' := 34) mJ_87 (by decide +kernel) (ns_aload_n 0 rfl rfl) rfl ?_
  refine nk_p (i := .iload_n 2) (len := 1) (pc' := 35) mJ_87 (by decide +kernel) (ns_iload_n 1 rfl rfl) rfl ?_
  refine nk_ldct (x := 214) (len := 2) (k := 13) (s := "}") (pc' := 37) mJ_87 (by decide +kernel) (by decide +kernel) (by decide +kernel) rfl ?_
  obtain ⟨r1, S2, h3, hr⟩ := nk_bde hr
  refine nk_callV (ci := 13) (n := 2) (x := 199) (len := 3) (j' := 138) (q' := 1) (r := r1) (S' := S2) (L2 := [(0, nk_r l0), (1, nk_i l2), (2, nk_o 13)]) (rest := []) (st' := [nk_i r1]) (pc' := 40) mJ_87 (by decide +kernel) (by decide +kernel) rfl rfl t_l0 (Nat.le_of_ble_eq_true rfl) mJ_138 (Nat.le_of_ble_eq_true rfl) rfl (ja_X13_is_ok zs _ _ _ _ _ t_l0 (ja_tx13 zs) h3) rfl ?_
  refine nk_icond (c := .eq) (off := 6) (len := 3) (t := 46) (pc' := 43) mJ_87 (by decide +kernel) (by decide +kernel) rfl (fun hc => ?_) (fun hc => ?_)
  · have hr := nk_ifp (c := r1 = 0) hc hr
    exact ja_X13_behind_b46_ok zs hrec20 _ _ _ _ _ t_l0 hr
  · have hr := nk_ifn (c := r1 = 0) hc hr
    obtain ⟨v4, h5, hr⟩ := nk_lte hr
    refine nk_p (i := .iinc 3 (-1)) (len := 3) (pc' := 46) mJ_87 (by decide +kernel) (ns_iinc (c := (-1)) (L' := [(3, nk_i v4), (0, nk_r l0), (2, nk_i l2)]) 2 rfl (by decide +kernel) h5 rfl (by decide +kernel)) rfl ?_
    refine nk_sub [1, 2, 0] (L' := [(0, nk_r l0), (2, nk_i l2), (3, nk_i v4)]) rfl ?_
    exact ja_X13_behind_b46_ok zs hrec20 _ _ _ _ _ t_l0 hr
noncomputable def ja_X13_behind_b20 (rec20 : Nat → Int → Int → nk_S → Option (Int × nk_S)) (l0 : Nat) (l2 : Int) (l3 : Int) (S : nk_S) : Option (Int × nk_S) :=
  nk_bd (ja_X13_is l0 l2 11 S) fun r1 S2 =>
  if r1 = 0 then
    ja_X13_behind_b33 rec20 l0 l2 l3 S2
  else
    nk_lt (nk_w (l3 + 1)) fun v4 =>
    ja_X13_behind_b33 rec20 l0 l2 v4 S2
theorem ja_X13_behind_b20_ok (zs : List Int32) {rec20 : Nat → Int → Int → nk_S → Option (Int × nk_S)} (hrec20 : ∀ (l0 : Nat) (l2 : Int) (l3 : Int) (S : nk_S) (R : Int × nk_S), nk_cl ja_Tt l0 = some 13 → rec20 l0 l2 l3 S = some R → nk_K ja_Tt mi_Γ (mi_ev zs) 1 87 20 [(0, nk_r l0), (2, nk_i l2), (3, nk_i l3)] [] S R) : ∀ (l0 : Nat) (l2 : Int) (l3 : Int) (S : nk_S) (R : Int × nk_S), nk_cl ja_Tt l0 = some 13 → ja_X13_behind_b20 rec20 l0 l2 l3 S = some R → nk_K ja_Tt mi_Γ (mi_ev zs) 1 87 20 [(0, nk_r l0), (2, nk_i l2), (3, nk_i l3)] [] S R := by
  intro l0 l2 l3 S R t_l0 hr
  unfold ja_X13_behind_b20 at hr
  refine nk_p (i := .aload_n 0) (len := 1) (pc' := 21) mJ_87 (by decide +kernel) (ns_aload_n 0 rfl rfl) rfl ?_
  refine nk_p (i := .iload_n 2) (len := 1) (pc' := 22) mJ_87 (by decide +kernel) (ns_iload_n 1 rfl rfl) rfl ?_
  refine nk_ldct (x := 212) (len := 2) (k := 11) (s := "{") (pc' := 24) mJ_87 (by decide +kernel) (by decide +kernel) (by decide +kernel) rfl ?_
  obtain ⟨r1, S2, h3, hr⟩ := nk_bde hr
  refine nk_callV (ci := 13) (n := 2) (x := 199) (len := 3) (j' := 138) (q' := 1) (r := r1) (S' := S2) (L2 := [(0, nk_r l0), (1, nk_i l2), (2, nk_o 11)]) (rest := []) (st' := [nk_i r1]) (pc' := 27) mJ_87 (by decide +kernel) (by decide +kernel) rfl rfl t_l0 (Nat.le_of_ble_eq_true rfl) mJ_138 (Nat.le_of_ble_eq_true rfl) rfl (ja_X13_is_ok zs _ _ _ _ _ t_l0 (ja_tx11 zs) h3) rfl ?_
  refine nk_icond (c := .eq) (off := 6) (len := 3) (t := 33) (pc' := 30) mJ_87 (by decide +kernel) (by decide +kernel) rfl (fun hc => ?_) (fun hc => ?_)
  · have hr := nk_ifp (c := r1 = 0) hc hr
    exact ja_X13_behind_b33_ok zs hrec20 _ _ _ _ _ t_l0 hr
  · have hr := nk_ifn (c := r1 = 0) hc hr
    obtain ⟨v4, h5, hr⟩ := nk_lte hr
    refine nk_p (i := .iinc 3 1) (len := 3) (pc' := 33) mJ_87 (by decide +kernel) (ns_iinc (c := 1) (L' := [(3, nk_i v4), (0, nk_r l0), (2, nk_i l2)]) 2 rfl (by decide +kernel) h5 rfl (by decide +kernel)) rfl ?_
    refine nk_sub [1, 2, 0] (L' := [(0, nk_r l0), (2, nk_i l2), (3, nk_i v4)]) rfl ?_
    exact ja_X13_behind_b33_ok zs hrec20 _ _ _ _ _ t_l0 hr
noncomputable def ja_X13_behind_L20 : Nat → Nat → Int → Int → nk_S → Option (Int × nk_S)
  | 0, _, _, _, _ => none
  | n + 1, l0, l2, l3, S => ja_X13_behind_b20 (ja_X13_behind_L20 n) l0 l2 l3 S
theorem ja_X13_behind_L20_ok (zs : List Int32) : ∀ n : Nat, ∀ (l0 : Nat) (l2 : Int) (l3 : Int) (S : nk_S) (R : Int × nk_S), nk_cl ja_Tt l0 = some 13 → ja_X13_behind_L20 n l0 l2 l3 S = some R → nk_K ja_Tt mi_Γ (mi_ev zs) 1 87 20 [(0, nk_r l0), (2, nk_i l2), (3, nk_i l3)] [] S R := by
  intro n
  induction n with
  | zero => intro _ _ _ _ _ _ hr; cases hr
  | succ n ih => intro l0 l2 l3 S R t_l0 hr; exact ja_X13_behind_b20_ok zs ih l0 l2 l3 S R t_l0 hr
noncomputable def ja_X13_behind_b2 (rec2 : Nat → Int → nk_S → Option (Int × nk_S)) (l0 : Nat) (l2 : Int) (S : nk_S) : Option (Int × nk_S) :=
  nk_bd (ja_X13_is l0 l2 11 S) fun r1 S2 =>
  if r1 = 0 then
    nk_lt (nk_w (l2 + 1)) fun v4 =>
    rec2 l0 v4 S2
  else
    ja_X13_behind_L20 nk_big l0 l2 0 S2
theorem ja_X13_behind_b2_ok (zs : List Int32) {rec2 : Nat → Int → nk_S → Option (Int × nk_S)} (hrec2 : ∀ (l0 : Nat) (l2 : Int) (S : nk_S) (R : Int × nk_S), nk_cl ja_Tt l0 = some 13 → rec2 l0 l2 S = some R → nk_K ja_Tt mi_Γ (mi_ev zs) 1 87 2 [(0, nk_r l0), (2, nk_i l2)] [] S R) : ∀ (l0 : Nat) (l2 : Int) (S : nk_S) (R : Int × nk_S), nk_cl ja_Tt l0 = some 13 → ja_X13_behind_b2 rec2 l0 l2 S = some R → nk_K ja_Tt mi_Γ (mi_ev zs) 1 87 2 [(0, nk_r l0), (2, nk_i l2)] [] S R := by
  intro l0 l2 S R t_l0 hr
  unfold ja_X13_behind_b2 at hr
  refine nk_p (i := .aload_n 0) (len := 1) (pc' := 3) mJ_87 (by decide +kernel) (ns_aload_n 0 rfl rfl) rfl ?_
  refine nk_p (i := .iload_n 2) (len := 1) (pc' := 4) mJ_87 (by decide +kernel) (ns_iload_n 1 rfl rfl) rfl ?_
  refine nk_ldct (x := 212) (len := 2) (k := 11) (s := "{") (pc' := 6) mJ_87 (by decide +kernel) (by decide +kernel) (by decide +kernel) rfl ?_
  obtain ⟨r1, S2, h3, hr⟩ := nk_bde hr
  refine nk_callV (ci := 13) (n := 2) (x := 199) (len := 3) (j' := 138) (q' := 1) (r := r1) (S' := S2) (L2 := [(0, nk_r l0), (1, nk_i l2), (2, nk_o 11)]) (rest := []) (st' := [nk_i r1]) (pc' := 9) mJ_87 (by decide +kernel) (by decide +kernel) rfl rfl t_l0 (Nat.le_of_ble_eq_true rfl) mJ_138 (Nat.le_of_ble_eq_true rfl) rfl (ja_X13_is_ok zs _ _ _ _ _ t_l0 (ja_tx11 zs) h3) rfl ?_
  refine nk_icond (c := .ne) (off := 9) (len := 3) (t := 18) (pc' := 12) mJ_87 (by decide +kernel) (by decide +kernel) rfl (fun hc => ?_) (fun hc => ?_)
  · have hr := nk_ifn (c := r1 = 0) hc hr
    refine nk_p (i := .iconst 0) (len := 1) (pc' := 19) mJ_87 (by decide +kernel) (ns_iconst (c := 0) (by decide +kernel)) rfl ?_
    refine nk_p (i := .istore_n 3) (len := 1) (pc' := 20) mJ_87 (by decide +kernel) (ns_istore_n (L' := [(3, nk_i 0), (0, nk_r l0), (2, nk_i l2)]) rfl rfl rfl (by decide +kernel)) rfl ?_
    refine nk_sub [1, 2, 0] (L' := [(0, nk_r l0), (2, nk_i l2), (3, nk_i 0)]) rfl ?_
    exact ja_X13_behind_L20_ok zs nk_big _ _ _ _ _ t_l0 hr
  · have hr := nk_ifp (c := r1 = 0) (Decidable.of_not_not hc) hr
    obtain ⟨v4, h5, hr⟩ := nk_lte hr
    refine nk_p (i := .iinc 2 1) (len := 3) (pc' := 15) mJ_87 (by decide +kernel) (ns_iinc (c := 1) (L' := [(2, nk_i v4), (0, nk_r l0)]) 1 rfl (by decide +kernel) h5 rfl (by decide +kernel)) rfl ?_
    refine nk_p (i := .goto (-13)) (len := 3) (pc' := 2) mJ_87 (by decide +kernel) (ns_goto (by decide +kernel)) rfl ?_
    refine nk_sub [1, 0] (L' := [(0, nk_r l0), (2, nk_i v4)]) rfl ?_
    exact hrec2 _ _ _ _ t_l0 hr
noncomputable def ja_X13_behind_L2 : Nat → Nat → Int → nk_S → Option (Int × nk_S)
  | 0, _, _, _ => none
  | n + 1, l0, l2, S => ja_X13_behind_b2 (ja_X13_behind_L2 n) l0 l2 S
theorem ja_X13_behind_L2_ok (zs : List Int32) : ∀ n : Nat, ∀ (l0 : Nat) (l2 : Int) (S : nk_S) (R : Int × nk_S), nk_cl ja_Tt l0 = some 13 → ja_X13_behind_L2 n l0 l2 S = some R → nk_K ja_Tt mi_Γ (mi_ev zs) 1 87 2 [(0, nk_r l0), (2, nk_i l2)] [] S R := by
  intro n
  induction n with
  | zero => intro _ _ _ _ _ hr; cases hr
  | succ n ih => intro l0 l2 S R t_l0 hr; exact ja_X13_behind_b2_ok zs ih l0 l2 S R t_l0 hr
noncomputable def ja_X13_behind (l0 : Nat) (l1 : Int) (S : nk_S) : Option (Int × nk_S) :=
  ja_X13_behind_L2 nk_big l0 l1 S
theorem ja_X13_behind_ok (zs : List Int32) : ∀ (l0 : Nat) (l1 : Int) (S : nk_S) (R : Int × nk_S), nk_cl ja_Tt l0 = some 13 → ja_X13_behind l0 l1 S = some R → nk_K ja_Tt mi_Γ (mi_ev zs) 1 87 0 [(0, nk_r l0), (1, nk_i l1)] [] S R := by
  intro l0 l1 S R t_l0 hr
  unfold ja_X13_behind at hr
  refine nk_p (i := .iload_n 1) (len := 1) (pc' := 1) mJ_87 (by decide +kernel) (ns_iload_n 1 rfl rfl) rfl ?_
  refine nk_p (i := .istore_n 2) (len := 1) (pc' := 2) mJ_87 (by decide +kernel) (ns_istore_n (L' := [(2, nk_i l1), (0, nk_r l0), (1, nk_i l1)]) rfl rfl rfl (by decide +kernel)) rfl ?_
  refine nk_sub [1, 0] (L' := [(0, nk_r l0), (2, nk_i l1)]) rfl ?_
  exact ja_X13_behind_L2_ok zs nk_big _ _ _ _ t_l0 hr
/-! SafeCodeModel behindMember (I)I -/
noncomputable def ja_X13_behindMember (l0 : Nat) (l1 : Int) (S : nk_S) : Option (Int × nk_S) :=
  nk_bd (ja_X13_is l0 l1 15 S) fun r1 S2 =>
  if r1 = 0 then
    nk_bd (ja_X13_behind l0 l1 S2) fun r4 S5 =>
    some (r4, S5)
  else
    some ((nk_w (l1 + 3)), S2)
theorem ja_X13_behindMember_ok (zs : List Int32) : ∀ (l0 : Nat) (l1 : Int) (S : nk_S) (R : Int × nk_S), nk_cl ja_Tt l0 = some 13 → ja_X13_behindMember l0 l1 S = some R → nk_K ja_Tt mi_Γ (mi_ev zs) 1 88 0 [(0, nk_r l0), (1, nk_i l1)] [] S R := by
  intro l0 l1 S R t_l0 hr
  unfold ja_X13_behindMember at hr
  refine nk_p (i := .aload_n 0) (len := 1) (pc' := 1) mJ_88 (by decide +kernel) (ns_aload_n 0 rfl rfl) rfl ?_
  refine nk_p (i := .iload_n 1) (len := 1) (pc' := 2) mJ_88 (by decide +kernel) (ns_iload_n 1 rfl rfl) rfl ?_
  refine nk_ldct (x := 220) (len := 2) (k := 15) (s := "field") (pc' := 4) mJ_88 (by decide +kernel) (by decide +kernel) (by decide +kernel) rfl ?_
  obtain ⟨r1, S2, h3, hr⟩ := nk_bde hr
  refine nk_callV (ci := 13) (n := 2) (x := 199) (len := 3) (j' := 138) (q' := 1) (r := r1) (S' := S2) (L2 := [(0, nk_r l0), (1, nk_i l1), (2, nk_o 15)]) (rest := []) (st' := [nk_i r1]) (pc' := 7) mJ_88 (by decide +kernel) (by decide +kernel) rfl rfl t_l0 (Nat.le_of_ble_eq_true rfl) mJ_138 (Nat.le_of_ble_eq_true rfl) rfl (ja_X13_is_ok zs _ _ _ _ _ t_l0 (ja_tx15 zs) h3) rfl ?_
  refine nk_icond (c := .eq) (off := 9) (len := 3) (t := 16) (pc' := 10) mJ_88 (by decide +kernel) (by decide +kernel) rfl (fun hc => ?_) (fun hc => ?_)
  · have hr := nk_ifp (c := r1 = 0) hc hr
    refine nk_p (i := .aload_n 0) (len := 1) (pc' := 17) mJ_88 (by decide +kernel) (ns_aload_n 0 rfl rfl) rfl ?_
    refine nk_p (i := .iload_n 1) (len := 1) (pc' := 18) mJ_88 (by decide +kernel) (ns_iload_n 1 rfl rfl) rfl ?_
    obtain ⟨r4, S5, h6, hr⟩ := nk_bde hr
    refine nk_callV (ci := 13) (n := 1) (x := 283) (len := 3) (j' := 87) (q' := 1) (r := r4) (S' := S5) (L2 := [(0, nk_r l0), (1, nk_i l1)]) (rest := []) (st' := [nk_i r4]) (pc' := 21) mJ_88 (by decide +kernel) (by decide +kernel) rfl rfl t_l0 (Nat.le_of_ble_eq_true rfl) mJ_87 (Nat.le_of_ble_eq_true rfl) rfl (ja_X13_behind_ok zs _ _ _ _ t_l0 h6) rfl ?_
    cases hr
    exact nk_iret (ty := .int) (len := 1) mJ_88 (by decide +kernel) rfl (nk_nar_i _)
  · have hr := nk_ifn (c := r1 = 0) hc hr
    refine nk_p (i := .iload_n 1) (len := 1) (pc' := 11) mJ_88 (by decide +kernel) (ns_iload_n 1 rfl rfl) rfl ?_
    refine nk_p (i := .iconst 3) (len := 1) (pc' := 12) mJ_88 (by decide +kernel) (ns_iconst (c := 3) (by decide +kernel)) rfl ?_
    refine nk_p (i := .iadd) (len := 1) (pc' := 13) mJ_88 (by decide +kernel) ns_iadd rfl ?_
    refine nk_p (i := .goto 8) (len := 3) (pc' := 21) mJ_88 (by decide +kernel) (ns_goto (by decide +kernel)) rfl ?_
    cases hr
    exact nk_iret (ty := .int) (len := 1) mJ_88 (by decide +kernel) rfl (nk_nar_i _)
/-! SafeCodeModel isSame (IIII)Z -/
noncomputable def ja_X13_isSame_b15 (rec15 : Nat → Int → Int → Int → Int → nk_S → Option (Int × nk_S)) (l0 : Nat) (l1 : Int) (l2 : Int) (l3 : Int) (l5 : Int) (S : nk_S) : Option (Int × nk_S) :=
  if (nk_w (l2 - l1)) ≤ l5 then
    some (1, S)
  else
    if 0 ≤ (nk_w (l1 + l5)) ∧ (nk_w (l1 + l5)) < 16000 then
    if 0 ≤ (nk_w (l3 + l5)) ∧ (nk_w (l3 + l5)) < 16000 then
    if (S.1 (ja_c l0 6) (nk_w (l1 + l5)).toNat) = (S.1 (ja_c l0 6) (nk_w (l3 + l5)).toNat) then
      nk_lt (nk_w (l5 + 1)) fun v4 =>
      rec15 l0 l1 l2 l3 v4 S
    else
      some (0, S)
    else none
    else none
theorem ja_X13_isSame_b15_ok (zs : List Int32) {rec15 : Nat → Int → Int → Int → Int → nk_S → Option (Int × nk_S)} (hrec15 : ∀ (l0 : Nat) (l1 : Int) (l2 : Int) (l3 : Int) (l5 : Int) (S : nk_S) (R : Int × nk_S), nk_cl ja_Tt l0 = some 13 → rec15 l0 l1 l2 l3 l5 S = some R → nk_K ja_Tt mi_Γ (mi_ev zs) 1 159 15 [(0, nk_r l0), (1, nk_i l1), (2, nk_i l2), (3, nk_i l3), (5, nk_i l5)] [] S R) : ∀ (l0 : Nat) (l1 : Int) (l2 : Int) (l3 : Int) (l5 : Int) (S : nk_S) (R : Int × nk_S), nk_cl ja_Tt l0 = some 13 → ja_X13_isSame_b15 rec15 l0 l1 l2 l3 l5 S = some R → nk_K ja_Tt mi_Γ (mi_ev zs) 1 159 15 [(0, nk_r l0), (1, nk_i l1), (2, nk_i l2), (3, nk_i l3), (5, nk_i l5)] [] S R := by
  intro l0 l1 l2 l3 l5 S R t_l0 hr
  unfold ja_X13_isSame_b15 at hr
  refine nk_p (i := .iload 5) (len := 2) (pc' := 17) mJ_159 (by decide +kernel) (ns_iload 4 rfl) rfl ?_
  refine nk_p (i := .iload_n 2) (len := 1) (pc' := 18) mJ_159 (by decide +kernel) (ns_iload_n 2 rfl rfl) rfl ?_
  refine nk_p (i := .iload_n 1) (len := 1) (pc' := 19) mJ_159 (by decide +kernel) (ns_iload_n 1 rfl rfl) rfl ?_
  refine nk_p (i := .isub) (len := 1) (pc' := 20) mJ_159 (by decide +kernel) ns_isub rfl ?_
  refine nk_icmp (c := .ge) (off := 32) (len := 3) (t := 52) (pc' := 23) mJ_159 (by decide +kernel) (by decide +kernel) rfl (fun hc => ?_) (fun hc => ?_)
  · have hr := nk_ifp (c := (nk_w (l2 - l1)) ≤ l5) hc hr
    refine nk_p (i := .iconst 1) (len := 1) (pc' := 53) mJ_159 (by decide +kernel) (ns_iconst (c := 1) (by decide +kernel)) rfl ?_
    cases hr
    exact nk_iret (ty := .boolean) (len := 1) mJ_159 (by decide +kernel) rfl (nk_nar_z (by decide))
  · have hr := nk_ifn (c := (nk_w (l2 - l1)) ≤ l5) hc hr
    refine nk_p (i := .aload_n 0) (len := 1) (pc' := 24) mJ_159 (by decide +kernel) (ns_aload_n 0 rfl rfl) rfl ?_
    refine nk_getC (f := (4, 0, 16000)) (x := 23) (len := 3) (ci := 13) (k := 6) (pc' := 27) ja_okT mJ_159 (by decide +kernel) (by decide +kernel) (by decide +kernel) (by decide) t_l0 rfl ?_
    have t1 : nk_ar ja_Tt (ja_c l0 6) = some (0, 16000) := nk_ta ja_okT t_l0 (by decide +kernel)
    refine nk_p (i := .iload_n 1) (len := 1) (pc' := 28) mJ_159 (by decide +kernel) (ns_iload_n 1 rfl rfl) rfl ?_
    refine nk_p (i := .iload 5) (len := 2) (pc' := 30) mJ_159 (by decide +kernel) (ns_iload 4 rfl) rfl ?_
    refine nk_p (i := .iadd) (len := 1) (pc' := 31) mJ_159 (by decide +kernel) ns_iadd rfl ?_
    obtain ⟨h2, hr⟩ := nk_cke hr
    refine nk_bald (t := 0) (len := 1) (N := 16000) (pc' := 32) mJ_159 (by decide +kernel) t1 (by decide) h2.1 h2.2 rfl rfl ?_
    refine nk_p (i := .aload_n 0) (len := 1) (pc' := 33) mJ_159 (by decide +kernel) (ns_aload_n 0 rfl rfl) rfl ?_
    refine nk_getC (f := (4, 0, 16000)) (x := 23) (len := 3) (ci := 13) (k := 6) (pc' := 36) ja_okT mJ_159 (by decide +kernel) (by decide +kernel) (by decide +kernel) (by decide) t_l0 rfl ?_
    refine nk_p (i := .iload_n 3) (len := 1) (pc' := 37) mJ_159 (by decide +kernel) (ns_iload_n 3 rfl rfl) rfl ?_
    refine nk_p (i := .iload 5) (len := 2) (pc' := 39) mJ_159 (by decide +kernel) (ns_iload 4 rfl) rfl ?_
    refine nk_p (i := .iadd) (len := 1) (pc' := 40) mJ_159 (by decide +kernel) ns_iadd rfl ?_
    obtain ⟨h3, hr⟩ := nk_cke hr
    refine nk_bald (t := 0) (len := 1) (N := 16000) (pc' := 41) mJ_159 (by decide +kernel) t1 (by decide) h3.1 h3.2 rfl rfl ?_
    refine nk_icmp (c := .eq) (off := 5) (len := 3) (t := 46) (pc' := 44) mJ_159 (by decide +kernel) (by decide +kernel) rfl (fun hc => ?_) (fun hc => ?_)
    · have hr := nk_ifp (c := (S.1 (ja_c l0 6) (nk_w (l1 + l5)).toNat) = (S.1 (ja_c l0 6) (nk_w (l3 + l5)).toNat)) hc hr
      obtain ⟨v4, h5, hr⟩ := nk_lte hr
      refine nk_p (i := .iinc 5 1) (len := 3) (pc' := 49) mJ_159 (by decide +kernel) (ns_iinc (c := 1) (L' := [(5, nk_i v4), (0, nk_r l0), (1, nk_i l1), (2, nk_i l2), (3, nk_i l3)]) 4 rfl (by decide +kernel) h5 rfl (by decide +kernel)) rfl ?_
      refine nk_p (i := .goto (-34)) (len := 3) (pc' := 15) mJ_159 (by decide +kernel) (ns_goto (by decide +kernel)) rfl ?_
      refine nk_sub [1, 2, 3, 4, 0] (L' := [(0, nk_r l0), (1, nk_i l1), (2, nk_i l2), (3, nk_i l3), (5, nk_i v4)]) rfl ?_
      exact hrec15 _ _ _ _ _ _ _ t_l0 hr
    · have hr := nk_ifn (c := (S.1 (ja_c l0 6) (nk_w (l1 + l5)).toNat) = (S.1 (ja_c l0 6) (nk_w (l3 + l5)).toNat)) hc hr
      refine nk_p (i := .iconst 0) (len := 1) (pc' := 45) mJ_159 (by decide +kernel) (ns_iconst (c := 0) (by decide +kernel)) rfl ?_
      cases hr
      exact nk_iret (ty := .boolean) (len := 1) mJ_159 (by decide +kernel) rfl (nk_nar_z (by decide))
noncomputable def ja_X13_isSame_L15 : Nat → Nat → Int → Int → Int → Int → nk_S → Option (Int × nk_S)
  | 0, _, _, _, _, _, _ => none
  | n + 1, l0, l1, l2, l3, l5, S => ja_X13_isSame_b15 (ja_X13_isSame_L15 n) l0 l1 l2 l3 l5 S
theorem ja_X13_isSame_L15_ok (zs : List Int32) : ∀ n : Nat, ∀ (l0 : Nat) (l1 : Int) (l2 : Int) (l3 : Int) (l5 : Int) (S : nk_S) (R : Int × nk_S), nk_cl ja_Tt l0 = some 13 → ja_X13_isSame_L15 n l0 l1 l2 l3 l5 S = some R → nk_K ja_Tt mi_Γ (mi_ev zs) 1 159 15 [(0, nk_r l0), (1, nk_i l1), (2, nk_i l2), (3, nk_i l3), (5, nk_i l5)] [] S R := by
  intro n
  induction n with
  | zero => intro _ _ _ _ _ _ _ _ hr; cases hr
  | succ n ih => intro l0 l1 l2 l3 l5 S R t_l0 hr; exact ja_X13_isSame_b15_ok zs ih l0 l1 l2 l3 l5 S R t_l0 hr
noncomputable def ja_X13_isSame (l0 : Nat) (l1 : Int) (l2 : Int) (l3 : Int) (l4 : Int) (S : nk_S) : Option (Int × nk_S) :=
  if (nk_w (l2 - l1)) = (nk_w (l4 - l3)) then
    ja_X13_isSame_L15 nk_big l0 l1 l2 l3 0 S
  else
    some (0, S)
theorem ja_X13_isSame_ok (zs : List Int32) : ∀ (l0 : Nat) (l1 : Int) (l2 : Int) (l3 : Int) (l4 : Int) (S : nk_S) (R : Int × nk_S), nk_cl ja_Tt l0 = some 13 → ja_X13_isSame l0 l1 l2 l3 l4 S = some R → nk_K ja_Tt mi_Γ (mi_ev zs) 1 159 0 [(0, nk_r l0), (1, nk_i l1), (2, nk_i l2), (3, nk_i l3), (4, nk_i l4)] [] S R := by
  intro l0 l1 l2 l3 l4 S R t_l0 hr
  unfold ja_X13_isSame at hr
  refine nk_p (i := .iload_n 2) (len := 1) (pc' := 1) mJ_159 (by decide +kernel) (ns_iload_n 2 rfl rfl) rfl ?_
  refine nk_p (i := .iload_n 1) (len := 1) (pc' := 2) mJ_159 (by decide +kernel) (ns_iload_n 1 rfl rfl) rfl ?_
  refine nk_p (i := .isub) (len := 1) (pc' := 3) mJ_159 (by decide +kernel) ns_isub rfl ?_
  refine nk_p (i := .iload 4) (len := 2) (pc' := 5) mJ_159 (by decide +kernel) (ns_iload 4 rfl) rfl ?_
  refine nk_p (i := .iload_n 3) (len := 1) (pc' := 6) mJ_159 (by decide +kernel) (ns_iload_n 3 rfl rfl) rfl ?_
  refine nk_p (i := .isub) (len := 1) (pc' := 7) mJ_159 (by decide +kernel) ns_isub rfl ?_
  refine nk_icmp (c := .eq) (off := 5) (len := 3) (t := 12) (pc' := 10) mJ_159 (by decide +kernel) (by decide +kernel) rfl (fun hc => ?_) (fun hc => ?_)
  · have hr := nk_ifp (c := (nk_w (l2 - l1)) = (nk_w (l4 - l3))) hc hr
    refine nk_p (i := .iconst 0) (len := 1) (pc' := 13) mJ_159 (by decide +kernel) (ns_iconst (c := 0) (by decide +kernel)) rfl ?_
    refine nk_p (i := .istore 5) (len := 2) (pc' := 15) mJ_159 (by decide +kernel) (ns_istore (L' := [(5, nk_i 0), (0, nk_r l0), (1, nk_i l1), (2, nk_i l2), (3, nk_i l3), (4, nk_i l4)]) rfl rfl (by decide +kernel)) rfl ?_
    refine nk_sub [1, 2, 3, 4, 0] (L' := [(0, nk_r l0), (1, nk_i l1), (2, nk_i l2), (3, nk_i l3), (5, nk_i 0)]) rfl ?_
    exact ja_X13_isSame_L15_ok zs nk_big _ _ _ _ _ _ _ t_l0 hr
  · have hr := nk_ifn (c := (nk_w (l2 - l1)) = (nk_w (l4 - l3))) hc hr
    refine nk_p (i := .iconst 0) (len := 1) (pc' := 11) mJ_159 (by decide +kernel) (ns_iconst (c := 0) (by decide +kernel)) rfl ?_
    cases hr
    exact nk_iret (ty := .boolean) (len := 1) mJ_159 (by decide +kernel) rfl (nk_nar_z (by decide))
/-! SafeCodeModel bodyOf (LSafeCodeModel$Program;III)I -/
noncomputable def ja_X13_bodyOf_b11 (rec3 : Nat → Nat → Int → Int → Int → nk_S → Option (Int × nk_S)) (rec11 : Nat → Nat → Int → Int → Int → Int → nk_S → Option (Int × nk_S)) (l0 : Nat) (l1 : Nat) (l3 : Int) (l4 : Int) (l5 : Int) (l6 : Int) (S : nk_S) : Option (Int × nk_S) :=
  if (S.1 l1 2) ≤ l6 then
    if 0 ≤ l5 ∧ l5 < 32 then
    nk_lt (S.1 (ja_c l1 8) l5.toNat) fun v3 =>
    rec3 l0 l1 l3 l4 v3 S
    else none
  else
    if 0 ≤ l6 ∧ l6 < 48 then
    if (S.1 (ja_c l1 13) l6.toNat) = l5 then
      if 0 ≤ (S.1 (ja_c l0 15) l6.toNat) ∧ (S.1 (ja_c l0 15) l6.toNat) < 16002 then
      nk_bd (ja_X13_isSame l0 l3 l4 (S.1 (ja_c l0 8) (S.1 (ja_c l0 15) l6.toNat).toNat) (S.1 (ja_c l0 9) (S.1 (ja_c l0 15) l6.toNat).toNat) S) fun r13 S14 =>
      if r13 = 0 then
        nk_lt (nk_w (l6 + 1)) fun v16 =>
        rec11 l0 l1 l3 l4 l5 v16 S14
      else
        some (l6, S14)
      else none
    else
      nk_lt (nk_w (l6 + 1)) fun v7 =>
      rec11 l0 l1 l3 l4 l5 v7 S
    else none
theorem ja_X13_bodyOf_b11_ok (zs : List Int32) {rec3 : Nat → Nat → Int → Int → Int → nk_S → Option (Int × nk_S)} (hrec3 : ∀ (l0 : Nat) (l1 : Nat) (l3 : Int) (l4 : Int) (l5 : Int) (S : nk_S) (R : Int × nk_S), nk_cl ja_Tt l0 = some 13 → nk_cl ja_Tt l1 = some 12 → rec3 l0 l1 l3 l4 l5 S = some R → nk_K ja_Tt mi_Γ (mi_ev zs) 1 90 3 [(0, nk_r l0), (1, nk_r l1), (3, nk_i l3), (4, nk_i l4), (5, nk_i l5)] [] S R) {rec11 : Nat → Nat → Int → Int → Int → Int → nk_S → Option (Int × nk_S)} (hrec11 : ∀ (l0 : Nat) (l1 : Nat) (l3 : Int) (l4 : Int) (l5 : Int) (l6 : Int) (S : nk_S) (R : Int × nk_S), nk_cl ja_Tt l0 = some 13 → nk_cl ja_Tt l1 = some 12 → rec11 l0 l1 l3 l4 l5 l6 S = some R → nk_K ja_Tt mi_Γ (mi_ev zs) 1 90 11 [(0, nk_r l0), (1, nk_r l1), (3, nk_i l3), (4, nk_i l4), (5, nk_i l5), (6, nk_i l6)] [] S R) : ∀ (l0 : Nat) (l1 : Nat) (l3 : Int) (l4 : Int) (l5 : Int) (l6 : Int) (S : nk_S) (R : Int × nk_S), nk_cl ja_Tt l0 = some 13 → nk_cl ja_Tt l1 = some 12 → ja_X13_bodyOf_b11 rec3 rec11 l0 l1 l3 l4 l5 l6 S = some R → nk_K ja_Tt mi_Γ (mi_ev zs) 1 90 11 [(0, nk_r l0), (1, nk_r l1), (3, nk_i l3), (4, nk_i l4), (5, nk_i l5), (6, nk_i l6)] [] S R := by
  intro l0 l1 l3 l4 l5 l6 S R t_l0 t_l1 hr
  unfold ja_X13_bodyOf_b11 at hr
  refine nk_p (i := .iload 6) (len := 2) (pc' := 13) mJ_90 (by decide +kernel) (ns_iload 5 rfl) rfl ?_
  refine nk_p (i := .aload_n 1) (len := 1) (pc' := 14) mJ_90 (by decide +kernel) (ns_aload_n 1 rfl rfl) rfl ?_
  refine nk_getI (y := (0, 0)) (x := 303) (len := 3) (ci := 12) (k := 2) (pc' := 17) ja_okT mJ_90 (by decide +kernel) (by decide +kernel) (by decide +kernel) t_l1 rfl ?_
  refine nk_icmp (c := .ge) (off := 58) (len := 3) (t := 75) (pc' := 20) mJ_90 (by decide +kernel) (by decide +kernel) rfl (fun hc => ?_) (fun hc => ?_)
  · have hr := nk_ifp (c := (S.1 l1 2) ≤ l6) hc hr
    refine nk_p (i := .aload_n 1) (len := 1) (pc' := 76) mJ_90 (by decide +kernel) (ns_aload_n 1 rfl rfl) rfl ?_
    refine nk_getC (f := (4, 1, 32)) (x := 280) (len := 3) (ci := 12) (k := 8) (pc' := 79) ja_okT mJ_90 (by decide +kernel) (by decide +kernel) (by decide +kernel) (by decide) t_l1 rfl ?_
    have t1 : nk_ar ja_Tt (ja_c l1 8) = some (1, 32) := nk_ta ja_okT t_l1 (by decide +kernel)
    refine nk_p (i := .iload 5) (len := 2) (pc' := 81) mJ_90 (by decide +kernel) (ns_iload 4 rfl) rfl ?_
    obtain ⟨h2, hr⟩ := nk_cke hr
    refine nk_iald (len := 1) (N := 32) (pc' := 82) mJ_90 (by decide +kernel) t1 h2.1 h2.2 rfl rfl ?_
    obtain ⟨v3, h4, hr⟩ := nk_lte hr
    refine nk_p (i := .istore 5) (len := 2) (pc' := 84) mJ_90 (by decide +kernel) (ns_istore (L' := [(5, nk_i v3), (0, nk_r l0), (1, nk_r l1), (3, nk_i l3), (4, nk_i l4), (6, nk_i l6)]) h4 rfl (by decide +kernel)) rfl ?_
    refine nk_p (i := .goto (-81)) (len := 3) (pc' := 3) mJ_90 (by decide +kernel) (ns_goto (by decide +kernel)) rfl ?_
    refine nk_sub [1, 2, 3, 4, 0] (L' := [(0, nk_r l0), (1, nk_r l1), (3, nk_i l3), (4, nk_i l4), (5, nk_i v3)]) rfl ?_
    exact hrec3 _ _ _ _ _ _ _ t_l0 t_l1 hr
  · have hr := nk_ifn (c := (S.1 l1 2) ≤ l6) hc hr
    refine nk_p (i := .aload_n 1) (len := 1) (pc' := 21) mJ_90 (by decide +kernel) (ns_aload_n 1 rfl rfl) rfl ?_
    refine nk_getC (f := (4, 1, 48)) (x := 306) (len := 3) (ci := 12) (k := 13) (pc' := 24) ja_okT mJ_90 (by decide +kernel) (by decide +kernel) (by decide +kernel) (by decide) t_l1 rfl ?_
    have t5 : nk_ar ja_Tt (ja_c l1 13) = some (1, 48) := nk_ta ja_okT t_l1 (by decide +kernel)
    refine nk_p (i := .iload 6) (len := 2) (pc' := 26) mJ_90 (by decide +kernel) (ns_iload 5 rfl) rfl ?_
    obtain ⟨h6, hr⟩ := nk_cke hr
    refine nk_iald (len := 1) (N := 48) (pc' := 27) mJ_90 (by decide +kernel) t5 h6.1 h6.2 rfl rfl ?_
    refine nk_p (i := .iload 5) (len := 2) (pc' := 29) mJ_90 (by decide +kernel) (ns_iload 4 rfl) rfl ?_
    refine nk_icmp (c := .ne) (off := 40) (len := 3) (t := 69) (pc' := 32) mJ_90 (by decide +kernel) (by decide +kernel) rfl (fun hc => ?_) (fun hc => ?_)
    · have hr := nk_ifn (c := (S.1 (ja_c l1 13) l6.toNat) = l5) hc hr
      obtain ⟨v7, h8, hr⟩ := nk_lte hr
      refine nk_p (i := .iinc 6 1) (len := 3) (pc' := 72) mJ_90 (by decide +kernel) (ns_iinc (c := 1) (L' := [(6, nk_i v7), (0, nk_r l0), (1, nk_r l1), (3, nk_i l3), (4, nk_i l4), (5, nk_i l5)]) 5 rfl (by decide +kernel) h8 rfl (by decide +kernel)) rfl ?_
      refine nk_p (i := .goto (-61)) (len := 3) (pc' := 11) mJ_90 (by decide +kernel) (ns_goto (by decide +kernel)) rfl ?_
      refine nk_sub [1, 2, 3, 4, 5, 0] (L' := [(0, nk_r l0), (1, nk_r l1), (3, nk_i l3), (4, nk_i l4), (5, nk_i l5), (6, nk_i v7)]) rfl ?_
      exact hrec11 _ _ _ _ _ _ _ _ t_l0 t_l1 hr
    · have hr := nk_ifp (c := (S.1 (ja_c l1 13) l6.toNat) = l5) (Decidable.of_not_not hc) hr
      refine nk_p (i := .aload_n 0) (len := 1) (pc' := 33) mJ_90 (by decide +kernel) (ns_aload_n 0 rfl rfl) rfl ?_
      refine nk_p (i := .iload_n 3) (len := 1) (pc' := 34) mJ_90 (by decide +kernel) (ns_iload_n 2 rfl rfl) rfl ?_
      refine nk_p (i := .iload 4) (len := 2) (pc' := 36) mJ_90 (by decide +kernel) (ns_iload 3 rfl) rfl ?_
      refine nk_p (i := .aload_n 0) (len := 1) (pc' := 37) mJ_90 (by decide +kernel) (ns_aload_n 0 rfl rfl) rfl ?_
      refine nk_getC (f := (4, 1, 16002)) (x := 26) (len := 3) (ci := 13) (k := 8) (pc' := 40) ja_okT mJ_90 (by decide +kernel) (by decide +kernel) (by decide +kernel) (by decide) t_l0 rfl ?_
      have t9 : nk_ar ja_Tt (ja_c l0 8) = some (1, 16002) := nk_ta ja_okT t_l0 (by decide +kernel)
      refine nk_p (i := .aload_n 0) (len := 1) (pc' := 41) mJ_90 (by decide +kernel) (ns_aload_n 0 rfl rfl) rfl ?_
      refine nk_getC (f := (4, 1, 48)) (x := 43) (len := 3) (ci := 13) (k := 15) (pc' := 44) ja_okT mJ_90 (by decide +kernel) (by decide +kernel) (by decide +kernel) (by decide) t_l0 rfl ?_
      have t10 : nk_ar ja_Tt (ja_c l0 15) = some (1, 48) := nk_ta ja_okT t_l0 (by decide +kernel)
      refine nk_p (i := .iload 6) (len := 2) (pc' := 46) mJ_90 (by decide +kernel) (ns_iload 5 rfl) rfl ?_
      refine nk_iald (len := 1) (N := 48) (pc' := 47) mJ_90 (by decide +kernel) t10 h6.1 h6.2 rfl rfl ?_
      obtain ⟨h11, hr⟩ := nk_cke hr
      refine nk_iald (len := 1) (N := 16002) (pc' := 48) mJ_90 (by decide +kernel) t9 h11.1 h11.2 rfl rfl ?_
      refine nk_p (i := .aload_n 0) (len := 1) (pc' := 49) mJ_90 (by decide +kernel) (ns_aload_n 0 rfl rfl) rfl ?_
      refine nk_getC (f := (4, 1, 16002)) (x := 30) (len := 3) (ci := 13) (k := 9) (pc' := 52) ja_okT mJ_90 (by decide +kernel) (by decide +kernel) (by decide +kernel) (by decide) t_l0 rfl ?_
      have t12 : nk_ar ja_Tt (ja_c l0 9) = some (1, 16002) := nk_ta ja_okT t_l0 (by decide +kernel)
      refine nk_p (i := .aload_n 0) (len := 1) (pc' := 53) mJ_90 (by decide +kernel) (ns_aload_n 0 rfl rfl) rfl ?_
      refine nk_getC (f := (4, 1, 48)) (x := 43) (len := 3) (ci := 13) (k := 15) (pc' := 56) ja_okT mJ_90 (by decide +kernel) (by decide +kernel) (by decide +kernel) (by decide) t_l0 rfl ?_
      refine nk_p (i := .iload 6) (len := 2) (pc' := 58) mJ_90 (by decide +kernel) (ns_iload 5 rfl) rfl ?_
      refine nk_iald (len := 1) (N := 48) (pc' := 59) mJ_90 (by decide +kernel) t10 h6.1 h6.2 rfl rfl ?_
      refine nk_iald (len := 1) (N := 16002) (pc' := 60) mJ_90 (by decide +kernel) t12 h11.1 h11.2 rfl rfl ?_
      obtain ⟨r13, S14, h15, hr⟩ := nk_bde hr
      refine nk_callV (ci := 13) (n := 4) (x := 167) (len := 3) (j' := 159) (q' := 1) (r := r13) (S' := S14) (L2 := [(0, nk_r l0), (1, nk_i l3), (2, nk_i l4), (3, nk_i (S.1 (ja_c l0 8) (S.1 (ja_c l0 15) l6.toNat).toNat)), (4, nk_i (S.1 (ja_c l0 9) (S.1 (ja_c l0 15) l6.toNat).toNat))]) (rest := []) (st' := [nk_i r13]) (pc' := 63) mJ_90 (by decide +kernel) (by decide +kernel) rfl rfl t_l0 (Nat.le_of_ble_eq_true rfl) mJ_159 (Nat.le_of_ble_eq_true rfl) rfl (ja_X13_isSame_ok zs _ _ _ _ _ _ _ t_l0 h15) rfl ?_
      refine nk_icond (c := .eq) (off := 6) (len := 3) (t := 69) (pc' := 66) mJ_90 (by decide +kernel) (by decide +kernel) rfl (fun hc => ?_) (fun hc => ?_)
      · have hr := nk_ifp (c := r13 = 0) hc hr
        obtain ⟨v16, h17, hr⟩ := nk_lte hr
        refine nk_p (i := .iinc 6 1) (len := 3) (pc' := 72) mJ_90 (by decide +kernel) (ns_iinc (c := 1) (L' := [(6, nk_i v16), (0, nk_r l0), (1, nk_r l1), (3, nk_i l3), (4, nk_i l4), (5, nk_i l5)]) 5 rfl (by decide +kernel) h17 rfl (by decide +kernel)) rfl ?_
        refine nk_p (i := .goto (-61)) (len := 3) (pc' := 11) mJ_90 (by decide +kernel) (ns_goto (by decide +kernel)) rfl ?_
        refine nk_sub [1, 2, 3, 4, 5, 0] (L' := [(0, nk_r l0), (1, nk_r l1), (3, nk_i l3), (4, nk_i l4), (5, nk_i l5), (6, nk_i v16)]) rfl ?_
        exact hrec11 _ _ _ _ _ _ _ _ t_l0 t_l1 hr
      · have hr := nk_ifn (c := r13 = 0) hc hr
        refine nk_p (i := .iload 6) (len := 2) (pc' := 68) mJ_90 (by decide +kernel) (ns_iload 5 rfl) rfl ?_
        cases hr
        exact nk_iret (ty := .int) (len := 1) mJ_90 (by decide +kernel) rfl (nk_nar_i _)
noncomputable def ja_X13_bodyOf_L11 (rec3 : Nat → Nat → Int → Int → Int → nk_S → Option (Int × nk_S)) : Nat → Nat → Nat → Int → Int → Int → Int → nk_S → Option (Int × nk_S)
  | 0, _, _, _, _, _, _, _ => none
  | n + 1, l0, l1, l3, l4, l5, l6, S => ja_X13_bodyOf_b11 rec3 (ja_X13_bodyOf_L11 rec3 n) l0 l1 l3 l4 l5 l6 S
theorem ja_X13_bodyOf_L11_ok (zs : List Int32) {rec3 : Nat → Nat → Int → Int → Int → nk_S → Option (Int × nk_S)} (hrec3 : ∀ (l0 : Nat) (l1 : Nat) (l3 : Int) (l4 : Int) (l5 : Int) (S : nk_S) (R : Int × nk_S), nk_cl ja_Tt l0 = some 13 → nk_cl ja_Tt l1 = some 12 → rec3 l0 l1 l3 l4 l5 S = some R → nk_K ja_Tt mi_Γ (mi_ev zs) 1 90 3 [(0, nk_r l0), (1, nk_r l1), (3, nk_i l3), (4, nk_i l4), (5, nk_i l5)] [] S R) : ∀ n : Nat, ∀ (l0 : Nat) (l1 : Nat) (l3 : Int) (l4 : Int) (l5 : Int) (l6 : Int) (S : nk_S) (R : Int × nk_S), nk_cl ja_Tt l0 = some 13 → nk_cl ja_Tt l1 = some 12 → ja_X13_bodyOf_L11 rec3 n l0 l1 l3 l4 l5 l6 S = some R → nk_K ja_Tt mi_Γ (mi_ev zs) 1 90 11 [(0, nk_r l0), (1, nk_r l1), (3, nk_i l3), (4, nk_i l4), (5, nk_i l5), (6, nk_i l6)] [] S R := by
  intro n
  induction n with
  | zero => intro _ _ _ _ _ _ _ _ _ _ hr; cases hr
  | succ n ih => intro l0 l1 l3 l4 l5 l6 S R t_l0 t_l1 hr; exact ja_X13_bodyOf_b11_ok zs hrec3 ih l0 l1 l3 l4 l5 l6 S R t_l0 t_l1 hr
noncomputable def ja_X13_bodyOf_b3 (rec3 : Nat → Nat → Int → Int → Int → nk_S → Option (Int × nk_S)) (l0 : Nat) (l1 : Nat) (l3 : Int) (l4 : Int) (l5 : Int) (S : nk_S) : Option (Int × nk_S) :=
  if l5 < 0 then
    some ((-1), S)
  else
    ja_X13_bodyOf_L11 rec3 nk_big l0 l1 l3 l4 l5 0 S
theorem ja_X13_bodyOf_b3_ok (zs : List Int32) {rec3 : Nat → Nat → Int → Int → Int → nk_S → Option (Int × nk_S)} (hrec3 : ∀ (l0 : Nat) (l1 : Nat) (l3 : Int) (l4 : Int) (l5 : Int) (S : nk_S) (R : Int × nk_S), nk_cl ja_Tt l0 = some 13 → nk_cl ja_Tt l1 = some 12 → rec3 l0 l1 l3 l4 l5 S = some R → nk_K ja_Tt mi_Γ (mi_ev zs) 1 90 3 [(0, nk_r l0), (1, nk_r l1), (3, nk_i l3), (4, nk_i l4), (5, nk_i l5)] [] S R) : ∀ (l0 : Nat) (l1 : Nat) (l3 : Int) (l4 : Int) (l5 : Int) (S : nk_S) (R : Int × nk_S), nk_cl ja_Tt l0 = some 13 → nk_cl ja_Tt l1 = some 12 → ja_X13_bodyOf_b3 rec3 l0 l1 l3 l4 l5 S = some R → nk_K ja_Tt mi_Γ (mi_ev zs) 1 90 3 [(0, nk_r l0), (1, nk_r l1), (3, nk_i l3), (4, nk_i l4), (5, nk_i l5)] [] S R := by
  intro l0 l1 l3 l4 l5 S R t_l0 t_l1 hr
  unfold ja_X13_bodyOf_b3 at hr
  refine nk_p (i := .iload 5) (len := 2) (pc' := 5) mJ_90 (by decide +kernel) (ns_iload 4 rfl) rfl ?_
  refine nk_icond (c := .lt) (off := 82) (len := 3) (t := 87) (pc' := 8) mJ_90 (by decide +kernel) (by decide +kernel) rfl (fun hc => ?_) (fun hc => ?_)
  · have hr := nk_ifp (c := l5 < 0) hc hr
    refine nk_p (i := .iconst (-1)) (len := 1) (pc' := 88) mJ_90 (by decide +kernel) (ns_iconst (c := (-1)) (by decide +kernel)) rfl ?_
    cases hr
    exact nk_iret (ty := .int) (len := 1) mJ_90 (by decide +kernel) rfl (nk_nar_i _)
  · have hr := nk_ifn (c := l5 < 0) hc hr
    refine nk_p (i := .iconst 0) (len := 1) (pc' := 9) mJ_90 (by decide +kernel) (ns_iconst (c := 0) (by decide +kernel)) rfl ?_
    refine nk_p (i := .istore 6) (len := 2) (pc' := 11) mJ_90 (by decide +kernel) (ns_istore (L' := [(6, nk_i 0), (0, nk_r l0), (1, nk_r l1), (3, nk_i l3), (4, nk_i l4), (5, nk_i l5)]) rfl rfl (by decide +kernel)) rfl ?_
    refine nk_sub [1, 2, 3, 4, 5, 0] (L' := [(0, nk_r l0), (1, nk_r l1), (3, nk_i l3), (4, nk_i l4), (5, nk_i l5), (6, nk_i 0)]) rfl ?_
    exact ja_X13_bodyOf_L11_ok zs hrec3 nk_big _ _ _ _ _ _ _ _ t_l0 t_l1 hr
noncomputable def ja_X13_bodyOf_L3 : Nat → Nat → Nat → Int → Int → Int → nk_S → Option (Int × nk_S)
  | 0, _, _, _, _, _, _ => none
  | n + 1, l0, l1, l3, l4, l5, S => ja_X13_bodyOf_b3 (ja_X13_bodyOf_L3 n) l0 l1 l3 l4 l5 S
theorem ja_X13_bodyOf_L3_ok (zs : List Int32) : ∀ n : Nat, ∀ (l0 : Nat) (l1 : Nat) (l3 : Int) (l4 : Int) (l5 : Int) (S : nk_S) (R : Int × nk_S), nk_cl ja_Tt l0 = some 13 → nk_cl ja_Tt l1 = some 12 → ja_X13_bodyOf_L3 n l0 l1 l3 l4 l5 S = some R → nk_K ja_Tt mi_Γ (mi_ev zs) 1 90 3 [(0, nk_r l0), (1, nk_r l1), (3, nk_i l3), (4, nk_i l4), (5, nk_i l5)] [] S R := by
  intro n
  induction n with
  | zero => intro _ _ _ _ _ _ _ _ _ hr; cases hr
  | succ n ih => intro l0 l1 l3 l4 l5 S R t_l0 t_l1 hr; exact ja_X13_bodyOf_b3_ok zs ih l0 l1 l3 l4 l5 S R t_l0 t_l1 hr
noncomputable def ja_X13_bodyOf (l0 : Nat) (l1 : Nat) (l2 : Int) (l3 : Int) (l4 : Int) (S : nk_S) : Option (Int × nk_S) :=
  ja_X13_bodyOf_L3 nk_big l0 l1 l3 l4 l2 S
theorem ja_X13_bodyOf_ok (zs : List Int32) : ∀ (l0 : Nat) (l1 : Nat) (l2 : Int) (l3 : Int) (l4 : Int) (S : nk_S) (R : Int × nk_S), nk_cl ja_Tt l0 = some 13 → nk_cl ja_Tt l1 = some 12 → ja_X13_bodyOf l0 l1 l2 l3 l4 S = some R → nk_K ja_Tt mi_Γ (mi_ev zs) 1 90 0 [(0, nk_r l0), (1, nk_r l1), (2, nk_i l2), (3, nk_i l3), (4, nk_i l4)] [] S R := by
  intro l0 l1 l2 l3 l4 S R t_l0 t_l1 hr
  unfold ja_X13_bodyOf at hr
  refine nk_p (i := .iload_n 2) (len := 1) (pc' := 1) mJ_90 (by decide +kernel) (ns_iload_n 2 rfl rfl) rfl ?_
  refine nk_p (i := .istore 5) (len := 2) (pc' := 3) mJ_90 (by decide +kernel) (ns_istore (L' := [(5, nk_i l2), (0, nk_r l0), (1, nk_r l1), (2, nk_i l2), (3, nk_i l3), (4, nk_i l4)]) rfl rfl (by decide +kernel)) rfl ?_
  refine nk_sub [1, 2, 4, 5, 0] (L' := [(0, nk_r l0), (1, nk_r l1), (3, nk_i l3), (4, nk_i l4), (5, nk_i l2)]) rfl ?_
  exact ja_X13_bodyOf_L3_ok zs nk_big _ _ _ _ _ _ _ t_l0 t_l1 hr
/-! SafeCodeModel isSameToken (II)Z -/
noncomputable def ja_X13_isSameToken (l0 : Nat) (l1 : Int) (l2 : Int) (S : nk_S) : Option (Int × nk_S) :=
  if 0 ≤ l1 ∧ l1 < 16002 then
  if 0 ≤ l2 ∧ l2 < 16002 then
  nk_bd (ja_X13_isSame l0 (S.1 (ja_c l0 8) l1.toNat) (S.1 (ja_c l0 9) l1.toNat) (S.1 (ja_c l0 8) l2.toNat) (S.1 (ja_c l0 9) l2.toNat) S) fun r5 S6 =>
  if r5 = 0 ∨ r5 = 1 then
  some (r5, S6)
  else none
  else none
  else none
theorem ja_X13_isSameToken_ok (zs : List Int32) : ∀ (l0 : Nat) (l1 : Int) (l2 : Int) (S : nk_S) (R : Int × nk_S), nk_cl ja_Tt l0 = some 13 → ja_X13_isSameToken l0 l1 l2 S = some R → nk_K ja_Tt mi_Γ (mi_ev zs) 1 161 0 [(0, nk_r l0), (1, nk_i l1), (2, nk_i l2)] [] S R := by
  intro l0 l1 l2 S R t_l0 hr
  unfold ja_X13_isSameToken at hr
  refine nk_p (i := .aload_n 0) (len := 1) (pc' := 1) mJ_161 (by decide +kernel) (ns_aload_n 0 rfl rfl) rfl ?_
  refine nk_p (i := .aload_n 0) (len := 1) (pc' := 2) mJ_161 (by decide +kernel) (ns_aload_n 0 rfl rfl) rfl ?_
  refine nk_getC (f := (4, 1, 16002)) (x := 26) (len := 3) (ci := 13) (k := 8) (pc' := 5) ja_okT mJ_161 (by decide +kernel) (by decide +kernel) (by decide +kernel) (by decide) t_l0 rfl ?_
  have t1 : nk_ar ja_Tt (ja_c l0 8) = some (1, 16002) := nk_ta ja_okT t_l0 (by decide +kernel)
  refine nk_p (i := .iload_n 1) (len := 1) (pc' := 6) mJ_161 (by decide +kernel) (ns_iload_n 1 rfl rfl) rfl ?_
  obtain ⟨h2, hr⟩ := nk_cke hr
  refine nk_iald (len := 1) (N := 16002) (pc' := 7) mJ_161 (by decide +kernel) t1 h2.1 h2.2 rfl rfl ?_
  refine nk_p (i := .aload_n 0) (len := 1) (pc' := 8) mJ_161 (by decide +kernel) (ns_aload_n 0 rfl rfl) rfl ?_
  refine nk_getC (f := (4, 1, 16002)) (x := 30) (len := 3) (ci := 13) (k := 9) (pc' := 11) ja_okT mJ_161 (by decide +kernel) (by decide +kernel) (by decide +kernel) (by decide) t_l0 rfl ?_
  have t3 : nk_ar ja_Tt (ja_c l0 9) = some (1, 16002) := nk_ta ja_okT t_l0 (by decide +kernel)
  refine nk_p (i := .iload_n 1) (len := 1) (pc' := 12) mJ_161 (by decide +kernel) (ns_iload_n 1 rfl rfl) rfl ?_
  refine nk_iald (len := 1) (N := 16002) (pc' := 13) mJ_161 (by decide +kernel) t3 h2.1 h2.2 rfl rfl ?_
  refine nk_p (i := .aload_n 0) (len := 1) (pc' := 14) mJ_161 (by decide +kernel) (ns_aload_n 0 rfl rfl) rfl ?_
  refine nk_getC (f := (4, 1, 16002)) (x := 26) (len := 3) (ci := 13) (k := 8) (pc' := 17) ja_okT mJ_161 (by decide +kernel) (by decide +kernel) (by decide +kernel) (by decide) t_l0 rfl ?_
  refine nk_p (i := .iload_n 2) (len := 1) (pc' := 18) mJ_161 (by decide +kernel) (ns_iload_n 2 rfl rfl) rfl ?_
  obtain ⟨h4, hr⟩ := nk_cke hr
  refine nk_iald (len := 1) (N := 16002) (pc' := 19) mJ_161 (by decide +kernel) t1 h4.1 h4.2 rfl rfl ?_
  refine nk_p (i := .aload_n 0) (len := 1) (pc' := 20) mJ_161 (by decide +kernel) (ns_aload_n 0 rfl rfl) rfl ?_
  refine nk_getC (f := (4, 1, 16002)) (x := 30) (len := 3) (ci := 13) (k := 9) (pc' := 23) ja_okT mJ_161 (by decide +kernel) (by decide +kernel) (by decide +kernel) (by decide) t_l0 rfl ?_
  refine nk_p (i := .iload_n 2) (len := 1) (pc' := 24) mJ_161 (by decide +kernel) (ns_iload_n 2 rfl rfl) rfl ?_
  refine nk_iald (len := 1) (N := 16002) (pc' := 25) mJ_161 (by decide +kernel) t3 h4.1 h4.2 rfl rfl ?_
  obtain ⟨r5, S6, h7, hr⟩ := nk_bde hr
  refine nk_callV (ci := 13) (n := 4) (x := 167) (len := 3) (j' := 159) (q' := 1) (r := r5) (S' := S6) (L2 := [(0, nk_r l0), (1, nk_i (S.1 (ja_c l0 8) l1.toNat)), (2, nk_i (S.1 (ja_c l0 9) l1.toNat)), (3, nk_i (S.1 (ja_c l0 8) l2.toNat)), (4, nk_i (S.1 (ja_c l0 9) l2.toNat))]) (rest := []) (st' := [nk_i r5]) (pc' := 28) mJ_161 (by decide +kernel) (by decide +kernel) rfl rfl t_l0 (Nat.le_of_ble_eq_true rfl) mJ_159 (Nat.le_of_ble_eq_true rfl) rfl (ja_X13_isSame_ok zs _ _ _ _ _ _ _ t_l0 h7) rfl ?_
  obtain ⟨h8, hr⟩ := nk_cke hr
  cases hr
  exact nk_iret (ty := .boolean) (len := 1) mJ_161 (by decide +kernel) rfl (nk_nar_z h8)
/-! SafeCodeModel isSameRow (II)Z -/
noncomputable def ja_X13_isSameRow_b47 (l0 : Nat) (l1 : Int) (l2 : Int) (l3 : Int) (S : nk_S) : Option (Int × nk_S) :=
  nk_bd (ja_X13_is l0 (nk_w (l1 + l3)) 23 S) fun r1 S2 =>
  if r1 = 0 then
    some (0, S2)
  else
    nk_bd (ja_X13_is l0 (nk_w (l2 + l3)) 23 S2) fun r4 S5 =>
    if r4 = 0 then
      some (0, S5)
    else
      nk_bd (ja_X13_isSameToken l0 (nk_w ((nk_w (l1 + l3)) + 1)) (nk_w ((nk_w (l2 + l3)) + 1)) S5) fun r7 S8 =>
      if r7 = 0 then
        some (0, S8)
      else
        some (1, S8)
theorem ja_X13_isSameRow_b47_ok (zs : List Int32) : ∀ (l0 : Nat) (l1 : Int) (l2 : Int) (l3 : Int) (S : nk_S) (R : Int × nk_S), nk_cl ja_Tt l0 = some 13 → ja_X13_isSameRow_b47 l0 l1 l2 l3 S = some R → nk_K ja_Tt mi_Γ (mi_ev zs) 1 160 47 [(0, nk_r l0), (1, nk_i l1), (2, nk_i l2), (3, nk_i l3)] [] S R := by
  intro l0 l1 l2 l3 S R t_l0 hr
  unfold ja_X13_isSameRow_b47 at hr
  refine nk_p (i := .aload_n 0) (len := 1) (pc' := 48) mJ_160 (by decide +kernel) (ns_aload_n 0 rfl rfl) rfl ?_
  refine nk_p (i := .iload_n 1) (len := 1) (pc' := 49) mJ_160 (by decide +kernel) (ns_iload_n 1 rfl rfl) rfl ?_
  refine nk_p (i := .iload_n 3) (len := 1) (pc' := 50) mJ_160 (by decide +kernel) (ns_iload_n 3 rfl rfl) rfl ?_
  refine nk_p (i := .iadd) (len := 1) (pc' := 51) mJ_160 (by decide +kernel) ns_iadd rfl ?_
  refine nk_ldct (x := 234) (len := 2) (k := 23) (s := ")") (pc' := 53) mJ_160 (by decide +kernel) (by decide +kernel) (by decide +kernel) rfl ?_
  obtain ⟨r1, S2, h3, hr⟩ := nk_bde hr
  refine nk_callV (ci := 13) (n := 2) (x := 199) (len := 3) (j' := 138) (q' := 1) (r := r1) (S' := S2) (L2 := [(0, nk_r l0), (1, nk_i (nk_w (l1 + l3))), (2, nk_o 23)]) (rest := []) (st' := [nk_i r1]) (pc' := 56) mJ_160 (by decide +kernel) (by decide +kernel) rfl rfl t_l0 (Nat.le_of_ble_eq_true rfl) mJ_138 (Nat.le_of_ble_eq_true rfl) rfl (ja_X13_is_ok zs _ _ _ _ _ t_l0 (ja_tx23 zs) h3) rfl ?_
  refine nk_icond (c := .eq) (off := 36) (len := 3) (t := 92) (pc' := 59) mJ_160 (by decide +kernel) (by decide +kernel) rfl (fun hc => ?_) (fun hc => ?_)
  · have hr := nk_ifp (c := r1 = 0) hc hr
    refine nk_p (i := .iconst 0) (len := 1) (pc' := 93) mJ_160 (by decide +kernel) (ns_iconst (c := 0) (by decide +kernel)) rfl ?_
    cases hr
    exact nk_iret (ty := .boolean) (len := 1) mJ_160 (by decide +kernel) rfl (nk_nar_z (by decide))
  · have hr := nk_ifn (c := r1 = 0) hc hr
    refine nk_p (i := .aload_n 0) (len := 1) (pc' := 60) mJ_160 (by decide +kernel) (ns_aload_n 0 rfl rfl) rfl ?_
    refine nk_p (i := .iload_n 2) (len := 1) (pc' := 61) mJ_160 (by decide +kernel) (ns_iload_n 2 rfl rfl) rfl ?_
    refine nk_p (i := .iload_n 3) (len := 1) (pc' := 62) mJ_160 (by decide +kernel) (ns_iload_n 3 rfl rfl) rfl ?_
    refine nk_p (i := .iadd) (len := 1) (pc' := 63) mJ_160 (by decide +kernel) ns_iadd rfl ?_
    refine nk_ldct (x := 234) (len := 2) (k := 23) (s := ")") (pc' := 65) mJ_160 (by decide +kernel) (by decide +kernel) (by decide +kernel) rfl ?_
    obtain ⟨r4, S5, h6, hr⟩ := nk_bde hr
    refine nk_callV (ci := 13) (n := 2) (x := 199) (len := 3) (j' := 138) (q' := 1) (r := r4) (S' := S5) (L2 := [(0, nk_r l0), (1, nk_i (nk_w (l2 + l3))), (2, nk_o 23)]) (rest := []) (st' := [nk_i r4]) (pc' := 68) mJ_160 (by decide +kernel) (by decide +kernel) rfl rfl t_l0 (Nat.le_of_ble_eq_true rfl) mJ_138 (Nat.le_of_ble_eq_true rfl) rfl (ja_X13_is_ok zs _ _ _ _ _ t_l0 (ja_tx23 zs) h6) rfl ?_
    refine nk_icond (c := .eq) (off := 24) (len := 3) (t := 92) (pc' := 71) mJ_160 (by decide +kernel) (by decide +kernel) rfl (fun hc => ?_) (fun hc => ?_)
    · have hr := nk_ifp (c := r4 = 0) hc hr
      refine nk_p (i := .iconst 0) (len := 1) (pc' := 93) mJ_160 (by decide +kernel) (ns_iconst (c := 0) (by decide +kernel)) rfl ?_
      cases hr
      exact nk_iret (ty := .boolean) (len := 1) mJ_160 (by decide +kernel) rfl (nk_nar_z (by decide))
    · have hr := nk_ifn (c := r4 = 0) hc hr
      refine nk_p (i := .aload_n 0) (len := 1) (pc' := 72) mJ_160 (by decide +kernel) (ns_aload_n 0 rfl rfl) rfl ?_
      refine nk_p (i := .iload_n 1) (len := 1) (pc' := 73) mJ_160 (by decide +kernel) (ns_iload_n 1 rfl rfl) rfl ?_
      refine nk_p (i := .iload_n 3) (len := 1) (pc' := 74) mJ_160 (by decide +kernel) (ns_iload_n 3 rfl rfl) rfl ?_
      refine nk_p (i := .iadd) (len := 1) (pc' := 75) mJ_160 (by decide +kernel) ns_iadd rfl ?_
      refine nk_p (i := .iconst 1) (len := 1) (pc' := 76) mJ_160 (by decide +kernel) (ns_iconst (c := 1) (by decide +kernel)) rfl ?_
      refine nk_p (i := .iadd) (len := 1) (pc' := 77) mJ_160 (by decide +kernel) ns_iadd rfl ?_
      refine nk_p (i := .iload_n 2) (len := 1) (pc' := 78) mJ_160 (by decide +kernel) (ns_iload_n 2 rfl rfl) rfl ?_
      refine nk_p (i := .iload_n 3) (len := 1) (pc' := 79) mJ_160 (by decide +kernel) (ns_iload_n 3 rfl rfl) rfl ?_
      refine nk_p (i := .iadd) (len := 1) (pc' := 80) mJ_160 (by decide +kernel) ns_iadd rfl ?_
      refine nk_p (i := .iconst 1) (len := 1) (pc' := 81) mJ_160 (by decide +kernel) (ns_iconst (c := 1) (by decide +kernel)) rfl ?_
      refine nk_p (i := .iadd) (len := 1) (pc' := 82) mJ_160 (by decide +kernel) ns_iadd rfl ?_
      obtain ⟨r7, S8, h9, hr⟩ := nk_bde hr
      refine nk_callV (ci := 13) (n := 2) (x := 327) (len := 3) (j' := 161) (q' := 1) (r := r7) (S' := S8) (L2 := [(0, nk_r l0), (1, nk_i (nk_w ((nk_w (l1 + l3)) + 1))), (2, nk_i (nk_w ((nk_w (l2 + l3)) + 1)))]) (rest := []) (st' := [nk_i r7]) (pc' := 85) mJ_160 (by decide +kernel) (by decide +kernel) rfl rfl t_l0 (Nat.le_of_ble_eq_true rfl) mJ_161 (Nat.le_of_ble_eq_true rfl) rfl (ja_X13_isSameToken_ok zs _ _ _ _ _ t_l0 h9) rfl ?_
      refine nk_icond (c := .eq) (off := 7) (len := 3) (t := 92) (pc' := 88) mJ_160 (by decide +kernel) (by decide +kernel) rfl (fun hc => ?_) (fun hc => ?_)
      · have hr := nk_ifp (c := r7 = 0) hc hr
        refine nk_p (i := .iconst 0) (len := 1) (pc' := 93) mJ_160 (by decide +kernel) (ns_iconst (c := 0) (by decide +kernel)) rfl ?_
        cases hr
        exact nk_iret (ty := .boolean) (len := 1) mJ_160 (by decide +kernel) rfl (nk_nar_z (by decide))
      · have hr := nk_ifn (c := r7 = 0) hc hr
        refine nk_p (i := .iconst 1) (len := 1) (pc' := 89) mJ_160 (by decide +kernel) (ns_iconst (c := 1) (by decide +kernel)) rfl ?_
        refine nk_p (i := .goto 4) (len := 3) (pc' := 93) mJ_160 (by decide +kernel) (ns_goto (by decide +kernel)) rfl ?_
        cases hr
        exact nk_iret (ty := .boolean) (len := 1) mJ_160 (by decide +kernel) rfl (nk_nar_z (by decide))
noncomputable def ja_X13_isSameRow_b2 (rec2 : Nat → Int → Int → Int → nk_S → Option (Int × nk_S)) (l0 : Nat) (l1 : Int) (l2 : Int) (l3 : Int) (S : nk_S) : Option (Int × nk_S) :=
  nk_bd (ja_X13_is l0 (nk_w (l1 + l3)) 23 S) fun r1 S2 =>
  if r1 = 0 then
    nk_bd (ja_X13_is l0 (nk_w (l2 + l3)) 23 S2) fun r4 S5 =>
    if r4 = 0 then
      nk_bd (ja_X13_isSameToken l0 (nk_w (l1 + l3)) (nk_w (l2 + l3)) S5) fun r7 S8 =>
      if r7 = 0 then
        some (0, S8)
      else
        nk_lt (nk_w (l3 + 1)) fun v10 =>
        rec2 l0 l1 l2 v10 S8
    else
      ja_X13_isSameRow_b47 l0 l1 l2 l3 S5
  else
    ja_X13_isSameRow_b47 l0 l1 l2 l3 S2
theorem ja_X13_isSameRow_b2_ok (zs : List Int32) {rec2 : Nat → Int → Int → Int → nk_S → Option (Int × nk_S)} (hrec2 : ∀ (l0 : Nat) (l1 : Int) (l2 : Int) (l3 : Int) (S : nk_S) (R : Int × nk_S), nk_cl ja_Tt l0 = some 13 → rec2 l0 l1 l2 l3 S = some R → nk_K ja_Tt mi_Γ (mi_ev zs) 1 160 2 [(0, nk_r l0), (1, nk_i l1), (2, nk_i l2), (3, nk_i l3)] [] S R) : ∀ (l0 : Nat) (l1 : Int) (l2 : Int) (l3 : Int) (S : nk_S) (R : Int × nk_S), nk_cl ja_Tt l0 = some 13 → ja_X13_isSameRow_b2 rec2 l0 l1 l2 l3 S = some R → nk_K ja_Tt mi_Γ (mi_ev zs) 1 160 2 [(0, nk_r l0), (1, nk_i l1), (2, nk_i l2), (3, nk_i l3)] [] S R := by
  intro l0 l1 l2 l3 S R t_l0 hr
  unfold ja_X13_isSameRow_b2 at hr
  refine nk_p (i := .aload_n 0) (len := 1) (pc' := 3) mJ_160 (by decide +kernel) (ns_aload_n 0 rfl rfl) rfl ?_
  refine nk_p (i := .iload_n 1) (len := 1) (pc' := 4) mJ_160 (by decide +kernel) (ns_iload_n 1 rfl rfl) rfl ?_
  refine nk_p (i := .iload_n 3) (len := 1) (pc' := 5) mJ_160 (by decide +kernel) (ns_iload_n 3 rfl rfl) rfl ?_
  refine nk_p (i := .iadd) (len := 1) (pc' := 6) mJ_160 (by decide +kernel) ns_iadd rfl ?_
  refine nk_ldct (x := 234) (len := 2) (k := 23) (s := ")") (pc' := 8) mJ_160 (by decide +kernel) (by decide +kernel) (by decide +kernel) rfl ?_
  obtain ⟨r1, S2, h3, hr⟩ := nk_bde hr
  refine nk_callV (ci := 13) (n := 2) (x := 199) (len := 3) (j' := 138) (q' := 1) (r := r1) (S' := S2) (L2 := [(0, nk_r l0), (1, nk_i (nk_w (l1 + l3))), (2, nk_o 23)]) (rest := []) (st' := [nk_i r1]) (pc' := 11) mJ_160 (by decide +kernel) (by decide +kernel) rfl rfl t_l0 (Nat.le_of_ble_eq_true rfl) mJ_138 (Nat.le_of_ble_eq_true rfl) rfl (ja_X13_is_ok zs _ _ _ _ _ t_l0 (ja_tx23 zs) h3) rfl ?_
  refine nk_icond (c := .ne) (off := 36) (len := 3) (t := 47) (pc' := 14) mJ_160 (by decide +kernel) (by decide +kernel) rfl (fun hc => ?_) (fun hc => ?_)
  · have hr := nk_ifn (c := r1 = 0) hc hr
    exact ja_X13_isSameRow_b47_ok zs _ _ _ _ _ _ t_l0 hr
  · have hr := nk_ifp (c := r1 = 0) (Decidable.of_not_not hc) hr
    refine nk_p (i := .aload_n 0) (len := 1) (pc' := 15) mJ_160 (by decide +kernel) (ns_aload_n 0 rfl rfl) rfl ?_
    refine nk_p (i := .iload_n 2) (len := 1) (pc' := 16) mJ_160 (by decide +kernel) (ns_iload_n 2 rfl rfl) rfl ?_
    refine nk_p (i := .iload_n 3) (len := 1) (pc' := 17) mJ_160 (by decide +kernel) (ns_iload_n 3 rfl rfl) rfl ?_
    refine nk_p (i := .iadd) (len := 1) (pc' := 18) mJ_160 (by decide +kernel) ns_iadd rfl ?_
    refine nk_ldct (x := 234) (len := 2) (k := 23) (s := ")") (pc' := 20) mJ_160 (by decide +kernel) (by decide +kernel) (by decide +kernel) rfl ?_
    obtain ⟨r4, S5, h6, hr⟩ := nk_bde hr
    refine nk_callV (ci := 13) (n := 2) (x := 199) (len := 3) (j' := 138) (q' := 1) (r := r4) (S' := S5) (L2 := [(0, nk_r l0), (1, nk_i (nk_w (l2 + l3))), (2, nk_o 23)]) (rest := []) (st' := [nk_i r4]) (pc' := 23) mJ_160 (by decide +kernel) (by decide +kernel) rfl rfl t_l0 (Nat.le_of_ble_eq_true rfl) mJ_138 (Nat.le_of_ble_eq_true rfl) rfl (ja_X13_is_ok zs _ _ _ _ _ t_l0 (ja_tx23 zs) h6) rfl ?_
    refine nk_icond (c := .ne) (off := 24) (len := 3) (t := 47) (pc' := 26) mJ_160 (by decide +kernel) (by decide +kernel) rfl (fun hc => ?_) (fun hc => ?_)
    · have hr := nk_ifn (c := r4 = 0) hc hr
      exact ja_X13_isSameRow_b47_ok zs _ _ _ _ _ _ t_l0 hr
    · have hr := nk_ifp (c := r4 = 0) (Decidable.of_not_not hc) hr
      refine nk_p (i := .aload_n 0) (len := 1) (pc' := 27) mJ_160 (by decide +kernel) (ns_aload_n 0 rfl rfl) rfl ?_
      refine nk_p (i := .iload_n 1) (len := 1) (pc' := 28) mJ_160 (by decide +kernel) (ns_iload_n 1 rfl rfl) rfl ?_
      refine nk_p (i := .iload_n 3) (len := 1) (pc' := 29) mJ_160 (by decide +kernel) (ns_iload_n 3 rfl rfl) rfl ?_
      refine nk_p (i := .iadd) (len := 1) (pc' := 30) mJ_160 (by decide +kernel) ns_iadd rfl ?_
      refine nk_p (i := .iload_n 2) (len := 1) (pc' := 31) mJ_160 (by decide +kernel) (ns_iload_n 2 rfl rfl) rfl ?_
      refine nk_p (i := .iload_n 3) (len := 1) (pc' := 32) mJ_160 (by decide +kernel) (ns_iload_n 3 rfl rfl) rfl ?_
      refine nk_p (i := .iadd) (len := 1) (pc' := 33) mJ_160 (by decide +kernel) ns_iadd rfl ?_
      obtain ⟨r7, S8, h9, hr⟩ := nk_bde hr
      refine nk_callV (ci := 13) (n := 2) (x := 327) (len := 3) (j' := 161) (q' := 1) (r := r7) (S' := S8) (L2 := [(0, nk_r l0), (1, nk_i (nk_w (l1 + l3))), (2, nk_i (nk_w (l2 + l3)))]) (rest := []) (st' := [nk_i r7]) (pc' := 36) mJ_160 (by decide +kernel) (by decide +kernel) rfl rfl t_l0 (Nat.le_of_ble_eq_true rfl) mJ_161 (Nat.le_of_ble_eq_true rfl) rfl (ja_X13_isSameToken_ok zs _ _ _ _ _ t_l0 h9) rfl ?_
      refine nk_icond (c := .ne) (off := 5) (len := 3) (t := 41) (pc' := 39) mJ_160 (by decide +kernel) (by decide +kernel) rfl (fun hc => ?_) (fun hc => ?_)
      · have hr := nk_ifn (c := r7 = 0) hc hr
        obtain ⟨v10, h11, hr⟩ := nk_lte hr
        refine nk_p (i := .iinc 3 1) (len := 3) (pc' := 44) mJ_160 (by decide +kernel) (ns_iinc (c := 1) (L' := [(3, nk_i v10), (0, nk_r l0), (1, nk_i l1), (2, nk_i l2)]) 3 rfl (by decide +kernel) h11 rfl (by decide +kernel)) rfl ?_
        refine nk_p (i := .goto (-42)) (len := 3) (pc' := 2) mJ_160 (by decide +kernel) (ns_goto (by decide +kernel)) rfl ?_
        refine nk_sub [1, 2, 3, 0] (L' := [(0, nk_r l0), (1, nk_i l1), (2, nk_i l2), (3, nk_i v10)]) rfl ?_
        exact hrec2 _ _ _ _ _ _ t_l0 hr
      · have hr := nk_ifp (c := r7 = 0) (Decidable.of_not_not hc) hr
        refine nk_p (i := .iconst 0) (len := 1) (pc' := 40) mJ_160 (by decide +kernel) (ns_iconst (c := 0) (by decide +kernel)) rfl ?_
        cases hr
        exact nk_iret (ty := .boolean) (len := 1) mJ_160 (by decide +kernel) rfl (nk_nar_z (by decide))
noncomputable def ja_X13_isSameRow_L2 : Nat → Nat → Int → Int → Int → nk_S → Option (Int × nk_S)
  | 0, _, _, _, _, _ => none
  | n + 1, l0, l1, l2, l3, S => ja_X13_isSameRow_b2 (ja_X13_isSameRow_L2 n) l0 l1 l2 l3 S
theorem ja_X13_isSameRow_L2_ok (zs : List Int32) : ∀ n : Nat, ∀ (l0 : Nat) (l1 : Int) (l2 : Int) (l3 : Int) (S : nk_S) (R : Int × nk_S), nk_cl ja_Tt l0 = some 13 → ja_X13_isSameRow_L2 n l0 l1 l2 l3 S = some R → nk_K ja_Tt mi_Γ (mi_ev zs) 1 160 2 [(0, nk_r l0), (1, nk_i l1), (2, nk_i l2), (3, nk_i l3)] [] S R := by
  intro n
  induction n with
  | zero => intro _ _ _ _ _ _ _ hr; cases hr
  | succ n ih => intro l0 l1 l2 l3 S R t_l0 hr; exact ja_X13_isSameRow_b2_ok zs ih l0 l1 l2 l3 S R t_l0 hr
noncomputable def ja_X13_isSameRow (l0 : Nat) (l1 : Int) (l2 : Int) (S : nk_S) : Option (Int × nk_S) :=
  ja_X13_isSameRow_L2 nk_big l0 l1 l2 0 S
theorem ja_X13_isSameRow_ok (zs : List Int32) : ∀ (l0 : Nat) (l1 : Int) (l2 : Int) (S : nk_S) (R : Int × nk_S), nk_cl ja_Tt l0 = some 13 → ja_X13_isSameRow l0 l1 l2 S = some R → nk_K ja_Tt mi_Γ (mi_ev zs) 1 160 0 [(0, nk_r l0), (1, nk_i l1), (2, nk_i l2)] [] S R := by
  intro l0 l1 l2 S R t_l0 hr
  unfold ja_X13_isSameRow at hr
  refine nk_p (i := .iconst 0) (len := 1) (pc' := 1) mJ_160 (by decide +kernel) (ns_iconst (c := 0) (by decide +kernel)) rfl ?_
  refine nk_p (i := .istore_n 3) (len := 1) (pc' := 2) mJ_160 (by decide +kernel) (ns_istore_n (L' := [(3, nk_i 0), (0, nk_r l0), (1, nk_i l1), (2, nk_i l2)]) rfl rfl rfl (by decide +kernel)) rfl ?_
  refine nk_sub [1, 2, 3, 0] (L' := [(0, nk_r l0), (1, nk_i l1), (2, nk_i l2), (3, nk_i 0)]) rfl ?_
  exact ja_X13_isSameRow_L2_ok zs nk_big _ _ _ _ _ _ t_l0 hr
/-! SafeCodeModel wrong (I)Z -/
noncomputable def ja_X13_wrong (l0 : Nat) (l1 : Int) (S : nk_S) : Option (Int × nk_S) :=
  nk_lt (nk_wi S l0 12 l1) fun S1 =>
  some (0, S1)
theorem ja_X13_wrong_ok (zs : List Int32) : ∀ (l0 : Nat) (l1 : Int) (S : nk_S) (R : Int × nk_S), nk_cl ja_Tt l0 = some 13 → ja_X13_wrong l0 l1 S = some R → nk_K ja_Tt mi_Γ (mi_ev zs) 1 246 0 [(0, nk_r l0), (1, nk_i l1)] [] S R := by
  intro l0 l1 S R t_l0 hr
  unfold ja_X13_wrong at hr
  refine nk_p (i := .aload_n 0) (len := 1) (pc' := 1) mJ_246 (by decide +kernel) (ns_aload_n 0 rfl rfl) rfl ?_
  refine nk_p (i := .iload_n 1) (len := 1) (pc' := 2) mJ_246 (by decide +kernel) (ns_iload_n 1 rfl rfl) rfl ?_
  obtain ⟨S1, h2, hr⟩ := nk_lte hr
  refine nk_putI (y := (0, 0)) (ty := .int) (x := 33) (len := 3) (ci := 13) (k := 12) (pc' := 5) ja_okT mJ_246 (by decide +kernel) (by decide +kernel) (by decide +kernel) t_l0 (Or.inl rfl) rfl h2 ?_
  refine nk_p (i := .iconst 0) (len := 1) (pc' := 6) mJ_246 (by decide +kernel) (ns_iconst (c := 0) (by decide +kernel)) rfl ?_
  cases hr
  exact nk_iret (ty := .boolean) (len := 1) mJ_246 (by decide +kernel) rfl (nk_nar_z (by decide))
/-! SafeCodeModel isArray (I)Z -/
noncomputable def ja_X13_isArray (l0 : Nat) (l1 : Int) (S : nk_S) : Option (Int × nk_S) :=
  if 0 ≤ l1 ∧ l1 < 16002 then
  if (nk_w ((S.1 (ja_c l0 9) l1.toNat) - (S.1 (ja_c l0 8) l1.toNat))) ≤ 2 then
    some (0, S)
  else
    if 0 ≤ (nk_w ((S.1 (ja_c l0 9) l1.toNat) - 2)) ∧ (nk_w ((S.1 (ja_c l0 9) l1.toNat) - 2)) < 16000 then
    if (S.1 (ja_c l0 6) (nk_w ((S.1 (ja_c l0 9) l1.toNat) - 2)).toNat) = 91 then
      if 0 ≤ (nk_w ((S.1 (ja_c l0 9) l1.toNat) - 1)) ∧ (nk_w ((S.1 (ja_c l0 9) l1.toNat) - 1)) < 16000 then
      if (S.1 (ja_c l0 6) (nk_w ((S.1 (ja_c l0 9) l1.toNat) - 1)).toNat) = 93 then
        some (1, S)
      else
        some (0, S)
      else none
    else
      some (0, S)
    else none
  else none
theorem ja_X13_isArray_ok (zs : List Int32) : ∀ (l0 : Nat) (l1 : Int) (S : nk_S) (R : Int × nk_S), nk_cl ja_Tt l0 = some 13 → ja_X13_isArray l0 l1 S = some R → nk_K ja_Tt mi_Γ (mi_ev zs) 1 139 0 [(0, nk_r l0), (1, nk_i l1)] [] S R := by
  intro l0 l1 S R t_l0 hr
  unfold ja_X13_isArray at hr
  refine nk_p (i := .aload_n 0) (len := 1) (pc' := 1) mJ_139 (by decide +kernel) (ns_aload_n 0 rfl rfl) rfl ?_
  refine nk_getC (f := (4, 1, 16002)) (x := 30) (len := 3) (ci := 13) (k := 9) (pc' := 4) ja_okT mJ_139 (by decide +kernel) (by decide +kernel) (by decide +kernel) (by decide) t_l0 rfl ?_
  have t1 : nk_ar ja_Tt (ja_c l0 9) = some (1, 16002) := nk_ta ja_okT t_l0 (by decide +kernel)
  refine nk_p (i := .iload_n 1) (len := 1) (pc' := 5) mJ_139 (by decide +kernel) (ns_iload_n 1 rfl rfl) rfl ?_
  obtain ⟨h2, hr⟩ := nk_cke hr
  refine nk_iald (len := 1) (N := 16002) (pc' := 6) mJ_139 (by decide +kernel) t1 h2.1 h2.2 rfl rfl ?_
  refine nk_p (i := .aload_n 0) (len := 1) (pc' := 7) mJ_139 (by decide +kernel) (ns_aload_n 0 rfl rfl) rfl ?_
  refine nk_getC (f := (4, 1, 16002)) (x := 26) (len := 3) (ci := 13) (k := 8) (pc' := 10) ja_okT mJ_139 (by decide +kernel) (by decide +kernel) (by decide +kernel) (by decide) t_l0 rfl ?_
  have t3 : nk_ar ja_Tt (ja_c l0 8) = some (1, 16002) := nk_ta ja_okT t_l0 (by decide +kernel)
  refine nk_p (i := .iload_n 1) (len := 1) (pc' := 11) mJ_139 (by decide +kernel) (ns_iload_n 1 rfl rfl) rfl ?_
  refine nk_iald (len := 1) (N := 16002) (pc' := 12) mJ_139 (by decide +kernel) t3 h2.1 h2.2 rfl rfl ?_
  refine nk_p (i := .isub) (len := 1) (pc' := 13) mJ_139 (by decide +kernel) ns_isub rfl ?_
  refine nk_p (i := .iconst 2) (len := 1) (pc' := 14) mJ_139 (by decide +kernel) (ns_iconst (c := 2) (by decide +kernel)) rfl ?_
  refine nk_icmp (c := .le) (off := 43) (len := 3) (t := 57) (pc' := 17) mJ_139 (by decide +kernel) (by decide +kernel) rfl (fun hc => ?_) (fun hc => ?_)
  · have hr := nk_ifp (c := (nk_w ((S.1 (ja_c l0 9) l1.toNat) - (S.1 (ja_c l0 8) l1.toNat))) ≤ 2) hc hr
    refine nk_p (i := .iconst 0) (len := 1) (pc' := 58) mJ_139 (by decide +kernel) (ns_iconst (c := 0) (by decide +kernel)) rfl ?_
    cases hr
    exact nk_iret (ty := .boolean) (len := 1) mJ_139 (by decide +kernel) rfl (nk_nar_z (by decide))
  · have hr := nk_ifn (c := (nk_w ((S.1 (ja_c l0 9) l1.toNat) - (S.1 (ja_c l0 8) l1.toNat))) ≤ 2) hc hr
    refine nk_p (i := .aload_n 0) (len := 1) (pc' := 18) mJ_139 (by decide +kernel) (ns_aload_n 0 rfl rfl) rfl ?_
    refine nk_getC (f := (4, 0, 16000)) (x := 23) (len := 3) (ci := 13) (k := 6) (pc' := 21) ja_okT mJ_139 (by decide +kernel) (by decide +kernel) (by decide +kernel) (by decide) t_l0 rfl ?_
    have t4 : nk_ar ja_Tt (ja_c l0 6) = some (0, 16000) := nk_ta ja_okT t_l0 (by decide +kernel)
    refine nk_p (i := .aload_n 0) (len := 1) (pc' := 22) mJ_139 (by decide +kernel) (ns_aload_n 0 rfl rfl) rfl ?_
    refine nk_getC (f := (4, 1, 16002)) (x := 30) (len := 3) (ci := 13) (k := 9) (pc' := 25) ja_okT mJ_139 (by decide +kernel) (by decide +kernel) (by decide +kernel) (by decide) t_l0 rfl ?_
    refine nk_p (i := .iload_n 1) (len := 1) (pc' := 26) mJ_139 (by decide +kernel) (ns_iload_n 1 rfl rfl) rfl ?_
    refine nk_iald (len := 1) (N := 16002) (pc' := 27) mJ_139 (by decide +kernel) t1 h2.1 h2.2 rfl rfl ?_
    refine nk_p (i := .iconst 2) (len := 1) (pc' := 28) mJ_139 (by decide +kernel) (ns_iconst (c := 2) (by decide +kernel)) rfl ?_
    refine nk_p (i := .isub) (len := 1) (pc' := 29) mJ_139 (by decide +kernel) ns_isub rfl ?_
    obtain ⟨h5, hr⟩ := nk_cke hr
    refine nk_bald (t := 0) (len := 1) (N := 16000) (pc' := 30) mJ_139 (by decide +kernel) t4 (by decide) h5.1 h5.2 rfl rfl ?_
    refine nk_p (i := .bipush 91) (len := 2) (pc' := 32) mJ_139 (by decide +kernel) (ns_bipush (c := 91) (by decide +kernel)) rfl ?_
    refine nk_icmp (c := .ne) (off := 25) (len := 3) (t := 57) (pc' := 35) mJ_139 (by decide +kernel) (by decide +kernel) rfl (fun hc => ?_) (fun hc => ?_)
    · have hr := nk_ifn (c := (S.1 (ja_c l0 6) (nk_w ((S.1 (ja_c l0 9) l1.toNat) - 2)).toNat) = 91) hc hr
      refine nk_p (i := .iconst 0) (len := 1) (pc' := 58) mJ_139 (by decide +kernel) (ns_iconst (c := 0) (by decide +kernel)) rfl ?_
      cases hr
      exact nk_iret (ty := .boolean) (len := 1) mJ_139 (by decide +kernel) rfl (nk_nar_z (by decide))
    · have hr := nk_ifp (c := (S.1 (ja_c l0 6) (nk_w ((S.1 (ja_c l0 9) l1.toNat) - 2)).toNat) = 91) (Decidable.of_not_not hc) hr
      refine nk_p (i := .aload_n 0) (len := 1) (pc' := 36) mJ_139 (by decide +kernel) (ns_aload_n 0 rfl rfl) rfl ?_
      refine nk_getC (f := (4, 0, 16000)) (x := 23) (len := 3) (ci := 13) (k := 6) (pc' := 39) ja_okT mJ_139 (by decide +kernel) (by decide +kernel) (by decide +kernel) (by decide) t_l0 rfl ?_
      refine nk_p (i := .aload_n 0) (len := 1) (pc' := 40) mJ_139 (by decide +kernel) (ns_aload_n 0 rfl rfl) rfl ?_
      refine nk_getC (f := (4, 1, 16002)) (x := 30) (len := 3) (ci := 13) (k := 9) (pc' := 43) ja_okT mJ_139 (by decide +kernel) (by decide +kernel) (by decide +kernel) (by decide) t_l0 rfl ?_
      refine nk_p (i := .iload_n 1) (len := 1) (pc' := 44) mJ_139 (by decide +kernel) (ns_iload_n 1 rfl rfl) rfl ?_
      refine nk_iald (len := 1) (N := 16002) (pc' := 45) mJ_139 (by decide +kernel) t1 h2.1 h2.2 rfl rfl ?_
      refine nk_p (i := .iconst 1) (len := 1) (pc' := 46) mJ_139 (by decide +kernel) (ns_iconst (c := 1) (by decide +kernel)) rfl ?_
      refine nk_p (i := .isub) (len := 1) (pc' := 47) mJ_139 (by decide +kernel) ns_isub rfl ?_
      obtain ⟨h6, hr⟩ := nk_cke hr
      refine nk_bald (t := 0) (len := 1) (N := 16000) (pc' := 48) mJ_139 (by decide +kernel) t4 (by decide) h6.1 h6.2 rfl rfl ?_
      refine nk_p (i := .bipush 93) (len := 2) (pc' := 50) mJ_139 (by decide +kernel) (ns_bipush (c := 93) (by decide +kernel)) rfl ?_
      refine nk_icmp (c := .ne) (off := 7) (len := 3) (t := 57) (pc' := 53) mJ_139 (by decide +kernel) (by decide +kernel) rfl (fun hc => ?_) (fun hc => ?_)
      · have hr := nk_ifn (c := (S.1 (ja_c l0 6) (nk_w ((S.1 (ja_c l0 9) l1.toNat) - 1)).toNat) = 93) hc hr
        refine nk_p (i := .iconst 0) (len := 1) (pc' := 58) mJ_139 (by decide +kernel) (ns_iconst (c := 0) (by decide +kernel)) rfl ?_
        cases hr
        exact nk_iret (ty := .boolean) (len := 1) mJ_139 (by decide +kernel) rfl (nk_nar_z (by decide))
      · have hr := nk_ifp (c := (S.1 (ja_c l0 6) (nk_w ((S.1 (ja_c l0 9) l1.toNat) - 1)).toNat) = 93) (Decidable.of_not_not hc) hr
        refine nk_p (i := .iconst 1) (len := 1) (pc' := 54) mJ_139 (by decide +kernel) (ns_iconst (c := 1) (by decide +kernel)) rfl ?_
        refine nk_p (i := .goto 4) (len := 3) (pc' := 58) mJ_139 (by decide +kernel) (ns_goto (by decide +kernel)) rfl ?_
        cases hr
        exact nk_iret (ty := .boolean) (len := 1) mJ_139 (by decide +kernel) rfl (nk_nar_z (by decide))
/-! SafeCodeModel classCount (LSafeCodeModel$Program;)I -/
noncomputable def ja_X13_classCount (l0 : Nat) (l1 : Nat) (S : nk_S) : Option (Int × nk_S) :=
  some ((nk_w (8 + (S.1 l1 0))), S)
theorem ja_X13_classCount_ok (zs : List Int32) : ∀ (l0 : Nat) (l1 : Nat) (S : nk_S) (R : Int × nk_S), nk_cl ja_Tt l0 = some 13 → nk_cl ja_Tt l1 = some 12 → ja_X13_classCount l0 l1 S = some R → nk_K ja_Tt mi_Γ (mi_ev zs) 1 97 0 [(0, nk_r l0), (1, nk_r l1)] [] S R := by
  intro l0 l1 S R t_l0 t_l1 hr
  unfold ja_X13_classCount at hr
  refine nk_p (i := .bipush 8) (len := 2) (pc' := 2) mJ_97 (by decide +kernel) (ns_bipush (c := 8) (by decide +kernel)) rfl ?_
  refine nk_p (i := .aload_n 1) (len := 1) (pc' := 3) mJ_97 (by decide +kernel) (ns_aload_n 1 rfl rfl) rfl ?_
  refine nk_getI (y := (0, 0)) (x := 267) (len := 3) (ci := 12) (k := 0) (pc' := 6) ja_okT mJ_97 (by decide +kernel) (by decide +kernel) (by decide +kernel) t_l1 rfl ?_
  refine nk_p (i := .iadd) (len := 1) (pc' := 7) mJ_97 (by decide +kernel) ns_iadd rfl ?_
  cases hr
  exact nk_iret (ty := .int) (len := 1) mJ_97 (by decide +kernel) rfl (nk_nar_i _)
/-! SafeCodeModel classOf (LSafeCodeModel$Program;II)I -/
noncomputable def ja_X13_classOf_b23 (rec23 : Nat → Nat → Int → Int → Int → nk_S → Option (Int × nk_S)) (l0 : Nat) (l1 : Nat) (l2 : Int) (l3 : Int) (l5 : Int) (S : nk_S) : Option (Int × nk_S) :=
  nk_bd (ja_X13_classCount l0 l1 S) fun r1 S2 =>
  if r1 ≤ l5 then
    some ((-1), S2)
  else
    if 0 ≤ l5 ∧ l5 < 32 then
    if 0 ≤ (S2.1 (ja_c l0 13) l5.toNat) ∧ (S2.1 (ja_c l0 13) l5.toNat) < 16002 then
    nk_bd (ja_X13_isSame l0 l2 l3 (S2.1 (ja_c l0 8) (S2.1 (ja_c l0 13) l5.toNat).toNat) (S2.1 (ja_c l0 9) (S2.1 (ja_c l0 13) l5.toNat).toNat) S2) fun r9 S10 =>
    if r9 = 0 then
      nk_lt (nk_w (l5 + 1)) fun v12 =>
      rec23 l0 l1 l2 l3 v12 S10
    else
      some (l5, S10)
    else none
    else none
theorem ja_X13_classOf_b23_ok (zs : List Int32) {rec23 : Nat → Nat → Int → Int → Int → nk_S → Option (Int × nk_S)} (hrec23 : ∀ (l0 : Nat) (l1 : Nat) (l2 : Int) (l3 : Int) (l5 : Int) (S : nk_S) (R : Int × nk_S), nk_cl ja_Tt l0 = some 13 → nk_cl ja_Tt l1 = some 12 → rec23 l0 l1 l2 l3 l5 S = some R → nk_K ja_Tt mi_Γ (mi_ev zs) 1 99 23 [(0, nk_r l0), (1, nk_r l1), (2, nk_i l2), (3, nk_i l3), (5, nk_i l5)] [] S R) : ∀ (l0 : Nat) (l1 : Nat) (l2 : Int) (l3 : Int) (l5 : Int) (S : nk_S) (R : Int × nk_S), nk_cl ja_Tt l0 = some 13 → nk_cl ja_Tt l1 = some 12 → ja_X13_classOf_b23 rec23 l0 l1 l2 l3 l5 S = some R → nk_K ja_Tt mi_Γ (mi_ev zs) 1 99 23 [(0, nk_r l0), (1, nk_r l1), (2, nk_i l2), (3, nk_i l3), (5, nk_i l5)] [] S R := by
  intro l0 l1 l2 l3 l5 S R t_l0 t_l1 hr
  unfold ja_X13_classOf_b23 at hr
  refine nk_p (i := .iload 5) (len := 2) (pc' := 25) mJ_99 (by decide +kernel) (ns_iload 4 rfl) rfl ?_
  refine nk_p (i := .aload_n 0) (len := 1) (pc' := 26) mJ_99 (by decide +kernel) (ns_aload_n 0 rfl rfl) rfl ?_
  refine nk_p (i := .aload_n 1) (len := 1) (pc' := 27) mJ_99 (by decide +kernel) (ns_aload_n 1 rfl rfl) rfl ?_
  obtain ⟨r1, S2, h3, hr⟩ := nk_bde hr
  refine nk_callV (ci := 13) (n := 1) (x := 272) (len := 3) (j' := 97) (q' := 1) (r := r1) (S' := S2) (L2 := [(0, nk_r l0), (1, nk_r l1)]) (rest := [nk_i l5]) (st' := [nk_i r1, nk_i l5]) (pc' := 30) mJ_99 (by decide +kernel) (by decide +kernel) rfl rfl t_l0 (Nat.le_of_ble_eq_true rfl) mJ_97 (Nat.le_of_ble_eq_true rfl) rfl (ja_X13_classCount_ok zs _ _ _ _ t_l0 t_l1 h3) rfl ?_
  refine nk_icmp (c := .ge) (off := 45) (len := 3) (t := 75) (pc' := 33) mJ_99 (by decide +kernel) (by decide +kernel) rfl (fun hc => ?_) (fun hc => ?_)
  · have hr := nk_ifp (c := r1 ≤ l5) hc hr
    refine nk_p (i := .iconst (-1)) (len := 1) (pc' := 76) mJ_99 (by decide +kernel) (ns_iconst (c := (-1)) (by decide +kernel)) rfl ?_
    cases hr
    exact nk_iret (ty := .int) (len := 1) mJ_99 (by decide +kernel) rfl (nk_nar_i _)
  · have hr := nk_ifn (c := r1 ≤ l5) hc hr
    refine nk_p (i := .aload_n 0) (len := 1) (pc' := 34) mJ_99 (by decide +kernel) (ns_aload_n 0 rfl rfl) rfl ?_
    refine nk_p (i := .iload_n 2) (len := 1) (pc' := 35) mJ_99 (by decide +kernel) (ns_iload_n 2 rfl rfl) rfl ?_
    refine nk_p (i := .iload_n 3) (len := 1) (pc' := 36) mJ_99 (by decide +kernel) (ns_iload_n 3 rfl rfl) rfl ?_
    refine nk_p (i := .aload_n 0) (len := 1) (pc' := 37) mJ_99 (by decide +kernel) (ns_aload_n 0 rfl rfl) rfl ?_
    refine nk_getC (f := (4, 1, 16002)) (x := 26) (len := 3) (ci := 13) (k := 8) (pc' := 40) ja_okT mJ_99 (by decide +kernel) (by decide +kernel) (by decide +kernel) (by decide) t_l0 rfl ?_
    have t4 : nk_ar ja_Tt (ja_c l0 8) = some (1, 16002) := nk_ta ja_okT t_l0 (by decide +kernel)
    refine nk_p (i := .aload_n 0) (len := 1) (pc' := 41) mJ_99 (by decide +kernel) (ns_aload_n 0 rfl rfl) rfl ?_
    refine nk_getC (f := (4, 1, 32)) (x := 37) (len := 3) (ci := 13) (k := 13) (pc' := 44) ja_okT mJ_99 (by decide +kernel) (by decide +kernel) (by decide +kernel) (by decide) t_l0 rfl ?_
    have t5 : nk_ar ja_Tt (ja_c l0 13) = some (1, 32) := nk_ta ja_okT t_l0 (by decide +kernel)
    refine nk_p (i := .iload 5) (len := 2) (pc' := 46) mJ_99 (by decide +kernel) (ns_iload 4 rfl) rfl ?_
    obtain ⟨h6, hr⟩ := nk_cke hr
    refine nk_iald (len := 1) (N := 32) (pc' := 47) mJ_99 (by decide +kernel) t5 h6.1 h6.2 rfl rfl ?_
    obtain ⟨h7, hr⟩ := nk_cke hr
    refine nk_iald (len := 1) (N := 16002) (pc' := 48) mJ_99 (by decide +kernel) t4 h7.1 h7.2 rfl rfl ?_
    refine nk_p (i := .aload_n 0) (len := 1) (pc' := 49) mJ_99 (by decide +kernel) (ns_aload_n 0 rfl rfl) rfl ?_
    refine nk_getC (f := (4, 1, 16002)) (x := 30) (len := 3) (ci := 13) (k := 9) (pc' := 52) ja_okT mJ_99 (by decide +kernel) (by decide +kernel) (by decide +kernel) (by decide) t_l0 rfl ?_
    have t8 : nk_ar ja_Tt (ja_c l0 9) = some (1, 16002) := nk_ta ja_okT t_l0 (by decide +kernel)
    refine nk_p (i := .aload_n 0) (len := 1) (pc' := 53) mJ_99 (by decide +kernel) (ns_aload_n 0 rfl rfl) rfl ?_
    refine nk_getC (f := (4, 1, 32)) (x := 37) (len := 3) (ci := 13) (k := 13) (pc' := 56) ja_okT mJ_99 (by decide +kernel) (by decide +kernel) (by decide +kernel) (by decide) t_l0 rfl ?_
    refine nk_p (i := .iload 5) (len := 2) (pc' := 58) mJ_99 (by decide +kernel) (ns_iload 4 rfl) rfl ?_
    refine nk_iald (len := 1) (N := 32) (pc' := 59) mJ_99 (by decide +kernel) t5 h6.1 h6.2 rfl rfl ?_
    refine nk_iald (len := 1) (N := 16002) (pc' := 60) mJ_99 (by decide +kernel) t8 h7.1 h7.2 rfl rfl ?_
    obtain ⟨r9, S10, h11, hr⟩ := nk_bde hr
    refine nk_callV (ci := 13) (n := 4) (x := 167) (len := 3) (j' := 159) (q' := 1) (r := r9) (S' := S10) (L2 := [(0, nk_r l0), (1, nk_i l2), (2, nk_i l3), (3, nk_i (S2.1 (ja_c l0 8) (S2.1 (ja_c l0 13) l5.toNat).toNat)), (4, nk_i (S2.1 (ja_c l0 9) (S2.1 (ja_c l0 13) l5.toNat).toNat))]) (rest := []) (st' := [nk_i r9]) (pc' := 63) mJ_99 (by decide +kernel) (by decide +kernel) rfl rfl t_l0 (Nat.le_of_ble_eq_true rfl) mJ_159 (Nat.le_of_ble_eq_true rfl) rfl (ja_X13_isSame_ok zs _ _ _ _ _ _ _ t_l0 h11) rfl ?_
    refine nk_icond (c := .eq) (off := 6) (len := 3) (t := 69) (pc' := 66) mJ_99 (by decide +kernel) (by decide +kernel) rfl (fun hc => ?_) (fun hc => ?_)
    · have hr := nk_ifp (c := r9 = 0) hc hr
      obtain ⟨v12, h13, hr⟩ := nk_lte hr
      refine nk_p (i := .iinc 5 1) (len := 3) (pc' := 72) mJ_99 (by decide +kernel) (ns_iinc (c := 1) (L' := [(5, nk_i v12), (0, nk_r l0), (1, nk_r l1), (2, nk_i l2), (3, nk_i l3)]) 4 rfl (by decide +kernel) h13 rfl (by decide +kernel)) rfl ?_
      refine nk_p (i := .goto (-49)) (len := 3) (pc' := 23) mJ_99 (by decide +kernel) (ns_goto (by decide +kernel)) rfl ?_
      refine nk_sub [1, 2, 3, 4, 0] (L' := [(0, nk_r l0), (1, nk_r l1), (2, nk_i l2), (3, nk_i l3), (5, nk_i v12)]) rfl ?_
      exact hrec23 _ _ _ _ _ _ _ t_l0 t_l1 hr
    · have hr := nk_ifn (c := r9 = 0) hc hr
      refine nk_p (i := .iload 5) (len := 2) (pc' := 68) mJ_99 (by decide +kernel) (ns_iload 4 rfl) rfl ?_
      cases hr
      exact nk_iret (ty := .int) (len := 1) mJ_99 (by decide +kernel) rfl (nk_nar_i _)
noncomputable def ja_X13_classOf_L23 : Nat → Nat → Nat → Int → Int → Int → nk_S → Option (Int × nk_S)
  | 0, _, _, _, _, _, _ => none
  | n + 1, l0, l1, l2, l3, l5, S => ja_X13_classOf_b23 (ja_X13_classOf_L23 n) l0 l1 l2 l3 l5 S
theorem ja_X13_classOf_L23_ok (zs : List Int32) : ∀ n : Nat, ∀ (l0 : Nat) (l1 : Nat) (l2 : Int) (l3 : Int) (l5 : Int) (S : nk_S) (R : Int × nk_S), nk_cl ja_Tt l0 = some 13 → nk_cl ja_Tt l1 = some 12 → ja_X13_classOf_L23 n l0 l1 l2 l3 l5 S = some R → nk_K ja_Tt mi_Γ (mi_ev zs) 1 99 23 [(0, nk_r l0), (1, nk_r l1), (2, nk_i l2), (3, nk_i l3), (5, nk_i l5)] [] S R := by
  intro n
  induction n with
  | zero => intro _ _ _ _ _ _ _ _ _ hr; cases hr
  | succ n ih => intro l0 l1 l2 l3 l5 S R t_l0 t_l1 hr; exact ja_X13_classOf_b23_ok zs ih l0 l1 l2 l3 l5 S R t_l0 t_l1 hr
noncomputable def ja_X13_classOf (l0 : Nat) (l1 : Nat) (l2 : Int) (l3 : Int) (S : nk_S) : Option (Int × nk_S) :=
  nk_bd (ja_X13_among l0 l2 l3 37 S) fun r1 S2 =>
  if r1 < 0 then
    ja_X13_classOf_L23 nk_big l0 l1 l2 l3 8 S2
  else
    some (r1, S2)
theorem ja_X13_classOf_ok (zs : List Int32) : ∀ (l0 : Nat) (l1 : Nat) (l2 : Int) (l3 : Int) (S : nk_S) (R : Int × nk_S), nk_cl ja_Tt l0 = some 13 → nk_cl ja_Tt l1 = some 12 → ja_X13_classOf l0 l1 l2 l3 S = some R → nk_K ja_Tt mi_Γ (mi_ev zs) 1 99 0 [(0, nk_r l0), (1, nk_r l1), (2, nk_i l2), (3, nk_i l3)] [] S R := by
  intro l0 l1 l2 l3 S R t_l0 t_l1 hr
  unfold ja_X13_classOf at hr
  refine nk_p (i := .aload_n 0) (len := 1) (pc' := 1) mJ_99 (by decide +kernel) (ns_aload_n 0 rfl rfl) rfl ?_
  refine nk_p (i := .iload_n 2) (len := 1) (pc' := 2) mJ_99 (by decide +kernel) (ns_iload_n 2 rfl rfl) rfl ?_
  refine nk_p (i := .iload_n 3) (len := 1) (pc' := 3) mJ_99 (by decide +kernel) (ns_iload_n 3 rfl rfl) rfl ?_
  refine nk_ldwt (x := 270) (len := 3) (k := 37) (s := " Object Error NullError IndexError SizeError DivideError CastError StoreError ") (pc' := 6) mJ_99 (by decide +kernel) (by decide +kernel) (by decide +kernel) rfl ?_
  obtain ⟨r1, S2, h3, hr⟩ := nk_bde hr
  refine nk_callV (ci := 13) (n := 3) (x := 248) (len := 3) (j' := 83) (q' := 1) (r := r1) (S' := S2) (L2 := [(0, nk_r l0), (1, nk_i l2), (2, nk_i l3), (3, nk_o 37)]) (rest := []) (st' := [nk_i r1]) (pc' := 9) mJ_99 (by decide +kernel) (by decide +kernel) rfl rfl t_l0 (Nat.le_of_ble_eq_true rfl) mJ_83 (Nat.le_of_ble_eq_true rfl) rfl (ja_X13_among_ok zs _ _ _ _ _ _ t_l0 (ja_tx37 zs) h3) rfl ?_
  refine nk_p (i := .istore 4) (len := 2) (pc' := 11) mJ_99 (by decide +kernel) (ns_istore (L' := [(4, nk_i r1), (0, nk_r l0), (1, nk_r l1), (2, nk_i l2), (3, nk_i l3)]) rfl rfl (by decide +kernel)) rfl ?_
  refine nk_p (i := .iload 4) (len := 2) (pc' := 13) mJ_99 (by decide +kernel) (ns_iload 0 rfl) rfl ?_
  refine nk_icond (c := .lt) (off := 6) (len := 3) (t := 19) (pc' := 16) mJ_99 (by decide +kernel) (by decide +kernel) rfl (fun hc => ?_) (fun hc => ?_)
  · have hr := nk_ifp (c := r1 < 0) hc hr
    refine nk_p (i := .bipush 8) (len := 2) (pc' := 21) mJ_99 (by decide +kernel) (ns_bipush (c := 8) (by decide +kernel)) rfl ?_
    refine nk_p (i := .istore 5) (len := 2) (pc' := 23) mJ_99 (by decide +kernel) (ns_istore (L' := [(5, nk_i 8), (4, nk_i r1), (0, nk_r l0), (1, nk_r l1), (2, nk_i l2), (3, nk_i l3)]) rfl rfl (by decide +kernel)) rfl ?_
    refine nk_sub [2, 3, 4, 5, 0] (L' := [(0, nk_r l0), (1, nk_r l1), (2, nk_i l2), (3, nk_i l3), (5, nk_i 8)]) rfl ?_
    exact ja_X13_classOf_L23_ok zs nk_big _ _ _ _ _ _ _ t_l0 t_l1 hr
  · have hr := nk_ifn (c := r1 < 0) hc hr
    refine nk_p (i := .iload 4) (len := 2) (pc' := 18) mJ_99 (by decide +kernel) (ns_iload 0 rfl) rfl ?_
    cases hr
    exact nk_iret (ty := .int) (len := 1) mJ_99 (by decide +kernel) rfl (nk_nar_i _)
/-! SafeCodeModel typeOf (LSafeCodeModel$Program;I)I -/
noncomputable def ja_X13_typeOf_b27 (l0 : Nat) (l1 : Nat) (l2 : Int) (l3 : Int) (s0 : Int) (S : nk_S) : Option (Int × nk_S) :=
  if 0 ≤ l2 ∧ l2 < 16002 then
  if 0 ≤ (S.1 (ja_c l0 8) l2.toNat) ∧ (S.1 (ja_c l0 8) l2.toNat) < 16000 then
  if (S.1 (ja_c l0 6) (S.1 (ja_c l0 8) l2.toNat).toNat) = 105 then
    if l3 = 0 then
      some (0, S)
    else
      some (40, S)
  else
    nk_bd (ja_X13_classOf l0 l1 (S.1 (ja_c l0 8) l2.toNat) s0 S) fun r5 S6 =>
    if 0 ≤ r5 then
      if l3 = 0 then
        some ((nk_w (8 + r5)), S6)
      else
        some ((nk_w (48 + r5)), S6)
    else
      some ((-1), S6)
  else none
  else none
theorem ja_X13_typeOf_b27_ok (zs : List Int32) : ∀ (l0 : Nat) (l1 : Nat) (l2 : Int) (l3 : Int) (s0 : Int) (S : nk_S) (R : Int × nk_S), nk_cl ja_Tt l0 = some 13 → nk_cl ja_Tt l1 = some 12 → ja_X13_typeOf_b27 l0 l1 l2 l3 s0 S = some R → nk_K ja_Tt mi_Γ (mi_ev zs) 1 236 27 [(0, nk_r l0), (1, nk_r l1), (2, nk_i l2), (3, nk_i l3)] [nk_i s0] S R := by
  intro l0 l1 l2 l3 s0 S R t_l0 t_l1 hr
  unfold ja_X13_typeOf_b27 at hr
  refine nk_p (i := .istore 4) (len := 2) (pc' := 29) mJ_236 (by decide +kernel) (ns_istore (L' := [(4, nk_i s0), (0, nk_r l0), (1, nk_r l1), (2, nk_i l2), (3, nk_i l3)]) rfl rfl (by decide +kernel)) rfl ?_
  refine nk_p (i := .aload_n 0) (len := 1) (pc' := 30) mJ_236 (by decide +kernel) (ns_aload_n 1 rfl rfl) rfl ?_
  refine nk_getC (f := (4, 0, 16000)) (x := 23) (len := 3) (ci := 13) (k := 6) (pc' := 33) ja_okT mJ_236 (by decide +kernel) (by decide +kernel) (by decide +kernel) (by decide) t_l0 rfl ?_
  have t1 : nk_ar ja_Tt (ja_c l0 6) = some (0, 16000) := nk_ta ja_okT t_l0 (by decide +kernel)
  refine nk_p (i := .aload_n 0) (len := 1) (pc' := 34) mJ_236 (by decide +kernel) (ns_aload_n 1 rfl rfl) rfl ?_
  refine nk_getC (f := (4, 1, 16002)) (x := 26) (len := 3) (ci := 13) (k := 8) (pc' := 37) ja_okT mJ_236 (by decide +kernel) (by decide +kernel) (by decide +kernel) (by decide) t_l0 rfl ?_
  have t2 : nk_ar ja_Tt (ja_c l0 8) = some (1, 16002) := nk_ta ja_okT t_l0 (by decide +kernel)
  refine nk_p (i := .iload_n 2) (len := 1) (pc' := 38) mJ_236 (by decide +kernel) (ns_iload_n 3 rfl rfl) rfl ?_
  obtain ⟨h3, hr⟩ := nk_cke hr
  refine nk_iald (len := 1) (N := 16002) (pc' := 39) mJ_236 (by decide +kernel) t2 h3.1 h3.2 rfl rfl ?_
  obtain ⟨h4, hr⟩ := nk_cke hr
  refine nk_bald (t := 0) (len := 1) (N := 16000) (pc' := 40) mJ_236 (by decide +kernel) t1 (by decide) h4.1 h4.2 rfl rfl ?_
  refine nk_p (i := .bipush 105) (len := 2) (pc' := 42) mJ_236 (by decide +kernel) (ns_bipush (c := 105) (by decide +kernel)) rfl ?_
  refine nk_icmp (c := .ne) (off := 14) (len := 3) (t := 56) (pc' := 45) mJ_236 (by decide +kernel) (by decide +kernel) rfl (fun hc => ?_) (fun hc => ?_)
  · have hr := nk_ifn (c := (S.1 (ja_c l0 6) (S.1 (ja_c l0 8) l2.toNat).toNat) = 105) hc hr
    refine nk_p (i := .aload_n 0) (len := 1) (pc' := 57) mJ_236 (by decide +kernel) (ns_aload_n 1 rfl rfl) rfl ?_
    refine nk_p (i := .aload_n 1) (len := 1) (pc' := 58) mJ_236 (by decide +kernel) (ns_aload_n 2 rfl rfl) rfl ?_
    refine nk_p (i := .aload_n 0) (len := 1) (pc' := 59) mJ_236 (by decide +kernel) (ns_aload_n 1 rfl rfl) rfl ?_
    refine nk_getC (f := (4, 1, 16002)) (x := 26) (len := 3) (ci := 13) (k := 8) (pc' := 62) ja_okT mJ_236 (by decide +kernel) (by decide +kernel) (by decide +kernel) (by decide) t_l0 rfl ?_
    refine nk_p (i := .iload_n 2) (len := 1) (pc' := 63) mJ_236 (by decide +kernel) (ns_iload_n 3 rfl rfl) rfl ?_
    refine nk_iald (len := 1) (N := 16002) (pc' := 64) mJ_236 (by decide +kernel) t2 h3.1 h3.2 rfl rfl ?_
    refine nk_p (i := .iload 4) (len := 2) (pc' := 66) mJ_236 (by decide +kernel) (ns_iload 0 rfl) rfl ?_
    obtain ⟨r5, S6, h7, hr⟩ := nk_bde hr
    refine nk_callV (ci := 13) (n := 3) (x := 276) (len := 3) (j' := 99) (q' := 1) (r := r5) (S' := S6) (L2 := [(0, nk_r l0), (1, nk_r l1), (2, nk_i (S.1 (ja_c l0 8) l2.toNat)), (3, nk_i s0)]) (rest := []) (st' := [nk_i r5]) (pc' := 69) mJ_236 (by decide +kernel) (by decide +kernel) rfl rfl t_l0 (Nat.le_of_ble_eq_true rfl) mJ_99 (Nat.le_of_ble_eq_true rfl) rfl (ja_X13_classOf_ok zs _ _ _ _ _ _ t_l0 t_l1 h7) rfl ?_
    refine nk_p (i := .istore 5) (len := 2) (pc' := 71) mJ_236 (by decide +kernel) (ns_istore (L' := [(5, nk_i r5), (4, nk_i s0), (0, nk_r l0), (1, nk_r l1), (2, nk_i l2), (3, nk_i l3)]) rfl rfl (by decide +kernel)) rfl ?_
    refine nk_p (i := .iload 5) (len := 2) (pc' := 73) mJ_236 (by decide +kernel) (ns_iload 0 rfl) rfl ?_
    refine nk_icond (c := .ge) (off := 7) (len := 3) (t := 80) (pc' := 76) mJ_236 (by decide +kernel) (by decide +kernel) rfl (fun hc => ?_) (fun hc => ?_)
    · have hr := nk_ifp (c := 0 ≤ r5) hc hr
      refine nk_p (i := .iload_n 3) (len := 1) (pc' := 81) mJ_236 (by decide +kernel) (ns_iload_n 5 rfl rfl) rfl ?_
      refine nk_icond (c := .eq) (off := 11) (len := 3) (t := 92) (pc' := 84) mJ_236 (by decide +kernel) (by decide +kernel) rfl (fun hc => ?_) (fun hc => ?_)
      · have hr := nk_ifp (c := l3 = 0) hc hr
        refine nk_p (i := .bipush 8) (len := 2) (pc' := 94) mJ_236 (by decide +kernel) (ns_bipush (c := 8) (by decide +kernel)) rfl ?_
        refine nk_p (i := .iload 5) (len := 2) (pc' := 96) mJ_236 (by decide +kernel) (ns_iload 0 rfl) rfl ?_
        refine nk_p (i := .iadd) (len := 1) (pc' := 97) mJ_236 (by decide +kernel) ns_iadd rfl ?_
        cases hr
        exact nk_iret (ty := .int) (len := 1) mJ_236 (by decide +kernel) rfl (nk_nar_i _)
      · have hr := nk_ifn (c := l3 = 0) hc hr
        refine nk_p (i := .bipush 48) (len := 2) (pc' := 86) mJ_236 (by decide +kernel) (ns_bipush (c := 48) (by decide +kernel)) rfl ?_
        refine nk_p (i := .iload 5) (len := 2) (pc' := 88) mJ_236 (by decide +kernel) (ns_iload 0 rfl) rfl ?_
        refine nk_p (i := .iadd) (len := 1) (pc' := 89) mJ_236 (by decide +kernel) ns_iadd rfl ?_
        refine nk_p (i := .goto 8) (len := 3) (pc' := 97) mJ_236 (by decide +kernel) (ns_goto (by decide +kernel)) rfl ?_
        cases hr
        exact nk_iret (ty := .int) (len := 1) mJ_236 (by decide +kernel) rfl (nk_nar_i _)
    · have hr := nk_ifn (c := 0 ≤ r5) hc hr
      refine nk_p (i := .iconst (-1)) (len := 1) (pc' := 77) mJ_236 (by decide +kernel) (ns_iconst (c := (-1)) (by decide +kernel)) rfl ?_
      refine nk_p (i := .goto 20) (len := 3) (pc' := 97) mJ_236 (by decide +kernel) (ns_goto (by decide +kernel)) rfl ?_
      cases hr
      exact nk_iret (ty := .int) (len := 1) mJ_236 (by decide +kernel) rfl (nk_nar_i _)
  · have hr := nk_ifp (c := (S.1 (ja_c l0 6) (S.1 (ja_c l0 8) l2.toNat).toNat) = 105) (Decidable.of_not_not hc) hr
    refine nk_p (i := .iload_n 3) (len := 1) (pc' := 46) mJ_236 (by decide +kernel) (ns_iload_n 4 rfl rfl) rfl ?_
    refine nk_icond (c := .eq) (off := 8) (len := 3) (t := 54) (pc' := 49) mJ_236 (by decide +kernel) (by decide +kernel) rfl (fun hc => ?_) (fun hc => ?_)
    · have hr := nk_ifp (c := l3 = 0) hc hr
      refine nk_p (i := .iconst 0) (len := 1) (pc' := 55) mJ_236 (by decide +kernel) (ns_iconst (c := 0) (by decide +kernel)) rfl ?_
      cases hr
      exact nk_iret (ty := .int) (len := 1) mJ_236 (by decide +kernel) rfl (nk_nar_i _)
    · have hr := nk_ifn (c := l3 = 0) hc hr
      refine nk_p (i := .bipush 40) (len := 2) (pc' := 51) mJ_236 (by decide +kernel) (ns_bipush (c := 40) (by decide +kernel)) rfl ?_
      refine nk_p (i := .goto 4) (len := 3) (pc' := 55) mJ_236 (by decide +kernel) (ns_goto (by decide +kernel)) rfl ?_
      cases hr
      exact nk_iret (ty := .int) (len := 1) mJ_236 (by decide +kernel) rfl (nk_nar_i _)
noncomputable def ja_X13_typeOf (l0 : Nat) (l1 : Nat) (l2 : Int) (S : nk_S) : Option (Int × nk_S) :=
  nk_bd (ja_X13_isArray l0 l2 S) fun r1 S2 =>
  if r1 = 0 then
    if 0 ≤ l2 ∧ l2 < 16002 then
    ja_X13_typeOf_b27 l0 l1 l2 r1 (S2.1 (ja_c l0 9) l2.toNat) S2
    else none
  else
    if 0 ≤ l2 ∧ l2 < 16002 then
    ja_X13_typeOf_b27 l0 l1 l2 r1 (nk_w ((S2.1 (ja_c l0 9) l2.toNat) - 2)) S2
    else none
theorem ja_X13_typeOf_ok (zs : List Int32) : ∀ (l0 : Nat) (l1 : Nat) (l2 : Int) (S : nk_S) (R : Int × nk_S), nk_cl ja_Tt l0 = some 13 → nk_cl ja_Tt l1 = some 12 → ja_X13_typeOf l0 l1 l2 S = some R → nk_K ja_Tt mi_Γ (mi_ev zs) 1 236 0 [(0, nk_r l0), (1, nk_r l1), (2, nk_i l2)] [] S R := by
  intro l0 l1 l2 S R t_l0 t_l1 hr
  unfold ja_X13_typeOf at hr
  refine nk_p (i := .aload_n 0) (len := 1) (pc' := 1) mJ_236 (by decide +kernel) (ns_aload_n 0 rfl rfl) rfl ?_
  refine nk_p (i := .iload_n 2) (len := 1) (pc' := 2) mJ_236 (by decide +kernel) (ns_iload_n 2 rfl rfl) rfl ?_
  obtain ⟨r1, S2, h3, hr⟩ := nk_bde hr
  refine nk_callV (ci := 13) (n := 1) (x := 174) (len := 3) (j' := 139) (q' := 1) (r := r1) (S' := S2) (L2 := [(0, nk_r l0), (1, nk_i l2)]) (rest := []) (st' := [nk_i r1]) (pc' := 5) mJ_236 (by decide +kernel) (by decide +kernel) rfl rfl t_l0 (Nat.le_of_ble_eq_true rfl) mJ_139 (Nat.le_of_ble_eq_true rfl) rfl (ja_X13_isArray_ok zs _ _ _ _ t_l0 h3) rfl ?_
  refine nk_p (i := .istore_n 3) (len := 1) (pc' := 6) mJ_236 (by decide +kernel) (ns_istore_n (L' := [(3, nk_i r1), (0, nk_r l0), (1, nk_r l1), (2, nk_i l2)]) rfl rfl rfl (by decide +kernel)) rfl ?_
  refine nk_p (i := .iload_n 3) (len := 1) (pc' := 7) mJ_236 (by decide +kernel) (ns_iload_n 0 rfl rfl) rfl ?_
  refine nk_icond (c := .eq) (off := 14) (len := 3) (t := 21) (pc' := 10) mJ_236 (by decide +kernel) (by decide +kernel) rfl (fun hc => ?_) (fun hc => ?_)
  · have hr := nk_ifp (c := r1 = 0) hc hr
    refine nk_p (i := .aload_n 0) (len := 1) (pc' := 22) mJ_236 (by decide +kernel) (ns_aload_n 1 rfl rfl) rfl ?_
    refine nk_getC (f := (4, 1, 16002)) (x := 30) (len := 3) (ci := 13) (k := 9) (pc' := 25) ja_okT mJ_236 (by decide +kernel) (by decide +kernel) (by decide +kernel) (by decide) t_l0 rfl ?_
    have t4 : nk_ar ja_Tt (ja_c l0 9) = some (1, 16002) := nk_ta ja_okT t_l0 (by decide +kernel)
    refine nk_p (i := .iload_n 2) (len := 1) (pc' := 26) mJ_236 (by decide +kernel) (ns_iload_n 3 rfl rfl) rfl ?_
    obtain ⟨h5, hr⟩ := nk_cke hr
    refine nk_iald (len := 1) (N := 16002) (pc' := 27) mJ_236 (by decide +kernel) t4 h5.1 h5.2 rfl rfl ?_
    refine nk_sub [1, 2, 3, 0] (L' := [(0, nk_r l0), (1, nk_r l1), (2, nk_i l2), (3, nk_i r1)]) rfl ?_
    exact ja_X13_typeOf_b27_ok zs _ _ _ _ _ _ _ t_l0 t_l1 hr
  · have hr := nk_ifn (c := r1 = 0) hc hr
    refine nk_p (i := .aload_n 0) (len := 1) (pc' := 11) mJ_236 (by decide +kernel) (ns_aload_n 1 rfl rfl) rfl ?_
    refine nk_getC (f := (4, 1, 16002)) (x := 30) (len := 3) (ci := 13) (k := 9) (pc' := 14) ja_okT mJ_236 (by decide +kernel) (by decide +kernel) (by decide +kernel) (by decide) t_l0 rfl ?_
    have t6 : nk_ar ja_Tt (ja_c l0 9) = some (1, 16002) := nk_ta ja_okT t_l0 (by decide +kernel)
    refine nk_p (i := .iload_n 2) (len := 1) (pc' := 15) mJ_236 (by decide +kernel) (ns_iload_n 3 rfl rfl) rfl ?_
    obtain ⟨h7, hr⟩ := nk_cke hr
    refine nk_iald (len := 1) (N := 16002) (pc' := 16) mJ_236 (by decide +kernel) t6 h7.1 h7.2 rfl rfl ?_
    refine nk_p (i := .iconst 2) (len := 1) (pc' := 17) mJ_236 (by decide +kernel) (ns_iconst (c := 2) (by decide +kernel)) rfl ?_
    refine nk_p (i := .isub) (len := 1) (pc' := 18) mJ_236 (by decide +kernel) ns_isub rfl ?_
    refine nk_p (i := .goto 9) (len := 3) (pc' := 27) mJ_236 (by decide +kernel) (ns_goto (by decide +kernel)) rfl ?_
    refine nk_sub [1, 2, 3, 0] (L' := [(0, nk_r l0), (1, nk_r l1), (2, nk_i l2), (3, nk_i r1)]) rfl ?_
    exact ja_X13_typeOf_b27_ok zs _ _ _ _ _ _ _ t_l0 t_l1 hr
