/-! SafeCode$Machine isAsProved ()Z -/
noncomputable def ja_X2_isAsProved_b77 (rec50 : Nat → Int → Int → Int → nk_S → Option (Int × nk_S)) (l0 : Nat) (l1 : Int) (l2 : Int) (l3 : Int) (S : nk_S) : Option (Int × nk_S) :=
  if 0 ≤ (nk_w ((nk_w ((S.1 l0 5) * 20)) + l3)) ∧ (nk_w ((nk_w ((S.1 l0 5) * 20)) + l3)) < 1280 then
  nk_bd (ja_X2_isSlotAsProved l0 (nk_w ((nk_w (l1 * 20)) + l3)) (S.1 (ja_c l0 2) (nk_w ((nk_w ((S.1 l0 5) * 20)) + l3)).toNat) S) fun r3 S4 =>
  if r3 = 0 then
    some (0, S4)
  else
    nk_lt (nk_w (l3 + 1)) fun v6 =>
    rec50 l0 l1 l2 v6 S4
  else none
theorem ja_X2_isAsProved_b77_ok (zs : List Int32) {rec50 : Nat → Int → Int → Int → nk_S → Option (Int × nk_S)} (hrec50 : ∀ (l0 : Nat) (l1 : Int) (l2 : Int) (l3 : Int) (S : nk_S) (R : Int × nk_S), nk_cl ja_Tt l0 = some 2 → rec50 l0 l1 l2 l3 S = some R → nk_K ja_Tt mi_Γ (mi_ev zs) 1 275 50 [(0, nk_r l0), (1, nk_i l1), (2, nk_i l2), (3, nk_i l3)] [] S R) : ∀ (l0 : Nat) (l1 : Int) (l2 : Int) (l3 : Int) (S : nk_S) (R : Int × nk_S), nk_cl ja_Tt l0 = some 2 → ja_X2_isAsProved_b77 rec50 l0 l1 l2 l3 S = some R → nk_K ja_Tt mi_Γ (mi_ev zs) 1 275 77 [(0, nk_r l0), (1, nk_i l1), (2, nk_i l2), (3, nk_i l3)] [] S R := by
  intro l0 l1 l2 l3 S R t_l0 hr
  unfold ja_X2_isAsProved_b77 at hr
  refine nk_p (i := .aload_n 0) (len := 1) (pc' := 78) mJ_275 (by decide +kernel) (ns_aload_n 0 rfl rfl) rfl ?_
  refine nk_p (i := .iload_n 1) (len := 1) (pc' := 79) mJ_275 (by decide +kernel) (ns_iload_n 1 rfl rfl) rfl ?_
  refine nk_p (i := .bipush 20) (len := 2) (pc' := 81) mJ_275 (by decide +kernel) (ns_bipush (c := 20) (by decide +kernel)) rfl ?_
  refine nk_p (i := .imul) (len := 1) (pc' := 82) mJ_275 (by decide +kernel) ns_imul rfl ?_
  refine nk_p (i := .iload_n 3) (len := 1) (pc' := 83) mJ_275 (by decide +kernel) (ns_iload_n 3 rfl rfl) rfl ?_
  refine nk_p (i := .iadd) (len := 1) (pc' := 84) mJ_275 (by decide +kernel) ns_iadd rfl ?_
  refine nk_p (i := .aload_n 0) (len := 1) (pc' := 85) mJ_275 (by decide +kernel) (ns_aload_n 0 rfl rfl) rfl ?_
  refine nk_getC (f := (4, 2, 1280)) (x := 9) (len := 3) (ci := 2) (k := 2) (pc' := 88) ja_okT mJ_275 (by decide +kernel) (by decide +kernel) (by decide +kernel) (by decide) t_l0 rfl ?_
  have t1 : nk_ar ja_Tt (ja_c l0 2) = some (2, 1280) := nk_ta ja_okT t_l0 (by decide +kernel)
  refine nk_p (i := .aload_n 0) (len := 1) (pc' := 89) mJ_275 (by decide +kernel) (ns_aload_n 0 rfl rfl) rfl ?_
  refine nk_getI (y := (0, 0)) (x := 52) (len := 3) (ci := 2) (k := 5) (pc' := 92) ja_okT mJ_275 (by decide +kernel) (by decide +kernel) (by decide +kernel) t_l0 rfl ?_
  refine nk_p (i := .bipush 20) (len := 2) (pc' := 94) mJ_275 (by decide +kernel) (ns_bipush (c := 20) (by decide +kernel)) rfl ?_
  refine nk_p (i := .imul) (len := 1) (pc' := 95) mJ_275 (by decide +kernel) ns_imul rfl ?_
  refine nk_p (i := .iload_n 3) (len := 1) (pc' := 96) mJ_275 (by decide +kernel) (ns_iload_n 3 rfl rfl) rfl ?_
  refine nk_p (i := .iadd) (len := 1) (pc' := 97) mJ_275 (by decide +kernel) ns_iadd rfl ?_
  obtain ⟨h2, hr⟩ := nk_cke hr
  refine nk_lald (len := 1) (N := 1280) (pc' := 98) mJ_275 (by decide +kernel) t1 h2.1 h2.2 rfl rfl ?_
  obtain ⟨r3, S4, h5, hr⟩ := nk_bde hr
  refine nk_callV (ci := 2) (n := 2) (x := 288) (len := 3) (j' := 276) (q' := 1) (r := r3) (S' := S4) (L2 := [(0, nk_r l0), (1, nk_i (nk_w ((nk_w (l1 * 20)) + l3))), (2, nk_l (S.1 (ja_c l0 2) (nk_w ((nk_w ((S.1 l0 5) * 20)) + l3)).toNat))]) (rest := []) (st' := [nk_i r3]) (pc' := 101) mJ_275 (by decide +kernel) (by decide +kernel) rfl rfl t_l0 (Nat.le_of_ble_eq_true rfl) mJ_276 (Nat.le_of_ble_eq_true rfl) rfl (ja_X2_isSlotAsProved_ok zs _ _ _ _ _ t_l0 h5) rfl ?_
  refine nk_icond (c := .ne) (off := 5) (len := 3) (t := 106) (pc' := 104) mJ_275 (by decide +kernel) (by decide +kernel) rfl (fun hc => ?_) (fun hc => ?_)
  · have hr := nk_ifn (c := r3 = 0) hc hr
    obtain ⟨v6, h7, hr⟩ := nk_lte hr
    refine nk_p (i := .iinc 3 1) (len := 3) (pc' := 109) mJ_275 (by decide +kernel) (ns_iinc (c := 1) (L' := [(3, nk_i v6), (0, nk_r l0), (1, nk_i l1), (2, nk_i l2)]) 3 rfl (by decide +kernel) h7 rfl (by decide +kernel)) rfl ?_
    refine nk_p (i := .goto (-59)) (len := 3) (pc' := 50) mJ_275 (by decide +kernel) (ns_goto (by decide +kernel)) rfl ?_
    refine nk_sub [1, 2, 3, 0] (L' := [(0, nk_r l0), (1, nk_i l1), (2, nk_i l2), (3, nk_i v6)]) rfl ?_
    exact hrec50 _ _ _ _ _ _ t_l0 hr
  · have hr := nk_ifp (c := r3 = 0) (Decidable.of_not_not hc) hr
    refine nk_p (i := .iconst 0) (len := 1) (pc' := 105) mJ_275 (by decide +kernel) (ns_iconst (c := 0) (by decide +kernel)) rfl ?_
    cases hr
    exact nk_iret (ty := .boolean) (len := 1) mJ_275 (by decide +kernel) rfl (nk_nar_z (by decide))
noncomputable def ja_X2_isAsProved_b50 (rec50 : Nat → Int → Int → Int → nk_S → Option (Int × nk_S)) (l0 : Nat) (l1 : Int) (l2 : Int) (l3 : Int) (S : nk_S) : Option (Int × nk_S) :=
  if 0 ≤ (S.1 l0 5) ∧ (S.1 l0 5) < 64 then
  if (nk_w (12 + (S.1 (ja_c l0 4) (S.1 l0 5).toNat))) ≤ l3 then
    some (1, S)
  else
    if l3 < l2 then
      ja_X2_isAsProved_b77 rec50 l0 l1 l2 l3 S
    else
      if l3 < 12 then
        nk_lt (nk_w (l3 + 1)) fun v3 =>
        rec50 l0 l1 l2 v3 S
      else
        ja_X2_isAsProved_b77 rec50 l0 l1 l2 l3 S
  else none
theorem ja_X2_isAsProved_b50_ok (zs : List Int32) {rec50 : Nat → Int → Int → Int → nk_S → Option (Int × nk_S)} (hrec50 : ∀ (l0 : Nat) (l1 : Int) (l2 : Int) (l3 : Int) (S : nk_S) (R : Int × nk_S), nk_cl ja_Tt l0 = some 2 → rec50 l0 l1 l2 l3 S = some R → nk_K ja_Tt mi_Γ (mi_ev zs) 1 275 50 [(0, nk_r l0), (1, nk_i l1), (2, nk_i l2), (3, nk_i l3)] [] S R) : ∀ (l0 : Nat) (l1 : Int) (l2 : Int) (l3 : Int) (S : nk_S) (R : Int × nk_S), nk_cl ja_Tt l0 = some 2 → ja_X2_isAsProved_b50 rec50 l0 l1 l2 l3 S = some R → nk_K ja_Tt mi_Γ (mi_ev zs) 1 275 50 [(0, nk_r l0), (1, nk_i l1), (2, nk_i l2), (3, nk_i l3)] [] S R := by
  intro l0 l1 l2 l3 S R t_l0 hr
  unfold ja_X2_isAsProved_b50 at hr
  refine nk_p (i := .iload_n 3) (len := 1) (pc' := 51) mJ_275 (by decide +kernel) (ns_iload_n 3 rfl rfl) rfl ?_
  refine nk_p (i := .bipush 12) (len := 2) (pc' := 53) mJ_275 (by decide +kernel) (ns_bipush (c := 12) (by decide +kernel)) rfl ?_
  refine nk_p (i := .aload_n 0) (len := 1) (pc' := 54) mJ_275 (by decide +kernel) (ns_aload_n 0 rfl rfl) rfl ?_
  refine nk_getC (f := (4, 1, 64)) (x := 19) (len := 3) (ci := 2) (k := 4) (pc' := 57) ja_okT mJ_275 (by decide +kernel) (by decide +kernel) (by decide +kernel) (by decide) t_l0 rfl ?_
  have t1 : nk_ar ja_Tt (ja_c l0 4) = some (1, 64) := nk_ta ja_okT t_l0 (by decide +kernel)
  refine nk_p (i := .aload_n 0) (len := 1) (pc' := 58) mJ_275 (by decide +kernel) (ns_aload_n 0 rfl rfl) rfl ?_
  refine nk_getI (y := (0, 0)) (x := 52) (len := 3) (ci := 2) (k := 5) (pc' := 61) ja_okT mJ_275 (by decide +kernel) (by decide +kernel) (by decide +kernel) t_l0 rfl ?_
  obtain ⟨h2, hr⟩ := nk_cke hr
  refine nk_iald (len := 1) (N := 64) (pc' := 62) mJ_275 (by decide +kernel) t1 h2.1 h2.2 rfl rfl ?_
  refine nk_p (i := .iadd) (len := 1) (pc' := 63) mJ_275 (by decide +kernel) ns_iadd rfl ?_
  refine nk_icmp (c := .ge) (off := 49) (len := 3) (t := 112) (pc' := 66) mJ_275 (by decide +kernel) (by decide +kernel) rfl (fun hc => ?_) (fun hc => ?_)
  · have hr := nk_ifp (c := (nk_w (12 + (S.1 (ja_c l0 4) (S.1 l0 5).toNat))) ≤ l3) hc hr
    refine nk_p (i := .iconst 1) (len := 1) (pc' := 113) mJ_275 (by decide +kernel) (ns_iconst (c := 1) (by decide +kernel)) rfl ?_
    cases hr
    exact nk_iret (ty := .boolean) (len := 1) mJ_275 (by decide +kernel) rfl (nk_nar_z (by decide))
  · have hr := nk_ifn (c := (nk_w (12 + (S.1 (ja_c l0 4) (S.1 l0 5).toNat))) ≤ l3) hc hr
    refine nk_p (i := .iload_n 3) (len := 1) (pc' := 67) mJ_275 (by decide +kernel) (ns_iload_n 3 rfl rfl) rfl ?_
    refine nk_p (i := .iload_n 2) (len := 1) (pc' := 68) mJ_275 (by decide +kernel) (ns_iload_n 2 rfl rfl) rfl ?_
    refine nk_icmp (c := .lt) (off := 9) (len := 3) (t := 77) (pc' := 71) mJ_275 (by decide +kernel) (by decide +kernel) rfl (fun hc => ?_) (fun hc => ?_)
    · have hr := nk_ifp (c := l3 < l2) hc hr
      exact ja_X2_isAsProved_b77_ok zs hrec50 _ _ _ _ _ _ t_l0 hr
    · have hr := nk_ifn (c := l3 < l2) hc hr
      refine nk_p (i := .iload_n 3) (len := 1) (pc' := 72) mJ_275 (by decide +kernel) (ns_iload_n 3 rfl rfl) rfl ?_
      refine nk_p (i := .bipush 12) (len := 2) (pc' := 74) mJ_275 (by decide +kernel) (ns_bipush (c := 12) (by decide +kernel)) rfl ?_
      refine nk_icmp (c := .lt) (off := 32) (len := 3) (t := 106) (pc' := 77) mJ_275 (by decide +kernel) (by decide +kernel) rfl (fun hc => ?_) (fun hc => ?_)
      · have hr := nk_ifp (c := l3 < 12) hc hr
        obtain ⟨v3, h4, hr⟩ := nk_lte hr
        refine nk_p (i := .iinc 3 1) (len := 3) (pc' := 109) mJ_275 (by decide +kernel) (ns_iinc (c := 1) (L' := [(3, nk_i v3), (0, nk_r l0), (1, nk_i l1), (2, nk_i l2)]) 3 rfl (by decide +kernel) h4 rfl (by decide +kernel)) rfl ?_
        refine nk_p (i := .goto (-59)) (len := 3) (pc' := 50) mJ_275 (by decide +kernel) (ns_goto (by decide +kernel)) rfl ?_
        refine nk_sub [1, 2, 3, 0] (L' := [(0, nk_r l0), (1, nk_i l1), (2, nk_i l2), (3, nk_i v3)]) rfl ?_
        exact hrec50 _ _ _ _ _ _ t_l0 hr
      · have hr := nk_ifn (c := l3 < 12) hc hr
        exact ja_X2_isAsProved_b77_ok zs hrec50 _ _ _ _ _ _ t_l0 hr
noncomputable def ja_X2_isAsProved_L50 : Nat → Nat → Int → Int → Int → nk_S → Option (Int × nk_S)
  | 0, _, _, _, _, _ => none
  | n + 1, l0, l1, l2, l3, S => ja_X2_isAsProved_b50 (ja_X2_isAsProved_L50 n) l0 l1 l2 l3 S
theorem ja_X2_isAsProved_L50_ok (zs : List Int32) : ∀ n : Nat, ∀ (l0 : Nat) (l1 : Int) (l2 : Int) (l3 : Int) (S : nk_S) (R : Int × nk_S), nk_cl ja_Tt l0 = some 2 → ja_X2_isAsProved_L50 n l0 l1 l2 l3 S = some R → nk_K ja_Tt mi_Γ (mi_ev zs) 1 275 50 [(0, nk_r l0), (1, nk_i l1), (2, nk_i l2), (3, nk_i l3)] [] S R := by
  intro n
  induction n with
  | zero => intro _ _ _ _ _ _ _ hr; cases hr
  | succ n ih => intro l0 l1 l2 l3 S R t_l0 hr; exact ja_X2_isAsProved_b50_ok zs ih l0 l1 l2 l3 S R t_l0 hr
noncomputable def ja_X2_isAsProved (l0 : Nat) (S : nk_S) : Option (Int × nk_S) :=
  if 0 ≤ (S.1 l0 5) ∧ (S.1 l0 5) < 64 then
  nk_lt (S.1 (ja_c l0 3) (S.1 l0 5).toNat) fun v3 =>
  if 0 ≤ v3 ∧ v3 < 1024 then
  if (S.1 (ja_c (ja_c (ja_c l0 0) 2) 2) v3.toNat) = 0 then
    some (0, S)
  else
    if 0 ≤ (S.1 (ja_c (S.2 l0 1) 8) v3.toNat) ∧ (S.1 (ja_c (S.2 l0 1) 8) v3.toNat) < 48 then
    nk_lt (S.1 (ja_c (ja_c (S.2 l0 1) 1) 8) (S.1 (ja_c (S.2 l0 1) 8) v3.toNat).toNat) fun v15 =>
    ja_X2_isAsProved_L50 nk_big l0 v3 v15 0 S
    else none
  else none
  else none
theorem ja_X2_isAsProved_ok (zs : List Int32) : ∀ (l0 : Nat) (S : nk_S) (R : Int × nk_S), nk_cl ja_Tt l0 = some 2 → ja_X2_isAsProved l0 S = some R → nk_K ja_Tt mi_Γ (mi_ev zs) 1 275 0 [(0, nk_r l0)] [] S R := by
  intro l0 S R t_l0 hr
  unfold ja_X2_isAsProved at hr
  refine nk_p (i := .aload_n 0) (len := 1) (pc' := 1) mJ_275 (by decide +kernel) (ns_aload_n 0 rfl rfl) rfl ?_
  refine nk_getC (f := (4, 1, 64)) (x := 15) (len := 3) (ci := 2) (k := 3) (pc' := 4) ja_okT mJ_275 (by decide +kernel) (by decide +kernel) (by decide +kernel) (by decide) t_l0 rfl ?_
  have t1 : nk_ar ja_Tt (ja_c l0 3) = some (1, 64) := nk_ta ja_okT t_l0 (by decide +kernel)
  refine nk_p (i := .aload_n 0) (len := 1) (pc' := 5) mJ_275 (by decide +kernel) (ns_aload_n 0 rfl rfl) rfl ?_
  refine nk_getI (y := (0, 0)) (x := 52) (len := 3) (ci := 2) (k := 5) (pc' := 8) ja_okT mJ_275 (by decide +kernel) (by decide +kernel) (by decide +kernel) t_l0 rfl ?_
  obtain ⟨h2, hr⟩ := nk_cke hr
  refine nk_iald (len := 1) (N := 64) (pc' := 9) mJ_275 (by decide +kernel) t1 h2.1 h2.2 rfl rfl ?_
  obtain ⟨v3, h4, hr⟩ := nk_lte hr
  refine nk_p (i := .istore_n 1) (len := 1) (pc' := 10) mJ_275 (by decide +kernel) (ns_istore_n (L' := [(1, nk_i v3), (0, nk_r l0)]) h4 rfl rfl (by decide +kernel)) rfl ?_
  refine nk_p (i := .aload_n 0) (len := 1) (pc' := 11) mJ_275 (by decide +kernel) (ns_aload_n 1 rfl rfl) rfl ?_
  refine nk_getC (f := (2, 4, 0)) (x := 45) (len := 3) (ci := 2) (k := 0) (pc' := 14) ja_okT mJ_275 (by decide +kernel) (by decide +kernel) (by decide +kernel) (by decide) t_l0 rfl ?_
  have t5 : nk_cl ja_Tt (ja_c l0 0) = some 4 := nk_tc (y := 0) ja_okT t_l0 (by decide +kernel)
  refine nk_getC (f := (2, 7, 0)) (x := 275) (len := 3) (ci := 4) (k := 2) (pc' := 17) ja_okT mJ_275 (by decide +kernel) (by decide +kernel) (by decide +kernel) (by decide) t5 rfl ?_
  have t6 : nk_cl ja_Tt (ja_c (ja_c l0 0) 2) = some 7 := nk_tc (y := 0) ja_okT t5 (by decide +kernel)
  refine nk_getC (f := (4, 3, 1024)) (x := 279) (len := 3) (ci := 7) (k := 2) (pc' := 20) ja_okT mJ_275 (by decide +kernel) (by decide +kernel) (by decide +kernel) (by decide) t6 rfl ?_
  have t7 : nk_ar ja_Tt (ja_c (ja_c (ja_c l0 0) 2) 2) = some (3, 1024) := nk_ta ja_okT t6 (by decide +kernel)
  refine nk_p (i := .iload_n 1) (len := 1) (pc' := 21) mJ_275 (by decide +kernel) (ns_iload_n 0 rfl rfl) rfl ?_
  obtain ⟨h8, hr⟩ := nk_cke hr
  refine nk_bald (t := 3) (len := 1) (N := 1024) (pc' := 22) mJ_275 (by decide +kernel) t7 (by decide) h8.1 h8.2 rfl rfl ?_
  refine nk_icond (c := .ne) (off := 5) (len := 3) (t := 27) (pc' := 25) mJ_275 (by decide +kernel) (by decide +kernel) rfl (fun hc => ?_) (fun hc => ?_)
  · have hr := nk_ifn (c := (S.1 (ja_c (ja_c (ja_c l0 0) 2) 2) v3.toNat) = 0) hc hr
    refine nk_p (i := .aload_n 0) (len := 1) (pc' := 28) mJ_275 (by decide +kernel) (ns_aload_n 1 rfl rfl) rfl ?_
    refine nk_getM (cj := 3) (z := 0) (x := 41) (len := 3) (ci := 2) (k := 1) (pc' := 31) ja_okT mJ_275 (by decide +kernel) (by decide +kernel) (by decide +kernel) t_l0 rfl (fun t9 => ?_)
    refine nk_getC (f := (2, 0, 0)) (x := 70) (len := 3) (ci := 3) (k := 1) (pc' := 34) ja_okT mJ_275 (by decide +kernel) (by decide +kernel) (by decide +kernel) (by decide) t9 rfl ?_
    have t10 : nk_cl ja_Tt (ja_c (S.2 l0 1) 1) = some 0 := nk_tc (y := 0) ja_okT t9 (by decide +kernel)
    refine nk_getC (f := (4, 1, 48)) (x := 285) (len := 3) (ci := 0) (k := 8) (pc' := 37) ja_okT mJ_275 (by decide +kernel) (by decide +kernel) (by decide +kernel) (by decide) t10 rfl ?_
    have t11 : nk_ar ja_Tt (ja_c (ja_c (S.2 l0 1) 1) 8) = some (1, 48) := nk_ta ja_okT t10 (by decide +kernel)
    refine nk_p (i := .aload_n 0) (len := 1) (pc' := 38) mJ_275 (by decide +kernel) (ns_aload_n 1 rfl rfl) rfl ?_
    refine nk_getM (cj := 3) (z := 0) (x := 41) (len := 3) (ci := 2) (k := 1) (pc' := 41) ja_okT mJ_275 (by decide +kernel) (by decide +kernel) (by decide +kernel) t_l0 rfl (fun t12 => ?_)
    refine nk_getC (f := (4, 1, 1024)) (x := 229) (len := 3) (ci := 3) (k := 8) (pc' := 44) ja_okT mJ_275 (by decide +kernel) (by decide +kernel) (by decide +kernel) (by decide) t12 rfl ?_
    have t13 : nk_ar ja_Tt (ja_c (S.2 l0 1) 8) = some (1, 1024) := nk_ta ja_okT t12 (by decide +kernel)
    refine nk_p (i := .iload_n 1) (len := 1) (pc' := 45) mJ_275 (by decide +kernel) (ns_iload_n 0 rfl rfl) rfl ?_
    refine nk_iald (len := 1) (N := 1024) (pc' := 46) mJ_275 (by decide +kernel) t13 h8.1 h8.2 rfl rfl ?_
    obtain ⟨h14, hr⟩ := nk_cke hr
    refine nk_iald (len := 1) (N := 48) (pc' := 47) mJ_275 (by decide +kernel) t11 h14.1 h14.2 rfl rfl ?_
    obtain ⟨v15, h16, hr⟩ := nk_lte hr
    refine nk_p (i := .istore_n 2) (len := 1) (pc' := 48) mJ_275 (by decide +kernel) (ns_istore_n (L' := [(2, nk_i v15), (1, nk_i v3), (0, nk_r l0)]) h16 rfl rfl (by decide +kernel)) rfl ?_
    refine nk_p (i := .iconst 0) (len := 1) (pc' := 49) mJ_275 (by decide +kernel) (ns_iconst (c := 0) (by decide +kernel)) rfl ?_
    refine nk_p (i := .istore_n 3) (len := 1) (pc' := 50) mJ_275 (by decide +kernel) (ns_istore_n (L' := [(3, nk_i 0), (2, nk_i v15), (1, nk_i v3), (0, nk_r l0)]) rfl rfl rfl (by decide +kernel)) rfl ?_
    refine nk_sub [3, 2, 1, 0] (L' := [(0, nk_r l0), (1, nk_i v3), (2, nk_i v15), (3, nk_i 0)]) rfl ?_
    exact ja_X2_isAsProved_L50_ok zs nk_big _ _ _ _ _ _ t_l0 hr
  · have hr := nk_ifp (c := (S.1 (ja_c (ja_c (ja_c l0 0) 2) 2) v3.toNat) = 0) (Decidable.of_not_not hc) hr
    refine nk_p (i := .iconst 0) (len := 1) (pc' := 26) mJ_275 (by decide +kernel) (ns_iconst (c := 0) (by decide +kernel)) rfl ?_
    cases hr
    exact nk_iret (ty := .boolean) (len := 1) mJ_275 (by decide +kernel) rfl (nk_nar_z (by decide))
/-! SafeCode$Machine intCell (I)J -/
noncomputable def ja_X2_intCell (l0 : Int) (S : nk_S) : Option (Int × nk_S) :=
  some ((nk_lor 4294967296 (nk_land l0 4294967295)), S)
theorem ja_X2_intCell_ok (zs : List Int32) : ∀ (l0 : Int) (S : nk_S) (R : Int × nk_S), ja_X2_intCell l0 S = some R → nk_K ja_Tt mi_Γ (mi_ev zs) 2 274 0 [(0, nk_i l0)] [] S R := by
  intro l0 S R hr
  unfold ja_X2_intCell at hr
  refine nk_ldc2 (x := 180) (len := 3) (X := 4294967296) (v := 4294967296) (pc' := 3) mJ_274 (by decide +kernel) (by decide +kernel) (by decide +kernel) rfl ?_
  refine nk_p (i := .iload_n 0) (len := 1) (pc' := 4) mJ_274 (by decide +kernel) (ns_iload_n 0 rfl rfl) rfl ?_
  refine nk_p (i := .i2l) (len := 1) (pc' := 5) mJ_274 (by decide +kernel) ns_i2l rfl ?_
  refine nk_ldc2 (x := 182) (len := 3) (X := 4294967295) (v := 4294967295) (pc' := 8) mJ_274 (by decide +kernel) (by decide +kernel) (by decide +kernel) rfl ?_
  refine nk_p (i := .land) (len := 1) (pc' := 9) mJ_274 (by decide +kernel) ns_land rfl ?_
  refine nk_p (i := .lor) (len := 1) (pc' := 10) mJ_274 (by decide +kernel) ns_lor rfl ?_
  cases hr
  exact nk_lret (len := 1) mJ_274 (by decide +kernel) rfl
/-! SafeCode$Machine fromTop (I)I -/
noncomputable def ja_X2_fromTop (l0 : Nat) (l1 : Int) (S : nk_S) : Option (Int × nk_S) :=
  if 0 ≤ (S.1 l0 5) ∧ (S.1 l0 5) < 64 then
  some ((nk_w ((nk_w ((nk_w ((nk_w ((nk_w ((S.1 l0 5) * 20)) + 12)) + (S.1 (ja_c l0 4) (S.1 l0 5).toNat))) - 1)) - l1)), S)
  else none
theorem ja_X2_fromTop_ok (zs : List Int32) : ∀ (l0 : Nat) (l1 : Int) (S : nk_S) (R : Int × nk_S), nk_cl ja_Tt l0 = some 2 → ja_X2_fromTop l0 l1 S = some R → nk_K ja_Tt mi_Γ (mi_ev zs) 1 271 0 [(0, nk_r l0), (1, nk_i l1)] [] S R := by
  intro l0 l1 S R t_l0 hr
  unfold ja_X2_fromTop at hr
  refine nk_p (i := .aload_n 0) (len := 1) (pc' := 1) mJ_271 (by decide +kernel) (ns_aload_n 0 rfl rfl) rfl ?_
  refine nk_getI (y := (0, 0)) (x := 52) (len := 3) (ci := 2) (k := 5) (pc' := 4) ja_okT mJ_271 (by decide +kernel) (by decide +kernel) (by decide +kernel) t_l0 rfl ?_
  refine nk_p (i := .bipush 20) (len := 2) (pc' := 6) mJ_271 (by decide +kernel) (ns_bipush (c := 20) (by decide +kernel)) rfl ?_
  refine nk_p (i := .imul) (len := 1) (pc' := 7) mJ_271 (by decide +kernel) ns_imul rfl ?_
  refine nk_p (i := .bipush 12) (len := 2) (pc' := 9) mJ_271 (by decide +kernel) (ns_bipush (c := 12) (by decide +kernel)) rfl ?_
  refine nk_p (i := .iadd) (len := 1) (pc' := 10) mJ_271 (by decide +kernel) ns_iadd rfl ?_
  refine nk_p (i := .aload_n 0) (len := 1) (pc' := 11) mJ_271 (by decide +kernel) (ns_aload_n 0 rfl rfl) rfl ?_
  refine nk_getC (f := (4, 1, 64)) (x := 19) (len := 3) (ci := 2) (k := 4) (pc' := 14) ja_okT mJ_271 (by decide +kernel) (by decide +kernel) (by decide +kernel) (by decide) t_l0 rfl ?_
  have t1 : nk_ar ja_Tt (ja_c l0 4) = some (1, 64) := nk_ta ja_okT t_l0 (by decide +kernel)
  refine nk_p (i := .aload_n 0) (len := 1) (pc' := 15) mJ_271 (by decide +kernel) (ns_aload_n 0 rfl rfl) rfl ?_
  refine nk_getI (y := (0, 0)) (x := 52) (len := 3) (ci := 2) (k := 5) (pc' := 18) ja_okT mJ_271 (by decide +kernel) (by decide +kernel) (by decide +kernel) t_l0 rfl ?_
  obtain ⟨h2, hr⟩ := nk_cke hr
  refine nk_iald (len := 1) (N := 64) (pc' := 19) mJ_271 (by decide +kernel) t1 h2.1 h2.2 rfl rfl ?_
  refine nk_p (i := .iadd) (len := 1) (pc' := 20) mJ_271 (by decide +kernel) ns_iadd rfl ?_
  refine nk_p (i := .iconst 1) (len := 1) (pc' := 21) mJ_271 (by decide +kernel) (ns_iconst (c := 1) (by decide +kernel)) rfl ?_
  refine nk_p (i := .isub) (len := 1) (pc' := 22) mJ_271 (by decide +kernel) ns_isub rfl ?_
  refine nk_p (i := .iload_n 1) (len := 1) (pc' := 23) mJ_271 (by decide +kernel) (ns_iload_n 1 rfl rfl) rfl ?_
  refine nk_p (i := .isub) (len := 1) (pc' := 24) mJ_271 (by decide +kernel) ns_isub rfl ?_
  cases hr
  exact nk_iret (ty := .int) (len := 1) mJ_271 (by decide +kernel) rfl (nk_nar_i _)
/-! SafeCode$Machine push (J)V -/
noncomputable def ja_X2_push (l0 : Nat) (l1 : Int) (S : nk_S) : Option (Int × nk_S) :=
  if 0 ≤ (S.1 l0 5) ∧ (S.1 l0 5) < 64 then
  if 8 ≤ (S.1 (ja_c l0 4) (S.1 l0 5).toNat) then
    some (0, S)
  else
    nk_lt (nk_wi S (ja_c l0 4) (S.1 l0 5).toNat (nk_w ((S.1 (ja_c l0 4) (S.1 l0 5).toNat) + 1))) fun S3 =>
    nk_bd (ja_X2_fromTop l0 0 S3) fun r6 S7 =>
    if 0 ≤ r6 ∧ r6 < 1280 then
    nk_lt (nk_wi S7 (ja_c l0 2) r6.toNat l1) fun S10 =>
    some (0, S10)
    else none
  else none
theorem ja_X2_push_ok (zs : List Int32) : ∀ (l0 : Nat) (l1 : Int) (S : nk_S) (R : Int × nk_S), nk_cl ja_Tt l0 = some 2 → ja_X2_push l0 l1 S = some R → nk_K ja_Tt mi_Γ (mi_ev zs) 0 288 0 [(0, nk_r l0), (1, nk_l l1)] [] S R := by
  intro l0 l1 S R t_l0 hr
  unfold ja_X2_push at hr
  refine nk_p (i := .aload_n 0) (len := 1) (pc' := 1) mJ_288 (by decide +kernel) (ns_aload_n 0 rfl rfl) rfl ?_
  refine nk_getC (f := (4, 1, 64)) (x := 19) (len := 3) (ci := 2) (k := 4) (pc' := 4) ja_okT mJ_288 (by decide +kernel) (by decide +kernel) (by decide +kernel) (by decide) t_l0 rfl ?_
  have t1 : nk_ar ja_Tt (ja_c l0 4) = some (1, 64) := nk_ta ja_okT t_l0 (by decide +kernel)
  refine nk_p (i := .aload_n 0) (len := 1) (pc' := 5) mJ_288 (by decide +kernel) (ns_aload_n 0 rfl rfl) rfl ?_
  refine nk_getI (y := (0, 0)) (x := 52) (len := 3) (ci := 2) (k := 5) (pc' := 8) ja_okT mJ_288 (by decide +kernel) (by decide +kernel) (by decide +kernel) t_l0 rfl ?_
  obtain ⟨h2, hr⟩ := nk_cke hr
  refine nk_iald (len := 1) (N := 64) (pc' := 9) mJ_288 (by decide +kernel) t1 h2.1 h2.2 rfl rfl ?_
  refine nk_p (i := .bipush 8) (len := 2) (pc' := 11) mJ_288 (by decide +kernel) (ns_bipush (c := 8) (by decide +kernel)) rfl ?_
  refine nk_icmp (c := .ge) (off := 27) (len := 3) (t := 38) (pc' := 14) mJ_288 (by decide +kernel) (by decide +kernel) rfl (fun hc => ?_) (fun hc => ?_)
  · have hr := nk_ifp (c := 8 ≤ (S.1 (ja_c l0 4) (S.1 l0 5).toNat)) hc hr
    cases hr
    exact nk_vret (len := 1) mJ_288 (by decide +kernel) rfl
  · have hr := nk_ifn (c := 8 ≤ (S.1 (ja_c l0 4) (S.1 l0 5).toNat)) hc hr
    refine nk_p (i := .aload_n 0) (len := 1) (pc' := 15) mJ_288 (by decide +kernel) (ns_aload_n 0 rfl rfl) rfl ?_
    refine nk_getC (f := (4, 1, 64)) (x := 19) (len := 3) (ci := 2) (k := 4) (pc' := 18) ja_okT mJ_288 (by decide +kernel) (by decide +kernel) (by decide +kernel) (by decide) t_l0 rfl ?_
    refine nk_p (i := .aload_n 0) (len := 1) (pc' := 19) mJ_288 (by decide +kernel) (ns_aload_n 0 rfl rfl) rfl ?_
    refine nk_getI (y := (0, 0)) (x := 52) (len := 3) (ci := 2) (k := 5) (pc' := 22) ja_okT mJ_288 (by decide +kernel) (by decide +kernel) (by decide +kernel) t_l0 rfl ?_
    refine nk_p (i := .dup2) (len := 1) (pc' := 23) mJ_288 (by decide +kernel) (ns_dup2 rfl rfl) rfl ?_
    refine nk_iald (len := 1) (N := 64) (pc' := 24) mJ_288 (by decide +kernel) t1 h2.1 h2.2 rfl rfl ?_
    refine nk_p (i := .iconst 1) (len := 1) (pc' := 25) mJ_288 (by decide +kernel) (ns_iconst (c := 1) (by decide +kernel)) rfl ?_
    refine nk_p (i := .iadd) (len := 1) (pc' := 26) mJ_288 (by decide +kernel) ns_iadd rfl ?_
    obtain ⟨S3, h4, hr⟩ := nk_lte hr
    refine nk_iast (len := 1) (N := 64) (pc' := 27) mJ_288 (by decide +kernel) t1 h2.1 h2.2 rfl rfl h4 ?_
    refine nk_p (i := .aload_n 0) (len := 1) (pc' := 28) mJ_288 (by decide +kernel) (ns_aload_n 0 rfl rfl) rfl ?_
    refine nk_getC (f := (4, 2, 1280)) (x := 9) (len := 3) (ci := 2) (k := 2) (pc' := 31) ja_okT mJ_288 (by decide +kernel) (by decide +kernel) (by decide +kernel) (by decide) t_l0 rfl ?_
    have t5 : nk_ar ja_Tt (ja_c l0 2) = some (2, 1280) := nk_ta ja_okT t_l0 (by decide +kernel)
    refine nk_p (i := .aload_n 0) (len := 1) (pc' := 32) mJ_288 (by decide +kernel) (ns_aload_n 0 rfl rfl) rfl ?_
    refine nk_p (i := .iconst 0) (len := 1) (pc' := 33) mJ_288 (by decide +kernel) (ns_iconst (c := 0) (by decide +kernel)) rfl ?_
    obtain ⟨r6, S7, h8, hr⟩ := nk_bde hr
    refine nk_callV (ci := 2) (n := 1) (x := 177) (len := 3) (j' := 271) (q' := 1) (r := r6) (S' := S7) (L2 := [(0, nk_r l0), (1, nk_i 0)]) (rest := [nk_r (ja_c l0 2)]) (st' := [nk_i r6, nk_r (ja_c l0 2)]) (pc' := 36) mJ_288 (by decide +kernel) (by decide +kernel) rfl rfl t_l0 (Nat.le_of_ble_eq_true rfl) mJ_271 (Nat.le_of_ble_eq_true rfl) rfl (ja_X2_fromTop_ok zs _ _ _ _ t_l0 h8) rfl ?_
    refine nk_p (i := .lload_n 1) (len := 1) (pc' := 37) mJ_288 (by decide +kernel) (ns_lload_n 1 rfl rfl) rfl ?_
    obtain ⟨h9, hr⟩ := nk_cke hr
    obtain ⟨S10, h11, hr⟩ := nk_lte hr
    refine nk_last (len := 1) (N := 1280) (pc' := 38) mJ_288 (by decide +kernel) t5 h9.1 h9.2 rfl rfl h11 ?_
    cases hr
    exact nk_vret (len := 1) mJ_288 (by decide +kernel) rfl
/-! SafeCode$Machine refCell (I)J -/
noncomputable def ja_X2_refCell (l0 : Int) (S : nk_S) : Option (Int × nk_S) :=
  some ((nk_lor 8589934592 l0), S)
theorem ja_X2_refCell_ok (zs : List Int32) : ∀ (l0 : Int) (S : nk_S) (R : Int × nk_S), ja_X2_refCell l0 S = some R → nk_K ja_Tt mi_Γ (mi_ev zs) 2 290 0 [(0, nk_i l0)] [] S R := by
  intro l0 S R hr
  unfold ja_X2_refCell at hr
  refine nk_ldc2 (x := 184) (len := 3) (X := 8589934592) (v := 8589934592) (pc' := 3) mJ_290 (by decide +kernel) (by decide +kernel) (by decide +kernel) rfl ?_
  refine nk_p (i := .iload_n 0) (len := 1) (pc' := 4) mJ_290 (by decide +kernel) (ns_iload_n 0 rfl rfl) rfl ?_
  refine nk_p (i := .i2l) (len := 1) (pc' := 5) mJ_290 (by decide +kernel) ns_i2l rfl ?_
  refine nk_p (i := .lor) (len := 1) (pc' := 6) mJ_290 (by decide +kernel) ns_lor rfl ?_
  cases hr
  exact nk_lret (len := 1) mJ_290 (by decide +kernel) rfl
/-! SafeCode$Machine drop (I)V -/
noncomputable def ja_X2_drop (l0 : Nat) (l1 : Int) (S : nk_S) : Option (Int × nk_S) :=
  if 0 ≤ (S.1 l0 5) ∧ (S.1 l0 5) < 64 then
  nk_lt (nk_wi S (ja_c l0 4) (S.1 l0 5).toNat (nk_w ((S.1 (ja_c l0 4) (S.1 l0 5).toNat) - l1))) fun S3 =>
  some (0, S3)
  else none
theorem ja_X2_drop_ok (zs : List Int32) : ∀ (l0 : Nat) (l1 : Int) (S : nk_S) (R : Int × nk_S), nk_cl ja_Tt l0 = some 2 → ja_X2_drop l0 l1 S = some R → nk_K ja_Tt mi_Γ (mi_ev zs) 0 266 0 [(0, nk_r l0), (1, nk_i l1)] [] S R := by
  intro l0 l1 S R t_l0 hr
  unfold ja_X2_drop at hr
  refine nk_p (i := .aload_n 0) (len := 1) (pc' := 1) mJ_266 (by decide +kernel) (ns_aload_n 0 rfl rfl) rfl ?_
  refine nk_getC (f := (4, 1, 64)) (x := 19) (len := 3) (ci := 2) (k := 4) (pc' := 4) ja_okT mJ_266 (by decide +kernel) (by decide +kernel) (by decide +kernel) (by decide) t_l0 rfl ?_
  have t1 : nk_ar ja_Tt (ja_c l0 4) = some (1, 64) := nk_ta ja_okT t_l0 (by decide +kernel)
  refine nk_p (i := .aload_n 0) (len := 1) (pc' := 5) mJ_266 (by decide +kernel) (ns_aload_n 0 rfl rfl) rfl ?_
  refine nk_getI (y := (0, 0)) (x := 52) (len := 3) (ci := 2) (k := 5) (pc' := 8) ja_okT mJ_266 (by decide +kernel) (by decide +kernel) (by decide +kernel) t_l0 rfl ?_
  refine nk_p (i := .dup2) (len := 1) (pc' := 9) mJ_266 (by decide +kernel) (ns_dup2 rfl rfl) rfl ?_
  obtain ⟨h2, hr⟩ := nk_cke hr
  refine nk_iald (len := 1) (N := 64) (pc' := 10) mJ_266 (by decide +kernel) t1 h2.1 h2.2 rfl rfl ?_
  refine nk_p (i := .iload_n 1) (len := 1) (pc' := 11) mJ_266 (by decide +kernel) (ns_iload_n 1 rfl rfl) rfl ?_
  refine nk_p (i := .isub) (len := 1) (pc' := 12) mJ_266 (by decide +kernel) ns_isub rfl ?_
  obtain ⟨S3, h4, hr⟩ := nk_lte hr
  refine nk_iast (len := 1) (N := 64) (pc' := 13) mJ_266 (by decide +kernel) t1 h2.1 h2.2 rfl rfl h4 ?_
  cases hr
  exact nk_vret (len := 1) mJ_266 (by decide +kernel) rfl
/-! SafeCode$Machine next ()I -/
noncomputable def ja_X2_next (l0 : Nat) (S : nk_S) : Option (Int × nk_S) :=
  if 0 ≤ (S.1 l0 5) ∧ (S.1 l0 5) < 64 then
  nk_lt (nk_wi S (ja_c l0 3) (S.1 l0 5).toNat (nk_w ((S.1 (ja_c l0 3) (S.1 l0 5).toNat) + 1))) fun S3 =>
  some (0, S3)
  else none
theorem ja_X2_next_ok (zs : List Int32) : ∀ (l0 : Nat) (S : nk_S) (R : Int × nk_S), nk_cl ja_Tt l0 = some 2 → ja_X2_next l0 S = some R → nk_K ja_Tt mi_Γ (mi_ev zs) 1 284 0 [(0, nk_r l0)] [] S R := by
  intro l0 S R t_l0 hr
  unfold ja_X2_next at hr
  refine nk_p (i := .aload_n 0) (len := 1) (pc' := 1) mJ_284 (by decide +kernel) (ns_aload_n 0 rfl rfl) rfl ?_
  refine nk_getC (f := (4, 1, 64)) (x := 15) (len := 3) (ci := 2) (k := 3) (pc' := 4) ja_okT mJ_284 (by decide +kernel) (by decide +kernel) (by decide +kernel) (by decide) t_l0 rfl ?_
  have t1 : nk_ar ja_Tt (ja_c l0 3) = some (1, 64) := nk_ta ja_okT t_l0 (by decide +kernel)
  refine nk_p (i := .aload_n 0) (len := 1) (pc' := 5) mJ_284 (by decide +kernel) (ns_aload_n 0 rfl rfl) rfl ?_
  refine nk_getI (y := (0, 0)) (x := 52) (len := 3) (ci := 2) (k := 5) (pc' := 8) ja_okT mJ_284 (by decide +kernel) (by decide +kernel) (by decide +kernel) t_l0 rfl ?_
  refine nk_p (i := .dup2) (len := 1) (pc' := 9) mJ_284 (by decide +kernel) (ns_dup2 rfl rfl) rfl ?_
  obtain ⟨h2, hr⟩ := nk_cke hr
  refine nk_iald (len := 1) (N := 64) (pc' := 10) mJ_284 (by decide +kernel) t1 h2.1 h2.2 rfl rfl ?_
  refine nk_p (i := .iconst 1) (len := 1) (pc' := 11) mJ_284 (by decide +kernel) (ns_iconst (c := 1) (by decide +kernel)) rfl ?_
  refine nk_p (i := .iadd) (len := 1) (pc' := 12) mJ_284 (by decide +kernel) ns_iadd rfl ?_
  obtain ⟨S3, h4, hr⟩ := nk_lte hr
  refine nk_iast (len := 1) (N := 64) (pc' := 13) mJ_284 (by decide +kernel) t1 h2.1 h2.2 rfl rfl h4 ?_
  refine nk_p (i := .iconst 0) (len := 1) (pc' := 14) mJ_284 (by decide +kernel) (ns_iconst (c := 0) (by decide +kernel)) rfl ?_
  cases hr
  exact nk_iret (ty := .int) (len := 1) mJ_284 (by decide +kernel) rfl (nk_nar_i _)
/-! SafeCode$Machine move (II)I -/
noncomputable def ja_X2_move_b225 (l0 : Nat) (S : nk_S) : Option (Int × nk_S) :=
  nk_bd (ja_X2_next l0 S) fun r1 S2 =>
  some (r1, S2)
theorem ja_X2_move_b225_ok (zs : List Int32) : ∀ (l0 : Nat) (S : nk_S) (R : Int × nk_S), nk_cl ja_Tt l0 = some 2 → ja_X2_move_b225 l0 S = some R → nk_K ja_Tt mi_Γ (mi_ev zs) 1 283 225 [(0, nk_r l0)] [] S R := by
  intro l0 S R t_l0 hr
  unfold ja_X2_move_b225 at hr
  refine nk_p (i := .aload_n 0) (len := 1) (pc' := 226) mJ_283 (by decide +kernel) (ns_aload_n 0 rfl rfl) rfl ?_
  obtain ⟨r1, S2, h3, hr⟩ := nk_bde hr
  refine nk_callV (ci := 2) (n := 0) (x := 193) (len := 3) (j' := 284) (q' := 1) (r := r1) (S' := S2) (L2 := [(0, nk_r l0)]) (rest := []) (st' := [nk_i r1]) (pc' := 229) mJ_283 (by decide +kernel) (by decide +kernel) rfl rfl t_l0 (Nat.le_of_ble_eq_true rfl) mJ_284 (Nat.le_of_ble_eq_true rfl) rfl (ja_X2_next_ok zs _ _ _ t_l0 h3) rfl ?_
  cases hr
  exact nk_iret (ty := .int) (len := 1) mJ_283 (by decide +kernel) rfl (nk_nar_i _)
noncomputable def ja_X2_move (l0 : Nat) (l1 : Int) (l2 : Int) (S : nk_S) : Option (Int × nk_S) :=
  if 0 ≤ l1 ∧ l1 < 1024 then
  nk_lt (nk_w ((nk_w ((S.1 l0 5) * 20)) + (S.1 (ja_c (S.2 l0 1) 5) l1.toNat))) fun v4 =>
  if l2 = 0 then
    nk_bd (ja_X2_intCell (S.1 (ja_c (S.2 l0 1) 5) l1.toNat) S) fun r7 S8 =>
    nk_bd (ja_X2_push l0 r7 S8) fun r10 S11 =>
    ja_X2_move_b225 l0 S11
  else
  if l2 = 1 then
    nk_bd (ja_X2_refCell 0 S) fun r13 S14 =>
    nk_bd (ja_X2_push l0 r13 S14) fun r16 S17 =>
    ja_X2_move_b225 l0 S17
  else
  if l2 = 2 then
    if 0 ≤ v4 ∧ v4 < 1280 then
    nk_bd (ja_X2_push l0 (S.1 (ja_c l0 2) v4.toNat) S) fun r21 S22 =>
    ja_X2_move_b225 l0 S22
    else none
  else
  if l2 = 3 then
    nk_bd (ja_X2_fromTop l0 0 S) fun r25 S26 =>
    if 0 ≤ r25 ∧ r25 < 1280 then
    if 0 ≤ v4 ∧ v4 < 1280 then
    nk_lt (nk_wi S26 (ja_c l0 2) v4.toNat (S26.1 (ja_c l0 2) r25.toNat)) fun S30 =>
    nk_bd (ja_X2_drop l0 1 S30) fun r32 S33 =>
    ja_X2_move_b225 l0 S33
    else none
    else none
  else
  if l2 = 4 then
    if 0 ≤ v4 ∧ v4 < 1280 then
    nk_bd (ja_X2_intCell (nk_w ((nk_w (S.1 (ja_c l0 2) v4.toNat)) + (S.1 (ja_c (S.2 l0 1) 6) l1.toNat))) S) fun r39 S40 =>
    nk_lt (nk_wi S40 (ja_c l0 2) v4.toNat r39) fun S42 =>
    ja_X2_move_b225 l0 S42
    else none
  else
  if l2 = 5 then
    nk_bd (ja_X2_fromTop l0 0 S) fun r45 S46 =>
    if 0 ≤ r45 ∧ r45 < 1280 then
    nk_bd (ja_X2_push l0 (S46.1 (ja_c l0 2) r45.toNat) S46) fun r49 S50 =>
    ja_X2_move_b225 l0 S50
    else none
  else
  if l2 = 6 then
    nk_bd (ja_X2_drop l0 1 S) fun r52 S53 =>
    ja_X2_move_b225 l0 S53
  else
  nk_bd (ja_X2_fromTop l0 0 S) fun r56 S57 =>
  if 0 ≤ r56 ∧ r56 < 1280 then
  nk_lt (S57.1 (ja_c l0 2) r56.toNat) fun v60 =>
  nk_bd (ja_X2_fromTop l0 0 S57) fun r62 S63 =>
  nk_bd (ja_X2_fromTop l0 1 S63) fun r65 S66 =>
  if 0 ≤ r65 ∧ r65 < 1280 then
  if 0 ≤ r62 ∧ r62 < 1280 then
  nk_lt (nk_wi S66 (ja_c l0 2) r62.toNat (S66.1 (ja_c l0 2) r65.toNat)) fun S70 =>
  nk_bd (ja_X2_fromTop l0 1 S70) fun r72 S73 =>
  if 0 ≤ r72 ∧ r72 < 1280 then
  nk_lt (nk_wi S73 (ja_c l0 2) r72.toNat v60) fun S76 =>
  ja_X2_move_b225 l0 S76
  else none
  else none
  else none
  else none
  else none
theorem ja_X2_move_ok (zs : List Int32) : ∀ (l0 : Nat) (l1 : Int) (l2 : Int) (S : nk_S) (R : Int × nk_S), nk_cl ja_Tt l0 = some 2 → ja_X2_move l0 l1 l2 S = some R → nk_K ja_Tt mi_Γ (mi_ev zs) 1 283 0 [(0, nk_r l0), (1, nk_i l1), (2, nk_i l2)] [] S R := by
  intro l0 l1 l2 S R t_l0 hr
  unfold ja_X2_move at hr
  refine nk_p (i := .aload_n 0) (len := 1) (pc' := 1) mJ_283 (by decide +kernel) (ns_aload_n 0 rfl rfl) rfl ?_
  refine nk_getI (y := (0, 0)) (x := 52) (len := 3) (ci := 2) (k := 5) (pc' := 4) ja_okT mJ_283 (by decide +kernel) (by decide +kernel) (by decide +kernel) t_l0 rfl ?_
  refine nk_p (i := .bipush 20) (len := 2) (pc' := 6) mJ_283 (by decide +kernel) (ns_bipush (c := 20) (by decide +kernel)) rfl ?_
  refine nk_p (i := .imul) (len := 1) (pc' := 7) mJ_283 (by decide +kernel) ns_imul rfl ?_
  refine nk_p (i := .aload_n 0) (len := 1) (pc' := 8) mJ_283 (by decide +kernel) (ns_aload_n 0 rfl rfl) rfl ?_
  refine nk_getM (cj := 3) (z := 0) (x := 41) (len := 3) (ci := 2) (k := 1) (pc' := 11) ja_okT mJ_283 (by decide +kernel) (by decide +kernel) (by decide +kernel) t_l0 rfl (fun t1 => ?_)
  refine nk_getC (f := (4, 1, 1024)) (x := 131) (len := 3) (ci := 3) (k := 5) (pc' := 14) ja_okT mJ_283 (by decide +kernel) (by decide +kernel) (by decide +kernel) (by decide) t1 rfl ?_
  have t2 : nk_ar ja_Tt (ja_c (S.2 l0 1) 5) = some (1, 1024) := nk_ta ja_okT t1 (by decide +kernel)
  refine nk_p (i := .iload_n 1) (len := 1) (pc' := 15) mJ_283 (by decide +kernel) (ns_iload_n 1 rfl rfl) rfl ?_
  obtain ⟨h3, hr⟩ := nk_cke hr
  refine nk_iald (len := 1) (N := 1024) (pc' := 16) mJ_283 (by decide +kernel) t2 h3.1 h3.2 rfl rfl ?_
  refine nk_p (i := .iadd) (len := 1) (pc' := 17) mJ_283 (by decide +kernel) ns_iadd rfl ?_
  obtain ⟨v4, h5, hr⟩ := nk_lte hr
  refine nk_p (i := .istore_n 3) (len := 1) (pc' := 18) mJ_283 (by decide +kernel) (ns_istore_n (L' := [(3, nk_i v4), (0, nk_r l0), (1, nk_i l1), (2, nk_i l2)]) h5 rfl rfl (by decide +kernel)) rfl ?_
  refine nk_p (i := .iload_n 2) (len := 1) (pc' := 19) mJ_283 (by decide +kernel) (ns_iload_n 3 rfl rfl) rfl ?_
  by_cases hc0 : l2 = 0
  · have hr := nk_ifp hc0 hr
    refine nk_p (i := .tableswitch 162 0 6 #[41, 60, 71, 84, 108, 137, 154]) (len := 41) (pc' := 60) mJ_283 (by decide +kernel) (ns_tsw (V := 0) hc0 (by decide +kernel)) rfl ?_
    refine nk_p (i := .aload_n 0) (len := 1) (pc' := 61) mJ_283 (by decide +kernel) (ns_aload_n 1 rfl rfl) rfl ?_
    refine nk_p (i := .aload_n 0) (len := 1) (pc' := 62) mJ_283 (by decide +kernel) (ns_aload_n 1 rfl rfl) rfl ?_
    refine nk_getM (cj := 3) (z := 0) (x := 41) (len := 3) (ci := 2) (k := 1) (pc' := 65) ja_okT mJ_283 (by decide +kernel) (by decide +kernel) (by decide +kernel) t_l0 rfl (fun t6 => ?_)
    refine nk_getC (f := (4, 1, 1024)) (x := 131) (len := 3) (ci := 3) (k := 5) (pc' := 68) ja_okT mJ_283 (by decide +kernel) (by decide +kernel) (by decide +kernel) (by decide) t6 rfl ?_
    refine nk_p (i := .iload_n 1) (len := 1) (pc' := 69) mJ_283 (by decide +kernel) (ns_iload_n 2 rfl rfl) rfl ?_
    refine nk_iald (len := 1) (N := 1024) (pc' := 70) mJ_283 (by decide +kernel) t2 h3.1 h3.2 rfl rfl ?_
    obtain ⟨r7, S8, h9, hr⟩ := nk_bde hr
    refine nk_callS (ci := 0) (n := 1) (x := 147) (len := 3) (j' := 274) (q' := 2) (r := r7) (S' := S8) (L2 := [(0, nk_i (S.1 (ja_c (S.2 l0 1) 5) l1.toNat))]) (rest := [nk_r l0]) (st' := [nk_l r7, nk_r l0]) (pc' := 73) mJ_283 (by decide +kernel) (by decide +kernel) (Nat.le_of_ble_eq_true rfl) rfl rfl (Nat.le_of_ble_eq_true rfl) mJ_274 (Nat.le_of_ble_eq_true rfl) ja_Tpos rfl (ja_X2_intCell_ok zs _ _ _ h9) rfl ?_
    obtain ⟨r10, S11, h12, hr⟩ := nk_bde hr
    refine nk_callV (ci := 2) (n := 1) (x := 189) (len := 3) (j' := 288) (q' := 0) (r := r10) (S' := S11) (L2 := [(0, nk_r l0), (1, nk_l r7)]) (rest := []) (st' := []) (pc' := 76) mJ_283 (by decide +kernel) (by decide +kernel) rfl rfl t_l0 (Nat.le_of_ble_eq_true rfl) mJ_288 (Nat.le_of_ble_eq_true rfl) rfl (ja_X2_push_ok zs _ _ _ _ t_l0 h12) rfl ?_
    refine nk_p (i := .goto 149) (len := 3) (pc' := 225) mJ_283 (by decide +kernel) (ns_goto (by decide +kernel)) rfl ?_
    refine nk_sub [1] (L' := [(0, nk_r l0)]) rfl ?_
    exact ja_X2_move_b225_ok zs _ _ _ t_l0 hr
  have hr := nk_ifn hc0 hr
  by_cases hc1 : l2 = 1
  · have hr := nk_ifp hc1 hr
    refine nk_p (i := .tableswitch 162 0 6 #[41, 60, 71, 84, 108, 137, 154]) (len := 41) (pc' := 79) mJ_283 (by decide +kernel) (ns_tsw (V := 1) hc1 (by decide +kernel)) rfl ?_
    refine nk_p (i := .aload_n 0) (len := 1) (pc' := 80) mJ_283 (by decide +kernel) (ns_aload_n 1 rfl rfl) rfl ?_
    refine nk_p (i := .iconst 0) (len := 1) (pc' := 81) mJ_283 (by decide +kernel) (ns_iconst (c := 0) (by decide +kernel)) rfl ?_
    obtain ⟨r13, S14, h15, hr⟩ := nk_bde hr
    refine nk_callS (ci := 0) (n := 1) (x := 196) (len := 3) (j' := 290) (q' := 2) (r := r13) (S' := S14) (L2 := [(0, nk_i 0)]) (rest := [nk_r l0]) (st' := [nk_l r13, nk_r l0]) (pc' := 84) mJ_283 (by decide +kernel) (by decide +kernel) (Nat.le_of_ble_eq_true rfl) rfl rfl (Nat.le_of_ble_eq_true rfl) mJ_290 (Nat.le_of_ble_eq_true rfl) ja_Tpos rfl (ja_X2_refCell_ok zs _ _ _ h15) rfl ?_
    obtain ⟨r16, S17, h18, hr⟩ := nk_bde hr
    refine nk_callV (ci := 2) (n := 1) (x := 189) (len := 3) (j' := 288) (q' := 0) (r := r16) (S' := S17) (L2 := [(0, nk_r l0), (1, nk_l r13)]) (rest := []) (st' := []) (pc' := 87) mJ_283 (by decide +kernel) (by decide +kernel) rfl rfl t_l0 (Nat.le_of_ble_eq_true rfl) mJ_288 (Nat.le_of_ble_eq_true rfl) rfl (ja_X2_push_ok zs _ _ _ _ t_l0 h18) rfl ?_
    refine nk_p (i := .goto 138) (len := 3) (pc' := 225) mJ_283 (by decide +kernel) (ns_goto (by decide +kernel)) rfl ?_
    refine nk_sub [1] (L' := [(0, nk_r l0)]) rfl ?_
    exact ja_X2_move_b225_ok zs _ _ _ t_l0 hr
  have hr := nk_ifn hc1 hr
  by_cases hc2 : l2 = 2
  · have hr := nk_ifp hc2 hr
    refine nk_p (i := .tableswitch 162 0 6 #[41, 60, 71, 84, 108, 137, 154]) (len := 41) (pc' := 90) mJ_283 (by decide +kernel) (ns_tsw (V := 2) hc2 (by decide +kernel)) rfl ?_
    refine nk_p (i := .aload_n 0) (len := 1) (pc' := 91) mJ_283 (by decide +kernel) (ns_aload_n 1 rfl rfl) rfl ?_
    refine nk_p (i := .aload_n 0) (len := 1) (pc' := 92) mJ_283 (by decide +kernel) (ns_aload_n 1 rfl rfl) rfl ?_
    refine nk_getC (f := (4, 2, 1280)) (x := 9) (len := 3) (ci := 2) (k := 2) (pc' := 95) ja_okT mJ_283 (by decide +kernel) (by decide +kernel) (by decide +kernel) (by decide) t_l0 rfl ?_
    have t19 : nk_ar ja_Tt (ja_c l0 2) = some (2, 1280) := nk_ta ja_okT t_l0 (by decide +kernel)
    refine nk_p (i := .iload_n 3) (len := 1) (pc' := 96) mJ_283 (by decide +kernel) (ns_iload_n 0 rfl rfl) rfl ?_
    obtain ⟨h20, hr⟩ := nk_cke hr
    refine nk_lald (len := 1) (N := 1280) (pc' := 97) mJ_283 (by decide +kernel) t19 h20.1 h20.2 rfl rfl ?_
    obtain ⟨r21, S22, h23, hr⟩ := nk_bde hr
    refine nk_callV (ci := 2) (n := 1) (x := 189) (len := 3) (j' := 288) (q' := 0) (r := r21) (S' := S22) (L2 := [(0, nk_r l0), (1, nk_l (S.1 (ja_c l0 2) v4.toNat))]) (rest := []) (st' := []) (pc' := 100) mJ_283 (by decide +kernel) (by decide +kernel) rfl rfl t_l0 (Nat.le_of_ble_eq_true rfl) mJ_288 (Nat.le_of_ble_eq_true rfl) rfl (ja_X2_push_ok zs _ _ _ _ t_l0 h23) rfl ?_
    refine nk_p (i := .goto 125) (len := 3) (pc' := 225) mJ_283 (by decide +kernel) (ns_goto (by decide +kernel)) rfl ?_
    refine nk_sub [1] (L' := [(0, nk_r l0)]) rfl ?_
    exact ja_X2_move_b225_ok zs _ _ _ t_l0 hr
  have hr := nk_ifn hc2 hr
  by_cases hc3 : l2 = 3
  · have hr := nk_ifp hc3 hr
    refine nk_p (i := .tableswitch 162 0 6 #[41, 60, 71, 84, 108, 137, 154]) (len := 41) (pc' := 103) mJ_283 (by decide +kernel) (ns_tsw (V := 3) hc3 (by decide +kernel)) rfl ?_
    refine nk_p (i := .aload_n 0) (len := 1) (pc' := 104) mJ_283 (by decide +kernel) (ns_aload_n 1 rfl rfl) rfl ?_
    refine nk_getC (f := (4, 2, 1280)) (x := 9) (len := 3) (ci := 2) (k := 2) (pc' := 107) ja_okT mJ_283 (by decide +kernel) (by decide +kernel) (by decide +kernel) (by decide) t_l0 rfl ?_
    have t24 : nk_ar ja_Tt (ja_c l0 2) = some (2, 1280) := nk_ta ja_okT t_l0 (by decide +kernel)
    refine nk_p (i := .iload_n 3) (len := 1) (pc' := 108) mJ_283 (by decide +kernel) (ns_iload_n 0 rfl rfl) rfl ?_
    refine nk_p (i := .aload_n 0) (len := 1) (pc' := 109) mJ_283 (by decide +kernel) (ns_aload_n 1 rfl rfl) rfl ?_
    refine nk_getC (f := (4, 2, 1280)) (x := 9) (len := 3) (ci := 2) (k := 2) (pc' := 112) ja_okT mJ_283 (by decide +kernel) (by decide +kernel) (by decide +kernel) (by decide) t_l0 rfl ?_
    refine nk_p (i := .aload_n 0) (len := 1) (pc' := 113) mJ_283 (by decide +kernel) (ns_aload_n 1 rfl rfl) rfl ?_
    refine nk_p (i := .iconst 0) (len := 1) (pc' := 114) mJ_283 (by decide +kernel) (ns_iconst (c := 0) (by decide +kernel)) rfl ?_
    obtain ⟨r25, S26, h27, hr⟩ := nk_bde hr
    refine nk_callV (ci := 2) (n := 1) (x := 177) (len := 3) (j' := 271) (q' := 1) (r := r25) (S' := S26) (L2 := [(0, nk_r l0), (1, nk_i 0)]) (rest := [nk_r (ja_c l0 2), nk_i v4, nk_r (ja_c l0 2)]) (st' := [nk_i r25, nk_r (ja_c l0 2), nk_i v4, nk_r (ja_c l0 2)]) (pc' := 117) mJ_283 (by decide +kernel) (by decide +kernel) rfl rfl t_l0 (Nat.le_of_ble_eq_true rfl) mJ_271 (Nat.le_of_ble_eq_true rfl) rfl (ja_X2_fromTop_ok zs _ _ _ _ t_l0 h27) rfl ?_
    obtain ⟨h28, hr⟩ := nk_cke hr
    refine nk_lald (len := 1) (N := 1280) (pc' := 118) mJ_283 (by decide +kernel) t24 h28.1 h28.2 rfl rfl ?_
    obtain ⟨h29, hr⟩ := nk_cke hr
    obtain ⟨S30, h31, hr⟩ := nk_lte hr
    refine nk_last (len := 1) (N := 1280) (pc' := 119) mJ_283 (by decide +kernel) t24 h29.1 h29.2 rfl rfl h31 ?_
    refine nk_p (i := .aload_n 0) (len := 1) (pc' := 120) mJ_283 (by decide +kernel) (ns_aload_n 1 rfl rfl) rfl ?_
    refine nk_p (i := .iconst 1) (len := 1) (pc' := 121) mJ_283 (by decide +kernel) (ns_iconst (c := 1) (by decide +kernel)) rfl ?_
    obtain ⟨r32, S33, h34, hr⟩ := nk_bde hr
    refine nk_callV (ci := 2) (n := 1) (x := 186) (len := 3) (j' := 266) (q' := 0) (r := r32) (S' := S33) (L2 := [(0, nk_r l0), (1, nk_i 1)]) (rest := []) (st' := []) (pc' := 124) mJ_283 (by decide +kernel) (by decide +kernel) rfl rfl t_l0 (Nat.le_of_ble_eq_true rfl) mJ_266 (Nat.le_of_ble_eq_true rfl) rfl (ja_X2_drop_ok zs _ _ _ _ t_l0 h34) rfl ?_
    refine nk_p (i := .goto 101) (len := 3) (pc' := 225) mJ_283 (by decide +kernel) (ns_goto (by decide +kernel)) rfl ?_
    refine nk_sub [1] (L' := [(0, nk_r l0)]) rfl ?_
    exact ja_X2_move_b225_ok zs _ _ _ t_l0 hr
  have hr := nk_ifn hc3 hr
  by_cases hc4 : l2 = 4
  · have hr := nk_ifp hc4 hr
    refine nk_p (i := .tableswitch 162 0 6 #[41, 60, 71, 84, 108, 137, 154]) (len := 41) (pc' := 127) mJ_283 (by decide +kernel) (ns_tsw (V := 4) hc4 (by decide +kernel)) rfl ?_
    refine nk_p (i := .aload_n 0) (len := 1) (pc' := 128) mJ_283 (by decide +kernel) (ns_aload_n 1 rfl rfl) rfl ?_
    refine nk_getC (f := (4, 2, 1280)) (x := 9) (len := 3) (ci := 2) (k := 2) (pc' := 131) ja_okT mJ_283 (by decide +kernel) (by decide +kernel) (by decide +kernel) (by decide) t_l0 rfl ?_
    have t35 : nk_ar ja_Tt (ja_c l0 2) = some (2, 1280) := nk_ta ja_okT t_l0 (by decide +kernel)
    refine nk_p (i := .iload_n 3) (len := 1) (pc' := 132) mJ_283 (by decide +kernel) (ns_iload_n 0 rfl rfl) rfl ?_
    refine nk_p (i := .aload_n 0) (len := 1) (pc' := 133) mJ_283 (by decide +kernel) (ns_aload_n 1 rfl rfl) rfl ?_
    refine nk_getC (f := (4, 2, 1280)) (x := 9) (len := 3) (ci := 2) (k := 2) (pc' := 136) ja_okT mJ_283 (by decide +kernel) (by decide +kernel) (by decide +kernel) (by decide) t_l0 rfl ?_
    refine nk_p (i := .iload_n 3) (len := 1) (pc' := 137) mJ_283 (by decide +kernel) (ns_iload_n 0 rfl rfl) rfl ?_
    obtain ⟨h36, hr⟩ := nk_cke hr
    refine nk_lald (len := 1) (N := 1280) (pc' := 138) mJ_283 (by decide +kernel) t35 h36.1 h36.2 rfl rfl ?_
    refine nk_p (i := .l2i) (len := 1) (pc' := 139) mJ_283 (by decide +kernel) ns_l2i rfl ?_
    refine nk_p (i := .aload_n 0) (len := 1) (pc' := 140) mJ_283 (by decide +kernel) (ns_aload_n 1 rfl rfl) rfl ?_
    refine nk_getM (cj := 3) (z := 0) (x := 41) (len := 3) (ci := 2) (k := 1) (pc' := 143) ja_okT mJ_283 (by decide +kernel) (by decide +kernel) (by decide +kernel) t_l0 rfl (fun t37 => ?_)
    refine nk_getC (f := (4, 1, 1024)) (x := 199) (len := 3) (ci := 3) (k := 6) (pc' := 146) ja_okT mJ_283 (by decide +kernel) (by decide +kernel) (by decide +kernel) (by decide) t37 rfl ?_
    have t38 : nk_ar ja_Tt (ja_c (S.2 l0 1) 6) = some (1, 1024) := nk_ta ja_okT t37 (by decide +kernel)
    refine nk_p (i := .iload_n 1) (len := 1) (pc' := 147) mJ_283 (by decide +kernel) (ns_iload_n 2 rfl rfl) rfl ?_
    refine nk_iald (len := 1) (N := 1024) (pc' := 148) mJ_283 (by decide +kernel) t38 h3.1 h3.2 rfl rfl ?_
    refine nk_p (i := .iadd) (len := 1) (pc' := 149) mJ_283 (by decide +kernel) ns_iadd rfl ?_
    obtain ⟨r39, S40, h41, hr⟩ := nk_bde hr
    refine nk_callS (ci := 0) (n := 1) (x := 147) (len := 3) (j' := 274) (q' := 2) (r := r39) (S' := S40) (L2 := [(0, nk_i (nk_w ((nk_w (S.1 (ja_c l0 2) v4.toNat)) + (S.1 (ja_c (S.2 l0 1) 6) l1.toNat))))]) (rest := [nk_i v4, nk_r (ja_c l0 2)]) (st' := [nk_l r39, nk_i v4, nk_r (ja_c l0 2)]) (pc' := 152) mJ_283 (by decide +kernel) (by decide +kernel) (Nat.le_of_ble_eq_true rfl) rfl rfl (Nat.le_of_ble_eq_true rfl) mJ_274 (Nat.le_of_ble_eq_true rfl) ja_Tpos rfl (ja_X2_intCell_ok zs _ _ _ h41) rfl ?_
    obtain ⟨S42, h43, hr⟩ := nk_lte hr
    refine nk_last (len := 1) (N := 1280) (pc' := 153) mJ_283 (by decide +kernel) t35 h36.1 h36.2 rfl rfl h43 ?_
    refine nk_p (i := .goto 72) (len := 3) (pc' := 225) mJ_283 (by decide +kernel) (ns_goto (by decide +kernel)) rfl ?_
    refine nk_sub [1] (L' := [(0, nk_r l0)]) rfl ?_
    exact ja_X2_move_b225_ok zs _ _ _ t_l0 hr
  have hr := nk_ifn hc4 hr
  by_cases hc5 : l2 = 5
  · have hr := nk_ifp hc5 hr
    refine nk_p (i := .tableswitch 162 0 6 #[41, 60, 71, 84, 108, 137, 154]) (len := 41) (pc' := 156) mJ_283 (by decide +kernel) (ns_tsw (V := 5) hc5 (by decide +kernel)) rfl ?_
    refine nk_p (i := .aload_n 0) (len := 1) (pc' := 157) mJ_283 (by decide +kernel) (ns_aload_n 1 rfl rfl) rfl ?_
    refine nk_p (i := .aload_n 0) (len := 1) (pc' := 158) mJ_283 (by decide +kernel) (ns_aload_n 1 rfl rfl) rfl ?_
    refine nk_getC (f := (4, 2, 1280)) (x := 9) (len := 3) (ci := 2) (k := 2) (pc' := 161) ja_okT mJ_283 (by decide +kernel) (by decide +kernel) (by decide +kernel) (by decide) t_l0 rfl ?_
    have t44 : nk_ar ja_Tt (ja_c l0 2) = some (2, 1280) := nk_ta ja_okT t_l0 (by decide +kernel)
    refine nk_p (i := .aload_n 0) (len := 1) (pc' := 162) mJ_283 (by decide +kernel) (ns_aload_n 1 rfl rfl) rfl ?_
    refine nk_p (i := .iconst 0) (len := 1) (pc' := 163) mJ_283 (by decide +kernel) (ns_iconst (c := 0) (by decide +kernel)) rfl ?_
    obtain ⟨r45, S46, h47, hr⟩ := nk_bde hr
    refine nk_callV (ci := 2) (n := 1) (x := 177) (len := 3) (j' := 271) (q' := 1) (r := r45) (S' := S46) (L2 := [(0, nk_r l0), (1, nk_i 0)]) (rest := [nk_r (ja_c l0 2), nk_r l0]) (st' := [nk_i r45, nk_r (ja_c l0 2), nk_r l0]) (pc' := 166) mJ_283 (by decide +kernel) (by decide +kernel) rfl rfl t_l0 (Nat.le_of_ble_eq_true rfl) mJ_271 (Nat.le_of_ble_eq_true rfl) rfl (ja_X2_fromTop_ok zs _ _ _ _ t_l0 h47) rfl ?_
    obtain ⟨h48, hr⟩ := nk_cke hr
    refine nk_lald (len := 1) (N := 1280) (pc' := 167) mJ_283 (by decide +kernel) t44 h48.1 h48.2 rfl rfl ?_
    obtain ⟨r49, S50, h51, hr⟩ := nk_bde hr
    refine nk_callV (ci := 2) (n := 1) (x := 189) (len := 3) (j' := 288) (q' := 0) (r := r49) (S' := S50) (L2 := [(0, nk_r l0), (1, nk_l (S46.1 (ja_c l0 2) r45.toNat))]) (rest := []) (st' := []) (pc' := 170) mJ_283 (by decide +kernel) (by decide +kernel) rfl rfl t_l0 (Nat.le_of_ble_eq_true rfl) mJ_288 (Nat.le_of_ble_eq_true rfl) rfl (ja_X2_push_ok zs _ _ _ _ t_l0 h51) rfl ?_
    refine nk_p (i := .goto 55) (len := 3) (pc' := 225) mJ_283 (by decide +kernel) (ns_goto (by decide +kernel)) rfl ?_
    refine nk_sub [1] (L' := [(0, nk_r l0)]) rfl ?_
    exact ja_X2_move_b225_ok zs _ _ _ t_l0 hr
  have hr := nk_ifn hc5 hr
  by_cases hc6 : l2 = 6
  · have hr := nk_ifp hc6 hr
    refine nk_p (i := .tableswitch 162 0 6 #[41, 60, 71, 84, 108, 137, 154]) (len := 41) (pc' := 173) mJ_283 (by decide +kernel) (ns_tsw (V := 6) hc6 (by decide +kernel)) rfl ?_
    refine nk_p (i := .aload_n 0) (len := 1) (pc' := 174) mJ_283 (by decide +kernel) (ns_aload_n 1 rfl rfl) rfl ?_
    refine nk_p (i := .iconst 1) (len := 1) (pc' := 175) mJ_283 (by decide +kernel) (ns_iconst (c := 1) (by decide +kernel)) rfl ?_
    obtain ⟨r52, S53, h54, hr⟩ := nk_bde hr
    refine nk_callV (ci := 2) (n := 1) (x := 186) (len := 3) (j' := 266) (q' := 0) (r := r52) (S' := S53) (L2 := [(0, nk_r l0), (1, nk_i 1)]) (rest := []) (st' := []) (pc' := 178) mJ_283 (by decide +kernel) (by decide +kernel) rfl rfl t_l0 (Nat.le_of_ble_eq_true rfl) mJ_266 (Nat.le_of_ble_eq_true rfl) rfl (ja_X2_drop_ok zs _ _ _ _ t_l0 h54) rfl ?_
    refine nk_p (i := .goto 47) (len := 3) (pc' := 225) mJ_283 (by decide +kernel) (ns_goto (by decide +kernel)) rfl ?_
    refine nk_sub [1] (L' := [(0, nk_r l0)]) rfl ?_
    exact ja_X2_move_b225_ok zs _ _ _ t_l0 hr
  have hr := nk_ifn hc6 hr
  refine nk_p (i := .tableswitch 162 0 6 #[41, 60, 71, 84, 108, 137, 154]) (len := 41) (pc' := 181) mJ_283 (by decide +kernel) (ns_tsd (by omega) (by decide +kernel)) rfl ?_
  refine nk_p (i := .aload_n 0) (len := 1) (pc' := 182) mJ_283 (by decide +kernel) (ns_aload_n 1 rfl rfl) rfl ?_
  refine nk_getC (f := (4, 2, 1280)) (x := 9) (len := 3) (ci := 2) (k := 2) (pc' := 185) ja_okT mJ_283 (by decide +kernel) (by decide +kernel) (by decide +kernel) (by decide) t_l0 rfl ?_
  have t55 : nk_ar ja_Tt (ja_c l0 2) = some (2, 1280) := nk_ta ja_okT t_l0 (by decide +kernel)
  refine nk_p (i := .aload_n 0) (len := 1) (pc' := 186) mJ_283 (by decide +kernel) (ns_aload_n 1 rfl rfl) rfl ?_
  refine nk_p (i := .iconst 0) (len := 1) (pc' := 187) mJ_283 (by decide +kernel) (ns_iconst (c := 0) (by decide +kernel)) rfl ?_
  obtain ⟨r56, S57, h58, hr⟩ := nk_bde hr
  refine nk_callV (ci := 2) (n := 1) (x := 177) (len := 3) (j' := 271) (q' := 1) (r := r56) (S' := S57) (L2 := [(0, nk_r l0), (1, nk_i 0)]) (rest := [nk_r (ja_c l0 2)]) (st' := [nk_i r56, nk_r (ja_c l0 2)]) (pc' := 190) mJ_283 (by decide +kernel) (by decide +kernel) rfl rfl t_l0 (Nat.le_of_ble_eq_true rfl) mJ_271 (Nat.le_of_ble_eq_true rfl) rfl (ja_X2_fromTop_ok zs _ _ _ _ t_l0 h58) rfl ?_
  obtain ⟨h59, hr⟩ := nk_cke hr
  refine nk_lald (len := 1) (N := 1280) (pc' := 191) mJ_283 (by decide +kernel) t55 h59.1 h59.2 rfl rfl ?_
  obtain ⟨v60, h61, hr⟩ := nk_lte hr
  refine nk_p (i := .lstore 4) (len := 2) (pc' := 193) mJ_283 (by decide +kernel) (ns_lstore (L' := [(4, nk_l v60), (3, nk_i v4), (0, nk_r l0), (1, nk_i l1), (2, nk_i l2)]) h61 rfl (by decide +kernel)) rfl ?_
  refine nk_p (i := .aload_n 0) (len := 1) (pc' := 194) mJ_283 (by decide +kernel) (ns_aload_n 2 rfl rfl) rfl ?_
  refine nk_getC (f := (4, 2, 1280)) (x := 9) (len := 3) (ci := 2) (k := 2) (pc' := 197) ja_okT mJ_283 (by decide +kernel) (by decide +kernel) (by decide +kernel) (by decide) t_l0 rfl ?_
  refine nk_p (i := .aload_n 0) (len := 1) (pc' := 198) mJ_283 (by decide +kernel) (ns_aload_n 2 rfl rfl) rfl ?_
  refine nk_p (i := .iconst 0) (len := 1) (pc' := 199) mJ_283 (by decide +kernel) (ns_iconst (c := 0) (by decide +kernel)) rfl ?_
  obtain ⟨r62, S63, h64, hr⟩ := nk_bde hr
  refine nk_callV (ci := 2) (n := 1) (x := 177) (len := 3) (j' := 271) (q' := 1) (r := r62) (S' := S63) (L2 := [(0, nk_r l0), (1, nk_i 0)]) (rest := [nk_r (ja_c l0 2)]) (st' := [nk_i r62, nk_r (ja_c l0 2)]) (pc' := 202) mJ_283 (by decide +kernel) (by decide +kernel) rfl rfl t_l0 (Nat.le_of_ble_eq_true rfl) mJ_271 (Nat.le_of_ble_eq_true rfl) rfl (ja_X2_fromTop_ok zs _ _ _ _ t_l0 h64) rfl ?_
  refine nk_p (i := .aload_n 0) (len := 1) (pc' := 203) mJ_283 (by decide +kernel) (ns_aload_n 2 rfl rfl) rfl ?_
  refine nk_getC (f := (4, 2, 1280)) (x := 9) (len := 3) (ci := 2) (k := 2) (pc' := 206) ja_okT mJ_283 (by decide +kernel) (by decide +kernel) (by decide +kernel) (by decide) t_l0 rfl ?_
  refine nk_p (i := .aload_n 0) (len := 1) (pc' := 207) mJ_283 (by decide +kernel) (ns_aload_n 2 rfl rfl) rfl ?_
  refine nk_p (i := .iconst 1) (len := 1) (pc' := 208) mJ_283 (by decide +kernel) (ns_iconst (c := 1) (by decide +kernel)) rfl ?_
  obtain ⟨r65, S66, h67, hr⟩ := nk_bde hr
  refine nk_callV (ci := 2) (n := 1) (x := 177) (len := 3) (j' := 271) (q' := 1) (r := r65) (S' := S66) (L2 := [(0, nk_r l0), (1, nk_i 1)]) (rest := [nk_r (ja_c l0 2), nk_i r62, nk_r (ja_c l0 2)]) (st' := [nk_i r65, nk_r (ja_c l0 2), nk_i r62, nk_r (ja_c l0 2)]) (pc' := 211) mJ_283 (by decide +kernel) (by decide +kernel) rfl rfl t_l0 (Nat.le_of_ble_eq_true rfl) mJ_271 (Nat.le_of_ble_eq_true rfl) rfl (ja_X2_fromTop_ok zs _ _ _ _ t_l0 h67) rfl ?_
  obtain ⟨h68, hr⟩ := nk_cke hr
  refine nk_lald (len := 1) (N := 1280) (pc' := 212) mJ_283 (by decide +kernel) t55 h68.1 h68.2 rfl rfl ?_
  obtain ⟨h69, hr⟩ := nk_cke hr
  obtain ⟨S70, h71, hr⟩ := nk_lte hr
  refine nk_last (len := 1) (N := 1280) (pc' := 213) mJ_283 (by decide +kernel) t55 h69.1 h69.2 rfl rfl h71 ?_
  refine nk_p (i := .aload_n 0) (len := 1) (pc' := 214) mJ_283 (by decide +kernel) (ns_aload_n 2 rfl rfl) rfl ?_
  refine nk_getC (f := (4, 2, 1280)) (x := 9) (len := 3) (ci := 2) (k := 2) (pc' := 217) ja_okT mJ_283 (by decide +kernel) (by decide +kernel) (by decide +kernel) (by decide) t_l0 rfl ?_
  refine nk_p (i := .aload_n 0) (len := 1) (pc' := 218) mJ_283 (by decide +kernel) (ns_aload_n 2 rfl rfl) rfl ?_
  refine nk_p (i := .iconst 1) (len := 1) (pc' := 219) mJ_283 (by decide +kernel) (ns_iconst (c := 1) (by decide +kernel)) rfl ?_
  obtain ⟨r72, S73, h74, hr⟩ := nk_bde hr
  refine nk_callV (ci := 2) (n := 1) (x := 177) (len := 3) (j' := 271) (q' := 1) (r := r72) (S' := S73) (L2 := [(0, nk_r l0), (1, nk_i 1)]) (rest := [nk_r (ja_c l0 2)]) (st' := [nk_i r72, nk_r (ja_c l0 2)]) (pc' := 222) mJ_283 (by decide +kernel) (by decide +kernel) rfl rfl t_l0 (Nat.le_of_ble_eq_true rfl) mJ_271 (Nat.le_of_ble_eq_true rfl) rfl (ja_X2_fromTop_ok zs _ _ _ _ t_l0 h74) rfl ?_
  refine nk_p (i := .lload 4) (len := 2) (pc' := 224) mJ_283 (by decide +kernel) (ns_lload 0 rfl) rfl ?_
  obtain ⟨h75, hr⟩ := nk_cke hr
  obtain ⟨S76, h77, hr⟩ := nk_lte hr
  refine nk_last (len := 1) (N := 1280) (pc' := 225) mJ_283 (by decide +kernel) t55 h75.1 h75.2 rfl rfl h77 ?_
  refine nk_sub [2] (L' := [(0, nk_r l0)]) rfl ?_
  exact ja_X2_move_b225_ok zs _ _ _ t_l0 hr
/-! SafeCode$Machine numberAt (I)I -/
noncomputable def ja_X2_numberAt (l0 : Nat) (l1 : Int) (S : nk_S) : Option (Int × nk_S) :=
  nk_bd (ja_X2_fromTop l0 l1 S) fun r2 S3 =>
  if 0 ≤ r2 ∧ r2 < 1280 then
  some ((nk_w (S3.1 (ja_c l0 2) r2.toNat)), S3)
  else none
theorem ja_X2_numberAt_ok (zs : List Int32) : ∀ (l0 : Nat) (l1 : Int) (S : nk_S) (R : Int × nk_S), nk_cl ja_Tt l0 = some 2 → ja_X2_numberAt l0 l1 S = some R → nk_K ja_Tt mi_Γ (mi_ev zs) 1 286 0 [(0, nk_r l0), (1, nk_i l1)] [] S R := by
  intro l0 l1 S R t_l0 hr
  unfold ja_X2_numberAt at hr
  refine nk_p (i := .aload_n 0) (len := 1) (pc' := 1) mJ_286 (by decide +kernel) (ns_aload_n 0 rfl rfl) rfl ?_
  refine nk_getC (f := (4, 2, 1280)) (x := 9) (len := 3) (ci := 2) (k := 2) (pc' := 4) ja_okT mJ_286 (by decide +kernel) (by decide +kernel) (by decide +kernel) (by decide) t_l0 rfl ?_
  have t1 : nk_ar ja_Tt (ja_c l0 2) = some (2, 1280) := nk_ta ja_okT t_l0 (by decide +kernel)
  refine nk_p (i := .aload_n 0) (len := 1) (pc' := 5) mJ_286 (by decide +kernel) (ns_aload_n 0 rfl rfl) rfl ?_
  refine nk_p (i := .iload_n 1) (len := 1) (pc' := 6) mJ_286 (by decide +kernel) (ns_iload_n 1 rfl rfl) rfl ?_
  obtain ⟨r2, S3, h4, hr⟩ := nk_bde hr
  refine nk_callV (ci := 2) (n := 1) (x := 177) (len := 3) (j' := 271) (q' := 1) (r := r2) (S' := S3) (L2 := [(0, nk_r l0), (1, nk_i l1)]) (rest := [nk_r (ja_c l0 2)]) (st' := [nk_i r2, nk_r (ja_c l0 2)]) (pc' := 9) mJ_286 (by decide +kernel) (by decide +kernel) rfl rfl t_l0 (Nat.le_of_ble_eq_true rfl) mJ_271 (Nat.le_of_ble_eq_true rfl) rfl (ja_X2_fromTop_ok zs _ _ _ _ t_l0 h4) rfl ?_
  obtain ⟨h5, hr⟩ := nk_cke hr
  refine nk_lald (len := 1) (N := 1280) (pc' := 10) mJ_286 (by decide +kernel) t1 h5.1 h5.2 rfl rfl ?_
  refine nk_p (i := .l2i) (len := 1) (pc' := 11) mJ_286 (by decide +kernel) ns_l2i rfl ?_
  cases hr
  exact nk_iret (ty := .int) (len := 1) mJ_286 (by decide +kernel) rfl (nk_nar_i _)
/-! SafeCode$Machine leave (IJ)I -/
noncomputable def ja_X2_leave (l0 : Nat) (l1 : Int) (l2 : Int) (S : nk_S) : Option (Int × nk_S) :=
  nk_bd (ja_X2_drop l0 l1 S) fun r1 S2 =>
  nk_bd (ja_X2_push l0 l2 S2) fun r4 S5 =>
  nk_bd (ja_X2_next l0 S5) fun r7 S8 =>
  some (r7, S8)
theorem ja_X2_leave_ok (zs : List Int32) : ∀ (l0 : Nat) (l1 : Int) (l2 : Int) (S : nk_S) (R : Int × nk_S), nk_cl ja_Tt l0 = some 2 → ja_X2_leave l0 l1 l2 S = some R → nk_K ja_Tt mi_Γ (mi_ev zs) 1 278 0 [(0, nk_r l0), (1, nk_i l1), (2, nk_l l2)] [] S R := by
  intro l0 l1 l2 S R t_l0 hr
  unfold ja_X2_leave at hr
  refine nk_p (i := .aload_n 0) (len := 1) (pc' := 1) mJ_278 (by decide +kernel) (ns_aload_n 0 rfl rfl) rfl ?_
  refine nk_p (i := .iload_n 1) (len := 1) (pc' := 2) mJ_278 (by decide +kernel) (ns_iload_n 1 rfl rfl) rfl ?_
  obtain ⟨r1, S2, h3, hr⟩ := nk_bde hr
  refine nk_callV (ci := 2) (n := 1) (x := 186) (len := 3) (j' := 266) (q' := 0) (r := r1) (S' := S2) (L2 := [(0, nk_r l0), (1, nk_i l1)]) (rest := []) (st' := []) (pc' := 5) mJ_278 (by decide +kernel) (by decide +kernel) rfl rfl t_l0 (Nat.le_of_ble_eq_true rfl) mJ_266 (Nat.le_of_ble_eq_true rfl) rfl (ja_X2_drop_ok zs _ _ _ _ t_l0 h3) rfl ?_
  refine nk_p (i := .aload_n 0) (len := 1) (pc' := 6) mJ_278 (by decide +kernel) (ns_aload_n 0 rfl rfl) rfl ?_
  refine nk_p (i := .lload_n 2) (len := 1) (pc' := 7) mJ_278 (by decide +kernel) (ns_lload_n 2 rfl rfl) rfl ?_
  obtain ⟨r4, S5, h6, hr⟩ := nk_bde hr
  refine nk_callV (ci := 2) (n := 1) (x := 189) (len := 3) (j' := 288) (q' := 0) (r := r4) (S' := S5) (L2 := [(0, nk_r l0), (1, nk_l l2)]) (rest := []) (st' := []) (pc' := 10) mJ_278 (by decide +kernel) (by decide +kernel) rfl rfl t_l0 (Nat.le_of_ble_eq_true rfl) mJ_288 (Nat.le_of_ble_eq_true rfl) rfl (ja_X2_push_ok zs _ _ _ _ t_l0 h6) rfl ?_
  refine nk_p (i := .aload_n 0) (len := 1) (pc' := 11) mJ_278 (by decide +kernel) (ns_aload_n 0 rfl rfl) rfl ?_
  obtain ⟨r7, S8, h9, hr⟩ := nk_bde hr
  refine nk_callV (ci := 2) (n := 0) (x := 193) (len := 3) (j' := 284) (q' := 1) (r := r7) (S' := S8) (L2 := [(0, nk_r l0)]) (rest := []) (st' := [nk_i r7]) (pc' := 14) mJ_278 (by decide +kernel) (by decide +kernel) rfl rfl t_l0 (Nat.le_of_ble_eq_true rfl) mJ_284 (Nat.le_of_ble_eq_true rfl) rfl (ja_X2_next_ok zs _ _ _ t_l0 h9) rfl ?_
  cases hr
  exact nk_iret (ty := .int) (len := 1) mJ_278 (by decide +kernel) rfl (nk_nar_i _)
/-! SafeCode$Machine make (III)I -/
noncomputable def ja_X2_make_b35 (l0 : Nat) (l1 : Int) (S : nk_S) : Option (Int × nk_S) :=
  nk_bd (ja_X2_finish l0 3 l1 S) fun r1 S2 =>
  some (0, S2)
theorem ja_X2_make_b35_ok (zs : List Int32) : ∀ (l0 : Nat) (l1 : Int) (S : nk_S) (R : Int × nk_S), nk_cl ja_Tt l0 = some 2 → ja_X2_make_b35 l0 l1 S = some R → nk_K ja_Tt mi_Γ (mi_ev zs) 1 281 35 [(0, nk_r l0), (1, nk_i l1)] [] S R := by
  intro l0 l1 S R t_l0 hr
  unfold ja_X2_make_b35 at hr
  refine nk_p (i := .aload_n 0) (len := 1) (pc' := 36) mJ_281 (by decide +kernel) (ns_aload_n 0 rfl rfl) rfl ?_
  refine nk_p (i := .iconst 3) (len := 1) (pc' := 37) mJ_281 (by decide +kernel) (ns_iconst (c := 3) (by decide +kernel)) rfl ?_
  refine nk_p (i := .iload_n 1) (len := 1) (pc' := 38) mJ_281 (by decide +kernel) (ns_iload_n 1 rfl rfl) rfl ?_
  obtain ⟨r1, S2, h3, hr⟩ := nk_bde hr
  refine nk_callV (ci := 2) (n := 2) (x := 85) (len := 3) (j' := 270) (q' := 0) (r := r1) (S' := S2) (L2 := [(0, nk_r l0), (1, nk_i 3), (2, nk_i l1)]) (rest := []) (st' := []) (pc' := 41) mJ_281 (by decide +kernel) (by decide +kernel) rfl rfl t_l0 (Nat.le_of_ble_eq_true rfl) mJ_270 (Nat.le_of_ble_eq_true rfl) rfl (ja_X2_finish_ok zs _ _ _ _ _ t_l0 h3) rfl ?_
  refine nk_p (i := .iconst 0) (len := 1) (pc' := 42) mJ_281 (by decide +kernel) (ns_iconst (c := 0) (by decide +kernel)) rfl ?_
  cases hr
  exact nk_iret (ty := .int) (len := 1) mJ_281 (by decide +kernel) rfl (nk_nar_i _)
noncomputable def ja_X2_make_b46 (rec46 : Nat → Int → Int → Int → Int → nk_S → Option (Int × nk_S)) (l0 : Nat) (l2 : Int) (l3 : Int) (l4 : Int) (l5 : Int) (S : nk_S) : Option (Int × nk_S) :=
  if l3 ≤ l5 then
    if 0 ≤ (S.1 l0 8) ∧ (S.1 l0 8) < 2000 then
    nk_lt (nk_wi S (ja_c l0 6) (S.1 l0 8).toNat l2) fun S3 =>
    nk_lt (nk_wi S3 l0 8 (nk_w ((S3.1 l0 8) + 1))) fun S5 =>
    if 0 ≤ (S5.1 l0 8) ∧ (S5.1 l0 8) < 2001 then
    nk_lt (nk_wi S5 (ja_c l0 7) (S5.1 l0 8).toNat (nk_w (l4 + l3))) fun S9 =>
    some ((S9.1 l0 8), S9)
    else none
    else none
  else
    if 0 ≤ (nk_w (l4 + l5)) ∧ (nk_w (l4 + l5)) < 12000 then
    nk_lt (nk_wi S (ja_c l0 9) (nk_w (l4 + l5)).toNat 0) fun S13 =>
    nk_lt (nk_w (l5 + 1)) fun v15 =>
    rec46 l0 l2 l3 l4 v15 S13
    else none
theorem ja_X2_make_b46_ok (zs : List Int32) {rec46 : Nat → Int → Int → Int → Int → nk_S → Option (Int × nk_S)} (hrec46 : ∀ (l0 : Nat) (l2 : Int) (l3 : Int) (l4 : Int) (l5 : Int) (S : nk_S) (R : Int × nk_S), nk_cl ja_Tt l0 = some 2 → rec46 l0 l2 l3 l4 l5 S = some R → nk_K ja_Tt mi_Γ (mi_ev zs) 1 281 46 [(0, nk_r l0), (2, nk_i l2), (3, nk_i l3), (4, nk_i l4), (5, nk_i l5)] [] S R) : ∀ (l0 : Nat) (l2 : Int) (l3 : Int) (l4 : Int) (l5 : Int) (S : nk_S) (R : Int × nk_S), nk_cl ja_Tt l0 = some 2 → ja_X2_make_b46 rec46 l0 l2 l3 l4 l5 S = some R → nk_K ja_Tt mi_Γ (mi_ev zs) 1 281 46 [(0, nk_r l0), (2, nk_i l2), (3, nk_i l3), (4, nk_i l4), (5, nk_i l5)] [] S R := by
  intro l0 l2 l3 l4 l5 S R t_l0 hr
  unfold ja_X2_make_b46 at hr
  refine nk_p (i := .iload 5) (len := 2) (pc' := 48) mJ_281 (by decide +kernel) (ns_iload 4 rfl) rfl ?_
  refine nk_p (i := .iload_n 3) (len := 1) (pc' := 49) mJ_281 (by decide +kernel) (ns_iload_n 2 rfl rfl) rfl ?_
  refine nk_icmp (c := .ge) (off := 20) (len := 3) (t := 69) (pc' := 52) mJ_281 (by decide +kernel) (by decide +kernel) rfl (fun hc => ?_) (fun hc => ?_)
  · have hr := nk_ifp (c := l3 ≤ l5) hc hr
    refine nk_p (i := .aload_n 0) (len := 1) (pc' := 70) mJ_281 (by decide +kernel) (ns_aload_n 0 rfl rfl) rfl ?_
    refine nk_getC (f := (4, 1, 2000)) (x := 22) (len := 3) (ci := 2) (k := 6) (pc' := 73) ja_okT mJ_281 (by decide +kernel) (by decide +kernel) (by decide +kernel) (by decide) t_l0 rfl ?_
    have t1 : nk_ar ja_Tt (ja_c l0 6) = some (1, 2000) := nk_ta ja_okT t_l0 (by decide +kernel)
    refine nk_p (i := .aload_n 0) (len := 1) (pc' := 74) mJ_281 (by decide +kernel) (ns_aload_n 0 rfl rfl) rfl ?_
    refine nk_getI (y := (0, 0)) (x := 55) (len := 3) (ci := 2) (k := 8) (pc' := 77) ja_okT mJ_281 (by decide +kernel) (by decide +kernel) (by decide +kernel) t_l0 rfl ?_
    refine nk_p (i := .iload_n 2) (len := 1) (pc' := 78) mJ_281 (by decide +kernel) (ns_iload_n 1 rfl rfl) rfl ?_
    obtain ⟨h2, hr⟩ := nk_cke hr
    obtain ⟨S3, h4, hr⟩ := nk_lte hr
    refine nk_iast (len := 1) (N := 2000) (pc' := 79) mJ_281 (by decide +kernel) t1 h2.1 h2.2 rfl rfl h4 ?_
    refine nk_p (i := .aload_n 0) (len := 1) (pc' := 80) mJ_281 (by decide +kernel) (ns_aload_n 0 rfl rfl) rfl ?_
    refine nk_p (i := .dup) (len := 1) (pc' := 81) mJ_281 (by decide +kernel) (ns_dup rfl) rfl ?_
    refine nk_getI (y := (0, 0)) (x := 55) (len := 3) (ci := 2) (k := 8) (pc' := 84) ja_okT mJ_281 (by decide +kernel) (by decide +kernel) (by decide +kernel) t_l0 rfl ?_
    refine nk_p (i := .iconst 1) (len := 1) (pc' := 85) mJ_281 (by decide +kernel) (ns_iconst (c := 1) (by decide +kernel)) rfl ?_
    refine nk_p (i := .iadd) (len := 1) (pc' := 86) mJ_281 (by decide +kernel) ns_iadd rfl ?_
    obtain ⟨S5, h6, hr⟩ := nk_lte hr
    refine nk_putI (y := (0, 0)) (ty := .int) (x := 55) (len := 3) (ci := 2) (k := 8) (pc' := 89) ja_okT mJ_281 (by decide +kernel) (by decide +kernel) (by decide +kernel) t_l0 (Or.inl rfl) rfl h6 ?_
    refine nk_p (i := .aload_n 0) (len := 1) (pc' := 90) mJ_281 (by decide +kernel) (ns_aload_n 0 rfl rfl) rfl ?_
    refine nk_getC (f := (4, 1, 2001)) (x := 25) (len := 3) (ci := 2) (k := 7) (pc' := 93) ja_okT mJ_281 (by decide +kernel) (by decide +kernel) (by decide +kernel) (by decide) t_l0 rfl ?_
    have t7 : nk_ar ja_Tt (ja_c l0 7) = some (1, 2001) := nk_ta ja_okT t_l0 (by decide +kernel)
    refine nk_p (i := .aload_n 0) (len := 1) (pc' := 94) mJ_281 (by decide +kernel) (ns_aload_n 0 rfl rfl) rfl ?_
    refine nk_getI (y := (0, 0)) (x := 55) (len := 3) (ci := 2) (k := 8) (pc' := 97) ja_okT mJ_281 (by decide +kernel) (by decide +kernel) (by decide +kernel) t_l0 rfl ?_
    refine nk_p (i := .iload 4) (len := 2) (pc' := 99) mJ_281 (by decide +kernel) (ns_iload 3 rfl) rfl ?_
    refine nk_p (i := .iload_n 3) (len := 1) (pc' := 100) mJ_281 (by decide +kernel) (ns_iload_n 2 rfl rfl) rfl ?_
    refine nk_p (i := .iadd) (len := 1) (pc' := 101) mJ_281 (by decide +kernel) ns_iadd rfl ?_
    obtain ⟨h8, hr⟩ := nk_cke hr
    obtain ⟨S9, h10, hr⟩ := nk_lte hr
    refine nk_iast (len := 1) (N := 2001) (pc' := 102) mJ_281 (by decide +kernel) t7 h8.1 h8.2 rfl rfl h10 ?_
    refine nk_p (i := .aload_n 0) (len := 1) (pc' := 103) mJ_281 (by decide +kernel) (ns_aload_n 0 rfl rfl) rfl ?_
    refine nk_getI (y := (0, 0)) (x := 55) (len := 3) (ci := 2) (k := 8) (pc' := 106) ja_okT mJ_281 (by decide +kernel) (by decide +kernel) (by decide +kernel) t_l0 rfl ?_
    cases hr
    exact nk_iret (ty := .int) (len := 1) mJ_281 (by decide +kernel) rfl (nk_nar_i _)
  · have hr := nk_ifn (c := l3 ≤ l5) hc hr
    refine nk_p (i := .aload_n 0) (len := 1) (pc' := 53) mJ_281 (by decide +kernel) (ns_aload_n 0 rfl rfl) rfl ?_
    refine nk_getC (f := (4, 1, 12000)) (x := 28) (len := 3) (ci := 2) (k := 9) (pc' := 56) ja_okT mJ_281 (by decide +kernel) (by decide +kernel) (by decide +kernel) (by decide) t_l0 rfl ?_
    have t11 : nk_ar ja_Tt (ja_c l0 9) = some (1, 12000) := nk_ta ja_okT t_l0 (by decide +kernel)
    refine nk_p (i := .iload 4) (len := 2) (pc' := 58) mJ_281 (by decide +kernel) (ns_iload 3 rfl) rfl ?_
    refine nk_p (i := .iload 5) (len := 2) (pc' := 60) mJ_281 (by decide +kernel) (ns_iload 4 rfl) rfl ?_
    refine nk_p (i := .iadd) (len := 1) (pc' := 61) mJ_281 (by decide +kernel) ns_iadd rfl ?_
    refine nk_p (i := .iconst 0) (len := 1) (pc' := 62) mJ_281 (by decide +kernel) (ns_iconst (c := 0) (by decide +kernel)) rfl ?_
    obtain ⟨h12, hr⟩ := nk_cke hr
    obtain ⟨S13, h14, hr⟩ := nk_lte hr
    refine nk_iast (len := 1) (N := 12000) (pc' := 63) mJ_281 (by decide +kernel) t11 h12.1 h12.2 rfl rfl h14 ?_
    obtain ⟨v15, h16, hr⟩ := nk_lte hr
    refine nk_p (i := .iinc 5 1) (len := 3) (pc' := 66) mJ_281 (by decide +kernel) (ns_iinc (c := 1) (L' := [(5, nk_i v15), (0, nk_r l0), (2, nk_i l2), (3, nk_i l3), (4, nk_i l4)]) 4 rfl (by decide +kernel) h16 rfl (by decide +kernel)) rfl ?_
    refine nk_p (i := .goto (-20)) (len := 3) (pc' := 46) mJ_281 (by decide +kernel) (ns_goto (by decide +kernel)) rfl ?_
    refine nk_sub [1, 2, 3, 4, 0] (L' := [(0, nk_r l0), (2, nk_i l2), (3, nk_i l3), (4, nk_i l4), (5, nk_i v15)]) rfl ?_
    exact hrec46 _ _ _ _ _ _ _ t_l0 hr
noncomputable def ja_X2_make_L46 : Nat → Nat → Int → Int → Int → Int → nk_S → Option (Int × nk_S)
  | 0, _, _, _, _, _, _ => none
  | n + 1, l0, l2, l3, l4, l5, S => ja_X2_make_b46 (ja_X2_make_L46 n) l0 l2 l3 l4 l5 S
theorem ja_X2_make_L46_ok (zs : List Int32) : ∀ n : Nat, ∀ (l0 : Nat) (l2 : Int) (l3 : Int) (l4 : Int) (l5 : Int) (S : nk_S) (R : Int × nk_S), nk_cl ja_Tt l0 = some 2 → ja_X2_make_L46 n l0 l2 l3 l4 l5 S = some R → nk_K ja_Tt mi_Γ (mi_ev zs) 1 281 46 [(0, nk_r l0), (2, nk_i l2), (3, nk_i l3), (4, nk_i l4), (5, nk_i l5)] [] S R := by
  intro n
  induction n with
  | zero => intro _ _ _ _ _ _ _ _ hr; cases hr
  | succ n ih => intro l0 l2 l3 l4 l5 S R t_l0 hr; exact ja_X2_make_b46_ok zs ih l0 l2 l3 l4 l5 S R t_l0 hr
noncomputable def ja_X2_make (l0 : Nat) (l1 : Int) (l2 : Int) (l3 : Int) (S : nk_S) : Option (Int × nk_S) :=
  if 0 ≤ (S.1 l0 8) ∧ (S.1 l0 8) < 2001 then
  nk_lt (S.1 (ja_c l0 7) (S.1 l0 8).toNat) fun v3 =>
  if 2000 ≤ (S.1 l0 8) then
    ja_X2_make_b35 l0 l1 S
  else
    if l3 < 0 then
      ja_X2_make_b35 l0 l1 S
    else
      if l3 ≤ (nk_w (12000 - v3)) then
        ja_X2_make_L46 nk_big l0 l2 l3 v3 0 S
      else
        ja_X2_make_b35 l0 l1 S
  else none
theorem ja_X2_make_ok (zs : List Int32) : ∀ (l0 : Nat) (l1 : Int) (l2 : Int) (l3 : Int) (S : nk_S) (R : Int × nk_S), nk_cl ja_Tt l0 = some 2 → ja_X2_make l0 l1 l2 l3 S = some R → nk_K ja_Tt mi_Γ (mi_ev zs) 1 281 0 [(0, nk_r l0), (1, nk_i l1), (2, nk_i l2), (3, nk_i l3)] [] S R := by
  intro l0 l1 l2 l3 S R t_l0 hr
  unfold ja_X2_make at hr
  refine nk_p (i := .aload_n 0) (len := 1) (pc' := 1) mJ_281 (by decide +kernel) (ns_aload_n 0 rfl rfl) rfl ?_
  refine nk_getC (f := (4, 1, 2001)) (x := 25) (len := 3) (ci := 2) (k := 7) (pc' := 4) ja_okT mJ_281 (by decide +kernel) (by decide +kernel) (by decide +kernel) (by decide) t_l0 rfl ?_
  have t1 : nk_ar ja_Tt (ja_c l0 7) = some (1, 2001) := nk_ta ja_okT t_l0 (by decide +kernel)
  refine nk_p (i := .aload_n 0) (len := 1) (pc' := 5) mJ_281 (by decide +kernel) (ns_aload_n 0 rfl rfl) rfl ?_
  refine nk_getI (y := (0, 0)) (x := 55) (len := 3) (ci := 2) (k := 8) (pc' := 8) ja_okT mJ_281 (by decide +kernel) (by decide +kernel) (by decide +kernel) t_l0 rfl ?_
  obtain ⟨h2, hr⟩ := nk_cke hr
  refine nk_iald (len := 1) (N := 2001) (pc' := 9) mJ_281 (by decide +kernel) t1 h2.1 h2.2 rfl rfl ?_
  obtain ⟨v3, h4, hr⟩ := nk_lte hr
  refine nk_p (i := .istore 4) (len := 2) (pc' := 11) mJ_281 (by decide +kernel) (ns_istore (L' := [(4, nk_i v3), (0, nk_r l0), (1, nk_i l1), (2, nk_i l2), (3, nk_i l3)]) h4 rfl (by decide +kernel)) rfl ?_
  refine nk_p (i := .aload_n 0) (len := 1) (pc' := 12) mJ_281 (by decide +kernel) (ns_aload_n 1 rfl rfl) rfl ?_
  refine nk_getI (y := (0, 0)) (x := 55) (len := 3) (ci := 2) (k := 8) (pc' := 15) ja_okT mJ_281 (by decide +kernel) (by decide +kernel) (by decide +kernel) t_l0 rfl ?_
  refine nk_p (i := .sipush 2000) (len := 3) (pc' := 18) mJ_281 (by decide +kernel) (ns_sipush (c := 2000) (by decide +kernel)) rfl ?_
  refine nk_icmp (c := .ge) (off := 17) (len := 3) (t := 35) (pc' := 21) mJ_281 (by decide +kernel) (by decide +kernel) rfl (fun hc => ?_) (fun hc => ?_)
  · have hr := nk_ifp (c := 2000 ≤ (S.1 l0 8)) hc hr
    refine nk_sub [1, 2] (L' := [(0, nk_r l0), (1, nk_i l1)]) rfl ?_
    exact ja_X2_make_b35_ok zs _ _ _ _ t_l0 hr
  · have hr := nk_ifn (c := 2000 ≤ (S.1 l0 8)) hc hr
    refine nk_p (i := .iload_n 3) (len := 1) (pc' := 22) mJ_281 (by decide +kernel) (ns_iload_n 4 rfl rfl) rfl ?_
    refine nk_icond (c := .lt) (off := 13) (len := 3) (t := 35) (pc' := 25) mJ_281 (by decide +kernel) (by decide +kernel) rfl (fun hc => ?_) (fun hc => ?_)
    · have hr := nk_ifp (c := l3 < 0) hc hr
      refine nk_sub [1, 2] (L' := [(0, nk_r l0), (1, nk_i l1)]) rfl ?_
      exact ja_X2_make_b35_ok zs _ _ _ _ t_l0 hr
    · have hr := nk_ifn (c := l3 < 0) hc hr
      refine nk_p (i := .iload_n 3) (len := 1) (pc' := 26) mJ_281 (by decide +kernel) (ns_iload_n 4 rfl rfl) rfl ?_
      refine nk_p (i := .sipush 12000) (len := 3) (pc' := 29) mJ_281 (by decide +kernel) (ns_sipush (c := 12000) (by decide +kernel)) rfl ?_
      refine nk_p (i := .iload 4) (len := 2) (pc' := 31) mJ_281 (by decide +kernel) (ns_iload 0 rfl) rfl ?_
      refine nk_p (i := .isub) (len := 1) (pc' := 32) mJ_281 (by decide +kernel) ns_isub rfl ?_
      refine nk_icmp (c := .le) (off := 11) (len := 3) (t := 43) (pc' := 35) mJ_281 (by decide +kernel) (by decide +kernel) rfl (fun hc => ?_) (fun hc => ?_)
      · have hr := nk_ifp (c := l3 ≤ (nk_w (12000 - v3))) hc hr
        refine nk_p (i := .iconst 0) (len := 1) (pc' := 44) mJ_281 (by decide +kernel) (ns_iconst (c := 0) (by decide +kernel)) rfl ?_
        refine nk_p (i := .istore 5) (len := 2) (pc' := 46) mJ_281 (by decide +kernel) (ns_istore (L' := [(5, nk_i 0), (4, nk_i v3), (0, nk_r l0), (1, nk_i l1), (2, nk_i l2), (3, nk_i l3)]) rfl rfl (by decide +kernel)) rfl ?_
        refine nk_sub [2, 4, 5, 1, 0] (L' := [(0, nk_r l0), (2, nk_i l2), (3, nk_i l3), (4, nk_i v3), (5, nk_i 0)]) rfl ?_
        exact ja_X2_make_L46_ok zs nk_big _ _ _ _ _ _ _ t_l0 hr
      · have hr := nk_ifn (c := l3 ≤ (nk_w (12000 - v3))) hc hr
        refine nk_sub [1, 2] (L' := [(0, nk_r l0), (1, nk_i l1)]) rfl ?_
        exact ja_X2_make_b35_ok zs _ _ _ _ t_l0 hr
/-! SafeCode$Machine raise (II)I -/
noncomputable def ja_X2_raise_b21 (l0 : Nat) (l1 : Int) (l2 : Int) (S : nk_S) : Option (Int × nk_S) :=
  nk_bd (ja_X2_make l0 l1 (nk_w (48 + l2)) 0 S) fun r1 S2 =>
  some (r1, S2)
theorem ja_X2_raise_b21_ok (zs : List Int32) : ∀ (l0 : Nat) (l1 : Int) (l2 : Int) (S : nk_S) (R : Int × nk_S), nk_cl ja_Tt l0 = some 2 → ja_X2_raise_b21 l0 l1 l2 S = some R → nk_K ja_Tt mi_Γ (mi_ev zs) 1 289 21 [(0, nk_r l0), (1, nk_i l1), (2, nk_i l2)] [] S R := by
  intro l0 l1 l2 S R t_l0 hr
  unfold ja_X2_raise_b21 at hr
  refine nk_p (i := .aload_n 0) (len := 1) (pc' := 22) mJ_289 (by decide +kernel) (ns_aload_n 0 rfl rfl) rfl ?_
  refine nk_p (i := .iload_n 1) (len := 1) (pc' := 23) mJ_289 (by decide +kernel) (ns_iload_n 1 rfl rfl) rfl ?_
  refine nk_p (i := .bipush 48) (len := 2) (pc' := 25) mJ_289 (by decide +kernel) (ns_bipush (c := 48) (by decide +kernel)) rfl ?_
  refine nk_p (i := .iload_n 2) (len := 1) (pc' := 26) mJ_289 (by decide +kernel) (ns_iload_n 2 rfl rfl) rfl ?_
  refine nk_p (i := .iadd) (len := 1) (pc' := 27) mJ_289 (by decide +kernel) ns_iadd rfl ?_
  refine nk_p (i := .iconst 0) (len := 1) (pc' := 28) mJ_289 (by decide +kernel) (ns_iconst (c := 0) (by decide +kernel)) rfl ?_
  obtain ⟨r1, S2, h3, hr⟩ := nk_bde hr
  refine nk_callV (ci := 2) (n := 3) (x := 217) (len := 3) (j' := 281) (q' := 1) (r := r1) (S' := S2) (L2 := [(0, nk_r l0), (1, nk_i l1), (2, nk_i (nk_w (48 + l2))), (3, nk_i 0)]) (rest := []) (st' := [nk_i r1]) (pc' := 31) mJ_289 (by decide +kernel) (by decide +kernel) rfl rfl t_l0 (Nat.le_of_ble_eq_true rfl) mJ_281 (Nat.le_of_ble_eq_true rfl) rfl (ja_X2_make_ok zs _ _ _ _ _ _ t_l0 h3) rfl ?_
  cases hr
  exact nk_iret (ty := .int) (len := 1) mJ_289 (by decide +kernel) rfl (nk_nar_i _)
noncomputable def ja_X2_raise (l0 : Nat) (l1 : Int) (l2 : Int) (S : nk_S) : Option (Int × nk_S) :=
  if 0 ≤ l1 ∧ l1 < 1024 then
  if (nk_iand (nk_iushr (S.1 (ja_c (ja_c l0 0) 4) l1.toNat) l2) 1) = 0 then
    nk_lt (nk_wi S l0 13 1) fun S4 =>
    ja_X2_raise_b21 l0 l1 l2 S4
  else
    ja_X2_raise_b21 l0 l1 l2 S
  else none
theorem ja_X2_raise_ok (zs : List Int32) : ∀ (l0 : Nat) (l1 : Int) (l2 : Int) (S : nk_S) (R : Int × nk_S), nk_cl ja_Tt l0 = some 2 → ja_X2_raise l0 l1 l2 S = some R → nk_K ja_Tt mi_Γ (mi_ev zs) 1 289 0 [(0, nk_r l0), (1, nk_i l1), (2, nk_i l2)] [] S R := by
  intro l0 l1 l2 S R t_l0 hr
  unfold ja_X2_raise at hr
  refine nk_p (i := .aload_n 0) (len := 1) (pc' := 1) mJ_289 (by decide +kernel) (ns_aload_n 0 rfl rfl) rfl ?_
  refine nk_getC (f := (2, 4, 0)) (x := 45) (len := 3) (ci := 2) (k := 0) (pc' := 4) ja_okT mJ_289 (by decide +kernel) (by decide +kernel) (by decide +kernel) (by decide) t_l0 rfl ?_
  have t1 : nk_cl ja_Tt (ja_c l0 0) = some 4 := nk_tc (y := 0) ja_okT t_l0 (by decide +kernel)
  refine nk_getC (f := (4, 1, 1024)) (x := 212) (len := 3) (ci := 4) (k := 4) (pc' := 7) ja_okT mJ_289 (by decide +kernel) (by decide +kernel) (by decide +kernel) (by decide) t1 rfl ?_
  have t2 : nk_ar ja_Tt (ja_c (ja_c l0 0) 4) = some (1, 1024) := nk_ta ja_okT t1 (by decide +kernel)
  refine nk_p (i := .iload_n 1) (len := 1) (pc' := 8) mJ_289 (by decide +kernel) (ns_iload_n 1 rfl rfl) rfl ?_
  obtain ⟨h3, hr⟩ := nk_cke hr
  refine nk_iald (len := 1) (N := 1024) (pc' := 9) mJ_289 (by decide +kernel) t2 h3.1 h3.2 rfl rfl ?_
  refine nk_p (i := .iload_n 2) (len := 1) (pc' := 10) mJ_289 (by decide +kernel) (ns_iload_n 2 rfl rfl) rfl ?_
  refine nk_p (i := .iushr) (len := 1) (pc' := 11) mJ_289 (by decide +kernel) ns_iushr rfl ?_
  refine nk_p (i := .iconst 1) (len := 1) (pc' := 12) mJ_289 (by decide +kernel) (ns_iconst (c := 1) (by decide +kernel)) rfl ?_
  refine nk_p (i := .iand) (len := 1) (pc' := 13) mJ_289 (by decide +kernel) ns_iand rfl ?_
  refine nk_icond (c := .ne) (off := 8) (len := 3) (t := 21) (pc' := 16) mJ_289 (by decide +kernel) (by decide +kernel) rfl (fun hc => ?_) (fun hc => ?_)
  · have hr := nk_ifn (c := (nk_iand (nk_iushr (S.1 (ja_c (ja_c l0 0) 4) l1.toNat) l2) 1) = 0) hc hr
    exact ja_X2_raise_b21_ok zs _ _ _ _ _ t_l0 hr
  · have hr := nk_ifp (c := (nk_iand (nk_iushr (S.1 (ja_c (ja_c l0 0) 4) l1.toNat) l2) 1) = 0) (Decidable.of_not_not hc) hr
    refine nk_p (i := .aload_n 0) (len := 1) (pc' := 17) mJ_289 (by decide +kernel) (ns_aload_n 0 rfl rfl) rfl ?_
    refine nk_p (i := .iconst 1) (len := 1) (pc' := 18) mJ_289 (by decide +kernel) (ns_iconst (c := 1) (by decide +kernel)) rfl ?_
    obtain ⟨S4, h5, hr⟩ := nk_lte hr
    refine nk_putI (y := (0, 0)) (ty := .boolean) (x := 93) (len := 3) (ci := 2) (k := 13) (pc' := 21) ja_okT mJ_289 (by decide +kernel) (by decide +kernel) (by decide +kernel) t_l0 (Or.inr ⟨rfl, by decide⟩) rfl h5 ?_
    exact ja_X2_raise_b21_ok zs _ _ _ _ _ t_l0 hr
/-! SafeCode$Machine calculated (III)I -/
noncomputable def ja_X2_calculated (l0 : Int) (l1 : Int) (l2 : Int) (S : nk_S) : Option (Int × nk_S) :=
  if l0 = 8 then
    some ((nk_w (l1 + l2)), S)
  else
  if l0 = 9 then
    some ((nk_w (l1 - l2)), S)
  else
  if l0 = 10 then
    some ((nk_w (l1 * l2)), S)
  else
  if l0 = 11 then
    if l2 = 0 then
      some (0, S)
    else
      if l2 = (-1) then
        some ((nk_w (-l1)), S)
      else
        if ¬ l2 = 0 then
        some ((nk_idiv l1 l2), S)
        else none
  else
  if l0 = 12 then
    if l2 = 0 then
      some (0, S)
    else
      if l2 = (-1) then
        some (0, S)
      else
        if ¬ l2 = 0 then
        some ((nk_irem l1 l2), S)
        else none
  else
  if l0 = 13 then
    some ((nk_iand l1 l2), S)
  else
  if l0 = 14 then
    some ((nk_ior l1 l2), S)
  else
  if l0 = 15 then
    some ((nk_ixor l1 l2), S)
  else
  if l0 = 16 then
    some ((nk_ishl l1 (nk_iand l2 31)), S)
  else
  some ((nk_ishr l1 (nk_iand l2 31)), S)
theorem ja_X2_calculated_ok (zs : List Int32) : ∀ (l0 : Int) (l1 : Int) (l2 : Int) (S : nk_S) (R : Int × nk_S), ja_X2_calculated l0 l1 l2 S = some R → nk_K ja_Tt mi_Γ (mi_ev zs) 1 264 0 [(0, nk_i l0), (1, nk_i l1), (2, nk_i l2)] [] S R := by
  intro l0 l1 l2 S R hr
  unfold ja_X2_calculated at hr
  refine nk_p (i := .iload_n 0) (len := 1) (pc' := 1) mJ_264 (by decide +kernel) (ns_iload_n 0 rfl rfl) rfl ?_
  by_cases hc0 : l0 = 8
  · have hr := nk_ifp hc0 hr
    refine nk_p (i := .tableswitch 121 8 16 #[51, 55, 59, 63, 85, 102, 106, 110, 114]) (len := 51) (pc' := 52) mJ_264 (by decide +kernel) (ns_tsw (V := 8) hc0 (by decide +kernel)) rfl ?_
    refine nk_p (i := .iload_n 1) (len := 1) (pc' := 53) mJ_264 (by decide +kernel) (ns_iload_n 1 rfl rfl) rfl ?_
    refine nk_p (i := .iload_n 2) (len := 1) (pc' := 54) mJ_264 (by decide +kernel) (ns_iload_n 2 rfl rfl) rfl ?_
    refine nk_p (i := .iadd) (len := 1) (pc' := 55) mJ_264 (by decide +kernel) ns_iadd rfl ?_
    cases hr
    exact nk_iret (ty := .int) (len := 1) mJ_264 (by decide +kernel) rfl (nk_nar_i _)
  have hr := nk_ifn hc0 hr
  by_cases hc1 : l0 = 9
  · have hr := nk_ifp hc1 hr
    refine nk_p (i := .tableswitch 121 8 16 #[51, 55, 59, 63, 85, 102, 106, 110, 114]) (len := 51) (pc' := 56) mJ_264 (by decide +kernel) (ns_tsw (V := 9) hc1 (by decide +kernel)) rfl ?_
    refine nk_p (i := .iload_n 1) (len := 1) (pc' := 57) mJ_264 (by decide +kernel) (ns_iload_n 1 rfl rfl) rfl ?_
    refine nk_p (i := .iload_n 2) (len := 1) (pc' := 58) mJ_264 (by decide +kernel) (ns_iload_n 2 rfl rfl) rfl ?_
    refine nk_p (i := .isub) (len := 1) (pc' := 59) mJ_264 (by decide +kernel) ns_isub rfl ?_
    cases hr
    exact nk_iret (ty := .int) (len := 1) mJ_264 (by decide +kernel) rfl (nk_nar_i _)
  have hr := nk_ifn hc1 hr
  by_cases hc2 : l0 = 10
  · have hr := nk_ifp hc2 hr
    refine nk_p (i := .tableswitch 121 8 16 #[51, 55, 59, 63, 85, 102, 106, 110, 114]) (len := 51) (pc' := 60) mJ_264 (by decide +kernel) (ns_tsw (V := 10) hc2 (by decide +kernel)) rfl ?_
    refine nk_p (i := .iload_n 1) (len := 1) (pc' := 61) mJ_264 (by decide +kernel) (ns_iload_n 1 rfl rfl) rfl ?_
    refine nk_p (i := .iload_n 2) (len := 1) (pc' := 62) mJ_264 (by decide +kernel) (ns_iload_n 2 rfl rfl) rfl ?_
    refine nk_p (i := .imul) (len := 1) (pc' := 63) mJ_264 (by decide +kernel) ns_imul rfl ?_
    cases hr
    exact nk_iret (ty := .int) (len := 1) mJ_264 (by decide +kernel) rfl (nk_nar_i _)
  have hr := nk_ifn hc2 hr
  by_cases hc3 : l0 = 11
  · have hr := nk_ifp hc3 hr
    refine nk_p (i := .tableswitch 121 8 16 #[51, 55, 59, 63, 85, 102, 106, 110, 114]) (len := 51) (pc' := 64) mJ_264 (by decide +kernel) (ns_tsw (V := 11) hc3 (by decide +kernel)) rfl ?_
    refine nk_p (i := .iload_n 2) (len := 1) (pc' := 65) mJ_264 (by decide +kernel) (ns_iload_n 2 rfl rfl) rfl ?_
    refine nk_icond (c := .ne) (off := 7) (len := 3) (t := 72) (pc' := 68) mJ_264 (by decide +kernel) (by decide +kernel) rfl (fun hc => ?_) (fun hc => ?_)
    · have hr := nk_ifn (c := l2 = 0) hc hr
      refine nk_p (i := .iload_n 2) (len := 1) (pc' := 73) mJ_264 (by decide +kernel) (ns_iload_n 2 rfl rfl) rfl ?_
      refine nk_p (i := .iconst (-1)) (len := 1) (pc' := 74) mJ_264 (by decide +kernel) (ns_iconst (c := (-1)) (by decide +kernel)) rfl ?_
      refine nk_icmp (c := .ne) (off := 8) (len := 3) (t := 82) (pc' := 77) mJ_264 (by decide +kernel) (by decide +kernel) rfl (fun hc => ?_) (fun hc => ?_)
      · have hr := nk_ifn (c := l2 = (-1)) hc hr
        refine nk_p (i := .iload_n 1) (len := 1) (pc' := 83) mJ_264 (by decide +kernel) (ns_iload_n 1 rfl rfl) rfl ?_
        refine nk_p (i := .iload_n 2) (len := 1) (pc' := 84) mJ_264 (by decide +kernel) (ns_iload_n 2 rfl rfl) rfl ?_
        obtain ⟨h1, hr⟩ := nk_cke hr
        refine nk_p (i := .idiv) (len := 1) (pc' := 85) mJ_264 (by decide +kernel) (ns_idiv h1) rfl ?_
        cases hr
        exact nk_iret (ty := .int) (len := 1) mJ_264 (by decide +kernel) rfl (nk_nar_i _)
      · have hr := nk_ifp (c := l2 = (-1)) (Decidable.of_not_not hc) hr
        refine nk_p (i := .iload_n 1) (len := 1) (pc' := 78) mJ_264 (by decide +kernel) (ns_iload_n 1 rfl rfl) rfl ?_
        refine nk_p (i := .ineg) (len := 1) (pc' := 79) mJ_264 (by decide +kernel) ns_ineg rfl ?_
        refine nk_p (i := .goto 6) (len := 3) (pc' := 85) mJ_264 (by decide +kernel) (ns_goto (by decide +kernel)) rfl ?_
        cases hr
        exact nk_iret (ty := .int) (len := 1) mJ_264 (by decide +kernel) rfl (nk_nar_i _)
    · have hr := nk_ifp (c := l2 = 0) (Decidable.of_not_not hc) hr
      refine nk_p (i := .iconst 0) (len := 1) (pc' := 69) mJ_264 (by decide +kernel) (ns_iconst (c := 0) (by decide +kernel)) rfl ?_
      refine nk_p (i := .goto 16) (len := 3) (pc' := 85) mJ_264 (by decide +kernel) (ns_goto (by decide +kernel)) rfl ?_
      cases hr
      exact nk_iret (ty := .int) (len := 1) mJ_264 (by decide +kernel) rfl (nk_nar_i _)
  have hr := nk_ifn hc3 hr
  by_cases hc4 : l0 = 12
  · have hr := nk_ifp hc4 hr
    refine nk_p (i := .tableswitch 121 8 16 #[51, 55, 59, 63, 85, 102, 106, 110, 114]) (len := 51) (pc' := 86) mJ_264 (by decide +kernel) (ns_tsw (V := 12) hc4 (by decide +kernel)) rfl ?_
    refine nk_p (i := .iload_n 2) (len := 1) (pc' := 87) mJ_264 (by decide +kernel) (ns_iload_n 2 rfl rfl) rfl ?_
    refine nk_icond (c := .eq) (off := 8) (len := 3) (t := 95) (pc' := 90) mJ_264 (by decide +kernel) (by decide +kernel) rfl (fun hc => ?_) (fun hc => ?_)
    · have hr := nk_ifp (c := l2 = 0) hc hr
      refine nk_p (i := .iconst 0) (len := 1) (pc' := 96) mJ_264 (by decide +kernel) (ns_iconst (c := 0) (by decide +kernel)) rfl ?_
      refine nk_p (i := .goto 6) (len := 3) (pc' := 102) mJ_264 (by decide +kernel) (ns_goto (by decide +kernel)) rfl ?_
      cases hr
      exact nk_iret (ty := .int) (len := 1) mJ_264 (by decide +kernel) rfl (nk_nar_i _)
    · have hr := nk_ifn (c := l2 = 0) hc hr
      refine nk_p (i := .iload_n 2) (len := 1) (pc' := 91) mJ_264 (by decide +kernel) (ns_iload_n 2 rfl rfl) rfl ?_
      refine nk_p (i := .iconst (-1)) (len := 1) (pc' := 92) mJ_264 (by decide +kernel) (ns_iconst (c := (-1)) (by decide +kernel)) rfl ?_
      refine nk_icmp (c := .ne) (off := 7) (len := 3) (t := 99) (pc' := 95) mJ_264 (by decide +kernel) (by decide +kernel) rfl (fun hc => ?_) (fun hc => ?_)
      · have hr := nk_ifn (c := l2 = (-1)) hc hr
        refine nk_p (i := .iload_n 1) (len := 1) (pc' := 100) mJ_264 (by decide +kernel) (ns_iload_n 1 rfl rfl) rfl ?_
        refine nk_p (i := .iload_n 2) (len := 1) (pc' := 101) mJ_264 (by decide +kernel) (ns_iload_n 2 rfl rfl) rfl ?_
        obtain ⟨h2, hr⟩ := nk_cke hr
        refine nk_p (i := .irem) (len := 1) (pc' := 102) mJ_264 (by decide +kernel) (ns_irem h2) rfl ?_
        cases hr
        exact nk_iret (ty := .int) (len := 1) mJ_264 (by decide +kernel) rfl (nk_nar_i _)
      · have hr := nk_ifp (c := l2 = (-1)) (Decidable.of_not_not hc) hr
        refine nk_p (i := .iconst 0) (len := 1) (pc' := 96) mJ_264 (by decide +kernel) (ns_iconst (c := 0) (by decide +kernel)) rfl ?_
        refine nk_p (i := .goto 6) (len := 3) (pc' := 102) mJ_264 (by decide +kernel) (ns_goto (by decide +kernel)) rfl ?_
        cases hr
        exact nk_iret (ty := .int) (len := 1) mJ_264 (by decide +kernel) rfl (nk_nar_i _)
  have hr := nk_ifn hc4 hr
  by_cases hc5 : l0 = 13
  · have hr := nk_ifp hc5 hr
    refine nk_p (i := .tableswitch 121 8 16 #[51, 55, 59, 63, 85, 102, 106, 110, 114]) (len := 51) (pc' := 103) mJ_264 (by decide +kernel) (ns_tsw (V := 13) hc5 (by decide +kernel)) rfl ?_
    refine nk_p (i := .iload_n 1) (len := 1) (pc' := 104) mJ_264 (by decide +kernel) (ns_iload_n 1 rfl rfl) rfl ?_
    refine nk_p (i := .iload_n 2) (len := 1) (pc' := 105) mJ_264 (by decide +kernel) (ns_iload_n 2 rfl rfl) rfl ?_
    refine nk_p (i := .iand) (len := 1) (pc' := 106) mJ_264 (by decide +kernel) ns_iand rfl ?_
    cases hr
    exact nk_iret (ty := .int) (len := 1) mJ_264 (by decide +kernel) rfl (nk_nar_i _)
  have hr := nk_ifn hc5 hr
  by_cases hc6 : l0 = 14
  · have hr := nk_ifp hc6 hr
    refine nk_p (i := .tableswitch 121 8 16 #[51, 55, 59, 63, 85, 102, 106, 110, 114]) (len := 51) (pc' := 107) mJ_264 (by decide +kernel) (ns_tsw (V := 14) hc6 (by decide +kernel)) rfl ?_
    refine nk_p (i := .iload_n 1) (len := 1) (pc' := 108) mJ_264 (by decide +kernel) (ns_iload_n 1 rfl rfl) rfl ?_
    refine nk_p (i := .iload_n 2) (len := 1) (pc' := 109) mJ_264 (by decide +kernel) (ns_iload_n 2 rfl rfl) rfl ?_
    refine nk_p (i := .ior) (len := 1) (pc' := 110) mJ_264 (by decide +kernel) ns_ior rfl ?_
    cases hr
    exact nk_iret (ty := .int) (len := 1) mJ_264 (by decide +kernel) rfl (nk_nar_i _)
  have hr := nk_ifn hc6 hr
  by_cases hc7 : l0 = 15
  · have hr := nk_ifp hc7 hr
    refine nk_p (i := .tableswitch 121 8 16 #[51, 55, 59, 63, 85, 102, 106, 110, 114]) (len := 51) (pc' := 111) mJ_264 (by decide +kernel) (ns_tsw (V := 15) hc7 (by decide +kernel)) rfl ?_
    refine nk_p (i := .iload_n 1) (len := 1) (pc' := 112) mJ_264 (by decide +kernel) (ns_iload_n 1 rfl rfl) rfl ?_
    refine nk_p (i := .iload_n 2) (len := 1) (pc' := 113) mJ_264 (by decide +kernel) (ns_iload_n 2 rfl rfl) rfl ?_
    refine nk_p (i := .ixor) (len := 1) (pc' := 114) mJ_264 (by decide +kernel) ns_ixor rfl ?_
    cases hr
    exact nk_iret (ty := .int) (len := 1) mJ_264 (by decide +kernel) rfl (nk_nar_i _)
  have hr := nk_ifn hc7 hr
  by_cases hc8 : l0 = 16
  · have hr := nk_ifp hc8 hr
    refine nk_p (i := .tableswitch 121 8 16 #[51, 55, 59, 63, 85, 102, 106, 110, 114]) (len := 51) (pc' := 115) mJ_264 (by decide +kernel) (ns_tsw (V := 16) hc8 (by decide +kernel)) rfl ?_
    refine nk_p (i := .iload_n 1) (len := 1) (pc' := 116) mJ_264 (by decide +kernel) (ns_iload_n 1 rfl rfl) rfl ?_
    refine nk_p (i := .iload_n 2) (len := 1) (pc' := 117) mJ_264 (by decide +kernel) (ns_iload_n 2 rfl rfl) rfl ?_
    refine nk_p (i := .bipush 31) (len := 2) (pc' := 119) mJ_264 (by decide +kernel) (ns_bipush (c := 31) (by decide +kernel)) rfl ?_
    refine nk_p (i := .iand) (len := 1) (pc' := 120) mJ_264 (by decide +kernel) ns_iand rfl ?_
    refine nk_p (i := .ishl) (len := 1) (pc' := 121) mJ_264 (by decide +kernel) ns_ishl rfl ?_
    cases hr
    exact nk_iret (ty := .int) (len := 1) mJ_264 (by decide +kernel) rfl (nk_nar_i _)
  have hr := nk_ifn hc8 hr
  refine nk_p (i := .tableswitch 121 8 16 #[51, 55, 59, 63, 85, 102, 106, 110, 114]) (len := 51) (pc' := 122) mJ_264 (by decide +kernel) (ns_tsd (by omega) (by decide +kernel)) rfl ?_
  refine nk_p (i := .iload_n 1) (len := 1) (pc' := 123) mJ_264 (by decide +kernel) (ns_iload_n 1 rfl rfl) rfl ?_
  refine nk_p (i := .iload_n 2) (len := 1) (pc' := 124) mJ_264 (by decide +kernel) (ns_iload_n 2 rfl rfl) rfl ?_
  refine nk_p (i := .bipush 31) (len := 2) (pc' := 126) mJ_264 (by decide +kernel) (ns_bipush (c := 31) (by decide +kernel)) rfl ?_
  refine nk_p (i := .iand) (len := 1) (pc' := 127) mJ_264 (by decide +kernel) ns_iand rfl ?_
  refine nk_p (i := .ishr) (len := 1) (pc' := 128) mJ_264 (by decide +kernel) ns_ishr rfl ?_
  cases hr
  exact nk_iret (ty := .int) (len := 1) mJ_264 (by decide +kernel) rfl (nk_nar_i _)
/-! SafeCode$Machine calculate (II)I -/
noncomputable def ja_X2_calculate_b46 (l0 : Nat) (l2 : Int) (l3 : Int) (S : nk_S) : Option (Int × nk_S) :=
  nk_bd (ja_X2_numberAt l0 1 S) fun r1 S2 =>
  nk_bd (ja_X2_calculated l2 r1 l3 S2) fun r4 S5 =>
  nk_bd (ja_X2_intCell r4 S5) fun r7 S8 =>
  nk_bd (ja_X2_leave l0 2 r7 S8) fun r10 S11 =>
  some (r10, S11)
theorem ja_X2_calculate_b46_ok (zs : List Int32) : ∀ (l0 : Nat) (l2 : Int) (l3 : Int) (S : nk_S) (R : Int × nk_S), nk_cl ja_Tt l0 = some 2 → ja_X2_calculate_b46 l0 l2 l3 S = some R → nk_K ja_Tt mi_Γ (mi_ev zs) 1 263 46 [(0, nk_r l0), (2, nk_i l2), (3, nk_i l3)] [] S R := by
  intro l0 l2 l3 S R t_l0 hr
  unfold ja_X2_calculate_b46 at hr
  refine nk_p (i := .aload_n 0) (len := 1) (pc' := 47) mJ_263 (by decide +kernel) (ns_aload_n 0 rfl rfl) rfl ?_
  refine nk_p (i := .iconst 2) (len := 1) (pc' := 48) mJ_263 (by decide +kernel) (ns_iconst (c := 2) (by decide +kernel)) rfl ?_
  refine nk_p (i := .iload_n 2) (len := 1) (pc' := 49) mJ_263 (by decide +kernel) (ns_iload_n 1 rfl rfl) rfl ?_
  refine nk_p (i := .aload_n 0) (len := 1) (pc' := 50) mJ_263 (by decide +kernel) (ns_aload_n 0 rfl rfl) rfl ?_
  refine nk_p (i := .iconst 1) (len := 1) (pc' := 51) mJ_263 (by decide +kernel) (ns_iconst (c := 1) (by decide +kernel)) rfl ?_
  obtain ⟨r1, S2, h3, hr⟩ := nk_bde hr
  refine nk_callV (ci := 2) (n := 1) (x := 138) (len := 3) (j' := 286) (q' := 1) (r := r1) (S' := S2) (L2 := [(0, nk_r l0), (1, nk_i 1)]) (rest := [nk_i l2, nk_i 2, nk_r l0]) (st' := [nk_i r1, nk_i l2, nk_i 2, nk_r l0]) (pc' := 54) mJ_263 (by decide +kernel) (by decide +kernel) rfl rfl t_l0 (Nat.le_of_ble_eq_true rfl) mJ_286 (Nat.le_of_ble_eq_true rfl) rfl (ja_X2_numberAt_ok zs _ _ _ _ t_l0 h3) rfl ?_
  refine nk_p (i := .iload_n 3) (len := 1) (pc' := 55) mJ_263 (by decide +kernel) (ns_iload_n 2 rfl rfl) rfl ?_
  obtain ⟨r4, S5, h6, hr⟩ := nk_bde hr
  refine nk_callS (ci := 0) (n := 3) (x := 202) (len := 3) (j' := 264) (q' := 1) (r := r4) (S' := S5) (L2 := [(0, nk_i l2), (1, nk_i r1), (2, nk_i l3)]) (rest := [nk_i 2, nk_r l0]) (st' := [nk_i r4, nk_i 2, nk_r l0]) (pc' := 58) mJ_263 (by decide +kernel) (by decide +kernel) (Nat.le_of_ble_eq_true rfl) rfl rfl (Nat.le_of_ble_eq_true rfl) mJ_264 (Nat.le_of_ble_eq_true rfl) ja_Tpos rfl (ja_X2_calculated_ok zs _ _ _ _ _ h6) rfl ?_
  obtain ⟨r7, S8, h9, hr⟩ := nk_bde hr
  refine nk_callS (ci := 0) (n := 1) (x := 147) (len := 3) (j' := 274) (q' := 2) (r := r7) (S' := S8) (L2 := [(0, nk_i r4)]) (rest := [nk_i 2, nk_r l0]) (st' := [nk_l r7, nk_i 2, nk_r l0]) (pc' := 61) mJ_263 (by decide +kernel) (by decide +kernel) (Nat.le_of_ble_eq_true rfl) rfl rfl (Nat.le_of_ble_eq_true rfl) mJ_274 (Nat.le_of_ble_eq_true rfl) ja_Tpos rfl (ja_X2_intCell_ok zs _ _ _ h9) rfl ?_
  obtain ⟨r10, S11, h12, hr⟩ := nk_bde hr
  refine nk_callV (ci := 2) (n := 2) (x := 151) (len := 3) (j' := 278) (q' := 1) (r := r10) (S' := S11) (L2 := [(0, nk_r l0), (1, nk_i 2), (2, nk_l r7)]) (rest := []) (st' := [nk_i r10]) (pc' := 64) mJ_263 (by decide +kernel) (by decide +kernel) rfl rfl t_l0 (Nat.le_of_ble_eq_true rfl) mJ_278 (Nat.le_of_ble_eq_true rfl) rfl (ja_X2_leave_ok zs _ _ _ _ _ t_l0 h12) rfl ?_
  cases hr
  exact nk_iret (ty := .int) (len := 1) mJ_263 (by decide +kernel) rfl (nk_nar_i _)
noncomputable def ja_X2_calculate_b35 (l0 : Nat) (l1 : Int) (l2 : Int) (l3 : Int) (S : nk_S) : Option (Int × nk_S) :=
  if l3 = 0 then
    nk_bd (ja_X2_raise l0 l1 3 S) fun r1 S2 =>
    some (r1, S2)
  else
    ja_X2_calculate_b46 l0 l2 l3 S
theorem ja_X2_calculate_b35_ok (zs : List Int32) : ∀ (l0 : Nat) (l1 : Int) (l2 : Int) (l3 : Int) (S : nk_S) (R : Int × nk_S), nk_cl ja_Tt l0 = some 2 → ja_X2_calculate_b35 l0 l1 l2 l3 S = some R → nk_K ja_Tt mi_Γ (mi_ev zs) 1 263 35 [(0, nk_r l0), (1, nk_i l1), (2, nk_i l2), (3, nk_i l3)] [] S R := by
  intro l0 l1 l2 l3 S R t_l0 hr
  unfold ja_X2_calculate_b35 at hr
  refine nk_p (i := .iload_n 3) (len := 1) (pc' := 36) mJ_263 (by decide +kernel) (ns_iload_n 3 rfl rfl) rfl ?_
  refine nk_icond (c := .ne) (off := 10) (len := 3) (t := 46) (pc' := 39) mJ_263 (by decide +kernel) (by decide +kernel) rfl (fun hc => ?_) (fun hc => ?_)
  · have hr := nk_ifn (c := l3 = 0) hc hr
    refine nk_sub [0, 2, 3] (L' := [(0, nk_r l0), (2, nk_i l2), (3, nk_i l3)]) rfl ?_
    exact ja_X2_calculate_b46_ok zs _ _ _ _ _ t_l0 hr
  · have hr := nk_ifp (c := l3 = 0) (Decidable.of_not_not hc) hr
    refine nk_p (i := .aload_n 0) (len := 1) (pc' := 40) mJ_263 (by decide +kernel) (ns_aload_n 0 rfl rfl) rfl ?_
    refine nk_p (i := .iload_n 1) (len := 1) (pc' := 41) mJ_263 (by decide +kernel) (ns_iload_n 1 rfl rfl) rfl ?_
    refine nk_p (i := .iconst 3) (len := 1) (pc' := 42) mJ_263 (by decide +kernel) (ns_iconst (c := 3) (by decide +kernel)) rfl ?_
    obtain ⟨r1, S2, h3, hr⟩ := nk_bde hr
    refine nk_callV (ci := 2) (n := 2) (x := 141) (len := 3) (j' := 289) (q' := 1) (r := r1) (S' := S2) (L2 := [(0, nk_r l0), (1, nk_i l1), (2, nk_i 3)]) (rest := []) (st' := [nk_i r1]) (pc' := 45) mJ_263 (by decide +kernel) (by decide +kernel) rfl rfl t_l0 (Nat.le_of_ble_eq_true rfl) mJ_289 (Nat.le_of_ble_eq_true rfl) rfl (ja_X2_raise_ok zs _ _ _ _ _ t_l0 h3) rfl ?_
    cases hr
    exact nk_iret (ty := .int) (len := 1) mJ_263 (by decide +kernel) rfl (nk_nar_i _)
noncomputable def ja_X2_calculate (l0 : Nat) (l1 : Int) (l2 : Int) (S : nk_S) : Option (Int × nk_S) :=
  nk_bd (ja_X2_numberAt l0 0 S) fun r1 S2 =>
  if l2 = 18 then
    nk_bd (ja_X2_intCell (nk_w (-r1)) S2) fun r4 S5 =>
    nk_bd (ja_X2_leave l0 1 r4 S5) fun r7 S8 =>
    some (r7, S8)
  else
    if l2 = 11 then
      ja_X2_calculate_b35 l0 l1 l2 r1 S2
    else
      if l2 = 12 then
        ja_X2_calculate_b35 l0 l1 l2 r1 S2
      else
        ja_X2_calculate_b46 l0 l2 r1 S2
theorem ja_X2_calculate_ok (zs : List Int32) : ∀ (l0 : Nat) (l1 : Int) (l2 : Int) (S : nk_S) (R : Int × nk_S), nk_cl ja_Tt l0 = some 2 → ja_X2_calculate l0 l1 l2 S = some R → nk_K ja_Tt mi_Γ (mi_ev zs) 1 263 0 [(0, nk_r l0), (1, nk_i l1), (2, nk_i l2)] [] S R := by
  intro l0 l1 l2 S R t_l0 hr
  unfold ja_X2_calculate at hr
  refine nk_p (i := .aload_n 0) (len := 1) (pc' := 1) mJ_263 (by decide +kernel) (ns_aload_n 0 rfl rfl) rfl ?_
  refine nk_p (i := .iconst 0) (len := 1) (pc' := 2) mJ_263 (by decide +kernel) (ns_iconst (c := 0) (by decide +kernel)) rfl ?_
  obtain ⟨r1, S2, h3, hr⟩ := nk_bde hr
  refine nk_callV (ci := 2) (n := 1) (x := 138) (len := 3) (j' := 286) (q' := 1) (r := r1) (S' := S2) (L2 := [(0, nk_r l0), (1, nk_i 0)]) (rest := []) (st' := [nk_i r1]) (pc' := 5) mJ_263 (by decide +kernel) (by decide +kernel) rfl rfl t_l0 (Nat.le_of_ble_eq_true rfl) mJ_286 (Nat.le_of_ble_eq_true rfl) rfl (ja_X2_numberAt_ok zs _ _ _ _ t_l0 h3) rfl ?_
  refine nk_p (i := .istore_n 3) (len := 1) (pc' := 6) mJ_263 (by decide +kernel) (ns_istore_n (L' := [(3, nk_i r1), (0, nk_r l0), (1, nk_i l1), (2, nk_i l2)]) rfl rfl rfl (by decide +kernel)) rfl ?_
  refine nk_p (i := .iload_n 2) (len := 1) (pc' := 7) mJ_263 (by decide +kernel) (ns_iload_n 3 rfl rfl) rfl ?_
  refine nk_p (i := .bipush 18) (len := 2) (pc' := 9) mJ_263 (by decide +kernel) (ns_bipush (c := 18) (by decide +kernel)) rfl ?_
  refine nk_icmp (c := .ne) (off := 14) (len := 3) (t := 23) (pc' := 12) mJ_263 (by decide +kernel) (by decide +kernel) rfl (fun hc => ?_) (fun hc => ?_)
  · have hr := nk_ifn (c := l2 = 18) hc hr
    refine nk_p (i := .iload_n 2) (len := 1) (pc' := 24) mJ_263 (by decide +kernel) (ns_iload_n 3 rfl rfl) rfl ?_
    refine nk_p (i := .bipush 11) (len := 2) (pc' := 26) mJ_263 (by decide +kernel) (ns_bipush (c := 11) (by decide +kernel)) rfl ?_
    refine nk_icmp (c := .eq) (off := 9) (len := 3) (t := 35) (pc' := 29) mJ_263 (by decide +kernel) (by decide +kernel) rfl (fun hc => ?_) (fun hc => ?_)
    · have hr := nk_ifp (c := l2 = 11) hc hr
      refine nk_sub [1, 2, 3, 0] (L' := [(0, nk_r l0), (1, nk_i l1), (2, nk_i l2), (3, nk_i r1)]) rfl ?_
      exact ja_X2_calculate_b35_ok zs _ _ _ _ _ _ t_l0 hr
    · have hr := nk_ifn (c := l2 = 11) hc hr
      refine nk_p (i := .iload_n 2) (len := 1) (pc' := 30) mJ_263 (by decide +kernel) (ns_iload_n 3 rfl rfl) rfl ?_
      refine nk_p (i := .bipush 12) (len := 2) (pc' := 32) mJ_263 (by decide +kernel) (ns_bipush (c := 12) (by decide +kernel)) rfl ?_
      refine nk_icmp (c := .ne) (off := 14) (len := 3) (t := 46) (pc' := 35) mJ_263 (by decide +kernel) (by decide +kernel) rfl (fun hc => ?_) (fun hc => ?_)
      · have hr := nk_ifn (c := l2 = 12) hc hr
        refine nk_sub [1, 3, 0] (L' := [(0, nk_r l0), (2, nk_i l2), (3, nk_i r1)]) rfl ?_
        exact ja_X2_calculate_b46_ok zs _ _ _ _ _ t_l0 hr
      · have hr := nk_ifp (c := l2 = 12) (Decidable.of_not_not hc) hr
        refine nk_sub [1, 2, 3, 0] (L' := [(0, nk_r l0), (1, nk_i l1), (2, nk_i l2), (3, nk_i r1)]) rfl ?_
        exact ja_X2_calculate_b35_ok zs _ _ _ _ _ _ t_l0 hr
  · have hr := nk_ifp (c := l2 = 18) (Decidable.of_not_not hc) hr
    refine nk_p (i := .aload_n 0) (len := 1) (pc' := 13) mJ_263 (by decide +kernel) (ns_aload_n 1 rfl rfl) rfl ?_
    refine nk_p (i := .iconst 1) (len := 1) (pc' := 14) mJ_263 (by decide +kernel) (ns_iconst (c := 1) (by decide +kernel)) rfl ?_
    refine nk_p (i := .iload_n 3) (len := 1) (pc' := 15) mJ_263 (by decide +kernel) (ns_iload_n 0 rfl rfl) rfl ?_
    refine nk_p (i := .ineg) (len := 1) (pc' := 16) mJ_263 (by decide +kernel) ns_ineg rfl ?_
    obtain ⟨r4, S5, h6, hr⟩ := nk_bde hr
    refine nk_callS (ci := 0) (n := 1) (x := 147) (len := 3) (j' := 274) (q' := 2) (r := r4) (S' := S5) (L2 := [(0, nk_i (nk_w (-r1)))]) (rest := [nk_i 1, nk_r l0]) (st' := [nk_l r4, nk_i 1, nk_r l0]) (pc' := 19) mJ_263 (by decide +kernel) (by decide +kernel) (Nat.le_of_ble_eq_true rfl) rfl rfl (Nat.le_of_ble_eq_true rfl) mJ_274 (Nat.le_of_ble_eq_true rfl) ja_Tpos rfl (ja_X2_intCell_ok zs _ _ _ h6) rfl ?_
    obtain ⟨r7, S8, h9, hr⟩ := nk_bde hr
    refine nk_callV (ci := 2) (n := 2) (x := 151) (len := 3) (j' := 278) (q' := 1) (r := r7) (S' := S8) (L2 := [(0, nk_r l0), (1, nk_i 1), (2, nk_l r4)]) (rest := []) (st' := [nk_i r7]) (pc' := 22) mJ_263 (by decide +kernel) (by decide +kernel) rfl rfl t_l0 (Nat.le_of_ble_eq_true rfl) mJ_278 (Nat.le_of_ble_eq_true rfl) rfl (ja_X2_leave_ok zs _ _ _ _ _ t_l0 h9) rfl ?_
    cases hr
    exact nk_iret (ty := .int) (len := 1) mJ_263 (by decide +kernel) rfl (nk_nar_i _)
/-! SafeCode$Machine holds (III)Z -/
noncomputable def ja_X2_holds_b56 (l1 : Int) (l2 : Int) (S : nk_S) : Option (Int × nk_S) :=
  if l1 = l2 then
    some (1, S)
  else
    some (0, S)
theorem ja_X2_holds_b56_ok (zs : List Int32) : ∀ (l1 : Int) (l2 : Int) (S : nk_S) (R : Int × nk_S), ja_X2_holds_b56 l1 l2 S = some R → nk_K ja_Tt mi_Γ (mi_ev zs) 1 272 56 [(1, nk_i l1), (2, nk_i l2)] [] S R := by
  intro l1 l2 S R hr
  unfold ja_X2_holds_b56 at hr
  refine nk_p (i := .iload_n 1) (len := 1) (pc' := 57) mJ_272 (by decide +kernel) (ns_iload_n 0 rfl rfl) rfl ?_
  refine nk_p (i := .iload_n 2) (len := 1) (pc' := 58) mJ_272 (by decide +kernel) (ns_iload_n 1 rfl rfl) rfl ?_
  refine nk_icmp (c := .ne) (off := 7) (len := 3) (t := 65) (pc' := 61) mJ_272 (by decide +kernel) (by decide +kernel) rfl (fun hc => ?_) (fun hc => ?_)
  · have hr := nk_ifn (c := l1 = l2) hc hr
    refine nk_p (i := .iconst 0) (len := 1) (pc' := 66) mJ_272 (by decide +kernel) (ns_iconst (c := 0) (by decide +kernel)) rfl ?_
    cases hr
    exact nk_iret (ty := .boolean) (len := 1) mJ_272 (by decide +kernel) rfl (nk_nar_z (by decide))
  · have hr := nk_ifp (c := l1 = l2) (Decidable.of_not_not hc) hr
    refine nk_p (i := .iconst 1) (len := 1) (pc' := 62) mJ_272 (by decide +kernel) (ns_iconst (c := 1) (by decide +kernel)) rfl ?_
    refine nk_p (i := .goto 4) (len := 3) (pc' := 66) mJ_272 (by decide +kernel) (ns_goto (by decide +kernel)) rfl ?_
    cases hr
    exact nk_iret (ty := .boolean) (len := 1) mJ_272 (by decide +kernel) rfl (nk_nar_z (by decide))
noncomputable def ja_X2_holds_b67 (l1 : Int) (l2 : Int) (S : nk_S) : Option (Int × nk_S) :=
  if l1 = l2 then
    some (0, S)
  else
    some (1, S)
theorem ja_X2_holds_b67_ok (zs : List Int32) : ∀ (l1 : Int) (l2 : Int) (S : nk_S) (R : Int × nk_S), ja_X2_holds_b67 l1 l2 S = some R → nk_K ja_Tt mi_Γ (mi_ev zs) 1 272 67 [(1, nk_i l1), (2, nk_i l2)] [] S R := by
  intro l1 l2 S R hr
  unfold ja_X2_holds_b67 at hr
  refine nk_p (i := .iload_n 1) (len := 1) (pc' := 68) mJ_272 (by decide +kernel) (ns_iload_n 0 rfl rfl) rfl ?_
  refine nk_p (i := .iload_n 2) (len := 1) (pc' := 69) mJ_272 (by decide +kernel) (ns_iload_n 1 rfl rfl) rfl ?_
  refine nk_icmp (c := .eq) (off := 7) (len := 3) (t := 76) (pc' := 72) mJ_272 (by decide +kernel) (by decide +kernel) rfl (fun hc => ?_) (fun hc => ?_)
  · have hr := nk_ifp (c := l1 = l2) hc hr
    refine nk_p (i := .iconst 0) (len := 1) (pc' := 77) mJ_272 (by decide +kernel) (ns_iconst (c := 0) (by decide +kernel)) rfl ?_
    cases hr
    exact nk_iret (ty := .boolean) (len := 1) mJ_272 (by decide +kernel) rfl (nk_nar_z (by decide))
  · have hr := nk_ifn (c := l1 = l2) hc hr
    refine nk_p (i := .iconst 1) (len := 1) (pc' := 73) mJ_272 (by decide +kernel) (ns_iconst (c := 1) (by decide +kernel)) rfl ?_
    refine nk_p (i := .goto 4) (len := 3) (pc' := 77) mJ_272 (by decide +kernel) (ns_goto (by decide +kernel)) rfl ?_
    cases hr
    exact nk_iret (ty := .boolean) (len := 1) mJ_272 (by decide +kernel) rfl (nk_nar_z (by decide))
noncomputable def ja_X2_holds_b111 (l1 : Int) (l2 : Int) (S : nk_S) : Option (Int × nk_S) :=
  if l1 < l2 then
    some (0, S)
  else
    some (1, S)
theorem ja_X2_holds_b111_ok (zs : List Int32) : ∀ (l1 : Int) (l2 : Int) (S : nk_S) (R : Int × nk_S), ja_X2_holds_b111 l1 l2 S = some R → nk_K ja_Tt mi_Γ (mi_ev zs) 1 272 111 [(1, nk_i l1), (2, nk_i l2)] [] S R := by
  intro l1 l2 S R hr
  unfold ja_X2_holds_b111 at hr
  refine nk_p (i := .iload_n 1) (len := 1) (pc' := 112) mJ_272 (by decide +kernel) (ns_iload_n 0 rfl rfl) rfl ?_
  refine nk_p (i := .iload_n 2) (len := 1) (pc' := 113) mJ_272 (by decide +kernel) (ns_iload_n 1 rfl rfl) rfl ?_
  refine nk_icmp (c := .lt) (off := 7) (len := 3) (t := 120) (pc' := 116) mJ_272 (by decide +kernel) (by decide +kernel) rfl (fun hc => ?_) (fun hc => ?_)
  · have hr := nk_ifp (c := l1 < l2) hc hr
    refine nk_p (i := .iconst 0) (len := 1) (pc' := 121) mJ_272 (by decide +kernel) (ns_iconst (c := 0) (by decide +kernel)) rfl ?_
    cases hr
    exact nk_iret (ty := .boolean) (len := 1) mJ_272 (by decide +kernel) rfl (nk_nar_z (by decide))
  · have hr := nk_ifn (c := l1 < l2) hc hr
    refine nk_p (i := .iconst 1) (len := 1) (pc' := 117) mJ_272 (by decide +kernel) (ns_iconst (c := 1) (by decide +kernel)) rfl ?_
    refine nk_p (i := .goto 4) (len := 3) (pc' := 121) mJ_272 (by decide +kernel) (ns_goto (by decide +kernel)) rfl ?_
    cases hr
    exact nk_iret (ty := .boolean) (len := 1) mJ_272 (by decide +kernel) rfl (nk_nar_z (by decide))
noncomputable def ja_X2_holds (l0 : Int) (l1 : Int) (l2 : Int) (S : nk_S) : Option (Int × nk_S) :=
  if l0 = 20 then
    ja_X2_holds_b56 l1 l2 S
  else
  if l0 = 21 then
    ja_X2_holds_b67 l1 l2 S
  else
  if l0 = 22 then
    if l2 ≤ l1 then
      some (0, S)
    else
      some (1, S)
  else
  if l0 = 23 then
    if l2 < l1 then
      some (0, S)
    else
      some (1, S)
  else
  if l0 = 24 then
    if l1 ≤ l2 then
      some (0, S)
    else
      some (1, S)
  else
  if l0 = 25 then
    ja_X2_holds_b111 l1 l2 S
  else
  if l0 = 26 then
    ja_X2_holds_b56 l1 l2 S
  else
  if l0 = 27 then
    ja_X2_holds_b67 l1 l2 S
  else
  if l0 = 28 then
    ja_X2_holds_b56 l1 l2 S
  else
  if l0 = 29 then
    ja_X2_holds_b67 l1 l2 S
  else
  ja_X2_holds_b111 l1 l2 S
theorem ja_X2_holds_ok (zs : List Int32) : ∀ (l0 : Int) (l1 : Int) (l2 : Int) (S : nk_S) (R : Int × nk_S), ja_X2_holds l0 l1 l2 S = some R → nk_K ja_Tt mi_Γ (mi_ev zs) 1 272 0 [(0, nk_i l0), (1, nk_i l1), (2, nk_i l2)] [] S R := by
  intro l0 l1 l2 S R hr
  unfold ja_X2_holds at hr
  refine nk_p (i := .iload_n 0) (len := 1) (pc' := 1) mJ_272 (by decide +kernel) (ns_iload_n 0 rfl rfl) rfl ?_
  by_cases hc0 : l0 = 20
  · have hr := nk_ifp hc0 hr
    refine nk_p (i := .tableswitch 110 20 29 #[55, 66, 77, 88, 99, 110, 55, 66, 55, 66]) (len := 55) (pc' := 56) mJ_272 (by decide +kernel) (ns_tsw (V := 20) hc0 (by decide +kernel)) rfl ?_
    refine nk_sub [1, 2] (L' := [(1, nk_i l1), (2, nk_i l2)]) rfl ?_
    exact ja_X2_holds_b56_ok zs _ _ _ _ hr
  have hr := nk_ifn hc0 hr
  by_cases hc1 : l0 = 21
  · have hr := nk_ifp hc1 hr
    refine nk_p (i := .tableswitch 110 20 29 #[55, 66, 77, 88, 99, 110, 55, 66, 55, 66]) (len := 55) (pc' := 67) mJ_272 (by decide +kernel) (ns_tsw (V := 21) hc1 (by decide +kernel)) rfl ?_
    refine nk_sub [1, 2] (L' := [(1, nk_i l1), (2, nk_i l2)]) rfl ?_
    exact ja_X2_holds_b67_ok zs _ _ _ _ hr
  have hr := nk_ifn hc1 hr
  by_cases hc2 : l0 = 22
  · have hr := nk_ifp hc2 hr
    refine nk_p (i := .tableswitch 110 20 29 #[55, 66, 77, 88, 99, 110, 55, 66, 55, 66]) (len := 55) (pc' := 78) mJ_272 (by decide +kernel) (ns_tsw (V := 22) hc2 (by decide +kernel)) rfl ?_
    refine nk_p (i := .iload_n 1) (len := 1) (pc' := 79) mJ_272 (by decide +kernel) (ns_iload_n 1 rfl rfl) rfl ?_
    refine nk_p (i := .iload_n 2) (len := 1) (pc' := 80) mJ_272 (by decide +kernel) (ns_iload_n 2 rfl rfl) rfl ?_
    refine nk_icmp (c := .ge) (off := 7) (len := 3) (t := 87) (pc' := 83) mJ_272 (by decide +kernel) (by decide +kernel) rfl (fun hc => ?_) (fun hc => ?_)
    · have hr := nk_ifp (c := l2 ≤ l1) hc hr
      refine nk_p (i := .iconst 0) (len := 1) (pc' := 88) mJ_272 (by decide +kernel) (ns_iconst (c := 0) (by decide +kernel)) rfl ?_
      cases hr
      exact nk_iret (ty := .boolean) (len := 1) mJ_272 (by decide +kernel) rfl (nk_nar_z (by decide))
    · have hr := nk_ifn (c := l2 ≤ l1) hc hr
      refine nk_p (i := .iconst 1) (len := 1) (pc' := 84) mJ_272 (by decide +kernel) (ns_iconst (c := 1) (by decide +kernel)) rfl ?_
      refine nk_p (i := .goto 4) (len := 3) (pc' := 88) mJ_272 (by decide +kernel) (ns_goto (by decide +kernel)) rfl ?_
      cases hr
      exact nk_iret (ty := .boolean) (len := 1) mJ_272 (by decide +kernel) rfl (nk_nar_z (by decide))
  have hr := nk_ifn hc2 hr
  by_cases hc3 : l0 = 23
  · have hr := nk_ifp hc3 hr
    refine nk_p (i := .tableswitch 110 20 29 #[55, 66, 77, 88, 99, 110, 55, 66, 55, 66]) (len := 55) (pc' := 89) mJ_272 (by decide +kernel) (ns_tsw (V := 23) hc3 (by decide +kernel)) rfl ?_
    refine nk_p (i := .iload_n 1) (len := 1) (pc' := 90) mJ_272 (by decide +kernel) (ns_iload_n 1 rfl rfl) rfl ?_
    refine nk_p (i := .iload_n 2) (len := 1) (pc' := 91) mJ_272 (by decide +kernel) (ns_iload_n 2 rfl rfl) rfl ?_
    refine nk_icmp (c := .gt) (off := 7) (len := 3) (t := 98) (pc' := 94) mJ_272 (by decide +kernel) (by decide +kernel) rfl (fun hc => ?_) (fun hc => ?_)
    · have hr := nk_ifp (c := l2 < l1) hc hr
      refine nk_p (i := .iconst 0) (len := 1) (pc' := 99) mJ_272 (by decide +kernel) (ns_iconst (c := 0) (by decide +kernel)) rfl ?_
      cases hr
      exact nk_iret (ty := .boolean) (len := 1) mJ_272 (by decide +kernel) rfl (nk_nar_z (by decide))
    · have hr := nk_ifn (c := l2 < l1) hc hr
      refine nk_p (i := .iconst 1) (len := 1) (pc' := 95) mJ_272 (by decide +kernel) (ns_iconst (c := 1) (by decide +kernel)) rfl ?_
      refine nk_p (i := .goto 4) (len := 3) (pc' := 99) mJ_272 (by decide +kernel) (ns_goto (by decide +kernel)) rfl ?_
      cases hr
      exact nk_iret (ty := .boolean) (len := 1) mJ_272 (by decide +kernel) rfl (nk_nar_z (by decide))
  have hr := nk_ifn hc3 hr
  by_cases hc4 : l0 = 24
  · have hr := nk_ifp hc4 hr
    refine nk_p (i := .tableswitch 110 20 29 #[55, 66, 77, 88, 99, 110, 55, 66, 55, 66]) (len := 55) (pc' := 100) mJ_272 (by decide +kernel) (ns_tsw (V := 24) hc4 (by decide +kernel)) rfl ?_
    refine nk_p (i := .iload_n 1) (len := 1) (pc' := 101) mJ_272 (by decide +kernel) (ns_iload_n 1 rfl rfl) rfl ?_
    refine nk_p (i := .iload_n 2) (len := 1) (pc' := 102) mJ_272 (by decide +kernel) (ns_iload_n 2 rfl rfl) rfl ?_
    refine nk_icmp (c := .le) (off := 7) (len := 3) (t := 109) (pc' := 105) mJ_272 (by decide +kernel) (by decide +kernel) rfl (fun hc => ?_) (fun hc => ?_)
    · have hr := nk_ifp (c := l1 ≤ l2) hc hr
      refine nk_p (i := .iconst 0) (len := 1) (pc' := 110) mJ_272 (by decide +kernel) (ns_iconst (c := 0) (by decide +kernel)) rfl ?_
      cases hr
      exact nk_iret (ty := .boolean) (len := 1) mJ_272 (by decide +kernel) rfl (nk_nar_z (by decide))
    · have hr := nk_ifn (c := l1 ≤ l2) hc hr
      refine nk_p (i := .iconst 1) (len := 1) (pc' := 106) mJ_272 (by decide +kernel) (ns_iconst (c := 1) (by decide +kernel)) rfl ?_
      refine nk_p (i := .goto 4) (len := 3) (pc' := 110) mJ_272 (by decide +kernel) (ns_goto (by decide +kernel)) rfl ?_
      cases hr
      exact nk_iret (ty := .boolean) (len := 1) mJ_272 (by decide +kernel) rfl (nk_nar_z (by decide))
  have hr := nk_ifn hc4 hr
  by_cases hc5 : l0 = 25
  · have hr := nk_ifp hc5 hr
    refine nk_p (i := .tableswitch 110 20 29 #[55, 66, 77, 88, 99, 110, 55, 66, 55, 66]) (len := 55) (pc' := 111) mJ_272 (by decide +kernel) (ns_tsw (V := 25) hc5 (by decide +kernel)) rfl ?_
    refine nk_sub [1, 2] (L' := [(1, nk_i l1), (2, nk_i l2)]) rfl ?_
    exact ja_X2_holds_b111_ok zs _ _ _ _ hr
  have hr := nk_ifn hc5 hr
  by_cases hc6 : l0 = 26
  · have hr := nk_ifp hc6 hr
    refine nk_p (i := .tableswitch 110 20 29 #[55, 66, 77, 88, 99, 110, 55, 66, 55, 66]) (len := 55) (pc' := 56) mJ_272 (by decide +kernel) (ns_tsw (V := 26) hc6 (by decide +kernel)) rfl ?_
    refine nk_sub [1, 2] (L' := [(1, nk_i l1), (2, nk_i l2)]) rfl ?_
    exact ja_X2_holds_b56_ok zs _ _ _ _ hr
  have hr := nk_ifn hc6 hr
  by_cases hc7 : l0 = 27
  · have hr := nk_ifp hc7 hr
    refine nk_p (i := .tableswitch 110 20 29 #[55, 66, 77, 88, 99, 110, 55, 66, 55, 66]) (len := 55) (pc' := 67) mJ_272 (by decide +kernel) (ns_tsw (V := 27) hc7 (by decide +kernel)) rfl ?_
    refine nk_sub [1, 2] (L' := [(1, nk_i l1), (2, nk_i l2)]) rfl ?_
    exact ja_X2_holds_b67_ok zs _ _ _ _ hr
  have hr := nk_ifn hc7 hr
  by_cases hc8 : l0 = 28
  · have hr := nk_ifp hc8 hr
    refine nk_p (i := .tableswitch 110 20 29 #[55, 66, 77, 88, 99, 110, 55, 66, 55, 66]) (len := 55) (pc' := 56) mJ_272 (by decide +kernel) (ns_tsw (V := 28) hc8 (by decide +kernel)) rfl ?_
    refine nk_sub [1, 2] (L' := [(1, nk_i l1), (2, nk_i l2)]) rfl ?_
    exact ja_X2_holds_b56_ok zs _ _ _ _ hr
  have hr := nk_ifn hc8 hr
  by_cases hc9 : l0 = 29
  · have hr := nk_ifp hc9 hr
    refine nk_p (i := .tableswitch 110 20 29 #[55, 66, 77, 88, 99, 110, 55, 66, 55, 66]) (len := 55) (pc' := 67) mJ_272 (by decide +kernel) (ns_tsw (V := 29) hc9 (by decide +kernel)) rfl ?_
    refine nk_sub [1, 2] (L' := [(1, nk_i l1), (2, nk_i l2)]) rfl ?_
    exact ja_X2_holds_b67_ok zs _ _ _ _ hr
  have hr := nk_ifn hc9 hr
  refine nk_p (i := .tableswitch 110 20 29 #[55, 66, 77, 88, 99, 110, 55, 66, 55, 66]) (len := 55) (pc' := 111) mJ_272 (by decide +kernel) (ns_tsd (by omega) (by decide +kernel)) rfl ?_
  refine nk_sub [1, 2] (L' := [(1, nk_i l1), (2, nk_i l2)]) rfl ?_
  exact ja_X2_holds_b111_ok zs _ _ _ _ hr
/-! SafeCode$Machine jump (II)I -/
noncomputable def ja_X2_jump_b44 (l0 : Nat) (l1 : Int) (l2 : Int) (s0 : Int) (S : nk_S) : Option (Int × nk_S) :=
  if 0 ≤ l2 ∧ l2 < 46 then
  nk_bd (ja_X2_drop l0 (((ja_ob 46).getD l2.toNat 0).toInt) S) fun r2 S3 =>
  if s0 = 0 then
    if 0 ≤ (S3.1 l0 5) ∧ (S3.1 l0 5) < 64 then
    nk_lt (nk_wi S3 (ja_c l0 3) (S3.1 l0 5).toNat (nk_w (l1 + 1))) fun S7 =>
    some (0, S7)
    else none
  else
    if 0 ≤ l1 ∧ l1 < 1024 then
    if 0 ≤ (S3.1 l0 5) ∧ (S3.1 l0 5) < 64 then
    nk_lt (nk_wi S3 (ja_c l0 3) (S3.1 l0 5).toNat (S3.1 (ja_c (S3.2 l0 1) 5) l1.toNat)) fun S13 =>
    some (0, S13)
    else none
    else none
  else none
theorem ja_X2_jump_b44_ok (zs : List Int32) : ∀ (l0 : Nat) (l1 : Int) (l2 : Int) (s0 : Int) (S : nk_S) (R : Int × nk_S), nk_cl ja_Tt l0 = some 2 → ja_X2_jump_b44 l0 l1 l2 s0 S = some R → nk_K ja_Tt mi_Γ (mi_ev zs) 1 277 44 [(0, nk_r l0), (1, nk_i l1), (2, nk_i l2)] [nk_i s0] S R := by
  intro l0 l1 l2 s0 S R t_l0 hr
  unfold ja_X2_jump_b44 at hr
  refine nk_p (i := .istore_n 3) (len := 1) (pc' := 45) mJ_277 (by decide +kernel) (ns_istore_n (L' := [(3, nk_i s0), (0, nk_r l0), (1, nk_i l1), (2, nk_i l2)]) rfl rfl rfl (by decide +kernel)) rfl ?_
  refine nk_p (i := .aload_n 0) (len := 1) (pc' := 46) mJ_277 (by decide +kernel) (ns_aload_n 1 rfl rfl) rfl ?_
  refine nk_gsto (x := 209) (len := 3) (pc' := 49) (s1 := "SafeCode") (s2 := "TAKES") (s3 := "[I") (k := 46) mJ_277 (by decide +kernel) (by decide +kernel) rfl ?_
  refine nk_p (i := .iload_n 2) (len := 1) (pc' := 50) mJ_277 (by decide +kernel) (ns_iload_n 3 rfl rfl) rfl ?_
  obtain ⟨h1, hr⟩ := nk_cke hr
  refine nk_oiald (len := 1) (xs := ja_ob 46) (N := 46) (pc' := 51) mJ_277 (by decide +kernel) rfl h1.1 h1.2 rfl rfl ?_
  obtain ⟨r2, S3, h4, hr⟩ := nk_bde hr
  refine nk_callV (ci := 2) (n := 1) (x := 186) (len := 3) (j' := 266) (q' := 0) (r := r2) (S' := S3) (L2 := [(0, nk_r l0), (1, nk_i ((ja_ob 46).getD l2.toNat 0).toInt)]) (rest := []) (st' := []) (pc' := 54) mJ_277 (by decide +kernel) (by decide +kernel) rfl rfl t_l0 (Nat.le_of_ble_eq_true rfl) mJ_266 (Nat.le_of_ble_eq_true rfl) rfl (ja_X2_drop_ok zs _ _ _ _ t_l0 h4) rfl ?_
  refine nk_p (i := .aload_n 0) (len := 1) (pc' := 55) mJ_277 (by decide +kernel) (ns_aload_n 1 rfl rfl) rfl ?_
  refine nk_getC (f := (4, 1, 64)) (x := 15) (len := 3) (ci := 2) (k := 3) (pc' := 58) ja_okT mJ_277 (by decide +kernel) (by decide +kernel) (by decide +kernel) (by decide) t_l0 rfl ?_
  have t5 : nk_ar ja_Tt (ja_c l0 3) = some (1, 64) := nk_ta ja_okT t_l0 (by decide +kernel)
  refine nk_p (i := .aload_n 0) (len := 1) (pc' := 59) mJ_277 (by decide +kernel) (ns_aload_n 1 rfl rfl) rfl ?_
  refine nk_getI (y := (0, 0)) (x := 52) (len := 3) (ci := 2) (k := 5) (pc' := 62) ja_okT mJ_277 (by decide +kernel) (by decide +kernel) (by decide +kernel) t_l0 rfl ?_
  refine nk_p (i := .iload_n 3) (len := 1) (pc' := 63) mJ_277 (by decide +kernel) (ns_iload_n 0 rfl rfl) rfl ?_
  refine nk_icond (c := .eq) (off := 15) (len := 3) (t := 78) (pc' := 66) mJ_277 (by decide +kernel) (by decide +kernel) rfl (fun hc => ?_) (fun hc => ?_)
  · have hr := nk_ifp (c := s0 = 0) hc hr
    refine nk_p (i := .iload_n 1) (len := 1) (pc' := 79) mJ_277 (by decide +kernel) (ns_iload_n 2 rfl rfl) rfl ?_
    refine nk_p (i := .iconst 1) (len := 1) (pc' := 80) mJ_277 (by decide +kernel) (ns_iconst (c := 1) (by decide +kernel)) rfl ?_
    refine nk_p (i := .iadd) (len := 1) (pc' := 81) mJ_277 (by decide +kernel) ns_iadd rfl ?_
    obtain ⟨h6, hr⟩ := nk_cke hr
    obtain ⟨S7, h8, hr⟩ := nk_lte hr
    refine nk_iast (len := 1) (N := 64) (pc' := 82) mJ_277 (by decide +kernel) t5 h6.1 h6.2 rfl rfl h8 ?_
    refine nk_p (i := .iconst 0) (len := 1) (pc' := 83) mJ_277 (by decide +kernel) (ns_iconst (c := 0) (by decide +kernel)) rfl ?_
    cases hr
    exact nk_iret (ty := .int) (len := 1) mJ_277 (by decide +kernel) rfl (nk_nar_i _)
  · have hr := nk_ifn (c := s0 = 0) hc hr
    refine nk_p (i := .aload_n 0) (len := 1) (pc' := 67) mJ_277 (by decide +kernel) (ns_aload_n 1 rfl rfl) rfl ?_
    refine nk_getM (cj := 3) (z := 0) (x := 41) (len := 3) (ci := 2) (k := 1) (pc' := 70) ja_okT mJ_277 (by decide +kernel) (by decide +kernel) (by decide +kernel) t_l0 rfl (fun t9 => ?_)
    refine nk_getC (f := (4, 1, 1024)) (x := 131) (len := 3) (ci := 3) (k := 5) (pc' := 73) ja_okT mJ_277 (by decide +kernel) (by decide +kernel) (by decide +kernel) (by decide) t9 rfl ?_
    have t10 : nk_ar ja_Tt (ja_c (S3.2 l0 1) 5) = some (1, 1024) := nk_ta ja_okT t9 (by decide +kernel)
    refine nk_p (i := .iload_n 1) (len := 1) (pc' := 74) mJ_277 (by decide +kernel) (ns_iload_n 2 rfl rfl) rfl ?_
    obtain ⟨h11, hr⟩ := nk_cke hr
    refine nk_iald (len := 1) (N := 1024) (pc' := 75) mJ_277 (by decide +kernel) t10 h11.1 h11.2 rfl rfl ?_
    refine nk_p (i := .goto 6) (len := 3) (pc' := 81) mJ_277 (by decide +kernel) (ns_goto (by decide +kernel)) rfl ?_
    obtain ⟨h12, hr⟩ := nk_cke hr
    obtain ⟨S13, h14, hr⟩ := nk_lte hr
    refine nk_iast (len := 1) (N := 64) (pc' := 82) mJ_277 (by decide +kernel) t5 h12.1 h12.2 rfl rfl h14 ?_
    refine nk_p (i := .iconst 0) (len := 1) (pc' := 83) mJ_277 (by decide +kernel) (ns_iconst (c := 0) (by decide +kernel)) rfl ?_
    cases hr
    exact nk_iret (ty := .int) (len := 1) mJ_277 (by decide +kernel) rfl (nk_nar_i _)
noncomputable def ja_X2_jump_b39 (l0 : Nat) (l1 : Int) (l2 : Int) (S : nk_S) : Option (Int × nk_S) :=
  ja_X2_jump_b44 l0 l1 l2 1 S
theorem ja_X2_jump_b39_ok (zs : List Int32) : ∀ (l0 : Nat) (l1 : Int) (l2 : Int) (S : nk_S) (R : Int × nk_S), nk_cl ja_Tt l0 = some 2 → ja_X2_jump_b39 l0 l1 l2 S = some R → nk_K ja_Tt mi_Γ (mi_ev zs) 1 277 39 [(0, nk_r l0), (1, nk_i l1), (2, nk_i l2)] [] S R := by
  intro l0 l1 l2 S R t_l0 hr
  unfold ja_X2_jump_b39 at hr
  refine nk_p (i := .iconst 1) (len := 1) (pc' := 40) mJ_277 (by decide +kernel) (ns_iconst (c := 1) (by decide +kernel)) rfl ?_
  refine nk_p (i := .goto 4) (len := 3) (pc' := 44) mJ_277 (by decide +kernel) (ns_goto (by decide +kernel)) rfl ?_
  exact ja_X2_jump_b44_ok zs _ _ _ _ _ _ t_l0 hr
noncomputable def ja_X2_jump_b28 (l0 : Nat) (l1 : Int) (l2 : Int) (s0 : Int) (s1 : Int) (S : nk_S) : Option (Int × nk_S) :=
  nk_bd (ja_X2_numberAt l0 0 S) fun r1 S2 =>
  nk_bd (ja_X2_holds s0 s1 r1 S2) fun r4 S5 =>
  if r4 = 0 then
    ja_X2_jump_b44 l0 l1 l2 0 S5
  else
    ja_X2_jump_b39 l0 l1 l2 S5
theorem ja_X2_jump_b28_ok (zs : List Int32) : ∀ (l0 : Nat) (l1 : Int) (l2 : Int) (s0 : Int) (s1 : Int) (S : nk_S) (R : Int × nk_S), nk_cl ja_Tt l0 = some 2 → ja_X2_jump_b28 l0 l1 l2 s0 s1 S = some R → nk_K ja_Tt mi_Γ (mi_ev zs) 1 277 28 [(0, nk_r l0), (1, nk_i l1), (2, nk_i l2)] [nk_i s1, nk_i s0] S R := by
  intro l0 l1 l2 s0 s1 S R t_l0 hr
  unfold ja_X2_jump_b28 at hr
  refine nk_p (i := .aload_n 0) (len := 1) (pc' := 29) mJ_277 (by decide +kernel) (ns_aload_n 0 rfl rfl) rfl ?_
  refine nk_p (i := .iconst 0) (len := 1) (pc' := 30) mJ_277 (by decide +kernel) (ns_iconst (c := 0) (by decide +kernel)) rfl ?_
  obtain ⟨r1, S2, h3, hr⟩ := nk_bde hr
  refine nk_callV (ci := 2) (n := 1) (x := 138) (len := 3) (j' := 286) (q' := 1) (r := r1) (S' := S2) (L2 := [(0, nk_r l0), (1, nk_i 0)]) (rest := [nk_i s1, nk_i s0]) (st' := [nk_i r1, nk_i s1, nk_i s0]) (pc' := 33) mJ_277 (by decide +kernel) (by decide +kernel) rfl rfl t_l0 (Nat.le_of_ble_eq_true rfl) mJ_286 (Nat.le_of_ble_eq_true rfl) rfl (ja_X2_numberAt_ok zs _ _ _ _ t_l0 h3) rfl ?_
  obtain ⟨r4, S5, h6, hr⟩ := nk_bde hr
  refine nk_callS (ci := 0) (n := 3) (x := 205) (len := 3) (j' := 272) (q' := 1) (r := r4) (S' := S5) (L2 := [(0, nk_i s0), (1, nk_i s1), (2, nk_i r1)]) (rest := []) (st' := [nk_i r4]) (pc' := 36) mJ_277 (by decide +kernel) (by decide +kernel) (Nat.le_of_ble_eq_true rfl) rfl rfl (Nat.le_of_ble_eq_true rfl) mJ_272 (Nat.le_of_ble_eq_true rfl) ja_Tpos rfl (ja_X2_holds_ok zs _ _ _ _ _ h6) rfl ?_
  refine nk_icond (c := .eq) (off := 7) (len := 3) (t := 43) (pc' := 39) mJ_277 (by decide +kernel) (by decide +kernel) rfl (fun hc => ?_) (fun hc => ?_)
  · have hr := nk_ifp (c := r4 = 0) hc hr
    refine nk_p (i := .iconst 0) (len := 1) (pc' := 44) mJ_277 (by decide +kernel) (ns_iconst (c := 0) (by decide +kernel)) rfl ?_
    exact ja_X2_jump_b44_ok zs _ _ _ _ _ _ t_l0 hr
  · have hr := nk_ifn (c := r4 = 0) hc hr
    exact ja_X2_jump_b39_ok zs _ _ _ _ _ t_l0 hr
noncomputable def ja_X2_jump_b19 (l0 : Nat) (l1 : Int) (l2 : Int) (s0 : Int) (S : nk_S) : Option (Int × nk_S) :=
  ja_X2_jump_b28 l0 l1 l2 s0 0 S
theorem ja_X2_jump_b19_ok (zs : List Int32) : ∀ (l0 : Nat) (l1 : Int) (l2 : Int) (s0 : Int) (S : nk_S) (R : Int × nk_S), nk_cl ja_Tt l0 = some 2 → ja_X2_jump_b19 l0 l1 l2 s0 S = some R → nk_K ja_Tt mi_Γ (mi_ev zs) 1 277 19 [(0, nk_r l0), (1, nk_i l1), (2, nk_i l2)] [nk_i s0] S R := by
  intro l0 l1 l2 s0 S R t_l0 hr
  unfold ja_X2_jump_b19 at hr
  refine nk_p (i := .iconst 0) (len := 1) (pc' := 20) mJ_277 (by decide +kernel) (ns_iconst (c := 0) (by decide +kernel)) rfl ?_
  refine nk_p (i := .goto 8) (len := 3) (pc' := 28) mJ_277 (by decide +kernel) (ns_goto (by decide +kernel)) rfl ?_
  exact ja_X2_jump_b28_ok zs _ _ _ _ _ _ _ t_l0 hr
noncomputable def ja_X2_jump (l0 : Nat) (l1 : Int) (l2 : Int) (S : nk_S) : Option (Int × nk_S) :=
  if l2 = 19 then
    ja_X2_jump_b39 l0 l1 l2 S
  else
    if l2 = 26 then
      ja_X2_jump_b19 l0 l1 l2 l2 S
    else
      if l2 = 27 then
        ja_X2_jump_b19 l0 l1 l2 l2 S
      else
        nk_bd (ja_X2_numberAt l0 1 S) fun r1 S2 =>
        ja_X2_jump_b28 l0 l1 l2 l2 r1 S2
theorem ja_X2_jump_ok (zs : List Int32) : ∀ (l0 : Nat) (l1 : Int) (l2 : Int) (S : nk_S) (R : Int × nk_S), nk_cl ja_Tt l0 = some 2 → ja_X2_jump l0 l1 l2 S = some R → nk_K ja_Tt mi_Γ (mi_ev zs) 1 277 0 [(0, nk_r l0), (1, nk_i l1), (2, nk_i l2)] [] S R := by
  intro l0 l1 l2 S R t_l0 hr
  unfold ja_X2_jump at hr
  refine nk_p (i := .iload_n 2) (len := 1) (pc' := 1) mJ_277 (by decide +kernel) (ns_iload_n 2 rfl rfl) rfl ?_
  refine nk_p (i := .bipush 19) (len := 2) (pc' := 3) mJ_277 (by decide +kernel) (ns_bipush (c := 19) (by decide +kernel)) rfl ?_
  refine nk_icmp (c := .eq) (off := 36) (len := 3) (t := 39) (pc' := 6) mJ_277 (by decide +kernel) (by decide +kernel) rfl (fun hc => ?_) (fun hc => ?_)
  · have hr := nk_ifp (c := l2 = 19) hc hr
    exact ja_X2_jump_b39_ok zs _ _ _ _ _ t_l0 hr
  · have hr := nk_ifn (c := l2 = 19) hc hr
    refine nk_p (i := .iload_n 2) (len := 1) (pc' := 7) mJ_277 (by decide +kernel) (ns_iload_n 2 rfl rfl) rfl ?_
    refine nk_p (i := .iload_n 2) (len := 1) (pc' := 8) mJ_277 (by decide +kernel) (ns_iload_n 2 rfl rfl) rfl ?_
    refine nk_p (i := .bipush 26) (len := 2) (pc' := 10) mJ_277 (by decide +kernel) (ns_bipush (c := 26) (by decide +kernel)) rfl ?_
    refine nk_icmp (c := .eq) (off := 9) (len := 3) (t := 19) (pc' := 13) mJ_277 (by decide +kernel) (by decide +kernel) rfl (fun hc => ?_) (fun hc => ?_)
    · have hr := nk_ifp (c := l2 = 26) hc hr
      exact ja_X2_jump_b19_ok zs _ _ _ _ _ _ t_l0 hr
    · have hr := nk_ifn (c := l2 = 26) hc hr
      refine nk_p (i := .iload_n 2) (len := 1) (pc' := 14) mJ_277 (by decide +kernel) (ns_iload_n 2 rfl rfl) rfl ?_
      refine nk_p (i := .bipush 27) (len := 2) (pc' := 16) mJ_277 (by decide +kernel) (ns_bipush (c := 27) (by decide +kernel)) rfl ?_
      refine nk_icmp (c := .ne) (off := 7) (len := 3) (t := 23) (pc' := 19) mJ_277 (by decide +kernel) (by decide +kernel) rfl (fun hc => ?_) (fun hc => ?_)
      · have hr := nk_ifn (c := l2 = 27) hc hr
        refine nk_p (i := .aload_n 0) (len := 1) (pc' := 24) mJ_277 (by decide +kernel) (ns_aload_n 0 rfl rfl) rfl ?_
        refine nk_p (i := .iconst 1) (len := 1) (pc' := 25) mJ_277 (by decide +kernel) (ns_iconst (c := 1) (by decide +kernel)) rfl ?_
        obtain ⟨r1, S2, h3, hr⟩ := nk_bde hr
        refine nk_callV (ci := 2) (n := 1) (x := 138) (len := 3) (j' := 286) (q' := 1) (r := r1) (S' := S2) (L2 := [(0, nk_r l0), (1, nk_i 1)]) (rest := [nk_i l2]) (st' := [nk_i r1, nk_i l2]) (pc' := 28) mJ_277 (by decide +kernel) (by decide +kernel) rfl rfl t_l0 (Nat.le_of_ble_eq_true rfl) mJ_286 (Nat.le_of_ble_eq_true rfl) rfl (ja_X2_numberAt_ok zs _ _ _ _ t_l0 h3) rfl ?_
        exact ja_X2_jump_b28_ok zs _ _ _ _ _ _ _ t_l0 hr
      · have hr := nk_ifp (c := l2 = 27) (Decidable.of_not_not hc) hr
        exact ja_X2_jump_b19_ok zs _ _ _ _ _ _ t_l0 hr
/-! SafeCode$Machine makeObject (III)I -/
noncomputable def ja_X2_makeObject (l0 : Nat) (l1 : Int) (l2 : Int) (l3 : Int) (S : nk_S) : Option (Int × nk_S) :=
  if 0 ≤ l1 ∧ l1 < 1024 then
  nk_bd (ja_X2_make l0 l1 (S.1 (ja_c (S.2 l0 1) 6) l1.toNat) l2 S) fun r4 S5 =>
  if r4 = 0 then
    some (0, S5)
  else
    nk_bd (ja_X2_refCell r4 S5) fun r7 S8 =>
    nk_bd (ja_X2_leave l0 l3 r7 S8) fun r10 S11 =>
    some (r10, S11)
  else none
theorem ja_X2_makeObject_ok (zs : List Int32) : ∀ (l0 : Nat) (l1 : Int) (l2 : Int) (l3 : Int) (S : nk_S) (R : Int × nk_S), nk_cl ja_Tt l0 = some 2 → ja_X2_makeObject l0 l1 l2 l3 S = some R → nk_K ja_Tt mi_Γ (mi_ev zs) 1 282 0 [(0, nk_r l0), (1, nk_i l1), (2, nk_i l2), (3, nk_i l3)] [] S R := by
  intro l0 l1 l2 l3 S R t_l0 hr
  unfold ja_X2_makeObject at hr
  refine nk_p (i := .aload_n 0) (len := 1) (pc' := 1) mJ_282 (by decide +kernel) (ns_aload_n 0 rfl rfl) rfl ?_
  refine nk_p (i := .iload_n 1) (len := 1) (pc' := 2) mJ_282 (by decide +kernel) (ns_iload_n 1 rfl rfl) rfl ?_
  refine nk_p (i := .aload_n 0) (len := 1) (pc' := 3) mJ_282 (by decide +kernel) (ns_aload_n 0 rfl rfl) rfl ?_
  refine nk_getM (cj := 3) (z := 0) (x := 41) (len := 3) (ci := 2) (k := 1) (pc' := 6) ja_okT mJ_282 (by decide +kernel) (by decide +kernel) (by decide +kernel) t_l0 rfl (fun t1 => ?_)
  refine nk_getC (f := (4, 1, 1024)) (x := 199) (len := 3) (ci := 3) (k := 6) (pc' := 9) ja_okT mJ_282 (by decide +kernel) (by decide +kernel) (by decide +kernel) (by decide) t1 rfl ?_
  have t2 : nk_ar ja_Tt (ja_c (S.2 l0 1) 6) = some (1, 1024) := nk_ta ja_okT t1 (by decide +kernel)
  refine nk_p (i := .iload_n 1) (len := 1) (pc' := 10) mJ_282 (by decide +kernel) (ns_iload_n 1 rfl rfl) rfl ?_
  obtain ⟨h3, hr⟩ := nk_cke hr
  refine nk_iald (len := 1) (N := 1024) (pc' := 11) mJ_282 (by decide +kernel) t2 h3.1 h3.2 rfl rfl ?_
  refine nk_p (i := .iload_n 2) (len := 1) (pc' := 12) mJ_282 (by decide +kernel) (ns_iload_n 2 rfl rfl) rfl ?_
  obtain ⟨r4, S5, h6, hr⟩ := nk_bde hr
  refine nk_callV (ci := 2) (n := 3) (x := 217) (len := 3) (j' := 281) (q' := 1) (r := r4) (S' := S5) (L2 := [(0, nk_r l0), (1, nk_i l1), (2, nk_i (S.1 (ja_c (S.2 l0 1) 6) l1.toNat)), (3, nk_i l2)]) (rest := []) (st' := [nk_i r4]) (pc' := 15) mJ_282 (by decide +kernel) (by decide +kernel) rfl rfl t_l0 (Nat.le_of_ble_eq_true rfl) mJ_281 (Nat.le_of_ble_eq_true rfl) rfl (ja_X2_make_ok zs _ _ _ _ _ _ t_l0 h6) rfl ?_
  refine nk_p (i := .istore 4) (len := 2) (pc' := 17) mJ_282 (by decide +kernel) (ns_istore (L' := [(4, nk_i r4), (0, nk_r l0), (1, nk_i l1), (2, nk_i l2), (3, nk_i l3)]) rfl rfl (by decide +kernel)) rfl ?_
  refine nk_p (i := .iload 4) (len := 2) (pc' := 19) mJ_282 (by decide +kernel) (ns_iload 0 rfl) rfl ?_
  refine nk_icond (c := .ne) (off := 7) (len := 3) (t := 26) (pc' := 22) mJ_282 (by decide +kernel) (by decide +kernel) rfl (fun hc => ?_) (fun hc => ?_)
  · have hr := nk_ifn (c := r4 = 0) hc hr
    refine nk_p (i := .aload_n 0) (len := 1) (pc' := 27) mJ_282 (by decide +kernel) (ns_aload_n 1 rfl rfl) rfl ?_
    refine nk_p (i := .iload_n 3) (len := 1) (pc' := 28) mJ_282 (by decide +kernel) (ns_iload_n 4 rfl rfl) rfl ?_
    refine nk_p (i := .iload 4) (len := 2) (pc' := 30) mJ_282 (by decide +kernel) (ns_iload 0 rfl) rfl ?_
    obtain ⟨r7, S8, h9, hr⟩ := nk_bde hr
    refine nk_callS (ci := 0) (n := 1) (x := 196) (len := 3) (j' := 290) (q' := 2) (r := r7) (S' := S8) (L2 := [(0, nk_i r4)]) (rest := [nk_i l3, nk_r l0]) (st' := [nk_l r7, nk_i l3, nk_r l0]) (pc' := 33) mJ_282 (by decide +kernel) (by decide +kernel) (Nat.le_of_ble_eq_true rfl) rfl rfl (Nat.le_of_ble_eq_true rfl) mJ_290 (Nat.le_of_ble_eq_true rfl) ja_Tpos rfl (ja_X2_refCell_ok zs _ _ _ h9) rfl ?_
    obtain ⟨r10, S11, h12, hr⟩ := nk_bde hr
    refine nk_callV (ci := 2) (n := 2) (x := 151) (len := 3) (j' := 278) (q' := 1) (r := r10) (S' := S11) (L2 := [(0, nk_r l0), (1, nk_i l3), (2, nk_l r7)]) (rest := []) (st' := [nk_i r10]) (pc' := 36) mJ_282 (by decide +kernel) (by decide +kernel) rfl rfl t_l0 (Nat.le_of_ble_eq_true rfl) mJ_278 (Nat.le_of_ble_eq_true rfl) rfl (ja_X2_leave_ok zs _ _ _ _ _ t_l0 h12) rfl ?_
    cases hr
    exact nk_iret (ty := .int) (len := 1) mJ_282 (by decide +kernel) rfl (nk_nar_i _)
  · have hr := nk_ifp (c := r4 = 0) (Decidable.of_not_not hc) hr
    refine nk_p (i := .iconst 0) (len := 1) (pc' := 23) mJ_282 (by decide +kernel) (ns_iconst (c := 0) (by decide +kernel)) rfl ?_
    refine nk_p (i := .goto 13) (len := 3) (pc' := 36) mJ_282 (by decide +kernel) (ns_goto (by decide +kernel)) rfl ?_
    cases hr
    exact nk_iret (ty := .int) (len := 1) mJ_282 (by decide +kernel) rfl (nk_nar_i _)
/-! SafeCode$Machine useElement (II)I -/
noncomputable def ja_X2_useElement_b56 (l0 : Nat) (l1 : Int) (S : nk_S) : Option (Int × nk_S) :=
  nk_bd (ja_X2_raise l0 l1 1 S) fun r1 S2 =>
  some (r1, S2)
theorem ja_X2_useElement_b56_ok (zs : List Int32) : ∀ (l0 : Nat) (l1 : Int) (S : nk_S) (R : Int × nk_S), nk_cl ja_Tt l0 = some 2 → ja_X2_useElement_b56 l0 l1 S = some R → nk_K ja_Tt mi_Γ (mi_ev zs) 1 293 56 [(0, nk_r l0), (1, nk_i l1)] [] S R := by
  intro l0 l1 S R t_l0 hr
  unfold ja_X2_useElement_b56 at hr
  refine nk_p (i := .aload_n 0) (len := 1) (pc' := 57) mJ_293 (by decide +kernel) (ns_aload_n 0 rfl rfl) rfl ?_
  refine nk_p (i := .iload_n 1) (len := 1) (pc' := 58) mJ_293 (by decide +kernel) (ns_iload_n 1 rfl rfl) rfl ?_
  refine nk_p (i := .iconst 1) (len := 1) (pc' := 59) mJ_293 (by decide +kernel) (ns_iconst (c := 1) (by decide +kernel)) rfl ?_
  obtain ⟨r1, S2, h3, hr⟩ := nk_bde hr
  refine nk_callV (ci := 2) (n := 2) (x := 141) (len := 3) (j' := 289) (q' := 1) (r := r1) (S' := S2) (L2 := [(0, nk_r l0), (1, nk_i l1), (2, nk_i 1)]) (rest := []) (st' := [nk_i r1]) (pc' := 62) mJ_293 (by decide +kernel) (by decide +kernel) rfl rfl t_l0 (Nat.le_of_ble_eq_true rfl) mJ_289 (Nat.le_of_ble_eq_true rfl) rfl (ja_X2_raise_ok zs _ _ _ _ _ t_l0 h3) rfl ?_
  cases hr
  exact nk_iret (ty := .int) (len := 1) mJ_293 (by decide +kernel) rfl (nk_nar_i _)
noncomputable def ja_X2_useElement_b175 (l0 : Nat) (l6 : Int) (l8 : Int) (S : nk_S) : Option (Int × nk_S) :=
  if 0 ≤ l6 ∧ l6 < 12000 then
  nk_lt (nk_wi S (ja_c l0 9) l6.toNat l8) fun S3 =>
  nk_bd (ja_X2_drop l0 3 S3) fun r5 S6 =>
  nk_bd (ja_X2_next l0 S6) fun r8 S9 =>
  some (r8, S9)
  else none
theorem ja_X2_useElement_b175_ok (zs : List Int32) : ∀ (l0 : Nat) (l6 : Int) (l8 : Int) (S : nk_S) (R : Int × nk_S), nk_cl ja_Tt l0 = some 2 → ja_X2_useElement_b175 l0 l6 l8 S = some R → nk_K ja_Tt mi_Γ (mi_ev zs) 1 293 175 [(0, nk_r l0), (6, nk_i l6), (8, nk_i l8)] [] S R := by
  intro l0 l6 l8 S R t_l0 hr
  unfold ja_X2_useElement_b175 at hr
  refine nk_p (i := .aload_n 0) (len := 1) (pc' := 176) mJ_293 (by decide +kernel) (ns_aload_n 0 rfl rfl) rfl ?_
  refine nk_getC (f := (4, 1, 12000)) (x := 28) (len := 3) (ci := 2) (k := 9) (pc' := 179) ja_okT mJ_293 (by decide +kernel) (by decide +kernel) (by decide +kernel) (by decide) t_l0 rfl ?_
  have t1 : nk_ar ja_Tt (ja_c l0 9) = some (1, 12000) := nk_ta ja_okT t_l0 (by decide +kernel)
  refine nk_p (i := .iload 6) (len := 2) (pc' := 181) mJ_293 (by decide +kernel) (ns_iload 1 rfl) rfl ?_
  refine nk_p (i := .iload 8) (len := 2) (pc' := 183) mJ_293 (by decide +kernel) (ns_iload 2 rfl) rfl ?_
  obtain ⟨h2, hr⟩ := nk_cke hr
  obtain ⟨S3, h4, hr⟩ := nk_lte hr
  refine nk_iast (len := 1) (N := 12000) (pc' := 184) mJ_293 (by decide +kernel) t1 h2.1 h2.2 rfl rfl h4 ?_
  refine nk_p (i := .aload_n 0) (len := 1) (pc' := 185) mJ_293 (by decide +kernel) (ns_aload_n 0 rfl rfl) rfl ?_
  refine nk_p (i := .iconst 3) (len := 1) (pc' := 186) mJ_293 (by decide +kernel) (ns_iconst (c := 3) (by decide +kernel)) rfl ?_
  obtain ⟨r5, S6, h7, hr⟩ := nk_bde hr
  refine nk_callV (ci := 2) (n := 1) (x := 186) (len := 3) (j' := 266) (q' := 0) (r := r5) (S' := S6) (L2 := [(0, nk_r l0), (1, nk_i 3)]) (rest := []) (st' := []) (pc' := 189) mJ_293 (by decide +kernel) (by decide +kernel) rfl rfl t_l0 (Nat.le_of_ble_eq_true rfl) mJ_266 (Nat.le_of_ble_eq_true rfl) rfl (ja_X2_drop_ok zs _ _ _ _ t_l0 h7) rfl ?_
  refine nk_p (i := .aload_n 0) (len := 1) (pc' := 190) mJ_293 (by decide +kernel) (ns_aload_n 0 rfl rfl) rfl ?_
  obtain ⟨r8, S9, h10, hr⟩ := nk_bde hr
  refine nk_callV (ci := 2) (n := 0) (x := 193) (len := 3) (j' := 284) (q' := 1) (r := r8) (S' := S9) (L2 := [(0, nk_r l0)]) (rest := []) (st' := [nk_i r8]) (pc' := 193) mJ_293 (by decide +kernel) (by decide +kernel) rfl rfl t_l0 (Nat.le_of_ble_eq_true rfl) mJ_284 (Nat.le_of_ble_eq_true rfl) rfl (ja_X2_next_ok zs _ _ _ t_l0 h10) rfl ?_
  cases hr
  exact nk_iret (ty := .int) (len := 1) mJ_293 (by decide +kernel) rfl (nk_nar_i _)
noncomputable def ja_X2_useElement_b125 (s0 : Nat) (s1 : Int) (s2 : Int) (S : nk_S) : Option (Int × nk_S) :=
  nk_bd (ja_X2_leave s0 s1 s2 S) fun r1 S2 =>
  some (r1, S2)
theorem ja_X2_useElement_b125_ok (zs : List Int32) : ∀ (s0 : Nat) (s1 : Int) (s2 : Int) (S : nk_S) (R : Int × nk_S), nk_cl ja_Tt s0 = some 2 → ja_X2_useElement_b125 s0 s1 s2 S = some R → nk_K ja_Tt mi_Γ (mi_ev zs) 1 293 125 [] [nk_l s2, nk_i s1, nk_r s0] S R := by
  intro s0 s1 s2 S R t_s0 hr
  unfold ja_X2_useElement_b125 at hr
  obtain ⟨r1, S2, h3, hr⟩ := nk_bde hr
  refine nk_callV (ci := 2) (n := 2) (x := 151) (len := 3) (j' := 278) (q' := 1) (r := r1) (S' := S2) (L2 := [(0, nk_r s0), (1, nk_i s1), (2, nk_l s2)]) (rest := []) (st' := [nk_i r1]) (pc' := 128) mJ_293 (by decide +kernel) (by decide +kernel) rfl rfl t_s0 (Nat.le_of_ble_eq_true rfl) mJ_278 (Nat.le_of_ble_eq_true rfl) rfl (ja_X2_leave_ok zs _ _ _ _ _ t_s0 h3) rfl ?_
  cases hr
  exact nk_iret (ty := .int) (len := 1) mJ_293 (by decide +kernel) rfl (nk_nar_i _)
noncomputable def ja_X2_useElement_b45 (l0 : Nat) (l1 : Int) (l2 : Int) (l4 : Int) (l5 : Int) (S : nk_S) : Option (Int × nk_S) :=
  nk_bd (ja_X2_extentOf l0 l4 S) fun r1 S2 =>
  if l5 < r1 then
    if 0 ≤ (nk_w (l4 - 1)) ∧ (nk_w (l4 - 1)) < 2001 then
    nk_lt (nk_w ((S2.1 (ja_c l0 7) (nk_w (l4 - 1)).toNat) + l5)) fun v6 =>
    nk_bd (ja_X2_typeOf l0 l4 S2) fun r8 S9 =>
    nk_bd (ja_X1_element r8 S9) fun r11 S12 =>
    if l2 = 33 then
      if r11 = 1 then
        if 0 ≤ v6 ∧ v6 < 12000 then
        nk_bd (ja_X2_intCell (S12.1 (ja_c l0 9) v6.toNat) S12) fun r35 S36 =>
        ja_X2_useElement_b125 l0 2 r35 S36
        else none
      else
        if 0 ≤ v6 ∧ v6 < 12000 then
        nk_bd (ja_X2_refCell (S12.1 (ja_c l0 9) v6.toNat) S12) fun r30 S31 =>
        ja_X2_useElement_b125 l0 2 r30 S31
        else none
    else
      nk_bd (ja_X2_numberAt l0 0 S12) fun r14 S15 =>
      if r11 = 1 then
        ja_X2_useElement_b175 l0 v6 r14 S15
      else
        if r14 = 0 then
          ja_X2_useElement_b175 l0 v6 r14 S15
        else
          nk_bd (ja_X2_typeOf l0 r14 S15) fun r19 S20 =>
          nk_bd (ja_X1_isBelow (ja_c (S15.2 l0 1) 0) r19 r11 S20) fun r22 S23 =>
          if r22 = 0 then
            nk_bd (ja_X2_raise l0 l1 5 S23) fun r25 S26 =>
            some (r25, S26)
          else
            ja_X2_useElement_b175 l0 v6 r14 S23
    else none
  else
    ja_X2_useElement_b56 l0 l1 S2
theorem ja_X2_useElement_b45_ok (zs : List Int32) : ∀ (l0 : Nat) (l1 : Int) (l2 : Int) (l4 : Int) (l5 : Int) (S : nk_S) (R : Int × nk_S), nk_cl ja_Tt l0 = some 2 → ja_X2_useElement_b45 l0 l1 l2 l4 l5 S = some R → nk_K ja_Tt mi_Γ (mi_ev zs) 1 293 45 [(0, nk_r l0), (1, nk_i l1), (2, nk_i l2), (4, nk_i l4), (5, nk_i l5)] [] S R := by
  intro l0 l1 l2 l4 l5 S R t_l0 hr
  unfold ja_X2_useElement_b45 at hr
  refine nk_p (i := .iload 5) (len := 2) (pc' := 47) mJ_293 (by decide +kernel) (ns_iload 4 rfl) rfl ?_
  refine nk_p (i := .aload_n 0) (len := 1) (pc' := 48) mJ_293 (by decide +kernel) (ns_aload_n 0 rfl rfl) rfl ?_
  refine nk_p (i := .iload 4) (len := 2) (pc' := 50) mJ_293 (by decide +kernel) (ns_iload 3 rfl) rfl ?_
  obtain ⟨r1, S2, h3, hr⟩ := nk_bde hr
  refine nk_callV (ci := 2) (n := 1) (x := 144) (len := 3) (j' := 269) (q' := 1) (r := r1) (S' := S2) (L2 := [(0, nk_r l0), (1, nk_i l4)]) (rest := [nk_i l5]) (st' := [nk_i r1, nk_i l5]) (pc' := 53) mJ_293 (by decide +kernel) (by decide +kernel) rfl rfl t_l0 (Nat.le_of_ble_eq_true rfl) mJ_269 (Nat.le_of_ble_eq_true rfl) rfl (ja_X2_extentOf_ok zs _ _ _ _ t_l0 h3) rfl ?_
  refine nk_icmp (c := .lt) (off := 10) (len := 3) (t := 63) (pc' := 56) mJ_293 (by decide +kernel) (by decide +kernel) rfl (fun hc => ?_) (fun hc => ?_)
  · have hr := nk_ifp (c := l5 < r1) hc hr
    refine nk_p (i := .aload_n 0) (len := 1) (pc' := 64) mJ_293 (by decide +kernel) (ns_aload_n 0 rfl rfl) rfl ?_
    refine nk_getC (f := (4, 1, 2001)) (x := 25) (len := 3) (ci := 2) (k := 7) (pc' := 67) ja_okT mJ_293 (by decide +kernel) (by decide +kernel) (by decide +kernel) (by decide) t_l0 rfl ?_
    have t4 : nk_ar ja_Tt (ja_c l0 7) = some (1, 2001) := nk_ta ja_okT t_l0 (by decide +kernel)
    refine nk_p (i := .iload 4) (len := 2) (pc' := 69) mJ_293 (by decide +kernel) (ns_iload 3 rfl) rfl ?_
    refine nk_p (i := .iconst 1) (len := 1) (pc' := 70) mJ_293 (by decide +kernel) (ns_iconst (c := 1) (by decide +kernel)) rfl ?_
    refine nk_p (i := .isub) (len := 1) (pc' := 71) mJ_293 (by decide +kernel) ns_isub rfl ?_
    obtain ⟨h5, hr⟩ := nk_cke hr
    refine nk_iald (len := 1) (N := 2001) (pc' := 72) mJ_293 (by decide +kernel) t4 h5.1 h5.2 rfl rfl ?_
    refine nk_p (i := .iload 5) (len := 2) (pc' := 74) mJ_293 (by decide +kernel) (ns_iload 4 rfl) rfl ?_
    refine nk_p (i := .iadd) (len := 1) (pc' := 75) mJ_293 (by decide +kernel) ns_iadd rfl ?_
    obtain ⟨v6, h7, hr⟩ := nk_lte hr
    refine nk_p (i := .istore 6) (len := 2) (pc' := 77) mJ_293 (by decide +kernel) (ns_istore (L' := [(6, nk_i v6), (0, nk_r l0), (1, nk_i l1), (2, nk_i l2), (4, nk_i l4), (5, nk_i l5)]) h7 rfl (by decide +kernel)) rfl ?_
    refine nk_p (i := .aload_n 0) (len := 1) (pc' := 78) mJ_293 (by decide +kernel) (ns_aload_n 1 rfl rfl) rfl ?_
    refine nk_p (i := .iload 4) (len := 2) (pc' := 80) mJ_293 (by decide +kernel) (ns_iload 4 rfl) rfl ?_
    obtain ⟨r8, S9, h10, hr⟩ := nk_bde hr
    refine nk_callV (ci := 2) (n := 1) (x := 248) (len := 3) (j' := 292) (q' := 1) (r := r8) (S' := S9) (L2 := [(0, nk_r l0), (1, nk_i l4)]) (rest := []) (st' := [nk_i r8]) (pc' := 83) mJ_293 (by decide +kernel) (by decide +kernel) rfl rfl t_l0 (Nat.le_of_ble_eq_true rfl) mJ_292 (Nat.le_of_ble_eq_true rfl) rfl (ja_X2_typeOf_ok zs _ _ _ _ t_l0 h10) rfl ?_
    obtain ⟨r11, S12, h13, hr⟩ := nk_bde hr
    refine nk_callS (ci := 0) (n := 1) (x := 251) (len := 3) (j' := 251) (q' := 1) (r := r11) (S' := S12) (L2 := [(0, nk_i r8)]) (rest := []) (st' := [nk_i r11]) (pc' := 86) mJ_293 (by decide +kernel) (by decide +kernel) (Nat.le_of_ble_eq_true rfl) rfl rfl (Nat.le_of_ble_eq_true rfl) mJ_251 (Nat.le_of_ble_eq_true rfl) ja_Tpos rfl (ja_X1_element_ok zs _ _ _ h13) rfl ?_
    refine nk_p (i := .istore 7) (len := 2) (pc' := 88) mJ_293 (by decide +kernel) (ns_istore (L' := [(7, nk_i r11), (6, nk_i v6), (0, nk_r l0), (1, nk_i l1), (2, nk_i l2), (4, nk_i l4), (5, nk_i l5)]) rfl rfl (by decide +kernel)) rfl ?_
    refine nk_p (i := .iload_n 2) (len := 1) (pc' := 89) mJ_293 (by decide +kernel) (ns_iload_n 4 rfl rfl) rfl ?_
    refine nk_p (i := .bipush 33) (len := 2) (pc' := 91) mJ_293 (by decide +kernel) (ns_bipush (c := 33) (by decide +kernel)) rfl ?_
    refine nk_icmp (c := .ne) (off := 38) (len := 3) (t := 129) (pc' := 94) mJ_293 (by decide +kernel) (by decide +kernel) rfl (fun hc => ?_) (fun hc => ?_)
    · have hr := nk_ifn (c := l2 = 33) hc hr
      refine nk_p (i := .aload_n 0) (len := 1) (pc' := 130) mJ_293 (by decide +kernel) (ns_aload_n 2 rfl rfl) rfl ?_
      refine nk_p (i := .iconst 0) (len := 1) (pc' := 131) mJ_293 (by decide +kernel) (ns_iconst (c := 0) (by decide +kernel)) rfl ?_
      obtain ⟨r14, S15, h16, hr⟩ := nk_bde hr
      refine nk_callV (ci := 2) (n := 1) (x := 138) (len := 3) (j' := 286) (q' := 1) (r := r14) (S' := S15) (L2 := [(0, nk_r l0), (1, nk_i 0)]) (rest := []) (st' := [nk_i r14]) (pc' := 134) mJ_293 (by decide +kernel) (by decide +kernel) rfl rfl t_l0 (Nat.le_of_ble_eq_true rfl) mJ_286 (Nat.le_of_ble_eq_true rfl) rfl (ja_X2_numberAt_ok zs _ _ _ _ t_l0 h16) rfl ?_
      refine nk_p (i := .istore 8) (len := 2) (pc' := 136) mJ_293 (by decide +kernel) (ns_istore (L' := [(8, nk_i r14), (7, nk_i r11), (6, nk_i v6), (0, nk_r l0), (1, nk_i l1), (2, nk_i l2), (4, nk_i l4), (5, nk_i l5)]) rfl rfl (by decide +kernel)) rfl ?_
      refine nk_p (i := .iload 7) (len := 2) (pc' := 138) mJ_293 (by decide +kernel) (ns_iload 1 rfl) rfl ?_
      refine nk_p (i := .iconst 1) (len := 1) (pc' := 139) mJ_293 (by decide +kernel) (ns_iconst (c := 1) (by decide +kernel)) rfl ?_
      refine nk_icmp (c := .eq) (off := 36) (len := 3) (t := 175) (pc' := 142) mJ_293 (by decide +kernel) (by decide +kernel) rfl (fun hc => ?_) (fun hc => ?_)
      · have hr := nk_ifp (c := r11 = 1) hc hr
        refine nk_sub [3, 2, 0] (L' := [(0, nk_r l0), (6, nk_i v6), (8, nk_i r14)]) rfl ?_
        exact ja_X2_useElement_b175_ok zs _ _ _ _ _ t_l0 hr
      · have hr := nk_ifn (c := r11 = 1) hc hr
        refine nk_p (i := .iload 8) (len := 2) (pc' := 144) mJ_293 (by decide +kernel) (ns_iload 0 rfl) rfl ?_
        refine nk_icond (c := .eq) (off := 31) (len := 3) (t := 175) (pc' := 147) mJ_293 (by decide +kernel) (by decide +kernel) rfl (fun hc => ?_) (fun hc => ?_)
        · have hr := nk_ifp (c := r14 = 0) hc hr
          refine nk_sub [3, 2, 0] (L' := [(0, nk_r l0), (6, nk_i v6), (8, nk_i r14)]) rfl ?_
          exact ja_X2_useElement_b175_ok zs _ _ _ _ _ t_l0 hr
        · have hr := nk_ifn (c := r14 = 0) hc hr
          refine nk_p (i := .aload_n 0) (len := 1) (pc' := 148) mJ_293 (by decide +kernel) (ns_aload_n 3 rfl rfl) rfl ?_
          refine nk_getM (cj := 3) (z := 0) (x := 41) (len := 3) (ci := 2) (k := 1) (pc' := 151) ja_okT mJ_293 (by decide +kernel) (by decide +kernel) (by decide +kernel) t_l0 rfl (fun t17 => ?_)
          refine nk_getC (f := (2, 1, 0)) (x := 123) (len := 3) (ci := 3) (k := 0) (pc' := 154) ja_okT mJ_293 (by decide +kernel) (by decide +kernel) (by decide +kernel) (by decide) t17 rfl ?_
          have t18 : nk_cl ja_Tt (ja_c (S15.2 l0 1) 0) = some 1 := nk_tc (y := 0) ja_okT t17 (by decide +kernel)
          refine nk_p (i := .aload_n 0) (len := 1) (pc' := 155) mJ_293 (by decide +kernel) (ns_aload_n 3 rfl rfl) rfl ?_
          refine nk_p (i := .iload 8) (len := 2) (pc' := 157) mJ_293 (by decide +kernel) (ns_iload 0 rfl) rfl ?_
          obtain ⟨r19, S20, h21, hr⟩ := nk_bde hr
          refine nk_callV (ci := 2) (n := 1) (x := 248) (len := 3) (j' := 292) (q' := 1) (r := r19) (S' := S20) (L2 := [(0, nk_r l0), (1, nk_i r14)]) (rest := [nk_r (ja_c (S15.2 l0 1) 0)]) (st' := [nk_i r19, nk_r (ja_c (S15.2 l0 1) 0)]) (pc' := 160) mJ_293 (by decide +kernel) (by decide +kernel) rfl rfl t_l0 (Nat.le_of_ble_eq_true rfl) mJ_292 (Nat.le_of_ble_eq_true rfl) rfl (ja_X2_typeOf_ok zs _ _ _ _ t_l0 h21) rfl ?_
          refine nk_p (i := .iload 7) (len := 2) (pc' := 162) mJ_293 (by decide +kernel) (ns_iload 1 rfl) rfl ?_
          obtain ⟨r22, S23, h24, hr⟩ := nk_bde hr
          refine nk_callV (ci := 1) (n := 2) (x := 245) (len := 3) (j' := 256) (q' := 1) (r := r22) (S' := S23) (L2 := [(0, nk_r (ja_c (S15.2 l0 1) 0)), (1, nk_i r19), (2, nk_i r11)]) (rest := []) (st' := [nk_i r22]) (pc' := 165) mJ_293 (by decide +kernel) (by decide +kernel) rfl rfl t18 (Nat.le_of_ble_eq_true rfl) mJ_256 (Nat.le_of_ble_eq_true rfl) rfl (ja_X1_isBelow_ok zs _ _ _ _ _ t18 h24) rfl ?_
          refine nk_icond (c := .ne) (off := 10) (len := 3) (t := 175) (pc' := 168) mJ_293 (by decide +kernel) (by decide +kernel) rfl (fun hc => ?_) (fun hc => ?_)
          · have hr := nk_ifn (c := r22 = 0) hc hr
            refine nk_sub [3, 2, 0] (L' := [(0, nk_r l0), (6, nk_i v6), (8, nk_i r14)]) rfl ?_
            exact ja_X2_useElement_b175_ok zs _ _ _ _ _ t_l0 hr
          · have hr := nk_ifp (c := r22 = 0) (Decidable.of_not_not hc) hr
            refine nk_p (i := .aload_n 0) (len := 1) (pc' := 169) mJ_293 (by decide +kernel) (ns_aload_n 3 rfl rfl) rfl ?_
            refine nk_p (i := .iload_n 1) (len := 1) (pc' := 170) mJ_293 (by decide +kernel) (ns_iload_n 4 rfl rfl) rfl ?_
            refine nk_p (i := .iconst 5) (len := 1) (pc' := 171) mJ_293 (by decide +kernel) (ns_iconst (c := 5) (by decide +kernel)) rfl ?_
            obtain ⟨r25, S26, h27, hr⟩ := nk_bde hr
            refine nk_callV (ci := 2) (n := 2) (x := 141) (len := 3) (j' := 289) (q' := 1) (r := r25) (S' := S26) (L2 := [(0, nk_r l0), (1, nk_i l1), (2, nk_i 5)]) (rest := []) (st' := [nk_i r25]) (pc' := 174) mJ_293 (by decide +kernel) (by decide +kernel) rfl rfl t_l0 (Nat.le_of_ble_eq_true rfl) mJ_289 (Nat.le_of_ble_eq_true rfl) rfl (ja_X2_raise_ok zs _ _ _ _ _ t_l0 h27) rfl ?_
            cases hr
            exact nk_iret (ty := .int) (len := 1) mJ_293 (by decide +kernel) rfl (nk_nar_i _)
    · have hr := nk_ifp (c := l2 = 33) (Decidable.of_not_not hc) hr
      refine nk_p (i := .aload_n 0) (len := 1) (pc' := 95) mJ_293 (by decide +kernel) (ns_aload_n 2 rfl rfl) rfl ?_
      refine nk_p (i := .iconst 2) (len := 1) (pc' := 96) mJ_293 (by decide +kernel) (ns_iconst (c := 2) (by decide +kernel)) rfl ?_
      refine nk_p (i := .iload 7) (len := 2) (pc' := 98) mJ_293 (by decide +kernel) (ns_iload 0 rfl) rfl ?_
      refine nk_p (i := .iconst 1) (len := 1) (pc' := 99) mJ_293 (by decide +kernel) (ns_iconst (c := 1) (by decide +kernel)) rfl ?_
      refine nk_icmp (c := .ne) (off := 16) (len := 3) (t := 115) (pc' := 102) mJ_293 (by decide +kernel) (by decide +kernel) rfl (fun hc => ?_) (fun hc => ?_)
      · have hr := nk_ifn (c := r11 = 1) hc hr
        refine nk_p (i := .aload_n 0) (len := 1) (pc' := 116) mJ_293 (by decide +kernel) (ns_aload_n 2 rfl rfl) rfl ?_
        refine nk_getC (f := (4, 1, 12000)) (x := 28) (len := 3) (ci := 2) (k := 9) (pc' := 119) ja_okT mJ_293 (by decide +kernel) (by decide +kernel) (by decide +kernel) (by decide) t_l0 rfl ?_
        have t28 : nk_ar ja_Tt (ja_c l0 9) = some (1, 12000) := nk_ta ja_okT t_l0 (by decide +kernel)
        refine nk_p (i := .iload 6) (len := 2) (pc' := 121) mJ_293 (by decide +kernel) (ns_iload 1 rfl) rfl ?_
        obtain ⟨h29, hr⟩ := nk_cke hr
        refine nk_iald (len := 1) (N := 12000) (pc' := 122) mJ_293 (by decide +kernel) t28 h29.1 h29.2 rfl rfl ?_
        obtain ⟨r30, S31, h32, hr⟩ := nk_bde hr
        refine nk_callS (ci := 0) (n := 1) (x := 196) (len := 3) (j' := 290) (q' := 2) (r := r30) (S' := S31) (L2 := [(0, nk_i (S12.1 (ja_c l0 9) v6.toNat))]) (rest := [nk_i 2, nk_r l0]) (st' := [nk_l r30, nk_i 2, nk_r l0]) (pc' := 125) mJ_293 (by decide +kernel) (by decide +kernel) (Nat.le_of_ble_eq_true rfl) rfl rfl (Nat.le_of_ble_eq_true rfl) mJ_290 (Nat.le_of_ble_eq_true rfl) ja_Tpos rfl (ja_X2_refCell_ok zs _ _ _ h32) rfl ?_
        refine nk_sub [] (L' := []) rfl ?_
        exact ja_X2_useElement_b125_ok zs _ _ _ _ _ t_l0 hr
      · have hr := nk_ifp (c := r11 = 1) (Decidable.of_not_not hc) hr
        refine nk_p (i := .aload_n 0) (len := 1) (pc' := 103) mJ_293 (by decide +kernel) (ns_aload_n 2 rfl rfl) rfl ?_
        refine nk_getC (f := (4, 1, 12000)) (x := 28) (len := 3) (ci := 2) (k := 9) (pc' := 106) ja_okT mJ_293 (by decide +kernel) (by decide +kernel) (by decide +kernel) (by decide) t_l0 rfl ?_
        have t33 : nk_ar ja_Tt (ja_c l0 9) = some (1, 12000) := nk_ta ja_okT t_l0 (by decide +kernel)
        refine nk_p (i := .iload 6) (len := 2) (pc' := 108) mJ_293 (by decide +kernel) (ns_iload 1 rfl) rfl ?_
        obtain ⟨h34, hr⟩ := nk_cke hr
        refine nk_iald (len := 1) (N := 12000) (pc' := 109) mJ_293 (by decide +kernel) t33 h34.1 h34.2 rfl rfl ?_
        obtain ⟨r35, S36, h37, hr⟩ := nk_bde hr
        refine nk_callS (ci := 0) (n := 1) (x := 147) (len := 3) (j' := 274) (q' := 2) (r := r35) (S' := S36) (L2 := [(0, nk_i (S12.1 (ja_c l0 9) v6.toNat))]) (rest := [nk_i 2, nk_r l0]) (st' := [nk_l r35, nk_i 2, nk_r l0]) (pc' := 112) mJ_293 (by decide +kernel) (by decide +kernel) (Nat.le_of_ble_eq_true rfl) rfl rfl (Nat.le_of_ble_eq_true rfl) mJ_274 (Nat.le_of_ble_eq_true rfl) ja_Tpos rfl (ja_X2_intCell_ok zs _ _ _ h37) rfl ?_
        refine nk_p (i := .goto 13) (len := 3) (pc' := 125) mJ_293 (by decide +kernel) (ns_goto (by decide +kernel)) rfl ?_
        refine nk_sub [] (L' := []) rfl ?_
        exact ja_X2_useElement_b125_ok zs _ _ _ _ _ t_l0 hr
  · have hr := nk_ifn (c := l5 < r1) hc hr
    refine nk_sub [0, 1] (L' := [(0, nk_r l0), (1, nk_i l1)]) rfl ?_
    exact ja_X2_useElement_b56_ok zs _ _ _ _ t_l0 hr
noncomputable def ja_X2_useElement_b11 (l0 : Nat) (l1 : Int) (l2 : Int) (s0 : Int) (S : nk_S) : Option (Int × nk_S) :=
  nk_bd (ja_X2_numberAt l0 s0 S) fun r1 S2 =>
  nk_bd (ja_X2_numberAt l0 (nk_w (s0 - 1)) S2) fun r4 S5 =>
  if r1 = 0 then
    nk_bd (ja_X2_raise l0 l1 0 S5) fun r7 S8 =>
    some (r7, S8)
  else
    if r4 < 0 then
      ja_X2_useElement_b56 l0 l1 S5
    else
      ja_X2_useElement_b45 l0 l1 l2 r1 r4 S5
theorem ja_X2_useElement_b11_ok (zs : List Int32) : ∀ (l0 : Nat) (l1 : Int) (l2 : Int) (s0 : Int) (S : nk_S) (R : Int × nk_S), nk_cl ja_Tt l0 = some 2 → ja_X2_useElement_b11 l0 l1 l2 s0 S = some R → nk_K ja_Tt mi_Γ (mi_ev zs) 1 293 11 [(0, nk_r l0), (1, nk_i l1), (2, nk_i l2)] [nk_i s0] S R := by
  intro l0 l1 l2 s0 S R t_l0 hr
  unfold ja_X2_useElement_b11 at hr
  refine nk_p (i := .istore_n 3) (len := 1) (pc' := 12) mJ_293 (by decide +kernel) (ns_istore_n (L' := [(3, nk_i s0), (0, nk_r l0), (1, nk_i l1), (2, nk_i l2)]) rfl rfl rfl (by decide +kernel)) rfl ?_
  refine nk_p (i := .aload_n 0) (len := 1) (pc' := 13) mJ_293 (by decide +kernel) (ns_aload_n 1 rfl rfl) rfl ?_
  refine nk_p (i := .iload_n 3) (len := 1) (pc' := 14) mJ_293 (by decide +kernel) (ns_iload_n 0 rfl rfl) rfl ?_
  obtain ⟨r1, S2, h3, hr⟩ := nk_bde hr
  refine nk_callV (ci := 2) (n := 1) (x := 138) (len := 3) (j' := 286) (q' := 1) (r := r1) (S' := S2) (L2 := [(0, nk_r l0), (1, nk_i s0)]) (rest := []) (st' := [nk_i r1]) (pc' := 17) mJ_293 (by decide +kernel) (by decide +kernel) rfl rfl t_l0 (Nat.le_of_ble_eq_true rfl) mJ_286 (Nat.le_of_ble_eq_true rfl) rfl (ja_X2_numberAt_ok zs _ _ _ _ t_l0 h3) rfl ?_
  refine nk_p (i := .istore 4) (len := 2) (pc' := 19) mJ_293 (by decide +kernel) (ns_istore (L' := [(4, nk_i r1), (3, nk_i s0), (0, nk_r l0), (1, nk_i l1), (2, nk_i l2)]) rfl rfl (by decide +kernel)) rfl ?_
  refine nk_p (i := .aload_n 0) (len := 1) (pc' := 20) mJ_293 (by decide +kernel) (ns_aload_n 2 rfl rfl) rfl ?_
  refine nk_p (i := .iload_n 3) (len := 1) (pc' := 21) mJ_293 (by decide +kernel) (ns_iload_n 1 rfl rfl) rfl ?_
  refine nk_p (i := .iconst 1) (len := 1) (pc' := 22) mJ_293 (by decide +kernel) (ns_iconst (c := 1) (by decide +kernel)) rfl ?_
  refine nk_p (i := .isub) (len := 1) (pc' := 23) mJ_293 (by decide +kernel) ns_isub rfl ?_
  obtain ⟨r4, S5, h6, hr⟩ := nk_bde hr
  refine nk_callV (ci := 2) (n := 1) (x := 138) (len := 3) (j' := 286) (q' := 1) (r := r4) (S' := S5) (L2 := [(0, nk_r l0), (1, nk_i (nk_w (s0 - 1)))]) (rest := []) (st' := [nk_i r4]) (pc' := 26) mJ_293 (by decide +kernel) (by decide +kernel) rfl rfl t_l0 (Nat.le_of_ble_eq_true rfl) mJ_286 (Nat.le_of_ble_eq_true rfl) rfl (ja_X2_numberAt_ok zs _ _ _ _ t_l0 h6) rfl ?_
  refine nk_p (i := .istore 5) (len := 2) (pc' := 28) mJ_293 (by decide +kernel) (ns_istore (L' := [(5, nk_i r4), (4, nk_i r1), (3, nk_i s0), (0, nk_r l0), (1, nk_i l1), (2, nk_i l2)]) rfl rfl (by decide +kernel)) rfl ?_
  refine nk_p (i := .iload 4) (len := 2) (pc' := 30) mJ_293 (by decide +kernel) (ns_iload 1 rfl) rfl ?_
  refine nk_icond (c := .ne) (off := 10) (len := 3) (t := 40) (pc' := 33) mJ_293 (by decide +kernel) (by decide +kernel) rfl (fun hc => ?_) (fun hc => ?_)
  · have hr := nk_ifn (c := r1 = 0) hc hr
    refine nk_p (i := .iload 5) (len := 2) (pc' := 42) mJ_293 (by decide +kernel) (ns_iload 0 rfl) rfl ?_
    refine nk_icond (c := .lt) (off := 14) (len := 3) (t := 56) (pc' := 45) mJ_293 (by decide +kernel) (by decide +kernel) rfl (fun hc => ?_) (fun hc => ?_)
    · have hr := nk_ifp (c := r4 < 0) hc hr
      refine nk_sub [3, 4] (L' := [(0, nk_r l0), (1, nk_i l1)]) rfl ?_
      exact ja_X2_useElement_b56_ok zs _ _ _ _ t_l0 hr
    · have hr := nk_ifn (c := r4 < 0) hc hr
      refine nk_sub [3, 4, 5, 1, 0] (L' := [(0, nk_r l0), (1, nk_i l1), (2, nk_i l2), (4, nk_i r1), (5, nk_i r4)]) rfl ?_
      exact ja_X2_useElement_b45_ok zs _ _ _ _ _ _ _ t_l0 hr
  · have hr := nk_ifp (c := r1 = 0) (Decidable.of_not_not hc) hr
    refine nk_p (i := .aload_n 0) (len := 1) (pc' := 34) mJ_293 (by decide +kernel) (ns_aload_n 3 rfl rfl) rfl ?_
    refine nk_p (i := .iload_n 1) (len := 1) (pc' := 35) mJ_293 (by decide +kernel) (ns_iload_n 4 rfl rfl) rfl ?_
    refine nk_p (i := .iconst 0) (len := 1) (pc' := 36) mJ_293 (by decide +kernel) (ns_iconst (c := 0) (by decide +kernel)) rfl ?_
    obtain ⟨r7, S8, h9, hr⟩ := nk_bde hr
    refine nk_callV (ci := 2) (n := 2) (x := 141) (len := 3) (j' := 289) (q' := 1) (r := r7) (S' := S8) (L2 := [(0, nk_r l0), (1, nk_i l1), (2, nk_i 0)]) (rest := []) (st' := [nk_i r7]) (pc' := 39) mJ_293 (by decide +kernel) (by decide +kernel) rfl rfl t_l0 (Nat.le_of_ble_eq_true rfl) mJ_289 (Nat.le_of_ble_eq_true rfl) rfl (ja_X2_raise_ok zs _ _ _ _ _ t_l0 h9) rfl ?_
    cases hr
    exact nk_iret (ty := .int) (len := 1) mJ_293 (by decide +kernel) rfl (nk_nar_i _)
noncomputable def ja_X2_useElement (l0 : Nat) (l1 : Int) (l2 : Int) (S : nk_S) : Option (Int × nk_S) :=
  if l2 = 33 then
    ja_X2_useElement_b11 l0 l1 l2 1 S
  else
    ja_X2_useElement_b11 l0 l1 l2 2 S
theorem ja_X2_useElement_ok (zs : List Int32) : ∀ (l0 : Nat) (l1 : Int) (l2 : Int) (S : nk_S) (R : Int × nk_S), nk_cl ja_Tt l0 = some 2 → ja_X2_useElement l0 l1 l2 S = some R → nk_K ja_Tt mi_Γ (mi_ev zs) 1 293 0 [(0, nk_r l0), (1, nk_i l1), (2, nk_i l2)] [] S R := by
  intro l0 l1 l2 S R t_l0 hr
  unfold ja_X2_useElement at hr
  refine nk_p (i := .iload_n 2) (len := 1) (pc' := 1) mJ_293 (by decide +kernel) (ns_iload_n 2 rfl rfl) rfl ?_
  refine nk_p (i := .bipush 33) (len := 2) (pc' := 3) mJ_293 (by decide +kernel) (ns_bipush (c := 33) (by decide +kernel)) rfl ?_
  refine nk_icmp (c := .ne) (off := 7) (len := 3) (t := 10) (pc' := 6) mJ_293 (by decide +kernel) (by decide +kernel) rfl (fun hc => ?_) (fun hc => ?_)
  · have hr := nk_ifn (c := l2 = 33) hc hr
    refine nk_p (i := .iconst 2) (len := 1) (pc' := 11) mJ_293 (by decide +kernel) (ns_iconst (c := 2) (by decide +kernel)) rfl ?_
    exact ja_X2_useElement_b11_ok zs _ _ _ _ _ _ t_l0 hr
  · have hr := nk_ifp (c := l2 = 33) (Decidable.of_not_not hc) hr
    refine nk_p (i := .iconst 1) (len := 1) (pc' := 7) mJ_293 (by decide +kernel) (ns_iconst (c := 1) (by decide +kernel)) rfl ?_
    refine nk_p (i := .goto 4) (len := 3) (pc' := 11) mJ_293 (by decide +kernel) (ns_goto (by decide +kernel)) rfl ?_
    exact ja_X2_useElement_b11_ok zs _ _ _ _ _ _ t_l0 hr
/-! SafeCode$Machine useField (II)I -/
noncomputable def ja_X2_useField_b122 (s0 : Nat) (s1 : Int) (s2 : Int) (S : nk_S) : Option (Int × nk_S) :=
  nk_bd (ja_X2_leave s0 s1 s2 S) fun r1 S2 =>
  some (r1, S2)
theorem ja_X2_useField_b122_ok (zs : List Int32) : ∀ (s0 : Nat) (s1 : Int) (s2 : Int) (S : nk_S) (R : Int × nk_S), nk_cl ja_Tt s0 = some 2 → ja_X2_useField_b122 s0 s1 s2 S = some R → nk_K ja_Tt mi_Γ (mi_ev zs) 1 294 122 [] [nk_l s2, nk_i s1, nk_r s0] S R := by
  intro s0 s1 s2 S R t_s0 hr
  unfold ja_X2_useField_b122 at hr
  obtain ⟨r1, S2, h3, hr⟩ := nk_bde hr
  refine nk_callV (ci := 2) (n := 2) (x := 151) (len := 3) (j' := 278) (q' := 1) (r := r1) (S' := S2) (L2 := [(0, nk_r s0), (1, nk_i s1), (2, nk_l s2)]) (rest := []) (st' := [nk_i r1]) (pc' := 125) mJ_294 (by decide +kernel) (by decide +kernel) rfl rfl t_s0 (Nat.le_of_ble_eq_true rfl) mJ_278 (Nat.le_of_ble_eq_true rfl) rfl (ja_X2_leave_ok zs _ _ _ _ _ t_s0 h3) rfl ?_
  cases hr
  exact nk_iret (ty := .int) (len := 1) mJ_294 (by decide +kernel) rfl (nk_nar_i _)
noncomputable def ja_X2_useField_b90 (l0 : Nat) (l5 : Int) (s0 : Int) (S : nk_S) : Option (Int × nk_S) :=
  if s0 = 0 then
    if 0 ≤ l5 ∧ l5 < 12000 then
    nk_bd (ja_X2_refCell (S.1 (ja_c l0 9) l5.toNat) S) fun r3 S4 =>
    ja_X2_useField_b122 l0 1 r3 S4
    else none
  else
    if 0 ≤ l5 ∧ l5 < 12000 then
    nk_bd (ja_X2_intCell (S.1 (ja_c l0 9) l5.toNat) S) fun r8 S9 =>
    ja_X2_useField_b122 l0 1 r8 S9
    else none
theorem ja_X2_useField_b90_ok (zs : List Int32) : ∀ (l0 : Nat) (l5 : Int) (s0 : Int) (S : nk_S) (R : Int × nk_S), nk_cl ja_Tt l0 = some 2 → ja_X2_useField_b90 l0 l5 s0 S = some R → nk_K ja_Tt mi_Γ (mi_ev zs) 1 294 90 [(0, nk_r l0), (5, nk_i l5)] [nk_i s0] S R := by
  intro l0 l5 s0 S R t_l0 hr
  unfold ja_X2_useField_b90 at hr
  refine nk_p (i := .istore 6) (len := 2) (pc' := 92) mJ_294 (by decide +kernel) (ns_istore (L' := [(6, nk_i s0), (0, nk_r l0), (5, nk_i l5)]) rfl rfl (by decide +kernel)) rfl ?_
  refine nk_p (i := .aload_n 0) (len := 1) (pc' := 93) mJ_294 (by decide +kernel) (ns_aload_n 1 rfl rfl) rfl ?_
  refine nk_p (i := .iconst 1) (len := 1) (pc' := 94) mJ_294 (by decide +kernel) (ns_iconst (c := 1) (by decide +kernel)) rfl ?_
  refine nk_p (i := .iload 6) (len := 2) (pc' := 96) mJ_294 (by decide +kernel) (ns_iload 0 rfl) rfl ?_
  refine nk_icond (c := .eq) (off := 16) (len := 3) (t := 112) (pc' := 99) mJ_294 (by decide +kernel) (by decide +kernel) rfl (fun hc => ?_) (fun hc => ?_)
  · have hr := nk_ifp (c := s0 = 0) hc hr
    refine nk_p (i := .aload_n 0) (len := 1) (pc' := 113) mJ_294 (by decide +kernel) (ns_aload_n 1 rfl rfl) rfl ?_
    refine nk_getC (f := (4, 1, 12000)) (x := 28) (len := 3) (ci := 2) (k := 9) (pc' := 116) ja_okT mJ_294 (by decide +kernel) (by decide +kernel) (by decide +kernel) (by decide) t_l0 rfl ?_
    have t1 : nk_ar ja_Tt (ja_c l0 9) = some (1, 12000) := nk_ta ja_okT t_l0 (by decide +kernel)
    refine nk_p (i := .iload 5) (len := 2) (pc' := 118) mJ_294 (by decide +kernel) (ns_iload 2 rfl) rfl ?_
    obtain ⟨h2, hr⟩ := nk_cke hr
    refine nk_iald (len := 1) (N := 12000) (pc' := 119) mJ_294 (by decide +kernel) t1 h2.1 h2.2 rfl rfl ?_
    obtain ⟨r3, S4, h5, hr⟩ := nk_bde hr
    refine nk_callS (ci := 0) (n := 1) (x := 196) (len := 3) (j' := 290) (q' := 2) (r := r3) (S' := S4) (L2 := [(0, nk_i (S.1 (ja_c l0 9) l5.toNat))]) (rest := [nk_i 1, nk_r l0]) (st' := [nk_l r3, nk_i 1, nk_r l0]) (pc' := 122) mJ_294 (by decide +kernel) (by decide +kernel) (Nat.le_of_ble_eq_true rfl) rfl rfl (Nat.le_of_ble_eq_true rfl) mJ_290 (Nat.le_of_ble_eq_true rfl) ja_Tpos rfl (ja_X2_refCell_ok zs _ _ _ h5) rfl ?_
    refine nk_sub [] (L' := []) rfl ?_
    exact ja_X2_useField_b122_ok zs _ _ _ _ _ t_l0 hr
  · have hr := nk_ifn (c := s0 = 0) hc hr
    refine nk_p (i := .aload_n 0) (len := 1) (pc' := 100) mJ_294 (by decide +kernel) (ns_aload_n 1 rfl rfl) rfl ?_
    refine nk_getC (f := (4, 1, 12000)) (x := 28) (len := 3) (ci := 2) (k := 9) (pc' := 103) ja_okT mJ_294 (by decide +kernel) (by decide +kernel) (by decide +kernel) (by decide) t_l0 rfl ?_
    have t6 : nk_ar ja_Tt (ja_c l0 9) = some (1, 12000) := nk_ta ja_okT t_l0 (by decide +kernel)
    refine nk_p (i := .iload 5) (len := 2) (pc' := 105) mJ_294 (by decide +kernel) (ns_iload 2 rfl) rfl ?_
    obtain ⟨h7, hr⟩ := nk_cke hr
    refine nk_iald (len := 1) (N := 12000) (pc' := 106) mJ_294 (by decide +kernel) t6 h7.1 h7.2 rfl rfl ?_
    obtain ⟨r8, S9, h10, hr⟩ := nk_bde hr
    refine nk_callS (ci := 0) (n := 1) (x := 147) (len := 3) (j' := 274) (q' := 2) (r := r8) (S' := S9) (L2 := [(0, nk_i (S.1 (ja_c l0 9) l5.toNat))]) (rest := [nk_i 1, nk_r l0]) (st' := [nk_l r8, nk_i 1, nk_r l0]) (pc' := 109) mJ_294 (by decide +kernel) (by decide +kernel) (Nat.le_of_ble_eq_true rfl) rfl rfl (Nat.le_of_ble_eq_true rfl) mJ_274 (Nat.le_of_ble_eq_true rfl) ja_Tpos rfl (ja_X2_intCell_ok zs _ _ _ h10) rfl ?_
    refine nk_p (i := .goto 13) (len := 3) (pc' := 122) mJ_294 (by decide +kernel) (ns_goto (by decide +kernel)) rfl ?_
    refine nk_sub [] (L' := []) rfl ?_
    exact ja_X2_useField_b122_ok zs _ _ _ _ _ t_l0 hr
noncomputable def ja_X2_useField_b22 (l0 : Nat) (l1 : Int) (l2 : Int) (l3 : Int) (s0 : Nat) (s1 : Int) (S : nk_S) : Option (Int × nk_S) :=
  nk_bd (ja_X2_numberAt s0 s1 S) fun r1 S2 =>
  if r1 = 0 then
    nk_bd (ja_X2_raise l0 l1 0 S2) fun r27 S28 =>
    some (r27, S28)
  else
    if 0 ≤ (nk_w (r1 - 1)) ∧ (nk_w (r1 - 1)) < 2001 then
    if 0 ≤ l3 ∧ l3 < 48 then
    nk_lt (nk_w ((S2.1 (ja_c l0 7) (nk_w (r1 - 1)).toNat) + (S2.1 (ja_c (ja_c (S2.2 l0 1) 0) 8) l3.toNat))) fun v10 =>
    if l2 = 35 then
      if (S2.1 (ja_c (ja_c (S2.2 l0 1) 0) 7) l3.toNat) = 1 then
        ja_X2_useField_b90 l0 v10 1 S2
      else
        ja_X2_useField_b90 l0 v10 0 S2
    else
      nk_bd (ja_X2_numberAt l0 0 S2) fun r13 S14 =>
      if 0 ≤ v10 ∧ v10 < 12000 then
      nk_lt (nk_wi S14 (ja_c l0 9) v10.toNat r13) fun S17 =>
      nk_bd (ja_X2_drop l0 2 S17) fun r19 S20 =>
      nk_bd (ja_X2_next l0 S20) fun r22 S23 =>
      some (r22, S23)
      else none
    else none
    else none
theorem ja_X2_useField_b22_ok (zs : List Int32) : ∀ (l0 : Nat) (l1 : Int) (l2 : Int) (l3 : Int) (s0 : Nat) (s1 : Int) (S : nk_S) (R : Int × nk_S), nk_cl ja_Tt l0 = some 2 → nk_cl ja_Tt s0 = some 2 → ja_X2_useField_b22 l0 l1 l2 l3 s0 s1 S = some R → nk_K ja_Tt mi_Γ (mi_ev zs) 1 294 22 [(0, nk_r l0), (1, nk_i l1), (2, nk_i l2), (3, nk_i l3)] [nk_i s1, nk_r s0] S R := by
  intro l0 l1 l2 l3 s0 s1 S R t_l0 t_s0 hr
  unfold ja_X2_useField_b22 at hr
  obtain ⟨r1, S2, h3, hr⟩ := nk_bde hr
  refine nk_callV (ci := 2) (n := 1) (x := 138) (len := 3) (j' := 286) (q' := 1) (r := r1) (S' := S2) (L2 := [(0, nk_r s0), (1, nk_i s1)]) (rest := []) (st' := [nk_i r1]) (pc' := 25) mJ_294 (by decide +kernel) (by decide +kernel) rfl rfl t_s0 (Nat.le_of_ble_eq_true rfl) mJ_286 (Nat.le_of_ble_eq_true rfl) rfl (ja_X2_numberAt_ok zs _ _ _ _ t_s0 h3) rfl ?_
  refine nk_p (i := .istore 4) (len := 2) (pc' := 27) mJ_294 (by decide +kernel) (ns_istore (L' := [(4, nk_i r1), (0, nk_r l0), (1, nk_i l1), (2, nk_i l2), (3, nk_i l3)]) rfl rfl (by decide +kernel)) rfl ?_
  refine nk_p (i := .iload 4) (len := 2) (pc' := 29) mJ_294 (by decide +kernel) (ns_iload 0 rfl) rfl ?_
  refine nk_icond (c := .ne) (off := 10) (len := 3) (t := 39) (pc' := 32) mJ_294 (by decide +kernel) (by decide +kernel) rfl (fun hc => ?_) (fun hc => ?_)
  · have hr := nk_ifn (c := r1 = 0) hc hr
    refine nk_p (i := .aload_n 0) (len := 1) (pc' := 40) mJ_294 (by decide +kernel) (ns_aload_n 1 rfl rfl) rfl ?_
    refine nk_getC (f := (4, 1, 2001)) (x := 25) (len := 3) (ci := 2) (k := 7) (pc' := 43) ja_okT mJ_294 (by decide +kernel) (by decide +kernel) (by decide +kernel) (by decide) t_l0 rfl ?_
    have t4 : nk_ar ja_Tt (ja_c l0 7) = some (1, 2001) := nk_ta ja_okT t_l0 (by decide +kernel)
    refine nk_p (i := .iload 4) (len := 2) (pc' := 45) mJ_294 (by decide +kernel) (ns_iload 0 rfl) rfl ?_
    refine nk_p (i := .iconst 1) (len := 1) (pc' := 46) mJ_294 (by decide +kernel) (ns_iconst (c := 1) (by decide +kernel)) rfl ?_
    refine nk_p (i := .isub) (len := 1) (pc' := 47) mJ_294 (by decide +kernel) ns_isub rfl ?_
    obtain ⟨h5, hr⟩ := nk_cke hr
    refine nk_iald (len := 1) (N := 2001) (pc' := 48) mJ_294 (by decide +kernel) t4 h5.1 h5.2 rfl rfl ?_
    refine nk_p (i := .aload_n 0) (len := 1) (pc' := 49) mJ_294 (by decide +kernel) (ns_aload_n 1 rfl rfl) rfl ?_
    refine nk_getM (cj := 3) (z := 0) (x := 41) (len := 3) (ci := 2) (k := 1) (pc' := 52) ja_okT mJ_294 (by decide +kernel) (by decide +kernel) (by decide +kernel) t_l0 rfl (fun t6 => ?_)
    refine nk_getC (f := (2, 1, 0)) (x := 123) (len := 3) (ci := 3) (k := 0) (pc' := 55) ja_okT mJ_294 (by decide +kernel) (by decide +kernel) (by decide +kernel) (by decide) t6 rfl ?_
    have t7 : nk_cl ja_Tt (ja_c (S2.2 l0 1) 0) = some 1 := nk_tc (y := 0) ja_okT t6 (by decide +kernel)
    refine nk_getC (f := (4, 1, 48)) (x := 254) (len := 3) (ci := 1) (k := 8) (pc' := 58) ja_okT mJ_294 (by decide +kernel) (by decide +kernel) (by decide +kernel) (by decide) t7 rfl ?_
    have t8 : nk_ar ja_Tt (ja_c (ja_c (S2.2 l0 1) 0) 8) = some (1, 48) := nk_ta ja_okT t7 (by decide +kernel)
    refine nk_p (i := .iload_n 3) (len := 1) (pc' := 59) mJ_294 (by decide +kernel) (ns_iload_n 4 rfl rfl) rfl ?_
    obtain ⟨h9, hr⟩ := nk_cke hr
    refine nk_iald (len := 1) (N := 48) (pc' := 60) mJ_294 (by decide +kernel) t8 h9.1 h9.2 rfl rfl ?_
    refine nk_p (i := .iadd) (len := 1) (pc' := 61) mJ_294 (by decide +kernel) ns_iadd rfl ?_
    obtain ⟨v10, h11, hr⟩ := nk_lte hr
    refine nk_p (i := .istore 5) (len := 2) (pc' := 63) mJ_294 (by decide +kernel) (ns_istore (L' := [(5, nk_i v10), (4, nk_i r1), (0, nk_r l0), (1, nk_i l1), (2, nk_i l2), (3, nk_i l3)]) h11 rfl (by decide +kernel)) rfl ?_
    refine nk_p (i := .iload_n 2) (len := 1) (pc' := 64) mJ_294 (by decide +kernel) (ns_iload_n 4 rfl rfl) rfl ?_
    refine nk_p (i := .bipush 35) (len := 2) (pc' := 66) mJ_294 (by decide +kernel) (ns_bipush (c := 35) (by decide +kernel)) rfl ?_
    refine nk_icmp (c := .ne) (off := 60) (len := 3) (t := 126) (pc' := 69) mJ_294 (by decide +kernel) (by decide +kernel) rfl (fun hc => ?_) (fun hc => ?_)
    · have hr := nk_ifn (c := l2 = 35) hc hr
      refine nk_p (i := .aload_n 0) (len := 1) (pc' := 127) mJ_294 (by decide +kernel) (ns_aload_n 2 rfl rfl) rfl ?_
      refine nk_getC (f := (4, 1, 12000)) (x := 28) (len := 3) (ci := 2) (k := 9) (pc' := 130) ja_okT mJ_294 (by decide +kernel) (by decide +kernel) (by decide +kernel) (by decide) t_l0 rfl ?_
      have t12 : nk_ar ja_Tt (ja_c l0 9) = some (1, 12000) := nk_ta ja_okT t_l0 (by decide +kernel)
      refine nk_p (i := .iload 5) (len := 2) (pc' := 132) mJ_294 (by decide +kernel) (ns_iload 0 rfl) rfl ?_
      refine nk_p (i := .aload_n 0) (len := 1) (pc' := 133) mJ_294 (by decide +kernel) (ns_aload_n 2 rfl rfl) rfl ?_
      refine nk_p (i := .iconst 0) (len := 1) (pc' := 134) mJ_294 (by decide +kernel) (ns_iconst (c := 0) (by decide +kernel)) rfl ?_
      obtain ⟨r13, S14, h15, hr⟩ := nk_bde hr
      refine nk_callV (ci := 2) (n := 1) (x := 138) (len := 3) (j' := 286) (q' := 1) (r := r13) (S' := S14) (L2 := [(0, nk_r l0), (1, nk_i 0)]) (rest := [nk_i v10, nk_r (ja_c l0 9)]) (st' := [nk_i r13, nk_i v10, nk_r (ja_c l0 9)]) (pc' := 137) mJ_294 (by decide +kernel) (by decide +kernel) rfl rfl t_l0 (Nat.le_of_ble_eq_true rfl) mJ_286 (Nat.le_of_ble_eq_true rfl) rfl (ja_X2_numberAt_ok zs _ _ _ _ t_l0 h15) rfl ?_
      obtain ⟨h16, hr⟩ := nk_cke hr
      obtain ⟨S17, h18, hr⟩ := nk_lte hr
      refine nk_iast (len := 1) (N := 12000) (pc' := 138) mJ_294 (by decide +kernel) t12 h16.1 h16.2 rfl rfl h18 ?_
      refine nk_p (i := .aload_n 0) (len := 1) (pc' := 139) mJ_294 (by decide +kernel) (ns_aload_n 2 rfl rfl) rfl ?_
      refine nk_p (i := .iconst 2) (len := 1) (pc' := 140) mJ_294 (by decide +kernel) (ns_iconst (c := 2) (by decide +kernel)) rfl ?_
      obtain ⟨r19, S20, h21, hr⟩ := nk_bde hr
      refine nk_callV (ci := 2) (n := 1) (x := 186) (len := 3) (j' := 266) (q' := 0) (r := r19) (S' := S20) (L2 := [(0, nk_r l0), (1, nk_i 2)]) (rest := []) (st' := []) (pc' := 143) mJ_294 (by decide +kernel) (by decide +kernel) rfl rfl t_l0 (Nat.le_of_ble_eq_true rfl) mJ_266 (Nat.le_of_ble_eq_true rfl) rfl (ja_X2_drop_ok zs _ _ _ _ t_l0 h21) rfl ?_
      refine nk_p (i := .aload_n 0) (len := 1) (pc' := 144) mJ_294 (by decide +kernel) (ns_aload_n 2 rfl rfl) rfl ?_
      obtain ⟨r22, S23, h24, hr⟩ := nk_bde hr
      refine nk_callV (ci := 2) (n := 0) (x := 193) (len := 3) (j' := 284) (q' := 1) (r := r22) (S' := S23) (L2 := [(0, nk_r l0)]) (rest := []) (st' := [nk_i r22]) (pc' := 147) mJ_294 (by decide +kernel) (by decide +kernel) rfl rfl t_l0 (Nat.le_of_ble_eq_true rfl) mJ_284 (Nat.le_of_ble_eq_true rfl) rfl (ja_X2_next_ok zs _ _ _ t_l0 h24) rfl ?_
      cases hr
      exact nk_iret (ty := .int) (len := 1) mJ_294 (by decide +kernel) rfl (nk_nar_i _)
    · have hr := nk_ifp (c := l2 = 35) (Decidable.of_not_not hc) hr
      refine nk_p (i := .aload_n 0) (len := 1) (pc' := 70) mJ_294 (by decide +kernel) (ns_aload_n 2 rfl rfl) rfl ?_
      refine nk_getM (cj := 3) (z := 0) (x := 41) (len := 3) (ci := 2) (k := 1) (pc' := 73) ja_okT mJ_294 (by decide +kernel) (by decide +kernel) (by decide +kernel) t_l0 rfl (fun t25 => ?_)
      refine nk_getC (f := (2, 1, 0)) (x := 123) (len := 3) (ci := 3) (k := 0) (pc' := 76) ja_okT mJ_294 (by decide +kernel) (by decide +kernel) (by decide +kernel) (by decide) t25 rfl ?_
      refine nk_getC (f := (4, 1, 48)) (x := 257) (len := 3) (ci := 1) (k := 7) (pc' := 79) ja_okT mJ_294 (by decide +kernel) (by decide +kernel) (by decide +kernel) (by decide) t7 rfl ?_
      have t26 : nk_ar ja_Tt (ja_c (ja_c (S2.2 l0 1) 0) 7) = some (1, 48) := nk_ta ja_okT t7 (by decide +kernel)
      refine nk_p (i := .iload_n 3) (len := 1) (pc' := 80) mJ_294 (by decide +kernel) (ns_iload_n 5 rfl rfl) rfl ?_
      refine nk_iald (len := 1) (N := 48) (pc' := 81) mJ_294 (by decide +kernel) t26 h9.1 h9.2 rfl rfl ?_
      refine nk_p (i := .iconst 1) (len := 1) (pc' := 82) mJ_294 (by decide +kernel) (ns_iconst (c := 1) (by decide +kernel)) rfl ?_
      refine nk_icmp (c := .ne) (off := 7) (len := 3) (t := 89) (pc' := 85) mJ_294 (by decide +kernel) (by decide +kernel) rfl (fun hc => ?_) (fun hc => ?_)
      · have hr := nk_ifn (c := (S2.1 (ja_c (ja_c (S2.2 l0 1) 0) 7) l3.toNat) = 1) hc hr
        refine nk_p (i := .iconst 0) (len := 1) (pc' := 90) mJ_294 (by decide +kernel) (ns_iconst (c := 0) (by decide +kernel)) rfl ?_
        refine nk_sub [2, 0] (L' := [(0, nk_r l0), (5, nk_i v10)]) rfl ?_
        exact ja_X2_useField_b90_ok zs _ _ _ _ _ t_l0 hr
      · have hr := nk_ifp (c := (S2.1 (ja_c (ja_c (S2.2 l0 1) 0) 7) l3.toNat) = 1) (Decidable.of_not_not hc) hr
        refine nk_p (i := .iconst 1) (len := 1) (pc' := 86) mJ_294 (by decide +kernel) (ns_iconst (c := 1) (by decide +kernel)) rfl ?_
        refine nk_p (i := .goto 4) (len := 3) (pc' := 90) mJ_294 (by decide +kernel) (ns_goto (by decide +kernel)) rfl ?_
        refine nk_sub [2, 0] (L' := [(0, nk_r l0), (5, nk_i v10)]) rfl ?_
        exact ja_X2_useField_b90_ok zs _ _ _ _ _ t_l0 hr
  · have hr := nk_ifp (c := r1 = 0) (Decidable.of_not_not hc) hr
    refine nk_p (i := .aload_n 0) (len := 1) (pc' := 33) mJ_294 (by decide +kernel) (ns_aload_n 1 rfl rfl) rfl ?_
    refine nk_p (i := .iload_n 1) (len := 1) (pc' := 34) mJ_294 (by decide +kernel) (ns_iload_n 2 rfl rfl) rfl ?_
    refine nk_p (i := .iconst 0) (len := 1) (pc' := 35) mJ_294 (by decide +kernel) (ns_iconst (c := 0) (by decide +kernel)) rfl ?_
    obtain ⟨r27, S28, h29, hr⟩ := nk_bde hr
    refine nk_callV (ci := 2) (n := 2) (x := 141) (len := 3) (j' := 289) (q' := 1) (r := r27) (S' := S28) (L2 := [(0, nk_r l0), (1, nk_i l1), (2, nk_i 0)]) (rest := []) (st' := [nk_i r27]) (pc' := 38) mJ_294 (by decide +kernel) (by decide +kernel) rfl rfl t_l0 (Nat.le_of_ble_eq_true rfl) mJ_289 (Nat.le_of_ble_eq_true rfl) rfl (ja_X2_raise_ok zs _ _ _ _ _ t_l0 h29) rfl ?_
    cases hr
    exact nk_iret (ty := .int) (len := 1) mJ_294 (by decide +kernel) rfl (nk_nar_i _)
noncomputable def ja_X2_useField (l0 : Nat) (l1 : Int) (l2 : Int) (S : nk_S) : Option (Int × nk_S) :=
  if 0 ≤ l1 ∧ l1 < 1024 then
  nk_lt (S.1 (ja_c (S.2 l0 1) 5) l1.toNat) fun v4 =>
  if l2 = 35 then
    ja_X2_useField_b22 l0 l1 l2 v4 l0 0 S
  else
    ja_X2_useField_b22 l0 l1 l2 v4 l0 1 S
  else none
theorem ja_X2_useField_ok (zs : List Int32) : ∀ (l0 : Nat) (l1 : Int) (l2 : Int) (S : nk_S) (R : Int × nk_S), nk_cl ja_Tt l0 = some 2 → ja_X2_useField l0 l1 l2 S = some R → nk_K ja_Tt mi_Γ (mi_ev zs) 1 294 0 [(0, nk_r l0), (1, nk_i l1), (2, nk_i l2)] [] S R := by
  intro l0 l1 l2 S R t_l0 hr
  unfold ja_X2_useField at hr
  refine nk_p (i := .aload_n 0) (len := 1) (pc' := 1) mJ_294 (by decide +kernel) (ns_aload_n 0 rfl rfl) rfl ?_
  refine nk_getM (cj := 3) (z := 0) (x := 41) (len := 3) (ci := 2) (k := 1) (pc' := 4) ja_okT mJ_294 (by decide +kernel) (by decide +kernel) (by decide +kernel) t_l0 rfl (fun t1 => ?_)
  refine nk_getC (f := (4, 1, 1024)) (x := 131) (len := 3) (ci := 3) (k := 5) (pc' := 7) ja_okT mJ_294 (by decide +kernel) (by decide +kernel) (by decide +kernel) (by decide) t1 rfl ?_
  have t2 : nk_ar ja_Tt (ja_c (S.2 l0 1) 5) = some (1, 1024) := nk_ta ja_okT t1 (by decide +kernel)
  refine nk_p (i := .iload_n 1) (len := 1) (pc' := 8) mJ_294 (by decide +kernel) (ns_iload_n 1 rfl rfl) rfl ?_
  obtain ⟨h3, hr⟩ := nk_cke hr
  refine nk_iald (len := 1) (N := 1024) (pc' := 9) mJ_294 (by decide +kernel) t2 h3.1 h3.2 rfl rfl ?_
  obtain ⟨v4, h5, hr⟩ := nk_lte hr
  refine nk_p (i := .istore_n 3) (len := 1) (pc' := 10) mJ_294 (by decide +kernel) (ns_istore_n (L' := [(3, nk_i v4), (0, nk_r l0), (1, nk_i l1), (2, nk_i l2)]) h5 rfl rfl (by decide +kernel)) rfl ?_
  refine nk_p (i := .aload_n 0) (len := 1) (pc' := 11) mJ_294 (by decide +kernel) (ns_aload_n 1 rfl rfl) rfl ?_
  refine nk_p (i := .iload_n 2) (len := 1) (pc' := 12) mJ_294 (by decide +kernel) (ns_iload_n 3 rfl rfl) rfl ?_
  refine nk_p (i := .bipush 35) (len := 2) (pc' := 14) mJ_294 (by decide +kernel) (ns_bipush (c := 35) (by decide +kernel)) rfl ?_
  refine nk_icmp (c := .ne) (off := 7) (len := 3) (t := 21) (pc' := 17) mJ_294 (by decide +kernel) (by decide +kernel) rfl (fun hc => ?_) (fun hc => ?_)
  · have hr := nk_ifn (c := l2 = 35) hc hr
    refine nk_p (i := .iconst 1) (len := 1) (pc' := 22) mJ_294 (by decide +kernel) (ns_iconst (c := 1) (by decide +kernel)) rfl ?_
    refine nk_sub [1, 2, 3, 0] (L' := [(0, nk_r l0), (1, nk_i l1), (2, nk_i l2), (3, nk_i v4)]) rfl ?_
    exact ja_X2_useField_b22_ok zs _ _ _ _ _ _ _ _ t_l0 t_l0 hr
  · have hr := nk_ifp (c := l2 = 35) (Decidable.of_not_not hc) hr
    refine nk_p (i := .iconst 0) (len := 1) (pc' := 18) mJ_294 (by decide +kernel) (ns_iconst (c := 0) (by decide +kernel)) rfl ?_
    refine nk_p (i := .goto 4) (len := 3) (pc' := 22) mJ_294 (by decide +kernel) (ns_goto (by decide +kernel)) rfl ?_
    refine nk_sub [1, 2, 3, 0] (L' := [(0, nk_r l0), (1, nk_i l1), (2, nk_i l2), (3, nk_i v4)]) rfl ?_
    exact ja_X2_useField_b22_ok zs _ _ _ _ _ _ _ _ t_l0 t_l0 hr
/-! SafeCode$Machine useType (II)I -/
noncomputable def ja_X2_useType_b78 (l0 : Nat) (S : nk_S) : Option (Int × nk_S) :=
  nk_bd (ja_X2_next l0 S) fun r1 S2 =>
  some (r1, S2)
theorem ja_X2_useType_b78_ok (zs : List Int32) : ∀ (l0 : Nat) (S : nk_S) (R : Int × nk_S), nk_cl ja_Tt l0 = some 2 → ja_X2_useType_b78 l0 S = some R → nk_K ja_Tt mi_Γ (mi_ev zs) 1 295 78 [(0, nk_r l0)] [] S R := by
  intro l0 S R t_l0 hr
  unfold ja_X2_useType_b78 at hr
  refine nk_p (i := .aload_n 0) (len := 1) (pc' := 79) mJ_295 (by decide +kernel) (ns_aload_n 0 rfl rfl) rfl ?_
  obtain ⟨r1, S2, h3, hr⟩ := nk_bde hr
  refine nk_callV (ci := 2) (n := 0) (x := 193) (len := 3) (j' := 284) (q' := 1) (r := r1) (S' := S2) (L2 := [(0, nk_r l0)]) (rest := []) (st' := [nk_i r1]) (pc' := 82) mJ_295 (by decide +kernel) (by decide +kernel) rfl rfl t_l0 (Nat.le_of_ble_eq_true rfl) mJ_284 (Nat.le_of_ble_eq_true rfl) rfl (ja_X2_next_ok zs _ _ _ t_l0 h3) rfl ?_
  refine nk_p (i := .goto 9) (len := 3) (pc' := 91) mJ_295 (by decide +kernel) (ns_goto (by decide +kernel)) rfl ?_
  cases hr
  exact nk_iret (ty := .int) (len := 1) mJ_295 (by decide +kernel) rfl (nk_nar_i _)
noncomputable def ja_X2_useType_b62 (s0 : Nat) (s1 : Int) (s2 : Int) (S : nk_S) : Option (Int × nk_S) :=
  nk_bd (ja_X2_intCell s2 S) fun r1 S2 =>
  nk_bd (ja_X2_leave s0 s1 r1 S2) fun r4 S5 =>
  some (r4, S5)
theorem ja_X2_useType_b62_ok (zs : List Int32) : ∀ (s0 : Nat) (s1 : Int) (s2 : Int) (S : nk_S) (R : Int × nk_S), nk_cl ja_Tt s0 = some 2 → ja_X2_useType_b62 s0 s1 s2 S = some R → nk_K ja_Tt mi_Γ (mi_ev zs) 1 295 62 [] [nk_i s2, nk_i s1, nk_r s0] S R := by
  intro s0 s1 s2 S R t_s0 hr
  unfold ja_X2_useType_b62 at hr
  obtain ⟨r1, S2, h3, hr⟩ := nk_bde hr
  refine nk_callS (ci := 0) (n := 1) (x := 147) (len := 3) (j' := 274) (q' := 2) (r := r1) (S' := S2) (L2 := [(0, nk_i s2)]) (rest := [nk_i s1, nk_r s0]) (st' := [nk_l r1, nk_i s1, nk_r s0]) (pc' := 65) mJ_295 (by decide +kernel) (by decide +kernel) (Nat.le_of_ble_eq_true rfl) rfl rfl (Nat.le_of_ble_eq_true rfl) mJ_274 (Nat.le_of_ble_eq_true rfl) ja_Tpos rfl (ja_X2_intCell_ok zs _ _ _ h3) rfl ?_
  obtain ⟨r4, S5, h6, hr⟩ := nk_bde hr
  refine nk_callV (ci := 2) (n := 2) (x := 151) (len := 3) (j' := 278) (q' := 1) (r := r4) (S' := S5) (L2 := [(0, nk_r s0), (1, nk_i s1), (2, nk_l r1)]) (rest := []) (st' := [nk_i r4]) (pc' := 68) mJ_295 (by decide +kernel) (by decide +kernel) rfl rfl t_s0 (Nat.le_of_ble_eq_true rfl) mJ_278 (Nat.le_of_ble_eq_true rfl) rfl (ja_X2_leave_ok zs _ _ _ _ _ t_s0 h6) rfl ?_
  cases hr
  exact nk_iret (ty := .int) (len := 1) mJ_295 (by decide +kernel) rfl (nk_nar_i _)
noncomputable def ja_X2_useType_b42 (l0 : Nat) (l1 : Int) (l2 : Int) (l3 : Int) (s0 : Int) (S : nk_S) : Option (Int × nk_S) :=
  if l2 = 38 then
    if s0 = 0 then
      ja_X2_useType_b62 l0 1 0 S
    else
      ja_X2_useType_b62 l0 1 1 S
  else
    if l3 = 0 then
      ja_X2_useType_b78 l0 S
    else
      if s0 = 0 then
        nk_bd (ja_X2_raise l0 l1 4 S) fun r1 S2 =>
        some (r1, S2)
      else
        ja_X2_useType_b78 l0 S
theorem ja_X2_useType_b42_ok (zs : List Int32) : ∀ (l0 : Nat) (l1 : Int) (l2 : Int) (l3 : Int) (s0 : Int) (S : nk_S) (R : Int × nk_S), nk_cl ja_Tt l0 = some 2 → ja_X2_useType_b42 l0 l1 l2 l3 s0 S = some R → nk_K ja_Tt mi_Γ (mi_ev zs) 1 295 42 [(0, nk_r l0), (1, nk_i l1), (2, nk_i l2), (3, nk_i l3)] [nk_i s0] S R := by
  intro l0 l1 l2 l3 s0 S R t_l0 hr
  unfold ja_X2_useType_b42 at hr
  refine nk_p (i := .istore 4) (len := 2) (pc' := 44) mJ_295 (by decide +kernel) (ns_istore (L' := [(4, nk_i s0), (0, nk_r l0), (1, nk_i l1), (2, nk_i l2), (3, nk_i l3)]) rfl rfl (by decide +kernel)) rfl ?_
  refine nk_p (i := .iload_n 2) (len := 1) (pc' := 45) mJ_295 (by decide +kernel) (ns_iload_n 3 rfl rfl) rfl ?_
  refine nk_p (i := .bipush 38) (len := 2) (pc' := 47) mJ_295 (by decide +kernel) (ns_bipush (c := 38) (by decide +kernel)) rfl ?_
  refine nk_icmp (c := .ne) (off := 22) (len := 3) (t := 69) (pc' := 50) mJ_295 (by decide +kernel) (by decide +kernel) rfl (fun hc => ?_) (fun hc => ?_)
  · have hr := nk_ifn (c := l2 = 38) hc hr
    refine nk_p (i := .iload_n 3) (len := 1) (pc' := 70) mJ_295 (by decide +kernel) (ns_iload_n 4 rfl rfl) rfl ?_
    refine nk_icond (c := .eq) (off := 8) (len := 3) (t := 78) (pc' := 73) mJ_295 (by decide +kernel) (by decide +kernel) rfl (fun hc => ?_) (fun hc => ?_)
    · have hr := nk_ifp (c := l3 = 0) hc hr
      refine nk_sub [1] (L' := [(0, nk_r l0)]) rfl ?_
      exact ja_X2_useType_b78_ok zs _ _ _ t_l0 hr
    · have hr := nk_ifn (c := l3 = 0) hc hr
      refine nk_p (i := .iload 4) (len := 2) (pc' := 75) mJ_295 (by decide +kernel) (ns_iload 0 rfl) rfl ?_
      refine nk_icond (c := .eq) (off := 10) (len := 3) (t := 85) (pc' := 78) mJ_295 (by decide +kernel) (by decide +kernel) rfl (fun hc => ?_) (fun hc => ?_)
      · have hr := nk_ifp (c := s0 = 0) hc hr
        refine nk_p (i := .aload_n 0) (len := 1) (pc' := 86) mJ_295 (by decide +kernel) (ns_aload_n 1 rfl rfl) rfl ?_
        refine nk_p (i := .iload_n 1) (len := 1) (pc' := 87) mJ_295 (by decide +kernel) (ns_iload_n 2 rfl rfl) rfl ?_
        refine nk_p (i := .iconst 4) (len := 1) (pc' := 88) mJ_295 (by decide +kernel) (ns_iconst (c := 4) (by decide +kernel)) rfl ?_
        obtain ⟨r1, S2, h3, hr⟩ := nk_bde hr
        refine nk_callV (ci := 2) (n := 2) (x := 141) (len := 3) (j' := 289) (q' := 1) (r := r1) (S' := S2) (L2 := [(0, nk_r l0), (1, nk_i l1), (2, nk_i 4)]) (rest := []) (st' := [nk_i r1]) (pc' := 91) mJ_295 (by decide +kernel) (by decide +kernel) rfl rfl t_l0 (Nat.le_of_ble_eq_true rfl) mJ_289 (Nat.le_of_ble_eq_true rfl) rfl (ja_X2_raise_ok zs _ _ _ _ _ t_l0 h3) rfl ?_
        cases hr
        exact nk_iret (ty := .int) (len := 1) mJ_295 (by decide +kernel) rfl (nk_nar_i _)
      · have hr := nk_ifn (c := s0 = 0) hc hr
        refine nk_sub [1] (L' := [(0, nk_r l0)]) rfl ?_
        exact ja_X2_useType_b78_ok zs _ _ _ t_l0 hr
  · have hr := nk_ifp (c := l2 = 38) (Decidable.of_not_not hc) hr
    refine nk_p (i := .aload_n 0) (len := 1) (pc' := 51) mJ_295 (by decide +kernel) (ns_aload_n 1 rfl rfl) rfl ?_
    refine nk_p (i := .iconst 1) (len := 1) (pc' := 52) mJ_295 (by decide +kernel) (ns_iconst (c := 1) (by decide +kernel)) rfl ?_
    refine nk_p (i := .iload 4) (len := 2) (pc' := 54) mJ_295 (by decide +kernel) (ns_iload 0 rfl) rfl ?_
    refine nk_icond (c := .eq) (off := 7) (len := 3) (t := 61) (pc' := 57) mJ_295 (by decide +kernel) (by decide +kernel) rfl (fun hc => ?_) (fun hc => ?_)
    · have hr := nk_ifp (c := s0 = 0) hc hr
      refine nk_p (i := .iconst 0) (len := 1) (pc' := 62) mJ_295 (by decide +kernel) (ns_iconst (c := 0) (by decide +kernel)) rfl ?_
      refine nk_sub [] (L' := []) rfl ?_
      exact ja_X2_useType_b62_ok zs _ _ _ _ _ t_l0 hr
    · have hr := nk_ifn (c := s0 = 0) hc hr
      refine nk_p (i := .iconst 1) (len := 1) (pc' := 58) mJ_295 (by decide +kernel) (ns_iconst (c := 1) (by decide +kernel)) rfl ?_
      refine nk_p (i := .goto 4) (len := 3) (pc' := 62) mJ_295 (by decide +kernel) (ns_goto (by decide +kernel)) rfl ?_
      refine nk_sub [] (L' := []) rfl ?_
      exact ja_X2_useType_b62_ok zs _ _ _ _ _ t_l0 hr
noncomputable def ja_X2_useType_b41 (l0 : Nat) (l1 : Int) (l2 : Int) (l3 : Int) (S : nk_S) : Option (Int × nk_S) :=
  ja_X2_useType_b42 l0 l1 l2 l3 0 S
theorem ja_X2_useType_b41_ok (zs : List Int32) : ∀ (l0 : Nat) (l1 : Int) (l2 : Int) (l3 : Int) (S : nk_S) (R : Int × nk_S), nk_cl ja_Tt l0 = some 2 → ja_X2_useType_b41 l0 l1 l2 l3 S = some R → nk_K ja_Tt mi_Γ (mi_ev zs) 1 295 41 [(0, nk_r l0), (1, nk_i l1), (2, nk_i l2), (3, nk_i l3)] [] S R := by
  intro l0 l1 l2 l3 S R t_l0 hr
  unfold ja_X2_useType_b41 at hr
  refine nk_p (i := .iconst 0) (len := 1) (pc' := 42) mJ_295 (by decide +kernel) (ns_iconst (c := 0) (by decide +kernel)) rfl ?_
  exact ja_X2_useType_b42_ok zs _ _ _ _ _ _ _ t_l0 hr
noncomputable def ja_X2_useType (l0 : Nat) (l1 : Int) (l2 : Int) (S : nk_S) : Option (Int × nk_S) :=
  nk_bd (ja_X2_numberAt l0 0 S) fun r1 S2 =>
  if r1 = 0 then
    ja_X2_useType_b41 l0 l1 l2 r1 S2
  else
    nk_bd (ja_X2_typeOf l0 r1 S2) fun r6 S7 =>
    if 0 ≤ l1 ∧ l1 < 1024 then
    nk_bd (ja_X1_isBelow (ja_c (S2.2 l0 1) 0) r6 (S7.1 (ja_c (S7.2 l0 1) 5) l1.toNat) S7) fun r12 S13 =>
    if r12 = 0 then
      ja_X2_useType_b41 l0 l1 l2 r1 S13
    else
      ja_X2_useType_b42 l0 l1 l2 r1 1 S13
    else none
theorem ja_X2_useType_ok (zs : List Int32) : ∀ (l0 : Nat) (l1 : Int) (l2 : Int) (S : nk_S) (R : Int × nk_S), nk_cl ja_Tt l0 = some 2 → ja_X2_useType l0 l1 l2 S = some R → nk_K ja_Tt mi_Γ (mi_ev zs) 1 295 0 [(0, nk_r l0), (1, nk_i l1), (2, nk_i l2)] [] S R := by
  intro l0 l1 l2 S R t_l0 hr
  unfold ja_X2_useType at hr
  refine nk_p (i := .aload_n 0) (len := 1) (pc' := 1) mJ_295 (by decide +kernel) (ns_aload_n 0 rfl rfl) rfl ?_
  refine nk_p (i := .iconst 0) (len := 1) (pc' := 2) mJ_295 (by decide +kernel) (ns_iconst (c := 0) (by decide +kernel)) rfl ?_
  obtain ⟨r1, S2, h3, hr⟩ := nk_bde hr
  refine nk_callV (ci := 2) (n := 1) (x := 138) (len := 3) (j' := 286) (q' := 1) (r := r1) (S' := S2) (L2 := [(0, nk_r l0), (1, nk_i 0)]) (rest := []) (st' := [nk_i r1]) (pc' := 5) mJ_295 (by decide +kernel) (by decide +kernel) rfl rfl t_l0 (Nat.le_of_ble_eq_true rfl) mJ_286 (Nat.le_of_ble_eq_true rfl) rfl (ja_X2_numberAt_ok zs _ _ _ _ t_l0 h3) rfl ?_
  refine nk_p (i := .istore_n 3) (len := 1) (pc' := 6) mJ_295 (by decide +kernel) (ns_istore_n (L' := [(3, nk_i r1), (0, nk_r l0), (1, nk_i l1), (2, nk_i l2)]) rfl rfl rfl (by decide +kernel)) rfl ?_
  refine nk_p (i := .iload_n 3) (len := 1) (pc' := 7) mJ_295 (by decide +kernel) (ns_iload_n 0 rfl rfl) rfl ?_
  refine nk_icond (c := .eq) (off := 34) (len := 3) (t := 41) (pc' := 10) mJ_295 (by decide +kernel) (by decide +kernel) rfl (fun hc => ?_) (fun hc => ?_)
  · have hr := nk_ifp (c := r1 = 0) hc hr
    refine nk_sub [1, 2, 3, 0] (L' := [(0, nk_r l0), (1, nk_i l1), (2, nk_i l2), (3, nk_i r1)]) rfl ?_
    exact ja_X2_useType_b41_ok zs _ _ _ _ _ _ t_l0 hr
  · have hr := nk_ifn (c := r1 = 0) hc hr
    refine nk_p (i := .aload_n 0) (len := 1) (pc' := 11) mJ_295 (by decide +kernel) (ns_aload_n 1 rfl rfl) rfl ?_
    refine nk_getM (cj := 3) (z := 0) (x := 41) (len := 3) (ci := 2) (k := 1) (pc' := 14) ja_okT mJ_295 (by decide +kernel) (by decide +kernel) (by decide +kernel) t_l0 rfl (fun t4 => ?_)
    refine nk_getC (f := (2, 1, 0)) (x := 123) (len := 3) (ci := 3) (k := 0) (pc' := 17) ja_okT mJ_295 (by decide +kernel) (by decide +kernel) (by decide +kernel) (by decide) t4 rfl ?_
    have t5 : nk_cl ja_Tt (ja_c (S2.2 l0 1) 0) = some 1 := nk_tc (y := 0) ja_okT t4 (by decide +kernel)
    refine nk_p (i := .aload_n 0) (len := 1) (pc' := 18) mJ_295 (by decide +kernel) (ns_aload_n 1 rfl rfl) rfl ?_
    refine nk_p (i := .iload_n 3) (len := 1) (pc' := 19) mJ_295 (by decide +kernel) (ns_iload_n 0 rfl rfl) rfl ?_
    obtain ⟨r6, S7, h8, hr⟩ := nk_bde hr
    refine nk_callV (ci := 2) (n := 1) (x := 248) (len := 3) (j' := 292) (q' := 1) (r := r6) (S' := S7) (L2 := [(0, nk_r l0), (1, nk_i r1)]) (rest := [nk_r (ja_c (S2.2 l0 1) 0)]) (st' := [nk_i r6, nk_r (ja_c (S2.2 l0 1) 0)]) (pc' := 22) mJ_295 (by decide +kernel) (by decide +kernel) rfl rfl t_l0 (Nat.le_of_ble_eq_true rfl) mJ_292 (Nat.le_of_ble_eq_true rfl) rfl (ja_X2_typeOf_ok zs _ _ _ _ t_l0 h8) rfl ?_
    refine nk_p (i := .aload_n 0) (len := 1) (pc' := 23) mJ_295 (by decide +kernel) (ns_aload_n 1 rfl rfl) rfl ?_
    refine nk_getM (cj := 3) (z := 0) (x := 41) (len := 3) (ci := 2) (k := 1) (pc' := 26) ja_okT mJ_295 (by decide +kernel) (by decide +kernel) (by decide +kernel) t_l0 rfl (fun t9 => ?_)
    refine nk_getC (f := (4, 1, 1024)) (x := 131) (len := 3) (ci := 3) (k := 5) (pc' := 29) ja_okT mJ_295 (by decide +kernel) (by decide +kernel) (by decide +kernel) (by decide) t9 rfl ?_
    have t10 : nk_ar ja_Tt (ja_c (S7.2 l0 1) 5) = some (1, 1024) := nk_ta ja_okT t9 (by decide +kernel)
    refine nk_p (i := .iload_n 1) (len := 1) (pc' := 30) mJ_295 (by decide +kernel) (ns_iload_n 2 rfl rfl) rfl ?_
    obtain ⟨h11, hr⟩ := nk_cke hr
    refine nk_iald (len := 1) (N := 1024) (pc' := 31) mJ_295 (by decide +kernel) t10 h11.1 h11.2 rfl rfl ?_
    obtain ⟨r12, S13, h14, hr⟩ := nk_bde hr
    refine nk_callV (ci := 1) (n := 2) (x := 245) (len := 3) (j' := 256) (q' := 1) (r := r12) (S' := S13) (L2 := [(0, nk_r (ja_c (S2.2 l0 1) 0)), (1, nk_i r6), (2, nk_i (S7.1 (ja_c (S7.2 l0 1) 5) l1.toNat))]) (rest := []) (st' := [nk_i r12]) (pc' := 34) mJ_295 (by decide +kernel) (by decide +kernel) rfl rfl t5 (Nat.le_of_ble_eq_true rfl) mJ_256 (Nat.le_of_ble_eq_true rfl) rfl (ja_X1_isBelow_ok zs _ _ _ _ _ t5 h14) rfl ?_
    refine nk_icond (c := .eq) (off := 7) (len := 3) (t := 41) (pc' := 37) mJ_295 (by decide +kernel) (by decide +kernel) rfl (fun hc => ?_) (fun hc => ?_)
    · have hr := nk_ifp (c := r12 = 0) hc hr
      refine nk_sub [1, 2, 3, 0] (L' := [(0, nk_r l0), (1, nk_i l1), (2, nk_i l2), (3, nk_i r1)]) rfl ?_
      exact ja_X2_useType_b41_ok zs _ _ _ _ _ _ t_l0 hr
    · have hr := nk_ifn (c := r12 = 0) hc hr
      refine nk_p (i := .iconst 1) (len := 1) (pc' := 38) mJ_295 (by decide +kernel) (ns_iconst (c := 1) (by decide +kernel)) rfl ?_
      refine nk_p (i := .goto 4) (len := 3) (pc' := 42) mJ_295 (by decide +kernel) (ns_goto (by decide +kernel)) rfl ?_
      refine nk_sub [1, 2, 3, 0] (L' := [(0, nk_r l0), (1, nk_i l1), (2, nk_i l2), (3, nk_i r1)]) rfl ?_
      exact ja_X2_useType_b42_ok zs _ _ _ _ _ _ _ t_l0 hr
/-! SafeCode$Machine enterBody (II)I -/
noncomputable def ja_X2_enterBody_b88 (l0 : Nat) (l1 : Int) (S : nk_S) : Option (Int × nk_S) :=
  nk_bd (ja_X2_finish l0 4 l1 S) fun r1 S2 =>
  some (0, S2)
theorem ja_X2_enterBody_b88_ok (zs : List Int32) : ∀ (l0 : Nat) (l1 : Int) (S : nk_S) (R : Int × nk_S), nk_cl ja_Tt l0 = some 2 → ja_X2_enterBody_b88 l0 l1 S = some R → nk_K ja_Tt mi_Γ (mi_ev zs) 1 267 88 [(0, nk_r l0), (1, nk_i l1)] [] S R := by
  intro l0 l1 S R t_l0 hr
  unfold ja_X2_enterBody_b88 at hr
  refine nk_p (i := .aload_n 0) (len := 1) (pc' := 89) mJ_267 (by decide +kernel) (ns_aload_n 0 rfl rfl) rfl ?_
  refine nk_p (i := .iconst 4) (len := 1) (pc' := 90) mJ_267 (by decide +kernel) (ns_iconst (c := 4) (by decide +kernel)) rfl ?_
  refine nk_p (i := .iload_n 1) (len := 1) (pc' := 91) mJ_267 (by decide +kernel) (ns_iload_n 1 rfl rfl) rfl ?_
  obtain ⟨r1, S2, h3, hr⟩ := nk_bde hr
  refine nk_callV (ci := 2) (n := 2) (x := 85) (len := 3) (j' := 270) (q' := 0) (r := r1) (S' := S2) (L2 := [(0, nk_r l0), (1, nk_i 4), (2, nk_i l1)]) (rest := []) (st' := []) (pc' := 94) mJ_267 (by decide +kernel) (by decide +kernel) rfl rfl t_l0 (Nat.le_of_ble_eq_true rfl) mJ_270 (Nat.le_of_ble_eq_true rfl) rfl (ja_X2_finish_ok zs _ _ _ _ _ t_l0 h3) rfl ?_
  refine nk_p (i := .iconst 0) (len := 1) (pc' := 95) mJ_267 (by decide +kernel) (ns_iconst (c := 0) (by decide +kernel)) rfl ?_
  cases hr
  exact nk_iret (ty := .int) (len := 1) mJ_267 (by decide +kernel) rfl (nk_nar_i _)
noncomputable def ja_X2_enterBody_b73 (l0 : Nat) (l1 : Int) (l3 : Int) (l4 : Int) (S : nk_S) : Option (Int × nk_S) :=
  if l3 < 0 then
    ja_X2_enterBody_b88 l0 l1 S
  else
    if (nk_w ((S.1 l0 5) + 1)) < 64 then
      nk_bd (ja_X2_drop l0 l4 S) fun r1 S2 =>
      nk_bd (ja_X2_fromTop l0 0 S2) fun r4 S5 =>
      nk_lt (nk_w (r4 + 1)) fun v7 =>
      nk_lt (nk_wi S5 l0 5 (nk_w ((S5.1 l0 5) + 1))) fun S9 =>
      nk_bd (ja_X2_beginBody l0 l3 S9) fun r11 S12 =>
      if 0 ≤ v7 ∧ 0 ≤ (nk_w ((S12.1 l0 5) * 20)) ∧ 0 ≤ l4 ∧ v7 + l4 ≤ 1280 ∧ (nk_w ((S12.1 l0 5) * 20)) + l4 ≤ 1280 then
      nk_lt (nk_cp S12 (ja_c l0 2) v7.toNat (ja_c l0 2) (nk_w ((S12.1 l0 5) * 20)).toNat l4.toNat) fun S16 =>
      some (0, S16)
      else none
    else
      ja_X2_enterBody_b88 l0 l1 S
theorem ja_X2_enterBody_b73_ok (zs : List Int32) : ∀ (l0 : Nat) (l1 : Int) (l3 : Int) (l4 : Int) (S : nk_S) (R : Int × nk_S), nk_cl ja_Tt l0 = some 2 → ja_X2_enterBody_b73 l0 l1 l3 l4 S = some R → nk_K ja_Tt mi_Γ (mi_ev zs) 1 267 73 [(0, nk_r l0), (1, nk_i l1), (3, nk_i l3), (4, nk_i l4)] [] S R := by
  intro l0 l1 l3 l4 S R t_l0 hr
  unfold ja_X2_enterBody_b73 at hr
  refine nk_p (i := .iload_n 3) (len := 1) (pc' := 74) mJ_267 (by decide +kernel) (ns_iload_n 2 rfl rfl) rfl ?_
  refine nk_icond (c := .lt) (off := 14) (len := 3) (t := 88) (pc' := 77) mJ_267 (by decide +kernel) (by decide +kernel) rfl (fun hc => ?_) (fun hc => ?_)
  · have hr := nk_ifp (c := l3 < 0) hc hr
    refine nk_sub [0, 1] (L' := [(0, nk_r l0), (1, nk_i l1)]) rfl ?_
    exact ja_X2_enterBody_b88_ok zs _ _ _ _ t_l0 hr
  · have hr := nk_ifn (c := l3 < 0) hc hr
    refine nk_p (i := .aload_n 0) (len := 1) (pc' := 78) mJ_267 (by decide +kernel) (ns_aload_n 0 rfl rfl) rfl ?_
    refine nk_getI (y := (0, 0)) (x := 52) (len := 3) (ci := 2) (k := 5) (pc' := 81) ja_okT mJ_267 (by decide +kernel) (by decide +kernel) (by decide +kernel) t_l0 rfl ?_
    refine nk_p (i := .iconst 1) (len := 1) (pc' := 82) mJ_267 (by decide +kernel) (ns_iconst (c := 1) (by decide +kernel)) rfl ?_
    refine nk_p (i := .iadd) (len := 1) (pc' := 83) mJ_267 (by decide +kernel) ns_iadd rfl ?_
    refine nk_p (i := .bipush 64) (len := 2) (pc' := 85) mJ_267 (by decide +kernel) (ns_bipush (c := 64) (by decide +kernel)) rfl ?_
    refine nk_icmp (c := .lt) (off := 11) (len := 3) (t := 96) (pc' := 88) mJ_267 (by decide +kernel) (by decide +kernel) rfl (fun hc => ?_) (fun hc => ?_)
    · have hr := nk_ifp (c := (nk_w ((S.1 l0 5) + 1)) < 64) hc hr
      refine nk_p (i := .aload_n 0) (len := 1) (pc' := 97) mJ_267 (by decide +kernel) (ns_aload_n 0 rfl rfl) rfl ?_
      refine nk_p (i := .iload 4) (len := 2) (pc' := 99) mJ_267 (by decide +kernel) (ns_iload 3 rfl) rfl ?_
      obtain ⟨r1, S2, h3, hr⟩ := nk_bde hr
      refine nk_callV (ci := 2) (n := 1) (x := 186) (len := 3) (j' := 266) (q' := 0) (r := r1) (S' := S2) (L2 := [(0, nk_r l0), (1, nk_i l4)]) (rest := []) (st' := []) (pc' := 102) mJ_267 (by decide +kernel) (by decide +kernel) rfl rfl t_l0 (Nat.le_of_ble_eq_true rfl) mJ_266 (Nat.le_of_ble_eq_true rfl) rfl (ja_X2_drop_ok zs _ _ _ _ t_l0 h3) rfl ?_
      refine nk_p (i := .aload_n 0) (len := 1) (pc' := 103) mJ_267 (by decide +kernel) (ns_aload_n 0 rfl rfl) rfl ?_
      refine nk_p (i := .iconst 0) (len := 1) (pc' := 104) mJ_267 (by decide +kernel) (ns_iconst (c := 0) (by decide +kernel)) rfl ?_
      obtain ⟨r4, S5, h6, hr⟩ := nk_bde hr
      refine nk_callV (ci := 2) (n := 1) (x := 177) (len := 3) (j' := 271) (q' := 1) (r := r4) (S' := S5) (L2 := [(0, nk_r l0), (1, nk_i 0)]) (rest := []) (st' := [nk_i r4]) (pc' := 107) mJ_267 (by decide +kernel) (by decide +kernel) rfl rfl t_l0 (Nat.le_of_ble_eq_true rfl) mJ_271 (Nat.le_of_ble_eq_true rfl) rfl (ja_X2_fromTop_ok zs _ _ _ _ t_l0 h6) rfl ?_
      refine nk_p (i := .iconst 1) (len := 1) (pc' := 108) mJ_267 (by decide +kernel) (ns_iconst (c := 1) (by decide +kernel)) rfl ?_
      refine nk_p (i := .iadd) (len := 1) (pc' := 109) mJ_267 (by decide +kernel) ns_iadd rfl ?_
      obtain ⟨v7, h8, hr⟩ := nk_lte hr
      refine nk_p (i := .istore 5) (len := 2) (pc' := 111) mJ_267 (by decide +kernel) (ns_istore (L' := [(5, nk_i v7), (0, nk_r l0), (1, nk_i l1), (3, nk_i l3), (4, nk_i l4)]) h8 rfl (by decide +kernel)) rfl ?_
      refine nk_p (i := .aload_n 0) (len := 1) (pc' := 112) mJ_267 (by decide +kernel) (ns_aload_n 1 rfl rfl) rfl ?_
      refine nk_p (i := .dup) (len := 1) (pc' := 113) mJ_267 (by decide +kernel) (ns_dup rfl) rfl ?_
      refine nk_getI (y := (0, 0)) (x := 52) (len := 3) (ci := 2) (k := 5) (pc' := 116) ja_okT mJ_267 (by decide +kernel) (by decide +kernel) (by decide +kernel) t_l0 rfl ?_
      refine nk_p (i := .iconst 1) (len := 1) (pc' := 117) mJ_267 (by decide +kernel) (ns_iconst (c := 1) (by decide +kernel)) rfl ?_
      refine nk_p (i := .iadd) (len := 1) (pc' := 118) mJ_267 (by decide +kernel) ns_iadd rfl ?_
      obtain ⟨S9, h10, hr⟩ := nk_lte hr
      refine nk_putI (y := (0, 0)) (ty := .int) (x := 52) (len := 3) (ci := 2) (k := 5) (pc' := 121) ja_okT mJ_267 (by decide +kernel) (by decide +kernel) (by decide +kernel) t_l0 (Or.inl rfl) rfl h10 ?_
      refine nk_p (i := .aload_n 0) (len := 1) (pc' := 122) mJ_267 (by decide +kernel) (ns_aload_n 1 rfl rfl) rfl ?_
      refine nk_p (i := .iload_n 3) (len := 1) (pc' := 123) mJ_267 (by decide +kernel) (ns_iload_n 3 rfl rfl) rfl ?_
      obtain ⟨r11, S12, h13, hr⟩ := nk_bde hr
      refine nk_callV (ci := 2) (n := 1) (x := 81) (len := 3) (j' := 262) (q' := 0) (r := r11) (S' := S12) (L2 := [(0, nk_r l0), (1, nk_i l3)]) (rest := []) (st' := []) (pc' := 126) mJ_267 (by decide +kernel) (by decide +kernel) rfl rfl t_l0 (Nat.le_of_ble_eq_true rfl) mJ_262 (Nat.le_of_ble_eq_true rfl) rfl (ja_X2_beginBody_ok zs _ _ _ _ t_l0 h13) rfl ?_
      refine nk_p (i := .aload_n 0) (len := 1) (pc' := 127) mJ_267 (by decide +kernel) (ns_aload_n 1 rfl rfl) rfl ?_
      refine nk_getC (f := (4, 2, 1280)) (x := 9) (len := 3) (ci := 2) (k := 2) (pc' := 130) ja_okT mJ_267 (by decide +kernel) (by decide +kernel) (by decide +kernel) (by decide) t_l0 rfl ?_
      have t14 : nk_ar ja_Tt (ja_c l0 2) = some (2, 1280) := nk_ta ja_okT t_l0 (by decide +kernel)
      refine nk_p (i := .iload 5) (len := 2) (pc' := 132) mJ_267 (by decide +kernel) (ns_iload 0 rfl) rfl ?_
      refine nk_p (i := .aload_n 0) (len := 1) (pc' := 133) mJ_267 (by decide +kernel) (ns_aload_n 1 rfl rfl) rfl ?_
      refine nk_getC (f := (4, 2, 1280)) (x := 9) (len := 3) (ci := 2) (k := 2) (pc' := 136) ja_okT mJ_267 (by decide +kernel) (by decide +kernel) (by decide +kernel) (by decide) t_l0 rfl ?_
      refine nk_p (i := .aload_n 0) (len := 1) (pc' := 137) mJ_267 (by decide +kernel) (ns_aload_n 1 rfl rfl) rfl ?_
      refine nk_getI (y := (0, 0)) (x := 52) (len := 3) (ci := 2) (k := 5) (pc' := 140) ja_okT mJ_267 (by decide +kernel) (by decide +kernel) (by decide +kernel) t_l0 rfl ?_
      refine nk_p (i := .bipush 20) (len := 2) (pc' := 142) mJ_267 (by decide +kernel) (ns_bipush (c := 20) (by decide +kernel)) rfl ?_
      refine nk_p (i := .imul) (len := 1) (pc' := 143) mJ_267 (by decide +kernel) ns_imul rfl ?_
      refine nk_p (i := .iload 4) (len := 2) (pc' := 145) mJ_267 (by decide +kernel) (ns_iload 4 rfl) rfl ?_
      obtain ⟨h15, hr⟩ := nk_cke hr
      obtain ⟨S16, h17, hr⟩ := nk_lte hr
      refine nk_copy (x := 269) (len := 3) (t := 2) (N0 := 1280) (N1 := 1280) (q1 := 9999) (q2 := 0) (q3 := 0) (pc' := 148) mJ_267 (by decide +kernel) (by decide +kernel) t14 t14 h15.1 h15.2.1 h15.2.2.1 h15.2.2.2.1 h15.2.2.2.2 rfl rfl (Nat.le_of_ble_eq_true rfl) rfl h17 ?_
      refine nk_p (i := .iconst 0) (len := 1) (pc' := 149) mJ_267 (by decide +kernel) (ns_iconst (c := 0) (by decide +kernel)) rfl ?_
      cases hr
      exact nk_iret (ty := .int) (len := 1) mJ_267 (by decide +kernel) rfl (nk_nar_i _)
    · have hr := nk_ifn (c := (nk_w ((S.1 l0 5) + 1)) < 64) hc hr
      refine nk_sub [0, 1] (L' := [(0, nk_r l0), (1, nk_i l1)]) rfl ?_
      exact ja_X2_enterBody_b88_ok zs _ _ _ _ t_l0 hr
noncomputable def ja_X2_enterBody (l0 : Nat) (l1 : Int) (l2 : Int) (S : nk_S) : Option (Int × nk_S) :=
  if 0 ≤ l1 ∧ l1 < 1024 then
  nk_lt (S.1 (ja_c (S.2 l0 1) 5) l1.toNat) fun v4 =>
  if 0 ≤ v4 ∧ v4 < 48 then
  nk_lt (S.1 (ja_c (ja_c (S.2 l0 1) 1) 5) v4.toNat) fun v10 =>
  if l2 = 40 then
    nk_bd (ja_X2_numberAt l0 (nk_w (v10 - 1)) S) fun r12 S13 =>
    if r12 = 0 then
      nk_bd (ja_X2_raise l0 l1 0 S13) fun r26 S27 =>
      some (r26, S27)
    else
      nk_bd (ja_X2_typeOf l0 r12 S13) fun r17 S18 =>
      nk_bd (ja_X1_classOf r17 S18) fun r20 S21 =>
      nk_bd (ja_X0_running (ja_c (S13.2 l0 1) 1) r20 v4 S21) fun r23 S24 =>
      ja_X2_enterBody_b73 l0 l1 r23 v10 S24
  else
    ja_X2_enterBody_b73 l0 l1 v4 v10 S
  else none
  else none
theorem ja_X2_enterBody_ok (zs : List Int32) : ∀ (l0 : Nat) (l1 : Int) (l2 : Int) (S : nk_S) (R : Int × nk_S), nk_cl ja_Tt l0 = some 2 → ja_X2_enterBody l0 l1 l2 S = some R → nk_K ja_Tt mi_Γ (mi_ev zs) 1 267 0 [(0, nk_r l0), (1, nk_i l1), (2, nk_i l2)] [] S R := by
  intro l0 l1 l2 S R t_l0 hr
  unfold ja_X2_enterBody at hr
  refine nk_p (i := .aload_n 0) (len := 1) (pc' := 1) mJ_267 (by decide +kernel) (ns_aload_n 0 rfl rfl) rfl ?_
  refine nk_getM (cj := 3) (z := 0) (x := 41) (len := 3) (ci := 2) (k := 1) (pc' := 4) ja_okT mJ_267 (by decide +kernel) (by decide +kernel) (by decide +kernel) t_l0 rfl (fun t1 => ?_)
  refine nk_getC (f := (4, 1, 1024)) (x := 131) (len := 3) (ci := 3) (k := 5) (pc' := 7) ja_okT mJ_267 (by decide +kernel) (by decide +kernel) (by decide +kernel) (by decide) t1 rfl ?_
  have t2 : nk_ar ja_Tt (ja_c (S.2 l0 1) 5) = some (1, 1024) := nk_ta ja_okT t1 (by decide +kernel)
  refine nk_p (i := .iload_n 1) (len := 1) (pc' := 8) mJ_267 (by decide +kernel) (ns_iload_n 1 rfl rfl) rfl ?_
  obtain ⟨h3, hr⟩ := nk_cke hr
  refine nk_iald (len := 1) (N := 1024) (pc' := 9) mJ_267 (by decide +kernel) t2 h3.1 h3.2 rfl rfl ?_
  obtain ⟨v4, h5, hr⟩ := nk_lte hr
  refine nk_p (i := .istore_n 3) (len := 1) (pc' := 10) mJ_267 (by decide +kernel) (ns_istore_n (L' := [(3, nk_i v4), (0, nk_r l0), (1, nk_i l1), (2, nk_i l2)]) h5 rfl rfl (by decide +kernel)) rfl ?_
  refine nk_p (i := .aload_n 0) (len := 1) (pc' := 11) mJ_267 (by decide +kernel) (ns_aload_n 1 rfl rfl) rfl ?_
  refine nk_getM (cj := 3) (z := 0) (x := 41) (len := 3) (ci := 2) (k := 1) (pc' := 14) ja_okT mJ_267 (by decide +kernel) (by decide +kernel) (by decide +kernel) t_l0 rfl (fun t6 => ?_)
  refine nk_getC (f := (2, 0, 0)) (x := 70) (len := 3) (ci := 3) (k := 1) (pc' := 17) ja_okT mJ_267 (by decide +kernel) (by decide +kernel) (by decide +kernel) (by decide) t6 rfl ?_
  have t7 : nk_cl ja_Tt (ja_c (S.2 l0 1) 1) = some 0 := nk_tc (y := 0) ja_okT t6 (by decide +kernel)
  refine nk_getC (f := (4, 1, 48)) (x := 260) (len := 3) (ci := 0) (k := 5) (pc' := 20) ja_okT mJ_267 (by decide +kernel) (by decide +kernel) (by decide +kernel) (by decide) t7 rfl ?_
  have t8 : nk_ar ja_Tt (ja_c (ja_c (S.2 l0 1) 1) 5) = some (1, 48) := nk_ta ja_okT t7 (by decide +kernel)
  refine nk_p (i := .iload_n 3) (len := 1) (pc' := 21) mJ_267 (by decide +kernel) (ns_iload_n 0 rfl rfl) rfl ?_
  obtain ⟨h9, hr⟩ := nk_cke hr
  refine nk_iald (len := 1) (N := 48) (pc' := 22) mJ_267 (by decide +kernel) t8 h9.1 h9.2 rfl rfl ?_
  obtain ⟨v10, h11, hr⟩ := nk_lte hr
  refine nk_p (i := .istore 4) (len := 2) (pc' := 24) mJ_267 (by decide +kernel) (ns_istore (L' := [(4, nk_i v10), (3, nk_i v4), (0, nk_r l0), (1, nk_i l1), (2, nk_i l2)]) h11 rfl (by decide +kernel)) rfl ?_
  refine nk_p (i := .iload_n 2) (len := 1) (pc' := 25) mJ_267 (by decide +kernel) (ns_iload_n 4 rfl rfl) rfl ?_
  refine nk_p (i := .bipush 40) (len := 2) (pc' := 27) mJ_267 (by decide +kernel) (ns_bipush (c := 40) (by decide +kernel)) rfl ?_
  refine nk_icmp (c := .ne) (off := 46) (len := 3) (t := 73) (pc' := 30) mJ_267 (by decide +kernel) (by decide +kernel) rfl (fun hc => ?_) (fun hc => ?_)
  · have hr := nk_ifn (c := l2 = 40) hc hr
    refine nk_sub [2, 3, 1, 0] (L' := [(0, nk_r l0), (1, nk_i l1), (3, nk_i v4), (4, nk_i v10)]) rfl ?_
    exact ja_X2_enterBody_b73_ok zs _ _ _ _ _ _ t_l0 hr
  · have hr := nk_ifp (c := l2 = 40) (Decidable.of_not_not hc) hr
    refine nk_p (i := .aload_n 0) (len := 1) (pc' := 31) mJ_267 (by decide +kernel) (ns_aload_n 2 rfl rfl) rfl ?_
    refine nk_p (i := .iload 4) (len := 2) (pc' := 33) mJ_267 (by decide +kernel) (ns_iload 0 rfl) rfl ?_
    refine nk_p (i := .iconst 1) (len := 1) (pc' := 34) mJ_267 (by decide +kernel) (ns_iconst (c := 1) (by decide +kernel)) rfl ?_
    refine nk_p (i := .isub) (len := 1) (pc' := 35) mJ_267 (by decide +kernel) ns_isub rfl ?_
    obtain ⟨r12, S13, h14, hr⟩ := nk_bde hr
    refine nk_callV (ci := 2) (n := 1) (x := 138) (len := 3) (j' := 286) (q' := 1) (r := r12) (S' := S13) (L2 := [(0, nk_r l0), (1, nk_i (nk_w (v10 - 1)))]) (rest := []) (st' := [nk_i r12]) (pc' := 38) mJ_267 (by decide +kernel) (by decide +kernel) rfl rfl t_l0 (Nat.le_of_ble_eq_true rfl) mJ_286 (Nat.le_of_ble_eq_true rfl) rfl (ja_X2_numberAt_ok zs _ _ _ _ t_l0 h14) rfl ?_
    refine nk_p (i := .istore 5) (len := 2) (pc' := 40) mJ_267 (by decide +kernel) (ns_istore (L' := [(5, nk_i r12), (4, nk_i v10), (3, nk_i v4), (0, nk_r l0), (1, nk_i l1), (2, nk_i l2)]) rfl rfl (by decide +kernel)) rfl ?_
    refine nk_p (i := .iload 5) (len := 2) (pc' := 42) mJ_267 (by decide +kernel) (ns_iload 0 rfl) rfl ?_
    refine nk_icond (c := .ne) (off := 10) (len := 3) (t := 52) (pc' := 45) mJ_267 (by decide +kernel) (by decide +kernel) rfl (fun hc => ?_) (fun hc => ?_)
    · have hr := nk_ifn (c := r12 = 0) hc hr
      refine nk_p (i := .aload_n 0) (len := 1) (pc' := 53) mJ_267 (by decide +kernel) (ns_aload_n 3 rfl rfl) rfl ?_
      refine nk_getM (cj := 3) (z := 0) (x := 41) (len := 3) (ci := 2) (k := 1) (pc' := 56) ja_okT mJ_267 (by decide +kernel) (by decide +kernel) (by decide +kernel) t_l0 rfl (fun t15 => ?_)
      refine nk_getC (f := (2, 0, 0)) (x := 70) (len := 3) (ci := 3) (k := 1) (pc' := 59) ja_okT mJ_267 (by decide +kernel) (by decide +kernel) (by decide +kernel) (by decide) t15 rfl ?_
      have t16 : nk_cl ja_Tt (ja_c (S13.2 l0 1) 1) = some 0 := nk_tc (y := 0) ja_okT t15 (by decide +kernel)
      refine nk_p (i := .aload_n 0) (len := 1) (pc' := 60) mJ_267 (by decide +kernel) (ns_aload_n 3 rfl rfl) rfl ?_
      refine nk_p (i := .iload 5) (len := 2) (pc' := 62) mJ_267 (by decide +kernel) (ns_iload 0 rfl) rfl ?_
      obtain ⟨r17, S18, h19, hr⟩ := nk_bde hr
      refine nk_callV (ci := 2) (n := 1) (x := 248) (len := 3) (j' := 292) (q' := 1) (r := r17) (S' := S18) (L2 := [(0, nk_r l0), (1, nk_i r12)]) (rest := [nk_r (ja_c (S13.2 l0 1) 1)]) (st' := [nk_i r17, nk_r (ja_c (S13.2 l0 1) 1)]) (pc' := 65) mJ_267 (by decide +kernel) (by decide +kernel) rfl rfl t_l0 (Nat.le_of_ble_eq_true rfl) mJ_292 (Nat.le_of_ble_eq_true rfl) rfl (ja_X2_typeOf_ok zs _ _ _ _ t_l0 h19) rfl ?_
      obtain ⟨r20, S21, h22, hr⟩ := nk_bde hr
      refine nk_callS (ci := 0) (n := 1) (x := 263) (len := 3) (j' := 249) (q' := 1) (r := r20) (S' := S21) (L2 := [(0, nk_i r17)]) (rest := [nk_r (ja_c (S13.2 l0 1) 1)]) (st' := [nk_i r20, nk_r (ja_c (S13.2 l0 1) 1)]) (pc' := 68) mJ_267 (by decide +kernel) (by decide +kernel) (Nat.le_of_ble_eq_true rfl) rfl rfl (Nat.le_of_ble_eq_true rfl) mJ_249 (Nat.le_of_ble_eq_true rfl) ja_Tpos rfl (ja_X1_classOf_ok zs _ _ _ h22) rfl ?_
      refine nk_p (i := .iload_n 3) (len := 1) (pc' := 69) mJ_267 (by decide +kernel) (ns_iload_n 2 rfl rfl) rfl ?_
      obtain ⟨r23, S24, h25, hr⟩ := nk_bde hr
      refine nk_callV (ci := 0) (n := 2) (x := 266) (len := 3) (j' := 30) (q' := 1) (r := r23) (S' := S24) (L2 := [(0, nk_r (ja_c (S13.2 l0 1) 1)), (1, nk_i r20), (2, nk_i v4)]) (rest := []) (st' := [nk_i r23]) (pc' := 72) mJ_267 (by decide +kernel) (by decide +kernel) rfl rfl t16 (Nat.le_of_ble_eq_true rfl) mJ_30 (Nat.le_of_ble_eq_true rfl) rfl (ja_X0_running_ok zs _ _ _ _ _ t16 h25) rfl ?_
      refine nk_p (i := .istore_n 3) (len := 1) (pc' := 73) mJ_267 (by decide +kernel) (ns_istore_n (L' := [(3, nk_i r23), (5, nk_i r12), (4, nk_i v10), (0, nk_r l0), (1, nk_i l1), (2, nk_i l2)]) rfl rfl rfl (by decide +kernel)) rfl ?_
      refine nk_sub [3, 4, 0, 2] (L' := [(0, nk_r l0), (1, nk_i l1), (3, nk_i r23), (4, nk_i v10)]) rfl ?_
      exact ja_X2_enterBody_b73_ok zs _ _ _ _ _ _ t_l0 hr
    · have hr := nk_ifp (c := r12 = 0) (Decidable.of_not_not hc) hr
      refine nk_p (i := .aload_n 0) (len := 1) (pc' := 46) mJ_267 (by decide +kernel) (ns_aload_n 3 rfl rfl) rfl ?_
      refine nk_p (i := .iload_n 1) (len := 1) (pc' := 47) mJ_267 (by decide +kernel) (ns_iload_n 4 rfl rfl) rfl ?_
      refine nk_p (i := .iconst 0) (len := 1) (pc' := 48) mJ_267 (by decide +kernel) (ns_iconst (c := 0) (by decide +kernel)) rfl ?_
      obtain ⟨r26, S27, h28, hr⟩ := nk_bde hr
      refine nk_callV (ci := 2) (n := 2) (x := 141) (len := 3) (j' := 289) (q' := 1) (r := r26) (S' := S27) (L2 := [(0, nk_r l0), (1, nk_i l1), (2, nk_i 0)]) (rest := []) (st' := [nk_i r26]) (pc' := 51) mJ_267 (by decide +kernel) (by decide +kernel) rfl rfl t_l0 (Nat.le_of_ble_eq_true rfl) mJ_289 (Nat.le_of_ble_eq_true rfl) rfl (ja_X2_raise_ok zs _ _ _ _ _ t_l0 h28) rfl ?_
      cases hr
      exact nk_iret (ty := .int) (len := 1) mJ_267 (by decide +kernel) rfl (nk_nar_i _)
/-! SafeCode$Machine leaveBody (II)I -/
noncomputable def ja_X2_leaveBody_b47 (l0 : Nat) (S : nk_S) : Option (Int × nk_S) :=
  nk_bd (ja_X2_next l0 S) fun r1 S2 =>
  some (r1, S2)
theorem ja_X2_leaveBody_b47_ok (zs : List Int32) : ∀ (l0 : Nat) (S : nk_S) (R : Int × nk_S), nk_cl ja_Tt l0 = some 2 → ja_X2_leaveBody_b47 l0 S = some R → nk_K ja_Tt mi_Γ (mi_ev zs) 1 279 47 [(0, nk_r l0)] [] S R := by
  intro l0 S R t_l0 hr
  unfold ja_X2_leaveBody_b47 at hr
  refine nk_p (i := .aload_n 0) (len := 1) (pc' := 48) mJ_279 (by decide +kernel) (ns_aload_n 0 rfl rfl) rfl ?_
  obtain ⟨r1, S2, h3, hr⟩ := nk_bde hr
  refine nk_callV (ci := 2) (n := 0) (x := 193) (len := 3) (j' := 284) (q' := 1) (r := r1) (S' := S2) (L2 := [(0, nk_r l0)]) (rest := []) (st' := [nk_i r1]) (pc' := 51) mJ_279 (by decide +kernel) (by decide +kernel) rfl rfl t_l0 (Nat.le_of_ble_eq_true rfl) mJ_284 (Nat.le_of_ble_eq_true rfl) rfl (ja_X2_next_ok zs _ _ _ t_l0 h3) rfl ?_
  cases hr
  exact nk_iret (ty := .int) (len := 1) mJ_279 (by decide +kernel) rfl (nk_nar_i _)
noncomputable def ja_X2_leaveBody (l0 : Nat) (l1 : Int) (l2 : Int) (S : nk_S) : Option (Int × nk_S) :=
  if (S.1 l0 5) = 0 then
    nk_bd (ja_X2_finish l0 0 l1 S) fun r13 S14 =>
    some (0, S14)
  else
    nk_bd (ja_X2_fromTop l0 0 S) fun r2 S3 =>
    if 0 ≤ r2 ∧ r2 < 1280 then
    nk_lt (S3.1 (ja_c l0 2) r2.toNat) fun v6 =>
    nk_lt (nk_wi S3 l0 5 (nk_w ((S3.1 l0 5) - 1))) fun S8 =>
    if l2 = 42 then
      nk_bd (ja_X2_push l0 v6 S8) fun r10 S11 =>
      ja_X2_leaveBody_b47 l0 S11
    else
      ja_X2_leaveBody_b47 l0 S8
    else none
theorem ja_X2_leaveBody_ok (zs : List Int32) : ∀ (l0 : Nat) (l1 : Int) (l2 : Int) (S : nk_S) (R : Int × nk_S), nk_cl ja_Tt l0 = some 2 → ja_X2_leaveBody l0 l1 l2 S = some R → nk_K ja_Tt mi_Γ (mi_ev zs) 1 279 0 [(0, nk_r l0), (1, nk_i l1), (2, nk_i l2)] [] S R := by
  intro l0 l1 l2 S R t_l0 hr
  unfold ja_X2_leaveBody at hr
  refine nk_p (i := .aload_n 0) (len := 1) (pc' := 1) mJ_279 (by decide +kernel) (ns_aload_n 0 rfl rfl) rfl ?_
  refine nk_getI (y := (0, 0)) (x := 52) (len := 3) (ci := 2) (k := 5) (pc' := 4) ja_okT mJ_279 (by decide +kernel) (by decide +kernel) (by decide +kernel) t_l0 rfl ?_
  refine nk_icond (c := .ne) (off := 11) (len := 3) (t := 15) (pc' := 7) mJ_279 (by decide +kernel) (by decide +kernel) rfl (fun hc => ?_) (fun hc => ?_)
  · have hr := nk_ifn (c := (S.1 l0 5) = 0) hc hr
    refine nk_p (i := .aload_n 0) (len := 1) (pc' := 16) mJ_279 (by decide +kernel) (ns_aload_n 0 rfl rfl) rfl ?_
    refine nk_getC (f := (4, 2, 1280)) (x := 9) (len := 3) (ci := 2) (k := 2) (pc' := 19) ja_okT mJ_279 (by decide +kernel) (by decide +kernel) (by decide +kernel) (by decide) t_l0 rfl ?_
    have t1 : nk_ar ja_Tt (ja_c l0 2) = some (2, 1280) := nk_ta ja_okT t_l0 (by decide +kernel)
    refine nk_p (i := .aload_n 0) (len := 1) (pc' := 20) mJ_279 (by decide +kernel) (ns_aload_n 0 rfl rfl) rfl ?_
    refine nk_p (i := .iconst 0) (len := 1) (pc' := 21) mJ_279 (by decide +kernel) (ns_iconst (c := 0) (by decide +kernel)) rfl ?_
    obtain ⟨r2, S3, h4, hr⟩ := nk_bde hr
    refine nk_callV (ci := 2) (n := 1) (x := 177) (len := 3) (j' := 271) (q' := 1) (r := r2) (S' := S3) (L2 := [(0, nk_r l0), (1, nk_i 0)]) (rest := [nk_r (ja_c l0 2)]) (st' := [nk_i r2, nk_r (ja_c l0 2)]) (pc' := 24) mJ_279 (by decide +kernel) (by decide +kernel) rfl rfl t_l0 (Nat.le_of_ble_eq_true rfl) mJ_271 (Nat.le_of_ble_eq_true rfl) rfl (ja_X2_fromTop_ok zs _ _ _ _ t_l0 h4) rfl ?_
    obtain ⟨h5, hr⟩ := nk_cke hr
    refine nk_lald (len := 1) (N := 1280) (pc' := 25) mJ_279 (by decide +kernel) t1 h5.1 h5.2 rfl rfl ?_
    obtain ⟨v6, h7, hr⟩ := nk_lte hr
    refine nk_p (i := .lstore_n 3) (len := 1) (pc' := 26) mJ_279 (by decide +kernel) (ns_lstore_n (L' := [(3, nk_l v6), (0, nk_r l0), (1, nk_i l1), (2, nk_i l2)]) h7 rfl rfl (by decide +kernel)) rfl ?_
    refine nk_p (i := .aload_n 0) (len := 1) (pc' := 27) mJ_279 (by decide +kernel) (ns_aload_n 1 rfl rfl) rfl ?_
    refine nk_p (i := .dup) (len := 1) (pc' := 28) mJ_279 (by decide +kernel) (ns_dup rfl) rfl ?_
    refine nk_getI (y := (0, 0)) (x := 52) (len := 3) (ci := 2) (k := 5) (pc' := 31) ja_okT mJ_279 (by decide +kernel) (by decide +kernel) (by decide +kernel) t_l0 rfl ?_
    refine nk_p (i := .iconst 1) (len := 1) (pc' := 32) mJ_279 (by decide +kernel) (ns_iconst (c := 1) (by decide +kernel)) rfl ?_
    refine nk_p (i := .isub) (len := 1) (pc' := 33) mJ_279 (by decide +kernel) ns_isub rfl ?_
    obtain ⟨S8, h9, hr⟩ := nk_lte hr
    refine nk_putI (y := (0, 0)) (ty := .int) (x := 52) (len := 3) (ci := 2) (k := 5) (pc' := 36) ja_okT mJ_279 (by decide +kernel) (by decide +kernel) (by decide +kernel) t_l0 (Or.inl rfl) rfl h9 ?_
    refine nk_p (i := .iload_n 2) (len := 1) (pc' := 37) mJ_279 (by decide +kernel) (ns_iload_n 3 rfl rfl) rfl ?_
    refine nk_p (i := .bipush 42) (len := 2) (pc' := 39) mJ_279 (by decide +kernel) (ns_bipush (c := 42) (by decide +kernel)) rfl ?_
    refine nk_icmp (c := .ne) (off := 8) (len := 3) (t := 47) (pc' := 42) mJ_279 (by decide +kernel) (by decide +kernel) rfl (fun hc => ?_) (fun hc => ?_)
    · have hr := nk_ifn (c := l2 = 42) hc hr
      refine nk_sub [1] (L' := [(0, nk_r l0)]) rfl ?_
      exact ja_X2_leaveBody_b47_ok zs _ _ _ t_l0 hr
    · have hr := nk_ifp (c := l2 = 42) (Decidable.of_not_not hc) hr
      refine nk_p (i := .aload_n 0) (len := 1) (pc' := 43) mJ_279 (by decide +kernel) (ns_aload_n 1 rfl rfl) rfl ?_
      refine nk_p (i := .lload_n 3) (len := 1) (pc' := 44) mJ_279 (by decide +kernel) (ns_lload_n 0 rfl rfl) rfl ?_
      obtain ⟨r10, S11, h12, hr⟩ := nk_bde hr
      refine nk_callV (ci := 2) (n := 1) (x := 189) (len := 3) (j' := 288) (q' := 0) (r := r10) (S' := S11) (L2 := [(0, nk_r l0), (1, nk_l v6)]) (rest := []) (st' := []) (pc' := 47) mJ_279 (by decide +kernel) (by decide +kernel) rfl rfl t_l0 (Nat.le_of_ble_eq_true rfl) mJ_288 (Nat.le_of_ble_eq_true rfl) rfl (ja_X2_push_ok zs _ _ _ _ t_l0 h12) rfl ?_
      refine nk_sub [1] (L' := [(0, nk_r l0)]) rfl ?_
      exact ja_X2_leaveBody_b47_ok zs _ _ _ t_l0 hr
  · have hr := nk_ifp (c := (S.1 l0 5) = 0) (Decidable.of_not_not hc) hr
    refine nk_p (i := .aload_n 0) (len := 1) (pc' := 8) mJ_279 (by decide +kernel) (ns_aload_n 0 rfl rfl) rfl ?_
    refine nk_p (i := .iconst 0) (len := 1) (pc' := 9) mJ_279 (by decide +kernel) (ns_iconst (c := 0) (by decide +kernel)) rfl ?_
    refine nk_p (i := .iload_n 1) (len := 1) (pc' := 10) mJ_279 (by decide +kernel) (ns_iload_n 1 rfl rfl) rfl ?_
    obtain ⟨r13, S14, h15, hr⟩ := nk_bde hr
    refine nk_callV (ci := 2) (n := 2) (x := 85) (len := 3) (j' := 270) (q' := 0) (r := r13) (S' := S14) (L2 := [(0, nk_r l0), (1, nk_i 0), (2, nk_i l1)]) (rest := []) (st' := []) (pc' := 13) mJ_279 (by decide +kernel) (by decide +kernel) rfl rfl t_l0 (Nat.le_of_ble_eq_true rfl) mJ_270 (Nat.le_of_ble_eq_true rfl) rfl (ja_X2_finish_ok zs _ _ _ _ _ t_l0 h15) rfl ?_
    refine nk_p (i := .iconst 0) (len := 1) (pc' := 14) mJ_279 (by decide +kernel) (ns_iconst (c := 0) (by decide +kernel)) rfl ?_
    cases hr
    exact nk_iret (ty := .int) (len := 1) mJ_279 (by decide +kernel) rfl (nk_nar_i _)
