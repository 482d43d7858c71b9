/-! SafeCodeModel run (I)I -/
noncomputable def ja_X13_run_b135 (rec71 : Nat → Int → nk_S → Option (Int × nk_S)) (l0 : Nat) (l1 : Int) (l2 : Int) (s0 : Nat) (s1 : Int) (S : nk_S) : Option (Int × nk_S) :=
  if s1 = 0 ∨ s1 = 1 then
  nk_lt (nk_wi S s0 63 s1) fun S1 =>
  nk_bd (ja_X13_step l0 l2 S1) fun r4 S5 =>
  if (S5.1 l0 63) = 0 then
    rec71 l0 l1 S5
  else
    nk_lt (nk_wi S5 l0 62 (nk_w ((S5.1 l0 62) + 1))) fun S7 =>
    rec71 l0 l1 S7
  else none
theorem ja_X13_run_b135_ok (zs : List Int32) {rec71 : Nat → Int → nk_S → Option (Int × nk_S)} (hrec71 : ∀ (l0 : Nat) (l1 : Int) (S : nk_S) (R : Int × nk_S), nk_cl ja_Tt l0 = some 13 → rec71 l0 l1 S = some R → nk_K ja_Tt mi_Γ (mi_ev zs) 1 221 71 [(0, nk_r l0), (1, nk_i l1)] [] S R) : ∀ (l0 : Nat) (l1 : Int) (l2 : Int) (s0 : Nat) (s1 : Int) (S : nk_S) (R : Int × nk_S), nk_cl ja_Tt l0 = some 13 → nk_cl ja_Tt s0 = some 13 → ja_X13_run_b135 rec71 l0 l1 l2 s0 s1 S = some R → nk_K ja_Tt mi_Γ (mi_ev zs) 1 221 135 [(0, nk_r l0), (1, nk_i l1), (2, nk_i l2)] [nk_i s1, nk_r s0] S R := by
  intro l0 l1 l2 s0 s1 S R t_l0 t_s0 hr
  unfold ja_X13_run_b135 at hr
  obtain ⟨h3, hr⟩ := nk_cke hr
  obtain ⟨S1, h2, hr⟩ := nk_lte hr
  refine nk_putI (y := (0, 0)) (ty := .boolean) (x := 835) (len := 3) (ci := 13) (k := 63) (pc' := 138) ja_okT mJ_221 (by decide +kernel) (by decide +kernel) (by decide +kernel) t_s0 (Or.inr ⟨rfl, h3⟩) rfl h2 ?_
  refine nk_p (i := .aload_n 0) (len := 1) (pc' := 139) mJ_221 (by decide +kernel) (ns_aload_n 0 rfl rfl) rfl ?_
  refine nk_p (i := .iload_n 2) (len := 1) (pc' := 140) mJ_221 (by decide +kernel) (ns_iload_n 2 rfl rfl) rfl ?_
  obtain ⟨r4, S5, h6, hr⟩ := nk_bde hr
  refine nk_callV (ci := 13) (n := 1) (x := 838) (len := 3) (j' := 228) (q' := 0) (r := r4) (S' := S5) (L2 := [(0, nk_r l0), (1, nk_i l2)]) (rest := []) (st' := []) (pc' := 143) mJ_221 (by decide +kernel) (by decide +kernel) rfl rfl t_l0 (Nat.le_of_ble_eq_true rfl) mJ_228 (Nat.le_of_ble_eq_true rfl) rfl (ja_X13_step_ok zs _ _ _ _ t_l0 h6) rfl ?_
  refine nk_p (i := .aload_n 0) (len := 1) (pc' := 144) mJ_221 (by decide +kernel) (ns_aload_n 0 rfl rfl) rfl ?_
  refine nk_getI (y := (0, 0)) (x := 835) (len := 3) (ci := 13) (k := 63) (pc' := 147) ja_okT mJ_221 (by decide +kernel) (by decide +kernel) (by decide +kernel) t_l0 rfl ?_
  refine nk_icond (c := .eq) (off := 13) (len := 3) (t := 160) (pc' := 150) mJ_221 (by decide +kernel) (by decide +kernel) rfl (fun hc => ?_) (fun hc => ?_)
  · have hr := nk_ifp (c := (S5.1 l0 63) = 0) hc hr
    refine nk_p (i := .goto (-89)) (len := 3) (pc' := 71) mJ_221 (by decide +kernel) (ns_goto (by decide +kernel)) rfl ?_
    refine nk_sub [0, 1] (L' := [(0, nk_r l0), (1, nk_i l1)]) rfl ?_
    exact hrec71 _ _ _ _ t_l0 hr
  · have hr := nk_ifn (c := (S5.1 l0 63) = 0) hc hr
    refine nk_p (i := .aload_n 0) (len := 1) (pc' := 151) mJ_221 (by decide +kernel) (ns_aload_n 0 rfl rfl) rfl ?_
    refine nk_p (i := .dup) (len := 1) (pc' := 152) mJ_221 (by decide +kernel) (ns_dup rfl) rfl ?_
    refine nk_getI (y := (0, 0)) (x := 841) (len := 3) (ci := 13) (k := 62) (pc' := 155) ja_okT mJ_221 (by decide +kernel) (by decide +kernel) (by decide +kernel) t_l0 rfl ?_
    refine nk_p (i := .iconst 1) (len := 1) (pc' := 156) mJ_221 (by decide +kernel) (ns_iconst (c := 1) (by decide +kernel)) rfl ?_
    refine nk_p (i := .iadd) (len := 1) (pc' := 157) mJ_221 (by decide +kernel) ns_iadd rfl ?_
    obtain ⟨S7, h8, hr⟩ := nk_lte hr
    refine nk_putI (y := (0, 0)) (ty := .int) (x := 841) (len := 3) (ci := 13) (k := 62) (pc' := 160) ja_okT mJ_221 (by decide +kernel) (by decide +kernel) (by decide +kernel) t_l0 (Or.inl rfl) rfl h8 ?_
    refine nk_p (i := .goto (-89)) (len := 3) (pc' := 71) mJ_221 (by decide +kernel) (ns_goto (by decide +kernel)) rfl ?_
    refine nk_sub [0, 1] (L' := [(0, nk_r l0), (1, nk_i l1)]) rfl ?_
    exact hrec71 _ _ _ _ t_l0 hr
noncomputable def ja_X13_run_b71 (rec71 : Nat → Int → nk_S → Option (Int × nk_S)) (l0 : Nat) (l1 : Int) (S : nk_S) : Option (Int × nk_S) :=
  if 0 ≤ (S.1 l0 61) then
    nk_lt (nk_wi S l0 55 0) fun S1 =>
    some ((S1.1 l0 61), S1)
  else
    if 0 ≤ (nk_w ((S.1 l0 52) - 1)) ∧ (nk_w ((S.1 l0 52) - 1)) < 64 then
    nk_lt (S.1 (ja_c l0 44) (nk_w ((S.1 l0 52) - 1)).toNat) fun v5 =>
    if (S.1 l0 58) = l1 then
      nk_lt (nk_wi S l0 61 2) fun S12 =>
      nk_lt (nk_wi S12 l0 59 v5) fun S14 =>
      rec71 l0 l1 S14
    else
      nk_lt (nk_wi S l0 58 (nk_w ((S.1 l0 58) + 1))) fun S7 =>
      nk_bd (ja_X13_holds l0 v5 S7) fun r9 S10 =>
      if r9 = 0 then
        ja_X13_run_b135 rec71 l0 l1 v5 l0 1 S10
      else
        ja_X13_run_b135 rec71 l0 l1 v5 l0 0 S10
    else none
theorem ja_X13_run_b71_ok (zs : List Int32) {rec71 : Nat → Int → nk_S → Option (Int × nk_S)} (hrec71 : ∀ (l0 : Nat) (l1 : Int) (S : nk_S) (R : Int × nk_S), nk_cl ja_Tt l0 = some 13 → rec71 l0 l1 S = some R → nk_K ja_Tt mi_Γ (mi_ev zs) 1 221 71 [(0, nk_r l0), (1, nk_i l1)] [] S R) : ∀ (l0 : Nat) (l1 : Int) (S : nk_S) (R : Int × nk_S), nk_cl ja_Tt l0 = some 13 → ja_X13_run_b71 rec71 l0 l1 S = some R → nk_K ja_Tt mi_Γ (mi_ev zs) 1 221 71 [(0, nk_r l0), (1, nk_i l1)] [] S R := by
  intro l0 l1 S R t_l0 hr
  unfold ja_X13_run_b71 at hr
  refine nk_p (i := .aload_n 0) (len := 1) (pc' := 72) mJ_221 (by decide +kernel) (ns_aload_n 0 rfl rfl) rfl ?_
  refine nk_getI (y := (0, 0)) (x := 826) (len := 3) (ci := 13) (k := 61) (pc' := 75) ja_okT mJ_221 (by decide +kernel) (by decide +kernel) (by decide +kernel) t_l0 rfl ?_
  refine nk_icond (c := .ge) (off := 88) (len := 3) (t := 163) (pc' := 78) mJ_221 (by decide +kernel) (by decide +kernel) rfl (fun hc => ?_) (fun hc => ?_)
  · have hr := nk_ifp (c := 0 ≤ (S.1 l0 61)) hc hr
    refine nk_p (i := .aload_n 0) (len := 1) (pc' := 164) mJ_221 (by decide +kernel) (ns_aload_n 0 rfl rfl) rfl ?_
    refine nk_p (i := .iconst 0) (len := 1) (pc' := 165) mJ_221 (by decide +kernel) (ns_iconst (c := 0) (by decide +kernel)) rfl ?_
    obtain ⟨S1, h2, hr⟩ := nk_lte hr
    refine nk_putI (y := (0, 0)) (ty := .int) (x := 805) (len := 3) (ci := 13) (k := 55) (pc' := 168) ja_okT mJ_221 (by decide +kernel) (by decide +kernel) (by decide +kernel) t_l0 (Or.inl rfl) rfl h2 ?_
    refine nk_p (i := .aload_n 0) (len := 1) (pc' := 169) mJ_221 (by decide +kernel) (ns_aload_n 0 rfl rfl) rfl ?_
    refine nk_getI (y := (0, 0)) (x := 826) (len := 3) (ci := 13) (k := 61) (pc' := 172) ja_okT mJ_221 (by decide +kernel) (by decide +kernel) (by decide +kernel) t_l0 rfl ?_
    cases hr
    exact nk_iret (ty := .int) (len := 1) mJ_221 (by decide +kernel) rfl (nk_nar_i _)
  · have hr := nk_ifn (c := 0 ≤ (S.1 l0 61)) hc hr
    refine nk_p (i := .aload_n 0) (len := 1) (pc' := 79) mJ_221 (by decide +kernel) (ns_aload_n 0 rfl rfl) rfl ?_
    refine nk_getC (f := (4, 1, 64)) (x := 111) (len := 3) (ci := 13) (k := 44) (pc' := 82) ja_okT mJ_221 (by decide +kernel) (by decide +kernel) (by decide +kernel) (by decide) t_l0 rfl ?_
    have t3 : nk_ar ja_Tt (ja_c l0 44) = some (1, 64) := nk_ta ja_okT t_l0 (by decide +kernel)
    refine nk_p (i := .aload_n 0) (len := 1) (pc' := 83) mJ_221 (by decide +kernel) (ns_aload_n 0 rfl rfl) rfl ?_
    refine nk_getI (y := (0, 0)) (x := 823) (len := 3) (ci := 13) (k := 52) (pc' := 86) ja_okT mJ_221 (by decide +kernel) (by decide +kernel) (by decide +kernel) t_l0 rfl ?_
    refine nk_p (i := .iconst 1) (len := 1) (pc' := 87) mJ_221 (by decide +kernel) (ns_iconst (c := 1) (by decide +kernel)) rfl ?_
    refine nk_p (i := .isub) (len := 1) (pc' := 88) mJ_221 (by decide +kernel) ns_isub rfl ?_
    obtain ⟨h4, hr⟩ := nk_cke hr
    refine nk_iald (len := 1) (N := 64) (pc' := 89) mJ_221 (by decide +kernel) t3 h4.1 h4.2 rfl rfl ?_
    obtain ⟨v5, h6, hr⟩ := nk_lte hr
    refine nk_p (i := .istore_n 2) (len := 1) (pc' := 90) mJ_221 (by decide +kernel) (ns_istore_n (L' := [(2, nk_i v5), (0, nk_r l0), (1, nk_i l1)]) h6 rfl rfl (by decide +kernel)) rfl ?_
    refine nk_p (i := .aload_n 0) (len := 1) (pc' := 91) mJ_221 (by decide +kernel) (ns_aload_n 1 rfl rfl) rfl ?_
    refine nk_getI (y := (0, 0)) (x := 820) (len := 3) (ci := 13) (k := 58) (pc' := 94) ja_okT mJ_221 (by decide +kernel) (by decide +kernel) (by decide +kernel) t_l0 rfl ?_
    refine nk_p (i := .iload_n 1) (len := 1) (pc' := 95) mJ_221 (by decide +kernel) (ns_iload_n 2 rfl rfl) rfl ?_
    refine nk_icmp (c := .ne) (off := 16) (len := 3) (t := 111) (pc' := 98) mJ_221 (by decide +kernel) (by decide +kernel) rfl (fun hc => ?_) (fun hc => ?_)
    · have hr := nk_ifn (c := (S.1 l0 58) = l1) hc hr
      refine nk_p (i := .aload_n 0) (len := 1) (pc' := 112) mJ_221 (by decide +kernel) (ns_aload_n 1 rfl rfl) rfl ?_
      refine nk_p (i := .dup) (len := 1) (pc' := 113) mJ_221 (by decide +kernel) (ns_dup rfl) rfl ?_
      refine nk_getI (y := (0, 0)) (x := 820) (len := 3) (ci := 13) (k := 58) (pc' := 116) ja_okT mJ_221 (by decide +kernel) (by decide +kernel) (by decide +kernel) t_l0 rfl ?_
      refine nk_p (i := .iconst 1) (len := 1) (pc' := 117) mJ_221 (by decide +kernel) (ns_iconst (c := 1) (by decide +kernel)) rfl ?_
      refine nk_p (i := .iadd) (len := 1) (pc' := 118) mJ_221 (by decide +kernel) ns_iadd rfl ?_
      obtain ⟨S7, h8, hr⟩ := nk_lte hr
      refine nk_putI (y := (0, 0)) (ty := .int) (x := 820) (len := 3) (ci := 13) (k := 58) (pc' := 121) ja_okT mJ_221 (by decide +kernel) (by decide +kernel) (by decide +kernel) t_l0 (Or.inl rfl) rfl h8 ?_
      refine nk_p (i := .aload_n 0) (len := 1) (pc' := 122) mJ_221 (by decide +kernel) (ns_aload_n 1 rfl rfl) rfl ?_
      refine nk_p (i := .aload_n 0) (len := 1) (pc' := 123) mJ_221 (by decide +kernel) (ns_aload_n 1 rfl rfl) rfl ?_
      refine nk_p (i := .iload_n 2) (len := 1) (pc' := 124) mJ_221 (by decide +kernel) (ns_iload_n 0 rfl rfl) rfl ?_
      obtain ⟨r9, S10, h11, hr⟩ := nk_bde hr
      refine nk_callV (ci := 13) (n := 1) (x := 832) (len := 3) (j' := 133) (q' := 1) (r := r9) (S' := S10) (L2 := [(0, nk_r l0), (1, nk_i v5)]) (rest := [nk_r l0]) (st' := [nk_i r9, nk_r l0]) (pc' := 127) mJ_221 (by decide +kernel) (by decide +kernel) rfl rfl t_l0 (Nat.le_of_ble_eq_true rfl) mJ_133 (Nat.le_of_ble_eq_true rfl) rfl (ja_X13_holds_ok zs _ _ _ _ t_l0 h11) rfl ?_
      refine nk_icond (c := .ne) (off := 7) (len := 3) (t := 134) (pc' := 130) mJ_221 (by decide +kernel) (by decide +kernel) rfl (fun hc => ?_) (fun hc => ?_)
      · have hr := nk_ifn (c := r9 = 0) hc hr
        refine nk_p (i := .iconst 0) (len := 1) (pc' := 135) mJ_221 (by decide +kernel) (ns_iconst (c := 0) (by decide +kernel)) rfl ?_
        refine nk_sub [1, 2, 0] (L' := [(0, nk_r l0), (1, nk_i l1), (2, nk_i v5)]) rfl ?_
        exact ja_X13_run_b135_ok zs hrec71 _ _ _ _ _ _ _ t_l0 t_l0 hr
      · have hr := nk_ifp (c := r9 = 0) (Decidable.of_not_not hc) hr
        refine nk_p (i := .iconst 1) (len := 1) (pc' := 131) mJ_221 (by decide +kernel) (ns_iconst (c := 1) (by decide +kernel)) rfl ?_
        refine nk_p (i := .goto 4) (len := 3) (pc' := 135) mJ_221 (by decide +kernel) (ns_goto (by decide +kernel)) rfl ?_
        refine nk_sub [1, 2, 0] (L' := [(0, nk_r l0), (1, nk_i l1), (2, nk_i v5)]) rfl ?_
        exact ja_X13_run_b135_ok zs hrec71 _ _ _ _ _ _ _ t_l0 t_l0 hr
    · have hr := nk_ifp (c := (S.1 l0 58) = l1) (Decidable.of_not_not hc) hr
      refine nk_p (i := .aload_n 0) (len := 1) (pc' := 99) mJ_221 (by decide +kernel) (ns_aload_n 1 rfl rfl) rfl ?_
      refine nk_p (i := .iconst 2) (len := 1) (pc' := 100) mJ_221 (by decide +kernel) (ns_iconst (c := 2) (by decide +kernel)) rfl ?_
      obtain ⟨S12, h13, hr⟩ := nk_lte hr
      refine nk_putI (y := (0, 0)) (ty := .int) (x := 826) (len := 3) (ci := 13) (k := 61) (pc' := 103) ja_okT mJ_221 (by decide +kernel) (by decide +kernel) (by decide +kernel) t_l0 (Or.inl rfl) rfl h13 ?_
      refine nk_p (i := .aload_n 0) (len := 1) (pc' := 104) mJ_221 (by decide +kernel) (ns_aload_n 1 rfl rfl) rfl ?_
      refine nk_p (i := .iload_n 2) (len := 1) (pc' := 105) mJ_221 (by decide +kernel) (ns_iload_n 0 rfl rfl) rfl ?_
      obtain ⟨S14, h15, hr⟩ := nk_lte hr
      refine nk_putI (y := (0, 0)) (ty := .int) (x := 135) (len := 3) (ci := 13) (k := 59) (pc' := 108) ja_okT mJ_221 (by decide +kernel) (by decide +kernel) (by decide +kernel) t_l0 (Or.inl rfl) rfl h15 ?_
      refine nk_p (i := .goto 52) (len := 3) (pc' := 160) mJ_221 (by decide +kernel) (ns_goto (by decide +kernel)) rfl ?_
      refine nk_p (i := .goto (-89)) (len := 3) (pc' := 71) mJ_221 (by decide +kernel) (ns_goto (by decide +kernel)) rfl ?_
      refine nk_sub [1, 2] (L' := [(0, nk_r l0), (1, nk_i l1)]) rfl ?_
      exact hrec71 _ _ _ _ t_l0 hr
noncomputable def ja_X13_run_L71 : Nat → Nat → Int → nk_S → Option (Int × nk_S)
  | 0, _, _, _ => none
  | n + 1, l0, l1, S => ja_X13_run_b71 (ja_X13_run_L71 n) l0 l1 S
theorem ja_X13_run_L71_ok (zs : List Int32) : ∀ n : Nat, ∀ (l0 : Nat) (l1 : Int) (S : nk_S) (R : Int × nk_S), nk_cl ja_Tt l0 = some 13 → ja_X13_run_L71 n l0 l1 S = some R → nk_K ja_Tt mi_Γ (mi_ev zs) 1 221 71 [(0, nk_r l0), (1, nk_i l1)] [] S R := by
  intro n
  induction n with
  | zero => intro _ _ _ _ _ hr; cases hr
  | succ n ih => intro l0 l1 S R t_l0 hr; exact ja_X13_run_b71_ok zs ih l0 l1 S R t_l0 hr
noncomputable def ja_X13_run (l0 : Nat) (l1 : Int) (S : nk_S) : Option (Int × nk_S) :=
  if (S.1 l0 2) = 0 then
    some ((-1), S)
  else
    if l1 < 0 then
      some ((-1), S)
    else
      if l1 ≤ 20000 then
        nk_lt (nk_wi S l0 53 0) fun S1 =>
        nk_lt (nk_wi S1 l0 54 0) fun S3 =>
        nk_lt (nk_wi S3 l0 56 0) fun S5 =>
        nk_lt (nk_wi S5 l0 57 0) fun S7 =>
        nk_lt (nk_wi S7 l0 58 0) fun S9 =>
        nk_lt (nk_wi S9 l0 60 (-1)) fun S11 =>
        nk_lt (nk_wi S11 l0 52 0) fun S13 =>
        nk_lt (nk_wi S13 l0 61 (-1)) fun S15 =>
        nk_bd (ja_X13_enter l0 (S15.1 (S15.2 l0 0) 6) S15) fun r18 S19 =>
        ja_X13_run_L71 nk_big l0 l1 S19
      else
        some ((-1), S)
theorem ja_X13_run_ok (zs : List Int32) : ∀ (l0 : Nat) (l1 : Int) (S : nk_S) (R : Int × nk_S), nk_cl ja_Tt l0 = some 13 → ja_X13_run l0 l1 S = some R → nk_K ja_Tt mi_Γ (mi_ev zs) 1 221 0 [(0, nk_r l0), (1, nk_i l1)] [] S R := by
  intro l0 l1 S R t_l0 hr
  unfold ja_X13_run at hr
  refine nk_p (i := .aload_n 0) (len := 1) (pc' := 1) mJ_221 (by decide +kernel) (ns_aload_n 0 rfl rfl) rfl ?_
  refine nk_getI (y := (0, 0)) (x := 794) (len := 3) (ci := 13) (k := 2) (pc' := 4) ja_okT mJ_221 (by decide +kernel) (by decide +kernel) (by decide +kernel) t_l0 rfl ?_
  refine nk_icond (c := .eq) (off := 14) (len := 3) (t := 18) (pc' := 7) mJ_221 (by decide +kernel) (by decide +kernel) rfl (fun hc => ?_) (fun hc => ?_)
  · have hr := nk_ifp (c := (S.1 l0 2) = 0) hc hr
    refine nk_p (i := .iconst (-1)) (len := 1) (pc' := 19) mJ_221 (by decide +kernel) (ns_iconst (c := (-1)) (by decide +kernel)) rfl ?_
    cases hr
    exact nk_iret (ty := .int) (len := 1) mJ_221 (by decide +kernel) rfl (nk_nar_i _)
  · have hr := nk_ifn (c := (S.1 l0 2) = 0) hc hr
    refine nk_p (i := .iload_n 1) (len := 1) (pc' := 8) mJ_221 (by decide +kernel) (ns_iload_n 1 rfl rfl) rfl ?_
    refine nk_icond (c := .lt) (off := 10) (len := 3) (t := 18) (pc' := 11) mJ_221 (by decide +kernel) (by decide +kernel) rfl (fun hc => ?_) (fun hc => ?_)
    · have hr := nk_ifp (c := l1 < 0) hc hr
      refine nk_p (i := .iconst (-1)) (len := 1) (pc' := 19) mJ_221 (by decide +kernel) (ns_iconst (c := (-1)) (by decide +kernel)) rfl ?_
      cases hr
      exact nk_iret (ty := .int) (len := 1) mJ_221 (by decide +kernel) rfl (nk_nar_i _)
    · have hr := nk_ifn (c := l1 < 0) hc hr
      refine nk_p (i := .iload_n 1) (len := 1) (pc' := 12) mJ_221 (by decide +kernel) (ns_iload_n 1 rfl rfl) rfl ?_
      refine nk_p (i := .sipush 20000) (len := 3) (pc' := 15) mJ_221 (by decide +kernel) (ns_sipush (c := 20000) (by decide +kernel)) rfl ?_
      refine nk_icmp (c := .le) (off := 5) (len := 3) (t := 20) (pc' := 18) mJ_221 (by decide +kernel) (by decide +kernel) rfl (fun hc => ?_) (fun hc => ?_)
      · have hr := nk_ifp (c := l1 ≤ 20000) hc hr
        refine nk_p (i := .aload_n 0) (len := 1) (pc' := 21) mJ_221 (by decide +kernel) (ns_aload_n 0 rfl rfl) rfl ?_
        refine nk_p (i := .iconst 0) (len := 1) (pc' := 22) mJ_221 (by decide +kernel) (ns_iconst (c := 0) (by decide +kernel)) rfl ?_
        obtain ⟨S1, h2, hr⟩ := nk_lte hr
        refine nk_putI (y := (0, 0)) (ty := .int) (x := 808) (len := 3) (ci := 13) (k := 53) (pc' := 25) ja_okT mJ_221 (by decide +kernel) (by decide +kernel) (by decide +kernel) t_l0 (Or.inl rfl) rfl h2 ?_
        refine nk_p (i := .aload_n 0) (len := 1) (pc' := 26) mJ_221 (by decide +kernel) (ns_aload_n 0 rfl rfl) rfl ?_
        refine nk_p (i := .iconst 0) (len := 1) (pc' := 27) mJ_221 (by decide +kernel) (ns_iconst (c := 0) (by decide +kernel)) rfl ?_
        obtain ⟨S3, h4, hr⟩ := nk_lte hr
        refine nk_putI (y := (0, 0)) (ty := .int) (x := 811) (len := 3) (ci := 13) (k := 54) (pc' := 30) ja_okT mJ_221 (by decide +kernel) (by decide +kernel) (by decide +kernel) t_l0 (Or.inl rfl) rfl h4 ?_
        refine nk_p (i := .aload_n 0) (len := 1) (pc' := 31) mJ_221 (by decide +kernel) (ns_aload_n 0 rfl rfl) rfl ?_
        refine nk_p (i := .iconst 0) (len := 1) (pc' := 32) mJ_221 (by decide +kernel) (ns_iconst (c := 0) (by decide +kernel)) rfl ?_
        obtain ⟨S5, h6, hr⟩ := nk_lte hr
        refine nk_putI (y := (0, 0)) (ty := .int) (x := 814) (len := 3) (ci := 13) (k := 56) (pc' := 35) ja_okT mJ_221 (by decide +kernel) (by decide +kernel) (by decide +kernel) t_l0 (Or.inl rfl) rfl h6 ?_
        refine nk_p (i := .aload_n 0) (len := 1) (pc' := 36) mJ_221 (by decide +kernel) (ns_aload_n 0 rfl rfl) rfl ?_
        refine nk_p (i := .iconst 0) (len := 1) (pc' := 37) mJ_221 (by decide +kernel) (ns_iconst (c := 0) (by decide +kernel)) rfl ?_
        obtain ⟨S7, h8, hr⟩ := nk_lte hr
        refine nk_putI (y := (0, 0)) (ty := .int) (x := 817) (len := 3) (ci := 13) (k := 57) (pc' := 40) ja_okT mJ_221 (by decide +kernel) (by decide +kernel) (by decide +kernel) t_l0 (Or.inl rfl) rfl h8 ?_
        refine nk_p (i := .aload_n 0) (len := 1) (pc' := 41) mJ_221 (by decide +kernel) (ns_aload_n 0 rfl rfl) rfl ?_
        refine nk_p (i := .iconst 0) (len := 1) (pc' := 42) mJ_221 (by decide +kernel) (ns_iconst (c := 0) (by decide +kernel)) rfl ?_
        obtain ⟨S9, h10, hr⟩ := nk_lte hr
        refine nk_putI (y := (0, 0)) (ty := .int) (x := 820) (len := 3) (ci := 13) (k := 58) (pc' := 45) ja_okT mJ_221 (by decide +kernel) (by decide +kernel) (by decide +kernel) t_l0 (Or.inl rfl) rfl h10 ?_
        refine nk_p (i := .aload_n 0) (len := 1) (pc' := 46) mJ_221 (by decide +kernel) (ns_aload_n 0 rfl rfl) rfl ?_
        refine nk_p (i := .iconst (-1)) (len := 1) (pc' := 47) mJ_221 (by decide +kernel) (ns_iconst (c := (-1)) (by decide +kernel)) rfl ?_
        obtain ⟨S11, h12, hr⟩ := nk_lte hr
        refine nk_putI (y := (0, 0)) (ty := .int) (x := 138) (len := 3) (ci := 13) (k := 60) (pc' := 50) ja_okT mJ_221 (by decide +kernel) (by decide +kernel) (by decide +kernel) t_l0 (Or.inl rfl) rfl h12 ?_
        refine nk_p (i := .aload_n 0) (len := 1) (pc' := 51) mJ_221 (by decide +kernel) (ns_aload_n 0 rfl rfl) rfl ?_
        refine nk_p (i := .iconst 0) (len := 1) (pc' := 52) mJ_221 (by decide +kernel) (ns_iconst (c := 0) (by decide +kernel)) rfl ?_
        obtain ⟨S13, h14, hr⟩ := nk_lte hr
        refine nk_putI (y := (0, 0)) (ty := .int) (x := 823) (len := 3) (ci := 13) (k := 52) (pc' := 55) ja_okT mJ_221 (by decide +kernel) (by decide +kernel) (by decide +kernel) t_l0 (Or.inl rfl) rfl h14 ?_
        refine nk_p (i := .aload_n 0) (len := 1) (pc' := 56) mJ_221 (by decide +kernel) (ns_aload_n 0 rfl rfl) rfl ?_
        refine nk_p (i := .iconst (-1)) (len := 1) (pc' := 57) mJ_221 (by decide +kernel) (ns_iconst (c := (-1)) (by decide +kernel)) rfl ?_
        obtain ⟨S15, h16, hr⟩ := nk_lte hr
        refine nk_putI (y := (0, 0)) (ty := .int) (x := 826) (len := 3) (ci := 13) (k := 61) (pc' := 60) ja_okT mJ_221 (by decide +kernel) (by decide +kernel) (by decide +kernel) t_l0 (Or.inl rfl) rfl h16 ?_
        refine nk_p (i := .aload_n 0) (len := 1) (pc' := 61) mJ_221 (by decide +kernel) (ns_aload_n 0 rfl rfl) rfl ?_
        refine nk_p (i := .aload_n 0) (len := 1) (pc' := 62) mJ_221 (by decide +kernel) (ns_aload_n 0 rfl rfl) rfl ?_
        refine nk_getM (cj := 12) (z := 0) (x := 12) (len := 3) (ci := 13) (k := 0) (pc' := 65) ja_okT mJ_221 (by decide +kernel) (by decide +kernel) (by decide +kernel) t_l0 rfl (fun t17 => ?_)
        refine nk_getI (y := (0, 0)) (x := 453) (len := 3) (ci := 12) (k := 6) (pc' := 68) ja_okT mJ_221 (by decide +kernel) (by decide +kernel) (by decide +kernel) t17 rfl ?_
        obtain ⟨r18, S19, h20, hr⟩ := nk_bde hr
        refine nk_callV (ci := 13) (n := 1) (x := 829) (len := 3) (j' := 113) (q' := 0) (r := r18) (S' := S19) (L2 := [(0, nk_r l0), (1, nk_i (S15.1 (S15.2 l0 0) 6))]) (rest := []) (st' := []) (pc' := 71) mJ_221 (by decide +kernel) (by decide +kernel) rfl rfl t_l0 (Nat.le_of_ble_eq_true rfl) mJ_113 (Nat.le_of_ble_eq_true rfl) rfl (ja_X13_enter_ok zs _ _ _ _ t_l0 h20) rfl ?_
        exact ja_X13_run_L71_ok zs nk_big _ _ _ _ t_l0 hr
      · have hr := nk_ifn (c := l1 ≤ 20000) hc hr
        refine nk_p (i := .iconst (-1)) (len := 1) (pc' := 19) mJ_221 (by decide +kernel) (ns_iconst (c := (-1)) (by decide +kernel)) rfl ?_
        cases hr
        exact nk_iret (ty := .int) (len := 1) mJ_221 (by decide +kernel) rfl (nk_nar_i _)
/-! SafeCodeModel sites (II)J -/
noncomputable def ja_X13_sites (l0 : Nat) (l1 : Int) (l2 : Int) (S : nk_S) : Option (Int × nk_S) :=
  nk_bd (ja_X13_kind l0 l1 l2 S) fun r1 S2 =>
  if r1 = 2 then
    nk_bd (ja_X13_slot l0 l1 l2 S2) fun r6 S7 =>
    if 0 ≤ r6 ∧ r6 < 20480 then
    some ((S7.1 (ja_c (S2.2 l0 0) 38) r6.toNat), S7)
    else none
  else
    some (0, S2)
theorem ja_X13_sites_ok (zs : List Int32) : ∀ (l0 : Nat) (l1 : Int) (l2 : Int) (S : nk_S) (R : Int × nk_S), nk_cl ja_Tt l0 = some 13 → ja_X13_sites l0 l1 l2 S = some R → nk_K ja_Tt mi_Γ (mi_ev zs) 2 224 0 [(0, nk_r l0), (1, nk_i l1), (2, nk_i l2)] [] S R := by
  intro l0 l1 l2 S R t_l0 hr
  unfold ja_X13_sites at hr
  refine nk_p (i := .aload_n 0) (len := 1) (pc' := 1) mJ_224 (by decide +kernel) (ns_aload_n 0 rfl rfl) rfl ?_
  refine nk_p (i := .iload_n 1) (len := 1) (pc' := 2) mJ_224 (by decide +kernel) (ns_iload_n 1 rfl rfl) rfl ?_
  refine nk_p (i := .iload_n 2) (len := 1) (pc' := 3) mJ_224 (by decide +kernel) (ns_iload_n 2 rfl rfl) rfl ?_
  obtain ⟨r1, S2, h3, hr⟩ := nk_bde hr
  refine nk_callV (ci := 13) (n := 2) (x := 803) (len := 3) (j' := 171) (q' := 1) (r := r1) (S' := S2) (L2 := [(0, nk_r l0), (1, nk_i l1), (2, nk_i l2)]) (rest := []) (st' := [nk_i r1]) (pc' := 6) mJ_224 (by decide +kernel) (by decide +kernel) rfl rfl t_l0 (Nat.le_of_ble_eq_true rfl) mJ_171 (Nat.le_of_ble_eq_true rfl) rfl (ja_X13_kind_ok zs _ _ _ _ _ t_l0 h3) rfl ?_
  refine nk_p (i := .iconst 2) (len := 1) (pc' := 7) mJ_224 (by decide +kernel) (ns_iconst (c := 2) (by decide +kernel)) rfl ?_
  refine nk_icmp (c := .ne) (off := 20) (len := 3) (t := 27) (pc' := 10) mJ_224 (by decide +kernel) (by decide +kernel) rfl (fun hc => ?_) (fun hc => ?_)
  · have hr := nk_ifn (c := r1 = 2) hc hr
    refine nk_p (i := .lconst 0) (len := 1) (pc' := 28) mJ_224 (by decide +kernel) (ns_lconst (c := 0) (by decide +kernel)) rfl ?_
    cases hr
    exact nk_lret (len := 1) mJ_224 (by decide +kernel) rfl
  · have hr := nk_ifp (c := r1 = 2) (Decidable.of_not_not hc) hr
    refine nk_p (i := .aload_n 0) (len := 1) (pc' := 11) mJ_224 (by decide +kernel) (ns_aload_n 0 rfl rfl) rfl ?_
    refine nk_getM (cj := 12) (z := 0) (x := 12) (len := 3) (ci := 13) (k := 0) (pc' := 14) ja_okT mJ_224 (by decide +kernel) (by decide +kernel) (by decide +kernel) t_l0 rfl (fun t4 => ?_)
    refine nk_getC (f := (4, 2, 20480)) (x := 532) (len := 3) (ci := 12) (k := 38) (pc' := 17) ja_okT mJ_224 (by decide +kernel) (by decide +kernel) (by decide +kernel) (by decide) t4 rfl ?_
    have t5 : nk_ar ja_Tt (ja_c (S2.2 l0 0) 38) = some (2, 20480) := nk_ta ja_okT t4 (by decide +kernel)
    refine nk_p (i := .aload_n 0) (len := 1) (pc' := 18) mJ_224 (by decide +kernel) (ns_aload_n 0 rfl rfl) rfl ?_
    refine nk_p (i := .iload_n 1) (len := 1) (pc' := 19) mJ_224 (by decide +kernel) (ns_iload_n 1 rfl rfl) rfl ?_
    refine nk_p (i := .iload_n 2) (len := 1) (pc' := 20) mJ_224 (by decide +kernel) (ns_iload_n 2 rfl rfl) rfl ?_
    obtain ⟨r6, S7, h8, hr⟩ := nk_bde hr
    refine nk_callV (ci := 13) (n := 2) (x := 800) (len := 3) (j' := 227) (q' := 1) (r := r6) (S' := S7) (L2 := [(0, nk_r l0), (1, nk_i l1), (2, nk_i l2)]) (rest := [nk_r (ja_c (S2.2 l0 0) 38)]) (st' := [nk_i r6, nk_r (ja_c (S2.2 l0 0) 38)]) (pc' := 23) mJ_224 (by decide +kernel) (by decide +kernel) rfl rfl t_l0 (Nat.le_of_ble_eq_true rfl) mJ_227 (Nat.le_of_ble_eq_true rfl) rfl (ja_X13_slot_ok zs _ _ _ _ _ t_l0 h8) rfl ?_
    obtain ⟨h9, hr⟩ := nk_cke hr
    refine nk_lald (len := 1) (N := 20480) (pc' := 24) mJ_224 (by decide +kernel) t5 h9.1 h9.2 rfl rfl ?_
    refine nk_p (i := .goto 4) (len := 3) (pc' := 28) mJ_224 (by decide +kernel) (ns_goto (by decide +kernel)) rfl ?_
    cases hr
    exact nk_lret (len := 1) mJ_224 (by decide +kernel) rfl
/-! SafeCodeModel size (I)I -/
noncomputable def ja_X13_size (l0 : Nat) (l1 : Int) (S : nk_S) : Option (Int × nk_S) :=
  if (S.1 l0 2) = 0 then
    some ((-1), S)
  else
    if l1 = 0 then
      some ((S.1 (S.2 l0 0) 3), S)
    else
      if l1 = 1 then
        some ((S.1 (S.2 l0 0) 4), S)
      else
        if l1 = 2 then
          some ((S.1 (S.2 l0 0) 2), S)
        else
          if l1 = 3 then
            some ((S.1 (S.2 l0 0) 7), S)
          else
            if l1 = 4 then
              some ((S.1 (S.2 l0 0) 0), S)
            else
              some ((-1), S)
theorem ja_X13_size_ok (zs : List Int32) : ∀ (l0 : Nat) (l1 : Int) (S : nk_S) (R : Int × nk_S), nk_cl ja_Tt l0 = some 13 → ja_X13_size l0 l1 S = some R → nk_K ja_Tt mi_Γ (mi_ev zs) 1 226 0 [(0, nk_r l0), (1, nk_i l1)] [] S R := by
  intro l0 l1 S R t_l0 hr
  unfold ja_X13_size at hr
  refine nk_p (i := .aload_n 0) (len := 1) (pc' := 1) mJ_226 (by decide +kernel) (ns_aload_n 0 rfl rfl) rfl ?_
  refine nk_getI (y := (0, 0)) (x := 794) (len := 3) (ci := 13) (k := 2) (pc' := 4) ja_okT mJ_226 (by decide +kernel) (by decide +kernel) (by decide +kernel) t_l0 rfl ?_
  refine nk_icond (c := .ne) (off := 5) (len := 3) (t := 9) (pc' := 7) mJ_226 (by decide +kernel) (by decide +kernel) rfl (fun hc => ?_) (fun hc => ?_)
  · have hr := nk_ifn (c := (S.1 l0 2) = 0) hc hr
    refine nk_p (i := .iload_n 1) (len := 1) (pc' := 10) mJ_226 (by decide +kernel) (ns_iload_n 1 rfl rfl) rfl ?_
    refine nk_icond (c := .ne) (off := 13) (len := 3) (t := 23) (pc' := 13) mJ_226 (by decide +kernel) (by decide +kernel) rfl (fun hc => ?_) (fun hc => ?_)
    · have hr := nk_ifn (c := l1 = 0) hc hr
      refine nk_p (i := .iload_n 1) (len := 1) (pc' := 24) mJ_226 (by decide +kernel) (ns_iload_n 1 rfl rfl) rfl ?_
      refine nk_p (i := .iconst 1) (len := 1) (pc' := 25) mJ_226 (by decide +kernel) (ns_iconst (c := 1) (by decide +kernel)) rfl ?_
      refine nk_icmp (c := .ne) (off := 13) (len := 3) (t := 38) (pc' := 28) mJ_226 (by decide +kernel) (by decide +kernel) rfl (fun hc => ?_) (fun hc => ?_)
      · have hr := nk_ifn (c := l1 = 1) hc hr
        refine nk_p (i := .iload_n 1) (len := 1) (pc' := 39) mJ_226 (by decide +kernel) (ns_iload_n 1 rfl rfl) rfl ?_
        refine nk_p (i := .iconst 2) (len := 1) (pc' := 40) mJ_226 (by decide +kernel) (ns_iconst (c := 2) (by decide +kernel)) rfl ?_
        refine nk_icmp (c := .ne) (off := 13) (len := 3) (t := 53) (pc' := 43) mJ_226 (by decide +kernel) (by decide +kernel) rfl (fun hc => ?_) (fun hc => ?_)
        · have hr := nk_ifn (c := l1 = 2) hc hr
          refine nk_p (i := .iload_n 1) (len := 1) (pc' := 54) mJ_226 (by decide +kernel) (ns_iload_n 1 rfl rfl) rfl ?_
          refine nk_p (i := .iconst 3) (len := 1) (pc' := 55) mJ_226 (by decide +kernel) (ns_iconst (c := 3) (by decide +kernel)) rfl ?_
          refine nk_icmp (c := .ne) (off := 13) (len := 3) (t := 68) (pc' := 58) mJ_226 (by decide +kernel) (by decide +kernel) rfl (fun hc => ?_) (fun hc => ?_)
          · have hr := nk_ifn (c := l1 = 3) hc hr
            refine nk_p (i := .iload_n 1) (len := 1) (pc' := 69) mJ_226 (by decide +kernel) (ns_iload_n 1 rfl rfl) rfl ?_
            refine nk_p (i := .iconst 4) (len := 1) (pc' := 70) mJ_226 (by decide +kernel) (ns_iconst (c := 4) (by decide +kernel)) rfl ?_
            refine nk_icmp (c := .ne) (off := 13) (len := 3) (t := 83) (pc' := 73) mJ_226 (by decide +kernel) (by decide +kernel) rfl (fun hc => ?_) (fun hc => ?_)
            · have hr := nk_ifn (c := l1 = 4) hc hr
              refine nk_p (i := .iconst (-1)) (len := 1) (pc' := 84) mJ_226 (by decide +kernel) (ns_iconst (c := (-1)) (by decide +kernel)) rfl ?_
              cases hr
              exact nk_iret (ty := .int) (len := 1) mJ_226 (by decide +kernel) rfl (nk_nar_i _)
            · have hr := nk_ifp (c := l1 = 4) (Decidable.of_not_not hc) hr
              refine nk_p (i := .aload_n 0) (len := 1) (pc' := 74) mJ_226 (by decide +kernel) (ns_aload_n 0 rfl rfl) rfl ?_
              refine nk_getM (cj := 12) (z := 0) (x := 12) (len := 3) (ci := 13) (k := 0) (pc' := 77) ja_okT mJ_226 (by decide +kernel) (by decide +kernel) (by decide +kernel) t_l0 rfl (fun t1 => ?_)
              refine nk_getI (y := (0, 0)) (x := 267) (len := 3) (ci := 12) (k := 0) (pc' := 80) ja_okT mJ_226 (by decide +kernel) (by decide +kernel) (by decide +kernel) t1 rfl ?_
              refine nk_p (i := .goto 4) (len := 3) (pc' := 84) mJ_226 (by decide +kernel) (ns_goto (by decide +kernel)) rfl ?_
              cases hr
              exact nk_iret (ty := .int) (len := 1) mJ_226 (by decide +kernel) rfl (nk_nar_i _)
          · have hr := nk_ifp (c := l1 = 3) (Decidable.of_not_not hc) hr
            refine nk_p (i := .aload_n 0) (len := 1) (pc' := 59) mJ_226 (by decide +kernel) (ns_aload_n 0 rfl rfl) rfl ?_
            refine nk_getM (cj := 12) (z := 0) (x := 12) (len := 3) (ci := 13) (k := 0) (pc' := 62) ja_okT mJ_226 (by decide +kernel) (by decide +kernel) (by decide +kernel) t_l0 rfl (fun t2 => ?_)
            refine nk_getI (y := (0, 0)) (x := 362) (len := 3) (ci := 12) (k := 7) (pc' := 65) ja_okT mJ_226 (by decide +kernel) (by decide +kernel) (by decide +kernel) t2 rfl ?_
            refine nk_p (i := .goto 19) (len := 3) (pc' := 84) mJ_226 (by decide +kernel) (ns_goto (by decide +kernel)) rfl ?_
            cases hr
            exact nk_iret (ty := .int) (len := 1) mJ_226 (by decide +kernel) rfl (nk_nar_i _)
        · have hr := nk_ifp (c := l1 = 2) (Decidable.of_not_not hc) hr
          refine nk_p (i := .aload_n 0) (len := 1) (pc' := 44) mJ_226 (by decide +kernel) (ns_aload_n 0 rfl rfl) rfl ?_
          refine nk_getM (cj := 12) (z := 0) (x := 12) (len := 3) (ci := 13) (k := 0) (pc' := 47) ja_okT mJ_226 (by decide +kernel) (by decide +kernel) (by decide +kernel) t_l0 rfl (fun t3 => ?_)
          refine nk_getI (y := (0, 0)) (x := 303) (len := 3) (ci := 12) (k := 2) (pc' := 50) ja_okT mJ_226 (by decide +kernel) (by decide +kernel) (by decide +kernel) t3 rfl ?_
          refine nk_p (i := .goto 34) (len := 3) (pc' := 84) mJ_226 (by decide +kernel) (ns_goto (by decide +kernel)) rfl ?_
          cases hr
          exact nk_iret (ty := .int) (len := 1) mJ_226 (by decide +kernel) rfl (nk_nar_i _)
      · have hr := nk_ifp (c := l1 = 1) (Decidable.of_not_not hc) hr
        refine nk_p (i := .aload_n 0) (len := 1) (pc' := 29) mJ_226 (by decide +kernel) (ns_aload_n 0 rfl rfl) rfl ?_
        refine nk_getM (cj := 12) (z := 0) (x := 12) (len := 3) (ci := 13) (k := 0) (pc' := 32) ja_okT mJ_226 (by decide +kernel) (by decide +kernel) (by decide +kernel) t_l0 rfl (fun t4 => ?_)
        refine nk_getI (y := (0, 0)) (x := 356) (len := 3) (ci := 12) (k := 4) (pc' := 35) ja_okT mJ_226 (by decide +kernel) (by decide +kernel) (by decide +kernel) t4 rfl ?_
        refine nk_p (i := .goto 49) (len := 3) (pc' := 84) mJ_226 (by decide +kernel) (ns_goto (by decide +kernel)) rfl ?_
        cases hr
        exact nk_iret (ty := .int) (len := 1) mJ_226 (by decide +kernel) rfl (nk_nar_i _)
    · have hr := nk_ifp (c := l1 = 0) (Decidable.of_not_not hc) hr
      refine nk_p (i := .aload_n 0) (len := 1) (pc' := 14) mJ_226 (by decide +kernel) (ns_aload_n 0 rfl rfl) rfl ?_
      refine nk_getM (cj := 12) (z := 0) (x := 12) (len := 3) (ci := 13) (k := 0) (pc' := 17) ja_okT mJ_226 (by decide +kernel) (by decide +kernel) (by decide +kernel) t_l0 rfl (fun t5 => ?_)
      refine nk_getI (y := (0, 0)) (x := 353) (len := 3) (ci := 12) (k := 3) (pc' := 20) ja_okT mJ_226 (by decide +kernel) (by decide +kernel) (by decide +kernel) t5 rfl ?_
      refine nk_p (i := .goto 64) (len := 3) (pc' := 84) mJ_226 (by decide +kernel) (ns_goto (by decide +kernel)) rfl ?_
      cases hr
      exact nk_iret (ty := .int) (len := 1) mJ_226 (by decide +kernel) rfl (nk_nar_i _)
  · have hr := nk_ifp (c := (S.1 l0 2) = 0) (Decidable.of_not_not hc) hr
    refine nk_p (i := .iconst (-1)) (len := 1) (pc' := 8) mJ_226 (by decide +kernel) (ns_iconst (c := (-1)) (by decide +kernel)) rfl ?_
    cases hr
    exact nk_iret (ty := .int) (len := 1) mJ_226 (by decide +kernel) rfl (nk_nar_i _)
/-! SafeCodeModel steps ()I -/
noncomputable def ja_X13_steps (l0 : Nat) (S : nk_S) : Option (Int × nk_S) :=
  some ((S.1 l0 58), S)
theorem ja_X13_steps_ok (zs : List Int32) : ∀ (l0 : Nat) (S : nk_S) (R : Int × nk_S), nk_cl ja_Tt l0 = some 13 → ja_X13_steps l0 S = some R → nk_K ja_Tt mi_Γ (mi_ev zs) 1 229 0 [(0, nk_r l0)] [] S R := by
  intro l0 S R t_l0 hr
  unfold ja_X13_steps at hr
  refine nk_p (i := .aload_n 0) (len := 1) (pc' := 1) mJ_229 (by decide +kernel) (ns_aload_n 0 rfl rfl) rfl ?_
  refine nk_getI (y := (0, 0)) (x := 820) (len := 3) (ci := 13) (k := 58) (pc' := 4) ja_okT mJ_229 (by decide +kernel) (by decide +kernel) (by decide +kernel) t_l0 rfl ?_
  cases hr
  exact nk_iret (ty := .int) (len := 1) mJ_229 (by decide +kernel) rfl (nk_nar_i _)
/-! SafeCodeModel strays ()I -/
noncomputable def ja_X13_strays (l0 : Nat) (S : nk_S) : Option (Int × nk_S) :=
  some ((S.1 l0 62), S)
theorem ja_X13_strays_ok (zs : List Int32) : ∀ (l0 : Nat) (S : nk_S) (R : Int × nk_S), nk_cl ja_Tt l0 = some 13 → ja_X13_strays l0 S = some R → nk_K ja_Tt mi_Γ (mi_ev zs) 1 230 0 [(0, nk_r l0)] [] S R := by
  intro l0 S R t_l0 hr
  unfold ja_X13_strays at hr
  refine nk_p (i := .aload_n 0) (len := 1) (pc' := 1) mJ_230 (by decide +kernel) (ns_aload_n 0 rfl rfl) rfl ?_
  refine nk_getI (y := (0, 0)) (x := 841) (len := 3) (ci := 13) (k := 62) (pc' := 4) ja_okT mJ_230 (by decide +kernel) (by decide +kernel) (by decide +kernel) t_l0 rfl ?_
  cases hr
  exact nk_iret (ty := .int) (len := 1) mJ_230 (by decide +kernel) rfl (nk_nar_i _)
/-! SafeCodeModel thrown ()I -/
noncomputable def ja_X13_thrown (l0 : Nat) (S : nk_S) : Option (Int × nk_S) :=
  some ((S.1 l0 60), S)
theorem ja_X13_thrown_ok (zs : List Int32) : ∀ (l0 : Nat) (S : nk_S) (R : Int × nk_S), nk_cl ja_Tt l0 = some 13 → ja_X13_thrown l0 S = some R → nk_K ja_Tt mi_Γ (mi_ev zs) 1 234 0 [(0, nk_r l0)] [] S R := by
  intro l0 S R t_l0 hr
  unfold ja_X13_thrown at hr
  refine nk_p (i := .aload_n 0) (len := 1) (pc' := 1) mJ_234 (by decide +kernel) (ns_aload_n 0 rfl rfl) rfl ?_
  refine nk_getI (y := (0, 0)) (x := 138) (len := 3) (ci := 13) (k := 60) (pc' := 4) ja_okT mJ_234 (by decide +kernel) (by decide +kernel) (by decide +kernel) t_l0 rfl ?_
  cases hr
  exact nk_iret (ty := .int) (len := 1) mJ_234 (by decide +kernel) rfl (nk_nar_i _)
/-! SafeCodeModel written ()I -/
noncomputable def ja_X13_written (l0 : Nat) (S : nk_S) : Option (Int × nk_S) :=
  some ((S.1 l0 57), S)
theorem ja_X13_written_ok (zs : List Int32) : ∀ (l0 : Nat) (S : nk_S) (R : Int × nk_S), nk_cl ja_Tt l0 = some 13 → ja_X13_written l0 S = some R → nk_K ja_Tt mi_Γ (mi_ev zs) 1 245 0 [(0, nk_r l0)] [] S R := by
  intro l0 S R t_l0 hr
  unfold ja_X13_written at hr
  refine nk_p (i := .aload_n 0) (len := 1) (pc' := 1) mJ_245 (by decide +kernel) (ns_aload_n 0 rfl rfl) rfl ?_
  refine nk_getI (y := (0, 0)) (x := 817) (len := 3) (ci := 13) (k := 57) (pc' := 4) ja_okT mJ_245 (by decide +kernel) (by decide +kernel) (by decide +kernel) t_l0 rfl ?_
  cases hr
  exact nk_iret (ty := .int) (len := 1) mJ_245 (by decide +kernel) rfl (nk_nar_i _)
/-! SafeCodeLaw law ([I)Z -/
noncomputable def ja_L_law_b27 (zs : List Int32) (rec18 : Nat → Nat → Int → nk_S → Option (Int × nk_S)) (l1 : Nat) (l2 : Nat) (l3 : Int) (S : nk_S) : Option (Int × nk_S) :=
  if 0 ≤ l3 ∧ l3 < (zs.length : Int) then
  nk_lt (nk_iand (((zs).getD l3.toNat 0).toInt) 31) fun v2 =>
  if v2 = 0 then
    if 0 ≤ (nk_w (l3 + 1)) ∧ (nk_w (l3 + 1)) < (zs.length : Int) then
    if 0 ≤ (nk_w (l3 + 2)) ∧ (nk_w (l3 + 2)) < (zs.length : Int) then
    if 0 ≤ (nk_w (l3 + 3)) ∧ (nk_w (l3 + 3)) < (zs.length : Int) then
    if 0 ≤ (nk_w (l3 + 4)) ∧ (nk_w (l3 + 4)) < (zs.length : Int) then
    if 0 ≤ (nk_w (l3 + 5)) ∧ (nk_w (l3 + 5)) < (zs.length : Int) then
    nk_bd (ja_X11_feed l1 (((zs).getD (nk_w (l3 + 1)).toNat 0).toInt) (((zs).getD (nk_w (l3 + 2)).toNat 0).toInt) (((zs).getD (nk_w (l3 + 3)).toNat 0).toInt) (((zs).getD (nk_w (l3 + 4)).toNat 0).toInt) (((zs).getD (nk_w (l3 + 5)).toNat 0).toInt) S) fun r9 S10 =>
    nk_bd (ja_X13_feed l2 (((zs).getD (nk_w (l3 + 1)).toNat 0).toInt) (((zs).getD (nk_w (l3 + 2)).toNat 0).toInt) (((zs).getD (nk_w (l3 + 3)).toNat 0).toInt) (((zs).getD (nk_w (l3 + 4)).toNat 0).toInt) (((zs).getD (nk_w (l3 + 5)).toNat 0).toInt) S10) fun r12 S13 =>
    if r9 = r12 then
      nk_lt (nk_w (l3 + 6)) fun v15 =>
      rec18 l1 l2 v15 S13
    else
      some (0, S13)
    else none
    else none
    else none
    else none
    else none
  else
  if v2 = 1 then
    if 0 ≤ (nk_w (l3 + 1)) ∧ (nk_w (l3 + 1)) < (zs.length : Int) then
    nk_bd (ja_X11_end l1 (((zs).getD (nk_w (l3 + 1)).toNat 0).toInt) S) fun r18 S19 =>
    nk_bd (ja_X13_end l2 (((zs).getD (nk_w (l3 + 1)).toNat 0).toInt) S19) fun r21 S22 =>
    if r18 = r21 then
      nk_lt (nk_w (l3 + 6)) fun v24 =>
      rec18 l1 l2 v24 S22
    else
      some (0, S22)
    else none
  else
  if v2 = 2 then
    nk_bd (ja_X11_load l1 S) fun r26 S27 =>
    nk_bd (ja_X13_load l2 S27) fun r29 S30 =>
    if r26 = r29 then
      nk_lt (nk_w (l3 + 6)) fun v32 =>
      rec18 l1 l2 v32 S30
    else
      some (0, S30)
  else
  if v2 = 3 then
    nk_bd (ja_X11_faultAt l1 S) fun r34 S35 =>
    nk_bd (ja_X13_faultAt l2 S35) fun r37 S38 =>
    if r34 = r37 then
      nk_lt (nk_w (l3 + 6)) fun v40 =>
      rec18 l1 l2 v40 S38
    else
      some (0, S38)
  else
  if v2 = 4 then
    if 0 ≤ (nk_w (l3 + 1)) ∧ (nk_w (l3 + 1)) < (zs.length : Int) then
    nk_bd (ja_X11_size l1 (((zs).getD (nk_w (l3 + 1)).toNat 0).toInt) S) fun r43 S44 =>
    nk_bd (ja_X13_size l2 (((zs).getD (nk_w (l3 + 1)).toNat 0).toInt) S44) fun r46 S47 =>
    if r43 = r46 then
      nk_lt (nk_w (l3 + 6)) fun v49 =>
      rec18 l1 l2 v49 S47
    else
      some (0, S47)
    else none
  else
  if v2 = 5 then
    if 0 ≤ (nk_w (l3 + 1)) ∧ (nk_w (l3 + 1)) < (zs.length : Int) then
    nk_bd (ja_X11_errors l1 (((zs).getD (nk_w (l3 + 1)).toNat 0).toInt) S) fun r52 S53 =>
    nk_bd (ja_X13_errors l2 (((zs).getD (nk_w (l3 + 1)).toNat 0).toInt) S53) fun r55 S56 =>
    if r52 = r55 then
      nk_lt (nk_w (l3 + 6)) fun v58 =>
      rec18 l1 l2 v58 S56
    else
      some (0, S56)
    else none
  else
  if v2 = 6 then
    if 0 ≤ (nk_w (l3 + 1)) ∧ (nk_w (l3 + 1)) < (zs.length : Int) then
    nk_bd (ja_X11_escapes l1 (((zs).getD (nk_w (l3 + 1)).toNat 0).toInt) S) fun r61 S62 =>
    nk_bd (ja_X13_escapes l2 (((zs).getD (nk_w (l3 + 1)).toNat 0).toInt) S62) fun r64 S65 =>
    if r61 = r64 then
      nk_lt (nk_w (l3 + 6)) fun v67 =>
      rec18 l1 l2 v67 S65
    else
      some (0, S65)
    else none
  else
  if v2 = 7 then
    nk_bd (ja_X11_ends l1 S) fun r69 S70 =>
    nk_bd (ja_X13_ends l2 S70) fun r72 S73 =>
    if r69 = r72 then
      nk_lt (nk_w (l3 + 6)) fun v75 =>
      rec18 l1 l2 v75 S73
    else
      some (0, S73)
  else
  if v2 = 8 then
    if 0 ≤ (nk_w (l3 + 1)) ∧ (nk_w (l3 + 1)) < (zs.length : Int) then
    if 0 ≤ (nk_w (l3 + 2)) ∧ (nk_w (l3 + 2)) < (zs.length : Int) then
    nk_bd (ja_X11_kind l1 (((zs).getD (nk_w (l3 + 1)).toNat 0).toInt) (((zs).getD (nk_w (l3 + 2)).toNat 0).toInt) S) fun r79 S80 =>
    nk_bd (ja_X13_kind l2 (((zs).getD (nk_w (l3 + 1)).toNat 0).toInt) (((zs).getD (nk_w (l3 + 2)).toNat 0).toInt) S80) fun r82 S83 =>
    if r79 = r82 then
      nk_lt (nk_w (l3 + 6)) fun v85 =>
      rec18 l1 l2 v85 S83
    else
      some (0, S83)
    else none
    else none
  else
  if v2 = 9 then
    if 0 ≤ (nk_w (l3 + 1)) ∧ (nk_w (l3 + 1)) < (zs.length : Int) then
    if 0 ≤ (nk_w (l3 + 2)) ∧ (nk_w (l3 + 2)) < (zs.length : Int) then
    nk_bd (ja_X11_low l1 (((zs).getD (nk_w (l3 + 1)).toNat 0).toInt) (((zs).getD (nk_w (l3 + 2)).toNat 0).toInt) S) fun r89 S90 =>
    nk_bd (ja_X13_low l2 (((zs).getD (nk_w (l3 + 1)).toNat 0).toInt) (((zs).getD (nk_w (l3 + 2)).toNat 0).toInt) S90) fun r92 S93 =>
    if r89 = r92 then
      nk_lt (nk_w (l3 + 6)) fun v95 =>
      rec18 l1 l2 v95 S93
    else
      some (0, S93)
    else none
    else none
  else
  if v2 = 10 then
    if 0 ≤ (nk_w (l3 + 1)) ∧ (nk_w (l3 + 1)) < (zs.length : Int) then
    if 0 ≤ (nk_w (l3 + 2)) ∧ (nk_w (l3 + 2)) < (zs.length : Int) then
    nk_bd (ja_X11_high l1 (((zs).getD (nk_w (l3 + 1)).toNat 0).toInt) (((zs).getD (nk_w (l3 + 2)).toNat 0).toInt) S) fun r99 S100 =>
    nk_bd (ja_X13_high l2 (((zs).getD (nk_w (l3 + 1)).toNat 0).toInt) (((zs).getD (nk_w (l3 + 2)).toNat 0).toInt) S100) fun r102 S103 =>
    if r99 = r102 then
      nk_lt (nk_w (l3 + 6)) fun v105 =>
      rec18 l1 l2 v105 S103
    else
      some (0, S103)
    else none
    else none
  else
  if v2 = 11 then
    if 0 ≤ (nk_w (l3 + 1)) ∧ (nk_w (l3 + 1)) < (zs.length : Int) then
    if 0 ≤ (nk_w (l3 + 2)) ∧ (nk_w (l3 + 2)) < (zs.length : Int) then
    nk_bd (ja_X11_sites l1 (((zs).getD (nk_w (l3 + 1)).toNat 0).toInt) (((zs).getD (nk_w (l3 + 2)).toNat 0).toInt) S) fun r109 S110 =>
    nk_bd (ja_X13_sites l2 (((zs).getD (nk_w (l3 + 1)).toNat 0).toInt) (((zs).getD (nk_w (l3 + 2)).toNat 0).toInt) S110) fun r112 S113 =>
    if r109 = r112 then
      nk_lt (nk_w (l3 + 6)) fun v115 =>
      rec18 l1 l2 v115 S113
    else
      some (0, S113)
    else none
    else none
  else
  if v2 = 12 then
    if 0 ≤ (nk_w (l3 + 1)) ∧ (nk_w (l3 + 1)) < (zs.length : Int) then
    if 0 ≤ (nk_w (l3 + 2)) ∧ (nk_w (l3 + 2)) < (zs.length : Int) then
    if 0 ≤ (nk_w (l3 + 3)) ∧ (nk_w (l3 + 3)) < (zs.length : Int) then
    nk_bd (ja_X11_fact l1 (((zs).getD (nk_w (l3 + 1)).toNat 0).toInt) (((zs).getD (nk_w (l3 + 2)).toNat 0).toInt) (((zs).getD (nk_w (l3 + 3)).toNat 0).toInt) S) fun r120 S121 =>
    nk_bd (ja_X13_fact l2 (((zs).getD (nk_w (l3 + 1)).toNat 0).toInt) (((zs).getD (nk_w (l3 + 2)).toNat 0).toInt) (((zs).getD (nk_w (l3 + 3)).toNat 0).toInt) S121) fun r123 S124 =>
    if r120 = r123 then
      nk_lt (nk_w (l3 + 6)) fun v126 =>
      rec18 l1 l2 v126 S124
    else
      some (0, S124)
    else none
    else none
    else none
  else
  if v2 = 13 then
    if 0 ≤ (nk_w (l3 + 1)) ∧ (nk_w (l3 + 1)) < (zs.length : Int) then
    if 0 ≤ (nk_w (l3 + 2)) ∧ (nk_w (l3 + 2)) < (zs.length : Int) then
    nk_bd (ja_X11_lengths l1 (((zs).getD (nk_w (l3 + 1)).toNat 0).toInt) (((zs).getD (nk_w (l3 + 2)).toNat 0).toInt) S) fun r130 S131 =>
    nk_bd (ja_X13_lengths l2 (((zs).getD (nk_w (l3 + 1)).toNat 0).toInt) (((zs).getD (nk_w (l3 + 2)).toNat 0).toInt) S131) fun r133 S134 =>
    if r130 = r133 then
      nk_lt (nk_w (l3 + 6)) fun v136 =>
      rec18 l1 l2 v136 S134
    else
      some (0, S134)
    else none
    else none
  else
  if v2 = 14 then
    if 0 ≤ (nk_w (l3 + 1)) ∧ (nk_w (l3 + 1)) < (zs.length : Int) then
    nk_bd (ja_X11_input l1 (((zs).getD (nk_w (l3 + 1)).toNat 0).toInt) S) fun r139 S140 =>
    nk_bd (ja_X13_input l2 (((zs).getD (nk_w (l3 + 1)).toNat 0).toInt) S140) fun r142 S143 =>
    if r139 = r142 then
      nk_lt (nk_w (l3 + 6)) fun v145 =>
      rec18 l1 l2 v145 S143
    else
      some (0, S143)
    else none
  else
  if v2 = 15 then
    if 0 ≤ (nk_w (l3 + 1)) ∧ (nk_w (l3 + 1)) < (zs.length : Int) then
    nk_bd (ja_X11_run l1 (((zs).getD (nk_w (l3 + 1)).toNat 0).toInt) S) fun r148 S149 =>
    nk_bd (ja_X13_run l2 (((zs).getD (nk_w (l3 + 1)).toNat 0).toInt) S149) fun r151 S152 =>
    if r148 = r151 then
      nk_lt (nk_w (l3 + 6)) fun v154 =>
      rec18 l1 l2 v154 S152
    else
      some (0, S152)
    else none
  else
  if v2 = 16 then
    nk_bd (ja_X11_steps l1 S) fun r156 S157 =>
    nk_bd (ja_X13_steps l2 S157) fun r159 S160 =>
    if r156 = r159 then
      nk_lt (nk_w (l3 + 6)) fun v162 =>
      rec18 l1 l2 v162 S160
    else
      some (0, S160)
  else
  if v2 = 17 then
    nk_bd (ja_X11_place l1 S) fun r164 S165 =>
    nk_bd (ja_X13_place l2 S165) fun r167 S168 =>
    if r164 = r167 then
      nk_lt (nk_w (l3 + 6)) fun v170 =>
      rec18 l1 l2 v170 S168
    else
      some (0, S168)
  else
  if v2 = 18 then
    nk_bd (ja_X11_thrown l1 S) fun r172 S173 =>
    nk_bd (ja_X13_thrown l2 S173) fun r175 S176 =>
    if r172 = r175 then
      nk_lt (nk_w (l3 + 6)) fun v178 =>
      rec18 l1 l2 v178 S176
    else
      some (0, S176)
  else
  if v2 = 19 then
    nk_bd (ja_X11_written l1 S) fun r180 S181 =>
    nk_bd (ja_X13_written l2 S181) fun r183 S184 =>
    if r180 = r183 then
      nk_lt (nk_w (l3 + 6)) fun v186 =>
      rec18 l1 l2 v186 S184
    else
      some (0, S184)
  else
  if v2 = 20 then
    if 0 ≤ (nk_w (l3 + 1)) ∧ (nk_w (l3 + 1)) < (zs.length : Int) then
    nk_bd (ja_X11_out l1 (((zs).getD (nk_w (l3 + 1)).toNat 0).toInt) S) fun r189 S190 =>
    nk_bd (ja_X13_out l2 (((zs).getD (nk_w (l3 + 1)).toNat 0).toInt) S190) fun r192 S193 =>
    if r189 = r192 then
      nk_lt (nk_w (l3 + 6)) fun v195 =>
      rec18 l1 l2 v195 S193
    else
      some (0, S193)
    else none
  else
  if v2 = 21 then
    nk_bd (ja_X11_strays l1 S) fun r197 S198 =>
    nk_bd (ja_X13_strays l2 S198) fun r200 S201 =>
    if r197 = r200 then
      nk_lt (nk_w (l3 + 6)) fun v203 =>
      rec18 l1 l2 v203 S201
    else
      some (0, S201)
  else
  nk_lt (nk_w (l3 + 6)) fun v205 =>
  rec18 l1 l2 v205 S
  else none
theorem ja_L_law_b27_ok (zs : List Int32) {rec18 : Nat → Nat → Int → nk_S → Option (Int × nk_S)} (hrec18 : ∀ (l1 : Nat) (l2 : Nat) (l3 : Int) (S : nk_S) (R : Int × nk_S), nk_cl ja_Tt l1 = some 11 → nk_cl ja_Tt l2 = some 13 → rec18 l1 l2 l3 S = some R → nk_K ja_Tt mi_Γ (mi_ev zs) 1 0 18 [(0, nk_o 0), (1, nk_r l1), (2, nk_r l2), (3, nk_i l3)] [] S R) : ∀ (l1 : Nat) (l2 : Nat) (l3 : Int) (S : nk_S) (R : Int × nk_S), nk_cl ja_Tt l1 = some 11 → nk_cl ja_Tt l2 = some 13 → ja_L_law_b27 zs rec18 l1 l2 l3 S = some R → nk_K ja_Tt mi_Γ (mi_ev zs) 1 0 27 [(0, nk_o 0), (1, nk_r l1), (2, nk_r l2), (3, nk_i l3)] [] S R := by
  intro l1 l2 l3 S R t_l1 t_l2 hr
  unfold ja_L_law_b27 at hr
  refine nk_p (i := .aload_n 0) (len := 1) (pc' := 28) mJ_0 (by decide +kernel) (ns_oload_n 0 rfl rfl) rfl ?_
  refine nk_p (i := .iload_n 3) (len := 1) (pc' := 29) mJ_0 (by decide +kernel) (ns_iload_n 3 rfl rfl) rfl ?_
  obtain ⟨h1, hr⟩ := nk_cke hr
  refine nk_oiald (len := 1) (xs := zs) (N := (zs.length : Int)) (pc' := 30) mJ_0 (by decide +kernel) rfl h1.1 h1.2 rfl rfl ?_
  refine nk_p (i := .bipush 31) (len := 2) (pc' := 32) mJ_0 (by decide +kernel) (ns_bipush (c := 31) (by decide +kernel)) rfl ?_
  refine nk_p (i := .iand) (len := 1) (pc' := 33) mJ_0 (by decide +kernel) ns_iand rfl ?_
  obtain ⟨v2, h3, hr⟩ := nk_lte hr
  rw [← h3]
  by_cases hc0 : v2 = 0
  · have hr := nk_ifp hc0 hr
    refine nk_p (i := .tableswitch 642 0 21 #[103, 166, 189, 202, 215, 238, 261, 285, 299, 332, 365, 398, 432, 475, 508, 531, 554, 567, 580, 593, 606, 629]) (len := 103) (pc' := 136) mJ_0 (by decide +kernel) (ns_tsw (V := 0) hc0 (by decide +kernel)) rfl ?_
    refine nk_p (i := .aload_n 1) (len := 1) (pc' := 137) mJ_0 (by decide +kernel) (ns_aload_n 1 rfl rfl) rfl ?_
    refine nk_p (i := .aload_n 0) (len := 1) (pc' := 138) mJ_0 (by decide +kernel) (ns_oload_n 0 rfl rfl) rfl ?_
    refine nk_p (i := .iload_n 3) (len := 1) (pc' := 139) mJ_0 (by decide +kernel) (ns_iload_n 3 rfl rfl) rfl ?_
    refine nk_p (i := .iconst 1) (len := 1) (pc' := 140) mJ_0 (by decide +kernel) (ns_iconst (c := 1) (by decide +kernel)) rfl ?_
    refine nk_p (i := .iadd) (len := 1) (pc' := 141) mJ_0 (by decide +kernel) ns_iadd rfl ?_
    obtain ⟨h4, hr⟩ := nk_cke hr
    refine nk_oiald (len := 1) (xs := zs) (N := (zs.length : Int)) (pc' := 142) mJ_0 (by decide +kernel) rfl h4.1 h4.2 rfl rfl ?_
    refine nk_p (i := .aload_n 0) (len := 1) (pc' := 143) mJ_0 (by decide +kernel) (ns_oload_n 0 rfl rfl) rfl ?_
    refine nk_p (i := .iload_n 3) (len := 1) (pc' := 144) mJ_0 (by decide +kernel) (ns_iload_n 3 rfl rfl) rfl ?_
    refine nk_p (i := .iconst 2) (len := 1) (pc' := 145) mJ_0 (by decide +kernel) (ns_iconst (c := 2) (by decide +kernel)) rfl ?_
    refine nk_p (i := .iadd) (len := 1) (pc' := 146) mJ_0 (by decide +kernel) ns_iadd rfl ?_
    obtain ⟨h5, hr⟩ := nk_cke hr
    refine nk_oiald (len := 1) (xs := zs) (N := (zs.length : Int)) (pc' := 147) mJ_0 (by decide +kernel) rfl h5.1 h5.2 rfl rfl ?_
    refine nk_p (i := .aload_n 0) (len := 1) (pc' := 148) mJ_0 (by decide +kernel) (ns_oload_n 0 rfl rfl) rfl ?_
    refine nk_p (i := .iload_n 3) (len := 1) (pc' := 149) mJ_0 (by decide +kernel) (ns_iload_n 3 rfl rfl) rfl ?_
    refine nk_p (i := .iconst 3) (len := 1) (pc' := 150) mJ_0 (by decide +kernel) (ns_iconst (c := 3) (by decide +kernel)) rfl ?_
    refine nk_p (i := .iadd) (len := 1) (pc' := 151) mJ_0 (by decide +kernel) ns_iadd rfl ?_
    obtain ⟨h6, hr⟩ := nk_cke hr
    refine nk_oiald (len := 1) (xs := zs) (N := (zs.length : Int)) (pc' := 152) mJ_0 (by decide +kernel) rfl h6.1 h6.2 rfl rfl ?_
    refine nk_p (i := .aload_n 0) (len := 1) (pc' := 153) mJ_0 (by decide +kernel) (ns_oload_n 0 rfl rfl) rfl ?_
    refine nk_p (i := .iload_n 3) (len := 1) (pc' := 154) mJ_0 (by decide +kernel) (ns_iload_n 3 rfl rfl) rfl ?_
    refine nk_p (i := .iconst 4) (len := 1) (pc' := 155) mJ_0 (by decide +kernel) (ns_iconst (c := 4) (by decide +kernel)) rfl ?_
    refine nk_p (i := .iadd) (len := 1) (pc' := 156) mJ_0 (by decide +kernel) ns_iadd rfl ?_
    obtain ⟨h7, hr⟩ := nk_cke hr
    refine nk_oiald (len := 1) (xs := zs) (N := (zs.length : Int)) (pc' := 157) mJ_0 (by decide +kernel) rfl h7.1 h7.2 rfl rfl ?_
    refine nk_p (i := .aload_n 0) (len := 1) (pc' := 158) mJ_0 (by decide +kernel) (ns_oload_n 0 rfl rfl) rfl ?_
    refine nk_p (i := .iload_n 3) (len := 1) (pc' := 159) mJ_0 (by decide +kernel) (ns_iload_n 3 rfl rfl) rfl ?_
    refine nk_p (i := .iconst 5) (len := 1) (pc' := 160) mJ_0 (by decide +kernel) (ns_iconst (c := 5) (by decide +kernel)) rfl ?_
    refine nk_p (i := .iadd) (len := 1) (pc' := 161) mJ_0 (by decide +kernel) ns_iadd rfl ?_
    obtain ⟨h8, hr⟩ := nk_cke hr
    refine nk_oiald (len := 1) (xs := zs) (N := (zs.length : Int)) (pc' := 162) mJ_0 (by decide +kernel) rfl h8.1 h8.2 rfl rfl ?_
    obtain ⟨r9, S10, h11, hr⟩ := nk_bde hr
    refine nk_callV (ci := 11) (n := 5) (x := 13) (len := 3) (j' := 59) (q' := 1) (r := r9) (S' := S10) (L2 := [(0, nk_r l1), (1, nk_i ((zs).getD (nk_w (l3 + 1)).toNat 0).toInt), (2, nk_i ((zs).getD (nk_w (l3 + 2)).toNat 0).toInt), (3, nk_i ((zs).getD (nk_w (l3 + 3)).toNat 0).toInt), (4, nk_i ((zs).getD (nk_w (l3 + 4)).toNat 0).toInt), (5, nk_i ((zs).getD (nk_w (l3 + 5)).toNat 0).toInt)]) (rest := []) (st' := [nk_i r9]) (pc' := 165) mJ_0 (by decide +kernel) (by decide +kernel) rfl rfl t_l1 (Nat.le_of_ble_eq_true rfl) mJ_59 (Nat.le_of_ble_eq_true rfl) rfl (ja_X11_feed_ok zs _ _ _ _ _ _ _ _ t_l1 h11) rfl ?_
    refine nk_p (i := .aload_n 2) (len := 1) (pc' := 166) mJ_0 (by decide +kernel) (ns_aload_n 2 rfl rfl) rfl ?_
    refine nk_p (i := .aload_n 0) (len := 1) (pc' := 167) mJ_0 (by decide +kernel) (ns_oload_n 0 rfl rfl) rfl ?_
    refine nk_p (i := .iload_n 3) (len := 1) (pc' := 168) mJ_0 (by decide +kernel) (ns_iload_n 3 rfl rfl) rfl ?_
    refine nk_p (i := .iconst 1) (len := 1) (pc' := 169) mJ_0 (by decide +kernel) (ns_iconst (c := 1) (by decide +kernel)) rfl ?_
    refine nk_p (i := .iadd) (len := 1) (pc' := 170) mJ_0 (by decide +kernel) ns_iadd rfl ?_
    refine nk_oiald (len := 1) (xs := zs) (N := (zs.length : Int)) (pc' := 171) mJ_0 (by decide +kernel) rfl h4.1 h4.2 rfl rfl ?_
    refine nk_p (i := .aload_n 0) (len := 1) (pc' := 172) mJ_0 (by decide +kernel) (ns_oload_n 0 rfl rfl) rfl ?_
    refine nk_p (i := .iload_n 3) (len := 1) (pc' := 173) mJ_0 (by decide +kernel) (ns_iload_n 3 rfl rfl) rfl ?_
    refine nk_p (i := .iconst 2) (len := 1) (pc' := 174) mJ_0 (by decide +kernel) (ns_iconst (c := 2) (by decide +kernel)) rfl ?_
    refine nk_p (i := .iadd) (len := 1) (pc' := 175) mJ_0 (by decide +kernel) ns_iadd rfl ?_
    refine nk_oiald (len := 1) (xs := zs) (N := (zs.length : Int)) (pc' := 176) mJ_0 (by decide +kernel) rfl h5.1 h5.2 rfl rfl ?_
    refine nk_p (i := .aload_n 0) (len := 1) (pc' := 177) mJ_0 (by decide +kernel) (ns_oload_n 0 rfl rfl) rfl ?_
    refine nk_p (i := .iload_n 3) (len := 1) (pc' := 178) mJ_0 (by decide +kernel) (ns_iload_n 3 rfl rfl) rfl ?_
    refine nk_p (i := .iconst 3) (len := 1) (pc' := 179) mJ_0 (by decide +kernel) (ns_iconst (c := 3) (by decide +kernel)) rfl ?_
    refine nk_p (i := .iadd) (len := 1) (pc' := 180) mJ_0 (by decide +kernel) ns_iadd rfl ?_
    refine nk_oiald (len := 1) (xs := zs) (N := (zs.length : Int)) (pc' := 181) mJ_0 (by decide +kernel) rfl h6.1 h6.2 rfl rfl ?_
    refine nk_p (i := .aload_n 0) (len := 1) (pc' := 182) mJ_0 (by decide +kernel) (ns_oload_n 0 rfl rfl) rfl ?_
    refine nk_p (i := .iload_n 3) (len := 1) (pc' := 183) mJ_0 (by decide +kernel) (ns_iload_n 3 rfl rfl) rfl ?_
    refine nk_p (i := .iconst 4) (len := 1) (pc' := 184) mJ_0 (by decide +kernel) (ns_iconst (c := 4) (by decide +kernel)) rfl ?_
    refine nk_p (i := .iadd) (len := 1) (pc' := 185) mJ_0 (by decide +kernel) ns_iadd rfl ?_
    refine nk_oiald (len := 1) (xs := zs) (N := (zs.length : Int)) (pc' := 186) mJ_0 (by decide +kernel) rfl h7.1 h7.2 rfl rfl ?_
    refine nk_p (i := .aload_n 0) (len := 1) (pc' := 187) mJ_0 (by decide +kernel) (ns_oload_n 0 rfl rfl) rfl ?_
    refine nk_p (i := .iload_n 3) (len := 1) (pc' := 188) mJ_0 (by decide +kernel) (ns_iload_n 3 rfl rfl) rfl ?_
    refine nk_p (i := .iconst 5) (len := 1) (pc' := 189) mJ_0 (by decide +kernel) (ns_iconst (c := 5) (by decide +kernel)) rfl ?_
    refine nk_p (i := .iadd) (len := 1) (pc' := 190) mJ_0 (by decide +kernel) ns_iadd rfl ?_
    refine nk_oiald (len := 1) (xs := zs) (N := (zs.length : Int)) (pc' := 191) mJ_0 (by decide +kernel) rfl h8.1 h8.2 rfl rfl ?_
    obtain ⟨r12, S13, h14, hr⟩ := nk_bde hr
    refine nk_callV (ci := 13) (n := 5) (x := 17) (len := 3) (j' := 119) (q' := 1) (r := r12) (S' := S13) (L2 := [(0, nk_r l2), (1, nk_i ((zs).getD (nk_w (l3 + 1)).toNat 0).toInt), (2, nk_i ((zs).getD (nk_w (l3 + 2)).toNat 0).toInt), (3, nk_i ((zs).getD (nk_w (l3 + 3)).toNat 0).toInt), (4, nk_i ((zs).getD (nk_w (l3 + 4)).toNat 0).toInt), (5, nk_i ((zs).getD (nk_w (l3 + 5)).toNat 0).toInt)]) (rest := [nk_i r9]) (st' := [nk_i r12, nk_i r9]) (pc' := 194) mJ_0 (by decide +kernel) (by decide +kernel) rfl rfl t_l2 (Nat.le_of_ble_eq_true rfl) mJ_119 (Nat.le_of_ble_eq_true rfl) rfl (ja_X13_feed_ok zs _ _ _ _ _ _ _ _ t_l2 h14) rfl ?_
    refine nk_icmp (c := .eq) (off := 481) (len := 3) (t := 675) (pc' := 197) mJ_0 (by decide +kernel) (by decide +kernel) rfl (fun hc => ?_) (fun hc => ?_)
    · have hr := nk_ifp (c := r9 = r12) hc hr
      obtain ⟨v15, h16, hr⟩ := nk_lte hr
      refine nk_p (i := .iinc 3 6) (len := 3) (pc' := 678) mJ_0 (by decide +kernel) (ns_iinc (c := 6) (L' := [(3, nk_i v15), (0, nk_o 0), (1, nk_r l1), (2, nk_r l2)]) 3 rfl (by decide +kernel) h16 rfl (by decide +kernel)) rfl ?_
      refine nk_p (i := .goto (-660)) (len := 3) (pc' := 18) mJ_0 (by decide +kernel) (ns_goto (by decide +kernel)) rfl ?_
      refine nk_sub [1, 2, 3, 0] (L' := [(0, nk_o 0), (1, nk_r l1), (2, nk_r l2), (3, nk_i v15)]) rfl ?_
      exact hrec18 _ _ _ _ _ t_l1 t_l2 hr
    · have hr := nk_ifn (c := r9 = r12) hc hr
      refine nk_p (i := .iconst 0) (len := 1) (pc' := 198) mJ_0 (by decide +kernel) (ns_iconst (c := 0) (by decide +kernel)) rfl ?_
      cases hr
      exact nk_iret (ty := .boolean) (len := 1) mJ_0 (by decide +kernel) rfl (nk_nar_z (by decide))
  have hr := nk_ifn hc0 hr
  by_cases hc1 : v2 = 1
  · have hr := nk_ifp hc1 hr
    refine nk_p (i := .tableswitch 642 0 21 #[103, 166, 189, 202, 215, 238, 261, 285, 299, 332, 365, 398, 432, 475, 508, 531, 554, 567, 580, 593, 606, 629]) (len := 103) (pc' := 199) mJ_0 (by decide +kernel) (ns_tsw (V := 1) hc1 (by decide +kernel)) rfl ?_
    refine nk_p (i := .aload_n 1) (len := 1) (pc' := 200) mJ_0 (by decide +kernel) (ns_aload_n 1 rfl rfl) rfl ?_
    refine nk_p (i := .aload_n 0) (len := 1) (pc' := 201) mJ_0 (by decide +kernel) (ns_oload_n 0 rfl rfl) rfl ?_
    refine nk_p (i := .iload_n 3) (len := 1) (pc' := 202) mJ_0 (by decide +kernel) (ns_iload_n 3 rfl rfl) rfl ?_
    refine nk_p (i := .iconst 1) (len := 1) (pc' := 203) mJ_0 (by decide +kernel) (ns_iconst (c := 1) (by decide +kernel)) rfl ?_
    refine nk_p (i := .iadd) (len := 1) (pc' := 204) mJ_0 (by decide +kernel) ns_iadd rfl ?_
    obtain ⟨h17, hr⟩ := nk_cke hr
    refine nk_oiald (len := 1) (xs := zs) (N := (zs.length : Int)) (pc' := 205) mJ_0 (by decide +kernel) rfl h17.1 h17.2 rfl rfl ?_
    obtain ⟨r18, S19, h20, hr⟩ := nk_bde hr
    refine nk_callV (ci := 11) (n := 1) (x := 18) (len := 3) (j' := 52) (q' := 1) (r := r18) (S' := S19) (L2 := [(0, nk_r l1), (1, nk_i ((zs).getD (nk_w (l3 + 1)).toNat 0).toInt)]) (rest := []) (st' := [nk_i r18]) (pc' := 208) mJ_0 (by decide +kernel) (by decide +kernel) rfl rfl t_l1 (Nat.le_of_ble_eq_true rfl) mJ_52 (Nat.le_of_ble_eq_true rfl) rfl (ja_X11_end_ok zs _ _ _ _ t_l1 h20) rfl ?_
    refine nk_p (i := .aload_n 2) (len := 1) (pc' := 209) mJ_0 (by decide +kernel) (ns_aload_n 2 rfl rfl) rfl ?_
    refine nk_p (i := .aload_n 0) (len := 1) (pc' := 210) mJ_0 (by decide +kernel) (ns_oload_n 0 rfl rfl) rfl ?_
    refine nk_p (i := .iload_n 3) (len := 1) (pc' := 211) mJ_0 (by decide +kernel) (ns_iload_n 3 rfl rfl) rfl ?_
    refine nk_p (i := .iconst 1) (len := 1) (pc' := 212) mJ_0 (by decide +kernel) (ns_iconst (c := 1) (by decide +kernel)) rfl ?_
    refine nk_p (i := .iadd) (len := 1) (pc' := 213) mJ_0 (by decide +kernel) ns_iadd rfl ?_
    refine nk_oiald (len := 1) (xs := zs) (N := (zs.length : Int)) (pc' := 214) mJ_0 (by decide +kernel) rfl h17.1 h17.2 rfl rfl ?_
    obtain ⟨r21, S22, h23, hr⟩ := nk_bde hr
    refine nk_callV (ci := 13) (n := 1) (x := 22) (len := 3) (j' := 110) (q' := 1) (r := r21) (S' := S22) (L2 := [(0, nk_r l2), (1, nk_i ((zs).getD (nk_w (l3 + 1)).toNat 0).toInt)]) (rest := [nk_i r18]) (st' := [nk_i r21, nk_i r18]) (pc' := 217) mJ_0 (by decide +kernel) (by decide +kernel) rfl rfl t_l2 (Nat.le_of_ble_eq_true rfl) mJ_110 (Nat.le_of_ble_eq_true rfl) rfl (ja_X13_end_ok zs _ _ _ _ t_l2 h23) rfl ?_
    refine nk_icmp (c := .eq) (off := 458) (len := 3) (t := 675) (pc' := 220) mJ_0 (by decide +kernel) (by decide +kernel) rfl (fun hc => ?_) (fun hc => ?_)
    · have hr := nk_ifp (c := r18 = r21) hc hr
      obtain ⟨v24, h25, hr⟩ := nk_lte hr
      refine nk_p (i := .iinc 3 6) (len := 3) (pc' := 678) mJ_0 (by decide +kernel) (ns_iinc (c := 6) (L' := [(3, nk_i v24), (0, nk_o 0), (1, nk_r l1), (2, nk_r l2)]) 3 rfl (by decide +kernel) h25 rfl (by decide +kernel)) rfl ?_
      refine nk_p (i := .goto (-660)) (len := 3) (pc' := 18) mJ_0 (by decide +kernel) (ns_goto (by decide +kernel)) rfl ?_
      refine nk_sub [1, 2, 3, 0] (L' := [(0, nk_o 0), (1, nk_r l1), (2, nk_r l2), (3, nk_i v24)]) rfl ?_
      exact hrec18 _ _ _ _ _ t_l1 t_l2 hr
    · have hr := nk_ifn (c := r18 = r21) hc hr
      refine nk_p (i := .iconst 0) (len := 1) (pc' := 221) mJ_0 (by decide +kernel) (ns_iconst (c := 0) (by decide +kernel)) rfl ?_
      cases hr
      exact nk_iret (ty := .boolean) (len := 1) mJ_0 (by decide +kernel) rfl (nk_nar_z (by decide))
  have hr := nk_ifn hc1 hr
  by_cases hc2 : v2 = 2
  · have hr := nk_ifp hc2 hr
    refine nk_p (i := .tableswitch 642 0 21 #[103, 166, 189, 202, 215, 238, 261, 285, 299, 332, 365, 398, 432, 475, 508, 531, 554, 567, 580, 593, 606, 629]) (len := 103) (pc' := 222) mJ_0 (by decide +kernel) (ns_tsw (V := 2) hc2 (by decide +kernel)) rfl ?_
    refine nk_p (i := .aload_n 1) (len := 1) (pc' := 223) mJ_0 (by decide +kernel) (ns_aload_n 1 rfl rfl) rfl ?_
    obtain ⟨r26, S27, h28, hr⟩ := nk_bde hr
    refine nk_callV (ci := 11) (n := 0) (x := 23) (len := 3) (j' := 67) (q' := 1) (r := r26) (S' := S27) (L2 := [(0, nk_r l1)]) (rest := []) (st' := [nk_i r26]) (pc' := 226) mJ_0 (by decide +kernel) (by decide +kernel) rfl rfl t_l1 (Nat.le_of_ble_eq_true rfl) mJ_67 (Nat.le_of_ble_eq_true rfl) rfl (ja_X11_load_ok zs _ _ _ t_l1 h28) rfl ?_
    refine nk_p (i := .aload_n 2) (len := 1) (pc' := 227) mJ_0 (by decide +kernel) (ns_aload_n 2 rfl rfl) rfl ?_
    obtain ⟨r29, S30, h31, hr⟩ := nk_bde hr
    refine nk_callV (ci := 13) (n := 0) (x := 27) (len := 3) (j' := 184) (q' := 1) (r := r29) (S' := S30) (L2 := [(0, nk_r l2)]) (rest := [nk_i r26]) (st' := [nk_i r29, nk_i r26]) (pc' := 230) mJ_0 (by decide +kernel) (by decide +kernel) rfl rfl t_l2 (Nat.le_of_ble_eq_true rfl) mJ_184 (Nat.le_of_ble_eq_true rfl) rfl (ja_X13_load_ok zs _ _ _ t_l2 h31) rfl ?_
    refine nk_icmp (c := .eq) (off := 445) (len := 3) (t := 675) (pc' := 233) mJ_0 (by decide +kernel) (by decide +kernel) rfl (fun hc => ?_) (fun hc => ?_)
    · have hr := nk_ifp (c := r26 = r29) hc hr
      obtain ⟨v32, h33, hr⟩ := nk_lte hr
      refine nk_p (i := .iinc 3 6) (len := 3) (pc' := 678) mJ_0 (by decide +kernel) (ns_iinc (c := 6) (L' := [(3, nk_i v32), (0, nk_o 0), (1, nk_r l1), (2, nk_r l2)]) 3 rfl (by decide +kernel) h33 rfl (by decide +kernel)) rfl ?_
      refine nk_p (i := .goto (-660)) (len := 3) (pc' := 18) mJ_0 (by decide +kernel) (ns_goto (by decide +kernel)) rfl ?_
      refine nk_sub [1, 2, 3, 0] (L' := [(0, nk_o 0), (1, nk_r l1), (2, nk_r l2), (3, nk_i v32)]) rfl ?_
      exact hrec18 _ _ _ _ _ t_l1 t_l2 hr
    · have hr := nk_ifn (c := r26 = r29) hc hr
      refine nk_p (i := .iconst 0) (len := 1) (pc' := 234) mJ_0 (by decide +kernel) (ns_iconst (c := 0) (by decide +kernel)) rfl ?_
      cases hr
      exact nk_iret (ty := .boolean) (len := 1) mJ_0 (by decide +kernel) rfl (nk_nar_z (by decide))
  have hr := nk_ifn hc2 hr
  by_cases hc3 : v2 = 3
  · have hr := nk_ifp hc3 hr
    refine nk_p (i := .tableswitch 642 0 21 #[103, 166, 189, 202, 215, 238, 261, 285, 299, 332, 365, 398, 432, 475, 508, 531, 554, 567, 580, 593, 606, 629]) (len := 103) (pc' := 235) mJ_0 (by decide +kernel) (ns_tsw (V := 3) hc3 (by decide +kernel)) rfl ?_
    refine nk_p (i := .aload_n 1) (len := 1) (pc' := 236) mJ_0 (by decide +kernel) (ns_aload_n 1 rfl rfl) rfl ?_
    obtain ⟨r34, S35, h36, hr⟩ := nk_bde hr
    refine nk_callV (ci := 11) (n := 0) (x := 28) (len := 3) (j' := 58) (q' := 1) (r := r34) (S' := S35) (L2 := [(0, nk_r l1)]) (rest := []) (st' := [nk_i r34]) (pc' := 239) mJ_0 (by decide +kernel) (by decide +kernel) rfl rfl t_l1 (Nat.le_of_ble_eq_true rfl) mJ_58 (Nat.le_of_ble_eq_true rfl) rfl (ja_X11_faultAt_ok zs _ _ _ t_l1 h36) rfl ?_
    refine nk_p (i := .aload_n 2) (len := 1) (pc' := 240) mJ_0 (by decide +kernel) (ns_aload_n 2 rfl rfl) rfl ?_
    obtain ⟨r37, S38, h39, hr⟩ := nk_bde hr
    refine nk_callV (ci := 13) (n := 0) (x := 31) (len := 3) (j' := 118) (q' := 1) (r := r37) (S' := S38) (L2 := [(0, nk_r l2)]) (rest := [nk_i r34]) (st' := [nk_i r37, nk_i r34]) (pc' := 243) mJ_0 (by decide +kernel) (by decide +kernel) rfl rfl t_l2 (Nat.le_of_ble_eq_true rfl) mJ_118 (Nat.le_of_ble_eq_true rfl) rfl (ja_X13_faultAt_ok zs _ _ _ t_l2 h39) rfl ?_
    refine nk_icmp (c := .eq) (off := 432) (len := 3) (t := 675) (pc' := 246) mJ_0 (by decide +kernel) (by decide +kernel) rfl (fun hc => ?_) (fun hc => ?_)
    · have hr := nk_ifp (c := r34 = r37) hc hr
      obtain ⟨v40, h41, hr⟩ := nk_lte hr
      refine nk_p (i := .iinc 3 6) (len := 3) (pc' := 678) mJ_0 (by decide +kernel) (ns_iinc (c := 6) (L' := [(3, nk_i v40), (0, nk_o 0), (1, nk_r l1), (2, nk_r l2)]) 3 rfl (by decide +kernel) h41 rfl (by decide +kernel)) rfl ?_
      refine nk_p (i := .goto (-660)) (len := 3) (pc' := 18) mJ_0 (by decide +kernel) (ns_goto (by decide +kernel)) rfl ?_
      refine nk_sub [1, 2, 3, 0] (L' := [(0, nk_o 0), (1, nk_r l1), (2, nk_r l2), (3, nk_i v40)]) rfl ?_
      exact hrec18 _ _ _ _ _ t_l1 t_l2 hr
    · have hr := nk_ifn (c := r34 = r37) hc hr
      refine nk_p (i := .iconst 0) (len := 1) (pc' := 247) mJ_0 (by decide +kernel) (ns_iconst (c := 0) (by decide +kernel)) rfl ?_
      cases hr
      exact nk_iret (ty := .boolean) (len := 1) mJ_0 (by decide +kernel) rfl (nk_nar_z (by decide))
  have hr := nk_ifn hc3 hr
  by_cases hc4 : v2 = 4
  · have hr := nk_ifp hc4 hr
    refine nk_p (i := .tableswitch 642 0 21 #[103, 166, 189, 202, 215, 238, 261, 285, 299, 332, 365, 398, 432, 475, 508, 531, 554, 567, 580, 593, 606, 629]) (len := 103) (pc' := 248) mJ_0 (by decide +kernel) (ns_tsw (V := 4) hc4 (by decide +kernel)) rfl ?_
    refine nk_p (i := .aload_n 1) (len := 1) (pc' := 249) mJ_0 (by decide +kernel) (ns_aload_n 1 rfl rfl) rfl ?_
    refine nk_p (i := .aload_n 0) (len := 1) (pc' := 250) mJ_0 (by decide +kernel) (ns_oload_n 0 rfl rfl) rfl ?_
    refine nk_p (i := .iload_n 3) (len := 1) (pc' := 251) mJ_0 (by decide +kernel) (ns_iload_n 3 rfl rfl) rfl ?_
    refine nk_p (i := .iconst 1) (len := 1) (pc' := 252) mJ_0 (by decide +kernel) (ns_iconst (c := 1) (by decide +kernel)) rfl ?_
    refine nk_p (i := .iadd) (len := 1) (pc' := 253) mJ_0 (by decide +kernel) ns_iadd rfl ?_
    obtain ⟨h42, hr⟩ := nk_cke hr
    refine nk_oiald (len := 1) (xs := zs) (N := (zs.length : Int)) (pc' := 254) mJ_0 (by decide +kernel) rfl h42.1 h42.2 rfl rfl ?_
    obtain ⟨r43, S44, h45, hr⟩ := nk_bde hr
    refine nk_callV (ci := 11) (n := 1) (x := 32) (len := 3) (j' := 73) (q' := 1) (r := r43) (S' := S44) (L2 := [(0, nk_r l1), (1, nk_i ((zs).getD (nk_w (l3 + 1)).toNat 0).toInt)]) (rest := []) (st' := [nk_i r43]) (pc' := 257) mJ_0 (by decide +kernel) (by decide +kernel) rfl rfl t_l1 (Nat.le_of_ble_eq_true rfl) mJ_73 (Nat.le_of_ble_eq_true rfl) rfl (ja_X11_size_ok zs _ _ _ _ t_l1 h45) rfl ?_
    refine nk_p (i := .aload_n 2) (len := 1) (pc' := 258) mJ_0 (by decide +kernel) (ns_aload_n 2 rfl rfl) rfl ?_
    refine nk_p (i := .aload_n 0) (len := 1) (pc' := 259) mJ_0 (by decide +kernel) (ns_oload_n 0 rfl rfl) rfl ?_
    refine nk_p (i := .iload_n 3) (len := 1) (pc' := 260) mJ_0 (by decide +kernel) (ns_iload_n 3 rfl rfl) rfl ?_
    refine nk_p (i := .iconst 1) (len := 1) (pc' := 261) mJ_0 (by decide +kernel) (ns_iconst (c := 1) (by decide +kernel)) rfl ?_
    refine nk_p (i := .iadd) (len := 1) (pc' := 262) mJ_0 (by decide +kernel) ns_iadd rfl ?_
    refine nk_oiald (len := 1) (xs := zs) (N := (zs.length : Int)) (pc' := 263) mJ_0 (by decide +kernel) rfl h42.1 h42.2 rfl rfl ?_
    obtain ⟨r46, S47, h48, hr⟩ := nk_bde hr
    refine nk_callV (ci := 13) (n := 1) (x := 36) (len := 3) (j' := 226) (q' := 1) (r := r46) (S' := S47) (L2 := [(0, nk_r l2), (1, nk_i ((zs).getD (nk_w (l3 + 1)).toNat 0).toInt)]) (rest := [nk_i r43]) (st' := [nk_i r46, nk_i r43]) (pc' := 266) mJ_0 (by decide +kernel) (by decide +kernel) rfl rfl t_l2 (Nat.le_of_ble_eq_true rfl) mJ_226 (Nat.le_of_ble_eq_true rfl) rfl (ja_X13_size_ok zs _ _ _ _ t_l2 h48) rfl ?_
    refine nk_icmp (c := .eq) (off := 409) (len := 3) (t := 675) (pc' := 269) mJ_0 (by decide +kernel) (by decide +kernel) rfl (fun hc => ?_) (fun hc => ?_)
    · have hr := nk_ifp (c := r43 = r46) hc hr
      obtain ⟨v49, h50, hr⟩ := nk_lte hr
      refine nk_p (i := .iinc 3 6) (len := 3) (pc' := 678) mJ_0 (by decide +kernel) (ns_iinc (c := 6) (L' := [(3, nk_i v49), (0, nk_o 0), (1, nk_r l1), (2, nk_r l2)]) 3 rfl (by decide +kernel) h50 rfl (by decide +kernel)) rfl ?_
      refine nk_p (i := .goto (-660)) (len := 3) (pc' := 18) mJ_0 (by decide +kernel) (ns_goto (by decide +kernel)) rfl ?_
      refine nk_sub [1, 2, 3, 0] (L' := [(0, nk_o 0), (1, nk_r l1), (2, nk_r l2), (3, nk_i v49)]) rfl ?_
      exact hrec18 _ _ _ _ _ t_l1 t_l2 hr
    · have hr := nk_ifn (c := r43 = r46) hc hr
      refine nk_p (i := .iconst 0) (len := 1) (pc' := 270) mJ_0 (by decide +kernel) (ns_iconst (c := 0) (by decide +kernel)) rfl ?_
      cases hr
      exact nk_iret (ty := .boolean) (len := 1) mJ_0 (by decide +kernel) rfl (nk_nar_z (by decide))
  have hr := nk_ifn hc4 hr
  by_cases hc5 : v2 = 5
  · have hr := nk_ifp hc5 hr
    refine nk_p (i := .tableswitch 642 0 21 #[103, 166, 189, 202, 215, 238, 261, 285, 299, 332, 365, 398, 432, 475, 508, 531, 554, 567, 580, 593, 606, 629]) (len := 103) (pc' := 271) mJ_0 (by decide +kernel) (ns_tsw (V := 5) hc5 (by decide +kernel)) rfl ?_
    refine nk_p (i := .aload_n 1) (len := 1) (pc' := 272) mJ_0 (by decide +kernel) (ns_aload_n 1 rfl rfl) rfl ?_
    refine nk_p (i := .aload_n 0) (len := 1) (pc' := 273) mJ_0 (by decide +kernel) (ns_oload_n 0 rfl rfl) rfl ?_
    refine nk_p (i := .iload_n 3) (len := 1) (pc' := 274) mJ_0 (by decide +kernel) (ns_iload_n 3 rfl rfl) rfl ?_
    refine nk_p (i := .iconst 1) (len := 1) (pc' := 275) mJ_0 (by decide +kernel) (ns_iconst (c := 1) (by decide +kernel)) rfl ?_
    refine nk_p (i := .iadd) (len := 1) (pc' := 276) mJ_0 (by decide +kernel) ns_iadd rfl ?_
    obtain ⟨h51, hr⟩ := nk_cke hr
    refine nk_oiald (len := 1) (xs := zs) (N := (zs.length : Int)) (pc' := 277) mJ_0 (by decide +kernel) rfl h51.1 h51.2 rfl rfl ?_
    obtain ⟨r52, S53, h54, hr⟩ := nk_bde hr
    refine nk_callV (ci := 11) (n := 1) (x := 37) (len := 3) (j' := 54) (q' := 1) (r := r52) (S' := S53) (L2 := [(0, nk_r l1), (1, nk_i ((zs).getD (nk_w (l3 + 1)).toNat 0).toInt)]) (rest := []) (st' := [nk_i r52]) (pc' := 280) mJ_0 (by decide +kernel) (by decide +kernel) rfl rfl t_l1 (Nat.le_of_ble_eq_true rfl) mJ_54 (Nat.le_of_ble_eq_true rfl) rfl (ja_X11_errors_ok zs _ _ _ _ t_l1 h54) rfl ?_
    refine nk_p (i := .aload_n 2) (len := 1) (pc' := 281) mJ_0 (by decide +kernel) (ns_aload_n 2 rfl rfl) rfl ?_
    refine nk_p (i := .aload_n 0) (len := 1) (pc' := 282) mJ_0 (by decide +kernel) (ns_oload_n 0 rfl rfl) rfl ?_
    refine nk_p (i := .iload_n 3) (len := 1) (pc' := 283) mJ_0 (by decide +kernel) (ns_iload_n 3 rfl rfl) rfl ?_
    refine nk_p (i := .iconst 1) (len := 1) (pc' := 284) mJ_0 (by decide +kernel) (ns_iconst (c := 1) (by decide +kernel)) rfl ?_
    refine nk_p (i := .iadd) (len := 1) (pc' := 285) mJ_0 (by decide +kernel) ns_iadd rfl ?_
    refine nk_oiald (len := 1) (xs := zs) (N := (zs.length : Int)) (pc' := 286) mJ_0 (by decide +kernel) rfl h51.1 h51.2 rfl rfl ?_
    obtain ⟨r55, S56, h57, hr⟩ := nk_bde hr
    refine nk_callV (ci := 13) (n := 1) (x := 40) (len := 3) (j' := 114) (q' := 1) (r := r55) (S' := S56) (L2 := [(0, nk_r l2), (1, nk_i ((zs).getD (nk_w (l3 + 1)).toNat 0).toInt)]) (rest := [nk_i r52]) (st' := [nk_i r55, nk_i r52]) (pc' := 289) mJ_0 (by decide +kernel) (by decide +kernel) rfl rfl t_l2 (Nat.le_of_ble_eq_true rfl) mJ_114 (Nat.le_of_ble_eq_true rfl) rfl (ja_X13_errors_ok zs _ _ _ _ t_l2 h57) rfl ?_
    refine nk_icmp (c := .eq) (off := 386) (len := 3) (t := 675) (pc' := 292) mJ_0 (by decide +kernel) (by decide +kernel) rfl (fun hc => ?_) (fun hc => ?_)
    · have hr := nk_ifp (c := r52 = r55) hc hr
      obtain ⟨v58, h59, hr⟩ := nk_lte hr
      refine nk_p (i := .iinc 3 6) (len := 3) (pc' := 678) mJ_0 (by decide +kernel) (ns_iinc (c := 6) (L' := [(3, nk_i v58), (0, nk_o 0), (1, nk_r l1), (2, nk_r l2)]) 3 rfl (by decide +kernel) h59 rfl (by decide +kernel)) rfl ?_
      refine nk_p (i := .goto (-660)) (len := 3) (pc' := 18) mJ_0 (by decide +kernel) (ns_goto (by decide +kernel)) rfl ?_
      refine nk_sub [1, 2, 3, 0] (L' := [(0, nk_o 0), (1, nk_r l1), (2, nk_r l2), (3, nk_i v58)]) rfl ?_
      exact hrec18 _ _ _ _ _ t_l1 t_l2 hr
    · have hr := nk_ifn (c := r52 = r55) hc hr
      refine nk_p (i := .iconst 0) (len := 1) (pc' := 293) mJ_0 (by decide +kernel) (ns_iconst (c := 0) (by decide +kernel)) rfl ?_
      cases hr
      exact nk_iret (ty := .boolean) (len := 1) mJ_0 (by decide +kernel) rfl (nk_nar_z (by decide))
  have hr := nk_ifn hc5 hr
  by_cases hc6 : v2 = 6
  · have hr := nk_ifp hc6 hr
    refine nk_p (i := .tableswitch 642 0 21 #[103, 166, 189, 202, 215, 238, 261, 285, 299, 332, 365, 398, 432, 475, 508, 531, 554, 567, 580, 593, 606, 629]) (len := 103) (pc' := 294) mJ_0 (by decide +kernel) (ns_tsw (V := 6) hc6 (by decide +kernel)) rfl ?_
    refine nk_p (i := .aload_n 1) (len := 1) (pc' := 295) mJ_0 (by decide +kernel) (ns_aload_n 1 rfl rfl) rfl ?_
    refine nk_p (i := .aload_n 0) (len := 1) (pc' := 296) mJ_0 (by decide +kernel) (ns_oload_n 0 rfl rfl) rfl ?_
    refine nk_p (i := .iload_n 3) (len := 1) (pc' := 297) mJ_0 (by decide +kernel) (ns_iload_n 3 rfl rfl) rfl ?_
    refine nk_p (i := .iconst 1) (len := 1) (pc' := 298) mJ_0 (by decide +kernel) (ns_iconst (c := 1) (by decide +kernel)) rfl ?_
    refine nk_p (i := .iadd) (len := 1) (pc' := 299) mJ_0 (by decide +kernel) ns_iadd rfl ?_
    obtain ⟨h60, hr⟩ := nk_cke hr
    refine nk_oiald (len := 1) (xs := zs) (N := (zs.length : Int)) (pc' := 300) mJ_0 (by decide +kernel) rfl h60.1 h60.2 rfl rfl ?_
    obtain ⟨r61, S62, h63, hr⟩ := nk_bde hr
    refine nk_callV (ci := 11) (n := 1) (x := 41) (len := 3) (j' := 55) (q' := 2) (r := r61) (S' := S62) (L2 := [(0, nk_r l1), (1, nk_i ((zs).getD (nk_w (l3 + 1)).toNat 0).toInt)]) (rest := []) (st' := [nk_l r61]) (pc' := 303) mJ_0 (by decide +kernel) (by decide +kernel) rfl rfl t_l1 (Nat.le_of_ble_eq_true rfl) mJ_55 (Nat.le_of_ble_eq_true rfl) rfl (ja_X11_escapes_ok zs _ _ _ _ t_l1 h63) rfl ?_
    refine nk_p (i := .aload_n 2) (len := 1) (pc' := 304) mJ_0 (by decide +kernel) (ns_aload_n 2 rfl rfl) rfl ?_
    refine nk_p (i := .aload_n 0) (len := 1) (pc' := 305) mJ_0 (by decide +kernel) (ns_oload_n 0 rfl rfl) rfl ?_
    refine nk_p (i := .iload_n 3) (len := 1) (pc' := 306) mJ_0 (by decide +kernel) (ns_iload_n 3 rfl rfl) rfl ?_
    refine nk_p (i := .iconst 1) (len := 1) (pc' := 307) mJ_0 (by decide +kernel) (ns_iconst (c := 1) (by decide +kernel)) rfl ?_
    refine nk_p (i := .iadd) (len := 1) (pc' := 308) mJ_0 (by decide +kernel) ns_iadd rfl ?_
    refine nk_oiald (len := 1) (xs := zs) (N := (zs.length : Int)) (pc' := 309) mJ_0 (by decide +kernel) rfl h60.1 h60.2 rfl rfl ?_
    obtain ⟨r64, S65, h66, hr⟩ := nk_bde hr
    refine nk_callV (ci := 13) (n := 1) (x := 45) (len := 3) (j' := 115) (q' := 2) (r := r64) (S' := S65) (L2 := [(0, nk_r l2), (1, nk_i ((zs).getD (nk_w (l3 + 1)).toNat 0).toInt)]) (rest := [nk_l r61]) (st' := [nk_l r64, nk_l r61]) (pc' := 312) mJ_0 (by decide +kernel) (by decide +kernel) rfl rfl t_l2 (Nat.le_of_ble_eq_true rfl) mJ_115 (Nat.le_of_ble_eq_true rfl) rfl (ja_X13_escapes_ok zs _ _ _ _ t_l2 h66) rfl ?_
    refine nk_p (i := .lcmp) (len := 1) (pc' := 313) mJ_0 (by decide +kernel) ns_lcmp rfl ?_
    refine nk_lcond (c := .eq) (off := 362) (len := 3) (t := 675) (pc' := 316) mJ_0 (by decide +kernel) (by decide +kernel) rfl (fun hc => ?_) (fun hc => ?_)
    · have hr := nk_ifp (c := r61 = r64) hc hr
      obtain ⟨v67, h68, hr⟩ := nk_lte hr
      refine nk_p (i := .iinc 3 6) (len := 3) (pc' := 678) mJ_0 (by decide +kernel) (ns_iinc (c := 6) (L' := [(3, nk_i v67), (0, nk_o 0), (1, nk_r l1), (2, nk_r l2)]) 3 rfl (by decide +kernel) h68 rfl (by decide +kernel)) rfl ?_
      refine nk_p (i := .goto (-660)) (len := 3) (pc' := 18) mJ_0 (by decide +kernel) (ns_goto (by decide +kernel)) rfl ?_
      refine nk_sub [1, 2, 3, 0] (L' := [(0, nk_o 0), (1, nk_r l1), (2, nk_r l2), (3, nk_i v67)]) rfl ?_
      exact hrec18 _ _ _ _ _ t_l1 t_l2 hr
    · have hr := nk_ifn (c := r61 = r64) hc hr
      refine nk_p (i := .iconst 0) (len := 1) (pc' := 317) mJ_0 (by decide +kernel) (ns_iconst (c := 0) (by decide +kernel)) rfl ?_
      cases hr
      exact nk_iret (ty := .boolean) (len := 1) mJ_0 (by decide +kernel) rfl (nk_nar_z (by decide))
  have hr := nk_ifn hc6 hr
  by_cases hc7 : v2 = 7
  · have hr := nk_ifp hc7 hr
    refine nk_p (i := .tableswitch 642 0 21 #[103, 166, 189, 202, 215, 238, 261, 285, 299, 332, 365, 398, 432, 475, 508, 531, 554, 567, 580, 593, 606, 629]) (len := 103) (pc' := 318) mJ_0 (by decide +kernel) (ns_tsw (V := 7) hc7 (by decide +kernel)) rfl ?_
    refine nk_p (i := .aload_n 1) (len := 1) (pc' := 319) mJ_0 (by decide +kernel) (ns_aload_n 1 rfl rfl) rfl ?_
    obtain ⟨r69, S70, h71, hr⟩ := nk_bde hr
    refine nk_callV (ci := 11) (n := 0) (x := 46) (len := 3) (j' := 53) (q' := 2) (r := r69) (S' := S70) (L2 := [(0, nk_r l1)]) (rest := []) (st' := [nk_l r69]) (pc' := 322) mJ_0 (by decide +kernel) (by decide +kernel) rfl rfl t_l1 (Nat.le_of_ble_eq_true rfl) mJ_53 (Nat.le_of_ble_eq_true rfl) rfl (ja_X11_ends_ok zs _ _ _ t_l1 h71) rfl ?_
    refine nk_p (i := .aload_n 2) (len := 1) (pc' := 323) mJ_0 (by decide +kernel) (ns_aload_n 2 rfl rfl) rfl ?_
    obtain ⟨r72, S73, h74, hr⟩ := nk_bde hr
    refine nk_callV (ci := 13) (n := 0) (x := 50) (len := 3) (j' := 112) (q' := 2) (r := r72) (S' := S73) (L2 := [(0, nk_r l2)]) (rest := [nk_l r69]) (st' := [nk_l r72, nk_l r69]) (pc' := 326) mJ_0 (by decide +kernel) (by decide +kernel) rfl rfl t_l2 (Nat.le_of_ble_eq_true rfl) mJ_112 (Nat.le_of_ble_eq_true rfl) rfl (ja_X13_ends_ok zs _ _ _ t_l2 h74) rfl ?_
    refine nk_p (i := .lcmp) (len := 1) (pc' := 327) mJ_0 (by decide +kernel) ns_lcmp rfl ?_
    refine nk_lcond (c := .eq) (off := 348) (len := 3) (t := 675) (pc' := 330) mJ_0 (by decide +kernel) (by decide +kernel) rfl (fun hc => ?_) (fun hc => ?_)
    · have hr := nk_ifp (c := r69 = r72) hc hr
      obtain ⟨v75, h76, hr⟩ := nk_lte hr
      refine nk_p (i := .iinc 3 6) (len := 3) (pc' := 678) mJ_0 (by decide +kernel) (ns_iinc (c := 6) (L' := [(3, nk_i v75), (0, nk_o 0), (1, nk_r l1), (2, nk_r l2)]) 3 rfl (by decide +kernel) h76 rfl (by decide +kernel)) rfl ?_
      refine nk_p (i := .goto (-660)) (len := 3) (pc' := 18) mJ_0 (by decide +kernel) (ns_goto (by decide +kernel)) rfl ?_
      refine nk_sub [1, 2, 3, 0] (L' := [(0, nk_o 0), (1, nk_r l1), (2, nk_r l2), (3, nk_i v75)]) rfl ?_
      exact hrec18 _ _ _ _ _ t_l1 t_l2 hr
    · have hr := nk_ifn (c := r69 = r72) hc hr
      refine nk_p (i := .iconst 0) (len := 1) (pc' := 331) mJ_0 (by decide +kernel) (ns_iconst (c := 0) (by decide +kernel)) rfl ?_
      cases hr
      exact nk_iret (ty := .boolean) (len := 1) mJ_0 (by decide +kernel) rfl (nk_nar_z (by decide))
  have hr := nk_ifn hc7 hr
  by_cases hc8 : v2 = 8
  · have hr := nk_ifp hc8 hr
    refine nk_p (i := .tableswitch 642 0 21 #[103, 166, 189, 202, 215, 238, 261, 285, 299, 332, 365, 398, 432, 475, 508, 531, 554, 567, 580, 593, 606, 629]) (len := 103) (pc' := 332) mJ_0 (by decide +kernel) (ns_tsw (V := 8) hc8 (by decide +kernel)) rfl ?_
    refine nk_p (i := .aload_n 1) (len := 1) (pc' := 333) mJ_0 (by decide +kernel) (ns_aload_n 1 rfl rfl) rfl ?_
    refine nk_p (i := .aload_n 0) (len := 1) (pc' := 334) mJ_0 (by decide +kernel) (ns_oload_n 0 rfl rfl) rfl ?_
    refine nk_p (i := .iload_n 3) (len := 1) (pc' := 335) mJ_0 (by decide +kernel) (ns_iload_n 3 rfl rfl) rfl ?_
    refine nk_p (i := .iconst 1) (len := 1) (pc' := 336) mJ_0 (by decide +kernel) (ns_iconst (c := 1) (by decide +kernel)) rfl ?_
    refine nk_p (i := .iadd) (len := 1) (pc' := 337) mJ_0 (by decide +kernel) ns_iadd rfl ?_
    obtain ⟨h77, hr⟩ := nk_cke hr
    refine nk_oiald (len := 1) (xs := zs) (N := (zs.length : Int)) (pc' := 338) mJ_0 (by decide +kernel) rfl h77.1 h77.2 rfl rfl ?_
    refine nk_p (i := .aload_n 0) (len := 1) (pc' := 339) mJ_0 (by decide +kernel) (ns_oload_n 0 rfl rfl) rfl ?_
    refine nk_p (i := .iload_n 3) (len := 1) (pc' := 340) mJ_0 (by decide +kernel) (ns_iload_n 3 rfl rfl) rfl ?_
    refine nk_p (i := .iconst 2) (len := 1) (pc' := 341) mJ_0 (by decide +kernel) (ns_iconst (c := 2) (by decide +kernel)) rfl ?_
    refine nk_p (i := .iadd) (len := 1) (pc' := 342) mJ_0 (by decide +kernel) ns_iadd rfl ?_
    obtain ⟨h78, hr⟩ := nk_cke hr
    refine nk_oiald (len := 1) (xs := zs) (N := (zs.length : Int)) (pc' := 343) mJ_0 (by decide +kernel) rfl h78.1 h78.2 rfl rfl ?_
    obtain ⟨r79, S80, h81, hr⟩ := nk_bde hr
    refine nk_callV (ci := 11) (n := 2) (x := 51) (len := 3) (j' := 65) (q' := 1) (r := r79) (S' := S80) (L2 := [(0, nk_r l1), (1, nk_i ((zs).getD (nk_w (l3 + 1)).toNat 0).toInt), (2, nk_i ((zs).getD (nk_w (l3 + 2)).toNat 0).toInt)]) (rest := []) (st' := [nk_i r79]) (pc' := 346) mJ_0 (by decide +kernel) (by decide +kernel) rfl rfl t_l1 (Nat.le_of_ble_eq_true rfl) mJ_65 (Nat.le_of_ble_eq_true rfl) rfl (ja_X11_kind_ok zs _ _ _ _ _ t_l1 h81) rfl ?_
    refine nk_p (i := .aload_n 2) (len := 1) (pc' := 347) mJ_0 (by decide +kernel) (ns_aload_n 2 rfl rfl) rfl ?_
    refine nk_p (i := .aload_n 0) (len := 1) (pc' := 348) mJ_0 (by decide +kernel) (ns_oload_n 0 rfl rfl) rfl ?_
    refine nk_p (i := .iload_n 3) (len := 1) (pc' := 349) mJ_0 (by decide +kernel) (ns_iload_n 3 rfl rfl) rfl ?_
    refine nk_p (i := .iconst 1) (len := 1) (pc' := 350) mJ_0 (by decide +kernel) (ns_iconst (c := 1) (by decide +kernel)) rfl ?_
    refine nk_p (i := .iadd) (len := 1) (pc' := 351) mJ_0 (by decide +kernel) ns_iadd rfl ?_
    refine nk_oiald (len := 1) (xs := zs) (N := (zs.length : Int)) (pc' := 352) mJ_0 (by decide +kernel) rfl h77.1 h77.2 rfl rfl ?_
    refine nk_p (i := .aload_n 0) (len := 1) (pc' := 353) mJ_0 (by decide +kernel) (ns_oload_n 0 rfl rfl) rfl ?_
    refine nk_p (i := .iload_n 3) (len := 1) (pc' := 354) mJ_0 (by decide +kernel) (ns_iload_n 3 rfl rfl) rfl ?_
    refine nk_p (i := .iconst 2) (len := 1) (pc' := 355) mJ_0 (by decide +kernel) (ns_iconst (c := 2) (by decide +kernel)) rfl ?_
    refine nk_p (i := .iadd) (len := 1) (pc' := 356) mJ_0 (by decide +kernel) ns_iadd rfl ?_
    refine nk_oiald (len := 1) (xs := zs) (N := (zs.length : Int)) (pc' := 357) mJ_0 (by decide +kernel) rfl h78.1 h78.2 rfl rfl ?_
    obtain ⟨r82, S83, h84, hr⟩ := nk_bde hr
    refine nk_callV (ci := 13) (n := 2) (x := 55) (len := 3) (j' := 171) (q' := 1) (r := r82) (S' := S83) (L2 := [(0, nk_r l2), (1, nk_i ((zs).getD (nk_w (l3 + 1)).toNat 0).toInt), (2, nk_i ((zs).getD (nk_w (l3 + 2)).toNat 0).toInt)]) (rest := [nk_i r79]) (st' := [nk_i r82, nk_i r79]) (pc' := 360) mJ_0 (by decide +kernel) (by decide +kernel) rfl rfl t_l2 (Nat.le_of_ble_eq_true rfl) mJ_171 (Nat.le_of_ble_eq_true rfl) rfl (ja_X13_kind_ok zs _ _ _ _ _ t_l2 h84) rfl ?_
    refine nk_icmp (c := .eq) (off := 315) (len := 3) (t := 675) (pc' := 363) mJ_0 (by decide +kernel) (by decide +kernel) rfl (fun hc => ?_) (fun hc => ?_)
    · have hr := nk_ifp (c := r79 = r82) hc hr
      obtain ⟨v85, h86, hr⟩ := nk_lte hr
      refine nk_p (i := .iinc 3 6) (len := 3) (pc' := 678) mJ_0 (by decide +kernel) (ns_iinc (c := 6) (L' := [(3, nk_i v85), (0, nk_o 0), (1, nk_r l1), (2, nk_r l2)]) 3 rfl (by decide +kernel) h86 rfl (by decide +kernel)) rfl ?_
      refine nk_p (i := .goto (-660)) (len := 3) (pc' := 18) mJ_0 (by decide +kernel) (ns_goto (by decide +kernel)) rfl ?_
      refine nk_sub [1, 2, 3, 0] (L' := [(0, nk_o 0), (1, nk_r l1), (2, nk_r l2), (3, nk_i v85)]) rfl ?_
      exact hrec18 _ _ _ _ _ t_l1 t_l2 hr
    · have hr := nk_ifn (c := r79 = r82) hc hr
      refine nk_p (i := .iconst 0) (len := 1) (pc' := 364) mJ_0 (by decide +kernel) (ns_iconst (c := 0) (by decide +kernel)) rfl ?_
      cases hr
      exact nk_iret (ty := .boolean) (len := 1) mJ_0 (by decide +kernel) rfl (nk_nar_z (by decide))
  have hr := nk_ifn hc8 hr
  by_cases hc9 : v2 = 9
  · have hr := nk_ifp hc9 hr
    refine nk_p (i := .tableswitch 642 0 21 #[103, 166, 189, 202, 215, 238, 261, 285, 299, 332, 365, 398, 432, 475, 508, 531, 554, 567, 580, 593, 606, 629]) (len := 103) (pc' := 365) mJ_0 (by decide +kernel) (ns_tsw (V := 9) hc9 (by decide +kernel)) rfl ?_
    refine nk_p (i := .aload_n 1) (len := 1) (pc' := 366) mJ_0 (by decide +kernel) (ns_aload_n 1 rfl rfl) rfl ?_
    refine nk_p (i := .aload_n 0) (len := 1) (pc' := 367) mJ_0 (by decide +kernel) (ns_oload_n 0 rfl rfl) rfl ?_
    refine nk_p (i := .iload_n 3) (len := 1) (pc' := 368) mJ_0 (by decide +kernel) (ns_iload_n 3 rfl rfl) rfl ?_
    refine nk_p (i := .iconst 1) (len := 1) (pc' := 369) mJ_0 (by decide +kernel) (ns_iconst (c := 1) (by decide +kernel)) rfl ?_
    refine nk_p (i := .iadd) (len := 1) (pc' := 370) mJ_0 (by decide +kernel) ns_iadd rfl ?_
    obtain ⟨h87, hr⟩ := nk_cke hr
    refine nk_oiald (len := 1) (xs := zs) (N := (zs.length : Int)) (pc' := 371) mJ_0 (by decide +kernel) rfl h87.1 h87.2 rfl rfl ?_
    refine nk_p (i := .aload_n 0) (len := 1) (pc' := 372) mJ_0 (by decide +kernel) (ns_oload_n 0 rfl rfl) rfl ?_
    refine nk_p (i := .iload_n 3) (len := 1) (pc' := 373) mJ_0 (by decide +kernel) (ns_iload_n 3 rfl rfl) rfl ?_
    refine nk_p (i := .iconst 2) (len := 1) (pc' := 374) mJ_0 (by decide +kernel) (ns_iconst (c := 2) (by decide +kernel)) rfl ?_
    refine nk_p (i := .iadd) (len := 1) (pc' := 375) mJ_0 (by decide +kernel) ns_iadd rfl ?_
    obtain ⟨h88, hr⟩ := nk_cke hr
    refine nk_oiald (len := 1) (xs := zs) (N := (zs.length : Int)) (pc' := 376) mJ_0 (by decide +kernel) rfl h88.1 h88.2 rfl rfl ?_
    obtain ⟨r89, S90, h91, hr⟩ := nk_bde hr
    refine nk_callV (ci := 11) (n := 2) (x := 56) (len := 3) (j' := 68) (q' := 1) (r := r89) (S' := S90) (L2 := [(0, nk_r l1), (1, nk_i ((zs).getD (nk_w (l3 + 1)).toNat 0).toInt), (2, nk_i ((zs).getD (nk_w (l3 + 2)).toNat 0).toInt)]) (rest := []) (st' := [nk_i r89]) (pc' := 379) mJ_0 (by decide +kernel) (by decide +kernel) rfl rfl t_l1 (Nat.le_of_ble_eq_true rfl) mJ_68 (Nat.le_of_ble_eq_true rfl) rfl (ja_X11_low_ok zs _ _ _ _ _ t_l1 h91) rfl ?_
    refine nk_p (i := .aload_n 2) (len := 1) (pc' := 380) mJ_0 (by decide +kernel) (ns_aload_n 2 rfl rfl) rfl ?_
    refine nk_p (i := .aload_n 0) (len := 1) (pc' := 381) mJ_0 (by decide +kernel) (ns_oload_n 0 rfl rfl) rfl ?_
    refine nk_p (i := .iload_n 3) (len := 1) (pc' := 382) mJ_0 (by decide +kernel) (ns_iload_n 3 rfl rfl) rfl ?_
    refine nk_p (i := .iconst 1) (len := 1) (pc' := 383) mJ_0 (by decide +kernel) (ns_iconst (c := 1) (by decide +kernel)) rfl ?_
    refine nk_p (i := .iadd) (len := 1) (pc' := 384) mJ_0 (by decide +kernel) ns_iadd rfl ?_
    refine nk_oiald (len := 1) (xs := zs) (N := (zs.length : Int)) (pc' := 385) mJ_0 (by decide +kernel) rfl h87.1 h87.2 rfl rfl ?_
    refine nk_p (i := .aload_n 0) (len := 1) (pc' := 386) mJ_0 (by decide +kernel) (ns_oload_n 0 rfl rfl) rfl ?_
    refine nk_p (i := .iload_n 3) (len := 1) (pc' := 387) mJ_0 (by decide +kernel) (ns_iload_n 3 rfl rfl) rfl ?_
    refine nk_p (i := .iconst 2) (len := 1) (pc' := 388) mJ_0 (by decide +kernel) (ns_iconst (c := 2) (by decide +kernel)) rfl ?_
    refine nk_p (i := .iadd) (len := 1) (pc' := 389) mJ_0 (by decide +kernel) ns_iadd rfl ?_
    refine nk_oiald (len := 1) (xs := zs) (N := (zs.length : Int)) (pc' := 390) mJ_0 (by decide +kernel) rfl h88.1 h88.2 rfl rfl ?_
    obtain ⟨r92, S93, h94, hr⟩ := nk_bde hr
    refine nk_callV (ci := 13) (n := 2) (x := 59) (len := 3) (j' := 188) (q' := 1) (r := r92) (S' := S93) (L2 := [(0, nk_r l2), (1, nk_i ((zs).getD (nk_w (l3 + 1)).toNat 0).toInt), (2, nk_i ((zs).getD (nk_w (l3 + 2)).toNat 0).toInt)]) (rest := [nk_i r89]) (st' := [nk_i r92, nk_i r89]) (pc' := 393) mJ_0 (by decide +kernel) (by decide +kernel) rfl rfl t_l2 (Nat.le_of_ble_eq_true rfl) mJ_188 (Nat.le_of_ble_eq_true rfl) rfl (ja_X13_low_ok zs _ _ _ _ _ t_l2 h94) rfl ?_
    refine nk_icmp (c := .eq) (off := 282) (len := 3) (t := 675) (pc' := 396) mJ_0 (by decide +kernel) (by decide +kernel) rfl (fun hc => ?_) (fun hc => ?_)
    · have hr := nk_ifp (c := r89 = r92) hc hr
      obtain ⟨v95, h96, hr⟩ := nk_lte hr
      refine nk_p (i := .iinc 3 6) (len := 3) (pc' := 678) mJ_0 (by decide +kernel) (ns_iinc (c := 6) (L' := [(3, nk_i v95), (0, nk_o 0), (1, nk_r l1), (2, nk_r l2)]) 3 rfl (by decide +kernel) h96 rfl (by decide +kernel)) rfl ?_
      refine nk_p (i := .goto (-660)) (len := 3) (pc' := 18) mJ_0 (by decide +kernel) (ns_goto (by decide +kernel)) rfl ?_
      refine nk_sub [1, 2, 3, 0] (L' := [(0, nk_o 0), (1, nk_r l1), (2, nk_r l2), (3, nk_i v95)]) rfl ?_
      exact hrec18 _ _ _ _ _ t_l1 t_l2 hr
    · have hr := nk_ifn (c := r89 = r92) hc hr
      refine nk_p (i := .iconst 0) (len := 1) (pc' := 397) mJ_0 (by decide +kernel) (ns_iconst (c := 0) (by decide +kernel)) rfl ?_
      cases hr
      exact nk_iret (ty := .boolean) (len := 1) mJ_0 (by decide +kernel) rfl (nk_nar_z (by decide))
  have hr := nk_ifn hc9 hr
  by_cases hc10 : v2 = 10
  · have hr := nk_ifp hc10 hr
    refine nk_p (i := .tableswitch 642 0 21 #[103, 166, 189, 202, 215, 238, 261, 285, 299, 332, 365, 398, 432, 475, 508, 531, 554, 567, 580, 593, 606, 629]) (len := 103) (pc' := 398) mJ_0 (by decide +kernel) (ns_tsw (V := 10) hc10 (by decide +kernel)) rfl ?_
    refine nk_p (i := .aload_n 1) (len := 1) (pc' := 399) mJ_0 (by decide +kernel) (ns_aload_n 1 rfl rfl) rfl ?_
    refine nk_p (i := .aload_n 0) (len := 1) (pc' := 400) mJ_0 (by decide +kernel) (ns_oload_n 0 rfl rfl) rfl ?_
    refine nk_p (i := .iload_n 3) (len := 1) (pc' := 401) mJ_0 (by decide +kernel) (ns_iload_n 3 rfl rfl) rfl ?_
    refine nk_p (i := .iconst 1) (len := 1) (pc' := 402) mJ_0 (by decide +kernel) (ns_iconst (c := 1) (by decide +kernel)) rfl ?_
    refine nk_p (i := .iadd) (len := 1) (pc' := 403) mJ_0 (by decide +kernel) ns_iadd rfl ?_
    obtain ⟨h97, hr⟩ := nk_cke hr
    refine nk_oiald (len := 1) (xs := zs) (N := (zs.length : Int)) (pc' := 404) mJ_0 (by decide +kernel) rfl h97.1 h97.2 rfl rfl ?_
    refine nk_p (i := .aload_n 0) (len := 1) (pc' := 405) mJ_0 (by decide +kernel) (ns_oload_n 0 rfl rfl) rfl ?_
    refine nk_p (i := .iload_n 3) (len := 1) (pc' := 406) mJ_0 (by decide +kernel) (ns_iload_n 3 rfl rfl) rfl ?_
    refine nk_p (i := .iconst 2) (len := 1) (pc' := 407) mJ_0 (by decide +kernel) (ns_iconst (c := 2) (by decide +kernel)) rfl ?_
    refine nk_p (i := .iadd) (len := 1) (pc' := 408) mJ_0 (by decide +kernel) ns_iadd rfl ?_
    obtain ⟨h98, hr⟩ := nk_cke hr
    refine nk_oiald (len := 1) (xs := zs) (N := (zs.length : Int)) (pc' := 409) mJ_0 (by decide +kernel) rfl h98.1 h98.2 rfl rfl ?_
    obtain ⟨r99, S100, h101, hr⟩ := nk_bde hr
    refine nk_callV (ci := 11) (n := 2) (x := 60) (len := 3) (j' := 61) (q' := 1) (r := r99) (S' := S100) (L2 := [(0, nk_r l1), (1, nk_i ((zs).getD (nk_w (l3 + 1)).toNat 0).toInt), (2, nk_i ((zs).getD (nk_w (l3 + 2)).toNat 0).toInt)]) (rest := []) (st' := [nk_i r99]) (pc' := 412) mJ_0 (by decide +kernel) (by decide +kernel) rfl rfl t_l1 (Nat.le_of_ble_eq_true rfl) mJ_61 (Nat.le_of_ble_eq_true rfl) rfl (ja_X11_high_ok zs _ _ _ _ _ t_l1 h101) rfl ?_
    refine nk_p (i := .aload_n 2) (len := 1) (pc' := 413) mJ_0 (by decide +kernel) (ns_aload_n 2 rfl rfl) rfl ?_
    refine nk_p (i := .aload_n 0) (len := 1) (pc' := 414) mJ_0 (by decide +kernel) (ns_oload_n 0 rfl rfl) rfl ?_
    refine nk_p (i := .iload_n 3) (len := 1) (pc' := 415) mJ_0 (by decide +kernel) (ns_iload_n 3 rfl rfl) rfl ?_
    refine nk_p (i := .iconst 1) (len := 1) (pc' := 416) mJ_0 (by decide +kernel) (ns_iconst (c := 1) (by decide +kernel)) rfl ?_
    refine nk_p (i := .iadd) (len := 1) (pc' := 417) mJ_0 (by decide +kernel) ns_iadd rfl ?_
    refine nk_oiald (len := 1) (xs := zs) (N := (zs.length : Int)) (pc' := 418) mJ_0 (by decide +kernel) rfl h97.1 h97.2 rfl rfl ?_
    refine nk_p (i := .aload_n 0) (len := 1) (pc' := 419) mJ_0 (by decide +kernel) (ns_oload_n 0 rfl rfl) rfl ?_
    refine nk_p (i := .iload_n 3) (len := 1) (pc' := 420) mJ_0 (by decide +kernel) (ns_iload_n 3 rfl rfl) rfl ?_
    refine nk_p (i := .iconst 2) (len := 1) (pc' := 421) mJ_0 (by decide +kernel) (ns_iconst (c := 2) (by decide +kernel)) rfl ?_
    refine nk_p (i := .iadd) (len := 1) (pc' := 422) mJ_0 (by decide +kernel) ns_iadd rfl ?_
    refine nk_oiald (len := 1) (xs := zs) (N := (zs.length : Int)) (pc' := 423) mJ_0 (by decide +kernel) rfl h98.1 h98.2 rfl rfl ?_
    obtain ⟨r102, S103, h104, hr⟩ := nk_bde hr
    refine nk_callV (ci := 13) (n := 2) (x := 63) (len := 3) (j' := 132) (q' := 1) (r := r102) (S' := S103) (L2 := [(0, nk_r l2), (1, nk_i ((zs).getD (nk_w (l3 + 1)).toNat 0).toInt), (2, nk_i ((zs).getD (nk_w (l3 + 2)).toNat 0).toInt)]) (rest := [nk_i r99]) (st' := [nk_i r102, nk_i r99]) (pc' := 426) mJ_0 (by decide +kernel) (by decide +kernel) rfl rfl t_l2 (Nat.le_of_ble_eq_true rfl) mJ_132 (Nat.le_of_ble_eq_true rfl) rfl (ja_X13_high_ok zs _ _ _ _ _ t_l2 h104) rfl ?_
    refine nk_icmp (c := .eq) (off := 249) (len := 3) (t := 675) (pc' := 429) mJ_0 (by decide +kernel) (by decide +kernel) rfl (fun hc => ?_) (fun hc => ?_)
    · have hr := nk_ifp (c := r99 = r102) hc hr
      obtain ⟨v105, h106, hr⟩ := nk_lte hr
      refine nk_p (i := .iinc 3 6) (len := 3) (pc' := 678) mJ_0 (by decide +kernel) (ns_iinc (c := 6) (L' := [(3, nk_i v105), (0, nk_o 0), (1, nk_r l1), (2, nk_r l2)]) 3 rfl (by decide +kernel) h106 rfl (by decide +kernel)) rfl ?_
      refine nk_p (i := .goto (-660)) (len := 3) (pc' := 18) mJ_0 (by decide +kernel) (ns_goto (by decide +kernel)) rfl ?_
      refine nk_sub [1, 2, 3, 0] (L' := [(0, nk_o 0), (1, nk_r l1), (2, nk_r l2), (3, nk_i v105)]) rfl ?_
      exact hrec18 _ _ _ _ _ t_l1 t_l2 hr
    · have hr := nk_ifn (c := r99 = r102) hc hr
      refine nk_p (i := .iconst 0) (len := 1) (pc' := 430) mJ_0 (by decide +kernel) (ns_iconst (c := 0) (by decide +kernel)) rfl ?_
      cases hr
      exact nk_iret (ty := .boolean) (len := 1) mJ_0 (by decide +kernel) rfl (nk_nar_z (by decide))
  have hr := nk_ifn hc10 hr
  by_cases hc11 : v2 = 11
  · have hr := nk_ifp hc11 hr
    refine nk_p (i := .tableswitch 642 0 21 #[103, 166, 189, 202, 215, 238, 261, 285, 299, 332, 365, 398, 432, 475, 508, 531, 554, 567, 580, 593, 606, 629]) (len := 103) (pc' := 431) mJ_0 (by decide +kernel) (ns_tsw (V := 11) hc11 (by decide +kernel)) rfl ?_
    refine nk_p (i := .aload_n 1) (len := 1) (pc' := 432) mJ_0 (by decide +kernel) (ns_aload_n 1 rfl rfl) rfl ?_
    refine nk_p (i := .aload_n 0) (len := 1) (pc' := 433) mJ_0 (by decide +kernel) (ns_oload_n 0 rfl rfl) rfl ?_
    refine nk_p (i := .iload_n 3) (len := 1) (pc' := 434) mJ_0 (by decide +kernel) (ns_iload_n 3 rfl rfl) rfl ?_
    refine nk_p (i := .iconst 1) (len := 1) (pc' := 435) mJ_0 (by decide +kernel) (ns_iconst (c := 1) (by decide +kernel)) rfl ?_
    refine nk_p (i := .iadd) (len := 1) (pc' := 436) mJ_0 (by decide +kernel) ns_iadd rfl ?_
    obtain ⟨h107, hr⟩ := nk_cke hr
    refine nk_oiald (len := 1) (xs := zs) (N := (zs.length : Int)) (pc' := 437) mJ_0 (by decide +kernel) rfl h107.1 h107.2 rfl rfl ?_
    refine nk_p (i := .aload_n 0) (len := 1) (pc' := 438) mJ_0 (by decide +kernel) (ns_oload_n 0 rfl rfl) rfl ?_
    refine nk_p (i := .iload_n 3) (len := 1) (pc' := 439) mJ_0 (by decide +kernel) (ns_iload_n 3 rfl rfl) rfl ?_
    refine nk_p (i := .iconst 2) (len := 1) (pc' := 440) mJ_0 (by decide +kernel) (ns_iconst (c := 2) (by decide +kernel)) rfl ?_
    refine nk_p (i := .iadd) (len := 1) (pc' := 441) mJ_0 (by decide +kernel) ns_iadd rfl ?_
    obtain ⟨h108, hr⟩ := nk_cke hr
    refine nk_oiald (len := 1) (xs := zs) (N := (zs.length : Int)) (pc' := 442) mJ_0 (by decide +kernel) rfl h108.1 h108.2 rfl rfl ?_
    obtain ⟨r109, S110, h111, hr⟩ := nk_bde hr
    refine nk_callV (ci := 11) (n := 2) (x := 64) (len := 3) (j' := 72) (q' := 2) (r := r109) (S' := S110) (L2 := [(0, nk_r l1), (1, nk_i ((zs).getD (nk_w (l3 + 1)).toNat 0).toInt), (2, nk_i ((zs).getD (nk_w (l3 + 2)).toNat 0).toInt)]) (rest := []) (st' := [nk_l r109]) (pc' := 445) mJ_0 (by decide +kernel) (by decide +kernel) rfl rfl t_l1 (Nat.le_of_ble_eq_true rfl) mJ_72 (Nat.le_of_ble_eq_true rfl) rfl (ja_X11_sites_ok zs _ _ _ _ _ t_l1 h111) rfl ?_
    refine nk_p (i := .aload_n 2) (len := 1) (pc' := 446) mJ_0 (by decide +kernel) (ns_aload_n 2 rfl rfl) rfl ?_
    refine nk_p (i := .aload_n 0) (len := 1) (pc' := 447) mJ_0 (by decide +kernel) (ns_oload_n 0 rfl rfl) rfl ?_
    refine nk_p (i := .iload_n 3) (len := 1) (pc' := 448) mJ_0 (by decide +kernel) (ns_iload_n 3 rfl rfl) rfl ?_
    refine nk_p (i := .iconst 1) (len := 1) (pc' := 449) mJ_0 (by decide +kernel) (ns_iconst (c := 1) (by decide +kernel)) rfl ?_
    refine nk_p (i := .iadd) (len := 1) (pc' := 450) mJ_0 (by decide +kernel) ns_iadd rfl ?_
    refine nk_oiald (len := 1) (xs := zs) (N := (zs.length : Int)) (pc' := 451) mJ_0 (by decide +kernel) rfl h107.1 h107.2 rfl rfl ?_
    refine nk_p (i := .aload_n 0) (len := 1) (pc' := 452) mJ_0 (by decide +kernel) (ns_oload_n 0 rfl rfl) rfl ?_
    refine nk_p (i := .iload_n 3) (len := 1) (pc' := 453) mJ_0 (by decide +kernel) (ns_iload_n 3 rfl rfl) rfl ?_
    refine nk_p (i := .iconst 2) (len := 1) (pc' := 454) mJ_0 (by decide +kernel) (ns_iconst (c := 2) (by decide +kernel)) rfl ?_
    refine nk_p (i := .iadd) (len := 1) (pc' := 455) mJ_0 (by decide +kernel) ns_iadd rfl ?_
    refine nk_oiald (len := 1) (xs := zs) (N := (zs.length : Int)) (pc' := 456) mJ_0 (by decide +kernel) rfl h108.1 h108.2 rfl rfl ?_
    obtain ⟨r112, S113, h114, hr⟩ := nk_bde hr
    refine nk_callV (ci := 13) (n := 2) (x := 68) (len := 3) (j' := 224) (q' := 2) (r := r112) (S' := S113) (L2 := [(0, nk_r l2), (1, nk_i ((zs).getD (nk_w (l3 + 1)).toNat 0).toInt), (2, nk_i ((zs).getD (nk_w (l3 + 2)).toNat 0).toInt)]) (rest := [nk_l r109]) (st' := [nk_l r112, nk_l r109]) (pc' := 459) mJ_0 (by decide +kernel) (by decide +kernel) rfl rfl t_l2 (Nat.le_of_ble_eq_true rfl) mJ_224 (Nat.le_of_ble_eq_true rfl) rfl (ja_X13_sites_ok zs _ _ _ _ _ t_l2 h114) rfl ?_
    refine nk_p (i := .lcmp) (len := 1) (pc' := 460) mJ_0 (by decide +kernel) ns_lcmp rfl ?_
    refine nk_lcond (c := .eq) (off := 215) (len := 3) (t := 675) (pc' := 463) mJ_0 (by decide +kernel) (by decide +kernel) rfl (fun hc => ?_) (fun hc => ?_)
    · have hr := nk_ifp (c := r109 = r112) hc hr
      obtain ⟨v115, h116, hr⟩ := nk_lte hr
      refine nk_p (i := .iinc 3 6) (len := 3) (pc' := 678) mJ_0 (by decide +kernel) (ns_iinc (c := 6) (L' := [(3, nk_i v115), (0, nk_o 0), (1, nk_r l1), (2, nk_r l2)]) 3 rfl (by decide +kernel) h116 rfl (by decide +kernel)) rfl ?_
      refine nk_p (i := .goto (-660)) (len := 3) (pc' := 18) mJ_0 (by decide +kernel) (ns_goto (by decide +kernel)) rfl ?_
      refine nk_sub [1, 2, 3, 0] (L' := [(0, nk_o 0), (1, nk_r l1), (2, nk_r l2), (3, nk_i v115)]) rfl ?_
      exact hrec18 _ _ _ _ _ t_l1 t_l2 hr
    · have hr := nk_ifn (c := r109 = r112) hc hr
      refine nk_p (i := .iconst 0) (len := 1) (pc' := 464) mJ_0 (by decide +kernel) (ns_iconst (c := 0) (by decide +kernel)) rfl ?_
      cases hr
      exact nk_iret (ty := .boolean) (len := 1) mJ_0 (by decide +kernel) rfl (nk_nar_z (by decide))
  have hr := nk_ifn hc11 hr
  by_cases hc12 : v2 = 12
  · have hr := nk_ifp hc12 hr
    refine nk_p (i := .tableswitch 642 0 21 #[103, 166, 189, 202, 215, 238, 261, 285, 299, 332, 365, 398, 432, 475, 508, 531, 554, 567, 580, 593, 606, 629]) (len := 103) (pc' := 465) mJ_0 (by decide +kernel) (ns_tsw (V := 12) hc12 (by decide +kernel)) rfl ?_
    refine nk_p (i := .aload_n 1) (len := 1) (pc' := 466) mJ_0 (by decide +kernel) (ns_aload_n 1 rfl rfl) rfl ?_
    refine nk_p (i := .aload_n 0) (len := 1) (pc' := 467) mJ_0 (by decide +kernel) (ns_oload_n 0 rfl rfl) rfl ?_
    refine nk_p (i := .iload_n 3) (len := 1) (pc' := 468) mJ_0 (by decide +kernel) (ns_iload_n 3 rfl rfl) rfl ?_
    refine nk_p (i := .iconst 1) (len := 1) (pc' := 469) mJ_0 (by decide +kernel) (ns_iconst (c := 1) (by decide +kernel)) rfl ?_
    refine nk_p (i := .iadd) (len := 1) (pc' := 470) mJ_0 (by decide +kernel) ns_iadd rfl ?_
    obtain ⟨h117, hr⟩ := nk_cke hr
    refine nk_oiald (len := 1) (xs := zs) (N := (zs.length : Int)) (pc' := 471) mJ_0 (by decide +kernel) rfl h117.1 h117.2 rfl rfl ?_
    refine nk_p (i := .aload_n 0) (len := 1) (pc' := 472) mJ_0 (by decide +kernel) (ns_oload_n 0 rfl rfl) rfl ?_
    refine nk_p (i := .iload_n 3) (len := 1) (pc' := 473) mJ_0 (by decide +kernel) (ns_iload_n 3 rfl rfl) rfl ?_
    refine nk_p (i := .iconst 2) (len := 1) (pc' := 474) mJ_0 (by decide +kernel) (ns_iconst (c := 2) (by decide +kernel)) rfl ?_
    refine nk_p (i := .iadd) (len := 1) (pc' := 475) mJ_0 (by decide +kernel) ns_iadd rfl ?_
    obtain ⟨h118, hr⟩ := nk_cke hr
    refine nk_oiald (len := 1) (xs := zs) (N := (zs.length : Int)) (pc' := 476) mJ_0 (by decide +kernel) rfl h118.1 h118.2 rfl rfl ?_
    refine nk_p (i := .aload_n 0) (len := 1) (pc' := 477) mJ_0 (by decide +kernel) (ns_oload_n 0 rfl rfl) rfl ?_
    refine nk_p (i := .iload_n 3) (len := 1) (pc' := 478) mJ_0 (by decide +kernel) (ns_iload_n 3 rfl rfl) rfl ?_
    refine nk_p (i := .iconst 3) (len := 1) (pc' := 479) mJ_0 (by decide +kernel) (ns_iconst (c := 3) (by decide +kernel)) rfl ?_
    refine nk_p (i := .iadd) (len := 1) (pc' := 480) mJ_0 (by decide +kernel) ns_iadd rfl ?_
    obtain ⟨h119, hr⟩ := nk_cke hr
    refine nk_oiald (len := 1) (xs := zs) (N := (zs.length : Int)) (pc' := 481) mJ_0 (by decide +kernel) rfl h119.1 h119.2 rfl rfl ?_
    obtain ⟨r120, S121, h122, hr⟩ := nk_bde hr
    refine nk_callV (ci := 11) (n := 3) (x := 69) (len := 3) (j' := 56) (q' := 1) (r := r120) (S' := S121) (L2 := [(0, nk_r l1), (1, nk_i ((zs).getD (nk_w (l3 + 1)).toNat 0).toInt), (2, nk_i ((zs).getD (nk_w (l3 + 2)).toNat 0).toInt), (3, nk_i ((zs).getD (nk_w (l3 + 3)).toNat 0).toInt)]) (rest := []) (st' := [nk_i r120]) (pc' := 484) mJ_0 (by decide +kernel) (by decide +kernel) rfl rfl t_l1 (Nat.le_of_ble_eq_true rfl) mJ_56 (Nat.le_of_ble_eq_true rfl) rfl (ja_X11_fact_ok zs _ _ _ _ _ _ t_l1 h122) rfl ?_
    refine nk_p (i := .aload_n 2) (len := 1) (pc' := 485) mJ_0 (by decide +kernel) (ns_aload_n 2 rfl rfl) rfl ?_
    refine nk_p (i := .aload_n 0) (len := 1) (pc' := 486) mJ_0 (by decide +kernel) (ns_oload_n 0 rfl rfl) rfl ?_
    refine nk_p (i := .iload_n 3) (len := 1) (pc' := 487) mJ_0 (by decide +kernel) (ns_iload_n 3 rfl rfl) rfl ?_
    refine nk_p (i := .iconst 1) (len := 1) (pc' := 488) mJ_0 (by decide +kernel) (ns_iconst (c := 1) (by decide +kernel)) rfl ?_
    refine nk_p (i := .iadd) (len := 1) (pc' := 489) mJ_0 (by decide +kernel) ns_iadd rfl ?_
    refine nk_oiald (len := 1) (xs := zs) (N := (zs.length : Int)) (pc' := 490) mJ_0 (by decide +kernel) rfl h117.1 h117.2 rfl rfl ?_
    refine nk_p (i := .aload_n 0) (len := 1) (pc' := 491) mJ_0 (by decide +kernel) (ns_oload_n 0 rfl rfl) rfl ?_
    refine nk_p (i := .iload_n 3) (len := 1) (pc' := 492) mJ_0 (by decide +kernel) (ns_iload_n 3 rfl rfl) rfl ?_
    refine nk_p (i := .iconst 2) (len := 1) (pc' := 493) mJ_0 (by decide +kernel) (ns_iconst (c := 2) (by decide +kernel)) rfl ?_
    refine nk_p (i := .iadd) (len := 1) (pc' := 494) mJ_0 (by decide +kernel) ns_iadd rfl ?_
    refine nk_oiald (len := 1) (xs := zs) (N := (zs.length : Int)) (pc' := 495) mJ_0 (by decide +kernel) rfl h118.1 h118.2 rfl rfl ?_
    refine nk_p (i := .aload_n 0) (len := 1) (pc' := 496) mJ_0 (by decide +kernel) (ns_oload_n 0 rfl rfl) rfl ?_
    refine nk_p (i := .iload_n 3) (len := 1) (pc' := 497) mJ_0 (by decide +kernel) (ns_iload_n 3 rfl rfl) rfl ?_
    refine nk_p (i := .iconst 3) (len := 1) (pc' := 498) mJ_0 (by decide +kernel) (ns_iconst (c := 3) (by decide +kernel)) rfl ?_
    refine nk_p (i := .iadd) (len := 1) (pc' := 499) mJ_0 (by decide +kernel) ns_iadd rfl ?_
    refine nk_oiald (len := 1) (xs := zs) (N := (zs.length : Int)) (pc' := 500) mJ_0 (by decide +kernel) rfl h119.1 h119.2 rfl rfl ?_
    obtain ⟨r123, S124, h125, hr⟩ := nk_bde hr
    refine nk_callV (ci := 13) (n := 3) (x := 73) (len := 3) (j' := 116) (q' := 1) (r := r123) (S' := S124) (L2 := [(0, nk_r l2), (1, nk_i ((zs).getD (nk_w (l3 + 1)).toNat 0).toInt), (2, nk_i ((zs).getD (nk_w (l3 + 2)).toNat 0).toInt), (3, nk_i ((zs).getD (nk_w (l3 + 3)).toNat 0).toInt)]) (rest := [nk_i r120]) (st' := [nk_i r123, nk_i r120]) (pc' := 503) mJ_0 (by decide +kernel) (by decide +kernel) rfl rfl t_l2 (Nat.le_of_ble_eq_true rfl) mJ_116 (Nat.le_of_ble_eq_true rfl) rfl (ja_X13_fact_ok zs _ _ _ _ _ _ t_l2 h125) rfl ?_
    refine nk_icmp (c := .eq) (off := 172) (len := 3) (t := 675) (pc' := 506) mJ_0 (by decide +kernel) (by decide +kernel) rfl (fun hc => ?_) (fun hc => ?_)
    · have hr := nk_ifp (c := r120 = r123) hc hr
      obtain ⟨v126, h127, hr⟩ := nk_lte hr
      refine nk_p (i := .iinc 3 6) (len := 3) (pc' := 678) mJ_0 (by decide +kernel) (ns_iinc (c := 6) (L' := [(3, nk_i v126), (0, nk_o 0), (1, nk_r l1), (2, nk_r l2)]) 3 rfl (by decide +kernel) h127 rfl (by decide +kernel)) rfl ?_
      refine nk_p (i := .goto (-660)) (len := 3) (pc' := 18) mJ_0 (by decide +kernel) (ns_goto (by decide +kernel)) rfl ?_
      refine nk_sub [1, 2, 3, 0] (L' := [(0, nk_o 0), (1, nk_r l1), (2, nk_r l2), (3, nk_i v126)]) rfl ?_
      exact hrec18 _ _ _ _ _ t_l1 t_l2 hr
    · have hr := nk_ifn (c := r120 = r123) hc hr
      refine nk_p (i := .iconst 0) (len := 1) (pc' := 507) mJ_0 (by decide +kernel) (ns_iconst (c := 0) (by decide +kernel)) rfl ?_
      cases hr
      exact nk_iret (ty := .boolean) (len := 1) mJ_0 (by decide +kernel) rfl (nk_nar_z (by decide))
  have hr := nk_ifn hc12 hr
  by_cases hc13 : v2 = 13
  · have hr := nk_ifp hc13 hr
    refine nk_p (i := .tableswitch 642 0 21 #[103, 166, 189, 202, 215, 238, 261, 285, 299, 332, 365, 398, 432, 475, 508, 531, 554, 567, 580, 593, 606, 629]) (len := 103) (pc' := 508) mJ_0 (by decide +kernel) (ns_tsw (V := 13) hc13 (by decide +kernel)) rfl ?_
    refine nk_p (i := .aload_n 1) (len := 1) (pc' := 509) mJ_0 (by decide +kernel) (ns_aload_n 1 rfl rfl) rfl ?_
    refine nk_p (i := .aload_n 0) (len := 1) (pc' := 510) mJ_0 (by decide +kernel) (ns_oload_n 0 rfl rfl) rfl ?_
    refine nk_p (i := .iload_n 3) (len := 1) (pc' := 511) mJ_0 (by decide +kernel) (ns_iload_n 3 rfl rfl) rfl ?_
    refine nk_p (i := .iconst 1) (len := 1) (pc' := 512) mJ_0 (by decide +kernel) (ns_iconst (c := 1) (by decide +kernel)) rfl ?_
    refine nk_p (i := .iadd) (len := 1) (pc' := 513) mJ_0 (by decide +kernel) ns_iadd rfl ?_
    obtain ⟨h128, hr⟩ := nk_cke hr
    refine nk_oiald (len := 1) (xs := zs) (N := (zs.length : Int)) (pc' := 514) mJ_0 (by decide +kernel) rfl h128.1 h128.2 rfl rfl ?_
    refine nk_p (i := .aload_n 0) (len := 1) (pc' := 515) mJ_0 (by decide +kernel) (ns_oload_n 0 rfl rfl) rfl ?_
    refine nk_p (i := .iload_n 3) (len := 1) (pc' := 516) mJ_0 (by decide +kernel) (ns_iload_n 3 rfl rfl) rfl ?_
    refine nk_p (i := .iconst 2) (len := 1) (pc' := 517) mJ_0 (by decide +kernel) (ns_iconst (c := 2) (by decide +kernel)) rfl ?_
    refine nk_p (i := .iadd) (len := 1) (pc' := 518) mJ_0 (by decide +kernel) ns_iadd rfl ?_
    obtain ⟨h129, hr⟩ := nk_cke hr
    refine nk_oiald (len := 1) (xs := zs) (N := (zs.length : Int)) (pc' := 519) mJ_0 (by decide +kernel) rfl h129.1 h129.2 rfl rfl ?_
    obtain ⟨r130, S131, h132, hr⟩ := nk_bde hr
    refine nk_callV (ci := 11) (n := 2) (x := 74) (len := 3) (j' := 66) (q' := 1) (r := r130) (S' := S131) (L2 := [(0, nk_r l1), (1, nk_i ((zs).getD (nk_w (l3 + 1)).toNat 0).toInt), (2, nk_i ((zs).getD (nk_w (l3 + 2)).toNat 0).toInt)]) (rest := []) (st' := [nk_i r130]) (pc' := 522) mJ_0 (by decide +kernel) (by decide +kernel) rfl rfl t_l1 (Nat.le_of_ble_eq_true rfl) mJ_66 (Nat.le_of_ble_eq_true rfl) rfl (ja_X11_lengths_ok zs _ _ _ _ _ t_l1 h132) rfl ?_
    refine nk_p (i := .aload_n 2) (len := 1) (pc' := 523) mJ_0 (by decide +kernel) (ns_aload_n 2 rfl rfl) rfl ?_
    refine nk_p (i := .aload_n 0) (len := 1) (pc' := 524) mJ_0 (by decide +kernel) (ns_oload_n 0 rfl rfl) rfl ?_
    refine nk_p (i := .iload_n 3) (len := 1) (pc' := 525) mJ_0 (by decide +kernel) (ns_iload_n 3 rfl rfl) rfl ?_
    refine nk_p (i := .iconst 1) (len := 1) (pc' := 526) mJ_0 (by decide +kernel) (ns_iconst (c := 1) (by decide +kernel)) rfl ?_
    refine nk_p (i := .iadd) (len := 1) (pc' := 527) mJ_0 (by decide +kernel) ns_iadd rfl ?_
    refine nk_oiald (len := 1) (xs := zs) (N := (zs.length : Int)) (pc' := 528) mJ_0 (by decide +kernel) rfl h128.1 h128.2 rfl rfl ?_
    refine nk_p (i := .aload_n 0) (len := 1) (pc' := 529) mJ_0 (by decide +kernel) (ns_oload_n 0 rfl rfl) rfl ?_
    refine nk_p (i := .iload_n 3) (len := 1) (pc' := 530) mJ_0 (by decide +kernel) (ns_iload_n 3 rfl rfl) rfl ?_
    refine nk_p (i := .iconst 2) (len := 1) (pc' := 531) mJ_0 (by decide +kernel) (ns_iconst (c := 2) (by decide +kernel)) rfl ?_
    refine nk_p (i := .iadd) (len := 1) (pc' := 532) mJ_0 (by decide +kernel) ns_iadd rfl ?_
    refine nk_oiald (len := 1) (xs := zs) (N := (zs.length : Int)) (pc' := 533) mJ_0 (by decide +kernel) rfl h129.1 h129.2 rfl rfl ?_
    obtain ⟨r133, S134, h135, hr⟩ := nk_bde hr
    refine nk_callV (ci := 13) (n := 2) (x := 77) (len := 3) (j' := 180) (q' := 1) (r := r133) (S' := S134) (L2 := [(0, nk_r l2), (1, nk_i ((zs).getD (nk_w (l3 + 1)).toNat 0).toInt), (2, nk_i ((zs).getD (nk_w (l3 + 2)).toNat 0).toInt)]) (rest := [nk_i r130]) (st' := [nk_i r133, nk_i r130]) (pc' := 536) mJ_0 (by decide +kernel) (by decide +kernel) rfl rfl t_l2 (Nat.le_of_ble_eq_true rfl) mJ_180 (Nat.le_of_ble_eq_true rfl) rfl (ja_X13_lengths_ok zs _ _ _ _ _ t_l2 h135) rfl ?_
    refine nk_icmp (c := .eq) (off := 139) (len := 3) (t := 675) (pc' := 539) mJ_0 (by decide +kernel) (by decide +kernel) rfl (fun hc => ?_) (fun hc => ?_)
    · have hr := nk_ifp (c := r130 = r133) hc hr
      obtain ⟨v136, h137, hr⟩ := nk_lte hr
      refine nk_p (i := .iinc 3 6) (len := 3) (pc' := 678) mJ_0 (by decide +kernel) (ns_iinc (c := 6) (L' := [(3, nk_i v136), (0, nk_o 0), (1, nk_r l1), (2, nk_r l2)]) 3 rfl (by decide +kernel) h137 rfl (by decide +kernel)) rfl ?_
      refine nk_p (i := .goto (-660)) (len := 3) (pc' := 18) mJ_0 (by decide +kernel) (ns_goto (by decide +kernel)) rfl ?_
      refine nk_sub [1, 2, 3, 0] (L' := [(0, nk_o 0), (1, nk_r l1), (2, nk_r l2), (3, nk_i v136)]) rfl ?_
      exact hrec18 _ _ _ _ _ t_l1 t_l2 hr
    · have hr := nk_ifn (c := r130 = r133) hc hr
      refine nk_p (i := .iconst 0) (len := 1) (pc' := 540) mJ_0 (by decide +kernel) (ns_iconst (c := 0) (by decide +kernel)) rfl ?_
      cases hr
      exact nk_iret (ty := .boolean) (len := 1) mJ_0 (by decide +kernel) rfl (nk_nar_z (by decide))
  have hr := nk_ifn hc13 hr
  by_cases hc14 : v2 = 14
  · have hr := nk_ifp hc14 hr
    refine nk_p (i := .tableswitch 642 0 21 #[103, 166, 189, 202, 215, 238, 261, 285, 299, 332, 365, 398, 432, 475, 508, 531, 554, 567, 580, 593, 606, 629]) (len := 103) (pc' := 541) mJ_0 (by decide +kernel) (ns_tsw (V := 14) hc14 (by decide +kernel)) rfl ?_
    refine nk_p (i := .aload_n 1) (len := 1) (pc' := 542) mJ_0 (by decide +kernel) (ns_aload_n 1 rfl rfl) rfl ?_
    refine nk_p (i := .aload_n 0) (len := 1) (pc' := 543) mJ_0 (by decide +kernel) (ns_oload_n 0 rfl rfl) rfl ?_
    refine nk_p (i := .iload_n 3) (len := 1) (pc' := 544) mJ_0 (by decide +kernel) (ns_iload_n 3 rfl rfl) rfl ?_
    refine nk_p (i := .iconst 1) (len := 1) (pc' := 545) mJ_0 (by decide +kernel) (ns_iconst (c := 1) (by decide +kernel)) rfl ?_
    refine nk_p (i := .iadd) (len := 1) (pc' := 546) mJ_0 (by decide +kernel) ns_iadd rfl ?_
    obtain ⟨h138, hr⟩ := nk_cke hr
    refine nk_oiald (len := 1) (xs := zs) (N := (zs.length : Int)) (pc' := 547) mJ_0 (by decide +kernel) rfl h138.1 h138.2 rfl rfl ?_
    obtain ⟨r139, S140, h141, hr⟩ := nk_bde hr
    refine nk_callV (ci := 11) (n := 1) (x := 78) (len := 3) (j' := 63) (q' := 1) (r := r139) (S' := S140) (L2 := [(0, nk_r l1), (1, nk_i ((zs).getD (nk_w (l3 + 1)).toNat 0).toInt)]) (rest := []) (st' := [nk_i r139]) (pc' := 550) mJ_0 (by decide +kernel) (by decide +kernel) rfl rfl t_l1 (Nat.le_of_ble_eq_true rfl) mJ_63 (Nat.le_of_ble_eq_true rfl) rfl (ja_X11_input_ok zs _ _ _ _ t_l1 h141) rfl ?_
    refine nk_p (i := .aload_n 2) (len := 1) (pc' := 551) mJ_0 (by decide +kernel) (ns_aload_n 2 rfl rfl) rfl ?_
    refine nk_p (i := .aload_n 0) (len := 1) (pc' := 552) mJ_0 (by decide +kernel) (ns_oload_n 0 rfl rfl) rfl ?_
    refine nk_p (i := .iload_n 3) (len := 1) (pc' := 553) mJ_0 (by decide +kernel) (ns_iload_n 3 rfl rfl) rfl ?_
    refine nk_p (i := .iconst 1) (len := 1) (pc' := 554) mJ_0 (by decide +kernel) (ns_iconst (c := 1) (by decide +kernel)) rfl ?_
    refine nk_p (i := .iadd) (len := 1) (pc' := 555) mJ_0 (by decide +kernel) ns_iadd rfl ?_
    refine nk_oiald (len := 1) (xs := zs) (N := (zs.length : Int)) (pc' := 556) mJ_0 (by decide +kernel) rfl h138.1 h138.2 rfl rfl ?_
    obtain ⟨r142, S143, h144, hr⟩ := nk_bde hr
    refine nk_callV (ci := 13) (n := 1) (x := 81) (len := 3) (j' := 137) (q' := 1) (r := r142) (S' := S143) (L2 := [(0, nk_r l2), (1, nk_i ((zs).getD (nk_w (l3 + 1)).toNat 0).toInt)]) (rest := [nk_i r139]) (st' := [nk_i r142, nk_i r139]) (pc' := 559) mJ_0 (by decide +kernel) (by decide +kernel) rfl rfl t_l2 (Nat.le_of_ble_eq_true rfl) mJ_137 (Nat.le_of_ble_eq_true rfl) rfl (ja_X13_input_ok zs _ _ _ _ t_l2 h144) rfl ?_
    refine nk_icmp (c := .eq) (off := 116) (len := 3) (t := 675) (pc' := 562) mJ_0 (by decide +kernel) (by decide +kernel) rfl (fun hc => ?_) (fun hc => ?_)
    · have hr := nk_ifp (c := r139 = r142) hc hr
      obtain ⟨v145, h146, hr⟩ := nk_lte hr
      refine nk_p (i := .iinc 3 6) (len := 3) (pc' := 678) mJ_0 (by decide +kernel) (ns_iinc (c := 6) (L' := [(3, nk_i v145), (0, nk_o 0), (1, nk_r l1), (2, nk_r l2)]) 3 rfl (by decide +kernel) h146 rfl (by decide +kernel)) rfl ?_
      refine nk_p (i := .goto (-660)) (len := 3) (pc' := 18) mJ_0 (by decide +kernel) (ns_goto (by decide +kernel)) rfl ?_
      refine nk_sub [1, 2, 3, 0] (L' := [(0, nk_o 0), (1, nk_r l1), (2, nk_r l2), (3, nk_i v145)]) rfl ?_
      exact hrec18 _ _ _ _ _ t_l1 t_l2 hr
    · have hr := nk_ifn (c := r139 = r142) hc hr
      refine nk_p (i := .iconst 0) (len := 1) (pc' := 563) mJ_0 (by decide +kernel) (ns_iconst (c := 0) (by decide +kernel)) rfl ?_
      cases hr
      exact nk_iret (ty := .boolean) (len := 1) mJ_0 (by decide +kernel) rfl (nk_nar_z (by decide))
  have hr := nk_ifn hc14 hr
  by_cases hc15 : v2 = 15
  · have hr := nk_ifp hc15 hr
    refine nk_p (i := .tableswitch 642 0 21 #[103, 166, 189, 202, 215, 238, 261, 285, 299, 332, 365, 398, 432, 475, 508, 531, 554, 567, 580, 593, 606, 629]) (len := 103) (pc' := 564) mJ_0 (by decide +kernel) (ns_tsw (V := 15) hc15 (by decide +kernel)) rfl ?_
    refine nk_p (i := .aload_n 1) (len := 1) (pc' := 565) mJ_0 (by decide +kernel) (ns_aload_n 1 rfl rfl) rfl ?_
    refine nk_p (i := .aload_n 0) (len := 1) (pc' := 566) mJ_0 (by decide +kernel) (ns_oload_n 0 rfl rfl) rfl ?_
    refine nk_p (i := .iload_n 3) (len := 1) (pc' := 567) mJ_0 (by decide +kernel) (ns_iload_n 3 rfl rfl) rfl ?_
    refine nk_p (i := .iconst 1) (len := 1) (pc' := 568) mJ_0 (by decide +kernel) (ns_iconst (c := 1) (by decide +kernel)) rfl ?_
    refine nk_p (i := .iadd) (len := 1) (pc' := 569) mJ_0 (by decide +kernel) ns_iadd rfl ?_
    obtain ⟨h147, hr⟩ := nk_cke hr
    refine nk_oiald (len := 1) (xs := zs) (N := (zs.length : Int)) (pc' := 570) mJ_0 (by decide +kernel) rfl h147.1 h147.2 rfl rfl ?_
    obtain ⟨r148, S149, h150, hr⟩ := nk_bde hr
    refine nk_callV (ci := 11) (n := 1) (x := 82) (len := 3) (j' := 71) (q' := 1) (r := r148) (S' := S149) (L2 := [(0, nk_r l1), (1, nk_i ((zs).getD (nk_w (l3 + 1)).toNat 0).toInt)]) (rest := []) (st' := [nk_i r148]) (pc' := 573) mJ_0 (by decide +kernel) (by decide +kernel) rfl rfl t_l1 (Nat.le_of_ble_eq_true rfl) mJ_71 (Nat.le_of_ble_eq_true rfl) rfl (ja_X11_run_ok zs _ _ _ _ t_l1 h150) rfl ?_
    refine nk_p (i := .aload_n 2) (len := 1) (pc' := 574) mJ_0 (by decide +kernel) (ns_aload_n 2 rfl rfl) rfl ?_
    refine nk_p (i := .aload_n 0) (len := 1) (pc' := 575) mJ_0 (by decide +kernel) (ns_oload_n 0 rfl rfl) rfl ?_
    refine nk_p (i := .iload_n 3) (len := 1) (pc' := 576) mJ_0 (by decide +kernel) (ns_iload_n 3 rfl rfl) rfl ?_
    refine nk_p (i := .iconst 1) (len := 1) (pc' := 577) mJ_0 (by decide +kernel) (ns_iconst (c := 1) (by decide +kernel)) rfl ?_
    refine nk_p (i := .iadd) (len := 1) (pc' := 578) mJ_0 (by decide +kernel) ns_iadd rfl ?_
    refine nk_oiald (len := 1) (xs := zs) (N := (zs.length : Int)) (pc' := 579) mJ_0 (by decide +kernel) rfl h147.1 h147.2 rfl rfl ?_
    obtain ⟨r151, S152, h153, hr⟩ := nk_bde hr
    refine nk_callV (ci := 13) (n := 1) (x := 85) (len := 3) (j' := 221) (q' := 1) (r := r151) (S' := S152) (L2 := [(0, nk_r l2), (1, nk_i ((zs).getD (nk_w (l3 + 1)).toNat 0).toInt)]) (rest := [nk_i r148]) (st' := [nk_i r151, nk_i r148]) (pc' := 582) mJ_0 (by decide +kernel) (by decide +kernel) rfl rfl t_l2 (Nat.le_of_ble_eq_true rfl) mJ_221 (Nat.le_of_ble_eq_true rfl) rfl (ja_X13_run_ok zs _ _ _ _ t_l2 h153) rfl ?_
    refine nk_icmp (c := .eq) (off := 93) (len := 3) (t := 675) (pc' := 585) mJ_0 (by decide +kernel) (by decide +kernel) rfl (fun hc => ?_) (fun hc => ?_)
    · have hr := nk_ifp (c := r148 = r151) hc hr
      obtain ⟨v154, h155, hr⟩ := nk_lte hr
      refine nk_p (i := .iinc 3 6) (len := 3) (pc' := 678) mJ_0 (by decide +kernel) (ns_iinc (c := 6) (L' := [(3, nk_i v154), (0, nk_o 0), (1, nk_r l1), (2, nk_r l2)]) 3 rfl (by decide +kernel) h155 rfl (by decide +kernel)) rfl ?_
      refine nk_p (i := .goto (-660)) (len := 3) (pc' := 18) mJ_0 (by decide +kernel) (ns_goto (by decide +kernel)) rfl ?_
      refine nk_sub [1, 2, 3, 0] (L' := [(0, nk_o 0), (1, nk_r l1), (2, nk_r l2), (3, nk_i v154)]) rfl ?_
      exact hrec18 _ _ _ _ _ t_l1 t_l2 hr
    · have hr := nk_ifn (c := r148 = r151) hc hr
      refine nk_p (i := .iconst 0) (len := 1) (pc' := 586) mJ_0 (by decide +kernel) (ns_iconst (c := 0) (by decide +kernel)) rfl ?_
      cases hr
      exact nk_iret (ty := .boolean) (len := 1) mJ_0 (by decide +kernel) rfl (nk_nar_z (by decide))
  have hr := nk_ifn hc15 hr
  by_cases hc16 : v2 = 16
  · have hr := nk_ifp hc16 hr
    refine nk_p (i := .tableswitch 642 0 21 #[103, 166, 189, 202, 215, 238, 261, 285, 299, 332, 365, 398, 432, 475, 508, 531, 554, 567, 580, 593, 606, 629]) (len := 103) (pc' := 587) mJ_0 (by decide +kernel) (ns_tsw (V := 16) hc16 (by decide +kernel)) rfl ?_
    refine nk_p (i := .aload_n 1) (len := 1) (pc' := 588) mJ_0 (by decide +kernel) (ns_aload_n 1 rfl rfl) rfl ?_
    obtain ⟨r156, S157, h158, hr⟩ := nk_bde hr
    refine nk_callV (ci := 11) (n := 0) (x := 86) (len := 3) (j' := 75) (q' := 1) (r := r156) (S' := S157) (L2 := [(0, nk_r l1)]) (rest := []) (st' := [nk_i r156]) (pc' := 591) mJ_0 (by decide +kernel) (by decide +kernel) rfl rfl t_l1 (Nat.le_of_ble_eq_true rfl) mJ_75 (Nat.le_of_ble_eq_true rfl) rfl (ja_X11_steps_ok zs _ _ _ t_l1 h158) rfl ?_
    refine nk_p (i := .aload_n 2) (len := 1) (pc' := 592) mJ_0 (by decide +kernel) (ns_aload_n 2 rfl rfl) rfl ?_
    obtain ⟨r159, S160, h161, hr⟩ := nk_bde hr
    refine nk_callV (ci := 13) (n := 0) (x := 89) (len := 3) (j' := 229) (q' := 1) (r := r159) (S' := S160) (L2 := [(0, nk_r l2)]) (rest := [nk_i r156]) (st' := [nk_i r159, nk_i r156]) (pc' := 595) mJ_0 (by decide +kernel) (by decide +kernel) rfl rfl t_l2 (Nat.le_of_ble_eq_true rfl) mJ_229 (Nat.le_of_ble_eq_true rfl) rfl (ja_X13_steps_ok zs _ _ _ t_l2 h161) rfl ?_
    refine nk_icmp (c := .eq) (off := 80) (len := 3) (t := 675) (pc' := 598) mJ_0 (by decide +kernel) (by decide +kernel) rfl (fun hc => ?_) (fun hc => ?_)
    · have hr := nk_ifp (c := r156 = r159) hc hr
      obtain ⟨v162, h163, hr⟩ := nk_lte hr
      refine nk_p (i := .iinc 3 6) (len := 3) (pc' := 678) mJ_0 (by decide +kernel) (ns_iinc (c := 6) (L' := [(3, nk_i v162), (0, nk_o 0), (1, nk_r l1), (2, nk_r l2)]) 3 rfl (by decide +kernel) h163 rfl (by decide +kernel)) rfl ?_
      refine nk_p (i := .goto (-660)) (len := 3) (pc' := 18) mJ_0 (by decide +kernel) (ns_goto (by decide +kernel)) rfl ?_
      refine nk_sub [1, 2, 3, 0] (L' := [(0, nk_o 0), (1, nk_r l1), (2, nk_r l2), (3, nk_i v162)]) rfl ?_
      exact hrec18 _ _ _ _ _ t_l1 t_l2 hr
    · have hr := nk_ifn (c := r156 = r159) hc hr
      refine nk_p (i := .iconst 0) (len := 1) (pc' := 599) mJ_0 (by decide +kernel) (ns_iconst (c := 0) (by decide +kernel)) rfl ?_
      cases hr
      exact nk_iret (ty := .boolean) (len := 1) mJ_0 (by decide +kernel) rfl (nk_nar_z (by decide))
  have hr := nk_ifn hc16 hr
  by_cases hc17 : v2 = 17
  · have hr := nk_ifp hc17 hr
    refine nk_p (i := .tableswitch 642 0 21 #[103, 166, 189, 202, 215, 238, 261, 285, 299, 332, 365, 398, 432, 475, 508, 531, 554, 567, 580, 593, 606, 629]) (len := 103) (pc' := 600) mJ_0 (by decide +kernel) (ns_tsw (V := 17) hc17 (by decide +kernel)) rfl ?_
    refine nk_p (i := .aload_n 1) (len := 1) (pc' := 601) mJ_0 (by decide +kernel) (ns_aload_n 1 rfl rfl) rfl ?_
    obtain ⟨r164, S165, h166, hr⟩ := nk_bde hr
    refine nk_callV (ci := 11) (n := 0) (x := 90) (len := 3) (j' := 70) (q' := 1) (r := r164) (S' := S165) (L2 := [(0, nk_r l1)]) (rest := []) (st' := [nk_i r164]) (pc' := 604) mJ_0 (by decide +kernel) (by decide +kernel) rfl rfl t_l1 (Nat.le_of_ble_eq_true rfl) mJ_70 (Nat.le_of_ble_eq_true rfl) rfl (ja_X11_place_ok zs _ _ _ t_l1 h166) rfl ?_
    refine nk_p (i := .aload_n 2) (len := 1) (pc' := 605) mJ_0 (by decide +kernel) (ns_aload_n 2 rfl rfl) rfl ?_
    obtain ⟨r167, S168, h169, hr⟩ := nk_bde hr
    refine nk_callV (ci := 13) (n := 0) (x := 93) (len := 3) (j' := 206) (q' := 1) (r := r167) (S' := S168) (L2 := [(0, nk_r l2)]) (rest := [nk_i r164]) (st' := [nk_i r167, nk_i r164]) (pc' := 608) mJ_0 (by decide +kernel) (by decide +kernel) rfl rfl t_l2 (Nat.le_of_ble_eq_true rfl) mJ_206 (Nat.le_of_ble_eq_true rfl) rfl (ja_X13_place_ok zs _ _ _ t_l2 h169) rfl ?_
    refine nk_icmp (c := .eq) (off := 67) (len := 3) (t := 675) (pc' := 611) mJ_0 (by decide +kernel) (by decide +kernel) rfl (fun hc => ?_) (fun hc => ?_)
    · have hr := nk_ifp (c := r164 = r167) hc hr
      obtain ⟨v170, h171, hr⟩ := nk_lte hr
      refine nk_p (i := .iinc 3 6) (len := 3) (pc' := 678) mJ_0 (by decide +kernel) (ns_iinc (c := 6) (L' := [(3, nk_i v170), (0, nk_o 0), (1, nk_r l1), (2, nk_r l2)]) 3 rfl (by decide +kernel) h171 rfl (by decide +kernel)) rfl ?_
      refine nk_p (i := .goto (-660)) (len := 3) (pc' := 18) mJ_0 (by decide +kernel) (ns_goto (by decide +kernel)) rfl ?_
      refine nk_sub [1, 2, 3, 0] (L' := [(0, nk_o 0), (1, nk_r l1), (2, nk_r l2), (3, nk_i v170)]) rfl ?_
      exact hrec18 _ _ _ _ _ t_l1 t_l2 hr
    · have hr := nk_ifn (c := r164 = r167) hc hr
      refine nk_p (i := .iconst 0) (len := 1) (pc' := 612) mJ_0 (by decide +kernel) (ns_iconst (c := 0) (by decide +kernel)) rfl ?_
      cases hr
      exact nk_iret (ty := .boolean) (len := 1) mJ_0 (by decide +kernel) rfl (nk_nar_z (by decide))
  have hr := nk_ifn hc17 hr
  by_cases hc18 : v2 = 18
  · have hr := nk_ifp hc18 hr
    refine nk_p (i := .tableswitch 642 0 21 #[103, 166, 189, 202, 215, 238, 261, 285, 299, 332, 365, 398, 432, 475, 508, 531, 554, 567, 580, 593, 606, 629]) (len := 103) (pc' := 613) mJ_0 (by decide +kernel) (ns_tsw (V := 18) hc18 (by decide +kernel)) rfl ?_
    refine nk_p (i := .aload_n 1) (len := 1) (pc' := 614) mJ_0 (by decide +kernel) (ns_aload_n 1 rfl rfl) rfl ?_
    obtain ⟨r172, S173, h174, hr⟩ := nk_bde hr
    refine nk_callV (ci := 11) (n := 0) (x := 94) (len := 3) (j' := 77) (q' := 1) (r := r172) (S' := S173) (L2 := [(0, nk_r l1)]) (rest := []) (st' := [nk_i r172]) (pc' := 617) mJ_0 (by decide +kernel) (by decide +kernel) rfl rfl t_l1 (Nat.le_of_ble_eq_true rfl) mJ_77 (Nat.le_of_ble_eq_true rfl) rfl (ja_X11_thrown_ok zs _ _ _ t_l1 h174) rfl ?_
    refine nk_p (i := .aload_n 2) (len := 1) (pc' := 618) mJ_0 (by decide +kernel) (ns_aload_n 2 rfl rfl) rfl ?_
    obtain ⟨r175, S176, h177, hr⟩ := nk_bde hr
    refine nk_callV (ci := 13) (n := 0) (x := 97) (len := 3) (j' := 234) (q' := 1) (r := r175) (S' := S176) (L2 := [(0, nk_r l2)]) (rest := [nk_i r172]) (st' := [nk_i r175, nk_i r172]) (pc' := 621) mJ_0 (by decide +kernel) (by decide +kernel) rfl rfl t_l2 (Nat.le_of_ble_eq_true rfl) mJ_234 (Nat.le_of_ble_eq_true rfl) rfl (ja_X13_thrown_ok zs _ _ _ t_l2 h177) rfl ?_
    refine nk_icmp (c := .eq) (off := 54) (len := 3) (t := 675) (pc' := 624) mJ_0 (by decide +kernel) (by decide +kernel) rfl (fun hc => ?_) (fun hc => ?_)
    · have hr := nk_ifp (c := r172 = r175) hc hr
      obtain ⟨v178, h179, hr⟩ := nk_lte hr
      refine nk_p (i := .iinc 3 6) (len := 3) (pc' := 678) mJ_0 (by decide +kernel) (ns_iinc (c := 6) (L' := [(3, nk_i v178), (0, nk_o 0), (1, nk_r l1), (2, nk_r l2)]) 3 rfl (by decide +kernel) h179 rfl (by decide +kernel)) rfl ?_
      refine nk_p (i := .goto (-660)) (len := 3) (pc' := 18) mJ_0 (by decide +kernel) (ns_goto (by decide +kernel)) rfl ?_
      refine nk_sub [1, 2, 3, 0] (L' := [(0, nk_o 0), (1, nk_r l1), (2, nk_r l2), (3, nk_i v178)]) rfl ?_
      exact hrec18 _ _ _ _ _ t_l1 t_l2 hr
    · have hr := nk_ifn (c := r172 = r175) hc hr
      refine nk_p (i := .iconst 0) (len := 1) (pc' := 625) mJ_0 (by decide +kernel) (ns_iconst (c := 0) (by decide +kernel)) rfl ?_
      cases hr
      exact nk_iret (ty := .boolean) (len := 1) mJ_0 (by decide +kernel) rfl (nk_nar_z (by decide))
  have hr := nk_ifn hc18 hr
  by_cases hc19 : v2 = 19
  · have hr := nk_ifp hc19 hr
    refine nk_p (i := .tableswitch 642 0 21 #[103, 166, 189, 202, 215, 238, 261, 285, 299, 332, 365, 398, 432, 475, 508, 531, 554, 567, 580, 593, 606, 629]) (len := 103) (pc' := 626) mJ_0 (by decide +kernel) (ns_tsw (V := 19) hc19 (by decide +kernel)) rfl ?_
    refine nk_p (i := .aload_n 1) (len := 1) (pc' := 627) mJ_0 (by decide +kernel) (ns_aload_n 1 rfl rfl) rfl ?_
    obtain ⟨r180, S181, h182, hr⟩ := nk_bde hr
    refine nk_callV (ci := 11) (n := 0) (x := 98) (len := 3) (j' := 79) (q' := 1) (r := r180) (S' := S181) (L2 := [(0, nk_r l1)]) (rest := []) (st' := [nk_i r180]) (pc' := 630) mJ_0 (by decide +kernel) (by decide +kernel) rfl rfl t_l1 (Nat.le_of_ble_eq_true rfl) mJ_79 (Nat.le_of_ble_eq_true rfl) rfl (ja_X11_written_ok zs _ _ _ t_l1 h182) rfl ?_
    refine nk_p (i := .aload_n 2) (len := 1) (pc' := 631) mJ_0 (by decide +kernel) (ns_aload_n 2 rfl rfl) rfl ?_
    obtain ⟨r183, S184, h185, hr⟩ := nk_bde hr
    refine nk_callV (ci := 13) (n := 0) (x := 101) (len := 3) (j' := 245) (q' := 1) (r := r183) (S' := S184) (L2 := [(0, nk_r l2)]) (rest := [nk_i r180]) (st' := [nk_i r183, nk_i r180]) (pc' := 634) mJ_0 (by decide +kernel) (by decide +kernel) rfl rfl t_l2 (Nat.le_of_ble_eq_true rfl) mJ_245 (Nat.le_of_ble_eq_true rfl) rfl (ja_X13_written_ok zs _ _ _ t_l2 h185) rfl ?_
    refine nk_icmp (c := .eq) (off := 41) (len := 3) (t := 675) (pc' := 637) mJ_0 (by decide +kernel) (by decide +kernel) rfl (fun hc => ?_) (fun hc => ?_)
    · have hr := nk_ifp (c := r180 = r183) hc hr
      obtain ⟨v186, h187, hr⟩ := nk_lte hr
      refine nk_p (i := .iinc 3 6) (len := 3) (pc' := 678) mJ_0 (by decide +kernel) (ns_iinc (c := 6) (L' := [(3, nk_i v186), (0, nk_o 0), (1, nk_r l1), (2, nk_r l2)]) 3 rfl (by decide +kernel) h187 rfl (by decide +kernel)) rfl ?_
      refine nk_p (i := .goto (-660)) (len := 3) (pc' := 18) mJ_0 (by decide +kernel) (ns_goto (by decide +kernel)) rfl ?_
      refine nk_sub [1, 2, 3, 0] (L' := [(0, nk_o 0), (1, nk_r l1), (2, nk_r l2), (3, nk_i v186)]) rfl ?_
      exact hrec18 _ _ _ _ _ t_l1 t_l2 hr
    · have hr := nk_ifn (c := r180 = r183) hc hr
      refine nk_p (i := .iconst 0) (len := 1) (pc' := 638) mJ_0 (by decide +kernel) (ns_iconst (c := 0) (by decide +kernel)) rfl ?_
      cases hr
      exact nk_iret (ty := .boolean) (len := 1) mJ_0 (by decide +kernel) rfl (nk_nar_z (by decide))
  have hr := nk_ifn hc19 hr
  by_cases hc20 : v2 = 20
  · have hr := nk_ifp hc20 hr
    refine nk_p (i := .tableswitch 642 0 21 #[103, 166, 189, 202, 215, 238, 261, 285, 299, 332, 365, 398, 432, 475, 508, 531, 554, 567, 580, 593, 606, 629]) (len := 103) (pc' := 639) mJ_0 (by decide +kernel) (ns_tsw (V := 20) hc20 (by decide +kernel)) rfl ?_
    refine nk_p (i := .aload_n 1) (len := 1) (pc' := 640) mJ_0 (by decide +kernel) (ns_aload_n 1 rfl rfl) rfl ?_
    refine nk_p (i := .aload_n 0) (len := 1) (pc' := 641) mJ_0 (by decide +kernel) (ns_oload_n 0 rfl rfl) rfl ?_
    refine nk_p (i := .iload_n 3) (len := 1) (pc' := 642) mJ_0 (by decide +kernel) (ns_iload_n 3 rfl rfl) rfl ?_
    refine nk_p (i := .iconst 1) (len := 1) (pc' := 643) mJ_0 (by decide +kernel) (ns_iconst (c := 1) (by decide +kernel)) rfl ?_
    refine nk_p (i := .iadd) (len := 1) (pc' := 644) mJ_0 (by decide +kernel) ns_iadd rfl ?_
    obtain ⟨h188, hr⟩ := nk_cke hr
    refine nk_oiald (len := 1) (xs := zs) (N := (zs.length : Int)) (pc' := 645) mJ_0 (by decide +kernel) rfl h188.1 h188.2 rfl rfl ?_
    obtain ⟨r189, S190, h191, hr⟩ := nk_bde hr
    refine nk_callV (ci := 11) (n := 1) (x := 102) (len := 3) (j' := 69) (q' := 1) (r := r189) (S' := S190) (L2 := [(0, nk_r l1), (1, nk_i ((zs).getD (nk_w (l3 + 1)).toNat 0).toInt)]) (rest := []) (st' := [nk_i r189]) (pc' := 648) mJ_0 (by decide +kernel) (by decide +kernel) rfl rfl t_l1 (Nat.le_of_ble_eq_true rfl) mJ_69 (Nat.le_of_ble_eq_true rfl) rfl (ja_X11_out_ok zs _ _ _ _ t_l1 h191) rfl ?_
    refine nk_p (i := .aload_n 2) (len := 1) (pc' := 649) mJ_0 (by decide +kernel) (ns_aload_n 2 rfl rfl) rfl ?_
    refine nk_p (i := .aload_n 0) (len := 1) (pc' := 650) mJ_0 (by decide +kernel) (ns_oload_n 0 rfl rfl) rfl ?_
    refine nk_p (i := .iload_n 3) (len := 1) (pc' := 651) mJ_0 (by decide +kernel) (ns_iload_n 3 rfl rfl) rfl ?_
    refine nk_p (i := .iconst 1) (len := 1) (pc' := 652) mJ_0 (by decide +kernel) (ns_iconst (c := 1) (by decide +kernel)) rfl ?_
    refine nk_p (i := .iadd) (len := 1) (pc' := 653) mJ_0 (by decide +kernel) ns_iadd rfl ?_
    refine nk_oiald (len := 1) (xs := zs) (N := (zs.length : Int)) (pc' := 654) mJ_0 (by decide +kernel) rfl h188.1 h188.2 rfl rfl ?_
    obtain ⟨r192, S193, h194, hr⟩ := nk_bde hr
    refine nk_callV (ci := 13) (n := 1) (x := 105) (len := 3) (j' := 205) (q' := 1) (r := r192) (S' := S193) (L2 := [(0, nk_r l2), (1, nk_i ((zs).getD (nk_w (l3 + 1)).toNat 0).toInt)]) (rest := [nk_i r189]) (st' := [nk_i r192, nk_i r189]) (pc' := 657) mJ_0 (by decide +kernel) (by decide +kernel) rfl rfl t_l2 (Nat.le_of_ble_eq_true rfl) mJ_205 (Nat.le_of_ble_eq_true rfl) rfl (ja_X13_out_ok zs _ _ _ _ t_l2 h194) rfl ?_
    refine nk_icmp (c := .eq) (off := 18) (len := 3) (t := 675) (pc' := 660) mJ_0 (by decide +kernel) (by decide +kernel) rfl (fun hc => ?_) (fun hc => ?_)
    · have hr := nk_ifp (c := r189 = r192) hc hr
      obtain ⟨v195, h196, hr⟩ := nk_lte hr
      refine nk_p (i := .iinc 3 6) (len := 3) (pc' := 678) mJ_0 (by decide +kernel) (ns_iinc (c := 6) (L' := [(3, nk_i v195), (0, nk_o 0), (1, nk_r l1), (2, nk_r l2)]) 3 rfl (by decide +kernel) h196 rfl (by decide +kernel)) rfl ?_
      refine nk_p (i := .goto (-660)) (len := 3) (pc' := 18) mJ_0 (by decide +kernel) (ns_goto (by decide +kernel)) rfl ?_
      refine nk_sub [1, 2, 3, 0] (L' := [(0, nk_o 0), (1, nk_r l1), (2, nk_r l2), (3, nk_i v195)]) rfl ?_
      exact hrec18 _ _ _ _ _ t_l1 t_l2 hr
    · have hr := nk_ifn (c := r189 = r192) hc hr
      refine nk_p (i := .iconst 0) (len := 1) (pc' := 661) mJ_0 (by decide +kernel) (ns_iconst (c := 0) (by decide +kernel)) rfl ?_
      cases hr
      exact nk_iret (ty := .boolean) (len := 1) mJ_0 (by decide +kernel) rfl (nk_nar_z (by decide))
  have hr := nk_ifn hc20 hr
  by_cases hc21 : v2 = 21
  · have hr := nk_ifp hc21 hr
    refine nk_p (i := .tableswitch 642 0 21 #[103, 166, 189, 202, 215, 238, 261, 285, 299, 332, 365, 398, 432, 475, 508, 531, 554, 567, 580, 593, 606, 629]) (len := 103) (pc' := 662) mJ_0 (by decide +kernel) (ns_tsw (V := 21) hc21 (by decide +kernel)) rfl ?_
    refine nk_p (i := .aload_n 1) (len := 1) (pc' := 663) mJ_0 (by decide +kernel) (ns_aload_n 1 rfl rfl) rfl ?_
    obtain ⟨r197, S198, h199, hr⟩ := nk_bde hr
    refine nk_callV (ci := 11) (n := 0) (x := 106) (len := 3) (j' := 76) (q' := 1) (r := r197) (S' := S198) (L2 := [(0, nk_r l1)]) (rest := []) (st' := [nk_i r197]) (pc' := 666) mJ_0 (by decide +kernel) (by decide +kernel) rfl rfl t_l1 (Nat.le_of_ble_eq_true rfl) mJ_76 (Nat.le_of_ble_eq_true rfl) rfl (ja_X11_strays_ok zs _ _ _ t_l1 h199) rfl ?_
    refine nk_p (i := .aload_n 2) (len := 1) (pc' := 667) mJ_0 (by decide +kernel) (ns_aload_n 2 rfl rfl) rfl ?_
    obtain ⟨r200, S201, h202, hr⟩ := nk_bde hr
    refine nk_callV (ci := 13) (n := 0) (x := 109) (len := 3) (j' := 230) (q' := 1) (r := r200) (S' := S201) (L2 := [(0, nk_r l2)]) (rest := [nk_i r197]) (st' := [nk_i r200, nk_i r197]) (pc' := 670) mJ_0 (by decide +kernel) (by decide +kernel) rfl rfl t_l2 (Nat.le_of_ble_eq_true rfl) mJ_230 (Nat.le_of_ble_eq_true rfl) rfl (ja_X13_strays_ok zs _ _ _ t_l2 h202) rfl ?_
    refine nk_icmp (c := .eq) (off := 5) (len := 3) (t := 675) (pc' := 673) mJ_0 (by decide +kernel) (by decide +kernel) rfl (fun hc => ?_) (fun hc => ?_)
    · have hr := nk_ifp (c := r197 = r200) hc hr
      obtain ⟨v203, h204, hr⟩ := nk_lte hr
      refine nk_p (i := .iinc 3 6) (len := 3) (pc' := 678) mJ_0 (by decide +kernel) (ns_iinc (c := 6) (L' := [(3, nk_i v203), (0, nk_o 0), (1, nk_r l1), (2, nk_r l2)]) 3 rfl (by decide +kernel) h204 rfl (by decide +kernel)) rfl ?_
      refine nk_p (i := .goto (-660)) (len := 3) (pc' := 18) mJ_0 (by decide +kernel) (ns_goto (by decide +kernel)) rfl ?_
      refine nk_sub [1, 2, 3, 0] (L' := [(0, nk_o 0), (1, nk_r l1), (2, nk_r l2), (3, nk_i v203)]) rfl ?_
      exact hrec18 _ _ _ _ _ t_l1 t_l2 hr
    · have hr := nk_ifn (c := r197 = r200) hc hr
      refine nk_p (i := .iconst 0) (len := 1) (pc' := 674) mJ_0 (by decide +kernel) (ns_iconst (c := 0) (by decide +kernel)) rfl ?_
      cases hr
      exact nk_iret (ty := .boolean) (len := 1) mJ_0 (by decide +kernel) rfl (nk_nar_z (by decide))
  have hr := nk_ifn hc21 hr
  refine nk_p (i := .tableswitch 642 0 21 #[103, 166, 189, 202, 215, 238, 261, 285, 299, 332, 365, 398, 432, 475, 508, 531, 554, 567, 580, 593, 606, 629]) (len := 103) (pc' := 675) mJ_0 (by decide +kernel) (ns_tsd (by omega) (by decide +kernel)) rfl ?_
  obtain ⟨v205, h206, hr⟩ := nk_lte hr
  refine nk_p (i := .iinc 3 6) (len := 3) (pc' := 678) mJ_0 (by decide +kernel) (ns_iinc (c := 6) (L' := [(3, nk_i v205), (0, nk_o 0), (1, nk_r l1), (2, nk_r l2)]) 3 rfl (by decide +kernel) h206 rfl (by decide +kernel)) rfl ?_
  refine nk_p (i := .goto (-660)) (len := 3) (pc' := 18) mJ_0 (by decide +kernel) (ns_goto (by decide +kernel)) rfl ?_
  refine nk_sub [1, 2, 3, 0] (L' := [(0, nk_o 0), (1, nk_r l1), (2, nk_r l2), (3, nk_i v205)]) rfl ?_
  exact hrec18 _ _ _ _ _ t_l1 t_l2 hr
noncomputable def ja_L_law_b18 (zs : List Int32) (rec18 : Nat → Nat → Int → nk_S → Option (Int × nk_S)) (l1 : Nat) (l2 : Nat) (l3 : Int) (S : nk_S) : Option (Int × nk_S) :=
  if zs.length < 2147483648 then
  if (nk_w ((zs.length : Int) - 6)) < l3 then
    some (1, S)
  else
    ja_L_law_b27 zs rec18 l1 l2 l3 S
  else none
theorem ja_L_law_b18_ok (zs : List Int32) {rec18 : Nat → Nat → Int → nk_S → Option (Int × nk_S)} (hrec18 : ∀ (l1 : Nat) (l2 : Nat) (l3 : Int) (S : nk_S) (R : Int × nk_S), nk_cl ja_Tt l1 = some 11 → nk_cl ja_Tt l2 = some 13 → rec18 l1 l2 l3 S = some R → nk_K ja_Tt mi_Γ (mi_ev zs) 1 0 18 [(0, nk_o 0), (1, nk_r l1), (2, nk_r l2), (3, nk_i l3)] [] S R) : ∀ (l1 : Nat) (l2 : Nat) (l3 : Int) (S : nk_S) (R : Int × nk_S), nk_cl ja_Tt l1 = some 11 → nk_cl ja_Tt l2 = some 13 → ja_L_law_b18 zs rec18 l1 l2 l3 S = some R → nk_K ja_Tt mi_Γ (mi_ev zs) 1 0 18 [(0, nk_o 0), (1, nk_r l1), (2, nk_r l2), (3, nk_i l3)] [] S R := by
  intro l1 l2 l3 S R t_l1 t_l2 hr
  unfold ja_L_law_b18 at hr
  refine nk_p (i := .iload_n 3) (len := 1) (pc' := 19) mJ_0 (by decide +kernel) (ns_iload_n 3 rfl rfl) rfl ?_
  refine nk_p (i := .aload_n 0) (len := 1) (pc' := 20) mJ_0 (by decide +kernel) (ns_oload_n 0 rfl rfl) rfl ?_
  obtain ⟨h1, hr⟩ := nk_cke hr
  refine nk_oalen (len := 1) (t := 1) (xs := zs) (pc' := 21) mJ_0 (by decide +kernel) rfl h1 rfl ?_
  refine nk_p (i := .bipush 6) (len := 2) (pc' := 23) mJ_0 (by decide +kernel) (ns_bipush (c := 6) (by decide +kernel)) rfl ?_
  refine nk_p (i := .isub) (len := 1) (pc' := 24) mJ_0 (by decide +kernel) ns_isub rfl ?_
  refine nk_icmp (c := .gt) (off := 657) (len := 3) (t := 681) (pc' := 27) mJ_0 (by decide +kernel) (by decide +kernel) rfl (fun hc => ?_) (fun hc => ?_)
  · have hr := nk_ifp (c := (nk_w ((zs.length : Int) - 6)) < l3) hc hr
    refine nk_p (i := .iconst 1) (len := 1) (pc' := 682) mJ_0 (by decide +kernel) (ns_iconst (c := 1) (by decide +kernel)) rfl ?_
    cases hr
    exact nk_iret (ty := .boolean) (len := 1) mJ_0 (by decide +kernel) rfl (nk_nar_z (by decide))
  · have hr := nk_ifn (c := (nk_w ((zs.length : Int) - 6)) < l3) hc hr
    exact ja_L_law_b27_ok zs hrec18 _ _ _ _ _ t_l1 t_l2 hr
noncomputable def ja_L_law_L18 (zs : List Int32) : Nat → Nat → Nat → Int → nk_S → Option (Int × nk_S)
  | 0, _, _, _, _ => none
  | n + 1, l1, l2, l3, S => ja_L_law_b18 zs (ja_L_law_L18 zs n) l1 l2 l3 S
theorem ja_L_law_L18_ok (zs : List Int32) : ∀ n : Nat, ∀ (l1 : Nat) (l2 : Nat) (l3 : Int) (S : nk_S) (R : Int × nk_S), nk_cl ja_Tt l1 = some 11 → nk_cl ja_Tt l2 = some 13 → ja_L_law_L18 zs n l1 l2 l3 S = some R → nk_K ja_Tt mi_Γ (mi_ev zs) 1 0 18 [(0, nk_o 0), (1, nk_r l1), (2, nk_r l2), (3, nk_i l3)] [] S R := by
  intro n
  induction n with
  | zero => intro _ _ _ _ _ _ _ hr; cases hr
  | succ n ih => intro l1 l2 l3 S R t_l1 t_l2 hr; exact ja_L_law_b18_ok zs ih l1 l2 l3 S R t_l1 t_l2 hr
noncomputable def ja_L_law (zs : List Int32) (l1 : Nat) (l2 : Nat) (S : nk_S) : Option (Int × nk_S) :=
  ja_L_law_L18 zs nk_big l1 l2 0 S
theorem ja_L_law_ok (zs : List Int32) : ∀ (l1 : Nat) (l2 : Nat) (S : nk_S) (R : Int × nk_S), nk_cl ja_Tt l1 = some 11 → nk_cl ja_Tt l2 = some 13 → ja_L_law zs l1 l2 S = some R → nk_K ja_Tt mi_Γ (mi_ev zs) 1 0 16 [(0, nk_o 0), (1, nk_r l1), (2, nk_r l2)] [] S R := by
  intro l1 l2 S R t_l1 t_l2 hr
  unfold ja_L_law at hr
  refine nk_p (i := .iconst 0) (len := 1) (pc' := 17) mJ_0 (by decide +kernel) (ns_iconst (c := 0) (by decide +kernel)) rfl ?_
  refine nk_p (i := .istore_n 3) (len := 1) (pc' := 18) mJ_0 (by decide +kernel) (ns_istore_n (L' := [(3, nk_i 0), (0, nk_o 0), (1, nk_r l1), (2, nk_r l2)]) rfl rfl rfl (by decide +kernel)) rfl ?_
  refine nk_sub [1, 2, 3, 0] (L' := [(0, nk_o 0), (1, nk_r l1), (2, nk_r l2), (3, nk_i 0)]) rfl ?_
  exact ja_L_law_L18_ok zs nk_big _ _ _ _ _ t_l1 t_l2 hr
