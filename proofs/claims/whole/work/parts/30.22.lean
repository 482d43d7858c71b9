/-! SafeCodeModel run (I)I -/
noncomputable def ja_X13_run_b135 (rec71 : Nat → Int → nk_S → Option (Int × nk_S)) (l0 : Nat) (l1 : Int) (l2 : Int) (s0 : Nat) (s1 : Int) (S : nk_S) : Option (Int × nk_S) :=
  if s1 = 0 ∨ s1 = 1 then
  nk_lt (nk_wi S s0 63 s1) fun S1 =>
  nk_bd (ja_X13_step l0 l2 S1) fun r4 S5 =>
  if (S5.1 l0 63) = 0 then
    rec71 l0 l1 S5
  else
    nk_lt (nk_wi S5 l0 62 (nk_w ((S5.1 l0 62) + 1))) fun S7 =>
    rec71 l0 l1 S7
  else none
theorem ja_X13_run_b135_ok (zs : List Int32) {rec71 : Nat → Int → nk_S → Option (Int × nk_S)} (hrec71 : ∀ (l0 : Nat) (l1 : Int) (S : nk_S) (R : Int × nk_S), nk_cl ja_Tt l0 = some 13 → rec71 l0 l1 S = some R → nk_K ja_Tt mi_Γ (mi_ev zs) 1 221 71 [(0, nk_r l0), (1, nk_i l1)] [] S R) : ∀ (l0 : Nat) (l1 : Int) (l2 : Int) (s0 : Nat) (s1 : Int) (S : nk_S) (R : Int × nk_S), nk_cl ja_Tt l0 = some 13 → nk_cl ja_Tt s0 = some 13 → ja_X13_run_b135 rec71 l0 l1 l2 s0 s1 S = some R → nk_K ja_Tt mi_Γ (mi_ev zs) 1 221 135 [(0, nk_r l0), (1, nk_i l1), (2, nk_i l2)] [nk_i s1, nk_r s0] S R := by
  intro l0 l1 l2 s0 s1 S R t_l0 t_s0 hr
  unfold ja_X13_run_b135 at hr
  obtain ⟨h3, hr⟩ := nk_cke hr
  obtain ⟨S1, h2, hr⟩ := nk_lte hr
  refine nk_putI (y := (0, 0)) (ty := .boolean) (x := 835) (len := 3) (ci := 13) (k := 63) (pc' := 138) ja_okT mJ_221 (by decide +kernel) (by decide +kernel) (by decide +kernel) t_s0 (Or.inr ⟨rfl, h3⟩) rfl h2 ?_
  refine nk_p (i := .aload_n 0) (len := 1) (pc' := 139) mJ_221 (by decide +kernel) (ns_aload_n 0 rfl rfl) rfl ?_
  refine nk_p (i := .iload_n 2) (len := 1) (pc' := 140) mJ_221 (by decide +kernel) (ns_iload_n 2 rfl rfl) rfl ?_
  obtain ⟨r4, S5, h6, hr⟩ := nk_bde hr
  refine nk_callV (ci := 13) (n := 1) (x := 838) (len := 3) (j' := 228) (q' := 0) (r := r4) (S' := S5) (L2 := [(0, nk_r l0), (1, nk_i l2)]) (rest := []) (st' := []) (pc' := 143) mJ_221 (by decide +kernel) (by decide +kernel) rfl rfl t_l0 (Nat.le_of_ble_eq_true rfl) mJ_228 (Nat.le_of_ble_eq_true rfl) rfl (ja_X13_step_ok zs _ _ _ _ t_l0 h6) rfl ?_
  refine nk_p (i := .aload_n 0) (len := 1) (pc' := 144) mJ_221 (by decide +kernel) (ns_aload_n 0 rfl rfl) rfl ?_
  refine nk_getI (y := (0, 0)) (x := 835) (len := 3) (ci := 13) (k := 63) (pc' := 147) ja_okT mJ_221 (by decide +kernel) (by decide +kernel) (by decide +kernel) t_l0 rfl ?_
  refine nk_icond (c := .eq) (off := 13) (len := 3) (t := 160) (pc' := 150) mJ_221 (by decide +kernel) (by decide +kernel) rfl (fun hc => ?_) (fun hc => ?_)
  · have hr := nk_ifp (c := (S5.1 l0 63) = 0) hc hr
    refine nk_p (i := .goto (-89)) (len := 3) (pc' := 71) mJ_221 (by decide +kernel) (ns_goto (by decide +kernel)) rfl ?_
    refine nk_sub [0, 1] (L' := [(0, nk_r l0), (1, nk_i l1)]) rfl ?_
    exact hrec71 _ _ _ _ t_l0 hr
  · have hr := nk_ifn (c := (S5.1 l0 63) = 0) hc hr
    refine nk_p (i := .aload_n 0) (len := 1) (pc' := 151) mJ_221 (by decide +kernel) (ns_aload_n 0 rfl rfl) rfl ?_
    refine nk_p (i := .dup) (len := 1) (pc' := 152) mJ_221 (by decide +kernel) (ns_dup rfl) rfl ?_
    refine nk_getI (y := (0, 0)) (x := 841) (len := 3) (ci := 13) (k := 62) (pc' := 155) ja_okT mJ_221 (by decide +kernel) (by decide +kernel) (by decide +kernel) t_l0 rfl ?_
    refine nk_p (i := .iconst 1) (len := 1) (pc' := 156) mJ_221 (by decide +kernel) (ns_iconst (c := 1) (by decide +kernel)) rfl ?_
    refine nk_p (i := .iadd) (len := 1) (pc' := 157) mJ_221 (by decide +kernel) ns_iadd rfl ?_
    obtain ⟨S7, h8, hr⟩ := nk_lte hr
    refine nk_putI (y := (0, 0)) (ty := .int) (x := 841) (len := 3) (ci := 13) (k := 62) (pc' := 160) ja_okT mJ_221 (by decide +kernel) (by decide +kernel) (by decide +kernel) t_l0 (Or.inl rfl) rfl h8 ?_
    refine nk_p (i := .goto (-89)) (len := 3) (pc' := 71) mJ_221 (by decide +kernel) (ns_goto (by decide +kernel)) rfl ?_
    refine nk_sub [0, 1] (L' := [(0, nk_r l0), (1, nk_i l1)]) rfl ?_
    exact hrec71 _ _ _ _ t_l0 hr
noncomputable def ja_X13_run_b71 (rec71 : Nat → Int → nk_S → Option (Int × nk_S)) (l0 : Nat) (l1 : Int) (S : nk_S) : Option (Int × nk_S) :=
  if 0 ≤ (S.1 l0 61) then
    nk_lt (nk_wi S l0 55 0) fun S1 =>
    some ((S1.1 l0 61), S1)
  else
    if 0 ≤ (nk_w ((S.1 l0 52) - 1)) ∧ (nk_w ((S.1 l0 52) - 1)) < 64 then
    nk_lt (S.1 (ja_c l0 44) (nk_w ((S.1 l0 52) - 1)).toNat) fun v5 =>
    if (S.1 l0 58) = l1 then
      nk_lt (nk_wi S l0 61 2) fun S12 =>
      nk_lt (nk_wi S12 l0 59 v5) fun S14 =>
      rec71 l0 l1 S14
    else
      nk_lt (nk_wi S l0 58 (nk_w ((S.1 l0 58) + 1))) fun S7 =>
      nk_bd (ja_X13_holds l0 v5 S7) fun r9 S10 =>
      if r9 = 0 then
        ja_X13_run_b135 rec71 l0 l1 v5 l0 1 S10
      else
        ja_X13_run_b135 rec71 l0 l1 v5 l0 0 S10
    else none
theorem ja_X13_run_b71_ok (zs : List Int32) {rec71 : Nat → Int → nk_S → Option (Int × nk_S)} (hrec71 : ∀ (l0 : Nat) (l1 : Int) (S : nk_S) (R : Int × nk_S), nk_cl ja_Tt l0 = some 13 → rec71 l0 l1 S = some R → nk_K ja_Tt mi_Γ (mi_ev zs) 1 221 71 [(0, nk_r l0), (1, nk_i l1)] [] S R) : ∀ (l0 : Nat) (l1 : Int) (S : nk_S) (R : Int × nk_S), nk_cl ja_Tt l0 = some 13 → ja_X13_run_b71 rec71 l0 l1 S = some R → nk_K ja_Tt mi_Γ (mi_ev zs) 1 221 71 [(0, nk_r l0), (1, nk_i l1)] [] S R := by
  intro l0 l1 S R t_l0 hr
  unfold ja_X13_run_b71 at hr
  refine nk_p (i := .aload_n 0) (len := 1) (pc' := 72) mJ_221 (by decide +kernel) (ns_aload_n 0 rfl rfl) rfl ?_
  refine nk_getI (y := (0, 0)) (x := 826) (len := 3) (ci := 13) (k := 61) (pc' := 75) ja_okT mJ_221 (by decide +kernel) (by decide +kernel) (by decide +kernel) t_l0 rfl ?_
  refine nk_icond (c := .ge) (off := 88) (len := 3) (t := 163) (pc' := 78) mJ_221 (by decide +kernel) (by decide +kernel) rfl (fun hc => ?_) (fun hc => ?_)
  · have hr := nk_ifp (c := 0 ≤ (S.1 l0 61)) hc hr
    refine nk_p (i := .aload_n 0) (len := 1) (pc' := 164) mJ_221 (by decide +kernel) (ns_aload_n 0 rfl rfl) rfl ?_
    refine nk_p (i := .iconst 0) (len := 1) (pc' := 165) mJ_221 (by decide +kernel) (ns_iconst (c := 0) (by decide +kernel)) rfl ?_
    obtain ⟨S1, h2, hr⟩ := nk_lte hr
    refine nk_putI (y := (0, 0)) (ty := .int) (x := 805) (len := 3) (ci := 13) (k := 55) (pc' := 168) ja_okT mJ_221 (by decide +kernel) (by decide +kernel) (by decide +kernel) t_l0 (Or.inl rfl) rfl h2 ?_
    refine nk_p (i := .aload_n 0) (len := 1) (pc' := 169) mJ_221 (by decide +kernel) (ns_aload_n 0 rfl rfl) rfl ?_
    refine nk_getI (y := (0, 0)) (x := 826) (len := 3) (ci := 13) (k := 61) (pc' := 172) ja_okT mJ_221 (by decide +kernel) (by decide +kernel) (by decide +kernel) t_l0 rfl ?_
    cases hr
    exact nk_iret (ty := .int) (len := 1) mJ_221 (by decide +kernel) rfl (nk_nar_i _)
  · have hr := nk_ifn (c := 0 ≤ (S.1 l0 61)) hc hr
    refine nk_p (i := .aload_n 0) (len := 1) (pc' := 79) mJ_221 (by decide +kernel) (ns_aload_n 0 rfl rfl) rfl ?_
    refine nk_getC (f := (4, 1, 64)) (x := 111) (len := 3) (ci := 13) (k := 44) (pc' := 82) ja_okT mJ_221 (by decide +kernel) (by decide +kernel) (by decide +kernel) (by decide) t_l0 rfl ?_
    have t3 : nk_ar ja_Tt (ja_c l0 44) = some (1, 64) := nk_ta ja_okT t_l0 (by decide +kernel)
    refine nk_p (i := .aload_n 0) (len := 1) (pc' := 83) mJ_221 (by decide +kernel) (ns_aload_n 0 rfl rfl) rfl ?_
    refine nk_getI (y := (0, 0)) (x := 823) (len := 3) (ci := 13) (k := 52) (pc' := 86) ja_okT mJ_221 (by decide +kernel) (by decide +kernel) (by decide +kernel) t_l0 rfl ?_
    refine nk_p (i := .iconst 1) (len := 1) (pc' := 87) mJ_221 (by decide +kernel) (ns_iconst (c := 1) (by decide +kernel)) rfl ?_
    refine nk_p (i := .isub) (len := 1) (pc' := 88) mJ_221 (by decide +kernel) ns_isub rfl ?_
    obtain ⟨h4, hr⟩ := nk_cke hr
    refine nk_iald (len := 1) (N := 64) (pc' := 89) mJ_221 (by decide +kernel) t3 h4.1 h4.2 rfl rfl ?_
    obtain ⟨v5, h6, hr⟩ := nk_lte hr
    refine nk_p (i := .istore_n 2) (len := 1) (pc' := 90) mJ_221 (by decide +kernel) (ns_istore_n (L' := [(2, nk_i v5), (0, nk_r l0), (1, nk_i l1)]) h6 rfl rfl (by decide +kernel)) rfl ?_
    refine nk_p (i := .aload_n 0) (len := 1) (pc' := 91) mJ_221 (by decide +kernel) (ns_aload_n 1 rfl rfl) rfl ?_
    refine nk_getI (y := (0, 0)) (x := 820) (len := 3) (ci := 13) (k := 58) (pc' := 94) ja_okT mJ_221 (by decide +kernel) (by decide +kernel) (by decide +kernel) t_l0 rfl ?_
    refine nk_p (i := .iload_n 1) (len := 1) (pc' := 95) mJ_221 (by decide +kernel) (ns_iload_n 2 rfl rfl) rfl ?_
    refine nk_icmp (c := .ne) (off := 16) (len := 3) (t := 111) (pc' := 98) mJ_221 (by decide +kernel) (by decide +kernel) rfl (fun hc => ?_) (fun hc => ?_)
    · have hr := nk_ifn (c := (S.1 l0 58) = l1) hc hr
      refine nk_p (i := .aload_n 0) (len := 1) (pc' := 112) mJ_221 (by decide +kernel) (ns_aload_n 1 rfl rfl) rfl ?_
      refine nk_p (i := .dup) (len := 1) (pc' := 113) mJ_221 (by decide +kernel) (ns_dup rfl) rfl ?_
      refine nk_getI (y := (0, 0)) (x := 820) (len := 3) (ci := 13) (k := 58) (pc' := 116) ja_okT mJ_221 (by decide +kernel) (by decide +kernel) (by decide +kernel) t_l0 rfl ?_
      refine nk_p (i := .iconst 1) (len := 1) (pc' := 117) mJ_221 (by decide +kernel) (ns_iconst (c := 1) (by decide +kernel)) rfl ?_
      refine nk_p (i := .iadd) (len := 1) (pc' := 118) mJ_221 (by decide +kernel) ns_iadd rfl ?_
      obtain ⟨S7, h8, hr⟩ := nk_lte hr
      refine nk_putI (y := (0, 0)) (ty := .int) (x := 820) (len := 3) (ci := 13) (k := 58) (pc' := 121) ja_okT mJ_221 (by decide +kernel) (by decide +kernel) (by decide +kernel) t_l0 (Or.inl rfl) rfl h8 ?_
      refine nk_p (i := .aload_n 0) (len := 1) (pc' := 122) mJ_221 (by decide +kernel) (ns_aload_n 1 rfl rfl) rfl ?_
      refine nk_p (i := .aload_n 0) (len := 1) (pc' := 123) mJ_221 (by decide +kernel) (ns_aload_n 1 rfl rfl) rfl ?_
      refine nk_p (i := .iload_n 2) (len := 1) (pc' := 124) mJ_221 (by decide +kernel) (ns_iload_n 0 rfl rfl) rfl ?_
      obtain ⟨r9, S10, h11, hr⟩ := nk_bde hr
      refine nk_callV (ci := 13) (n := 1) (x := 832) (len := 3) (j' := 133) (q' := 1) (r := r9) (S' := S10) (L2 := [(0, nk_r l0), (1, nk_i v5)]) (rest := [nk_r l0]) (st' := [nk_i r9, nk_r l0]) (pc' := 127) mJ_221 (by decide +kernel) (by decide +kernel) rfl rfl t_l0 (Nat.le_of_ble_eq_true rfl) mJ_133 (Nat.le_of_ble_eq_true rfl) rfl (ja_X13_holds_ok zs _ _ _ _ t_l0 h11) rfl ?_
      refine nk_icond (c := .ne) (off := 7) (len := 3) (t := 134) (pc' := 130) mJ_221 (by decide +kernel) (by decide +kernel) rfl (fun hc => ?_) (fun hc => ?_)
      · have hr := nk_ifn (c := r9 = 0) hc hr
        refine nk_p (i := .iconst 0) (len := 1) (pc' := 135) mJ_221 (by decide +kernel) (ns_iconst (c := 0) (by decide +kernel)) rfl ?_
        refine nk_sub [1, 2, 0] (L' := [(0, nk_r l0), (1, nk_i l1), (2, nk_i v5)]) rfl ?_
        exact ja_X13_run_b135_ok zs hrec71 _ _ _ _ _ _ _ t_l0 t_l0 hr
      · have hr := nk_ifp (c := r9 = 0) (Decidable.of_not_not hc) hr
        refine nk_p (i := .iconst 1) (len := 1) (pc' := 131) mJ_221 (by decide +kernel) (ns_iconst (c := 1) (by decide +kernel)) rfl ?_
        refine nk_p (i := .goto 4) (len := 3) (pc' := 135) mJ_221 (by decide +kernel) (ns_goto (by decide +kernel)) rfl ?_
        refine nk_sub [1, 2, 0] (L' := [(0, nk_r l0), (1, nk_i l1), (2, nk_i v5)]) rfl ?_
        exact ja_X13_run_b135_ok zs hrec71 _ _ _ _ _ _ _ t_l0 t_l0 hr
    · have hr := nk_ifp (c := (S.1 l0 58) = l1) (Decidable.of_not_not hc) hr
      refine nk_p (i := .aload_n 0) (len := 1) (pc' := 99) mJ_221 (by decide +kernel) (ns_aload_n 1 rfl rfl) rfl ?_
      refine nk_p (i := .iconst 2) (len := 1) (pc' := 100) mJ_221 (by decide +kernel) (ns_iconst (c := 2) (by decide +kernel)) rfl ?_
      obtain ⟨S12, h13, hr⟩ := nk_lte hr
      refine nk_putI (y := (0, 0)) (ty := .int) (x := 826) (len := 3) (ci := 13) (k := 61) (pc' := 103) ja_okT mJ_221 (by decide +kernel) (by decide +kernel) (by decide +kernel) t_l0 (Or.inl rfl) rfl h13 ?_
      refine nk_p (i := .aload_n 0) (len := 1) (pc' := 104) mJ_221 (by decide +kernel) (ns_aload_n 1 rfl rfl) rfl ?_
      refine nk_p (i := .iload_n 2) (len := 1) (pc' := 105) mJ_221 (by decide +kernel) (ns_iload_n 0 rfl rfl) rfl ?_
      obtain ⟨S14, h15, hr⟩ := nk_lte hr
      refine nk_putI (y := (0, 0)) (ty := .int) (x := 135) (len := 3) (ci := 13) (k := 59) (pc' := 108) ja_okT mJ_221 (by decide +kernel) (by decide +kernel) (by decide +kernel) t_l0 (Or.inl rfl) rfl h15 ?_
      refine nk_p (i := .goto 52) (len := 3) (pc' := 160) mJ_221 (by decide +kernel) (ns_goto (by decide +kernel)) rfl ?_
      refine nk_p (i := .goto (-89)) (len := 3) (pc' := 71) mJ_221 (by decide +kernel) (ns_goto (by decide +kernel)) rfl ?_
      refine nk_sub [1, 2] (L' := [(0, nk_r l0), (1, nk_i l1)]) rfl ?_
      exact hrec71 _ _ _ _ t_l0 hr
noncomputable def ja_X13_run_L71 : Nat → Nat → Int → nk_S → Option (Int × nk_S)
  | 0, _, _, _ => none
  | n + 1, l0, l1, S => ja_X13_run_b71 (ja_X13_run_L71 n) l0 l1 S
theorem ja_X13_run_L71_ok (zs : List Int32) : ∀ n : Nat, ∀ (l0 : Nat) (l1 : Int) (S : nk_S) (R : Int × nk_S), nk_cl ja_Tt l0 = some 13 → ja_X13_run_L71 n l0 l1 S = some R → nk_K ja_Tt mi_Γ (mi_ev zs) 1 221 71 [(0, nk_r l0), (1, nk_i l1)] [] S R := by
  intro n
  induction n with
  | zero => intro _ _ _ _ _ hr; cases hr
  | succ n ih => intro l0 l1 S R t_l0 hr; exact ja_X13_run_b71_ok zs ih l0 l1 S R t_l0 hr
noncomputable def ja_X13_run (l0 : Nat) (l1 : Int) (S : nk_S) : Option (Int × nk_S) :=
  if (S.1 l0 2) = 0 then
    some ((-1), S)
  else
    if l1 < 0 then
      some ((-1), S)
    else
      if l1 ≤ 20000 then
        nk_lt (nk_wi S l0 53 0) fun S1 =>
        nk_lt (nk_wi S1 l0 54 0) fun S3 =>
        nk_lt (nk_wi S3 l0 56 0) fun S5 =>
        nk_lt (nk_wi S5 l0 57 0) fun S7 =>
        nk_lt (nk_wi S7 l0 58 0) fun S9 =>
        nk_lt (nk_wi S9 l0 60 (-1)) fun S11 =>
        nk_lt (nk_wi S11 l0 52 0) fun S13 =>
        nk_lt (nk_wi S13 l0 61 (-1)) fun S15 =>
        nk_bd (ja_X13_enter l0 (S15.1 (S15.2 l0 0) 6) S15) fun r18 S19 =>
        ja_X13_run_L71 nk_big l0 l1 S19
      else
        some ((-1), S)
theorem ja_X13_run_ok (zs : List Int32) : ∀ (l0 : Nat) (l1 : Int) (S : nk_S) (R : Int × nk_S), nk_cl ja_Tt l0 = some 13 → ja_X13_run l0 l1 S = some R → nk_K ja_Tt mi_Γ (mi_ev zs) 1 221 0 [(0, nk_r l0), (1, nk_i l1)] [] S R := by
  intro l0 l1 S R t_l0 hr
  unfold ja_X13_run at hr
  refine nk_p (i := .aload_n 0) (len := 1) (pc' := 1) mJ_221 (by decide +kernel) (ns_aload_n 0 rfl rfl) rfl ?_
  refine nk_getI (y := (0, 0)) (x := 794) (len := 3) (ci := 13) (k := 2) (pc' := 4) ja_okT mJ_221 (by decide +kernel) (by decide +kernel) (by decide +kernel) t_l0 rfl ?_
  refine nk_icond (c := .eq) (off := 14) (len := 3) (t := 18) (pc' := 7) mJ_221 (by decide +kernel) (by decide +kernel) rfl (fun hc => ?_) (fun hc => ?_)
  · have hr := nk_ifp (c := (S.1 l0 2) = 0) hc hr
    refine nk_p (i := .iconst (-1)) (len := 1) (pc' := 19) mJ_221 (by decide +kernel) (ns_iconst (c := (-1)) (by decide +kernel)) rfl ?_
    cases hr
    exact nk_iret (ty := .int) (len := 1) mJ_221 (by decide +kernel) rfl (nk_nar_i _)
  · have hr := nk_ifn (c := (S.1 l0 2) = 0) hc hr
    refine nk_p (i := .iload_n 1) (len := 1) (pc' := 8) mJ_221 (by decide +kernel) (ns_iload_n 1 rfl rfl) rfl ?_
    refine nk_icond (c := .lt) (off := 10) (len := 3) (t := 18) (pc' := 11) mJ_221 (by decide +kernel) (by decide +kernel) rfl (fun hc => ?_) (fun hc => ?_)
    · have hr := nk_ifp (c := l1 < 0) hc hr
      refine nk_p (i := .iconst (-1)) (len := 1) (pc' := 19) mJ_221 (by decide +kernel) (ns_iconst (c := (-1)) (by decide +kernel)) rfl ?_
      cases hr
      exact nk_iret (ty := .int) (len := 1) mJ_221 (by decide +kernel) rfl (nk_nar_i _)
    · have hr := nk_ifn (c := l1 < 0) hc hr
      refine nk_p (i := .iload_n 1) (len := 1) (pc' := 12) mJ_221 (by decide +kernel) (ns_iload_n 1 rfl rfl) rfl ?_
      refine nk_p (i := .sipush 20000) (len := 3) (pc' := 15) mJ_221 (by decide +kernel) (ns_sipush (c := 20000) (by decide +kernel)) rfl ?_
      refine nk_icmp (c := .le) (off := 5) (len := 3) (t := 20) (pc' := 18) mJ_221 (by decide +kernel) (by decide +kernel) rfl (fun hc => ?_) (fun hc => ?_)
      · have hr := nk_ifp (c := l1 ≤ 20000) hc hr
        refine nk_p (i := .aload_n 0) (len := 1) (pc' := 21) mJ_221 (by decide +kernel) (ns_aload_n 0 rfl rfl) rfl ?_
        refine nk_p (i := .iconst 0) (len := 1) (pc' := 22) mJ_221 (by decide +kernel) (ns_iconst (c := 0) (by decide +kernel)) rfl ?_
        obtain ⟨S1, h2, hr⟩ := nk_lte hr
        refine nk_putI (y := (0, 0)) (ty := .int) (x := 808) (len := 3) (ci := 13) (k := 53) (pc' := 25) ja_okT mJ_221 (by decide +kernel) (by decide +kernel) (by decide +kernel) t_l0 (Or.inl rfl) rfl h2 ?_
        refine nk_p (i := .aload_n 0) (len := 1) (pc' := 26) mJ_221 (by decide +kernel) (ns_aload_n 0 rfl rfl) rfl ?_
        refine nk_p (i := .iconst 0) (len := 1) (pc' := 27) mJ_221 (by decide +kernel) (ns_iconst (c := 0) (by decide +kernel)) rfl ?_
        obtain ⟨S3, h4, hr⟩ := nk_lte hr
        refine nk_putI (y := (0, 0)) (ty := .int) (x := 811) (len := 3) (ci := 13) (k := 54) (pc' := 30) ja_okT mJ_221 (by decide +kernel) (by decide +kernel) (by decide +kernel) t_l0 (Or.inl rfl) rfl h4 ?_
        refine nk_p (i := .aload_n 0) (len := 1) (pc' := 31) mJ_221 (by decide +kernel) (ns_aload_n 0 rfl rfl) rfl ?_
        refine nk_p (i := .iconst 0) (len := 1) (pc' := 32) mJ_221 (by decide +kernel) (ns_iconst (c := 0) (by decide +kernel)) rfl ?_
        obtain ⟨S5, h6, hr⟩ := nk_lte hr
        refine nk_putI (y := (0, 0)) (ty := .int) (x := 814) (len := 3) (ci := 13) (k := 56) (pc' := 35) ja_okT mJ_221 (by decide +kernel) (by decide +kernel) (by decide +kernel) t_l0 (Or.inl rfl) rfl h6 ?_
        refine nk_p (i := .aload_n 0) (len := 1) (pc' := 36) mJ_221 (by decide +kernel) (ns_aload_n 0 rfl rfl) rfl ?_
        refine nk_p (i := .iconst 0) (len := 1) (pc' := 37) mJ_221 (by decide +kernel) (ns_iconst (c := 0) (by decide +kernel)) rfl ?_
        obtain ⟨S7, h8, hr⟩ := nk_lte hr
        refine nk_putI (y := (0, 0)) (ty := .int) (x := 817) (len := 3) (ci := 13) (k := 57) (pc' := 40) ja_okT mJ_221 (by decide +kernel) (by decide +kernel) (by decide +kernel) t_l0 (Or.inl rfl) rfl h8 ?_
        refine nk_p (i := .aload_n 0) (len := 1) (pc' := 41) mJ_221 (by decide +kernel) (ns_aload_n 0 rfl rfl) rfl ?_
        refine nk_p (i := .iconst 0) (len := 1) (pc' := 42) mJ_221 (by decide +kernel) (ns_iconst (c := 0) (by decide +kernel)) rfl ?_
        obtain ⟨S9, h10, hr⟩ := nk_lte hr
        refine nk_putI (y := (0, 0)) (ty := .int) (x := 820) (len := 3) (ci := 13) (k := 58) (pc' := 45) ja_okT mJ_221 (by decide +kernel) (by decide +kernel) (by decide +kernel) t_l0 (Or.inl rfl) rfl h10 ?_
        refine nk_p (i := .aload_n 0) (len := 1) (pc' := 46) mJ_221 (by decide +kernel) (ns_aload_n 0 rfl rfl) rfl ?_
        refine nk_p (i := .iconst (-1)) (len := 1) (pc' := 47) mJ_221 (by decide +kernel) (ns_iconst (c := (-1)) (by decide +kernel)) rfl ?_
        obtain ⟨S11, h12, hr⟩ := nk_lte hr
        refine nk_putI (y := (0, 0)) (ty := .int) (x := 138) (len := 3) (ci := 13) (k := 60) (pc' := 50) ja_okT mJ_221 (by decide +kernel) (by decide +kernel) (by decide +kernel) t_l0 (Or.inl rfl) rfl h12 ?_
        refine nk_p (i := .aload_n 0) (len := 1) (pc' := 51) mJ_221 (by decide +kernel) (ns_aload_n 0 rfl rfl) rfl ?_
        refine nk_p (i := .iconst 0) (len := 1) (pc' := 52) mJ_221 (by decide +kernel) (ns_iconst (c := 0) (by decide +kernel)) rfl ?_
        obtain ⟨S13, h14, hr⟩ := nk_lte hr
        refine nk_putI (y := (0, 0)) (ty := .int) (x := 823) (len := 3) (ci := 13) (k := 52) (pc' := 55) ja_okT mJ_221 (by decide +kernel) (by decide +kernel) (by decide +kernel) t_l0 (Or.inl rfl) rfl h14 ?_
        refine nk_p (i := .aload_n 0) (len := 1) (pc' := 56) mJ_221 (by decide +kernel) (ns_aload_n 0 rfl rfl) rfl ?_
        refine nk_p (i := .iconst (-1)) (len := 1) (pc' := 57) mJ_221 (by decide +kernel) (ns_iconst (c := (-1)) (by decide +kernel)) rfl ?_
        obtain ⟨S15, h16, hr⟩ := nk_lte hr
        refine nk_putI (y := (0, 0)) (ty := .int) (x := 826) (len := 3) (ci := 13) (k := 61) (pc' := 60) ja_okT mJ_221 (by decide +kernel) (by decide +kernel) (by decide +kernel) t_l0 (Or.inl rfl) rfl h16 ?_
        refine nk_p (i := .aload_n 0) (len := 1) (pc' := 61) mJ_221 (by decide +kernel) (ns_aload_n 0 rfl rfl) rfl ?_
        refine nk_p (i := .aload_n 0) (len := 1) (pc' := 62) mJ_221 (by decide +kernel) (ns_aload_n 0 rfl rfl) rfl ?_
        refine nk_getM (cj := 12) (z := 0) (x := 12) (len := 3) (ci := 13) (k := 0) (pc' := 65) ja_okT mJ_221 (by decide +kernel) (by decide +kernel) (by decide +kernel) t_l0 rfl (fun t17 => ?_)
        refine nk_getI (y := (0, 0)) (x := 453) (len := 3) (ci := 12) (k := 6) (pc' := 68) ja_okT mJ_221 (by decide +kernel) (by decide +kernel) (by decide +kernel) t17 rfl ?_
        obtain ⟨r18, S19, h20, hr⟩ := nk_bde hr
        refine nk_callV (ci := 13) (n := 1) (x := 829) (len := 3) (j' := 113) (q' := 0) (r := r18) (S' := S19) (L2 := [(0, nk_r l0), (1, nk_i (S15.1 (S15.2 l0 0) 6))]) (rest := []) (st' := []) (pc' := 71) mJ_221 (by decide +kernel) (by decide +kernel) rfl rfl t_l0 (Nat.le_of_ble_eq_true rfl) mJ_113 (Nat.le_of_ble_eq_true rfl) rfl (ja_X13_enter_ok zs _ _ _ _ t_l0 h20) rfl ?_
        exact ja_X13_run_L71_ok zs nk_big _ _ _ _ t_l0 hr
      · have hr := nk_ifn (c := l1 ≤ 20000) hc hr
        refine nk_p (i := .iconst (-1)) (len := 1) (pc' := 19) mJ_221 (by decide +kernel) (ns_iconst (c := (-1)) (by decide +kernel)) rfl ?_
        cases hr
        exact nk_iret (ty := .int) (len := 1) mJ_221 (by decide +kernel) rfl (nk_nar_i _)
/-! SafeCodeModel sites (II)J -/
noncomputable def ja_X13_sites (l0 : Nat) (l1 : Int) (l2 : Int) (S : nk_S) : Option (Int × nk_S) :=
  nk_bd (ja_X13_kind l0 l1 l2 S) fun r1 S2 =>
  if r1 = 2 then
    nk_bd (ja_X13_slot l0 l1 l2 S2) fun r6 S7 =>
    if 0 ≤ r6 ∧ r6 < 20480 then
    some ((S7.1 (ja_c (S2.2 l0 0) 38) r6.toNat), S7)
    else none
  else
    some (0, S2)
theorem ja_X13_sites_ok (zs : List Int32) : ∀ (l0 : Nat) (l1 : Int) (l2 : Int) (S : nk_S) (R : Int × nk_S), nk_cl ja_Tt l0 = some 13 → ja_X13_sites l0 l1 l2 S = some R → nk_K ja_Tt mi_Γ (mi_ev zs) 2 224 0 [(0, nk_r l0), (1, nk_i l1), (2, nk_i l2)] [] S R := by
  intro l0 l1 l2 S R t_l0 hr
  unfold ja_X13_sites at hr
  refine nk_p (i := .aload_n 0) (len := 1) (pc' := 1) mJ_224 (by decide +kernel) (ns_aload_n 0 rfl rfl) rfl ?_
  refine nk_p (i := .iload_n 1) (len := 1) (pc' := 2) mJ_224 (by decide +kernel) (ns_iload_n 1 rfl rfl) rfl ?_
  refine nk_p (i := .iload_n 2) (len := 1) (pc' := 3) mJ_224 (by decide +kernel) (ns_iload_n 2 rfl rfl) rfl ?_
  obtain ⟨r1, S2, h3, hr⟩ := nk_bde hr
  refine nk_callV (ci := 13) (n := 2) (x := 803) (len := 3) (j' := 171) (q' := 1) (r := r1) (S' := S2) (L2 := [(0, nk_r l0), (1, nk_i l1), (2, nk_i l2)]) (rest := []) (st' := [nk_i r1]) (pc' := 6) mJ_224 (by decide +kernel) (by decide +kernel) rfl rfl t_l0 (Nat.le_of_ble_eq_true rfl) mJ_171 (Nat.le_of_ble_eq_true rfl) rfl (ja_X13_kind_ok zs _ _ _ _ _ t_l0 h3) rfl ?_
  refine nk_p (i := .iconst 2) (len := 1) (pc' := 7) mJ_224 (by decide +kernel) (ns_iconst (c := 2) (by decide +kernel)) rfl ?_
  refine nk_icmp (c := .ne) (off := 20) (len := 3) (t := 27) (pc' := 10) mJ_224 (by decide +kernel) (by decide +kernel) rfl (fun hc => ?_) (fun hc => ?_)
  · have hr := nk_ifn (c := r1 = 2) hc hr
    refine nk_p (i := .lconst 0) (len := 1) (pc' := 28) mJ_224 (by decide +kernel) (ns_lconst (c := 0) (by decide +kernel)) rfl ?_
    cases hr
    exact nk_lret (len := 1) mJ_224 (by decide +kernel) rfl
  · have hr := nk_ifp (c := r1 = 2) (Decidable.of_not_not hc) hr
    refine nk_p (i := .aload_n 0) (len := 1) (pc' := 11) mJ_224 (by decide +kernel) (ns_aload_n 0 rfl rfl) rfl ?_
    refine nk_getM (cj := 12) (z := 0) (x := 12) (len := 3) (ci := 13) (k := 0) (pc' := 14) ja_okT mJ_224 (by decide +kernel) (by decide +kernel) (by decide +kernel) t_l0 rfl (fun t4 => ?_)
    refine nk_getC (f := (4, 2, 20480)) (x := 532) (len := 3) (ci := 12) (k := 38) (pc' := 17) ja_okT mJ_224 (by decide +kernel) (by decide +kernel) (by decide +kernel) (by decide) t4 rfl ?_
    have t5 : nk_ar ja_Tt (ja_c (S2.2 l0 0) 38) = some (2, 20480) := nk_ta ja_okT t4 (by decide +kernel)
    refine nk_p (i := .aload_n 0) (len := 1) (pc' := 18) mJ_224 (by decide +kernel) (ns_aload_n 0 rfl rfl) rfl ?_
    refine nk_p (i := .iload_n 1) (len := 1) (pc' := 19) mJ_224 (by decide +kernel) (ns_iload_n 1 rfl rfl) rfl ?_
    refine nk_p (i := .iload_n 2) (len := 1) (pc' := 20) mJ_224 (by decide +kernel) (ns_iload_n 2 rfl rfl) rfl ?_
    obtain ⟨r6, S7, h8, hr⟩ := nk_bde hr
    refine nk_callV (ci := 13) (n := 2) (x := 800) (len := 3) (j' := 227) (q' := 1) (r := r6) (S' := S7) (L2 := [(0, nk_r l0), (1, nk_i l1), (2, nk_i l2)]) (rest := [nk_r (ja_c (S2.2 l0 0) 38)]) (st' := [nk_i r6, nk_r (ja_c (S2.2 l0 0) 38)]) (pc' := 23) mJ_224 (by decide +kernel) (by decide +kernel) rfl rfl t_l0 (Nat.le_of_ble_eq_true rfl) mJ_227 (Nat.le_of_ble_eq_true rfl) rfl (ja_X13_slot_ok zs _ _ _ _ _ t_l0 h8) rfl ?_
    obtain ⟨h9, hr⟩ := nk_cke hr
    refine nk_lald (len := 1) (N := 20480) (pc' := 24) mJ_224 (by decide +kernel) t5 h9.1 h9.2 rfl rfl ?_
    refine nk_p (i := .goto 4) (len := 3) (pc' := 28) mJ_224 (by decide +kernel) (ns_goto (by decide +kernel)) rfl ?_
    cases hr
    exact nk_lret (len := 1) mJ_224 (by decide +kernel) rfl
/-! SafeCodeModel size (I)I -/
noncomputable def ja_X13_size (l0 : Nat) (l1 : Int) (S : nk_S) : Option (Int × nk_S) :=
  if (S.1 l0 2) = 0 then
    some ((-1), S)
  else
    if l1 = 0 then
      some ((S.1 (S.2 l0 0) 3), S)
    else
      if l1 = 1 then
        some ((S.1 (S.2 l0 0) 4), S)
      else
        if l1 = 2 then
          some ((S.1 (S.2 l0 0) 2), S)
        else
          if l1 = 3 then
            some ((S.1 (S.2 l0 0) 7), S)
          else
            if l1 = 4 then
              some ((S.1 (S.2 l0 0) 0), S)
            else
              some ((-1), S)
theorem ja_X13_size_ok (zs : List Int32) : ∀ (l0 : Nat) (l1 : Int) (S : nk_S) (R : Int × nk_S), nk_cl ja_Tt l0 = some 13 → ja_X13_size l0 l1 S = some R → nk_K ja_Tt mi_Γ (mi_ev zs) 1 226 0 [(0, nk_r l0), (1, nk_i l1)] [] S R := by
  intro l0 l1 S R t_l0 hr
  unfold ja_X13_size at hr
  refine nk_p (i := .aload_n 0) (len := 1) (pc' := 1) mJ_226 (by decide +kernel) (ns_aload_n 0 rfl rfl) rfl ?_
  refine nk_getI (y := (0, 0)) (x := 794) (len := 3) (ci := 13) (k := 2) (pc' := 4) ja_okT mJ_226 (by decide +kernel) (by decide +kernel) (by decide +kernel) t_l0 rfl ?_
  refine nk_icond (c := .ne) (off := 5) (len := 3) (t := 9) (pc' := 7) mJ_226 (by decide +kernel) (by decide +kernel) rfl (fun hc => ?_) (fun hc => ?_)
  · have hr := nk_ifn (c := (S.1 l0 2) = 0) hc hr
    refine nk_p (i := .iload_n 1) (len := 1) (pc' := 10) mJ_226 (by decide +kernel) (ns_iload_n 1 rfl rfl) rfl ?_
    refine nk_icond (c := .ne) (off := 13) (len := 3) (t := 23) (pc' := 13) mJ_226 (by decide +kernel) (by decide +kernel) rfl (fun hc => ?_) (fun hc => ?_)
    · have hr := nk_ifn (c := l1 = 0) hc hr
      refine nk_p (i := .iload_n 1) (len := 1) (pc' := 24) mJ_226 (by decide +kernel) (ns_iload_n 1 rfl rfl) rfl ?_
      refine nk_p (i := .iconst 1) (len := 1) (pc' := 25) mJ_226 (by decide +kernel) (ns_iconst (c := 1) (by decide +kernel)) rfl ?_
      refine nk_icmp (c := .ne) (off := 13) (len := 3) (t := 38) (pc' := 28) mJ_226 (by decide +kernel) (by decide +kernel) rfl (fun hc => ?_) (fun hc => ?_)
      · have hr := nk_ifn (c := l1 = 1) hc hr
        refine nk_p (i := .iload_n 1) (len := 1) (pc' := 39) mJ_226 (by decide +kernel) (ns_iload_n 1 rfl rfl) rfl ?_
        refine nk_p (i := .iconst 2) (len := 1) (pc' := 40) mJ_226 (by decide +kernel) (ns_iconst (c := 2) (by decide +kernel)) rfl ?_
        refine nk_icmp (c := .ne) (off := 13) (len := 3) (t := 53) (pc' := 43) mJ_226 (by decide +kernel) (by decide +kernel) rfl (fun hc => ?_) (fun hc => ?_)
        · have hr := nk_ifn (c := l1 = 2) hc hr
          refine nk_p (i := .iload_n 1) (len := 1) (pc' := 54) mJ_226 (by decide +kernel) (ns_iload_n 1 rfl rfl) rfl ?_
          refine nk_p (i := .iconst 3) (len := 1) (pc' := 55) mJ_226 (by decide +kernel) (ns_iconst (c := 3) (by decide +kernel)) rfl ?_
          refine nk_icmp (c := .ne) (off := 13) (len := 3) (t := 68) (pc' := 58) mJ_226 (by decide +kernel) (by decide +kernel) rfl (fun hc => ?_) (fun hc => ?_)
          · have hr := nk_ifn (c := l1 = 3) hc hr
            refine nk_p (i := .iload_n 1) (len := 1) (pc' := 69) mJ_226 (by decide +kernel) (ns_iload_n 1 rfl rfl) rfl ?_
            refine nk_p (i := .iconst 4) (len := 1) (pc' := 70) mJ_226 (by decide +kernel) (ns_iconst (c := 4) (by decide +kernel)) rfl ?_
            refine nk_icmp (c := .ne) (off := 13) (len := 3) (t := 83) (pc' := 73) mJ_226 (by decide +kernel) (by decide +kernel) rfl (fun hc => ?_) (fun hc => ?_)
            · have hr := nk_ifn (c := l1 = 4) hc hr
              refine nk_p (i := .iconst (-1)) (len := 1) (pc' := 84) mJ_226 (by decide +kernel) (ns_iconst (c := (-1)) (by decide +kernel)) rfl ?_
              cases hr
              exact nk_iret (ty := .int) (len := 1) mJ_226 (by decide +kernel) rfl (nk_nar_i _)
            · have hr := nk_ifp (c := l1 = 4) (Decidable.of_not_not hc) hr
              refine nk_p (i := .aload_n 0) (len := 1) (pc' := 74) mJ_226 (by decide +kernel) (ns_aload_n 0 rfl rfl) rfl ?_
              refine nk_getM (cj := 12) (z := 0) (x := 12) (len := 3) (ci := 13) (k := 0) (pc' := 77) ja_okT mJ_226 (by decide +kernel) (by decide +kernel) (by decide +kernel) t_l0 rfl (fun t1 => ?_)
              refine nk_getI (y := (0, 0)) (x := 267) (len := 3) (ci := 12) (k := 0) (pc' := 80) ja_okT mJ_226 (by decide +kernel) (by decide +kernel) (by decide +kernel) t1 rfl ?_
              refine nk_p (i := .goto 4) (len := 3) (pc' := 84) mJ_226 (by decide +kernel) (ns_goto (by decide +kernel)) rfl ?_
              cases hr
              exact nk_iret (ty := .int) (len := 1) mJ_226 (by decide +kernel) rfl (nk_nar_i _)
          · have hr := nk_ifp (c := l1 = 3) (Decidable.of_not_not hc) hr
            refine nk_p (i := .aload_n 0) (len := 1) (pc' := 59) mJ_226 (by decide +kernel) (ns_aload_n 0 rfl rfl) rfl ?_
            refine nk_getM (cj := 12) (z := 0) (x := 12) (len := 3) (ci := 13) (k := 0) (pc' := 62) ja_okT mJ_226 (by decide +kernel) (by decide +kernel) (by decide +kernel) t_l0 rfl (fun t2 => ?_)
            refine nk_getI (y := (0, 0)) (x := 362) (len := 3) (ci := 12) (k := 7) (pc' := 65) ja_okT mJ_226 (by decide +kernel) (by decide +kernel) (by decide +kernel) t2 rfl ?_
            refine nk_p (i := .goto 19) (len := 3) (pc' := 84) mJ_226 (by decide +kernel) (ns_goto (by decide +kernel)) rfl ?_
            cases hr
            exact nk_iret (ty := .int) (len := 1) mJ_226 (by decide +kernel) rfl (nk_nar_i _)
        · have hr := nk_ifp (c := l1 = 2) (Decidable.of_not_not hc) hr
          refine nk_p (i := .aload_n 0) (len := 1) (pc' := 44) mJ_226 (by decide +kernel) (ns_aload_n 0 rfl rfl) rfl ?_
          refine nk_getM (cj := 12) (z := 0) (x := 12) (len := 3) (ci := 13) (k := 0) (pc' := 47) ja_okT mJ_226 (by decide +kernel) (by decide +kernel) (by decide +kernel) t_l0 rfl (fun t3 => ?_)
          refine nk_getI (y := (0, 0)) (x := 303) (len := 3) (ci := 12) (k := 2) (pc' := 50) ja_okT mJ_226 (by decide +kernel) (by decide +kernel) (by decide +kernel) t3 rfl ?_
          refine nk_p (i := .goto 34) (len := 3) (pc' := 84) mJ_226 (by decide +kernel) (ns_goto (by decide +kernel)) rfl ?_
          cases hr
          exact nk_iret (ty := .int) (len := 1) mJ_226 (by decide +kernel) rfl (nk_nar_i _)
      · have hr := nk_ifp (c := l1 = 1) (Decidable.of_not_not hc) hr
        refine nk_p (i := .aload_n 0) (len := 1) (pc' := 29) mJ_226 (by decide +kernel) (ns_aload_n 0 rfl rfl) rfl ?_
        refine nk_getM (cj := 12) (z := 0) (x := 12) (len := 3) (ci := 13) (k := 0) (pc' := 32) ja_okT mJ_226 (by decide +kernel) (by decide +kernel) (by decide +kernel) t_l0 rfl (fun t4 => ?_)
        refine nk_getI (y := (0, 0)) (x := 356) (len := 3) (ci := 12) (k := 4) (pc' := 35) ja_okT mJ_226 (by decide +kernel) (by decide +kernel) (by decide +kernel) t4 rfl ?_
        refine nk_p (i := .goto 49) (len := 3) (pc' := 84) mJ_226 (by decide +kernel) (ns_goto (by decide +kernel)) rfl ?_
        cases hr
        exact nk_iret (ty := .int) (len := 1) mJ_226 (by decide +kernel) rfl (nk_nar_i _)
    · have hr := nk_ifp (c := l1 = 0) (Decidable.of_not_not hc) hr
      refine nk_p (i := .aload_n 0) (len := 1) (pc' := 14) mJ_226 (by decide +kernel) (ns_aload_n 0 rfl rfl) rfl ?_
      refine nk_getM (cj := 12) (z := 0) (x := 12) (len := 3) (ci := 13) (k := 0) (pc' := 17) ja_okT mJ_226 (by decide +kernel) (by decide +kernel) (by decide +kernel) t_l0 rfl (fun t5 => ?_)
      refine nk_getI (y := (0, 0)) (x := 353) (len := 3) (ci := 12) (k := 3) (pc' := 20) ja_okT mJ_226 (by decide +kernel) (by decide +kernel) (by decide +kernel) t5 rfl ?_
      refine nk_p (i := .goto 64) (len := 3) (pc' := 84) mJ_226 (by decide +kernel) (ns_goto (by decide +kernel)) rfl ?_
      cases hr
      exact nk_iret (ty := .int) (len := 1) mJ_226 (by decide +kernel) rfl (nk_nar_i _)
  · have hr := nk_ifp (c := (S.1 l0 2) = 0) (Decidable.of_not_not hc) hr
    refine nk_p (i := .iconst (-1)) (len := 1) (pc' := 8) mJ_226 (by decide +kernel) (ns_iconst (c := (-1)) (by decide +kernel)) rfl ?_
    cases hr
    exact nk_iret (ty := .int) (len := 1) mJ_226 (by decide +kernel) rfl (nk_nar_i _)
/-! SafeCodeModel steps ()I -/
noncomputable def ja_X13_steps (l0 : Nat) (S : nk_S) : Option (Int × nk_S) :=
  some ((S.1 l0 58), S)
theorem ja_X13_steps_ok (zs : List Int32) : ∀ (l0 : Nat) (S : nk_S) (R : Int × nk_S), nk_cl ja_Tt l0 = some 13 → ja_X13_steps l0 S = some R → nk_K ja_Tt mi_Γ (mi_ev zs) 1 229 0 [(0, nk_r l0)] [] S R := by
  intro l0 S R t_l0 hr
  unfold ja_X13_steps at hr
  refine nk_p (i := .aload_n 0) (len := 1) (pc' := 1) mJ_229 (by decide +kernel) (ns_aload_n 0 rfl rfl) rfl ?_
  refine nk_getI (y := (0, 0)) (x := 820) (len := 3) (ci := 13) (k := 58) (pc' := 4) ja_okT mJ_229 (by decide +kernel) (by decide +kernel) (by decide +kernel) t_l0 rfl ?_
  cases hr
  exact nk_iret (ty := .int) (len := 1) mJ_229 (by decide +kernel) rfl (nk_nar_i _)
/-! SafeCodeModel strays ()I -/
noncomputable def ja_X13_strays (l0 : Nat) (S : nk_S) : Option (Int × nk_S) :=
  some ((S.1 l0 62), S)
theorem ja_X13_strays_ok (zs : List Int32) : ∀ (l0 : Nat) (S : nk_S) (R : Int × nk_S), nk_cl ja_Tt l0 = some 13 → ja_X13_strays l0 S = some R → nk_K ja_Tt mi_Γ (mi_ev zs) 1 230 0 [(0, nk_r l0)] [] S R := by
  intro l0 S R t_l0 hr
  unfold ja_X13_strays at hr
  refine nk_p (i := .aload_n 0) (len := 1) (pc' := 1) mJ_230 (by decide +kernel) (ns_aload_n 0 rfl rfl) rfl ?_
  refine nk_getI (y := (0, 0)) (x := 841) (len := 3) (ci := 13) (k := 62) (pc' := 4) ja_okT mJ_230 (by decide +kernel) (by decide +kernel) (by decide +kernel) t_l0 rfl ?_
  cases hr
  exact nk_iret (ty := .int) (len := 1) mJ_230 (by decide +kernel) rfl (nk_nar_i _)
/-! SafeCodeModel thrown ()I -/
noncomputable def ja_X13_thrown (l0 : Nat) (S : nk_S) : Option (Int × nk_S) :=
  some ((S.1 l0 60), S)
theorem ja_X13_thrown_ok (zs : List Int32) : ∀ (l0 : Nat) (S : nk_S) (R : Int × nk_S), nk_cl ja_Tt l0 = some 13 → ja_X13_thrown l0 S = some R → nk_K ja_Tt mi_Γ (mi_ev zs) 1 234 0 [(0, nk_r l0)] [] S R := by
  intro l0 S R t_l0 hr
  unfold ja_X13_thrown at hr
  refine nk_p (i := .aload_n 0) (len := 1) (pc' := 1) mJ_234 (by decide +kernel) (ns_aload_n 0 rfl rfl) rfl ?_
  refine nk_getI (y := (0, 0)) (x := 138) (len := 3) (ci := 13) (k := 60) (pc' := 4) ja_okT mJ_234 (by decide +kernel) (by decide +kernel) (by decide +kernel) t_l0 rfl ?_
  cases hr
  exact nk_iret (ty := .int) (len := 1) mJ_234 (by decide +kernel) rfl (nk_nar_i _)
/-! SafeCodeModel written ()I -/
noncomputable def ja_X13_written (l0 : Nat) (S : nk_S) : Option (Int × nk_S) :=
  some ((S.1 l0 57), S)
theorem ja_X13_written_ok (zs : List Int32) : ∀ (l0 : Nat) (S : nk_S) (R : Int × nk_S), nk_cl ja_Tt l0 = some 13 → ja_X13_written l0 S = some R → nk_K ja_Tt mi_Γ (mi_ev zs) 1 245 0 [(0, nk_r l0)] [] S R := by
  intro l0 S R t_l0 hr
  unfold ja_X13_written at hr
  refine nk_p (i := .aload_n 0) (len := 1) (pc' := 1) mJ_245 (by decide +kernel) (ns_aload_n 0 rfl rfl) rfl ?_
  refine nk_getI (y := (0, 0)) (x := 817) (len := 3) (ci := 13) (k := 57) (pc' := 4) ja_okT mJ_245 (by decide +kernel) (by decide +kernel) (by decide +kernel) t_l0 rfl ?_
  cases hr
  exact nk_iret (ty := .int) (len := 1) mJ_245 (by decide +kernel) rfl (nk_nar_i _)
