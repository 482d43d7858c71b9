/-! SafeCodeModel members (LSafeCodeModel$Program;)Z -/
noncomputable def ja_X13_members_b78 (rec15 : Nat → Nat → Int → nk_S → Option (Int × nk_S)) (rec33 : Nat → Nat → Int → Int → nk_S → Option (Int × nk_S)) (l0 : Nat) (l1 : Nat) (l2 : Int) (l3 : Int) (S : nk_S) : Option (Int × nk_S) :=
  nk_bd (ja_X13_behindMember l0 l2 S) fun r1 S2 =>
  rec33 l0 l1 r1 l3 S2
theorem ja_X13_members_b78_ok (zs : List Int32) {rec15 : Nat → Nat → Int → nk_S → Option (Int × nk_S)} (hrec15 : ∀ (l0 : Nat) (l1 : Nat) (l3 : Int) (S : nk_S) (R : Int × nk_S), nk_cl ja_Tt l0 = some 13 → nk_cl ja_Tt l1 = some 12 → rec15 l0 l1 l3 S = some R → nk_K ja_Tt mi_Γ (mi_ev zs) 1 193 15 [(0, nk_r l0), (1, nk_r l1), (3, nk_i l3)] [] S R) {rec33 : Nat → Nat → Int → Int → nk_S → Option (Int × nk_S)} (hrec33 : ∀ (l0 : Nat) (l1 : Nat) (l2 : Int) (l3 : Int) (S : nk_S) (R : Int × nk_S), nk_cl ja_Tt l0 = some 13 → nk_cl ja_Tt l1 = some 12 → rec33 l0 l1 l2 l3 S = some R → nk_K ja_Tt mi_Γ (mi_ev zs) 1 193 33 [(0, nk_r l0), (1, nk_r l1), (2, nk_i l2), (3, nk_i l3)] [] S R) : ∀ (l0 : Nat) (l1 : Nat) (l2 : Int) (l3 : Int) (S : nk_S) (R : Int × nk_S), nk_cl ja_Tt l0 = some 13 → nk_cl ja_Tt l1 = some 12 → ja_X13_members_b78 rec15 rec33 l0 l1 l2 l3 S = some R → nk_K ja_Tt mi_Γ (mi_ev zs) 1 193 78 [(0, nk_r l0), (1, nk_r l1), (2, nk_i l2), (3, nk_i l3)] [] S R := by
  intro l0 l1 l2 l3 S R t_l0 t_l1 hr
  unfold ja_X13_members_b78 at hr
  refine nk_p (i := .aload_n 0) (len := 1) (pc' := 79) mJ_193 (by decide +kernel) (ns_aload_n 0 rfl rfl) rfl ?_
  refine nk_p (i := .iload_n 2) (len := 1) (pc' := 80) mJ_193 (by decide +kernel) (ns_iload_n 2 rfl rfl) rfl ?_
  obtain ⟨r1, S2, h3, hr⟩ := nk_bde hr
  refine nk_callV (ci := 13) (n := 1) (x := 314) (len := 3) (j' := 88) (q' := 1) (r := r1) (S' := S2) (L2 := [(0, nk_r l0), (1, nk_i l2)]) (rest := []) (st' := [nk_i r1]) (pc' := 83) mJ_193 (by decide +kernel) (by decide +kernel) rfl rfl t_l0 (Nat.le_of_ble_eq_true rfl) mJ_88 (Nat.le_of_ble_eq_true rfl) rfl (ja_X13_behindMember_ok zs _ _ _ _ t_l0 h3) rfl ?_
  refine nk_p (i := .istore_n 2) (len := 1) (pc' := 84) mJ_193 (by decide +kernel) (ns_istore_n (L' := [(2, nk_i r1), (0, nk_r l0), (1, nk_r l1), (3, nk_i l3)]) rfl rfl rfl (by decide +kernel)) rfl ?_
  refine nk_p (i := .goto (-51)) (len := 3) (pc' := 33) mJ_193 (by decide +kernel) (ns_goto (by decide +kernel)) rfl ?_
  refine nk_sub [1, 2, 0, 3] (L' := [(0, nk_r l0), (1, nk_r l1), (2, nk_i r1), (3, nk_i l3)]) rfl ?_
  exact hrec33 _ _ _ _ _ _ t_l0 t_l1 hr
noncomputable def ja_X13_members_b33 (rec15 : Nat → Nat → Int → nk_S → Option (Int × nk_S)) (rec33 : Nat → Nat → Int → Int → nk_S → Option (Int × nk_S)) (l0 : Nat) (l1 : Nat) (l2 : Int) (l3 : Int) (S : nk_S) : Option (Int × nk_S) :=
  nk_bd (ja_X13_is l0 l2 13 S) fun r1 S2 =>
  if r1 = 0 then
    nk_bd (ja_X13_is l0 l2 15 S2) fun r6 S7 =>
    if r6 = 0 then
      nk_bd (ja_X13_body l0 l1 l3 l2 S7) fun r9 S10 =>
      if r9 = 0 then
        some (0, S10)
      else
        ja_X13_members_b78 rec15 rec33 l0 l1 l2 l3 S10
    else
      nk_bd (ja_X13_field l0 l1 l3 l2 S7) fun r12 S13 =>
      if r12 = 0 then
        some (0, S13)
      else
        ja_X13_members_b78 rec15 rec33 l0 l1 l2 l3 S13
  else
    nk_lt (nk_w (l3 + 1)) fun v4 =>
    rec15 l0 l1 v4 S2
theorem ja_X13_members_b33_ok (zs : List Int32) {rec15 : Nat → Nat → Int → nk_S → Option (Int × nk_S)} (hrec15 : ∀ (l0 : Nat) (l1 : Nat) (l3 : Int) (S : nk_S) (R : Int × nk_S), nk_cl ja_Tt l0 = some 13 → nk_cl ja_Tt l1 = some 12 → rec15 l0 l1 l3 S = some R → nk_K ja_Tt mi_Γ (mi_ev zs) 1 193 15 [(0, nk_r l0), (1, nk_r l1), (3, nk_i l3)] [] S R) {rec33 : Nat → Nat → Int → Int → nk_S → Option (Int × nk_S)} (hrec33 : ∀ (l0 : Nat) (l1 : Nat) (l2 : Int) (l3 : Int) (S : nk_S) (R : Int × nk_S), nk_cl ja_Tt l0 = some 13 → nk_cl ja_Tt l1 = some 12 → rec33 l0 l1 l2 l3 S = some R → nk_K ja_Tt mi_Γ (mi_ev zs) 1 193 33 [(0, nk_r l0), (1, nk_r l1), (2, nk_i l2), (3, nk_i l3)] [] S R) : ∀ (l0 : Nat) (l1 : Nat) (l2 : Int) (l3 : Int) (S : nk_S) (R : Int × nk_S), nk_cl ja_Tt l0 = some 13 → nk_cl ja_Tt l1 = some 12 → ja_X13_members_b33 rec15 rec33 l0 l1 l2 l3 S = some R → nk_K ja_Tt mi_Γ (mi_ev zs) 1 193 33 [(0, nk_r l0), (1, nk_r l1), (2, nk_i l2), (3, nk_i l3)] [] S R := by
  intro l0 l1 l2 l3 S R t_l0 t_l1 hr
  unfold ja_X13_members_b33 at hr
  refine nk_p (i := .aload_n 0) (len := 1) (pc' := 34) mJ_193 (by decide +kernel) (ns_aload_n 0 rfl rfl) rfl ?_
  refine nk_p (i := .iload_n 2) (len := 1) (pc' := 35) mJ_193 (by decide +kernel) (ns_iload_n 2 rfl rfl) rfl ?_
  refine nk_ldct (x := 214) (len := 2) (k := 13) (s := "}") (pc' := 37) mJ_193 (by decide +kernel) (by decide +kernel) (by decide +kernel) rfl ?_
  obtain ⟨r1, S2, h3, hr⟩ := nk_bde hr
  refine nk_callV (ci := 13) (n := 2) (x := 199) (len := 3) (j' := 138) (q' := 1) (r := r1) (S' := S2) (L2 := [(0, nk_r l0), (1, nk_i l2), (2, nk_o 13)]) (rest := []) (st' := [nk_i r1]) (pc' := 40) mJ_193 (by decide +kernel) (by decide +kernel) rfl rfl t_l0 (Nat.le_of_ble_eq_true rfl) mJ_138 (Nat.le_of_ble_eq_true rfl) rfl (ja_X13_is_ok zs _ _ _ _ _ t_l0 (ja_tx13 zs) h3) rfl ?_
  refine nk_icond (c := .ne) (off := 47) (len := 3) (t := 87) (pc' := 43) mJ_193 (by decide +kernel) (by decide +kernel) rfl (fun hc => ?_) (fun hc => ?_)
  · have hr := nk_ifn (c := r1 = 0) hc hr
    obtain ⟨v4, h5, hr⟩ := nk_lte hr
    refine nk_p (i := .iinc 3 1) (len := 3) (pc' := 90) mJ_193 (by decide +kernel) (ns_iinc (c := 1) (L' := [(3, nk_i v4), (0, nk_r l0), (1, nk_r l1), (2, nk_i l2)]) 3 rfl (by decide +kernel) h5 rfl (by decide +kernel)) rfl ?_
    refine nk_p (i := .goto (-75)) (len := 3) (pc' := 15) mJ_193 (by decide +kernel) (ns_goto (by decide +kernel)) rfl ?_
    refine nk_sub [1, 2, 0] (L' := [(0, nk_r l0), (1, nk_r l1), (3, nk_i v4)]) rfl ?_
    exact hrec15 _ _ _ _ _ t_l0 t_l1 hr
  · have hr := nk_ifp (c := r1 = 0) (Decidable.of_not_not hc) hr
    refine nk_p (i := .aload_n 0) (len := 1) (pc' := 44) mJ_193 (by decide +kernel) (ns_aload_n 0 rfl rfl) rfl ?_
    refine nk_p (i := .iload_n 2) (len := 1) (pc' := 45) mJ_193 (by decide +kernel) (ns_iload_n 2 rfl rfl) rfl ?_
    refine nk_ldct (x := 220) (len := 2) (k := 15) (s := "field") (pc' := 47) mJ_193 (by decide +kernel) (by decide +kernel) (by decide +kernel) rfl ?_
    obtain ⟨r6, S7, h8, hr⟩ := nk_bde hr
    refine nk_callV (ci := 13) (n := 2) (x := 199) (len := 3) (j' := 138) (q' := 1) (r := r6) (S' := S7) (L2 := [(0, nk_r l0), (1, nk_i l2), (2, nk_o 15)]) (rest := []) (st' := [nk_i r6]) (pc' := 50) mJ_193 (by decide +kernel) (by decide +kernel) rfl rfl t_l0 (Nat.le_of_ble_eq_true rfl) mJ_138 (Nat.le_of_ble_eq_true rfl) rfl (ja_X13_is_ok zs _ _ _ _ _ t_l0 (ja_tx15 zs) h8) rfl ?_
    refine nk_icond (c := .eq) (off := 16) (len := 3) (t := 66) (pc' := 53) mJ_193 (by decide +kernel) (by decide +kernel) rfl (fun hc => ?_) (fun hc => ?_)
    · have hr := nk_ifp (c := r6 = 0) hc hr
      refine nk_p (i := .aload_n 0) (len := 1) (pc' := 67) mJ_193 (by decide +kernel) (ns_aload_n 0 rfl rfl) rfl ?_
      refine nk_p (i := .aload_n 1) (len := 1) (pc' := 68) mJ_193 (by decide +kernel) (ns_aload_n 1 rfl rfl) rfl ?_
      refine nk_p (i := .iload_n 3) (len := 1) (pc' := 69) mJ_193 (by decide +kernel) (ns_iload_n 3 rfl rfl) rfl ?_
      refine nk_p (i := .iload_n 2) (len := 1) (pc' := 70) mJ_193 (by decide +kernel) (ns_iload_n 2 rfl rfl) rfl ?_
      obtain ⟨r9, S10, h11, hr⟩ := nk_bde hr
      refine nk_callV (ci := 13) (n := 3) (x := 311) (len := 3) (j' := 89) (q' := 1) (r := r9) (S' := S10) (L2 := [(0, nk_r l0), (1, nk_r l1), (2, nk_i l3), (3, nk_i l2)]) (rest := []) (st' := [nk_i r9]) (pc' := 73) mJ_193 (by decide +kernel) (by decide +kernel) rfl rfl t_l0 (Nat.le_of_ble_eq_true rfl) mJ_89 (Nat.le_of_ble_eq_true rfl) rfl (ja_X13_body_ok zs _ _ _ _ _ _ t_l0 t_l1 h11) rfl ?_
      refine nk_icond (c := .ne) (off := 5) (len := 3) (t := 78) (pc' := 76) mJ_193 (by decide +kernel) (by decide +kernel) rfl (fun hc => ?_) (fun hc => ?_)
      · have hr := nk_ifn (c := r9 = 0) hc hr
        exact ja_X13_members_b78_ok zs hrec15 hrec33 _ _ _ _ _ _ t_l0 t_l1 hr
      · have hr := nk_ifp (c := r9 = 0) (Decidable.of_not_not hc) hr
        refine nk_p (i := .iconst 0) (len := 1) (pc' := 77) mJ_193 (by decide +kernel) (ns_iconst (c := 0) (by decide +kernel)) rfl ?_
        cases hr
        exact nk_iret (ty := .boolean) (len := 1) mJ_193 (by decide +kernel) rfl (nk_nar_z (by decide))
    · have hr := nk_ifn (c := r6 = 0) hc hr
      refine nk_p (i := .aload_n 0) (len := 1) (pc' := 54) mJ_193 (by decide +kernel) (ns_aload_n 0 rfl rfl) rfl ?_
      refine nk_p (i := .aload_n 1) (len := 1) (pc' := 55) mJ_193 (by decide +kernel) (ns_aload_n 1 rfl rfl) rfl ?_
      refine nk_p (i := .iload_n 3) (len := 1) (pc' := 56) mJ_193 (by decide +kernel) (ns_iload_n 3 rfl rfl) rfl ?_
      refine nk_p (i := .iload_n 2) (len := 1) (pc' := 57) mJ_193 (by decide +kernel) (ns_iload_n 2 rfl rfl) rfl ?_
      obtain ⟨r12, S13, h14, hr⟩ := nk_bde hr
      refine nk_callV (ci := 13) (n := 3) (x := 309) (len := 3) (j' := 121) (q' := 1) (r := r12) (S' := S13) (L2 := [(0, nk_r l0), (1, nk_r l1), (2, nk_i l3), (3, nk_i l2)]) (rest := []) (st' := [nk_i r12]) (pc' := 60) mJ_193 (by decide +kernel) (by decide +kernel) rfl rfl t_l0 (Nat.le_of_ble_eq_true rfl) mJ_121 (Nat.le_of_ble_eq_true rfl) rfl (ja_X13_field_ok zs _ _ _ _ _ _ t_l0 t_l1 h14) rfl ?_
      refine nk_icond (c := .ne) (off := 18) (len := 3) (t := 78) (pc' := 63) mJ_193 (by decide +kernel) (by decide +kernel) rfl (fun hc => ?_) (fun hc => ?_)
      · have hr := nk_ifn (c := r12 = 0) hc hr
        exact ja_X13_members_b78_ok zs hrec15 hrec33 _ _ _ _ _ _ t_l0 t_l1 hr
      · have hr := nk_ifp (c := r12 = 0) (Decidable.of_not_not hc) hr
        refine nk_p (i := .goto 13) (len := 3) (pc' := 76) mJ_193 (by decide +kernel) (ns_goto (by decide +kernel)) rfl ?_
        refine nk_p (i := .iconst 0) (len := 1) (pc' := 77) mJ_193 (by decide +kernel) (ns_iconst (c := 0) (by decide +kernel)) rfl ?_
        cases hr
        exact nk_iret (ty := .boolean) (len := 1) mJ_193 (by decide +kernel) rfl (nk_nar_z (by decide))
noncomputable def ja_X13_members_L33 (rec15 : Nat → Nat → Int → nk_S → Option (Int × nk_S)) : Nat → Nat → Nat → Int → Int → nk_S → Option (Int × nk_S)
  | 0, _, _, _, _, _ => none
  | n + 1, l0, l1, l2, l3, S => ja_X13_members_b33 rec15 (ja_X13_members_L33 rec15 n) l0 l1 l2 l3 S
theorem ja_X13_members_L33_ok (zs : List Int32) {rec15 : Nat → Nat → Int → nk_S → Option (Int × nk_S)} (hrec15 : ∀ (l0 : Nat) (l1 : Nat) (l3 : Int) (S : nk_S) (R : Int × nk_S), nk_cl ja_Tt l0 = some 13 → nk_cl ja_Tt l1 = some 12 → rec15 l0 l1 l3 S = some R → nk_K ja_Tt mi_Γ (mi_ev zs) 1 193 15 [(0, nk_r l0), (1, nk_r l1), (3, nk_i l3)] [] S R) : ∀ n : Nat, ∀ (l0 : Nat) (l1 : Nat) (l2 : Int) (l3 : Int) (S : nk_S) (R : Int × nk_S), nk_cl ja_Tt l0 = some 13 → nk_cl ja_Tt l1 = some 12 → ja_X13_members_L33 rec15 n l0 l1 l2 l3 S = some R → nk_K ja_Tt mi_Γ (mi_ev zs) 1 193 33 [(0, nk_r l0), (1, nk_r l1), (2, nk_i l2), (3, nk_i l3)] [] S R := by
  intro n
  induction n with
  | zero => intro _ _ _ _ _ _ _ _ hr; cases hr
  | succ n ih => intro l0 l1 l2 l3 S R t_l0 t_l1 hr; exact ja_X13_members_b33_ok zs hrec15 ih l0 l1 l2 l3 S R t_l0 t_l1 hr
noncomputable def ja_X13_members_b15 (rec15 : Nat → Nat → Int → nk_S → Option (Int × nk_S)) (l0 : Nat) (l1 : Nat) (l3 : Int) (S : nk_S) : Option (Int × nk_S) :=
  nk_bd (ja_X13_classCount l0 l1 S) fun r1 S2 =>
  if r1 ≤ l3 then
    some (1, S2)
  else
    if 0 ≤ l3 ∧ l3 < 32 then
    nk_lt (nk_w ((S2.1 (ja_c l0 13) l3.toNat) + 4)) fun v6 =>
    ja_X13_members_L33 rec15 nk_big l0 l1 v6 l3 S2
    else none
theorem ja_X13_members_b15_ok (zs : List Int32) {rec15 : Nat → Nat → Int → nk_S → Option (Int × nk_S)} (hrec15 : ∀ (l0 : Nat) (l1 : Nat) (l3 : Int) (S : nk_S) (R : Int × nk_S), nk_cl ja_Tt l0 = some 13 → nk_cl ja_Tt l1 = some 12 → rec15 l0 l1 l3 S = some R → nk_K ja_Tt mi_Γ (mi_ev zs) 1 193 15 [(0, nk_r l0), (1, nk_r l1), (3, nk_i l3)] [] S R) : ∀ (l0 : Nat) (l1 : Nat) (l3 : Int) (S : nk_S) (R : Int × nk_S), nk_cl ja_Tt l0 = some 13 → nk_cl ja_Tt l1 = some 12 → ja_X13_members_b15 rec15 l0 l1 l3 S = some R → nk_K ja_Tt mi_Γ (mi_ev zs) 1 193 15 [(0, nk_r l0), (1, nk_r l1), (3, nk_i l3)] [] S R := by
  intro l0 l1 l3 S R t_l0 t_l1 hr
  unfold ja_X13_members_b15 at hr
  refine nk_p (i := .iload_n 3) (len := 1) (pc' := 16) mJ_193 (by decide +kernel) (ns_iload_n 2 rfl rfl) rfl ?_
  refine nk_p (i := .aload_n 0) (len := 1) (pc' := 17) mJ_193 (by decide +kernel) (ns_aload_n 0 rfl rfl) rfl ?_
  refine nk_p (i := .aload_n 1) (len := 1) (pc' := 18) mJ_193 (by decide +kernel) (ns_aload_n 1 rfl rfl) rfl ?_
  obtain ⟨r1, S2, h3, hr⟩ := nk_bde hr
  refine nk_callV (ci := 13) (n := 1) (x := 272) (len := 3) (j' := 97) (q' := 1) (r := r1) (S' := S2) (L2 := [(0, nk_r l0), (1, nk_r l1)]) (rest := [nk_i l3]) (st' := [nk_i r1, nk_i l3]) (pc' := 21) mJ_193 (by decide +kernel) (by decide +kernel) rfl rfl t_l0 (Nat.le_of_ble_eq_true rfl) mJ_97 (Nat.le_of_ble_eq_true rfl) rfl (ja_X13_classCount_ok zs _ _ _ _ t_l0 t_l1 h3) rfl ?_
  refine nk_icmp (c := .ge) (off := 72) (len := 3) (t := 93) (pc' := 24) mJ_193 (by decide +kernel) (by decide +kernel) rfl (fun hc => ?_) (fun hc => ?_)
  · have hr := nk_ifp (c := r1 ≤ l3) hc hr
    refine nk_p (i := .iconst 1) (len := 1) (pc' := 94) mJ_193 (by decide +kernel) (ns_iconst (c := 1) (by decide +kernel)) rfl ?_
    cases hr
    exact nk_iret (ty := .boolean) (len := 1) mJ_193 (by decide +kernel) rfl (nk_nar_z (by decide))
  · have hr := nk_ifn (c := r1 ≤ l3) hc hr
    refine nk_p (i := .aload_n 0) (len := 1) (pc' := 25) mJ_193 (by decide +kernel) (ns_aload_n 0 rfl rfl) rfl ?_
    refine nk_getC (f := (4, 1, 32)) (x := 37) (len := 3) (ci := 13) (k := 13) (pc' := 28) ja_okT mJ_193 (by decide +kernel) (by decide +kernel) (by decide +kernel) (by decide) t_l0 rfl ?_
    have t4 : nk_ar ja_Tt (ja_c l0 13) = some (1, 32) := nk_ta ja_okT t_l0 (by decide +kernel)
    refine nk_p (i := .iload_n 3) (len := 1) (pc' := 29) mJ_193 (by decide +kernel) (ns_iload_n 2 rfl rfl) rfl ?_
    obtain ⟨h5, hr⟩ := nk_cke hr
    refine nk_iald (len := 1) (N := 32) (pc' := 30) mJ_193 (by decide +kernel) t4 h5.1 h5.2 rfl rfl ?_
    refine nk_p (i := .iconst 4) (len := 1) (pc' := 31) mJ_193 (by decide +kernel) (ns_iconst (c := 4) (by decide +kernel)) rfl ?_
    refine nk_p (i := .iadd) (len := 1) (pc' := 32) mJ_193 (by decide +kernel) ns_iadd rfl ?_
    obtain ⟨v6, h7, hr⟩ := nk_lte hr
    refine nk_p (i := .istore_n 2) (len := 1) (pc' := 33) mJ_193 (by decide +kernel) (ns_istore_n (L' := [(2, nk_i v6), (0, nk_r l0), (1, nk_r l1), (3, nk_i l3)]) h7 rfl rfl (by decide +kernel)) rfl ?_
    refine nk_sub [1, 2, 0, 3] (L' := [(0, nk_r l0), (1, nk_r l1), (2, nk_i v6), (3, nk_i l3)]) rfl ?_
    exact ja_X13_members_L33_ok zs hrec15 nk_big _ _ _ _ _ _ t_l0 t_l1 hr
noncomputable def ja_X13_members_L15 : Nat → Nat → Nat → Int → nk_S → Option (Int × nk_S)
  | 0, _, _, _, _ => none
  | n + 1, l0, l1, l3, S => ja_X13_members_b15 (ja_X13_members_L15 n) l0 l1 l3 S
theorem ja_X13_members_L15_ok (zs : List Int32) : ∀ n : Nat, ∀ (l0 : Nat) (l1 : Nat) (l3 : Int) (S : nk_S) (R : Int × nk_S), nk_cl ja_Tt l0 = some 13 → nk_cl ja_Tt l1 = some 12 → ja_X13_members_L15 n l0 l1 l3 S = some R → nk_K ja_Tt mi_Γ (mi_ev zs) 1 193 15 [(0, nk_r l0), (1, nk_r l1), (3, nk_i l3)] [] S R := by
  intro n
  induction n with
  | zero => intro _ _ _ _ _ _ _ hr; cases hr
  | succ n ih => intro l0 l1 l3 S R t_l0 t_l1 hr; exact ja_X13_members_b15_ok zs ih l0 l1 l3 S R t_l0 t_l1 hr
noncomputable def ja_X13_members (l0 : Nat) (l1 : Nat) (S : nk_S) : Option (Int × nk_S) :=
  nk_lt (nk_wi S l1 1 0) fun S1 =>
  nk_lt (nk_wi S1 l1 2 0) fun S3 =>
  ja_X13_members_L15 nk_big l0 l1 8 S3
theorem ja_X13_members_ok (zs : List Int32) : ∀ (l0 : Nat) (l1 : Nat) (S : nk_S) (R : Int × nk_S), nk_cl ja_Tt l0 = some 13 → nk_cl ja_Tt l1 = some 12 → ja_X13_members l0 l1 S = some R → nk_K ja_Tt mi_Γ (mi_ev zs) 1 193 0 [(0, nk_r l0), (1, nk_r l1)] [] S R := by
  intro l0 l1 S R t_l0 t_l1 hr
  unfold ja_X13_members at hr
  refine nk_p (i := .aload_n 1) (len := 1) (pc' := 1) mJ_193 (by decide +kernel) (ns_aload_n 1 rfl rfl) rfl ?_
  refine nk_p (i := .iconst 0) (len := 1) (pc' := 2) mJ_193 (by decide +kernel) (ns_iconst (c := 0) (by decide +kernel)) rfl ?_
  obtain ⟨S1, h2, hr⟩ := nk_lte hr
  refine nk_putI (y := (0, 0)) (ty := .int) (x := 293) (len := 3) (ci := 12) (k := 1) (pc' := 5) ja_okT mJ_193 (by decide +kernel) (by decide +kernel) (by decide +kernel) t_l1 (Or.inl rfl) rfl h2 ?_
  refine nk_p (i := .aload_n 1) (len := 1) (pc' := 6) mJ_193 (by decide +kernel) (ns_aload_n 1 rfl rfl) rfl ?_
  refine nk_p (i := .iconst 0) (len := 1) (pc' := 7) mJ_193 (by decide +kernel) (ns_iconst (c := 0) (by decide +kernel)) rfl ?_
  obtain ⟨S3, h4, hr⟩ := nk_lte hr
  refine nk_putI (y := (0, 0)) (ty := .int) (x := 303) (len := 3) (ci := 12) (k := 2) (pc' := 10) ja_okT mJ_193 (by decide +kernel) (by decide +kernel) (by decide +kernel) t_l1 (Or.inl rfl) rfl h4 ?_
  refine nk_p (i := .iconst 0) (len := 1) (pc' := 11) mJ_193 (by decide +kernel) (ns_iconst (c := 0) (by decide +kernel)) rfl ?_
  refine nk_p (i := .istore_n 2) (len := 1) (pc' := 12) mJ_193 (by decide +kernel) (ns_istore_n (L' := [(2, nk_i 0), (0, nk_r l0), (1, nk_r l1)]) rfl rfl rfl (by decide +kernel)) rfl ?_
  refine nk_p (i := .bipush 8) (len := 2) (pc' := 14) mJ_193 (by decide +kernel) (ns_bipush (c := 8) (by decide +kernel)) rfl ?_
  refine nk_p (i := .istore_n 3) (len := 1) (pc' := 15) mJ_193 (by decide +kernel) (ns_istore_n (L' := [(3, nk_i 8), (2, nk_i 0), (0, nk_r l0), (1, nk_r l1)]) rfl rfl rfl (by decide +kernel)) rfl ?_
  refine nk_sub [2, 3, 0] (L' := [(0, nk_r l0), (1, nk_r l1), (3, nk_i 8)]) rfl ?_
  exact ja_X13_members_L15_ok zs nk_big _ _ _ _ _ t_l0 t_l1 hr
/-! SafeCodeModel lineLength (I)I -/
noncomputable def ja_X13_lineLength (l0 : Nat) (l1 : Int) (S : nk_S) : Option (Int × nk_S) :=
  nk_bd (ja_X13_isLabel l0 l1 S) fun r1 S2 =>
  if r1 = 0 then
    nk_bd (ja_X13_is l0 l1 29 S2) fun r4 S5 =>
    if r4 = 0 then
      nk_bd (ja_X13_opOf l0 l1 S5) fun r7 S8 =>
      nk_bd (ja_J0_charAt_5068e 33 r7 S8) fun r10 S11 =>
      if r10 = 45 then
        some (1, S11)
      else
        if r10 = 73 then
          some (3, S11)
        else
          some (2, S11)
    else
      some (5, S5)
  else
    some (2, S2)
theorem ja_X13_lineLength_ok (zs : List Int32) : ∀ (l0 : Nat) (l1 : Int) (S : nk_S) (R : Int × nk_S), nk_cl ja_Tt l0 = some 13 → ja_X13_lineLength l0 l1 S = some R → nk_K ja_Tt mi_Γ (mi_ev zs) 1 181 0 [(0, nk_r l0), (1, nk_i l1)] [] S R := by
  intro l0 l1 S R t_l0 hr
  unfold ja_X13_lineLength at hr
  refine nk_p (i := .aload_n 0) (len := 1) (pc' := 1) mJ_181 (by decide +kernel) (ns_aload_n 0 rfl rfl) rfl ?_
  refine nk_p (i := .iload_n 1) (len := 1) (pc' := 2) mJ_181 (by decide +kernel) (ns_iload_n 1 rfl rfl) rfl ?_
  obtain ⟨r1, S2, h3, hr⟩ := nk_bde hr
  refine nk_callV (ci := 13) (n := 1) (x := 252) (len := 3) (j' := 150) (q' := 1) (r := r1) (S' := S2) (L2 := [(0, nk_r l0), (1, nk_i l1)]) (rest := []) (st' := [nk_i r1]) (pc' := 5) mJ_181 (by decide +kernel) (by decide +kernel) rfl rfl t_l0 (Nat.le_of_ble_eq_true rfl) mJ_150 (Nat.le_of_ble_eq_true rfl) rfl (ja_X13_isLabel_ok zs _ _ _ _ t_l0 h3) rfl ?_
  refine nk_icond (c := .eq) (off := 5) (len := 3) (t := 10) (pc' := 8) mJ_181 (by decide +kernel) (by decide +kernel) rfl (fun hc => ?_) (fun hc => ?_)
  · have hr := nk_ifp (c := r1 = 0) hc hr
    refine nk_p (i := .aload_n 0) (len := 1) (pc' := 11) mJ_181 (by decide +kernel) (ns_aload_n 0 rfl rfl) rfl ?_
    refine nk_p (i := .iload_n 1) (len := 1) (pc' := 12) mJ_181 (by decide +kernel) (ns_iload_n 1 rfl rfl) rfl ?_
    refine nk_ldct (x := 255) (len := 2) (k := 29) (s := "catch") (pc' := 14) mJ_181 (by decide +kernel) (by decide +kernel) (by decide +kernel) rfl ?_
    obtain ⟨r4, S5, h6, hr⟩ := nk_bde hr
    refine nk_callV (ci := 13) (n := 2) (x := 199) (len := 3) (j' := 138) (q' := 1) (r := r4) (S' := S5) (L2 := [(0, nk_r l0), (1, nk_i l1), (2, nk_o 29)]) (rest := []) (st' := [nk_i r4]) (pc' := 17) mJ_181 (by decide +kernel) (by decide +kernel) rfl rfl t_l0 (Nat.le_of_ble_eq_true rfl) mJ_138 (Nat.le_of_ble_eq_true rfl) rfl (ja_X13_is_ok zs _ _ _ _ _ t_l0 (ja_tx29 zs) h6) rfl ?_
    refine nk_icond (c := .eq) (off := 5) (len := 3) (t := 22) (pc' := 20) mJ_181 (by decide +kernel) (by decide +kernel) rfl (fun hc => ?_) (fun hc => ?_)
    · have hr := nk_ifp (c := r4 = 0) hc hr
      refine nk_ldwt (x := 260) (len := 3) (k := 33) (s := "N-KKI--------------LLLLLLLLLLLCE---FFTTFF-----") (pc' := 25) mJ_181 (by decide +kernel) (by decide +kernel) (by decide +kernel) rfl ?_
      refine nk_p (i := .aload_n 0) (len := 1) (pc' := 26) mJ_181 (by decide +kernel) (ns_aload_n 0 rfl rfl) rfl ?_
      refine nk_p (i := .iload_n 1) (len := 1) (pc' := 27) mJ_181 (by decide +kernel) (ns_iload_n 1 rfl rfl) rfl ?_
      obtain ⟨r7, S8, h9, hr⟩ := nk_bde hr
      refine nk_callV (ci := 13) (n := 1) (x := 257) (len := 3) (j' := 203) (q' := 1) (r := r7) (S' := S8) (L2 := [(0, nk_r l0), (1, nk_i l1)]) (rest := [nk_o 33]) (st' := [nk_i r7, nk_o 33]) (pc' := 30) mJ_181 (by decide +kernel) (by decide +kernel) rfl rfl t_l0 (Nat.le_of_ble_eq_true rfl) mJ_203 (Nat.le_of_ble_eq_true rfl) rfl (ja_X13_opOf_ok zs _ _ _ _ t_l0 h9) rfl ?_
      obtain ⟨r10, S11, h12, hr⟩ := nk_bde hr
      refine nk_callT (ci := 0) (n := 1) (x := 163) (len := 3) (j' := 1) (q' := 1) (r := r10) (S' := S11) (L2 := [(0, nk_o 33), (1, nk_i r7)]) (rest := []) (st' := [nk_i r10]) (pc' := 33) mJ_181 (by decide +kernel) (by decide +kernel) rfl rfl (ja_tx33 zs).1 (Nat.le_of_ble_eq_true rfl) mJ_1 (Nat.le_of_ble_eq_true rfl) ja_Tpos rfl (ja_J0_charAt_5068e_ok zs _ _ _ _ (ja_tx33 zs) h12) rfl ?_
      refine nk_p (i := .istore_n 2) (len := 1) (pc' := 34) mJ_181 (by decide +kernel) (ns_istore_n (L' := [(2, nk_i r10), (0, nk_r l0), (1, nk_i l1)]) rfl rfl rfl (by decide +kernel)) rfl ?_
      refine nk_p (i := .iload_n 2) (len := 1) (pc' := 35) mJ_181 (by decide +kernel) (ns_iload_n 0 rfl rfl) rfl ?_
      refine nk_p (i := .bipush 45) (len := 2) (pc' := 37) mJ_181 (by decide +kernel) (ns_bipush (c := 45) (by decide +kernel)) rfl ?_
      refine nk_icmp (c := .ne) (off := 7) (len := 3) (t := 44) (pc' := 40) mJ_181 (by decide +kernel) (by decide +kernel) rfl (fun hc => ?_) (fun hc => ?_)
      · have hr := nk_ifn (c := r10 = 45) hc hr
        refine nk_p (i := .iload_n 2) (len := 1) (pc' := 45) mJ_181 (by decide +kernel) (ns_iload_n 0 rfl rfl) rfl ?_
        refine nk_p (i := .bipush 73) (len := 2) (pc' := 47) mJ_181 (by decide +kernel) (ns_bipush (c := 73) (by decide +kernel)) rfl ?_
        refine nk_icmp (c := .ne) (off := 7) (len := 3) (t := 54) (pc' := 50) mJ_181 (by decide +kernel) (by decide +kernel) rfl (fun hc => ?_) (fun hc => ?_)
        · have hr := nk_ifn (c := r10 = 73) hc hr
          refine nk_p (i := .iconst 2) (len := 1) (pc' := 55) mJ_181 (by decide +kernel) (ns_iconst (c := 2) (by decide +kernel)) rfl ?_
          cases hr
          exact nk_iret (ty := .int) (len := 1) mJ_181 (by decide +kernel) rfl (nk_nar_i _)
        · have hr := nk_ifp (c := r10 = 73) (Decidable.of_not_not hc) hr
          refine nk_p (i := .iconst 3) (len := 1) (pc' := 51) mJ_181 (by decide +kernel) (ns_iconst (c := 3) (by decide +kernel)) rfl ?_
          refine nk_p (i := .goto 4) (len := 3) (pc' := 55) mJ_181 (by decide +kernel) (ns_goto (by decide +kernel)) rfl ?_
          cases hr
          exact nk_iret (ty := .int) (len := 1) mJ_181 (by decide +kernel) rfl (nk_nar_i _)
      · have hr := nk_ifp (c := r10 = 45) (Decidable.of_not_not hc) hr
        refine nk_p (i := .iconst 1) (len := 1) (pc' := 41) mJ_181 (by decide +kernel) (ns_iconst (c := 1) (by decide +kernel)) rfl ?_
        refine nk_p (i := .goto 14) (len := 3) (pc' := 55) mJ_181 (by decide +kernel) (ns_goto (by decide +kernel)) rfl ?_
        cases hr
        exact nk_iret (ty := .int) (len := 1) mJ_181 (by decide +kernel) rfl (nk_nar_i _)
    · have hr := nk_ifn (c := r4 = 0) hc hr
      refine nk_p (i := .iconst 5) (len := 1) (pc' := 21) mJ_181 (by decide +kernel) (ns_iconst (c := 5) (by decide +kernel)) rfl ?_
      cases hr
      exact nk_iret (ty := .int) (len := 1) mJ_181 (by decide +kernel) rfl (nk_nar_i _)
  · have hr := nk_ifn (c := r1 = 0) hc hr
    refine nk_p (i := .iconst 2) (len := 1) (pc' := 9) mJ_181 (by decide +kernel) (ns_iconst (c := 2) (by decide +kernel)) rfl ?_
    cases hr
    exact nk_iret (ty := .int) (len := 1) mJ_181 (by decide +kernel) rfl (nk_nar_i _)
/-! SafeCodeModel linesOf (LSafeCodeModel$Program;I)Z -/
noncomputable def ja_X13_linesOf_b307 (l0 : Nat) (l5 : Int) (l7 : Int) (S : nk_S) : Option (Int × nk_S) :=
  if l7 = 0 then
    nk_bd (ja_X13_wrong l0 l5 S) fun r1 S2 =>
    if r1 = 0 then
      some (0, S2)
    else
      some (1, S2)
  else
    some (1, S)
theorem ja_X13_linesOf_b307_ok (zs : List Int32) : ∀ (l0 : Nat) (l5 : Int) (l7 : Int) (S : nk_S) (R : Int × nk_S), nk_cl ja_Tt l0 = some 13 → ja_X13_linesOf_b307 l0 l5 l7 S = some R → nk_K ja_Tt mi_Γ (mi_ev zs) 1 183 307 [(0, nk_r l0), (5, nk_i l5), (7, nk_i l7)] [] S R := by
  intro l0 l5 l7 S R t_l0 hr
  unfold ja_X13_linesOf_b307 at hr
  refine nk_p (i := .iload 7) (len := 2) (pc' := 309) mJ_183 (by decide +kernel) (ns_iload 2 rfl) rfl ?_
  refine nk_icond (c := .ne) (off := 12) (len := 3) (t := 321) (pc' := 312) mJ_183 (by decide +kernel) (by decide +kernel) rfl (fun hc => ?_) (fun hc => ?_)
  · have hr := nk_ifn (c := l7 = 0) hc hr
    refine nk_p (i := .iconst 1) (len := 1) (pc' := 322) mJ_183 (by decide +kernel) (ns_iconst (c := 1) (by decide +kernel)) rfl ?_
    refine nk_p (i := .goto 4) (len := 3) (pc' := 326) mJ_183 (by decide +kernel) (ns_goto (by decide +kernel)) rfl ?_
    cases hr
    exact nk_iret (ty := .boolean) (len := 1) mJ_183 (by decide +kernel) rfl (nk_nar_z (by decide))
  · have hr := nk_ifp (c := l7 = 0) (Decidable.of_not_not hc) hr
    refine nk_p (i := .aload_n 0) (len := 1) (pc' := 313) mJ_183 (by decide +kernel) (ns_aload_n 0 rfl rfl) rfl ?_
    refine nk_p (i := .iload 5) (len := 2) (pc' := 315) mJ_183 (by decide +kernel) (ns_iload 1 rfl) rfl ?_
    obtain ⟨r1, S2, h3, hr⟩ := nk_bde hr
    refine nk_callV (ci := 13) (n := 1) (x := 290) (len := 3) (j' := 246) (q' := 1) (r := r1) (S' := S2) (L2 := [(0, nk_r l0), (1, nk_i l5)]) (rest := []) (st' := [nk_i r1]) (pc' := 318) mJ_183 (by decide +kernel) (by decide +kernel) rfl rfl t_l0 (Nat.le_of_ble_eq_true rfl) mJ_246 (Nat.le_of_ble_eq_true rfl) rfl (ja_X13_wrong_ok zs _ _ _ _ t_l0 h3) rfl ?_
    refine nk_icond (c := .eq) (off := 7) (len := 3) (t := 325) (pc' := 321) mJ_183 (by decide +kernel) (by decide +kernel) rfl (fun hc => ?_) (fun hc => ?_)
    · have hr := nk_ifp (c := r1 = 0) hc hr
      refine nk_p (i := .iconst 0) (len := 1) (pc' := 326) mJ_183 (by decide +kernel) (ns_iconst (c := 0) (by decide +kernel)) rfl ?_
      cases hr
      exact nk_iret (ty := .boolean) (len := 1) mJ_183 (by decide +kernel) rfl (nk_nar_z (by decide))
    · have hr := nk_ifn (c := r1 = 0) hc hr
      refine nk_p (i := .iconst 1) (len := 1) (pc' := 322) mJ_183 (by decide +kernel) (ns_iconst (c := 1) (by decide +kernel)) rfl ?_
      refine nk_p (i := .goto 4) (len := 3) (pc' := 326) mJ_183 (by decide +kernel) (ns_goto (by decide +kernel)) rfl ?_
      cases hr
      exact nk_iret (ty := .boolean) (len := 1) mJ_183 (by decide +kernel) rfl (nk_nar_z (by decide))
noncomputable def ja_X13_linesOf_b305 (l0 : Nat) (l5 : Int) (s0 : Int) (S : nk_S) : Option (Int × nk_S) :=
  ja_X13_linesOf_b307 l0 l5 s0 S
theorem ja_X13_linesOf_b305_ok (zs : List Int32) : ∀ (l0 : Nat) (l5 : Int) (s0 : Int) (S : nk_S) (R : Int × nk_S), nk_cl ja_Tt l0 = some 13 → ja_X13_linesOf_b305 l0 l5 s0 S = some R → nk_K ja_Tt mi_Γ (mi_ev zs) 1 183 305 [(0, nk_r l0), (5, nk_i l5)] [nk_i s0] S R := by
  intro l0 l5 s0 S R t_l0 hr
  unfold ja_X13_linesOf_b305 at hr
  refine nk_p (i := .istore 7) (len := 2) (pc' := 307) mJ_183 (by decide +kernel) (ns_istore (L' := [(7, nk_i s0), (0, nk_r l0), (5, nk_i l5)]) rfl rfl (by decide +kernel)) rfl ?_
  refine nk_sub [1, 2, 0] (L' := [(0, nk_r l0), (5, nk_i l5), (7, nk_i s0)]) rfl ?_
  exact ja_X13_linesOf_b307_ok zs _ _ _ _ _ t_l0 hr
noncomputable def ja_X13_linesOf_b300 (l0 : Nat) (l5 : Int) (S : nk_S) : Option (Int × nk_S) :=
  ja_X13_linesOf_b305 l0 l5 1 S
theorem ja_X13_linesOf_b300_ok (zs : List Int32) : ∀ (l0 : Nat) (l5 : Int) (S : nk_S) (R : Int × nk_S), nk_cl ja_Tt l0 = some 13 → ja_X13_linesOf_b300 l0 l5 S = some R → nk_K ja_Tt mi_Γ (mi_ev zs) 1 183 300 [(0, nk_r l0), (5, nk_i l5)] [] S R := by
  intro l0 l5 S R t_l0 hr
  unfold ja_X13_linesOf_b300 at hr
  refine nk_p (i := .iconst 1) (len := 1) (pc' := 301) mJ_183 (by decide +kernel) (ns_iconst (c := 1) (by decide +kernel)) rfl ?_
  refine nk_p (i := .goto 4) (len := 3) (pc' := 305) mJ_183 (by decide +kernel) (ns_goto (by decide +kernel)) rfl ?_
  exact ja_X13_linesOf_b305_ok zs _ _ _ _ _ t_l0 hr
noncomputable def ja_X13_linesOf_b254 (l0 : Nat) (l1 : Nat) (l5 : Int) (l6 : Int) (s0 : Int) (S : nk_S) : Option (Int × nk_S) :=
  if s0 = 0 then
    ja_X13_linesOf_b307 l0 l5 s0 S
  else
    if 0 ≤ (nk_w (l6 - 1)) ∧ (nk_w (l6 - 1)) < 1024 then
    nk_lt (S.1 (ja_c l1 22) (nk_w (l6 - 1)).toNat) fun v3 =>
    if v3 = 19 then
      ja_X13_linesOf_b300 l0 l5 S
    else
      if v3 = 41 then
        ja_X13_linesOf_b300 l0 l5 S
      else
        if v3 = 42 then
          ja_X13_linesOf_b300 l0 l5 S
        else
          if v3 = 43 then
            ja_X13_linesOf_b300 l0 l5 S
          else
            ja_X13_linesOf_b305 l0 l5 0 S
    else none
theorem ja_X13_linesOf_b254_ok (zs : List Int32) : ∀ (l0 : Nat) (l1 : Nat) (l5 : Int) (l6 : Int) (s0 : Int) (S : nk_S) (R : Int × nk_S), nk_cl ja_Tt l0 = some 13 → nk_cl ja_Tt l1 = some 12 → ja_X13_linesOf_b254 l0 l1 l5 l6 s0 S = some R → nk_K ja_Tt mi_Γ (mi_ev zs) 1 183 254 [(0, nk_r l0), (1, nk_r l1), (5, nk_i l5), (6, nk_i l6)] [nk_i s0] S R := by
  intro l0 l1 l5 l6 s0 S R t_l0 t_l1 hr
  unfold ja_X13_linesOf_b254 at hr
  refine nk_p (i := .istore 7) (len := 2) (pc' := 256) mJ_183 (by decide +kernel) (ns_istore (L' := [(7, nk_i s0), (0, nk_r l0), (1, nk_r l1), (5, nk_i l5), (6, nk_i l6)]) rfl rfl (by decide +kernel)) rfl ?_
  refine nk_p (i := .iload 7) (len := 2) (pc' := 258) mJ_183 (by decide +kernel) (ns_iload 0 rfl) rfl ?_
  refine nk_icond (c := .eq) (off := 49) (len := 3) (t := 307) (pc' := 261) mJ_183 (by decide +kernel) (by decide +kernel) rfl (fun hc => ?_) (fun hc => ?_)
  · have hr := nk_ifp (c := s0 = 0) hc hr
    refine nk_sub [1, 3, 0] (L' := [(0, nk_r l0), (5, nk_i l5), (7, nk_i s0)]) rfl ?_
    exact ja_X13_linesOf_b307_ok zs _ _ _ _ _ t_l0 hr
  · have hr := nk_ifn (c := s0 = 0) hc hr
    refine nk_p (i := .aload_n 1) (len := 1) (pc' := 262) mJ_183 (by decide +kernel) (ns_aload_n 2 rfl rfl) rfl ?_
    refine nk_getC (f := (4, 1, 1024)) (x := 391) (len := 3) (ci := 12) (k := 22) (pc' := 265) ja_okT mJ_183 (by decide +kernel) (by decide +kernel) (by decide +kernel) (by decide) t_l1 rfl ?_
    have t1 : nk_ar ja_Tt (ja_c l1 22) = some (1, 1024) := nk_ta ja_okT t_l1 (by decide +kernel)
    refine nk_p (i := .iload 6) (len := 2) (pc' := 267) mJ_183 (by decide +kernel) (ns_iload 4 rfl) rfl ?_
    refine nk_p (i := .iconst 1) (len := 1) (pc' := 268) mJ_183 (by decide +kernel) (ns_iconst (c := 1) (by decide +kernel)) rfl ?_
    refine nk_p (i := .isub) (len := 1) (pc' := 269) mJ_183 (by decide +kernel) ns_isub rfl ?_
    obtain ⟨h2, hr⟩ := nk_cke hr
    refine nk_iald (len := 1) (N := 1024) (pc' := 270) mJ_183 (by decide +kernel) t1 h2.1 h2.2 rfl rfl ?_
    obtain ⟨v3, h4, hr⟩ := nk_lte hr
    refine nk_p (i := .istore 8) (len := 2) (pc' := 272) mJ_183 (by decide +kernel) (ns_istore (L' := [(8, nk_i v3), (7, nk_i s0), (0, nk_r l0), (1, nk_r l1), (5, nk_i l5), (6, nk_i l6)]) h4 rfl (by decide +kernel)) rfl ?_
    refine nk_p (i := .iload 8) (len := 2) (pc' := 274) mJ_183 (by decide +kernel) (ns_iload 0 rfl) rfl ?_
    refine nk_p (i := .bipush 19) (len := 2) (pc' := 276) mJ_183 (by decide +kernel) (ns_bipush (c := 19) (by decide +kernel)) rfl ?_
    refine nk_icmp (c := .eq) (off := 24) (len := 3) (t := 300) (pc' := 279) mJ_183 (by decide +kernel) (by decide +kernel) rfl (fun hc => ?_) (fun hc => ?_)
    · have hr := nk_ifp (c := v3 = 19) hc hr
      refine nk_sub [2, 4] (L' := [(0, nk_r l0), (5, nk_i l5)]) rfl ?_
      exact ja_X13_linesOf_b300_ok zs _ _ _ _ t_l0 hr
    · have hr := nk_ifn (c := v3 = 19) hc hr
      refine nk_p (i := .iload 8) (len := 2) (pc' := 281) mJ_183 (by decide +kernel) (ns_iload 0 rfl) rfl ?_
      refine nk_p (i := .bipush 41) (len := 2) (pc' := 283) mJ_183 (by decide +kernel) (ns_bipush (c := 41) (by decide +kernel)) rfl ?_
      refine nk_icmp (c := .eq) (off := 17) (len := 3) (t := 300) (pc' := 286) mJ_183 (by decide +kernel) (by decide +kernel) rfl (fun hc => ?_) (fun hc => ?_)
      · have hr := nk_ifp (c := v3 = 41) hc hr
        refine nk_sub [2, 4] (L' := [(0, nk_r l0), (5, nk_i l5)]) rfl ?_
        exact ja_X13_linesOf_b300_ok zs _ _ _ _ t_l0 hr
      · have hr := nk_ifn (c := v3 = 41) hc hr
        refine nk_p (i := .iload 8) (len := 2) (pc' := 288) mJ_183 (by decide +kernel) (ns_iload 0 rfl) rfl ?_
        refine nk_p (i := .bipush 42) (len := 2) (pc' := 290) mJ_183 (by decide +kernel) (ns_bipush (c := 42) (by decide +kernel)) rfl ?_
        refine nk_icmp (c := .eq) (off := 10) (len := 3) (t := 300) (pc' := 293) mJ_183 (by decide +kernel) (by decide +kernel) rfl (fun hc => ?_) (fun hc => ?_)
        · have hr := nk_ifp (c := v3 = 42) hc hr
          refine nk_sub [2, 4] (L' := [(0, nk_r l0), (5, nk_i l5)]) rfl ?_
          exact ja_X13_linesOf_b300_ok zs _ _ _ _ t_l0 hr
        · have hr := nk_ifn (c := v3 = 42) hc hr
          refine nk_p (i := .iload 8) (len := 2) (pc' := 295) mJ_183 (by decide +kernel) (ns_iload 0 rfl) rfl ?_
          refine nk_p (i := .bipush 43) (len := 2) (pc' := 297) mJ_183 (by decide +kernel) (ns_bipush (c := 43) (by decide +kernel)) rfl ?_
          refine nk_icmp (c := .ne) (off := 7) (len := 3) (t := 304) (pc' := 300) mJ_183 (by decide +kernel) (by decide +kernel) rfl (fun hc => ?_) (fun hc => ?_)
          · have hr := nk_ifn (c := v3 = 43) hc hr
            refine nk_p (i := .iconst 0) (len := 1) (pc' := 305) mJ_183 (by decide +kernel) (ns_iconst (c := 0) (by decide +kernel)) rfl ?_
            refine nk_sub [2, 4] (L' := [(0, nk_r l0), (5, nk_i l5)]) rfl ?_
            exact ja_X13_linesOf_b305_ok zs _ _ _ _ _ t_l0 hr
          · have hr := nk_ifp (c := v3 = 43) (Decidable.of_not_not hc) hr
            refine nk_sub [2, 4] (L' := [(0, nk_r l0), (5, nk_i l5)]) rfl ?_
            exact ja_X13_linesOf_b300_ok zs _ _ _ _ t_l0 hr
noncomputable def ja_X13_linesOf_b224 (rec131 : Nat → Nat → Int → Int → Int → nk_S → Option (Int × nk_S)) (l0 : Nat) (l1 : Nat) (l2 : Int) (l5 : Int) (l6 : Int) (S : nk_S) : Option (Int × nk_S) :=
  nk_bd (ja_X13_lineLength l0 l5 S) fun r1 S2 =>
  nk_lt (nk_w (l5 + r1)) fun v4 =>
  rec131 l0 l1 l2 v4 l6 S2
theorem ja_X13_linesOf_b224_ok (zs : List Int32) {rec131 : Nat → Nat → Int → Int → Int → nk_S → Option (Int × nk_S)} (hrec131 : ∀ (l0 : Nat) (l1 : Nat) (l2 : Int) (l5 : Int) (l6 : Int) (S : nk_S) (R : Int × nk_S), nk_cl ja_Tt l0 = some 13 → nk_cl ja_Tt l1 = some 12 → rec131 l0 l1 l2 l5 l6 S = some R → nk_K ja_Tt mi_Γ (mi_ev zs) 1 183 131 [(0, nk_r l0), (1, nk_r l1), (2, nk_i l2), (5, nk_i l5), (6, nk_i l6)] [] S R) : ∀ (l0 : Nat) (l1 : Nat) (l2 : Int) (l5 : Int) (l6 : Int) (S : nk_S) (R : Int × nk_S), nk_cl ja_Tt l0 = some 13 → nk_cl ja_Tt l1 = some 12 → ja_X13_linesOf_b224 rec131 l0 l1 l2 l5 l6 S = some R → nk_K ja_Tt mi_Γ (mi_ev zs) 1 183 224 [(0, nk_r l0), (1, nk_r l1), (2, nk_i l2), (5, nk_i l5), (6, nk_i l6)] [] S R := by
  intro l0 l1 l2 l5 l6 S R t_l0 t_l1 hr
  unfold ja_X13_linesOf_b224 at hr
  refine nk_p (i := .iload 5) (len := 2) (pc' := 226) mJ_183 (by decide +kernel) (ns_iload 3 rfl) rfl ?_
  refine nk_p (i := .aload_n 0) (len := 1) (pc' := 227) mJ_183 (by decide +kernel) (ns_aload_n 0 rfl rfl) rfl ?_
  refine nk_p (i := .iload 5) (len := 2) (pc' := 229) mJ_183 (by decide +kernel) (ns_iload 3 rfl) rfl ?_
  obtain ⟨r1, S2, h3, hr⟩ := nk_bde hr
  refine nk_callV (ci := 13) (n := 1) (x := 375) (len := 3) (j' := 181) (q' := 1) (r := r1) (S' := S2) (L2 := [(0, nk_r l0), (1, nk_i l5)]) (rest := [nk_i l5]) (st' := [nk_i r1, nk_i l5]) (pc' := 232) mJ_183 (by decide +kernel) (by decide +kernel) rfl rfl t_l0 (Nat.le_of_ble_eq_true rfl) mJ_181 (Nat.le_of_ble_eq_true rfl) rfl (ja_X13_lineLength_ok zs _ _ _ _ t_l0 h3) rfl ?_
  refine nk_p (i := .iadd) (len := 1) (pc' := 233) mJ_183 (by decide +kernel) ns_iadd rfl ?_
  obtain ⟨v4, h5, hr⟩ := nk_lte hr
  refine nk_p (i := .istore 5) (len := 2) (pc' := 235) mJ_183 (by decide +kernel) (ns_istore (L' := [(5, nk_i v4), (0, nk_r l0), (1, nk_r l1), (2, nk_i l2), (6, nk_i l6)]) h5 rfl (by decide +kernel)) rfl ?_
  refine nk_p (i := .goto (-104)) (len := 3) (pc' := 131) mJ_183 (by decide +kernel) (ns_goto (by decide +kernel)) rfl ?_
  refine nk_sub [1, 2, 3, 0, 4] (L' := [(0, nk_r l0), (1, nk_r l1), (2, nk_i l2), (5, nk_i v4), (6, nk_i l6)]) rfl ?_
  exact hrec131 _ _ _ _ _ _ _ t_l0 t_l1 hr
noncomputable def ja_X13_linesOf_b176 (l0 : Nat) (l5 : Int) (S : nk_S) : Option (Int × nk_S) :=
  nk_bd (ja_X13_wrong l0 l5 S) fun r1 S2 =>
  if r1 = 0 ∨ r1 = 1 then
  some (r1, S2)
  else none
theorem ja_X13_linesOf_b176_ok (zs : List Int32) : ∀ (l0 : Nat) (l5 : Int) (S : nk_S) (R : Int × nk_S), nk_cl ja_Tt l0 = some 13 → ja_X13_linesOf_b176 l0 l5 S = some R → nk_K ja_Tt mi_Γ (mi_ev zs) 1 183 176 [(0, nk_r l0), (5, nk_i l5)] [] S R := by
  intro l0 l5 S R t_l0 hr
  unfold ja_X13_linesOf_b176 at hr
  refine nk_p (i := .aload_n 0) (len := 1) (pc' := 177) mJ_183 (by decide +kernel) (ns_aload_n 0 rfl rfl) rfl ?_
  refine nk_p (i := .iload 5) (len := 2) (pc' := 179) mJ_183 (by decide +kernel) (ns_iload 1 rfl) rfl ?_
  obtain ⟨r1, S2, h3, hr⟩ := nk_bde hr
  refine nk_callV (ci := 13) (n := 1) (x := 290) (len := 3) (j' := 246) (q' := 1) (r := r1) (S' := S2) (L2 := [(0, nk_r l0), (1, nk_i l5)]) (rest := []) (st' := [nk_i r1]) (pc' := 182) mJ_183 (by decide +kernel) (by decide +kernel) rfl rfl t_l0 (Nat.le_of_ble_eq_true rfl) mJ_246 (Nat.le_of_ble_eq_true rfl) rfl (ja_X13_wrong_ok zs _ _ _ _ t_l0 h3) rfl ?_
  obtain ⟨h4, hr⟩ := nk_cke hr
  cases hr
  exact nk_iret (ty := .boolean) (len := 1) mJ_183 (by decide +kernel) rfl (nk_nar_z h4)
noncomputable def ja_X13_linesOf_b131 (rec131 : Nat → Nat → Int → Int → Int → nk_S → Option (Int × nk_S)) (l0 : Nat) (l1 : Nat) (l2 : Int) (l5 : Int) (l6 : Int) (S : nk_S) : Option (Int × nk_S) :=
  nk_bd (ja_X13_is l0 l5 13 S) fun r1 S2 =>
  if r1 = 0 then
    nk_bd (ja_X13_isLabel l0 l5 S2) fun r6 S7 =>
    if r6 = 0 then
      nk_bd (ja_X13_is l0 l5 29 S7) fun r9 S10 =>
      if r9 = 0 then
        nk_bd (ja_X13_code l0 l1 l2 l5 l6 S10) fun r12 S13 =>
        if r12 = 0 then
          some (0, S13)
        else
          ja_X13_linesOf_b224 rec131 l0 l1 l2 l5 l6 S13
      else
        nk_bd (ja_X13_catchLine l0 l1 l2 l5 l6 S10) fun r15 S16 =>
        if r15 = 0 then
          some (0, S16)
        else
          ja_X13_linesOf_b224 rec131 l0 l1 l2 l5 l6 S16
    else
      nk_bd (ja_X13_label l0 l5 S7) fun r18 S19 =>
      if r18 < 0 then
        ja_X13_linesOf_b176 l0 l5 S19
      else
        nk_bd (ja_X13_label l0 l5 S19) fun r22 S23 =>
        if 0 ≤ r22 ∧ r22 < 16000 then
        if (S23.1 (ja_c l0 17) r22.toNat) = l5 then
          ja_X13_linesOf_b224 rec131 l0 l1 l2 l5 l6 S23
        else
          ja_X13_linesOf_b176 l0 l5 S23
        else none
  else
    if 0 ≤ l2 ∧ l2 < 48 then
    if l6 ≤ (S2.1 (ja_c l1 19) l2.toNat) then
      ja_X13_linesOf_b254 l0 l1 l5 l6 0 S2
    else
      ja_X13_linesOf_b254 l0 l1 l5 l6 1 S2
    else none
theorem ja_X13_linesOf_b131_ok (zs : List Int32) {rec131 : Nat → Nat → Int → Int → Int → nk_S → Option (Int × nk_S)} (hrec131 : ∀ (l0 : Nat) (l1 : Nat) (l2 : Int) (l5 : Int) (l6 : Int) (S : nk_S) (R : Int × nk_S), nk_cl ja_Tt l0 = some 13 → nk_cl ja_Tt l1 = some 12 → rec131 l0 l1 l2 l5 l6 S = some R → nk_K ja_Tt mi_Γ (mi_ev zs) 1 183 131 [(0, nk_r l0), (1, nk_r l1), (2, nk_i l2), (5, nk_i l5), (6, nk_i l6)] [] S R) : ∀ (l0 : Nat) (l1 : Nat) (l2 : Int) (l5 : Int) (l6 : Int) (S : nk_S) (R : Int × nk_S), nk_cl ja_Tt l0 = some 13 → nk_cl ja_Tt l1 = some 12 → ja_X13_linesOf_b131 rec131 l0 l1 l2 l5 l6 S = some R → nk_K ja_Tt mi_Γ (mi_ev zs) 1 183 131 [(0, nk_r l0), (1, nk_r l1), (2, nk_i l2), (5, nk_i l5), (6, nk_i l6)] [] S R := by
  intro l0 l1 l2 l5 l6 S R t_l0 t_l1 hr
  unfold ja_X13_linesOf_b131 at hr
  refine nk_p (i := .aload_n 0) (len := 1) (pc' := 132) mJ_183 (by decide +kernel) (ns_aload_n 0 rfl rfl) rfl ?_
  refine nk_p (i := .iload 5) (len := 2) (pc' := 134) mJ_183 (by decide +kernel) (ns_iload 3 rfl) rfl ?_
  refine nk_ldct (x := 214) (len := 2) (k := 13) (s := "}") (pc' := 136) mJ_183 (by decide +kernel) (by decide +kernel) (by decide +kernel) rfl ?_
  obtain ⟨r1, S2, h3, hr⟩ := nk_bde hr
  refine nk_callV (ci := 13) (n := 2) (x := 199) (len := 3) (j' := 138) (q' := 1) (r := r1) (S' := S2) (L2 := [(0, nk_r l0), (1, nk_i l5), (2, nk_o 13)]) (rest := []) (st' := [nk_i r1]) (pc' := 139) mJ_183 (by decide +kernel) (by decide +kernel) rfl rfl t_l0 (Nat.le_of_ble_eq_true rfl) mJ_138 (Nat.le_of_ble_eq_true rfl) rfl (ja_X13_is_ok zs _ _ _ _ _ t_l0 (ja_tx13 zs) h3) rfl ?_
  refine nk_icond (c := .ne) (off := 99) (len := 3) (t := 238) (pc' := 142) mJ_183 (by decide +kernel) (by decide +kernel) rfl (fun hc => ?_) (fun hc => ?_)
  · have hr := nk_ifn (c := r1 = 0) hc hr
    refine nk_p (i := .iload 6) (len := 2) (pc' := 240) mJ_183 (by decide +kernel) (ns_iload 4 rfl) rfl ?_
    refine nk_p (i := .aload_n 1) (len := 1) (pc' := 241) mJ_183 (by decide +kernel) (ns_aload_n 1 rfl rfl) rfl ?_
    refine nk_getC (f := (4, 1, 48)) (x := 369) (len := 3) (ci := 12) (k := 19) (pc' := 244) ja_okT mJ_183 (by decide +kernel) (by decide +kernel) (by decide +kernel) (by decide) t_l1 rfl ?_
    have t4 : nk_ar ja_Tt (ja_c l1 19) = some (1, 48) := nk_ta ja_okT t_l1 (by decide +kernel)
    refine nk_p (i := .iload_n 2) (len := 1) (pc' := 245) mJ_183 (by decide +kernel) (ns_iload_n 2 rfl rfl) rfl ?_
    obtain ⟨h5, hr⟩ := nk_cke hr
    refine nk_iald (len := 1) (N := 48) (pc' := 246) mJ_183 (by decide +kernel) t4 h5.1 h5.2 rfl rfl ?_
    refine nk_icmp (c := .le) (off := 7) (len := 3) (t := 253) (pc' := 249) mJ_183 (by decide +kernel) (by decide +kernel) rfl (fun hc => ?_) (fun hc => ?_)
    · have hr := nk_ifp (c := l6 ≤ (S2.1 (ja_c l1 19) l2.toNat)) hc hr
      refine nk_p (i := .iconst 0) (len := 1) (pc' := 254) mJ_183 (by decide +kernel) (ns_iconst (c := 0) (by decide +kernel)) rfl ?_
      refine nk_sub [0, 1, 3, 4] (L' := [(0, nk_r l0), (1, nk_r l1), (5, nk_i l5), (6, nk_i l6)]) rfl ?_
      exact ja_X13_linesOf_b254_ok zs _ _ _ _ _ _ _ t_l0 t_l1 hr
    · have hr := nk_ifn (c := l6 ≤ (S2.1 (ja_c l1 19) l2.toNat)) hc hr
      refine nk_p (i := .iconst 1) (len := 1) (pc' := 250) mJ_183 (by decide +kernel) (ns_iconst (c := 1) (by decide +kernel)) rfl ?_
      refine nk_p (i := .goto 4) (len := 3) (pc' := 254) mJ_183 (by decide +kernel) (ns_goto (by decide +kernel)) rfl ?_
      refine nk_sub [0, 1, 3, 4] (L' := [(0, nk_r l0), (1, nk_r l1), (5, nk_i l5), (6, nk_i l6)]) rfl ?_
      exact ja_X13_linesOf_b254_ok zs _ _ _ _ _ _ _ t_l0 t_l1 hr
  · have hr := nk_ifp (c := r1 = 0) (Decidable.of_not_not hc) hr
    refine nk_p (i := .aload_n 0) (len := 1) (pc' := 143) mJ_183 (by decide +kernel) (ns_aload_n 0 rfl rfl) rfl ?_
    refine nk_p (i := .iload 5) (len := 2) (pc' := 145) mJ_183 (by decide +kernel) (ns_iload 3 rfl) rfl ?_
    obtain ⟨r6, S7, h8, hr⟩ := nk_bde hr
    refine nk_callV (ci := 13) (n := 1) (x := 252) (len := 3) (j' := 150) (q' := 1) (r := r6) (S' := S7) (L2 := [(0, nk_r l0), (1, nk_i l5)]) (rest := []) (st' := [nk_i r6]) (pc' := 148) mJ_183 (by decide +kernel) (by decide +kernel) rfl rfl t_l0 (Nat.le_of_ble_eq_true rfl) mJ_150 (Nat.le_of_ble_eq_true rfl) rfl (ja_X13_isLabel_ok zs _ _ _ _ t_l0 h8) rfl ?_
    refine nk_icond (c := .eq) (off := 35) (len := 3) (t := 183) (pc' := 151) mJ_183 (by decide +kernel) (by decide +kernel) rfl (fun hc => ?_) (fun hc => ?_)
    · have hr := nk_ifp (c := r6 = 0) hc hr
      refine nk_p (i := .aload_n 0) (len := 1) (pc' := 184) mJ_183 (by decide +kernel) (ns_aload_n 0 rfl rfl) rfl ?_
      refine nk_p (i := .iload 5) (len := 2) (pc' := 186) mJ_183 (by decide +kernel) (ns_iload 3 rfl) rfl ?_
      refine nk_ldct (x := 255) (len := 2) (k := 29) (s := "catch") (pc' := 188) mJ_183 (by decide +kernel) (by decide +kernel) (by decide +kernel) rfl ?_
      obtain ⟨r9, S10, h11, hr⟩ := nk_bde hr
      refine nk_callV (ci := 13) (n := 2) (x := 199) (len := 3) (j' := 138) (q' := 1) (r := r9) (S' := S10) (L2 := [(0, nk_r l0), (1, nk_i l5), (2, nk_o 29)]) (rest := []) (st' := [nk_i r9]) (pc' := 191) mJ_183 (by decide +kernel) (by decide +kernel) rfl rfl t_l0 (Nat.le_of_ble_eq_true rfl) mJ_138 (Nat.le_of_ble_eq_true rfl) rfl (ja_X13_is_ok zs _ _ _ _ _ t_l0 (ja_tx29 zs) h11) rfl ?_
      refine nk_icond (c := .eq) (off := 18) (len := 3) (t := 209) (pc' := 194) mJ_183 (by decide +kernel) (by decide +kernel) rfl (fun hc => ?_) (fun hc => ?_)
      · have hr := nk_ifp (c := r9 = 0) hc hr
        refine nk_p (i := .aload_n 0) (len := 1) (pc' := 210) mJ_183 (by decide +kernel) (ns_aload_n 0 rfl rfl) rfl ?_
        refine nk_p (i := .aload_n 1) (len := 1) (pc' := 211) mJ_183 (by decide +kernel) (ns_aload_n 1 rfl rfl) rfl ?_
        refine nk_p (i := .iload_n 2) (len := 1) (pc' := 212) mJ_183 (by decide +kernel) (ns_iload_n 2 rfl rfl) rfl ?_
        refine nk_p (i := .iload 5) (len := 2) (pc' := 214) mJ_183 (by decide +kernel) (ns_iload 3 rfl) rfl ?_
        refine nk_p (i := .iload 6) (len := 2) (pc' := 216) mJ_183 (by decide +kernel) (ns_iload 4 rfl) rfl ?_
        obtain ⟨r12, S13, h14, hr⟩ := nk_bde hr
        refine nk_callV (ci := 13) (n := 4) (x := 388) (len := 3) (j' := 102) (q' := 1) (r := r12) (S' := S13) (L2 := [(0, nk_r l0), (1, nk_r l1), (2, nk_i l2), (3, nk_i l5), (4, nk_i l6)]) (rest := []) (st' := [nk_i r12]) (pc' := 219) mJ_183 (by decide +kernel) (by decide +kernel) rfl rfl t_l0 (Nat.le_of_ble_eq_true rfl) mJ_102 (Nat.le_of_ble_eq_true rfl) rfl (ja_X13_code_ok zs _ _ _ _ _ _ _ t_l0 t_l1 h14) rfl ?_
        refine nk_icond (c := .ne) (off := 5) (len := 3) (t := 224) (pc' := 222) mJ_183 (by decide +kernel) (by decide +kernel) rfl (fun hc => ?_) (fun hc => ?_)
        · have hr := nk_ifn (c := r12 = 0) hc hr
          exact ja_X13_linesOf_b224_ok zs hrec131 _ _ _ _ _ _ _ t_l0 t_l1 hr
        · have hr := nk_ifp (c := r12 = 0) (Decidable.of_not_not hc) hr
          refine nk_p (i := .iconst 0) (len := 1) (pc' := 223) mJ_183 (by decide +kernel) (ns_iconst (c := 0) (by decide +kernel)) rfl ?_
          cases hr
          exact nk_iret (ty := .boolean) (len := 1) mJ_183 (by decide +kernel) rfl (nk_nar_z (by decide))
      · have hr := nk_ifn (c := r9 = 0) hc hr
        refine nk_p (i := .aload_n 0) (len := 1) (pc' := 195) mJ_183 (by decide +kernel) (ns_aload_n 0 rfl rfl) rfl ?_
        refine nk_p (i := .aload_n 1) (len := 1) (pc' := 196) mJ_183 (by decide +kernel) (ns_aload_n 1 rfl rfl) rfl ?_
        refine nk_p (i := .iload_n 2) (len := 1) (pc' := 197) mJ_183 (by decide +kernel) (ns_iload_n 2 rfl rfl) rfl ?_
        refine nk_p (i := .iload 5) (len := 2) (pc' := 199) mJ_183 (by decide +kernel) (ns_iload 3 rfl) rfl ?_
        refine nk_p (i := .iload 6) (len := 2) (pc' := 201) mJ_183 (by decide +kernel) (ns_iload 4 rfl) rfl ?_
        obtain ⟨r15, S16, h17, hr⟩ := nk_bde hr
        refine nk_callV (ci := 13) (n := 4) (x := 384) (len := 3) (j' := 95) (q' := 1) (r := r15) (S' := S16) (L2 := [(0, nk_r l0), (1, nk_r l1), (2, nk_i l2), (3, nk_i l5), (4, nk_i l6)]) (rest := []) (st' := [nk_i r15]) (pc' := 204) mJ_183 (by decide +kernel) (by decide +kernel) rfl rfl t_l0 (Nat.le_of_ble_eq_true rfl) mJ_95 (Nat.le_of_ble_eq_true rfl) rfl (ja_X13_catchLine_ok zs _ _ _ _ _ _ _ t_l0 t_l1 h17) rfl ?_
        refine nk_icond (c := .ne) (off := 20) (len := 3) (t := 224) (pc' := 207) mJ_183 (by decide +kernel) (by decide +kernel) rfl (fun hc => ?_) (fun hc => ?_)
        · have hr := nk_ifn (c := r15 = 0) hc hr
          exact ja_X13_linesOf_b224_ok zs hrec131 _ _ _ _ _ _ _ t_l0 t_l1 hr
        · have hr := nk_ifp (c := r15 = 0) (Decidable.of_not_not hc) hr
          refine nk_p (i := .iconst 0) (len := 1) (pc' := 208) mJ_183 (by decide +kernel) (ns_iconst (c := 0) (by decide +kernel)) rfl ?_
          cases hr
          exact nk_iret (ty := .boolean) (len := 1) mJ_183 (by decide +kernel) rfl (nk_nar_z (by decide))
    · have hr := nk_ifn (c := r6 = 0) hc hr
      refine nk_p (i := .aload_n 0) (len := 1) (pc' := 152) mJ_183 (by decide +kernel) (ns_aload_n 0 rfl rfl) rfl ?_
      refine nk_p (i := .iload 5) (len := 2) (pc' := 154) mJ_183 (by decide +kernel) (ns_iload 3 rfl) rfl ?_
      obtain ⟨r18, S19, h20, hr⟩ := nk_bde hr
      refine nk_callV (ci := 13) (n := 1) (x := 381) (len := 3) (j' := 172) (q' := 1) (r := r18) (S' := S19) (L2 := [(0, nk_r l0), (1, nk_i l5)]) (rest := []) (st' := [nk_i r18]) (pc' := 157) mJ_183 (by decide +kernel) (by decide +kernel) rfl rfl t_l0 (Nat.le_of_ble_eq_true rfl) mJ_172 (Nat.le_of_ble_eq_true rfl) rfl (ja_X13_label_ok zs _ _ _ _ t_l0 h20) rfl ?_
      refine nk_icond (c := .lt) (off := 19) (len := 3) (t := 176) (pc' := 160) mJ_183 (by decide +kernel) (by decide +kernel) rfl (fun hc => ?_) (fun hc => ?_)
      · have hr := nk_ifp (c := r18 < 0) hc hr
        refine nk_sub [0, 3] (L' := [(0, nk_r l0), (5, nk_i l5)]) rfl ?_
        exact ja_X13_linesOf_b176_ok zs _ _ _ _ t_l0 hr
      · have hr := nk_ifn (c := r18 < 0) hc hr
        refine nk_p (i := .aload_n 0) (len := 1) (pc' := 161) mJ_183 (by decide +kernel) (ns_aload_n 0 rfl rfl) rfl ?_
        refine nk_getC (f := (4, 1, 16000)) (x := 49) (len := 3) (ci := 13) (k := 17) (pc' := 164) ja_okT mJ_183 (by decide +kernel) (by decide +kernel) (by decide +kernel) (by decide) t_l0 rfl ?_
        have t21 : nk_ar ja_Tt (ja_c l0 17) = some (1, 16000) := nk_ta ja_okT t_l0 (by decide +kernel)
        refine nk_p (i := .aload_n 0) (len := 1) (pc' := 165) mJ_183 (by decide +kernel) (ns_aload_n 0 rfl rfl) rfl ?_
        refine nk_p (i := .iload 5) (len := 2) (pc' := 167) mJ_183 (by decide +kernel) (ns_iload 3 rfl) rfl ?_
        obtain ⟨r22, S23, h24, hr⟩ := nk_bde hr
        refine nk_callV (ci := 13) (n := 1) (x := 381) (len := 3) (j' := 172) (q' := 1) (r := r22) (S' := S23) (L2 := [(0, nk_r l0), (1, nk_i l5)]) (rest := [nk_r (ja_c l0 17)]) (st' := [nk_i r22, nk_r (ja_c l0 17)]) (pc' := 170) mJ_183 (by decide +kernel) (by decide +kernel) rfl rfl t_l0 (Nat.le_of_ble_eq_true rfl) mJ_172 (Nat.le_of_ble_eq_true rfl) rfl (ja_X13_label_ok zs _ _ _ _ t_l0 h24) rfl ?_
        obtain ⟨h25, hr⟩ := nk_cke hr
        refine nk_iald (len := 1) (N := 16000) (pc' := 171) mJ_183 (by decide +kernel) t21 h25.1 h25.2 rfl rfl ?_
        refine nk_p (i := .iload 5) (len := 2) (pc' := 173) mJ_183 (by decide +kernel) (ns_iload 3 rfl) rfl ?_
        refine nk_icmp (c := .eq) (off := 51) (len := 3) (t := 224) (pc' := 176) mJ_183 (by decide +kernel) (by decide +kernel) rfl (fun hc => ?_) (fun hc => ?_)
        · have hr := nk_ifp (c := (S23.1 (ja_c l0 17) r22.toNat) = l5) hc hr
          exact ja_X13_linesOf_b224_ok zs hrec131 _ _ _ _ _ _ _ t_l0 t_l1 hr
        · have hr := nk_ifn (c := (S23.1 (ja_c l0 17) r22.toNat) = l5) hc hr
          refine nk_sub [0, 3] (L' := [(0, nk_r l0), (5, nk_i l5)]) rfl ?_
          exact ja_X13_linesOf_b176_ok zs _ _ _ _ t_l0 hr
noncomputable def ja_X13_linesOf_L131 : Nat → Nat → Nat → Int → Int → Int → nk_S → Option (Int × nk_S)
  | 0, _, _, _, _, _, _ => none
  | n + 1, l0, l1, l2, l5, l6, S => ja_X13_linesOf_b131 (ja_X13_linesOf_L131 n) l0 l1 l2 l5 l6 S
theorem ja_X13_linesOf_L131_ok (zs : List Int32) : ∀ n : Nat, ∀ (l0 : Nat) (l1 : Nat) (l2 : Int) (l5 : Int) (l6 : Int) (S : nk_S) (R : Int × nk_S), nk_cl ja_Tt l0 = some 13 → nk_cl ja_Tt l1 = some 12 → ja_X13_linesOf_L131 n l0 l1 l2 l5 l6 S = some R → nk_K ja_Tt mi_Γ (mi_ev zs) 1 183 131 [(0, nk_r l0), (1, nk_r l1), (2, nk_i l2), (5, nk_i l5), (6, nk_i l6)] [] S R := by
  intro n
  induction n with
  | zero => intro _ _ _ _ _ _ _ _ _ hr; cases hr
  | succ n ih => intro l0 l1 l2 l5 l6 S R t_l0 t_l1 hr; exact ja_X13_linesOf_b131_ok zs ih l0 l1 l2 l5 l6 S R t_l0 t_l1 hr
noncomputable def ja_X13_linesOf_b102 (rec33 : Nat → Nat → Int → Int → Int → Int → nk_S → Option (Int × nk_S)) (l0 : Nat) (l1 : Nat) (l2 : Int) (l3 : Int) (l4 : Int) (l5 : Int) (S : nk_S) : Option (Int × nk_S) :=
  nk_bd (ja_X13_lineLength l0 l5 S) fun r1 S2 =>
  nk_lt (nk_w (l5 + r1)) fun v4 =>
  rec33 l0 l1 l2 l3 l4 v4 S2
theorem ja_X13_linesOf_b102_ok (zs : List Int32) {rec33 : Nat → Nat → Int → Int → Int → Int → nk_S → Option (Int × nk_S)} (hrec33 : ∀ (l0 : Nat) (l1 : Nat) (l2 : Int) (l3 : Int) (l4 : Int) (l5 : Int) (S : nk_S) (R : Int × nk_S), nk_cl ja_Tt l0 = some 13 → nk_cl ja_Tt l1 = some 12 → rec33 l0 l1 l2 l3 l4 l5 S = some R → nk_K ja_Tt mi_Γ (mi_ev zs) 1 183 33 [(0, nk_r l0), (1, nk_r l1), (2, nk_i l2), (3, nk_i l3), (4, nk_i l4), (5, nk_i l5)] [] S R) : ∀ (l0 : Nat) (l1 : Nat) (l2 : Int) (l3 : Int) (l4 : Int) (l5 : Int) (S : nk_S) (R : Int × nk_S), nk_cl ja_Tt l0 = some 13 → nk_cl ja_Tt l1 = some 12 → ja_X13_linesOf_b102 rec33 l0 l1 l2 l3 l4 l5 S = some R → nk_K ja_Tt mi_Γ (mi_ev zs) 1 183 102 [(0, nk_r l0), (1, nk_r l1), (2, nk_i l2), (3, nk_i l3), (4, nk_i l4), (5, nk_i l5)] [] S R := by
  intro l0 l1 l2 l3 l4 l5 S R t_l0 t_l1 hr
  unfold ja_X13_linesOf_b102 at hr
  refine nk_p (i := .iload 5) (len := 2) (pc' := 104) mJ_183 (by decide +kernel) (ns_iload 5 rfl) rfl ?_
  refine nk_p (i := .aload_n 0) (len := 1) (pc' := 105) mJ_183 (by decide +kernel) (ns_aload_n 0 rfl rfl) rfl ?_
  refine nk_p (i := .iload 5) (len := 2) (pc' := 107) mJ_183 (by decide +kernel) (ns_iload 5 rfl) rfl ?_
  obtain ⟨r1, S2, h3, hr⟩ := nk_bde hr
  refine nk_callV (ci := 13) (n := 1) (x := 375) (len := 3) (j' := 181) (q' := 1) (r := r1) (S' := S2) (L2 := [(0, nk_r l0), (1, nk_i l5)]) (rest := [nk_i l5]) (st' := [nk_i r1, nk_i l5]) (pc' := 110) mJ_183 (by decide +kernel) (by decide +kernel) rfl rfl t_l0 (Nat.le_of_ble_eq_true rfl) mJ_181 (Nat.le_of_ble_eq_true rfl) rfl (ja_X13_lineLength_ok zs _ _ _ _ t_l0 h3) rfl ?_
  refine nk_p (i := .iadd) (len := 1) (pc' := 111) mJ_183 (by decide +kernel) ns_iadd rfl ?_
  obtain ⟨v4, h5, hr⟩ := nk_lte hr
  refine nk_p (i := .istore 5) (len := 2) (pc' := 113) mJ_183 (by decide +kernel) (ns_istore (L' := [(5, nk_i v4), (0, nk_r l0), (1, nk_r l1), (2, nk_i l2), (3, nk_i l3), (4, nk_i l4)]) h5 rfl (by decide +kernel)) rfl ?_
  refine nk_p (i := .goto (-80)) (len := 3) (pc' := 33) mJ_183 (by decide +kernel) (ns_goto (by decide +kernel)) rfl ?_
  refine nk_sub [1, 2, 3, 4, 5, 0] (L' := [(0, nk_r l0), (1, nk_r l1), (2, nk_i l2), (3, nk_i l3), (4, nk_i l4), (5, nk_i v4)]) rfl ?_
  exact hrec33 _ _ _ _ _ _ _ _ t_l0 t_l1 hr
noncomputable def ja_X13_linesOf_b33 (rec33 : Nat → Nat → Int → Int → Int → Int → nk_S → Option (Int × nk_S)) (l0 : Nat) (l1 : Nat) (l2 : Int) (l3 : Int) (l4 : Int) (l5 : Int) (S : nk_S) : Option (Int × nk_S) :=
  nk_bd (ja_X13_is l0 l5 13 S) fun r1 S2 =>
  if r1 = 0 then
    nk_bd (ja_X13_isLabel l0 l5 S2) fun r8 S9 =>
    if r8 = 0 then
      nk_bd (ja_X13_is l0 l5 29 S9) fun r11 S12 =>
      if r11 = 0 then
        nk_lt (nk_w (l4 + 1)) fun v14 =>
        ja_X13_linesOf_b102 rec33 l0 l1 l2 l3 v14 l5 S12
      else
        ja_X13_linesOf_b102 rec33 l0 l1 l2 l3 l4 l5 S12
    else
      if 0 ≤ (S9.1 l0 19) ∧ (S9.1 l0 19) < 16000 then
      nk_lt (nk_wi S9 (ja_c l0 17) (S9.1 l0 19).toNat l5) fun S18 =>
      if 0 ≤ (S18.1 l0 19) ∧ (S18.1 l0 19) < 16000 then
      nk_lt (nk_wi S18 (ja_c l0 18) (S18.1 l0 19).toNat l4) fun S22 =>
      nk_lt (nk_wi S22 l0 19 (nk_w ((S22.1 l0 19) + 1))) fun S24 =>
      ja_X13_linesOf_b102 rec33 l0 l1 l2 l3 l4 l5 S24
      else none
      else none
  else
    if 0 ≤ l2 ∧ l2 < 48 then
    nk_lt (nk_wi S2 (ja_c l1 20) l2.toNat l4) fun S6 =>
    ja_X13_linesOf_L131 nk_big l0 l1 l2 l3 l4 S6
    else none
theorem ja_X13_linesOf_b33_ok (zs : List Int32) {rec33 : Nat → Nat → Int → Int → Int → Int → nk_S → Option (Int × nk_S)} (hrec33 : ∀ (l0 : Nat) (l1 : Nat) (l2 : Int) (l3 : Int) (l4 : Int) (l5 : Int) (S : nk_S) (R : Int × nk_S), nk_cl ja_Tt l0 = some 13 → nk_cl ja_Tt l1 = some 12 → rec33 l0 l1 l2 l3 l4 l5 S = some R → nk_K ja_Tt mi_Γ (mi_ev zs) 1 183 33 [(0, nk_r l0), (1, nk_r l1), (2, nk_i l2), (3, nk_i l3), (4, nk_i l4), (5, nk_i l5)] [] S R) : ∀ (l0 : Nat) (l1 : Nat) (l2 : Int) (l3 : Int) (l4 : Int) (l5 : Int) (S : nk_S) (R : Int × nk_S), nk_cl ja_Tt l0 = some 13 → nk_cl ja_Tt l1 = some 12 → ja_X13_linesOf_b33 rec33 l0 l1 l2 l3 l4 l5 S = some R → nk_K ja_Tt mi_Γ (mi_ev zs) 1 183 33 [(0, nk_r l0), (1, nk_r l1), (2, nk_i l2), (3, nk_i l3), (4, nk_i l4), (5, nk_i l5)] [] S R := by
  intro l0 l1 l2 l3 l4 l5 S R t_l0 t_l1 hr
  unfold ja_X13_linesOf_b33 at hr
  refine nk_p (i := .aload_n 0) (len := 1) (pc' := 34) mJ_183 (by decide +kernel) (ns_aload_n 0 rfl rfl) rfl ?_
  refine nk_p (i := .iload 5) (len := 2) (pc' := 36) mJ_183 (by decide +kernel) (ns_iload 5 rfl) rfl ?_
  refine nk_ldct (x := 214) (len := 2) (k := 13) (s := "}") (pc' := 38) mJ_183 (by decide +kernel) (by decide +kernel) (by decide +kernel) rfl ?_
  obtain ⟨r1, S2, h3, hr⟩ := nk_bde hr
  refine nk_callV (ci := 13) (n := 2) (x := 199) (len := 3) (j' := 138) (q' := 1) (r := r1) (S' := S2) (L2 := [(0, nk_r l0), (1, nk_i l5), (2, nk_o 13)]) (rest := []) (st' := [nk_i r1]) (pc' := 41) mJ_183 (by decide +kernel) (by decide +kernel) rfl rfl t_l0 (Nat.le_of_ble_eq_true rfl) mJ_138 (Nat.le_of_ble_eq_true rfl) rfl (ja_X13_is_ok zs _ _ _ _ _ t_l0 (ja_tx13 zs) h3) rfl ?_
  refine nk_icond (c := .ne) (off := 75) (len := 3) (t := 116) (pc' := 44) mJ_183 (by decide +kernel) (by decide +kernel) rfl (fun hc => ?_) (fun hc => ?_)
  · have hr := nk_ifn (c := r1 = 0) hc hr
    refine nk_p (i := .iload 4) (len := 2) (pc' := 118) mJ_183 (by decide +kernel) (ns_iload 4 rfl) rfl ?_
    refine nk_p (i := .istore 6) (len := 2) (pc' := 120) mJ_183 (by decide +kernel) (ns_istore (L' := [(6, nk_i l4), (0, nk_r l0), (1, nk_r l1), (2, nk_i l2), (3, nk_i l3), (4, nk_i l4), (5, nk_i l5)]) rfl rfl (by decide +kernel)) rfl ?_
    refine nk_p (i := .aload_n 1) (len := 1) (pc' := 121) mJ_183 (by decide +kernel) (ns_aload_n 2 rfl rfl) rfl ?_
    refine nk_getC (f := (4, 1, 48)) (x := 378) (len := 3) (ci := 12) (k := 20) (pc' := 124) ja_okT mJ_183 (by decide +kernel) (by decide +kernel) (by decide +kernel) (by decide) t_l1 rfl ?_
    have t4 : nk_ar ja_Tt (ja_c l1 20) = some (1, 48) := nk_ta ja_okT t_l1 (by decide +kernel)
    refine nk_p (i := .iload_n 2) (len := 1) (pc' := 125) mJ_183 (by decide +kernel) (ns_iload_n 3 rfl rfl) rfl ?_
    refine nk_p (i := .iload 6) (len := 2) (pc' := 127) mJ_183 (by decide +kernel) (ns_iload 0 rfl) rfl ?_
    obtain ⟨h5, hr⟩ := nk_cke hr
    obtain ⟨S6, h7, hr⟩ := nk_lte hr
    refine nk_iast (len := 1) (N := 48) (pc' := 128) mJ_183 (by decide +kernel) t4 h5.1 h5.2 rfl rfl h7 ?_
    refine nk_p (i := .iload_n 3) (len := 1) (pc' := 129) mJ_183 (by decide +kernel) (ns_iload_n 4 rfl rfl) rfl ?_
    refine nk_p (i := .istore 5) (len := 2) (pc' := 131) mJ_183 (by decide +kernel) (ns_istore (L' := [(5, nk_i l3), (6, nk_i l4), (0, nk_r l0), (1, nk_r l1), (2, nk_i l2), (3, nk_i l3), (4, nk_i l4)]) rfl rfl (by decide +kernel)) rfl ?_
    refine nk_sub [2, 3, 4, 0, 1] (L' := [(0, nk_r l0), (1, nk_r l1), (2, nk_i l2), (5, nk_i l3), (6, nk_i l4)]) rfl ?_
    exact ja_X13_linesOf_L131_ok zs nk_big _ _ _ _ _ _ _ t_l0 t_l1 hr
  · have hr := nk_ifp (c := r1 = 0) (Decidable.of_not_not hc) hr
    refine nk_p (i := .aload_n 0) (len := 1) (pc' := 45) mJ_183 (by decide +kernel) (ns_aload_n 0 rfl rfl) rfl ?_
    refine nk_p (i := .iload 5) (len := 2) (pc' := 47) mJ_183 (by decide +kernel) (ns_iload 5 rfl) rfl ?_
    obtain ⟨r8, S9, h10, hr⟩ := nk_bde hr
    refine nk_callV (ci := 13) (n := 1) (x := 252) (len := 3) (j' := 150) (q' := 1) (r := r8) (S' := S9) (L2 := [(0, nk_r l0), (1, nk_i l5)]) (rest := []) (st' := [nk_i r8]) (pc' := 50) mJ_183 (by decide +kernel) (by decide +kernel) rfl rfl t_l0 (Nat.le_of_ble_eq_true rfl) mJ_150 (Nat.le_of_ble_eq_true rfl) rfl (ja_X13_isLabel_ok zs _ _ _ _ t_l0 h10) rfl ?_
    refine nk_icond (c := .eq) (off := 38) (len := 3) (t := 88) (pc' := 53) mJ_183 (by decide +kernel) (by decide +kernel) rfl (fun hc => ?_) (fun hc => ?_)
    · have hr := nk_ifp (c := r8 = 0) hc hr
      refine nk_p (i := .aload_n 0) (len := 1) (pc' := 89) mJ_183 (by decide +kernel) (ns_aload_n 0 rfl rfl) rfl ?_
      refine nk_p (i := .iload 5) (len := 2) (pc' := 91) mJ_183 (by decide +kernel) (ns_iload 5 rfl) rfl ?_
      refine nk_ldct (x := 255) (len := 2) (k := 29) (s := "catch") (pc' := 93) mJ_183 (by decide +kernel) (by decide +kernel) (by decide +kernel) rfl ?_
      obtain ⟨r11, S12, h13, hr⟩ := nk_bde hr
      refine nk_callV (ci := 13) (n := 2) (x := 199) (len := 3) (j' := 138) (q' := 1) (r := r11) (S' := S12) (L2 := [(0, nk_r l0), (1, nk_i l5), (2, nk_o 29)]) (rest := []) (st' := [nk_i r11]) (pc' := 96) mJ_183 (by decide +kernel) (by decide +kernel) rfl rfl t_l0 (Nat.le_of_ble_eq_true rfl) mJ_138 (Nat.le_of_ble_eq_true rfl) rfl (ja_X13_is_ok zs _ _ _ _ _ t_l0 (ja_tx29 zs) h13) rfl ?_
      refine nk_icond (c := .ne) (off := 6) (len := 3) (t := 102) (pc' := 99) mJ_183 (by decide +kernel) (by decide +kernel) rfl (fun hc => ?_) (fun hc => ?_)
      · have hr := nk_ifn (c := r11 = 0) hc hr
        exact ja_X13_linesOf_b102_ok zs hrec33 _ _ _ _ _ _ _ _ t_l0 t_l1 hr
      · have hr := nk_ifp (c := r11 = 0) (Decidable.of_not_not hc) hr
        obtain ⟨v14, h15, hr⟩ := nk_lte hr
        refine nk_p (i := .iinc 4 1) (len := 3) (pc' := 102) mJ_183 (by decide +kernel) (ns_iinc (c := 1) (L' := [(4, nk_i v14), (0, nk_r l0), (1, nk_r l1), (2, nk_i l2), (3, nk_i l3), (5, nk_i l5)]) 4 rfl (by decide +kernel) h15 rfl (by decide +kernel)) rfl ?_
        refine nk_sub [1, 2, 3, 4, 0, 5] (L' := [(0, nk_r l0), (1, nk_r l1), (2, nk_i l2), (3, nk_i l3), (4, nk_i v14), (5, nk_i l5)]) rfl ?_
        exact ja_X13_linesOf_b102_ok zs hrec33 _ _ _ _ _ _ _ _ t_l0 t_l1 hr
    · have hr := nk_ifn (c := r8 = 0) hc hr
      refine nk_p (i := .aload_n 0) (len := 1) (pc' := 54) mJ_183 (by decide +kernel) (ns_aload_n 0 rfl rfl) rfl ?_
      refine nk_getC (f := (4, 1, 16000)) (x := 49) (len := 3) (ci := 13) (k := 17) (pc' := 57) ja_okT mJ_183 (by decide +kernel) (by decide +kernel) (by decide +kernel) (by decide) t_l0 rfl ?_
      have t16 : nk_ar ja_Tt (ja_c l0 17) = some (1, 16000) := nk_ta ja_okT t_l0 (by decide +kernel)
      refine nk_p (i := .aload_n 0) (len := 1) (pc' := 58) mJ_183 (by decide +kernel) (ns_aload_n 0 rfl rfl) rfl ?_
      refine nk_getI (y := (0, 0)) (x := 372) (len := 3) (ci := 13) (k := 19) (pc' := 61) ja_okT mJ_183 (by decide +kernel) (by decide +kernel) (by decide +kernel) t_l0 rfl ?_
      refine nk_p (i := .iload 5) (len := 2) (pc' := 63) mJ_183 (by decide +kernel) (ns_iload 5 rfl) rfl ?_
      obtain ⟨h17, hr⟩ := nk_cke hr
      obtain ⟨S18, h19, hr⟩ := nk_lte hr
      refine nk_iast (len := 1) (N := 16000) (pc' := 64) mJ_183 (by decide +kernel) t16 h17.1 h17.2 rfl rfl h19 ?_
      refine nk_p (i := .aload_n 0) (len := 1) (pc' := 65) mJ_183 (by decide +kernel) (ns_aload_n 0 rfl rfl) rfl ?_
      refine nk_getC (f := (4, 1, 16000)) (x := 52) (len := 3) (ci := 13) (k := 18) (pc' := 68) ja_okT mJ_183 (by decide +kernel) (by decide +kernel) (by decide +kernel) (by decide) t_l0 rfl ?_
      have t20 : nk_ar ja_Tt (ja_c l0 18) = some (1, 16000) := nk_ta ja_okT t_l0 (by decide +kernel)
      refine nk_p (i := .aload_n 0) (len := 1) (pc' := 69) mJ_183 (by decide +kernel) (ns_aload_n 0 rfl rfl) rfl ?_
      refine nk_getI (y := (0, 0)) (x := 372) (len := 3) (ci := 13) (k := 19) (pc' := 72) ja_okT mJ_183 (by decide +kernel) (by decide +kernel) (by decide +kernel) t_l0 rfl ?_
      refine nk_p (i := .iload 4) (len := 2) (pc' := 74) mJ_183 (by decide +kernel) (ns_iload 4 rfl) rfl ?_
      obtain ⟨h21, hr⟩ := nk_cke hr
      obtain ⟨S22, h23, hr⟩ := nk_lte hr
      refine nk_iast (len := 1) (N := 16000) (pc' := 75) mJ_183 (by decide +kernel) t20 h21.1 h21.2 rfl rfl h23 ?_
      refine nk_p (i := .aload_n 0) (len := 1) (pc' := 76) mJ_183 (by decide +kernel) (ns_aload_n 0 rfl rfl) rfl ?_
      refine nk_p (i := .dup) (len := 1) (pc' := 77) mJ_183 (by decide +kernel) (ns_dup rfl) rfl ?_
      refine nk_getI (y := (0, 0)) (x := 372) (len := 3) (ci := 13) (k := 19) (pc' := 80) ja_okT mJ_183 (by decide +kernel) (by decide +kernel) (by decide +kernel) t_l0 rfl ?_
      refine nk_p (i := .iconst 1) (len := 1) (pc' := 81) mJ_183 (by decide +kernel) (ns_iconst (c := 1) (by decide +kernel)) rfl ?_
      refine nk_p (i := .iadd) (len := 1) (pc' := 82) mJ_183 (by decide +kernel) ns_iadd rfl ?_
      obtain ⟨S24, h25, hr⟩ := nk_lte hr
      refine nk_putI (y := (0, 0)) (ty := .int) (x := 372) (len := 3) (ci := 13) (k := 19) (pc' := 85) ja_okT mJ_183 (by decide +kernel) (by decide +kernel) (by decide +kernel) t_l0 (Or.inl rfl) rfl h25 ?_
      refine nk_p (i := .goto 17) (len := 3) (pc' := 102) mJ_183 (by decide +kernel) (ns_goto (by decide +kernel)) rfl ?_
      exact ja_X13_linesOf_b102_ok zs hrec33 _ _ _ _ _ _ _ _ t_l0 t_l1 hr
noncomputable def ja_X13_linesOf_L33 : Nat → Nat → Nat → Int → Int → Int → Int → nk_S → Option (Int × nk_S)
  | 0, _, _, _, _, _, _, _ => none
  | n + 1, l0, l1, l2, l3, l4, l5, S => ja_X13_linesOf_b33 (ja_X13_linesOf_L33 n) l0 l1 l2 l3 l4 l5 S
theorem ja_X13_linesOf_L33_ok (zs : List Int32) : ∀ n : Nat, ∀ (l0 : Nat) (l1 : Nat) (l2 : Int) (l3 : Int) (l4 : Int) (l5 : Int) (S : nk_S) (R : Int × nk_S), nk_cl ja_Tt l0 = some 13 → nk_cl ja_Tt l1 = some 12 → ja_X13_linesOf_L33 n l0 l1 l2 l3 l4 l5 S = some R → nk_K ja_Tt mi_Γ (mi_ev zs) 1 183 33 [(0, nk_r l0), (1, nk_r l1), (2, nk_i l2), (3, nk_i l3), (4, nk_i l4), (5, nk_i l5)] [] S R := by
  intro n
  induction n with
  | zero => intro _ _ _ _ _ _ _ _ _ _ hr; cases hr
  | succ n ih => intro l0 l1 l2 l3 l4 l5 S R t_l0 t_l1 hr; exact ja_X13_linesOf_b33_ok zs ih l0 l1 l2 l3 l4 l5 S R t_l0 t_l1 hr
noncomputable def ja_X13_linesOf (l0 : Nat) (l1 : Nat) (l2 : Int) (S : nk_S) : Option (Int × nk_S) :=
  if 0 ≤ l2 ∧ l2 < 48 then
  nk_lt (nk_w ((S.1 (ja_c l0 16) l2.toNat) + 3)) fun v3 =>
  nk_lt (nk_wi S (ja_c l1 19) l2.toNat (S.1 l1 3)) fun S6 =>
  nk_lt (nk_wi S6 l0 19 0) fun S8 =>
  nk_lt (S8.1 l1 3) fun v10 =>
  ja_X13_linesOf_L33 nk_big l0 l1 l2 v3 v10 v3 S8
  else none
theorem ja_X13_linesOf_ok (zs : List Int32) : ∀ (l0 : Nat) (l1 : Nat) (l2 : Int) (S : nk_S) (R : Int × nk_S), nk_cl ja_Tt l0 = some 13 → nk_cl ja_Tt l1 = some 12 → ja_X13_linesOf l0 l1 l2 S = some R → nk_K ja_Tt mi_Γ (mi_ev zs) 1 183 0 [(0, nk_r l0), (1, nk_r l1), (2, nk_i l2)] [] S R := by
  intro l0 l1 l2 S R t_l0 t_l1 hr
  unfold ja_X13_linesOf at hr
  refine nk_p (i := .aload_n 0) (len := 1) (pc' := 1) mJ_183 (by decide +kernel) (ns_aload_n 0 rfl rfl) rfl ?_
  refine nk_getC (f := (4, 1, 48)) (x := 46) (len := 3) (ci := 13) (k := 16) (pc' := 4) ja_okT mJ_183 (by decide +kernel) (by decide +kernel) (by decide +kernel) (by decide) t_l0 rfl ?_
  have t1 : nk_ar ja_Tt (ja_c l0 16) = some (1, 48) := nk_ta ja_okT t_l0 (by decide +kernel)
  refine nk_p (i := .iload_n 2) (len := 1) (pc' := 5) mJ_183 (by decide +kernel) (ns_iload_n 2 rfl rfl) rfl ?_
  obtain ⟨h2, hr⟩ := nk_cke hr
  refine nk_iald (len := 1) (N := 48) (pc' := 6) mJ_183 (by decide +kernel) t1 h2.1 h2.2 rfl rfl ?_
  refine nk_p (i := .iconst 3) (len := 1) (pc' := 7) mJ_183 (by decide +kernel) (ns_iconst (c := 3) (by decide +kernel)) rfl ?_
  refine nk_p (i := .iadd) (len := 1) (pc' := 8) mJ_183 (by decide +kernel) ns_iadd rfl ?_
  obtain ⟨v3, h4, hr⟩ := nk_lte hr
  refine nk_p (i := .istore_n 3) (len := 1) (pc' := 9) mJ_183 (by decide +kernel) (ns_istore_n (L' := [(3, nk_i v3), (0, nk_r l0), (1, nk_r l1), (2, nk_i l2)]) h4 rfl rfl (by decide +kernel)) rfl ?_
  refine nk_p (i := .aload_n 1) (len := 1) (pc' := 10) mJ_183 (by decide +kernel) (ns_aload_n 2 rfl rfl) rfl ?_
  refine nk_getC (f := (4, 1, 48)) (x := 369) (len := 3) (ci := 12) (k := 19) (pc' := 13) ja_okT mJ_183 (by decide +kernel) (by decide +kernel) (by decide +kernel) (by decide) t_l1 rfl ?_
  have t5 : nk_ar ja_Tt (ja_c l1 19) = some (1, 48) := nk_ta ja_okT t_l1 (by decide +kernel)
  refine nk_p (i := .iload_n 2) (len := 1) (pc' := 14) mJ_183 (by decide +kernel) (ns_iload_n 3 rfl rfl) rfl ?_
  refine nk_p (i := .aload_n 1) (len := 1) (pc' := 15) mJ_183 (by decide +kernel) (ns_aload_n 2 rfl rfl) rfl ?_
  refine nk_getI (y := (0, 0)) (x := 353) (len := 3) (ci := 12) (k := 3) (pc' := 18) ja_okT mJ_183 (by decide +kernel) (by decide +kernel) (by decide +kernel) t_l1 rfl ?_
  obtain ⟨S6, h7, hr⟩ := nk_lte hr
  refine nk_iast (len := 1) (N := 48) (pc' := 19) mJ_183 (by decide +kernel) t5 h2.1 h2.2 rfl rfl h7 ?_
  refine nk_p (i := .aload_n 0) (len := 1) (pc' := 20) mJ_183 (by decide +kernel) (ns_aload_n 1 rfl rfl) rfl ?_
  refine nk_p (i := .iconst 0) (len := 1) (pc' := 21) mJ_183 (by decide +kernel) (ns_iconst (c := 0) (by decide +kernel)) rfl ?_
  obtain ⟨S8, h9, hr⟩ := nk_lte hr
  refine nk_putI (y := (0, 0)) (ty := .int) (x := 372) (len := 3) (ci := 13) (k := 19) (pc' := 24) ja_okT mJ_183 (by decide +kernel) (by decide +kernel) (by decide +kernel) t_l0 (Or.inl rfl) rfl h9 ?_
  refine nk_p (i := .aload_n 1) (len := 1) (pc' := 25) mJ_183 (by decide +kernel) (ns_aload_n 2 rfl rfl) rfl ?_
  refine nk_getI (y := (0, 0)) (x := 353) (len := 3) (ci := 12) (k := 3) (pc' := 28) ja_okT mJ_183 (by decide +kernel) (by decide +kernel) (by decide +kernel) t_l1 rfl ?_
  obtain ⟨v10, h11, hr⟩ := nk_lte hr
  refine nk_p (i := .istore 4) (len := 2) (pc' := 30) mJ_183 (by decide +kernel) (ns_istore (L' := [(4, nk_i v10), (3, nk_i v3), (0, nk_r l0), (1, nk_r l1), (2, nk_i l2)]) h11 rfl (by decide +kernel)) rfl ?_
  refine nk_p (i := .iload_n 3) (len := 1) (pc' := 31) mJ_183 (by decide +kernel) (ns_iload_n 1 rfl rfl) rfl ?_
  refine nk_p (i := .istore 5) (len := 2) (pc' := 33) mJ_183 (by decide +kernel) (ns_istore (L' := [(5, nk_i v3), (4, nk_i v10), (3, nk_i v3), (0, nk_r l0), (1, nk_r l1), (2, nk_i l2)]) rfl rfl (by decide +kernel)) rfl ?_
  refine nk_sub [3, 4, 5, 2, 1, 0] (L' := [(0, nk_r l0), (1, nk_r l1), (2, nk_i l2), (3, nk_i v3), (4, nk_i v10), (5, nk_i v3)]) rfl ?_
  exact ja_X13_linesOf_L33_ok zs nk_big _ _ _ _ _ _ _ _ t_l0 t_l1 hr
/-! SafeCodeModel lines (LSafeCodeModel$Program;)Z -/
noncomputable def ja_X13_lines_b22 (rec22 : Nat → Nat → Int → nk_S → Option (Int × nk_S)) (l0 : Nat) (l1 : Nat) (l2 : Int) (S : nk_S) : Option (Int × nk_S) :=
  if (S.1 l1 2) ≤ l2 then
    some (1, S)
  else
    nk_bd (ja_X13_linesOf l0 l1 l2 S) fun r1 S2 =>
    if r1 = 0 then
      some (0, S2)
    else
      nk_lt (nk_w (l2 + 1)) fun v4 =>
      rec22 l0 l1 v4 S2
theorem ja_X13_lines_b22_ok (zs : List Int32) {rec22 : Nat → Nat → Int → nk_S → Option (Int × nk_S)} (hrec22 : ∀ (l0 : Nat) (l1 : Nat) (l2 : Int) (S : nk_S) (R : Int × nk_S), nk_cl ja_Tt l0 = some 13 → nk_cl ja_Tt l1 = some 12 → rec22 l0 l1 l2 S = some R → nk_K ja_Tt mi_Γ (mi_ev zs) 1 182 22 [(0, nk_r l0), (1, nk_r l1), (2, nk_i l2)] [] S R) : ∀ (l0 : Nat) (l1 : Nat) (l2 : Int) (S : nk_S) (R : Int × nk_S), nk_cl ja_Tt l0 = some 13 → nk_cl ja_Tt l1 = some 12 → ja_X13_lines_b22 rec22 l0 l1 l2 S = some R → nk_K ja_Tt mi_Γ (mi_ev zs) 1 182 22 [(0, nk_r l0), (1, nk_r l1), (2, nk_i l2)] [] S R := by
  intro l0 l1 l2 S R t_l0 t_l1 hr
  unfold ja_X13_lines_b22 at hr
  refine nk_p (i := .iload_n 2) (len := 1) (pc' := 23) mJ_182 (by decide +kernel) (ns_iload_n 2 rfl rfl) rfl ?_
  refine nk_p (i := .aload_n 1) (len := 1) (pc' := 24) mJ_182 (by decide +kernel) (ns_aload_n 1 rfl rfl) rfl ?_
  refine nk_getI (y := (0, 0)) (x := 303) (len := 3) (ci := 12) (k := 2) (pc' := 27) ja_okT mJ_182 (by decide +kernel) (by decide +kernel) (by decide +kernel) t_l1 rfl ?_
  refine nk_icmp (c := .ge) (off := 20) (len := 3) (t := 47) (pc' := 30) mJ_182 (by decide +kernel) (by decide +kernel) rfl (fun hc => ?_) (fun hc => ?_)
  · have hr := nk_ifp (c := (S.1 l1 2) ≤ l2) hc hr
    refine nk_p (i := .iconst 1) (len := 1) (pc' := 48) mJ_182 (by decide +kernel) (ns_iconst (c := 1) (by decide +kernel)) rfl ?_
    cases hr
    exact nk_iret (ty := .boolean) (len := 1) mJ_182 (by decide +kernel) rfl (nk_nar_z (by decide))
  · have hr := nk_ifn (c := (S.1 l1 2) ≤ l2) hc hr
    refine nk_p (i := .aload_n 0) (len := 1) (pc' := 31) mJ_182 (by decide +kernel) (ns_aload_n 0 rfl rfl) rfl ?_
    refine nk_p (i := .aload_n 1) (len := 1) (pc' := 32) mJ_182 (by decide +kernel) (ns_aload_n 1 rfl rfl) rfl ?_
    refine nk_p (i := .iload_n 2) (len := 1) (pc' := 33) mJ_182 (by decide +kernel) (ns_iload_n 2 rfl rfl) rfl ?_
    obtain ⟨r1, S2, h3, hr⟩ := nk_bde hr
    refine nk_callV (ci := 13) (n := 2) (x := 365) (len := 3) (j' := 183) (q' := 1) (r := r1) (S' := S2) (L2 := [(0, nk_r l0), (1, nk_r l1), (2, nk_i l2)]) (rest := []) (st' := [nk_i r1]) (pc' := 36) mJ_182 (by decide +kernel) (by decide +kernel) rfl rfl t_l0 (Nat.le_of_ble_eq_true rfl) mJ_183 (Nat.le_of_ble_eq_true rfl) rfl (ja_X13_linesOf_ok zs _ _ _ _ _ t_l0 t_l1 h3) rfl ?_
    refine nk_icond (c := .ne) (off := 5) (len := 3) (t := 41) (pc' := 39) mJ_182 (by decide +kernel) (by decide +kernel) rfl (fun hc => ?_) (fun hc => ?_)
    · have hr := nk_ifn (c := r1 = 0) hc hr
      obtain ⟨v4, h5, hr⟩ := nk_lte hr
      refine nk_p (i := .iinc 2 1) (len := 3) (pc' := 44) mJ_182 (by decide +kernel) (ns_iinc (c := 1) (L' := [(2, nk_i v4), (0, nk_r l0), (1, nk_r l1)]) 2 rfl (by decide +kernel) h5 rfl (by decide +kernel)) rfl ?_
      refine nk_p (i := .goto (-22)) (len := 3) (pc' := 22) mJ_182 (by decide +kernel) (ns_goto (by decide +kernel)) rfl ?_
      refine nk_sub [1, 2, 0] (L' := [(0, nk_r l0), (1, nk_r l1), (2, nk_i v4)]) rfl ?_
      exact hrec22 _ _ _ _ _ t_l0 t_l1 hr
    · have hr := nk_ifp (c := r1 = 0) (Decidable.of_not_not hc) hr
      refine nk_p (i := .iconst 0) (len := 1) (pc' := 40) mJ_182 (by decide +kernel) (ns_iconst (c := 0) (by decide +kernel)) rfl ?_
      cases hr
      exact nk_iret (ty := .boolean) (len := 1) mJ_182 (by decide +kernel) rfl (nk_nar_z (by decide))
noncomputable def ja_X13_lines_L22 : Nat → Nat → Nat → Int → nk_S → Option (Int × nk_S)
  | 0, _, _, _, _ => none
  | n + 1, l0, l1, l2, S => ja_X13_lines_b22 (ja_X13_lines_L22 n) l0 l1 l2 S
theorem ja_X13_lines_L22_ok (zs : List Int32) : ∀ n : Nat, ∀ (l0 : Nat) (l1 : Nat) (l2 : Int) (S : nk_S) (R : Int × nk_S), nk_cl ja_Tt l0 = some 13 → nk_cl ja_Tt l1 = some 12 → ja_X13_lines_L22 n l0 l1 l2 S = some R → nk_K ja_Tt mi_Γ (mi_ev zs) 1 182 22 [(0, nk_r l0), (1, nk_r l1), (2, nk_i l2)] [] S R := by
  intro n
  induction n with
  | zero => intro _ _ _ _ _ _ _ hr; cases hr
  | succ n ih => intro l0 l1 l2 S R t_l0 t_l1 hr; exact ja_X13_lines_b22_ok zs ih l0 l1 l2 S R t_l0 t_l1 hr
noncomputable def ja_X13_lines (l0 : Nat) (l1 : Nat) (S : nk_S) : Option (Int × nk_S) :=
  nk_lt (nk_wi S l1 3 0) fun S1 =>
  nk_lt (nk_wi S1 l1 4 0) fun S3 =>
  nk_lt (nk_wi S3 l1 5 0) fun S5 =>
  nk_lt (nk_wi S5 l1 7 0) fun S7 =>
  ja_X13_lines_L22 nk_big l0 l1 0 S7
theorem ja_X13_lines_ok (zs : List Int32) : ∀ (l0 : Nat) (l1 : Nat) (S : nk_S) (R : Int × nk_S), nk_cl ja_Tt l0 = some 13 → nk_cl ja_Tt l1 = some 12 → ja_X13_lines l0 l1 S = some R → nk_K ja_Tt mi_Γ (mi_ev zs) 1 182 0 [(0, nk_r l0), (1, nk_r l1)] [] S R := by
  intro l0 l1 S R t_l0 t_l1 hr
  unfold ja_X13_lines at hr
  refine nk_p (i := .aload_n 1) (len := 1) (pc' := 1) mJ_182 (by decide +kernel) (ns_aload_n 1 rfl rfl) rfl ?_
  refine nk_p (i := .iconst 0) (len := 1) (pc' := 2) mJ_182 (by decide +kernel) (ns_iconst (c := 0) (by decide +kernel)) rfl ?_
  obtain ⟨S1, h2, hr⟩ := nk_lte hr
  refine nk_putI (y := (0, 0)) (ty := .int) (x := 353) (len := 3) (ci := 12) (k := 3) (pc' := 5) ja_okT mJ_182 (by decide +kernel) (by decide +kernel) (by decide +kernel) t_l1 (Or.inl rfl) rfl h2 ?_
  refine nk_p (i := .aload_n 1) (len := 1) (pc' := 6) mJ_182 (by decide +kernel) (ns_aload_n 1 rfl rfl) rfl ?_
  refine nk_p (i := .iconst 0) (len := 1) (pc' := 7) mJ_182 (by decide +kernel) (ns_iconst (c := 0) (by decide +kernel)) rfl ?_
  obtain ⟨S3, h4, hr⟩ := nk_lte hr
  refine nk_putI (y := (0, 0)) (ty := .int) (x := 356) (len := 3) (ci := 12) (k := 4) (pc' := 10) ja_okT mJ_182 (by decide +kernel) (by decide +kernel) (by decide +kernel) t_l1 (Or.inl rfl) rfl h4 ?_
  refine nk_p (i := .aload_n 1) (len := 1) (pc' := 11) mJ_182 (by decide +kernel) (ns_aload_n 1 rfl rfl) rfl ?_
  refine nk_p (i := .iconst 0) (len := 1) (pc' := 12) mJ_182 (by decide +kernel) (ns_iconst (c := 0) (by decide +kernel)) rfl ?_
  obtain ⟨S5, h6, hr⟩ := nk_lte hr
  refine nk_putI (y := (0, 0)) (ty := .int) (x := 359) (len := 3) (ci := 12) (k := 5) (pc' := 15) ja_okT mJ_182 (by decide +kernel) (by decide +kernel) (by decide +kernel) t_l1 (Or.inl rfl) rfl h6 ?_
  refine nk_p (i := .aload_n 1) (len := 1) (pc' := 16) mJ_182 (by decide +kernel) (ns_aload_n 1 rfl rfl) rfl ?_
  refine nk_p (i := .iconst 0) (len := 1) (pc' := 17) mJ_182 (by decide +kernel) (ns_iconst (c := 0) (by decide +kernel)) rfl ?_
  obtain ⟨S7, h8, hr⟩ := nk_lte hr
  refine nk_putI (y := (0, 0)) (ty := .int) (x := 362) (len := 3) (ci := 12) (k := 7) (pc' := 20) ja_okT mJ_182 (by decide +kernel) (by decide +kernel) (by decide +kernel) t_l1 (Or.inl rfl) rfl h8 ?_
  refine nk_p (i := .iconst 0) (len := 1) (pc' := 21) mJ_182 (by decide +kernel) (ns_iconst (c := 0) (by decide +kernel)) rfl ?_
  refine nk_p (i := .istore_n 2) (len := 1) (pc' := 22) mJ_182 (by decide +kernel) (ns_istore_n (L' := [(2, nk_i 0), (0, nk_r l0), (1, nk_r l1)]) rfl rfl rfl (by decide +kernel)) rfl ?_
  refine nk_sub [1, 2, 0] (L' := [(0, nk_r l0), (1, nk_r l1), (2, nk_i 0)]) rfl ?_
  exact ja_X13_lines_L22_ok zs nk_big _ _ _ _ _ t_l0 t_l1 hr
/-! SafeCodeModel settled (LSafeCodeModel$Program;)Z -/
noncomputable def ja_X13_settled_b235 (rec235 : Nat → Nat → Int → nk_S → Option (Int × nk_S)) (l0 : Nat) (l1 : Nat) (l2 : Int) (S : nk_S) : Option (Int × nk_S) :=
  if (S.1 l1 2) ≤ l2 then
    if 0 ≤ (S.1 l1 6) then
      some (1, S)
    else
      nk_bd (ja_X13_wrong l0 (S.1 l0 10) S) fun r1 S2 =>
      if r1 = 0 then
        some (0, S2)
      else
        some (1, S2)
  else
    if 0 ≤ l2 ∧ l2 < 48 then
    if 0 ≤ (S.1 (ja_c l1 13) l2.toNat) ∧ (S.1 (ja_c l1 13) l2.toNat) < 32 then
    nk_bd (ja_X13_is l0 (S.1 (ja_c l0 13) (S.1 (ja_c l1 13) l2.toNat).toNat) 39 S) fun r8 S9 =>
    if r8 = 0 then
      nk_lt (nk_w (l2 + 1)) fun v11 =>
      rec235 l0 l1 v11 S9
    else
      nk_bd (ja_X13_is l0 (S9.1 (ja_c l0 15) l2.toNat) 41 S9) fun r14 S15 =>
      if r14 = 0 then
        nk_lt (nk_w (l2 + 1)) fun v17 =>
        rec235 l0 l1 v17 S15
      else
        if (S15.1 (ja_c l1 14) l2.toNat) = 0 then
          if (S15.1 (ja_c l1 15) l2.toNat) = 0 then
            if (S15.1 (ja_c l1 17) l2.toNat) = (-1) then
              nk_lt (nk_wi S15 l1 6 l2) fun S28 =>
              nk_lt (nk_w (l2 + 1)) fun v30 =>
              rec235 l0 l1 v30 S28
            else
              nk_lt (nk_w (l2 + 1)) fun v26 =>
              rec235 l0 l1 v26 S15
          else
            nk_lt (nk_w (l2 + 1)) fun v23 =>
            rec235 l0 l1 v23 S15
        else
          nk_lt (nk_w (l2 + 1)) fun v20 =>
          rec235 l0 l1 v20 S15
    else none
    else none
theorem ja_X13_settled_b235_ok (zs : List Int32) {rec235 : Nat → Nat → Int → nk_S → Option (Int × nk_S)} (hrec235 : ∀ (l0 : Nat) (l1 : Nat) (l2 : Int) (S : nk_S) (R : Int × nk_S), nk_cl ja_Tt l0 = some 13 → nk_cl ja_Tt l1 = some 12 → rec235 l0 l1 l2 S = some R → nk_K ja_Tt mi_Γ (mi_ev zs) 1 222 235 [(0, nk_r l0), (1, nk_r l1), (2, nk_i l2)] [] S R) : ∀ (l0 : Nat) (l1 : Nat) (l2 : Int) (S : nk_S) (R : Int × nk_S), nk_cl ja_Tt l0 = some 13 → nk_cl ja_Tt l1 = some 12 → ja_X13_settled_b235 rec235 l0 l1 l2 S = some R → nk_K ja_Tt mi_Γ (mi_ev zs) 1 222 235 [(0, nk_r l0), (1, nk_r l1), (2, nk_i l2)] [] S R := by
  intro l0 l1 l2 S R t_l0 t_l1 hr
  unfold ja_X13_settled_b235 at hr
  refine nk_p (i := .iload_n 2) (len := 1) (pc' := 236) mJ_222 (by decide +kernel) (ns_iload_n 2 rfl rfl) rfl ?_
  refine nk_p (i := .aload_n 1) (len := 1) (pc' := 237) mJ_222 (by decide +kernel) (ns_aload_n 1 rfl rfl) rfl ?_
  refine nk_getI (y := (0, 0)) (x := 303) (len := 3) (ci := 12) (k := 2) (pc' := 240) ja_okT mJ_222 (by decide +kernel) (by decide +kernel) (by decide +kernel) t_l1 rfl ?_
  refine nk_icmp (c := .ge) (off := 79) (len := 3) (t := 319) (pc' := 243) mJ_222 (by decide +kernel) (by decide +kernel) rfl (fun hc => ?_) (fun hc => ?_)
  · have hr := nk_ifp (c := (S.1 l1 2) ≤ l2) hc hr
    refine nk_p (i := .aload_n 1) (len := 1) (pc' := 320) mJ_222 (by decide +kernel) (ns_aload_n 1 rfl rfl) rfl ?_
    refine nk_getI (y := (0, 0)) (x := 453) (len := 3) (ci := 12) (k := 6) (pc' := 323) ja_okT mJ_222 (by decide +kernel) (by decide +kernel) (by decide +kernel) t_l1 rfl ?_
    refine nk_icond (c := .ge) (off := 14) (len := 3) (t := 337) (pc' := 326) mJ_222 (by decide +kernel) (by decide +kernel) rfl (fun hc => ?_) (fun hc => ?_)
    · have hr := nk_ifp (c := 0 ≤ (S.1 l1 6)) hc hr
      refine nk_p (i := .iconst 1) (len := 1) (pc' := 338) mJ_222 (by decide +kernel) (ns_iconst (c := 1) (by decide +kernel)) rfl ?_
      refine nk_p (i := .goto 4) (len := 3) (pc' := 342) mJ_222 (by decide +kernel) (ns_goto (by decide +kernel)) rfl ?_
      cases hr
      exact nk_iret (ty := .boolean) (len := 1) mJ_222 (by decide +kernel) rfl (nk_nar_z (by decide))
    · have hr := nk_ifn (c := 0 ≤ (S.1 l1 6)) hc hr
      refine nk_p (i := .aload_n 0) (len := 1) (pc' := 327) mJ_222 (by decide +kernel) (ns_aload_n 0 rfl rfl) rfl ?_
      refine nk_p (i := .aload_n 0) (len := 1) (pc' := 328) mJ_222 (by decide +kernel) (ns_aload_n 0 rfl rfl) rfl ?_
      refine nk_getI (y := (0, 0)) (x := 155) (len := 3) (ci := 13) (k := 10) (pc' := 331) ja_okT mJ_222 (by decide +kernel) (by decide +kernel) (by decide +kernel) t_l0 rfl ?_
      obtain ⟨r1, S2, h3, hr⟩ := nk_bde hr
      refine nk_callV (ci := 13) (n := 1) (x := 290) (len := 3) (j' := 246) (q' := 1) (r := r1) (S' := S2) (L2 := [(0, nk_r l0), (1, nk_i (S.1 l0 10))]) (rest := []) (st' := [nk_i r1]) (pc' := 334) mJ_222 (by decide +kernel) (by decide +kernel) rfl rfl t_l0 (Nat.le_of_ble_eq_true rfl) mJ_246 (Nat.le_of_ble_eq_true rfl) rfl (ja_X13_wrong_ok zs _ _ _ _ t_l0 h3) rfl ?_
      refine nk_icond (c := .eq) (off := 7) (len := 3) (t := 341) (pc' := 337) mJ_222 (by decide +kernel) (by decide +kernel) rfl (fun hc => ?_) (fun hc => ?_)
      · have hr := nk_ifp (c := r1 = 0) hc hr
        refine nk_p (i := .iconst 0) (len := 1) (pc' := 342) mJ_222 (by decide +kernel) (ns_iconst (c := 0) (by decide +kernel)) rfl ?_
        cases hr
        exact nk_iret (ty := .boolean) (len := 1) mJ_222 (by decide +kernel) rfl (nk_nar_z (by decide))
      · have hr := nk_ifn (c := r1 = 0) hc hr
        refine nk_p (i := .iconst 1) (len := 1) (pc' := 338) mJ_222 (by decide +kernel) (ns_iconst (c := 1) (by decide +kernel)) rfl ?_
        refine nk_p (i := .goto 4) (len := 3) (pc' := 342) mJ_222 (by decide +kernel) (ns_goto (by decide +kernel)) rfl ?_
        cases hr
        exact nk_iret (ty := .boolean) (len := 1) mJ_222 (by decide +kernel) rfl (nk_nar_z (by decide))
  · have hr := nk_ifn (c := (S.1 l1 2) ≤ l2) hc hr
    refine nk_p (i := .aload_n 0) (len := 1) (pc' := 244) mJ_222 (by decide +kernel) (ns_aload_n 0 rfl rfl) rfl ?_
    refine nk_p (i := .aload_n 0) (len := 1) (pc' := 245) mJ_222 (by decide +kernel) (ns_aload_n 0 rfl rfl) rfl ?_
    refine nk_getC (f := (4, 1, 32)) (x := 37) (len := 3) (ci := 13) (k := 13) (pc' := 248) ja_okT mJ_222 (by decide +kernel) (by decide +kernel) (by decide +kernel) (by decide) t_l0 rfl ?_
    have t4 : nk_ar ja_Tt (ja_c l0 13) = some (1, 32) := nk_ta ja_okT t_l0 (by decide +kernel)
    refine nk_p (i := .aload_n 1) (len := 1) (pc' := 249) mJ_222 (by decide +kernel) (ns_aload_n 1 rfl rfl) rfl ?_
    refine nk_getC (f := (4, 1, 48)) (x := 306) (len := 3) (ci := 12) (k := 13) (pc' := 252) ja_okT mJ_222 (by decide +kernel) (by decide +kernel) (by decide +kernel) (by decide) t_l1 rfl ?_
    have t5 : nk_ar ja_Tt (ja_c l1 13) = some (1, 48) := nk_ta ja_okT t_l1 (by decide +kernel)
    refine nk_p (i := .iload_n 2) (len := 1) (pc' := 253) mJ_222 (by decide +kernel) (ns_iload_n 2 rfl rfl) rfl ?_
    obtain ⟨h6, hr⟩ := nk_cke hr
    refine nk_iald (len := 1) (N := 48) (pc' := 254) mJ_222 (by decide +kernel) t5 h6.1 h6.2 rfl rfl ?_
    obtain ⟨h7, hr⟩ := nk_cke hr
    refine nk_iald (len := 1) (N := 32) (pc' := 255) mJ_222 (by decide +kernel) t4 h7.1 h7.2 rfl rfl ?_
    refine nk_ldwt (x := 456) (len := 3) (k := 39) (s := "Main") (pc' := 258) mJ_222 (by decide +kernel) (by decide +kernel) (by decide +kernel) rfl ?_
    obtain ⟨r8, S9, h10, hr⟩ := nk_bde hr
    refine nk_callV (ci := 13) (n := 2) (x := 199) (len := 3) (j' := 138) (q' := 1) (r := r8) (S' := S9) (L2 := [(0, nk_r l0), (1, nk_i (S.1 (ja_c l0 13) (S.1 (ja_c l1 13) l2.toNat).toNat)), (2, nk_o 39)]) (rest := []) (st' := [nk_i r8]) (pc' := 261) mJ_222 (by decide +kernel) (by decide +kernel) rfl rfl t_l0 (Nat.le_of_ble_eq_true rfl) mJ_138 (Nat.le_of_ble_eq_true rfl) rfl (ja_X13_is_ok zs _ _ _ _ _ t_l0 (ja_tx39 zs) h10) rfl ?_
    refine nk_icond (c := .eq) (off := 52) (len := 3) (t := 313) (pc' := 264) mJ_222 (by decide +kernel) (by decide +kernel) rfl (fun hc => ?_) (fun hc => ?_)
    · have hr := nk_ifp (c := r8 = 0) hc hr
      obtain ⟨v11, h12, hr⟩ := nk_lte hr
      refine nk_p (i := .iinc 2 1) (len := 3) (pc' := 316) mJ_222 (by decide +kernel) (ns_iinc (c := 1) (L' := [(2, nk_i v11), (0, nk_r l0), (1, nk_r l1)]) 2 rfl (by decide +kernel) h12 rfl (by decide +kernel)) rfl ?_
      refine nk_p (i := .goto (-81)) (len := 3) (pc' := 235) mJ_222 (by decide +kernel) (ns_goto (by decide +kernel)) rfl ?_
      refine nk_sub [1, 2, 0] (L' := [(0, nk_r l0), (1, nk_r l1), (2, nk_i v11)]) rfl ?_
      exact hrec235 _ _ _ _ _ t_l0 t_l1 hr
    · have hr := nk_ifn (c := r8 = 0) hc hr
      refine nk_p (i := .aload_n 0) (len := 1) (pc' := 265) mJ_222 (by decide +kernel) (ns_aload_n 0 rfl rfl) rfl ?_
      refine nk_p (i := .aload_n 0) (len := 1) (pc' := 266) mJ_222 (by decide +kernel) (ns_aload_n 0 rfl rfl) rfl ?_
      refine nk_getC (f := (4, 1, 48)) (x := 43) (len := 3) (ci := 13) (k := 15) (pc' := 269) ja_okT mJ_222 (by decide +kernel) (by decide +kernel) (by decide +kernel) (by decide) t_l0 rfl ?_
      have t13 : nk_ar ja_Tt (ja_c l0 15) = some (1, 48) := nk_ta ja_okT t_l0 (by decide +kernel)
      refine nk_p (i := .iload_n 2) (len := 1) (pc' := 270) mJ_222 (by decide +kernel) (ns_iload_n 2 rfl rfl) rfl ?_
      refine nk_iald (len := 1) (N := 48) (pc' := 271) mJ_222 (by decide +kernel) t13 h6.1 h6.2 rfl rfl ?_
      refine nk_ldwt (x := 458) (len := 3) (k := 41) (s := "main") (pc' := 274) mJ_222 (by decide +kernel) (by decide +kernel) (by decide +kernel) rfl ?_
      obtain ⟨r14, S15, h16, hr⟩ := nk_bde hr
      refine nk_callV (ci := 13) (n := 2) (x := 199) (len := 3) (j' := 138) (q' := 1) (r := r14) (S' := S15) (L2 := [(0, nk_r l0), (1, nk_i (S9.1 (ja_c l0 15) l2.toNat)), (2, nk_o 41)]) (rest := []) (st' := [nk_i r14]) (pc' := 277) mJ_222 (by decide +kernel) (by decide +kernel) rfl rfl t_l0 (Nat.le_of_ble_eq_true rfl) mJ_138 (Nat.le_of_ble_eq_true rfl) rfl (ja_X13_is_ok zs _ _ _ _ _ t_l0 (ja_tx41 zs) h16) rfl ?_
      refine nk_icond (c := .eq) (off := 36) (len := 3) (t := 313) (pc' := 280) mJ_222 (by decide +kernel) (by decide +kernel) rfl (fun hc => ?_) (fun hc => ?_)
      · have hr := nk_ifp (c := r14 = 0) hc hr
        obtain ⟨v17, h18, hr⟩ := nk_lte hr
        refine nk_p (i := .iinc 2 1) (len := 3) (pc' := 316) mJ_222 (by decide +kernel) (ns_iinc (c := 1) (L' := [(2, nk_i v17), (0, nk_r l0), (1, nk_r l1)]) 2 rfl (by decide +kernel) h18 rfl (by decide +kernel)) rfl ?_
        refine nk_p (i := .goto (-81)) (len := 3) (pc' := 235) mJ_222 (by decide +kernel) (ns_goto (by decide +kernel)) rfl ?_
        refine nk_sub [1, 2, 0] (L' := [(0, nk_r l0), (1, nk_r l1), (2, nk_i v17)]) rfl ?_
        exact hrec235 _ _ _ _ _ t_l0 t_l1 hr
      · have hr := nk_ifn (c := r14 = 0) hc hr
        refine nk_p (i := .aload_n 1) (len := 1) (pc' := 281) mJ_222 (by decide +kernel) (ns_aload_n 1 rfl rfl) rfl ?_
        refine nk_getC (f := (4, 3, 48)) (x := 334) (len := 3) (ci := 12) (k := 14) (pc' := 284) ja_okT mJ_222 (by decide +kernel) (by decide +kernel) (by decide +kernel) (by decide) t_l1 rfl ?_
        have t19 : nk_ar ja_Tt (ja_c l1 14) = some (3, 48) := nk_ta ja_okT t_l1 (by decide +kernel)
        refine nk_p (i := .iload_n 2) (len := 1) (pc' := 285) mJ_222 (by decide +kernel) (ns_iload_n 2 rfl rfl) rfl ?_
        refine nk_bald (t := 3) (len := 1) (N := 48) (pc' := 286) mJ_222 (by decide +kernel) t19 (by decide) h6.1 h6.2 rfl rfl ?_
        refine nk_icond (c := .ne) (off := 27) (len := 3) (t := 313) (pc' := 289) mJ_222 (by decide +kernel) (by decide +kernel) rfl (fun hc => ?_) (fun hc => ?_)
        · have hr := nk_ifn (c := (S15.1 (ja_c l1 14) l2.toNat) = 0) hc hr
          obtain ⟨v20, h21, hr⟩ := nk_lte hr
          refine nk_p (i := .iinc 2 1) (len := 3) (pc' := 316) mJ_222 (by decide +kernel) (ns_iinc (c := 1) (L' := [(2, nk_i v20), (0, nk_r l0), (1, nk_r l1)]) 2 rfl (by decide +kernel) h21 rfl (by decide +kernel)) rfl ?_
          refine nk_p (i := .goto (-81)) (len := 3) (pc' := 235) mJ_222 (by decide +kernel) (ns_goto (by decide +kernel)) rfl ?_
          refine nk_sub [1, 2, 0] (L' := [(0, nk_r l0), (1, nk_r l1), (2, nk_i v20)]) rfl ?_
          exact hrec235 _ _ _ _ _ t_l0 t_l1 hr
        · have hr := nk_ifp (c := (S15.1 (ja_c l1 14) l2.toNat) = 0) (Decidable.of_not_not hc) hr
          refine nk_p (i := .aload_n 1) (len := 1) (pc' := 290) mJ_222 (by decide +kernel) (ns_aload_n 1 rfl rfl) rfl ?_
          refine nk_getC (f := (4, 1, 48)) (x := 348) (len := 3) (ci := 12) (k := 15) (pc' := 293) ja_okT mJ_222 (by decide +kernel) (by decide +kernel) (by decide +kernel) (by decide) t_l1 rfl ?_
          have t22 : nk_ar ja_Tt (ja_c l1 15) = some (1, 48) := nk_ta ja_okT t_l1 (by decide +kernel)
          refine nk_p (i := .iload_n 2) (len := 1) (pc' := 294) mJ_222 (by decide +kernel) (ns_iload_n 2 rfl rfl) rfl ?_
          refine nk_iald (len := 1) (N := 48) (pc' := 295) mJ_222 (by decide +kernel) t22 h6.1 h6.2 rfl rfl ?_
          refine nk_icond (c := .ne) (off := 18) (len := 3) (t := 313) (pc' := 298) mJ_222 (by decide +kernel) (by decide +kernel) rfl (fun hc => ?_) (fun hc => ?_)
          · have hr := nk_ifn (c := (S15.1 (ja_c l1 15) l2.toNat) = 0) hc hr
            obtain ⟨v23, h24, hr⟩ := nk_lte hr
            refine nk_p (i := .iinc 2 1) (len := 3) (pc' := 316) mJ_222 (by decide +kernel) (ns_iinc (c := 1) (L' := [(2, nk_i v23), (0, nk_r l0), (1, nk_r l1)]) 2 rfl (by decide +kernel) h24 rfl (by decide +kernel)) rfl ?_
            refine nk_p (i := .goto (-81)) (len := 3) (pc' := 235) mJ_222 (by decide +kernel) (ns_goto (by decide +kernel)) rfl ?_
            refine nk_sub [1, 2, 0] (L' := [(0, nk_r l0), (1, nk_r l1), (2, nk_i v23)]) rfl ?_
            exact hrec235 _ _ _ _ _ t_l0 t_l1 hr
          · have hr := nk_ifp (c := (S15.1 (ja_c l1 15) l2.toNat) = 0) (Decidable.of_not_not hc) hr
            refine nk_p (i := .aload_n 1) (len := 1) (pc' := 299) mJ_222 (by decide +kernel) (ns_aload_n 1 rfl rfl) rfl ?_
            refine nk_getC (f := (4, 1, 48)) (x := 343) (len := 3) (ci := 12) (k := 17) (pc' := 302) ja_okT mJ_222 (by decide +kernel) (by decide +kernel) (by decide +kernel) (by decide) t_l1 rfl ?_
            have t25 : nk_ar ja_Tt (ja_c l1 17) = some (1, 48) := nk_ta ja_okT t_l1 (by decide +kernel)
            refine nk_p (i := .iload_n 2) (len := 1) (pc' := 303) mJ_222 (by decide +kernel) (ns_iload_n 2 rfl rfl) rfl ?_
            refine nk_iald (len := 1) (N := 48) (pc' := 304) mJ_222 (by decide +kernel) t25 h6.1 h6.2 rfl rfl ?_
            refine nk_p (i := .iconst (-1)) (len := 1) (pc' := 305) mJ_222 (by decide +kernel) (ns_iconst (c := (-1)) (by decide +kernel)) rfl ?_
            refine nk_icmp (c := .ne) (off := 8) (len := 3) (t := 313) (pc' := 308) mJ_222 (by decide +kernel) (by decide +kernel) rfl (fun hc => ?_) (fun hc => ?_)
            · have hr := nk_ifn (c := (S15.1 (ja_c l1 17) l2.toNat) = (-1)) hc hr
              obtain ⟨v26, h27, hr⟩ := nk_lte hr
              refine nk_p (i := .iinc 2 1) (len := 3) (pc' := 316) mJ_222 (by decide +kernel) (ns_iinc (c := 1) (L' := [(2, nk_i v26), (0, nk_r l0), (1, nk_r l1)]) 2 rfl (by decide +kernel) h27 rfl (by decide +kernel)) rfl ?_
              refine nk_p (i := .goto (-81)) (len := 3) (pc' := 235) mJ_222 (by decide +kernel) (ns_goto (by decide +kernel)) rfl ?_
              refine nk_sub [1, 2, 0] (L' := [(0, nk_r l0), (1, nk_r l1), (2, nk_i v26)]) rfl ?_
              exact hrec235 _ _ _ _ _ t_l0 t_l1 hr
            · have hr := nk_ifp (c := (S15.1 (ja_c l1 17) l2.toNat) = (-1)) (Decidable.of_not_not hc) hr
              refine nk_p (i := .aload_n 1) (len := 1) (pc' := 309) mJ_222 (by decide +kernel) (ns_aload_n 1 rfl rfl) rfl ?_
              refine nk_p (i := .iload_n 2) (len := 1) (pc' := 310) mJ_222 (by decide +kernel) (ns_iload_n 2 rfl rfl) rfl ?_
              obtain ⟨S28, h29, hr⟩ := nk_lte hr
              refine nk_putI (y := (0, 0)) (ty := .int) (x := 453) (len := 3) (ci := 12) (k := 6) (pc' := 313) ja_okT mJ_222 (by decide +kernel) (by decide +kernel) (by decide +kernel) t_l1 (Or.inl rfl) rfl h29 ?_
              obtain ⟨v30, h31, hr⟩ := nk_lte hr
              refine nk_p (i := .iinc 2 1) (len := 3) (pc' := 316) mJ_222 (by decide +kernel) (ns_iinc (c := 1) (L' := [(2, nk_i v30), (0, nk_r l0), (1, nk_r l1)]) 2 rfl (by decide +kernel) h31 rfl (by decide +kernel)) rfl ?_
              refine nk_p (i := .goto (-81)) (len := 3) (pc' := 235) mJ_222 (by decide +kernel) (ns_goto (by decide +kernel)) rfl ?_
              refine nk_sub [1, 2, 0] (L' := [(0, nk_r l0), (1, nk_r l1), (2, nk_i v30)]) rfl ?_
              exact hrec235 _ _ _ _ _ t_l0 t_l1 hr
noncomputable def ja_X13_settled_L235 : Nat → Nat → Nat → Int → nk_S → Option (Int × nk_S)
  | 0, _, _, _, _ => none
  | n + 1, l0, l1, l2, S => ja_X13_settled_b235 (ja_X13_settled_L235 n) l0 l1 l2 S
theorem ja_X13_settled_L235_ok (zs : List Int32) : ∀ n : Nat, ∀ (l0 : Nat) (l1 : Nat) (l2 : Int) (S : nk_S) (R : Int × nk_S), nk_cl ja_Tt l0 = some 13 → nk_cl ja_Tt l1 = some 12 → ja_X13_settled_L235 n l0 l1 l2 S = some R → nk_K ja_Tt mi_Γ (mi_ev zs) 1 222 235 [(0, nk_r l0), (1, nk_r l1), (2, nk_i l2)] [] S R := by
  intro n
  induction n with
  | zero => intro _ _ _ _ _ _ _ hr; cases hr
  | succ n ih => intro l0 l1 l2 S R t_l0 t_l1 hr; exact ja_X13_settled_b235_ok zs ih l0 l1 l2 S R t_l0 t_l1 hr
noncomputable def ja_X13_settled_b165 (rec81 : Nat → Nat → Int → nk_S → Option (Int × nk_S)) (rec165 : Nat → Nat → Int → Int → nk_S → Option (Int × nk_S)) (l0 : Nat) (l1 : Nat) (l2 : Int) (l4 : Int) (S : nk_S) : Option (Int × nk_S) :=
  if (S.1 l1 2) ≤ l4 then
    nk_lt (nk_w (l2 + 1)) fun v1 =>
    rec81 l0 l1 v1 S
  else
    if 0 ≤ l4 ∧ l4 < 48 then
    if 0 ≤ (S.1 (ja_c l0 15) l4.toNat) ∧ (S.1 (ja_c l0 15) l4.toNat) < 16002 then
    nk_bd (ja_X13_bodyOf l0 l1 l2 (S.1 (ja_c l0 8) (S.1 (ja_c l0 15) l4.toNat).toNat) (S.1 (ja_c l0 9) (S.1 (ja_c l0 15) l4.toNat).toNat) S) fun r9 S10 =>
    if 0 ≤ (nk_w ((nk_w (l2 * 48)) + l4)) ∧ (nk_w ((nk_w (l2 * 48)) + l4)) < 1536 then
    nk_lt (nk_wi S10 (ja_c l1 21) (nk_w ((nk_w (l2 * 48)) + l4)).toNat r9) fun S13 =>
    nk_lt (nk_w (l4 + 1)) fun v15 =>
    rec165 l0 l1 l2 v15 S13
    else none
    else none
    else none
theorem ja_X13_settled_b165_ok (zs : List Int32) {rec81 : Nat → Nat → Int → nk_S → Option (Int × nk_S)} (hrec81 : ∀ (l0 : Nat) (l1 : Nat) (l2 : Int) (S : nk_S) (R : Int × nk_S), nk_cl ja_Tt l0 = some 13 → nk_cl ja_Tt l1 = some 12 → rec81 l0 l1 l2 S = some R → nk_K ja_Tt mi_Γ (mi_ev zs) 1 222 81 [(0, nk_r l0), (1, nk_r l1), (2, nk_i l2)] [] S R) {rec165 : Nat → Nat → Int → Int → nk_S → Option (Int × nk_S)} (hrec165 : ∀ (l0 : Nat) (l1 : Nat) (l2 : Int) (l4 : Int) (S : nk_S) (R : Int × nk_S), nk_cl ja_Tt l0 = some 13 → nk_cl ja_Tt l1 = some 12 → rec165 l0 l1 l2 l4 S = some R → nk_K ja_Tt mi_Γ (mi_ev zs) 1 222 165 [(0, nk_r l0), (1, nk_r l1), (2, nk_i l2), (4, nk_i l4)] [] S R) : ∀ (l0 : Nat) (l1 : Nat) (l2 : Int) (l4 : Int) (S : nk_S) (R : Int × nk_S), nk_cl ja_Tt l0 = some 13 → nk_cl ja_Tt l1 = some 12 → ja_X13_settled_b165 rec81 rec165 l0 l1 l2 l4 S = some R → nk_K ja_Tt mi_Γ (mi_ev zs) 1 222 165 [(0, nk_r l0), (1, nk_r l1), (2, nk_i l2), (4, nk_i l4)] [] S R := by
  intro l0 l1 l2 l4 S R t_l0 t_l1 hr
  unfold ja_X13_settled_b165 at hr
  refine nk_p (i := .iload 4) (len := 2) (pc' := 167) mJ_222 (by decide +kernel) (ns_iload 3 rfl) rfl ?_
  refine nk_p (i := .aload_n 1) (len := 1) (pc' := 168) mJ_222 (by decide +kernel) (ns_aload_n 1 rfl rfl) rfl ?_
  refine nk_getI (y := (0, 0)) (x := 303) (len := 3) (ci := 12) (k := 2) (pc' := 171) ja_okT mJ_222 (by decide +kernel) (by decide +kernel) (by decide +kernel) t_l1 rfl ?_
  refine nk_icmp (c := .ge) (off := 51) (len := 3) (t := 222) (pc' := 174) mJ_222 (by decide +kernel) (by decide +kernel) rfl (fun hc => ?_) (fun hc => ?_)
  · have hr := nk_ifp (c := (S.1 l1 2) ≤ l4) hc hr
    obtain ⟨v1, h2, hr⟩ := nk_lte hr
    refine nk_p (i := .iinc 2 1) (len := 3) (pc' := 225) mJ_222 (by decide +kernel) (ns_iinc (c := 1) (L' := [(2, nk_i v1), (0, nk_r l0), (1, nk_r l1), (4, nk_i l4)]) 2 rfl (by decide +kernel) h2 rfl (by decide +kernel)) rfl ?_
    refine nk_p (i := .goto (-144)) (len := 3) (pc' := 81) mJ_222 (by decide +kernel) (ns_goto (by decide +kernel)) rfl ?_
    refine nk_sub [1, 2, 0] (L' := [(0, nk_r l0), (1, nk_r l1), (2, nk_i v1)]) rfl ?_
    exact hrec81 _ _ _ _ _ t_l0 t_l1 hr
  · have hr := nk_ifn (c := (S.1 l1 2) ≤ l4) hc hr
    refine nk_p (i := .aload_n 1) (len := 1) (pc' := 175) mJ_222 (by decide +kernel) (ns_aload_n 1 rfl rfl) rfl ?_
    refine nk_getC (f := (4, 1, 1536)) (x := 450) (len := 3) (ci := 12) (k := 21) (pc' := 178) ja_okT mJ_222 (by decide +kernel) (by decide +kernel) (by decide +kernel) (by decide) t_l1 rfl ?_
    have t3 : nk_ar ja_Tt (ja_c l1 21) = some (1, 1536) := nk_ta ja_okT t_l1 (by decide +kernel)
    refine nk_p (i := .iload_n 2) (len := 1) (pc' := 179) mJ_222 (by decide +kernel) (ns_iload_n 2 rfl rfl) rfl ?_
    refine nk_p (i := .bipush 48) (len := 2) (pc' := 181) mJ_222 (by decide +kernel) (ns_bipush (c := 48) (by decide +kernel)) rfl ?_
    refine nk_p (i := .imul) (len := 1) (pc' := 182) mJ_222 (by decide +kernel) ns_imul rfl ?_
    refine nk_p (i := .iload 4) (len := 2) (pc' := 184) mJ_222 (by decide +kernel) (ns_iload 3 rfl) rfl ?_
    refine nk_p (i := .iadd) (len := 1) (pc' := 185) mJ_222 (by decide +kernel) ns_iadd rfl ?_
    refine nk_p (i := .aload_n 0) (len := 1) (pc' := 186) mJ_222 (by decide +kernel) (ns_aload_n 0 rfl rfl) rfl ?_
    refine nk_p (i := .aload_n 1) (len := 1) (pc' := 187) mJ_222 (by decide +kernel) (ns_aload_n 1 rfl rfl) rfl ?_
    refine nk_p (i := .iload_n 2) (len := 1) (pc' := 188) mJ_222 (by decide +kernel) (ns_iload_n 2 rfl rfl) rfl ?_
    refine nk_p (i := .aload_n 0) (len := 1) (pc' := 189) mJ_222 (by decide +kernel) (ns_aload_n 0 rfl rfl) rfl ?_
    refine nk_getC (f := (4, 1, 16002)) (x := 26) (len := 3) (ci := 13) (k := 8) (pc' := 192) ja_okT mJ_222 (by decide +kernel) (by decide +kernel) (by decide +kernel) (by decide) t_l0 rfl ?_
    have t4 : nk_ar ja_Tt (ja_c l0 8) = some (1, 16002) := nk_ta ja_okT t_l0 (by decide +kernel)
    refine nk_p (i := .aload_n 0) (len := 1) (pc' := 193) mJ_222 (by decide +kernel) (ns_aload_n 0 rfl rfl) rfl ?_
    refine nk_getC (f := (4, 1, 48)) (x := 43) (len := 3) (ci := 13) (k := 15) (pc' := 196) ja_okT mJ_222 (by decide +kernel) (by decide +kernel) (by decide +kernel) (by decide) t_l0 rfl ?_
    have t5 : nk_ar ja_Tt (ja_c l0 15) = some (1, 48) := nk_ta ja_okT t_l0 (by decide +kernel)
    refine nk_p (i := .iload 4) (len := 2) (pc' := 198) mJ_222 (by decide +kernel) (ns_iload 3 rfl) rfl ?_
    obtain ⟨h6, hr⟩ := nk_cke hr
    refine nk_iald (len := 1) (N := 48) (pc' := 199) mJ_222 (by decide +kernel) t5 h6.1 h6.2 rfl rfl ?_
    obtain ⟨h7, hr⟩ := nk_cke hr
    refine nk_iald (len := 1) (N := 16002) (pc' := 200) mJ_222 (by decide +kernel) t4 h7.1 h7.2 rfl rfl ?_
    refine nk_p (i := .aload_n 0) (len := 1) (pc' := 201) mJ_222 (by decide +kernel) (ns_aload_n 0 rfl rfl) rfl ?_
    refine nk_getC (f := (4, 1, 16002)) (x := 30) (len := 3) (ci := 13) (k := 9) (pc' := 204) ja_okT mJ_222 (by decide +kernel) (by decide +kernel) (by decide +kernel) (by decide) t_l0 rfl ?_
    have t8 : nk_ar ja_Tt (ja_c l0 9) = some (1, 16002) := nk_ta ja_okT t_l0 (by decide +kernel)
    refine nk_p (i := .aload_n 0) (len := 1) (pc' := 205) mJ_222 (by decide +kernel) (ns_aload_n 0 rfl rfl) rfl ?_
    refine nk_getC (f := (4, 1, 48)) (x := 43) (len := 3) (ci := 13) (k := 15) (pc' := 208) ja_okT mJ_222 (by decide +kernel) (by decide +kernel) (by decide +kernel) (by decide) t_l0 rfl ?_
    refine nk_p (i := .iload 4) (len := 2) (pc' := 210) mJ_222 (by decide +kernel) (ns_iload 3 rfl) rfl ?_
    refine nk_iald (len := 1) (N := 48) (pc' := 211) mJ_222 (by decide +kernel) t5 h6.1 h6.2 rfl rfl ?_
    refine nk_iald (len := 1) (N := 16002) (pc' := 212) mJ_222 (by decide +kernel) t8 h7.1 h7.2 rfl rfl ?_
    obtain ⟨r9, S10, h11, hr⟩ := nk_bde hr
    refine nk_callV (ci := 13) (n := 4) (x := 331) (len := 3) (j' := 90) (q' := 1) (r := r9) (S' := S10) (L2 := [(0, nk_r l0), (1, nk_r l1), (2, nk_i l2), (3, nk_i (S.1 (ja_c l0 8) (S.1 (ja_c l0 15) l4.toNat).toNat)), (4, nk_i (S.1 (ja_c l0 9) (S.1 (ja_c l0 15) l4.toNat).toNat))]) (rest := [nk_i (nk_w ((nk_w (l2 * 48)) + l4)), nk_r (ja_c l1 21)]) (st' := [nk_i r9, nk_i (nk_w ((nk_w (l2 * 48)) + l4)), nk_r (ja_c l1 21)]) (pc' := 215) mJ_222 (by decide +kernel) (by decide +kernel) rfl rfl t_l0 (Nat.le_of_ble_eq_true rfl) mJ_90 (Nat.le_of_ble_eq_true rfl) rfl (ja_X13_bodyOf_ok zs _ _ _ _ _ _ _ t_l0 t_l1 h11) rfl ?_
    obtain ⟨h12, hr⟩ := nk_cke hr
    obtain ⟨S13, h14, hr⟩ := nk_lte hr
    refine nk_iast (len := 1) (N := 1536) (pc' := 216) mJ_222 (by decide +kernel) t3 h12.1 h12.2 rfl rfl h14 ?_
    obtain ⟨v15, h16, hr⟩ := nk_lte hr
    refine nk_p (i := .iinc 4 1) (len := 3) (pc' := 219) mJ_222 (by decide +kernel) (ns_iinc (c := 1) (L' := [(4, nk_i v15), (0, nk_r l0), (1, nk_r l1), (2, nk_i l2)]) 3 rfl (by decide +kernel) h16 rfl (by decide +kernel)) rfl ?_
    refine nk_p (i := .goto (-54)) (len := 3) (pc' := 165) mJ_222 (by decide +kernel) (ns_goto (by decide +kernel)) rfl ?_
    refine nk_sub [1, 2, 3, 0] (L' := [(0, nk_r l0), (1, nk_r l1), (2, nk_i l2), (4, nk_i v15)]) rfl ?_
    exact hrec165 _ _ _ _ _ _ t_l0 t_l1 hr
noncomputable def ja_X13_settled_L165 (rec81 : Nat → Nat → Int → nk_S → Option (Int × nk_S)) : Nat → Nat → Nat → Int → Int → nk_S → Option (Int × nk_S)
  | 0, _, _, _, _, _ => none
  | n + 1, l0, l1, l2, l4, S => ja_X13_settled_b165 rec81 (ja_X13_settled_L165 rec81 n) l0 l1 l2 l4 S
theorem ja_X13_settled_L165_ok (zs : List Int32) {rec81 : Nat → Nat → Int → nk_S → Option (Int × nk_S)} (hrec81 : ∀ (l0 : Nat) (l1 : Nat) (l2 : Int) (S : nk_S) (R : Int × nk_S), nk_cl ja_Tt l0 = some 13 → nk_cl ja_Tt l1 = some 12 → rec81 l0 l1 l2 S = some R → nk_K ja_Tt mi_Γ (mi_ev zs) 1 222 81 [(0, nk_r l0), (1, nk_r l1), (2, nk_i l2)] [] S R) : ∀ n : Nat, ∀ (l0 : Nat) (l1 : Nat) (l2 : Int) (l4 : Int) (S : nk_S) (R : Int × nk_S), nk_cl ja_Tt l0 = some 13 → nk_cl ja_Tt l1 = some 12 → ja_X13_settled_L165 rec81 n l0 l1 l2 l4 S = some R → nk_K ja_Tt mi_Γ (mi_ev zs) 1 222 165 [(0, nk_r l0), (1, nk_r l1), (2, nk_i l2), (4, nk_i l4)] [] S R := by
  intro n
  induction n with
  | zero => intro _ _ _ _ _ _ _ _ hr; cases hr
  | succ n ih => intro l0 l1 l2 l4 S R t_l0 t_l1 hr; exact ja_X13_settled_b165_ok zs hrec81 ih l0 l1 l2 l4 S R t_l0 t_l1 hr
noncomputable def ja_X13_settled_b118 (rec81 : Nat → Nat → Int → nk_S → Option (Int × nk_S)) (rec118 : Nat → Nat → Int → Int → Int → nk_S → Option (Int × nk_S)) (l0 : Nat) (l1 : Nat) (l2 : Int) (l3 : Int) (l4 : Int) (S : nk_S) : Option (Int × nk_S) :=
  if (S.1 l1 1) ≤ l4 then
    if 0 ≤ l2 ∧ l2 < 32 then
    nk_lt (nk_wi S (ja_c l1 9) l2.toNat l3) fun S3 =>
    ja_X13_settled_L165 rec81 nk_big l0 l1 l2 0 S3
    else none
  else
    if 0 ≤ l4 ∧ l4 < 48 then
    if (S.1 (ja_c l1 10) l4.toNat) = l2 then
      nk_lt (nk_wi S (ja_c l1 12) l4.toNat l3) fun S10 =>
      nk_lt (nk_w (l3 + 1)) fun v12 =>
      nk_lt (nk_w (l4 + 1)) fun v14 =>
      rec118 l0 l1 l2 v12 v14 S10
    else
      nk_lt (nk_w (l4 + 1)) fun v7 =>
      rec118 l0 l1 l2 l3 v7 S
    else none
theorem ja_X13_settled_b118_ok (zs : List Int32) {rec81 : Nat → Nat → Int → nk_S → Option (Int × nk_S)} (hrec81 : ∀ (l0 : Nat) (l1 : Nat) (l2 : Int) (S : nk_S) (R : Int × nk_S), nk_cl ja_Tt l0 = some 13 → nk_cl ja_Tt l1 = some 12 → rec81 l0 l1 l2 S = some R → nk_K ja_Tt mi_Γ (mi_ev zs) 1 222 81 [(0, nk_r l0), (1, nk_r l1), (2, nk_i l2)] [] S R) {rec118 : Nat → Nat → Int → Int → Int → nk_S → Option (Int × nk_S)} (hrec118 : ∀ (l0 : Nat) (l1 : Nat) (l2 : Int) (l3 : Int) (l4 : Int) (S : nk_S) (R : Int × nk_S), nk_cl ja_Tt l0 = some 13 → nk_cl ja_Tt l1 = some 12 → rec118 l0 l1 l2 l3 l4 S = some R → nk_K ja_Tt mi_Γ (mi_ev zs) 1 222 118 [(0, nk_r l0), (1, nk_r l1), (2, nk_i l2), (3, nk_i l3), (4, nk_i l4)] [] S R) : ∀ (l0 : Nat) (l1 : Nat) (l2 : Int) (l3 : Int) (l4 : Int) (S : nk_S) (R : Int × nk_S), nk_cl ja_Tt l0 = some 13 → nk_cl ja_Tt l1 = some 12 → ja_X13_settled_b118 rec81 rec118 l0 l1 l2 l3 l4 S = some R → nk_K ja_Tt mi_Γ (mi_ev zs) 1 222 118 [(0, nk_r l0), (1, nk_r l1), (2, nk_i l2), (3, nk_i l3), (4, nk_i l4)] [] S R := by
  intro l0 l1 l2 l3 l4 S R t_l0 t_l1 hr
  unfold ja_X13_settled_b118 at hr
  refine nk_p (i := .iload 4) (len := 2) (pc' := 120) mJ_222 (by decide +kernel) (ns_iload 4 rfl) rfl ?_
  refine nk_p (i := .aload_n 1) (len := 1) (pc' := 121) mJ_222 (by decide +kernel) (ns_aload_n 1 rfl rfl) rfl ?_
  refine nk_getI (y := (0, 0)) (x := 293) (len := 3) (ci := 12) (k := 1) (pc' := 124) ja_okT mJ_222 (by decide +kernel) (by decide +kernel) (by decide +kernel) t_l1 rfl ?_
  refine nk_icmp (c := .ge) (off := 31) (len := 3) (t := 155) (pc' := 127) mJ_222 (by decide +kernel) (by decide +kernel) rfl (fun hc => ?_) (fun hc => ?_)
  · have hr := nk_ifp (c := (S.1 l1 1) ≤ l4) hc hr
    refine nk_p (i := .aload_n 1) (len := 1) (pc' := 156) mJ_222 (by decide +kernel) (ns_aload_n 1 rfl rfl) rfl ?_
    refine nk_getC (f := (4, 1, 32)) (x := 444) (len := 3) (ci := 12) (k := 9) (pc' := 159) ja_okT mJ_222 (by decide +kernel) (by decide +kernel) (by decide +kernel) (by decide) t_l1 rfl ?_
    have t1 : nk_ar ja_Tt (ja_c l1 9) = some (1, 32) := nk_ta ja_okT t_l1 (by decide +kernel)
    refine nk_p (i := .iload_n 2) (len := 1) (pc' := 160) mJ_222 (by decide +kernel) (ns_iload_n 2 rfl rfl) rfl ?_
    refine nk_p (i := .iload_n 3) (len := 1) (pc' := 161) mJ_222 (by decide +kernel) (ns_iload_n 3 rfl rfl) rfl ?_
    obtain ⟨h2, hr⟩ := nk_cke hr
    obtain ⟨S3, h4, hr⟩ := nk_lte hr
    refine nk_iast (len := 1) (N := 32) (pc' := 162) mJ_222 (by decide +kernel) t1 h2.1 h2.2 rfl rfl h4 ?_
    refine nk_p (i := .iconst 0) (len := 1) (pc' := 163) mJ_222 (by decide +kernel) (ns_iconst (c := 0) (by decide +kernel)) rfl ?_
    refine nk_p (i := .istore 4) (len := 2) (pc' := 165) mJ_222 (by decide +kernel) (ns_istore (L' := [(4, nk_i 0), (0, nk_r l0), (1, nk_r l1), (2, nk_i l2), (3, nk_i l3)]) rfl rfl (by decide +kernel)) rfl ?_
    refine nk_sub [1, 2, 3, 0] (L' := [(0, nk_r l0), (1, nk_r l1), (2, nk_i l2), (4, nk_i 0)]) rfl ?_
    exact ja_X13_settled_L165_ok zs hrec81 nk_big _ _ _ _ _ _ t_l0 t_l1 hr
  · have hr := nk_ifn (c := (S.1 l1 1) ≤ l4) hc hr
    refine nk_p (i := .aload_n 1) (len := 1) (pc' := 128) mJ_222 (by decide +kernel) (ns_aload_n 1 rfl rfl) rfl ?_
    refine nk_getC (f := (4, 1, 48)) (x := 296) (len := 3) (ci := 12) (k := 10) (pc' := 131) ja_okT mJ_222 (by decide +kernel) (by decide +kernel) (by decide +kernel) (by decide) t_l1 rfl ?_
    have t5 : nk_ar ja_Tt (ja_c l1 10) = some (1, 48) := nk_ta ja_okT t_l1 (by decide +kernel)
    refine nk_p (i := .iload 4) (len := 2) (pc' := 133) mJ_222 (by decide +kernel) (ns_iload 4 rfl) rfl ?_
    obtain ⟨h6, hr⟩ := nk_cke hr
    refine nk_iald (len := 1) (N := 48) (pc' := 134) mJ_222 (by decide +kernel) t5 h6.1 h6.2 rfl rfl ?_
    refine nk_p (i := .iload_n 2) (len := 1) (pc' := 135) mJ_222 (by decide +kernel) (ns_iload_n 2 rfl rfl) rfl ?_
    refine nk_icmp (c := .ne) (off := 14) (len := 3) (t := 149) (pc' := 138) mJ_222 (by decide +kernel) (by decide +kernel) rfl (fun hc => ?_) (fun hc => ?_)
    · have hr := nk_ifn (c := (S.1 (ja_c l1 10) l4.toNat) = l2) hc hr
      obtain ⟨v7, h8, hr⟩ := nk_lte hr
      refine nk_p (i := .iinc 4 1) (len := 3) (pc' := 152) mJ_222 (by decide +kernel) (ns_iinc (c := 1) (L' := [(4, nk_i v7), (0, nk_r l0), (1, nk_r l1), (2, nk_i l2), (3, nk_i l3)]) 4 rfl (by decide +kernel) h8 rfl (by decide +kernel)) rfl ?_
      refine nk_p (i := .goto (-34)) (len := 3) (pc' := 118) mJ_222 (by decide +kernel) (ns_goto (by decide +kernel)) rfl ?_
      refine nk_sub [1, 2, 3, 4, 0] (L' := [(0, nk_r l0), (1, nk_r l1), (2, nk_i l2), (3, nk_i l3), (4, nk_i v7)]) rfl ?_
      exact hrec118 _ _ _ _ _ _ _ t_l0 t_l1 hr
    · have hr := nk_ifp (c := (S.1 (ja_c l1 10) l4.toNat) = l2) (Decidable.of_not_not hc) hr
      refine nk_p (i := .aload_n 1) (len := 1) (pc' := 139) mJ_222 (by decide +kernel) (ns_aload_n 1 rfl rfl) rfl ?_
      refine nk_getC (f := (4, 1, 48)) (x := 447) (len := 3) (ci := 12) (k := 12) (pc' := 142) ja_okT mJ_222 (by decide +kernel) (by decide +kernel) (by decide +kernel) (by decide) t_l1 rfl ?_
      have t9 : nk_ar ja_Tt (ja_c l1 12) = some (1, 48) := nk_ta ja_okT t_l1 (by decide +kernel)
      refine nk_p (i := .iload 4) (len := 2) (pc' := 144) mJ_222 (by decide +kernel) (ns_iload 4 rfl) rfl ?_
      refine nk_p (i := .iload_n 3) (len := 1) (pc' := 145) mJ_222 (by decide +kernel) (ns_iload_n 3 rfl rfl) rfl ?_
      obtain ⟨S10, h11, hr⟩ := nk_lte hr
      refine nk_iast (len := 1) (N := 48) (pc' := 146) mJ_222 (by decide +kernel) t9 h6.1 h6.2 rfl rfl h11 ?_
      obtain ⟨v12, h13, hr⟩ := nk_lte hr
      refine nk_p (i := .iinc 3 1) (len := 3) (pc' := 149) mJ_222 (by decide +kernel) (ns_iinc (c := 1) (L' := [(3, nk_i v12), (0, nk_r l0), (1, nk_r l1), (2, nk_i l2), (4, nk_i l4)]) 3 rfl (by decide +kernel) h13 rfl (by decide +kernel)) rfl ?_
      obtain ⟨v14, h15, hr⟩ := nk_lte hr
      refine nk_p (i := .iinc 4 1) (len := 3) (pc' := 152) mJ_222 (by decide +kernel) (ns_iinc (c := 1) (L' := [(4, nk_i v14), (3, nk_i v12), (0, nk_r l0), (1, nk_r l1), (2, nk_i l2)]) 4 rfl (by decide +kernel) h15 rfl (by decide +kernel)) rfl ?_
      refine nk_p (i := .goto (-34)) (len := 3) (pc' := 118) mJ_222 (by decide +kernel) (ns_goto (by decide +kernel)) rfl ?_
      refine nk_sub [2, 3, 4, 1, 0] (L' := [(0, nk_r l0), (1, nk_r l1), (2, nk_i l2), (3, nk_i v12), (4, nk_i v14)]) rfl ?_
      exact hrec118 _ _ _ _ _ _ _ t_l0 t_l1 hr
noncomputable def ja_X13_settled_L118 (rec81 : Nat → Nat → Int → nk_S → Option (Int × nk_S)) : Nat → Nat → Nat → Int → Int → Int → nk_S → Option (Int × nk_S)
  | 0, _, _, _, _, _, _ => none
  | n + 1, l0, l1, l2, l3, l4, S => ja_X13_settled_b118 rec81 (ja_X13_settled_L118 rec81 n) l0 l1 l2 l3 l4 S
theorem ja_X13_settled_L118_ok (zs : List Int32) {rec81 : Nat → Nat → Int → nk_S → Option (Int × nk_S)} (hrec81 : ∀ (l0 : Nat) (l1 : Nat) (l2 : Int) (S : nk_S) (R : Int × nk_S), nk_cl ja_Tt l0 = some 13 → nk_cl ja_Tt l1 = some 12 → rec81 l0 l1 l2 S = some R → nk_K ja_Tt mi_Γ (mi_ev zs) 1 222 81 [(0, nk_r l0), (1, nk_r l1), (2, nk_i l2)] [] S R) : ∀ n : Nat, ∀ (l0 : Nat) (l1 : Nat) (l2 : Int) (l3 : Int) (l4 : Int) (S : nk_S) (R : Int × nk_S), nk_cl ja_Tt l0 = some 13 → nk_cl ja_Tt l1 = some 12 → ja_X13_settled_L118 rec81 n l0 l1 l2 l3 l4 S = some R → nk_K ja_Tt mi_Γ (mi_ev zs) 1 222 118 [(0, nk_r l0), (1, nk_r l1), (2, nk_i l2), (3, nk_i l3), (4, nk_i l4)] [] S R := by
  intro n
  induction n with
  | zero => intro _ _ _ _ _ _ _ _ _ hr; cases hr
  | succ n ih => intro l0 l1 l2 l3 l4 S R t_l0 t_l1 hr; exact ja_X13_settled_b118_ok zs hrec81 ih l0 l1 l2 l3 l4 S R t_l0 t_l1 hr
noncomputable def ja_X13_settled_b81 (rec81 : Nat → Nat → Int → nk_S → Option (Int × nk_S)) (l0 : Nat) (l1 : Nat) (l2 : Int) (S : nk_S) : Option (Int × nk_S) :=
  nk_bd (ja_X13_classCount l0 l1 S) fun r1 S2 =>
  if r1 ≤ l2 then
    nk_lt (nk_wi S2 l1 6 (-1)) fun S4 =>
    ja_X13_settled_L235 nk_big l0 l1 0 S4
  else
    if 0 ≤ l2 ∧ l2 < 32 then
    if 0 ≤ (S2.1 (ja_c l1 8) l2.toNat) then
      if 0 ≤ (S2.1 (ja_c l1 8) l2.toNat) ∧ (S2.1 (ja_c l1 8) l2.toNat) < 32 then
      nk_lt (S2.1 (ja_c l1 9) (S2.1 (ja_c l1 8) l2.toNat).toNat) fun v10 =>
      ja_X13_settled_L118 rec81 nk_big l0 l1 l2 v10 0 S2
      else none
    else
      ja_X13_settled_L118 rec81 nk_big l0 l1 l2 0 0 S2
    else none
theorem ja_X13_settled_b81_ok (zs : List Int32) {rec81 : Nat → Nat → Int → nk_S → Option (Int × nk_S)} (hrec81 : ∀ (l0 : Nat) (l1 : Nat) (l2 : Int) (S : nk_S) (R : Int × nk_S), nk_cl ja_Tt l0 = some 13 → nk_cl ja_Tt l1 = some 12 → rec81 l0 l1 l2 S = some R → nk_K ja_Tt mi_Γ (mi_ev zs) 1 222 81 [(0, nk_r l0), (1, nk_r l1), (2, nk_i l2)] [] S R) : ∀ (l0 : Nat) (l1 : Nat) (l2 : Int) (S : nk_S) (R : Int × nk_S), nk_cl ja_Tt l0 = some 13 → nk_cl ja_Tt l1 = some 12 → ja_X13_settled_b81 rec81 l0 l1 l2 S = some R → nk_K ja_Tt mi_Γ (mi_ev zs) 1 222 81 [(0, nk_r l0), (1, nk_r l1), (2, nk_i l2)] [] S R := by
  intro l0 l1 l2 S R t_l0 t_l1 hr
  unfold ja_X13_settled_b81 at hr
  refine nk_p (i := .iload_n 2) (len := 1) (pc' := 82) mJ_222 (by decide +kernel) (ns_iload_n 2 rfl rfl) rfl ?_
  refine nk_p (i := .aload_n 0) (len := 1) (pc' := 83) mJ_222 (by decide +kernel) (ns_aload_n 0 rfl rfl) rfl ?_
  refine nk_p (i := .aload_n 1) (len := 1) (pc' := 84) mJ_222 (by decide +kernel) (ns_aload_n 1 rfl rfl) rfl ?_
  obtain ⟨r1, S2, h3, hr⟩ := nk_bde hr
  refine nk_callV (ci := 13) (n := 1) (x := 272) (len := 3) (j' := 97) (q' := 1) (r := r1) (S' := S2) (L2 := [(0, nk_r l0), (1, nk_r l1)]) (rest := [nk_i l2]) (st' := [nk_i r1, nk_i l2]) (pc' := 87) mJ_222 (by decide +kernel) (by decide +kernel) rfl rfl t_l0 (Nat.le_of_ble_eq_true rfl) mJ_97 (Nat.le_of_ble_eq_true rfl) rfl (ja_X13_classCount_ok zs _ _ _ _ t_l0 t_l1 h3) rfl ?_
  refine nk_icmp (c := .ge) (off := 141) (len := 3) (t := 228) (pc' := 90) mJ_222 (by decide +kernel) (by decide +kernel) rfl (fun hc => ?_) (fun hc => ?_)
  · have hr := nk_ifp (c := r1 ≤ l2) hc hr
    refine nk_p (i := .aload_n 1) (len := 1) (pc' := 229) mJ_222 (by decide +kernel) (ns_aload_n 1 rfl rfl) rfl ?_
    refine nk_p (i := .iconst (-1)) (len := 1) (pc' := 230) mJ_222 (by decide +kernel) (ns_iconst (c := (-1)) (by decide +kernel)) rfl ?_
    obtain ⟨S4, h5, hr⟩ := nk_lte hr
    refine nk_putI (y := (0, 0)) (ty := .int) (x := 453) (len := 3) (ci := 12) (k := 6) (pc' := 233) ja_okT mJ_222 (by decide +kernel) (by decide +kernel) (by decide +kernel) t_l1 (Or.inl rfl) rfl h5 ?_
    refine nk_p (i := .iconst 0) (len := 1) (pc' := 234) mJ_222 (by decide +kernel) (ns_iconst (c := 0) (by decide +kernel)) rfl ?_
    refine nk_p (i := .istore_n 2) (len := 1) (pc' := 235) mJ_222 (by decide +kernel) (ns_istore_n (L' := [(2, nk_i 0), (0, nk_r l0), (1, nk_r l1)]) rfl rfl rfl (by decide +kernel)) rfl ?_
    refine nk_sub [1, 2, 0] (L' := [(0, nk_r l0), (1, nk_r l1), (2, nk_i 0)]) rfl ?_
    exact ja_X13_settled_L235_ok zs nk_big _ _ _ _ _ t_l0 t_l1 hr
  · have hr := nk_ifn (c := r1 ≤ l2) hc hr
    refine nk_p (i := .aload_n 1) (len := 1) (pc' := 91) mJ_222 (by decide +kernel) (ns_aload_n 1 rfl rfl) rfl ?_
    refine nk_getC (f := (4, 1, 32)) (x := 280) (len := 3) (ci := 12) (k := 8) (pc' := 94) ja_okT mJ_222 (by decide +kernel) (by decide +kernel) (by decide +kernel) (by decide) t_l1 rfl ?_
    have t6 : nk_ar ja_Tt (ja_c l1 8) = some (1, 32) := nk_ta ja_okT t_l1 (by decide +kernel)
    refine nk_p (i := .iload_n 2) (len := 1) (pc' := 95) mJ_222 (by decide +kernel) (ns_iload_n 2 rfl rfl) rfl ?_
    obtain ⟨h7, hr⟩ := nk_cke hr
    refine nk_iald (len := 1) (N := 32) (pc' := 96) mJ_222 (by decide +kernel) t6 h7.1 h7.2 rfl rfl ?_
    refine nk_icond (c := .ge) (off := 7) (len := 3) (t := 103) (pc' := 99) mJ_222 (by decide +kernel) (by decide +kernel) rfl (fun hc => ?_) (fun hc => ?_)
    · have hr := nk_ifp (c := 0 ≤ (S2.1 (ja_c l1 8) l2.toNat)) hc hr
      refine nk_p (i := .aload_n 1) (len := 1) (pc' := 104) mJ_222 (by decide +kernel) (ns_aload_n 1 rfl rfl) rfl ?_
      refine nk_getC (f := (4, 1, 32)) (x := 444) (len := 3) (ci := 12) (k := 9) (pc' := 107) ja_okT mJ_222 (by decide +kernel) (by decide +kernel) (by decide +kernel) (by decide) t_l1 rfl ?_
      have t8 : nk_ar ja_Tt (ja_c l1 9) = some (1, 32) := nk_ta ja_okT t_l1 (by decide +kernel)
      refine nk_p (i := .aload_n 1) (len := 1) (pc' := 108) mJ_222 (by decide +kernel) (ns_aload_n 1 rfl rfl) rfl ?_
      refine nk_getC (f := (4, 1, 32)) (x := 280) (len := 3) (ci := 12) (k := 8) (pc' := 111) ja_okT mJ_222 (by decide +kernel) (by decide +kernel) (by decide +kernel) (by decide) t_l1 rfl ?_
      refine nk_p (i := .iload_n 2) (len := 1) (pc' := 112) mJ_222 (by decide +kernel) (ns_iload_n 2 rfl rfl) rfl ?_
      refine nk_iald (len := 1) (N := 32) (pc' := 113) mJ_222 (by decide +kernel) t6 h7.1 h7.2 rfl rfl ?_
      obtain ⟨h9, hr⟩ := nk_cke hr
      refine nk_iald (len := 1) (N := 32) (pc' := 114) mJ_222 (by decide +kernel) t8 h9.1 h9.2 rfl rfl ?_
      obtain ⟨v10, h11, hr⟩ := nk_lte hr
      refine nk_p (i := .istore_n 3) (len := 1) (pc' := 115) mJ_222 (by decide +kernel) (ns_istore_n (L' := [(3, nk_i v10), (0, nk_r l0), (1, nk_r l1), (2, nk_i l2)]) h11 rfl rfl (by decide +kernel)) rfl ?_
      refine nk_p (i := .iconst 0) (len := 1) (pc' := 116) mJ_222 (by decide +kernel) (ns_iconst (c := 0) (by decide +kernel)) rfl ?_
      refine nk_p (i := .istore 4) (len := 2) (pc' := 118) mJ_222 (by decide +kernel) (ns_istore (L' := [(4, nk_i 0), (3, nk_i v10), (0, nk_r l0), (1, nk_r l1), (2, nk_i l2)]) rfl rfl (by decide +kernel)) rfl ?_
      refine nk_sub [2, 3, 4, 1, 0] (L' := [(0, nk_r l0), (1, nk_r l1), (2, nk_i l2), (3, nk_i v10), (4, nk_i 0)]) rfl ?_
      exact ja_X13_settled_L118_ok zs hrec81 nk_big _ _ _ _ _ _ _ t_l0 t_l1 hr
    · have hr := nk_ifn (c := 0 ≤ (S2.1 (ja_c l1 8) l2.toNat)) hc hr
      refine nk_p (i := .iconst 0) (len := 1) (pc' := 100) mJ_222 (by decide +kernel) (ns_iconst (c := 0) (by decide +kernel)) rfl ?_
      refine nk_p (i := .goto 14) (len := 3) (pc' := 114) mJ_222 (by decide +kernel) (ns_goto (by decide +kernel)) rfl ?_
      refine nk_p (i := .istore_n 3) (len := 1) (pc' := 115) mJ_222 (by decide +kernel) (ns_istore_n (L' := [(3, nk_i 0), (0, nk_r l0), (1, nk_r l1), (2, nk_i l2)]) rfl rfl rfl (by decide +kernel)) rfl ?_
      refine nk_p (i := .iconst 0) (len := 1) (pc' := 116) mJ_222 (by decide +kernel) (ns_iconst (c := 0) (by decide +kernel)) rfl ?_
      refine nk_p (i := .istore 4) (len := 2) (pc' := 118) mJ_222 (by decide +kernel) (ns_istore (L' := [(4, nk_i 0), (3, nk_i 0), (0, nk_r l0), (1, nk_r l1), (2, nk_i l2)]) rfl rfl (by decide +kernel)) rfl ?_
      refine nk_sub [2, 3, 4, 1, 0] (L' := [(0, nk_r l0), (1, nk_r l1), (2, nk_i l2), (3, nk_i 0), (4, nk_i 0)]) rfl ?_
      exact ja_X13_settled_L118_ok zs hrec81 nk_big _ _ _ _ _ _ _ t_l0 t_l1 hr
noncomputable def ja_X13_settled_L81 : Nat → Nat → Nat → Int → nk_S → Option (Int × nk_S)
  | 0, _, _, _, _ => none
  | n + 1, l0, l1, l2, S => ja_X13_settled_b81 (ja_X13_settled_L81 n) l0 l1 l2 S
theorem ja_X13_settled_L81_ok (zs : List Int32) : ∀ n : Nat, ∀ (l0 : Nat) (l1 : Nat) (l2 : Int) (S : nk_S) (R : Int × nk_S), nk_cl ja_Tt l0 = some 13 → nk_cl ja_Tt l1 = some 12 → ja_X13_settled_L81 n l0 l1 l2 S = some R → nk_K ja_Tt mi_Γ (mi_ev zs) 1 222 81 [(0, nk_r l0), (1, nk_r l1), (2, nk_i l2)] [] S R := by
  intro n
  induction n with
  | zero => intro _ _ _ _ _ _ _ hr; cases hr
  | succ n ih => intro l0 l1 l2 S R t_l0 t_l1 hr; exact ja_X13_settled_b81_ok zs ih l0 l1 l2 S R t_l0 t_l1 hr
noncomputable def ja_X13_settled_b54 (rec54 : Nat → Nat → Int → nk_S → Option (Int × nk_S)) (l0 : Nat) (l1 : Nat) (l2 : Int) (S : nk_S) : Option (Int × nk_S) :=
  if 6 ≤ l2 then
    ja_X13_settled_L81 nk_big l0 l1 0 S
  else
    if 0 ≤ (nk_w (48 + l2)) ∧ (nk_w (48 + l2)) < 54 then
    nk_lt (nk_wi S (ja_c l1 27) (nk_w (48 + l2)).toNat (nk_w (10 + l2))) fun S3 =>
    nk_lt (nk_w (l2 + 1)) fun v5 =>
    rec54 l0 l1 v5 S3
    else none
theorem ja_X13_settled_b54_ok (zs : List Int32) {rec54 : Nat → Nat → Int → nk_S → Option (Int × nk_S)} (hrec54 : ∀ (l0 : Nat) (l1 : Nat) (l2 : Int) (S : nk_S) (R : Int × nk_S), nk_cl ja_Tt l0 = some 13 → nk_cl ja_Tt l1 = some 12 → rec54 l0 l1 l2 S = some R → nk_K ja_Tt mi_Γ (mi_ev zs) 1 222 54 [(0, nk_r l0), (1, nk_r l1), (2, nk_i l2)] [] S R) : ∀ (l0 : Nat) (l1 : Nat) (l2 : Int) (S : nk_S) (R : Int × nk_S), nk_cl ja_Tt l0 = some 13 → nk_cl ja_Tt l1 = some 12 → ja_X13_settled_b54 rec54 l0 l1 l2 S = some R → nk_K ja_Tt mi_Γ (mi_ev zs) 1 222 54 [(0, nk_r l0), (1, nk_r l1), (2, nk_i l2)] [] S R := by
  intro l0 l1 l2 S R t_l0 t_l1 hr
  unfold ja_X13_settled_b54 at hr
  refine nk_p (i := .iload_n 2) (len := 1) (pc' := 55) mJ_222 (by decide +kernel) (ns_iload_n 2 rfl rfl) rfl ?_
  refine nk_p (i := .bipush 6) (len := 2) (pc' := 57) mJ_222 (by decide +kernel) (ns_bipush (c := 6) (by decide +kernel)) rfl ?_
  refine nk_icmp (c := .ge) (off := 22) (len := 3) (t := 79) (pc' := 60) mJ_222 (by decide +kernel) (by decide +kernel) rfl (fun hc => ?_) (fun hc => ?_)
  · have hr := nk_ifp (c := 6 ≤ l2) hc hr
    refine nk_p (i := .iconst 0) (len := 1) (pc' := 80) mJ_222 (by decide +kernel) (ns_iconst (c := 0) (by decide +kernel)) rfl ?_
    refine nk_p (i := .istore_n 2) (len := 1) (pc' := 81) mJ_222 (by decide +kernel) (ns_istore_n (L' := [(2, nk_i 0), (0, nk_r l0), (1, nk_r l1)]) rfl rfl rfl (by decide +kernel)) rfl ?_
    refine nk_sub [1, 2, 0] (L' := [(0, nk_r l0), (1, nk_r l1), (2, nk_i 0)]) rfl ?_
    exact ja_X13_settled_L81_ok zs nk_big _ _ _ _ _ t_l0 t_l1 hr
  · have hr := nk_ifn (c := 6 ≤ l2) hc hr
    refine nk_p (i := .aload_n 1) (len := 1) (pc' := 61) mJ_222 (by decide +kernel) (ns_aload_n 1 rfl rfl) rfl ?_
    refine nk_getC (f := (4, 1, 54)) (x := 432) (len := 3) (ci := 12) (k := 27) (pc' := 64) ja_okT mJ_222 (by decide +kernel) (by decide +kernel) (by decide +kernel) (by decide) t_l1 rfl ?_
    have t1 : nk_ar ja_Tt (ja_c l1 27) = some (1, 54) := nk_ta ja_okT t_l1 (by decide +kernel)
    refine nk_p (i := .bipush 48) (len := 2) (pc' := 66) mJ_222 (by decide +kernel) (ns_bipush (c := 48) (by decide +kernel)) rfl ?_
    refine nk_p (i := .iload_n 2) (len := 1) (pc' := 67) mJ_222 (by decide +kernel) (ns_iload_n 2 rfl rfl) rfl ?_
    refine nk_p (i := .iadd) (len := 1) (pc' := 68) mJ_222 (by decide +kernel) ns_iadd rfl ?_
    refine nk_p (i := .bipush 10) (len := 2) (pc' := 70) mJ_222 (by decide +kernel) (ns_bipush (c := 10) (by decide +kernel)) rfl ?_
    refine nk_p (i := .iload_n 2) (len := 1) (pc' := 71) mJ_222 (by decide +kernel) (ns_iload_n 2 rfl rfl) rfl ?_
    refine nk_p (i := .iadd) (len := 1) (pc' := 72) mJ_222 (by decide +kernel) ns_iadd rfl ?_
    obtain ⟨h2, hr⟩ := nk_cke hr
    obtain ⟨S3, h4, hr⟩ := nk_lte hr
    refine nk_iast (len := 1) (N := 54) (pc' := 73) mJ_222 (by decide +kernel) t1 h2.1 h2.2 rfl rfl h4 ?_
    obtain ⟨v5, h6, hr⟩ := nk_lte hr
    refine nk_p (i := .iinc 2 1) (len := 3) (pc' := 76) mJ_222 (by decide +kernel) (ns_iinc (c := 1) (L' := [(2, nk_i v5), (0, nk_r l0), (1, nk_r l1)]) 2 rfl (by decide +kernel) h6 rfl (by decide +kernel)) rfl ?_
    refine nk_p (i := .goto (-22)) (len := 3) (pc' := 54) mJ_222 (by decide +kernel) (ns_goto (by decide +kernel)) rfl ?_
    refine nk_sub [1, 2, 0] (L' := [(0, nk_r l0), (1, nk_r l1), (2, nk_i v5)]) rfl ?_
    exact hrec54 _ _ _ _ _ t_l0 t_l1 hr
noncomputable def ja_X13_settled_L54 : Nat → Nat → Nat → Int → nk_S → Option (Int × nk_S)
  | 0, _, _, _, _ => none
  | n + 1, l0, l1, l2, S => ja_X13_settled_b54 (ja_X13_settled_L54 n) l0 l1 l2 S
theorem ja_X13_settled_L54_ok (zs : List Int32) : ∀ n : Nat, ∀ (l0 : Nat) (l1 : Nat) (l2 : Int) (S : nk_S) (R : Int × nk_S), nk_cl ja_Tt l0 = some 13 → nk_cl ja_Tt l1 = some 12 → ja_X13_settled_L54 n l0 l1 l2 S = some R → nk_K ja_Tt mi_Γ (mi_ev zs) 1 222 54 [(0, nk_r l0), (1, nk_r l1), (2, nk_i l2)] [] S R := by
  intro n
  induction n with
  | zero => intro _ _ _ _ _ _ _ hr; cases hr
  | succ n ih => intro l0 l1 l2 S R t_l0 t_l1 hr; exact ja_X13_settled_b54_ok zs ih l0 l1 l2 S R t_l0 t_l1 hr
noncomputable def ja_X13_settled_b2 (rec2 : Nat → Nat → Int → nk_S → Option (Int × nk_S)) (l0 : Nat) (l1 : Nat) (l2 : Int) (S : nk_S) : Option (Int × nk_S) :=
  if 2 ≤ l2 then
    nk_bd (ja_X13_threshold l0 l1 (-2147483648) S) fun r1 S2 =>
    nk_bd (ja_X13_threshold l0 l1 (-2147483647) S2) fun r4 S5 =>
    nk_bd (ja_X13_threshold l0 l1 2147483646 S5) fun r7 S8 =>
    nk_bd (ja_X13_threshold l0 l1 2147483647 S8) fun r10 S11 =>
    ja_X13_settled_L54 nk_big l0 l1 0 S11
  else
    nk_bd (ja_X13_threshold l0 l1 l2 S) fun r13 S14 =>
    nk_lt (nk_w (l2 + 1)) fun v16 =>
    rec2 l0 l1 v16 S14
theorem ja_X13_settled_b2_ok (zs : List Int32) {rec2 : Nat → Nat → Int → nk_S → Option (Int × nk_S)} (hrec2 : ∀ (l0 : Nat) (l1 : Nat) (l2 : Int) (S : nk_S) (R : Int × nk_S), nk_cl ja_Tt l0 = some 13 → nk_cl ja_Tt l1 = some 12 → rec2 l0 l1 l2 S = some R → nk_K ja_Tt mi_Γ (mi_ev zs) 1 222 2 [(0, nk_r l0), (1, nk_r l1), (2, nk_i l2)] [] S R) : ∀ (l0 : Nat) (l1 : Nat) (l2 : Int) (S : nk_S) (R : Int × nk_S), nk_cl ja_Tt l0 = some 13 → nk_cl ja_Tt l1 = some 12 → ja_X13_settled_b2 rec2 l0 l1 l2 S = some R → nk_K ja_Tt mi_Γ (mi_ev zs) 1 222 2 [(0, nk_r l0), (1, nk_r l1), (2, nk_i l2)] [] S R := by
  intro l0 l1 l2 S R t_l0 t_l1 hr
  unfold ja_X13_settled_b2 at hr
  refine nk_p (i := .iload_n 2) (len := 1) (pc' := 3) mJ_222 (by decide +kernel) (ns_iload_n 2 rfl rfl) rfl ?_
  refine nk_p (i := .iconst 2) (len := 1) (pc' := 4) mJ_222 (by decide +kernel) (ns_iconst (c := 2) (by decide +kernel)) rfl ?_
  refine nk_icmp (c := .ge) (off := 16) (len := 3) (t := 20) (pc' := 7) mJ_222 (by decide +kernel) (by decide +kernel) rfl (fun hc => ?_) (fun hc => ?_)
  · have hr := nk_ifp (c := 2 ≤ l2) hc hr
    refine nk_p (i := .aload_n 0) (len := 1) (pc' := 21) mJ_222 (by decide +kernel) (ns_aload_n 0 rfl rfl) rfl ?_
    refine nk_p (i := .aload_n 1) (len := 1) (pc' := 22) mJ_222 (by decide +kernel) (ns_aload_n 1 rfl rfl) rfl ?_
    refine nk_ldc2 (x := 186) (len := 3) (X := (-2147483648)) (v := (-2147483648)) (pc' := 25) mJ_222 (by decide +kernel) (by decide +kernel) (by decide +kernel) rfl ?_
    obtain ⟨r1, S2, h3, hr⟩ := nk_bde hr
    refine nk_callV (ci := 13) (n := 2) (x := 435) (len := 3) (j' := 232) (q' := 0) (r := r1) (S' := S2) (L2 := [(0, nk_r l0), (1, nk_r l1), (2, nk_l (-2147483648))]) (rest := []) (st' := []) (pc' := 28) mJ_222 (by decide +kernel) (by decide +kernel) rfl rfl t_l0 (Nat.le_of_ble_eq_true rfl) mJ_232 (Nat.le_of_ble_eq_true rfl) rfl (ja_X13_threshold_ok zs _ _ _ _ _ t_l0 t_l1 h3) rfl ?_
    refine nk_p (i := .aload_n 0) (len := 1) (pc' := 29) mJ_222 (by decide +kernel) (ns_aload_n 0 rfl rfl) rfl ?_
    refine nk_p (i := .aload_n 1) (len := 1) (pc' := 30) mJ_222 (by decide +kernel) (ns_aload_n 1 rfl rfl) rfl ?_
    refine nk_ldc2 (x := 440) (len := 3) (X := (-2147483647)) (v := (-2147483647)) (pc' := 33) mJ_222 (by decide +kernel) (by decide +kernel) (by decide +kernel) rfl ?_
    obtain ⟨r4, S5, h6, hr⟩ := nk_bde hr
    refine nk_callV (ci := 13) (n := 2) (x := 435) (len := 3) (j' := 232) (q' := 0) (r := r4) (S' := S5) (L2 := [(0, nk_r l0), (1, nk_r l1), (2, nk_l (-2147483647))]) (rest := []) (st' := []) (pc' := 36) mJ_222 (by decide +kernel) (by decide +kernel) rfl rfl t_l0 (Nat.le_of_ble_eq_true rfl) mJ_232 (Nat.le_of_ble_eq_true rfl) rfl (ja_X13_threshold_ok zs _ _ _ _ _ t_l0 t_l1 h6) rfl ?_
    refine nk_p (i := .aload_n 0) (len := 1) (pc' := 37) mJ_222 (by decide +kernel) (ns_aload_n 0 rfl rfl) rfl ?_
    refine nk_p (i := .aload_n 1) (len := 1) (pc' := 38) mJ_222 (by decide +kernel) (ns_aload_n 1 rfl rfl) rfl ?_
    refine nk_ldc2 (x := 442) (len := 3) (X := 2147483646) (v := 2147483646) (pc' := 41) mJ_222 (by decide +kernel) (by decide +kernel) (by decide +kernel) rfl ?_
    obtain ⟨r7, S8, h9, hr⟩ := nk_bde hr
    refine nk_callV (ci := 13) (n := 2) (x := 435) (len := 3) (j' := 232) (q' := 0) (r := r7) (S' := S8) (L2 := [(0, nk_r l0), (1, nk_r l1), (2, nk_l 2147483646)]) (rest := []) (st' := []) (pc' := 44) mJ_222 (by decide +kernel) (by decide +kernel) rfl rfl t_l0 (Nat.le_of_ble_eq_true rfl) mJ_232 (Nat.le_of_ble_eq_true rfl) rfl (ja_X13_threshold_ok zs _ _ _ _ _ t_l0 t_l1 h9) rfl ?_
    refine nk_p (i := .aload_n 0) (len := 1) (pc' := 45) mJ_222 (by decide +kernel) (ns_aload_n 0 rfl rfl) rfl ?_
    refine nk_p (i := .aload_n 1) (len := 1) (pc' := 46) mJ_222 (by decide +kernel) (ns_aload_n 1 rfl rfl) rfl ?_
    refine nk_ldc2 (x := 188) (len := 3) (X := 2147483647) (v := 2147483647) (pc' := 49) mJ_222 (by decide +kernel) (by decide +kernel) (by decide +kernel) rfl ?_
    obtain ⟨r10, S11, h12, hr⟩ := nk_bde hr
    refine nk_callV (ci := 13) (n := 2) (x := 435) (len := 3) (j' := 232) (q' := 0) (r := r10) (S' := S11) (L2 := [(0, nk_r l0), (1, nk_r l1), (2, nk_l 2147483647)]) (rest := []) (st' := []) (pc' := 52) mJ_222 (by decide +kernel) (by decide +kernel) rfl rfl t_l0 (Nat.le_of_ble_eq_true rfl) mJ_232 (Nat.le_of_ble_eq_true rfl) rfl (ja_X13_threshold_ok zs _ _ _ _ _ t_l0 t_l1 h12) rfl ?_
    refine nk_p (i := .iconst 0) (len := 1) (pc' := 53) mJ_222 (by decide +kernel) (ns_iconst (c := 0) (by decide +kernel)) rfl ?_
    refine nk_p (i := .istore_n 2) (len := 1) (pc' := 54) mJ_222 (by decide +kernel) (ns_istore_n (L' := [(2, nk_i 0), (0, nk_r l0), (1, nk_r l1)]) rfl rfl rfl (by decide +kernel)) rfl ?_
    refine nk_sub [1, 2, 0] (L' := [(0, nk_r l0), (1, nk_r l1), (2, nk_i 0)]) rfl ?_
    exact ja_X13_settled_L54_ok zs nk_big _ _ _ _ _ t_l0 t_l1 hr
  · have hr := nk_ifn (c := 2 ≤ l2) hc hr
    refine nk_p (i := .aload_n 0) (len := 1) (pc' := 8) mJ_222 (by decide +kernel) (ns_aload_n 0 rfl rfl) rfl ?_
    refine nk_p (i := .aload_n 1) (len := 1) (pc' := 9) mJ_222 (by decide +kernel) (ns_aload_n 1 rfl rfl) rfl ?_
    refine nk_p (i := .iload_n 2) (len := 1) (pc' := 10) mJ_222 (by decide +kernel) (ns_iload_n 2 rfl rfl) rfl ?_
    refine nk_p (i := .i2l) (len := 1) (pc' := 11) mJ_222 (by decide +kernel) ns_i2l rfl ?_
    obtain ⟨r13, S14, h15, hr⟩ := nk_bde hr
    refine nk_callV (ci := 13) (n := 2) (x := 435) (len := 3) (j' := 232) (q' := 0) (r := r13) (S' := S14) (L2 := [(0, nk_r l0), (1, nk_r l1), (2, nk_l l2)]) (rest := []) (st' := []) (pc' := 14) mJ_222 (by decide +kernel) (by decide +kernel) rfl rfl t_l0 (Nat.le_of_ble_eq_true rfl) mJ_232 (Nat.le_of_ble_eq_true rfl) rfl (ja_X13_threshold_ok zs _ _ _ _ _ t_l0 t_l1 h15) rfl ?_
    obtain ⟨v16, h17, hr⟩ := nk_lte hr
    refine nk_p (i := .iinc 2 1) (len := 3) (pc' := 17) mJ_222 (by decide +kernel) (ns_iinc (c := 1) (L' := [(2, nk_i v16), (0, nk_r l0), (1, nk_r l1)]) 2 rfl (by decide +kernel) h17 rfl (by decide +kernel)) rfl ?_
    refine nk_p (i := .goto (-15)) (len := 3) (pc' := 2) mJ_222 (by decide +kernel) (ns_goto (by decide +kernel)) rfl ?_
    refine nk_sub [1, 2, 0] (L' := [(0, nk_r l0), (1, nk_r l1), (2, nk_i v16)]) rfl ?_
    exact hrec2 _ _ _ _ _ t_l0 t_l1 hr
noncomputable def ja_X13_settled_L2 : Nat → Nat → Nat → Int → nk_S → Option (Int × nk_S)
  | 0, _, _, _, _ => none
  | n + 1, l0, l1, l2, S => ja_X13_settled_b2 (ja_X13_settled_L2 n) l0 l1 l2 S
theorem ja_X13_settled_L2_ok (zs : List Int32) : ∀ n : Nat, ∀ (l0 : Nat) (l1 : Nat) (l2 : Int) (S : nk_S) (R : Int × nk_S), nk_cl ja_Tt l0 = some 13 → nk_cl ja_Tt l1 = some 12 → ja_X13_settled_L2 n l0 l1 l2 S = some R → nk_K ja_Tt mi_Γ (mi_ev zs) 1 222 2 [(0, nk_r l0), (1, nk_r l1), (2, nk_i l2)] [] S R := by
  intro n
  induction n with
  | zero => intro _ _ _ _ _ _ _ hr; cases hr
  | succ n ih => intro l0 l1 l2 S R t_l0 t_l1 hr; exact ja_X13_settled_b2_ok zs ih l0 l1 l2 S R t_l0 t_l1 hr
noncomputable def ja_X13_settled (l0 : Nat) (l1 : Nat) (S : nk_S) : Option (Int × nk_S) :=
  ja_X13_settled_L2 nk_big l0 l1 (-1) S
theorem ja_X13_settled_ok (zs : List Int32) : ∀ (l0 : Nat) (l1 : Nat) (S : nk_S) (R : Int × nk_S), nk_cl ja_Tt l0 = some 13 → nk_cl ja_Tt l1 = some 12 → ja_X13_settled l0 l1 S = some R → nk_K ja_Tt mi_Γ (mi_ev zs) 1 222 0 [(0, nk_r l0), (1, nk_r l1)] [] S R := by
  intro l0 l1 S R t_l0 t_l1 hr
  unfold ja_X13_settled at hr
  refine nk_p (i := .iconst (-1)) (len := 1) (pc' := 1) mJ_222 (by decide +kernel) (ns_iconst (c := (-1)) (by decide +kernel)) rfl ?_
  refine nk_p (i := .istore_n 2) (len := 1) (pc' := 2) mJ_222 (by decide +kernel) (ns_istore_n (L' := [(2, nk_i (-1)), (0, nk_r l0), (1, nk_r l1)]) rfl rfl rfl (by decide +kernel)) rfl ?_
  refine nk_sub [1, 2, 0] (L' := [(0, nk_r l0), (1, nk_r l1), (2, nk_i (-1))]) rfl ?_
  exact ja_X13_settled_L2_ok zs nk_big _ _ _ _ _ t_l0 t_l1 hr
/-! SafeCodeModel howMany (LSafeCodeModel$Program;I)I -/
noncomputable def ja_X13_howMany_b226 (l2 : Int) (S : nk_S) : Option (Int × nk_S) :=
  if l2 < 20 then
    some (0, S)
  else
    if 25 < l2 then
      some (0, S)
    else
      some (2, S)
theorem ja_X13_howMany_b226_ok (zs : List Int32) : ∀ (l2 : Int) (S : nk_S) (R : Int × nk_S), ja_X13_howMany_b226 l2 S = some R → nk_K ja_Tt mi_Γ (mi_ev zs) 1 134 226 [(2, nk_i l2)] [] S R := by
  intro l2 S R hr
  unfold ja_X13_howMany_b226 at hr
  refine nk_p (i := .iload_n 2) (len := 1) (pc' := 227) mJ_134 (by decide +kernel) (ns_iload_n 0 rfl rfl) rfl ?_
  refine nk_p (i := .bipush 20) (len := 2) (pc' := 229) mJ_134 (by decide +kernel) (ns_bipush (c := 20) (by decide +kernel)) rfl ?_
  refine nk_icmp (c := .lt) (off := 13) (len := 3) (t := 242) (pc' := 232) mJ_134 (by decide +kernel) (by decide +kernel) rfl (fun hc => ?_) (fun hc => ?_)
  · have hr := nk_ifp (c := l2 < 20) hc hr
    refine nk_p (i := .iconst 0) (len := 1) (pc' := 243) mJ_134 (by decide +kernel) (ns_iconst (c := 0) (by decide +kernel)) rfl ?_
    cases hr
    exact nk_iret (ty := .int) (len := 1) mJ_134 (by decide +kernel) rfl (nk_nar_i _)
  · have hr := nk_ifn (c := l2 < 20) hc hr
    refine nk_p (i := .iload_n 2) (len := 1) (pc' := 233) mJ_134 (by decide +kernel) (ns_iload_n 0 rfl rfl) rfl ?_
    refine nk_p (i := .bipush 25) (len := 2) (pc' := 235) mJ_134 (by decide +kernel) (ns_bipush (c := 25) (by decide +kernel)) rfl ?_
    refine nk_icmp (c := .gt) (off := 7) (len := 3) (t := 242) (pc' := 238) mJ_134 (by decide +kernel) (by decide +kernel) rfl (fun hc => ?_) (fun hc => ?_)
    · have hr := nk_ifp (c := 25 < l2) hc hr
      refine nk_p (i := .iconst 0) (len := 1) (pc' := 243) mJ_134 (by decide +kernel) (ns_iconst (c := 0) (by decide +kernel)) rfl ?_
      cases hr
      exact nk_iret (ty := .int) (len := 1) mJ_134 (by decide +kernel) rfl (nk_nar_i _)
    · have hr := nk_ifn (c := 25 < l2) hc hr
      refine nk_p (i := .iconst 2) (len := 1) (pc' := 239) mJ_134 (by decide +kernel) (ns_iconst (c := 2) (by decide +kernel)) rfl ?_
      refine nk_p (i := .goto 4) (len := 3) (pc' := 243) mJ_134 (by decide +kernel) (ns_goto (by decide +kernel)) rfl ?_
      cases hr
      exact nk_iret (ty := .int) (len := 1) mJ_134 (by decide +kernel) rfl (nk_nar_i _)
noncomputable def ja_X13_howMany_b214 (l2 : Int) (S : nk_S) : Option (Int × nk_S) :=
  if l2 < 8 then
    ja_X13_howMany_b226 l2 S
  else
    if l2 ≤ 17 then
      some (2, S)
    else
      ja_X13_howMany_b226 l2 S
theorem ja_X13_howMany_b214_ok (zs : List Int32) : ∀ (l2 : Int) (S : nk_S) (R : Int × nk_S), ja_X13_howMany_b214 l2 S = some R → nk_K ja_Tt mi_Γ (mi_ev zs) 1 134 214 [(2, nk_i l2)] [] S R := by
  intro l2 S R hr
  unfold ja_X13_howMany_b214 at hr
  refine nk_p (i := .iload_n 2) (len := 1) (pc' := 215) mJ_134 (by decide +kernel) (ns_iload_n 0 rfl rfl) rfl ?_
  refine nk_p (i := .bipush 8) (len := 2) (pc' := 217) mJ_134 (by decide +kernel) (ns_bipush (c := 8) (by decide +kernel)) rfl ?_
  refine nk_icmp (c := .lt) (off := 9) (len := 3) (t := 226) (pc' := 220) mJ_134 (by decide +kernel) (by decide +kernel) rfl (fun hc => ?_) (fun hc => ?_)
  · have hr := nk_ifp (c := l2 < 8) hc hr
    exact ja_X13_howMany_b226_ok zs _ _ _ hr
  · have hr := nk_ifn (c := l2 < 8) hc hr
    refine nk_p (i := .iload_n 2) (len := 1) (pc' := 221) mJ_134 (by decide +kernel) (ns_iload_n 0 rfl rfl) rfl ?_
    refine nk_p (i := .bipush 17) (len := 2) (pc' := 223) mJ_134 (by decide +kernel) (ns_bipush (c := 17) (by decide +kernel)) rfl ?_
    refine nk_icmp (c := .le) (off := 15) (len := 3) (t := 238) (pc' := 226) mJ_134 (by decide +kernel) (by decide +kernel) rfl (fun hc => ?_) (fun hc => ?_)
    · have hr := nk_ifp (c := l2 ≤ 17) hc hr
      refine nk_p (i := .iconst 2) (len := 1) (pc' := 239) mJ_134 (by decide +kernel) (ns_iconst (c := 2) (by decide +kernel)) rfl ?_
      refine nk_p (i := .goto 4) (len := 3) (pc' := 243) mJ_134 (by decide +kernel) (ns_goto (by decide +kernel)) rfl ?_
      cases hr
      exact nk_iret (ty := .int) (len := 1) mJ_134 (by decide +kernel) rfl (nk_nar_i _)
    · have hr := nk_ifn (c := l2 ≤ 17) hc hr
      exact ja_X13_howMany_b226_ok zs _ _ _ hr
noncomputable def ja_X13_howMany_b202 (l0 : Nat) (l1 : Int) (S : nk_S) : Option (Int × nk_S) :=
  if 0 ≤ l1 ∧ l1 < 1024 then
  if 0 ≤ (S.1 (ja_c l0 23) l1.toNat) ∧ (S.1 (ja_c l0 23) l1.toNat) < 48 then
  some ((S.1 (ja_c l0 15) (S.1 (ja_c l0 23) l1.toNat).toNat), S)
  else none
  else none
theorem ja_X13_howMany_b202_ok (zs : List Int32) : ∀ (l0 : Nat) (l1 : Int) (S : nk_S) (R : Int × nk_S), nk_cl ja_Tt l0 = some 12 → ja_X13_howMany_b202 l0 l1 S = some R → nk_K ja_Tt mi_Γ (mi_ev zs) 1 134 202 [(0, nk_r l0), (1, nk_i l1)] [] S R := by
  intro l0 l1 S R t_l0 hr
  unfold ja_X13_howMany_b202 at hr
  refine nk_p (i := .aload_n 0) (len := 1) (pc' := 203) mJ_134 (by decide +kernel) (ns_aload_n 0 rfl rfl) rfl ?_
  refine nk_getC (f := (4, 1, 48)) (x := 348) (len := 3) (ci := 12) (k := 15) (pc' := 206) ja_okT mJ_134 (by decide +kernel) (by decide +kernel) (by decide +kernel) (by decide) t_l0 rfl ?_
  have t1 : nk_ar ja_Tt (ja_c l0 15) = some (1, 48) := nk_ta ja_okT t_l0 (by decide +kernel)
  refine nk_p (i := .aload_n 0) (len := 1) (pc' := 207) mJ_134 (by decide +kernel) (ns_aload_n 0 rfl rfl) rfl ?_
  refine nk_getC (f := (4, 1, 1024)) (x := 414) (len := 3) (ci := 12) (k := 23) (pc' := 210) ja_okT mJ_134 (by decide +kernel) (by decide +kernel) (by decide +kernel) (by decide) t_l0 rfl ?_
  have t2 : nk_ar ja_Tt (ja_c l0 23) = some (1, 1024) := nk_ta ja_okT t_l0 (by decide +kernel)
  refine nk_p (i := .iload_n 1) (len := 1) (pc' := 211) mJ_134 (by decide +kernel) (ns_iload_n 1 rfl rfl) rfl ?_
  obtain ⟨h3, hr⟩ := nk_cke hr
  refine nk_iald (len := 1) (N := 1024) (pc' := 212) mJ_134 (by decide +kernel) t2 h3.1 h3.2 rfl rfl ?_
  obtain ⟨h4, hr⟩ := nk_cke hr
  refine nk_iald (len := 1) (N := 48) (pc' := 213) mJ_134 (by decide +kernel) t1 h4.1 h4.2 rfl rfl ?_
  cases hr
  exact nk_iret (ty := .int) (len := 1) mJ_134 (by decide +kernel) rfl (nk_nar_i _)
noncomputable def ja_X13_howMany (l0 : Nat) (l1 : Int) (S : nk_S) : Option (Int × nk_S) :=
  if 0 ≤ l1 ∧ l1 < 1024 then
  nk_lt (S.1 (ja_c l0 22) l1.toNat) fun v3 =>
  if v3 = 3 then
    some (1, S)
  else
  if v3 = 4 then
    ja_X13_howMany_b214 v3 S
  else
  if v3 = 5 then
    some (1, S)
  else
  if v3 = 6 then
    some (1, S)
  else
  if v3 = 7 then
    some (2, S)
  else
  if v3 = 8 then
    ja_X13_howMany_b214 v3 S
  else
  if v3 = 9 then
    ja_X13_howMany_b214 v3 S
  else
  if v3 = 10 then
    ja_X13_howMany_b214 v3 S
  else
  if v3 = 11 then
    ja_X13_howMany_b214 v3 S
  else
  if v3 = 12 then
    ja_X13_howMany_b214 v3 S
  else
  if v3 = 13 then
    ja_X13_howMany_b214 v3 S
  else
  if v3 = 14 then
    ja_X13_howMany_b214 v3 S
  else
  if v3 = 15 then
    ja_X13_howMany_b214 v3 S
  else
  if v3 = 16 then
    ja_X13_howMany_b214 v3 S
  else
  if v3 = 17 then
    ja_X13_howMany_b214 v3 S
  else
  if v3 = 18 then
    some (1, S)
  else
  if v3 = 19 then
    ja_X13_howMany_b214 v3 S
  else
  if v3 = 20 then
    ja_X13_howMany_b214 v3 S
  else
  if v3 = 21 then
    ja_X13_howMany_b214 v3 S
  else
  if v3 = 22 then
    ja_X13_howMany_b214 v3 S
  else
  if v3 = 23 then
    ja_X13_howMany_b214 v3 S
  else
  if v3 = 24 then
    ja_X13_howMany_b214 v3 S
  else
  if v3 = 25 then
    ja_X13_howMany_b214 v3 S
  else
  if v3 = 26 then
    some (1, S)
  else
  if v3 = 27 then
    some (1, S)
  else
  if v3 = 28 then
    some (2, S)
  else
  if v3 = 29 then
    some (2, S)
  else
  if v3 = 30 then
    ja_X13_howMany_b214 v3 S
  else
  if v3 = 31 then
    some (1, S)
  else
  if v3 = 32 then
    some (1, S)
  else
  if v3 = 33 then
    some (2, S)
  else
  if v3 = 34 then
    some (3, S)
  else
  if v3 = 35 then
    some (1, S)
  else
  if v3 = 36 then
    some (2, S)
  else
  if v3 = 37 then
    some (1, S)
  else
  if v3 = 38 then
    some (1, S)
  else
  if v3 = 39 then
    ja_X13_howMany_b202 l0 l1 S
  else
  if v3 = 40 then
    ja_X13_howMany_b202 l0 l1 S
  else
  if v3 = 41 then
    some (1, S)
  else
  if v3 = 42 then
    some (1, S)
  else
  if v3 = 43 then
    ja_X13_howMany_b214 v3 S
  else
  if v3 = 44 then
    ja_X13_howMany_b214 v3 S
  else
  if v3 = 45 then
    some (1, S)
  else
  ja_X13_howMany_b214 v3 S
  else none
theorem ja_X13_howMany_ok (zs : List Int32) : ∀ (l0 : Nat) (l1 : Int) (S : nk_S) (R : Int × nk_S), nk_cl ja_Tt l0 = some 12 → ja_X13_howMany l0 l1 S = some R → nk_K ja_Tt mi_Γ (mi_ev zs) 1 134 0 [(0, nk_r l0), (1, nk_i l1)] [] S R := by
  intro l0 l1 S R t_l0 hr
  unfold ja_X13_howMany at hr
  refine nk_p (i := .aload_n 0) (len := 1) (pc' := 1) mJ_134 (by decide +kernel) (ns_aload_n 0 rfl rfl) rfl ?_
  refine nk_getC (f := (4, 1, 1024)) (x := 391) (len := 3) (ci := 12) (k := 22) (pc' := 4) ja_okT mJ_134 (by decide +kernel) (by decide +kernel) (by decide +kernel) (by decide) t_l0 rfl ?_
  have t1 : nk_ar ja_Tt (ja_c l0 22) = some (1, 1024) := nk_ta ja_okT t_l0 (by decide +kernel)
  refine nk_p (i := .iload_n 1) (len := 1) (pc' := 5) mJ_134 (by decide +kernel) (ns_iload_n 1 rfl rfl) rfl ?_
  obtain ⟨h2, hr⟩ := nk_cke hr
  refine nk_iald (len := 1) (N := 1024) (pc' := 6) mJ_134 (by decide +kernel) t1 h2.1 h2.2 rfl rfl ?_
  obtain ⟨v3, h4, hr⟩ := nk_lte hr
  refine nk_p (i := .istore_n 2) (len := 1) (pc' := 7) mJ_134 (by decide +kernel) (ns_istore_n (L' := [(2, nk_i v3), (0, nk_r l0), (1, nk_i l1)]) h4 rfl rfl (by decide +kernel)) rfl ?_
  refine nk_p (i := .iload_n 2) (len := 1) (pc' := 8) mJ_134 (by decide +kernel) (ns_iload_n 0 rfl rfl) rfl ?_
  by_cases hc0 : v3 = 3
  · have hr := nk_ifp hc0 hr
    refine nk_p (i := .tableswitch 206 3 45 #[188, 206, 188, 188, 190, 206, 206, 206, 206, 206, 206, 206, 206, 206, 206, 188, 206, 206, 206, 206, 206, 206, 206, 188, 188, 190, 190, 206, 188, 188, 190, 192, 188, 190, 188, 188, 194, 194, 188, 188, 206, 206, 188]) (len := 188) (pc' := 196) mJ_134 (by decide +kernel) (ns_tsw (V := 3) hc0 (by decide +kernel)) rfl ?_
    refine nk_p (i := .iconst 1) (len := 1) (pc' := 197) mJ_134 (by decide +kernel) (ns_iconst (c := 1) (by decide +kernel)) rfl ?_
    cases hr
    exact nk_iret (ty := .int) (len := 1) mJ_134 (by decide +kernel) rfl (nk_nar_i _)
  have hr := nk_ifn hc0 hr
  by_cases hc1 : v3 = 4
  · have hr := nk_ifp hc1 hr
    refine nk_p (i := .tableswitch 206 3 45 #[188, 206, 188, 188, 190, 206, 206, 206, 206, 206, 206, 206, 206, 206, 206, 188, 206, 206, 206, 206, 206, 206, 206, 188, 188, 190, 190, 206, 188, 188, 190, 192, 188, 190, 188, 188, 194, 194, 188, 188, 206, 206, 188]) (len := 188) (pc' := 214) mJ_134 (by decide +kernel) (ns_tsw (V := 4) hc1 (by decide +kernel)) rfl ?_
    refine nk_sub [0] (L' := [(2, nk_i v3)]) rfl ?_
    exact ja_X13_howMany_b214_ok zs _ _ _ hr
  have hr := nk_ifn hc1 hr
  by_cases hc2 : v3 = 5
  · have hr := nk_ifp hc2 hr
    refine nk_p (i := .tableswitch 206 3 45 #[188, 206, 188, 188, 190, 206, 206, 206, 206, 206, 206, 206, 206, 206, 206, 188, 206, 206, 206, 206, 206, 206, 206, 188, 188, 190, 190, 206, 188, 188, 190, 192, 188, 190, 188, 188, 194, 194, 188, 188, 206, 206, 188]) (len := 188) (pc' := 196) mJ_134 (by decide +kernel) (ns_tsw (V := 5) hc2 (by decide +kernel)) rfl ?_
    refine nk_p (i := .iconst 1) (len := 1) (pc' := 197) mJ_134 (by decide +kernel) (ns_iconst (c := 1) (by decide +kernel)) rfl ?_
    cases hr
    exact nk_iret (ty := .int) (len := 1) mJ_134 (by decide +kernel) rfl (nk_nar_i _)
  have hr := nk_ifn hc2 hr
  by_cases hc3 : v3 = 6
  · have hr := nk_ifp hc3 hr
    refine nk_p (i := .tableswitch 206 3 45 #[188, 206, 188, 188, 190, 206, 206, 206, 206, 206, 206, 206, 206, 206, 206, 188, 206, 206, 206, 206, 206, 206, 206, 188, 188, 190, 190, 206, 188, 188, 190, 192, 188, 190, 188, 188, 194, 194, 188, 188, 206, 206, 188]) (len := 188) (pc' := 196) mJ_134 (by decide +kernel) (ns_tsw (V := 6) hc3 (by decide +kernel)) rfl ?_
    refine nk_p (i := .iconst 1) (len := 1) (pc' := 197) mJ_134 (by decide +kernel) (ns_iconst (c := 1) (by decide +kernel)) rfl ?_
    cases hr
    exact nk_iret (ty := .int) (len := 1) mJ_134 (by decide +kernel) rfl (nk_nar_i _)
  have hr := nk_ifn hc3 hr
  by_cases hc4 : v3 = 7
  · have hr := nk_ifp hc4 hr
    refine nk_p (i := .tableswitch 206 3 45 #[188, 206, 188, 188, 190, 206, 206, 206, 206, 206, 206, 206, 206, 206, 206, 188, 206, 206, 206, 206, 206, 206, 206, 188, 188, 190, 190, 206, 188, 188, 190, 192, 188, 190, 188, 188, 194, 194, 188, 188, 206, 206, 188]) (len := 188) (pc' := 198) mJ_134 (by decide +kernel) (ns_tsw (V := 7) hc4 (by decide +kernel)) rfl ?_
    refine nk_p (i := .iconst 2) (len := 1) (pc' := 199) mJ_134 (by decide +kernel) (ns_iconst (c := 2) (by decide +kernel)) rfl ?_
    cases hr
    exact nk_iret (ty := .int) (len := 1) mJ_134 (by decide +kernel) rfl (nk_nar_i _)
  have hr := nk_ifn hc4 hr
  by_cases hc5 : v3 = 8
  · have hr := nk_ifp hc5 hr
    refine nk_p (i := .tableswitch 206 3 45 #[188, 206, 188, 188, 190, 206, 206, 206, 206, 206, 206, 206, 206, 206, 206, 188, 206, 206, 206, 206, 206, 206, 206, 188, 188, 190, 190, 206, 188, 188, 190, 192, 188, 190, 188, 188, 194, 194, 188, 188, 206, 206, 188]) (len := 188) (pc' := 214) mJ_134 (by decide +kernel) (ns_tsw (V := 8) hc5 (by decide +kernel)) rfl ?_
    refine nk_sub [0] (L' := [(2, nk_i v3)]) rfl ?_
    exact ja_X13_howMany_b214_ok zs _ _ _ hr
  have hr := nk_ifn hc5 hr
  by_cases hc6 : v3 = 9
  · have hr := nk_ifp hc6 hr
    refine nk_p (i := .tableswitch 206 3 45 #[188, 206, 188, 188, 190, 206, 206, 206, 206, 206, 206, 206, 206, 206, 206, 188, 206, 206, 206, 206, 206, 206, 206, 188, 188, 190, 190, 206, 188, 188, 190, 192, 188, 190, 188, 188, 194, 194, 188, 188, 206, 206, 188]) (len := 188) (pc' := 214) mJ_134 (by decide +kernel) (ns_tsw (V := 9) hc6 (by decide +kernel)) rfl ?_
    refine nk_sub [0] (L' := [(2, nk_i v3)]) rfl ?_
    exact ja_X13_howMany_b214_ok zs _ _ _ hr
  have hr := nk_ifn hc6 hr
  by_cases hc7 : v3 = 10
  · have hr := nk_ifp hc7 hr
    refine nk_p (i := .tableswitch 206 3 45 #[188, 206, 188, 188, 190, 206, 206, 206, 206, 206, 206, 206, 206, 206, 206, 188, 206, 206, 206, 206, 206, 206, 206, 188, 188, 190, 190, 206, 188, 188, 190, 192, 188, 190, 188, 188, 194, 194, 188, 188, 206, 206, 188]) (len := 188) (pc' := 214) mJ_134 (by decide +kernel) (ns_tsw (V := 10) hc7 (by decide +kernel)) rfl ?_
    refine nk_sub [0] (L' := [(2, nk_i v3)]) rfl ?_
    exact ja_X13_howMany_b214_ok zs _ _ _ hr
  have hr := nk_ifn hc7 hr
  by_cases hc8 : v3 = 11
  · have hr := nk_ifp hc8 hr
    refine nk_p (i := .tableswitch 206 3 45 #[188, 206, 188, 188, 190, 206, 206, 206, 206, 206, 206, 206, 206, 206, 206, 188, 206, 206, 206, 206, 206, 206, 206, 188, 188, 190, 190, 206, 188, 188, 190, 192, 188, 190, 188, 188, 194, 194, 188, 188, 206, 206, 188]) (len := 188) (pc' := 214) mJ_134 (by decide +kernel) (ns_tsw (V := 11) hc8 (by decide +kernel)) rfl ?_
    refine nk_sub [0] (L' := [(2, nk_i v3)]) rfl ?_
    exact ja_X13_howMany_b214_ok zs _ _ _ hr
  have hr := nk_ifn hc8 hr
  by_cases hc9 : v3 = 12
  · have hr := nk_ifp hc9 hr
    refine nk_p (i := .tableswitch 206 3 45 #[188, 206, 188, 188, 190, 206, 206, 206, 206, 206, 206, 206, 206, 206, 206, 188, 206, 206, 206, 206, 206, 206, 206, 188, 188, 190, 190, 206, 188, 188, 190, 192, 188, 190, 188, 188, 194, 194, 188, 188, 206, 206, 188]) (len := 188) (pc' := 214) mJ_134 (by decide +kernel) (ns_tsw (V := 12) hc9 (by decide +kernel)) rfl ?_
    refine nk_sub [0] (L' := [(2, nk_i v3)]) rfl ?_
    exact ja_X13_howMany_b214_ok zs _ _ _ hr
  have hr := nk_ifn hc9 hr
  by_cases hc10 : v3 = 13
  · have hr := nk_ifp hc10 hr
    refine nk_p (i := .tableswitch 206 3 45 #[188, 206, 188, 188, 190, 206, 206, 206, 206, 206, 206, 206, 206, 206, 206, 188, 206, 206, 206, 206, 206, 206, 206, 188, 188, 190, 190, 206, 188, 188, 190, 192, 188, 190, 188, 188, 194, 194, 188, 188, 206, 206, 188]) (len := 188) (pc' := 214) mJ_134 (by decide +kernel) (ns_tsw (V := 13) hc10 (by decide +kernel)) rfl ?_
    refine nk_sub [0] (L' := [(2, nk_i v3)]) rfl ?_
    exact ja_X13_howMany_b214_ok zs _ _ _ hr
  have hr := nk_ifn hc10 hr
  by_cases hc11 : v3 = 14
  · have hr := nk_ifp hc11 hr
    refine nk_p (i := .tableswitch 206 3 45 #[188, 206, 188, 188, 190, 206, 206, 206, 206, 206, 206, 206, 206, 206, 206, 188, 206, 206, 206, 206, 206, 206, 206, 188, 188, 190, 190, 206, 188, 188, 190, 192, 188, 190, 188, 188, 194, 194, 188, 188, 206, 206, 188]) (len := 188) (pc' := 214) mJ_134 (by decide +kernel) (ns_tsw (V := 14) hc11 (by decide +kernel)) rfl ?_
    refine nk_sub [0] (L' := [(2, nk_i v3)]) rfl ?_
    exact ja_X13_howMany_b214_ok zs _ _ _ hr
  have hr := nk_ifn hc11 hr
  by_cases hc12 : v3 = 15
  · have hr := nk_ifp hc12 hr
    refine nk_p (i := .tableswitch 206 3 45 #[188, 206, 188, 188, 190, 206, 206, 206, 206, 206, 206, 206, 206, 206, 206, 188, 206, 206, 206, 206, 206, 206, 206, 188, 188, 190, 190, 206, 188, 188, 190, 192, 188, 190, 188, 188, 194, 194, 188, 188, 206, 206, 188]) (len := 188) (pc' := 214) mJ_134 (by decide +kernel) (ns_tsw (V := 15) hc12 (by decide +kernel)) rfl ?_
    refine nk_sub [0] (L' := [(2, nk_i v3)]) rfl ?_
    exact ja_X13_howMany_b214_ok zs _ _ _ hr
  have hr := nk_ifn hc12 hr
  by_cases hc13 : v3 = 16
  · have hr := nk_ifp hc13 hr
    refine nk_p (i := .tableswitch 206 3 45 #[188, 206, 188, 188, 190, 206, 206, 206, 206, 206, 206, 206, 206, 206, 206, 188, 206, 206, 206, 206, 206, 206, 206, 188, 188, 190, 190, 206, 188, 188, 190, 192, 188, 190, 188, 188, 194, 194, 188, 188, 206, 206, 188]) (len := 188) (pc' := 214) mJ_134 (by decide +kernel) (ns_tsw (V := 16) hc13 (by decide +kernel)) rfl ?_
    refine nk_sub [0] (L' := [(2, nk_i v3)]) rfl ?_
    exact ja_X13_howMany_b214_ok zs _ _ _ hr
  have hr := nk_ifn hc13 hr
  by_cases hc14 : v3 = 17
  · have hr := nk_ifp hc14 hr
    refine nk_p (i := .tableswitch 206 3 45 #[188, 206, 188, 188, 190, 206, 206, 206, 206, 206, 206, 206, 206, 206, 206, 188, 206, 206, 206, 206, 206, 206, 206, 188, 188, 190, 190, 206, 188, 188, 190, 192, 188, 190, 188, 188, 194, 194, 188, 188, 206, 206, 188]) (len := 188) (pc' := 214) mJ_134 (by decide +kernel) (ns_tsw (V := 17) hc14 (by decide +kernel)) rfl ?_
    refine nk_sub [0] (L' := [(2, nk_i v3)]) rfl ?_
    exact ja_X13_howMany_b214_ok zs _ _ _ hr
  have hr := nk_ifn hc14 hr
  by_cases hc15 : v3 = 18
  · have hr := nk_ifp hc15 hr
    refine nk_p (i := .tableswitch 206 3 45 #[188, 206, 188, 188, 190, 206, 206, 206, 206, 206, 206, 206, 206, 206, 206, 188, 206, 206, 206, 206, 206, 206, 206, 188, 188, 190, 190, 206, 188, 188, 190, 192, 188, 190, 188, 188, 194, 194, 188, 188, 206, 206, 188]) (len := 188) (pc' := 196) mJ_134 (by decide +kernel) (ns_tsw (V := 18) hc15 (by decide +kernel)) rfl ?_
    refine nk_p (i := .iconst 1) (len := 1) (pc' := 197) mJ_134 (by decide +kernel) (ns_iconst (c := 1) (by decide +kernel)) rfl ?_
    cases hr
    exact nk_iret (ty := .int) (len := 1) mJ_134 (by decide +kernel) rfl (nk_nar_i _)
  have hr := nk_ifn hc15 hr
  by_cases hc16 : v3 = 19
  · have hr := nk_ifp hc16 hr
    refine nk_p (i := .tableswitch 206 3 45 #[188, 206, 188, 188, 190, 206, 206, 206, 206, 206, 206, 206, 206, 206, 206, 188, 206, 206, 206, 206, 206, 206, 206, 188, 188, 190, 190, 206, 188, 188, 190, 192, 188, 190, 188, 188, 194, 194, 188, 188, 206, 206, 188]) (len := 188) (pc' := 214) mJ_134 (by decide +kernel) (ns_tsw (V := 19) hc16 (by decide +kernel)) rfl ?_
    refine nk_sub [0] (L' := [(2, nk_i v3)]) rfl ?_
    exact ja_X13_howMany_b214_ok zs _ _ _ hr
  have hr := nk_ifn hc16 hr
  by_cases hc17 : v3 = 20
  · have hr := nk_ifp hc17 hr
    refine nk_p (i := .tableswitch 206 3 45 #[188, 206, 188, 188, 190, 206, 206, 206, 206, 206, 206, 206, 206, 206, 206, 188, 206, 206, 206, 206, 206, 206, 206, 188, 188, 190, 190, 206, 188, 188, 190, 192, 188, 190, 188, 188, 194, 194, 188, 188, 206, 206, 188]) (len := 188) (pc' := 214) mJ_134 (by decide +kernel) (ns_tsw (V := 20) hc17 (by decide +kernel)) rfl ?_
    refine nk_sub [0] (L' := [(2, nk_i v3)]) rfl ?_
    exact ja_X13_howMany_b214_ok zs _ _ _ hr
  have hr := nk_ifn hc17 hr
  by_cases hc18 : v3 = 21
  · have hr := nk_ifp hc18 hr
    refine nk_p (i := .tableswitch 206 3 45 #[188, 206, 188, 188, 190, 206, 206, 206, 206, 206, 206, 206, 206, 206, 206, 188, 206, 206, 206, 206, 206, 206, 206, 188, 188, 190, 190, 206, 188, 188, 190, 192, 188, 190, 188, 188, 194, 194, 188, 188, 206, 206, 188]) (len := 188) (pc' := 214) mJ_134 (by decide +kernel) (ns_tsw (V := 21) hc18 (by decide +kernel)) rfl ?_
    refine nk_sub [0] (L' := [(2, nk_i v3)]) rfl ?_
    exact ja_X13_howMany_b214_ok zs _ _ _ hr
  have hr := nk_ifn hc18 hr
  by_cases hc19 : v3 = 22
  · have hr := nk_ifp hc19 hr
    refine nk_p (i := .tableswitch 206 3 45 #[188, 206, 188, 188, 190, 206, 206, 206, 206, 206, 206, 206, 206, 206, 206, 188, 206, 206, 206, 206, 206, 206, 206, 188, 188, 190, 190, 206, 188, 188, 190, 192, 188, 190, 188, 188, 194, 194, 188, 188, 206, 206, 188]) (len := 188) (pc' := 214) mJ_134 (by decide +kernel) (ns_tsw (V := 22) hc19 (by decide +kernel)) rfl ?_
    refine nk_sub [0] (L' := [(2, nk_i v3)]) rfl ?_
    exact ja_X13_howMany_b214_ok zs _ _ _ hr
  have hr := nk_ifn hc19 hr
  by_cases hc20 : v3 = 23
  · have hr := nk_ifp hc20 hr
    refine nk_p (i := .tableswitch 206 3 45 #[188, 206, 188, 188, 190, 206, 206, 206, 206, 206, 206, 206, 206, 206, 206, 188, 206, 206, 206, 206, 206, 206, 206, 188, 188, 190, 190, 206, 188, 188, 190, 192, 188, 190, 188, 188, 194, 194, 188, 188, 206, 206, 188]) (len := 188) (pc' := 214) mJ_134 (by decide +kernel) (ns_tsw (V := 23) hc20 (by decide +kernel)) rfl ?_
    refine nk_sub [0] (L' := [(2, nk_i v3)]) rfl ?_
    exact ja_X13_howMany_b214_ok zs _ _ _ hr
  have hr := nk_ifn hc20 hr
  by_cases hc21 : v3 = 24
  · have hr := nk_ifp hc21 hr
    refine nk_p (i := .tableswitch 206 3 45 #[188, 206, 188, 188, 190, 206, 206, 206, 206, 206, 206, 206, 206, 206, 206, 188, 206, 206, 206, 206, 206, 206, 206, 188, 188, 190, 190, 206, 188, 188, 190, 192, 188, 190, 188, 188, 194, 194, 188, 188, 206, 206, 188]) (len := 188) (pc' := 214) mJ_134 (by decide +kernel) (ns_tsw (V := 24) hc21 (by decide +kernel)) rfl ?_
    refine nk_sub [0] (L' := [(2, nk_i v3)]) rfl ?_
    exact ja_X13_howMany_b214_ok zs _ _ _ hr
  have hr := nk_ifn hc21 hr
  by_cases hc22 : v3 = 25
  · have hr := nk_ifp hc22 hr
    refine nk_p (i := .tableswitch 206 3 45 #[188, 206, 188, 188, 190, 206, 206, 206, 206, 206, 206, 206, 206, 206, 206, 188, 206, 206, 206, 206, 206, 206, 206, 188, 188, 190, 190, 206, 188, 188, 190, 192, 188, 190, 188, 188, 194, 194, 188, 188, 206, 206, 188]) (len := 188) (pc' := 214) mJ_134 (by decide +kernel) (ns_tsw (V := 25) hc22 (by decide +kernel)) rfl ?_
    refine nk_sub [0] (L' := [(2, nk_i v3)]) rfl ?_
    exact ja_X13_howMany_b214_ok zs _ _ _ hr
  have hr := nk_ifn hc22 hr
  by_cases hc23 : v3 = 26
  · have hr := nk_ifp hc23 hr
    refine nk_p (i := .tableswitch 206 3 45 #[188, 206, 188, 188, 190, 206, 206, 206, 206, 206, 206, 206, 206, 206, 206, 188, 206, 206, 206, 206, 206, 206, 206, 188, 188, 190, 190, 206, 188, 188, 190, 192, 188, 190, 188, 188, 194, 194, 188, 188, 206, 206, 188]) (len := 188) (pc' := 196) mJ_134 (by decide +kernel) (ns_tsw (V := 26) hc23 (by decide +kernel)) rfl ?_
    refine nk_p (i := .iconst 1) (len := 1) (pc' := 197) mJ_134 (by decide +kernel) (ns_iconst (c := 1) (by decide +kernel)) rfl ?_
    cases hr
    exact nk_iret (ty := .int) (len := 1) mJ_134 (by decide +kernel) rfl (nk_nar_i _)
  have hr := nk_ifn hc23 hr
  by_cases hc24 : v3 = 27
  · have hr := nk_ifp hc24 hr
    refine nk_p (i := .tableswitch 206 3 45 #[188, 206, 188, 188, 190, 206, 206, 206, 206, 206, 206, 206, 206, 206, 206, 188, 206, 206, 206, 206, 206, 206, 206, 188, 188, 190, 190, 206, 188, 188, 190, 192, 188, 190, 188, 188, 194, 194, 188, 188, 206, 206, 188]) (len := 188) (pc' := 196) mJ_134 (by decide +kernel) (ns_tsw (V := 27) hc24 (by decide +kernel)) rfl ?_
    refine nk_p (i := .iconst 1) (len := 1) (pc' := 197) mJ_134 (by decide +kernel) (ns_iconst (c := 1) (by decide +kernel)) rfl ?_
    cases hr
    exact nk_iret (ty := .int) (len := 1) mJ_134 (by decide +kernel) rfl (nk_nar_i _)
  have hr := nk_ifn hc24 hr
  by_cases hc25 : v3 = 28
  · have hr := nk_ifp hc25 hr
    refine nk_p (i := .tableswitch 206 3 45 #[188, 206, 188, 188, 190, 206, 206, 206, 206, 206, 206, 206, 206, 206, 206, 188, 206, 206, 206, 206, 206, 206, 206, 188, 188, 190, 190, 206, 188, 188, 190, 192, 188, 190, 188, 188, 194, 194, 188, 188, 206, 206, 188]) (len := 188) (pc' := 198) mJ_134 (by decide +kernel) (ns_tsw (V := 28) hc25 (by decide +kernel)) rfl ?_
    refine nk_p (i := .iconst 2) (len := 1) (pc' := 199) mJ_134 (by decide +kernel) (ns_iconst (c := 2) (by decide +kernel)) rfl ?_
    cases hr
    exact nk_iret (ty := .int) (len := 1) mJ_134 (by decide +kernel) rfl (nk_nar_i _)
  have hr := nk_ifn hc25 hr
  by_cases hc26 : v3 = 29
  · have hr := nk_ifp hc26 hr
    refine nk_p (i := .tableswitch 206 3 45 #[188, 206, 188, 188, 190, 206, 206, 206, 206, 206, 206, 206, 206, 206, 206, 188, 206, 206, 206, 206, 206, 206, 206, 188, 188, 190, 190, 206, 188, 188, 190, 192, 188, 190, 188, 188, 194, 194, 188, 188, 206, 206, 188]) (len := 188) (pc' := 198) mJ_134 (by decide +kernel) (ns_tsw (V := 29) hc26 (by decide +kernel)) rfl ?_
    refine nk_p (i := .iconst 2) (len := 1) (pc' := 199) mJ_134 (by decide +kernel) (ns_iconst (c := 2) (by decide +kernel)) rfl ?_
    cases hr
    exact nk_iret (ty := .int) (len := 1) mJ_134 (by decide +kernel) rfl (nk_nar_i _)
  have hr := nk_ifn hc26 hr
  by_cases hc27 : v3 = 30
  · have hr := nk_ifp hc27 hr
    refine nk_p (i := .tableswitch 206 3 45 #[188, 206, 188, 188, 190, 206, 206, 206, 206, 206, 206, 206, 206, 206, 206, 188, 206, 206, 206, 206, 206, 206, 206, 188, 188, 190, 190, 206, 188, 188, 190, 192, 188, 190, 188, 188, 194, 194, 188, 188, 206, 206, 188]) (len := 188) (pc' := 214) mJ_134 (by decide +kernel) (ns_tsw (V := 30) hc27 (by decide +kernel)) rfl ?_
    refine nk_sub [0] (L' := [(2, nk_i v3)]) rfl ?_
    exact ja_X13_howMany_b214_ok zs _ _ _ hr
  have hr := nk_ifn hc27 hr
  by_cases hc28 : v3 = 31
  · have hr := nk_ifp hc28 hr
    refine nk_p (i := .tableswitch 206 3 45 #[188, 206, 188, 188, 190, 206, 206, 206, 206, 206, 206, 206, 206, 206, 206, 188, 206, 206, 206, 206, 206, 206, 206, 188, 188, 190, 190, 206, 188, 188, 190, 192, 188, 190, 188, 188, 194, 194, 188, 188, 206, 206, 188]) (len := 188) (pc' := 196) mJ_134 (by decide +kernel) (ns_tsw (V := 31) hc28 (by decide +kernel)) rfl ?_
    refine nk_p (i := .iconst 1) (len := 1) (pc' := 197) mJ_134 (by decide +kernel) (ns_iconst (c := 1) (by decide +kernel)) rfl ?_
    cases hr
    exact nk_iret (ty := .int) (len := 1) mJ_134 (by decide +kernel) rfl (nk_nar_i _)
  have hr := nk_ifn hc28 hr
  by_cases hc29 : v3 = 32
  · have hr := nk_ifp hc29 hr
    refine nk_p (i := .tableswitch 206 3 45 #[188, 206, 188, 188, 190, 206, 206, 206, 206, 206, 206, 206, 206, 206, 206, 188, 206, 206, 206, 206, 206, 206, 206, 188, 188, 190, 190, 206, 188, 188, 190, 192, 188, 190, 188, 188, 194, 194, 188, 188, 206, 206, 188]) (len := 188) (pc' := 196) mJ_134 (by decide +kernel) (ns_tsw (V := 32) hc29 (by decide +kernel)) rfl ?_
    refine nk_p (i := .iconst 1) (len := 1) (pc' := 197) mJ_134 (by decide +kernel) (ns_iconst (c := 1) (by decide +kernel)) rfl ?_
    cases hr
    exact nk_iret (ty := .int) (len := 1) mJ_134 (by decide +kernel) rfl (nk_nar_i _)
  have hr := nk_ifn hc29 hr
  by_cases hc30 : v3 = 33
  · have hr := nk_ifp hc30 hr
    refine nk_p (i := .tableswitch 206 3 45 #[188, 206, 188, 188, 190, 206, 206, 206, 206, 206, 206, 206, 206, 206, 206, 188, 206, 206, 206, 206, 206, 206, 206, 188, 188, 190, 190, 206, 188, 188, 190, 192, 188, 190, 188, 188, 194, 194, 188, 188, 206, 206, 188]) (len := 188) (pc' := 198) mJ_134 (by decide +kernel) (ns_tsw (V := 33) hc30 (by decide +kernel)) rfl ?_
    refine nk_p (i := .iconst 2) (len := 1) (pc' := 199) mJ_134 (by decide +kernel) (ns_iconst (c := 2) (by decide +kernel)) rfl ?_
    cases hr
    exact nk_iret (ty := .int) (len := 1) mJ_134 (by decide +kernel) rfl (nk_nar_i _)
  have hr := nk_ifn hc30 hr
  by_cases hc31 : v3 = 34
  · have hr := nk_ifp hc31 hr
    refine nk_p (i := .tableswitch 206 3 45 #[188, 206, 188, 188, 190, 206, 206, 206, 206, 206, 206, 206, 206, 206, 206, 188, 206, 206, 206, 206, 206, 206, 206, 188, 188, 190, 190, 206, 188, 188, 190, 192, 188, 190, 188, 188, 194, 194, 188, 188, 206, 206, 188]) (len := 188) (pc' := 200) mJ_134 (by decide +kernel) (ns_tsw (V := 34) hc31 (by decide +kernel)) rfl ?_
    refine nk_p (i := .iconst 3) (len := 1) (pc' := 201) mJ_134 (by decide +kernel) (ns_iconst (c := 3) (by decide +kernel)) rfl ?_
    cases hr
    exact nk_iret (ty := .int) (len := 1) mJ_134 (by decide +kernel) rfl (nk_nar_i _)
  have hr := nk_ifn hc31 hr
  by_cases hc32 : v3 = 35
  · have hr := nk_ifp hc32 hr
    refine nk_p (i := .tableswitch 206 3 45 #[188, 206, 188, 188, 190, 206, 206, 206, 206, 206, 206, 206, 206, 206, 206, 188, 206, 206, 206, 206, 206, 206, 206, 188, 188, 190, 190, 206, 188, 188, 190, 192, 188, 190, 188, 188, 194, 194, 188, 188, 206, 206, 188]) (len := 188) (pc' := 196) mJ_134 (by decide +kernel) (ns_tsw (V := 35) hc32 (by decide +kernel)) rfl ?_
    refine nk_p (i := .iconst 1) (len := 1) (pc' := 197) mJ_134 (by decide +kernel) (ns_iconst (c := 1) (by decide +kernel)) rfl ?_
    cases hr
    exact nk_iret (ty := .int) (len := 1) mJ_134 (by decide +kernel) rfl (nk_nar_i _)
  have hr := nk_ifn hc32 hr
  by_cases hc33 : v3 = 36
  · have hr := nk_ifp hc33 hr
    refine nk_p (i := .tableswitch 206 3 45 #[188, 206, 188, 188, 190, 206, 206, 206, 206, 206, 206, 206, 206, 206, 206, 188, 206, 206, 206, 206, 206, 206, 206, 188, 188, 190, 190, 206, 188, 188, 190, 192, 188, 190, 188, 188, 194, 194, 188, 188, 206, 206, 188]) (len := 188) (pc' := 198) mJ_134 (by decide +kernel) (ns_tsw (V := 36) hc33 (by decide +kernel)) rfl ?_
    refine nk_p (i := .iconst 2) (len := 1) (pc' := 199) mJ_134 (by decide +kernel) (ns_iconst (c := 2) (by decide +kernel)) rfl ?_
    cases hr
    exact nk_iret (ty := .int) (len := 1) mJ_134 (by decide +kernel) rfl (nk_nar_i _)
  have hr := nk_ifn hc33 hr
  by_cases hc34 : v3 = 37
  · have hr := nk_ifp hc34 hr
    refine nk_p (i := .tableswitch 206 3 45 #[188, 206, 188, 188, 190, 206, 206, 206, 206, 206, 206, 206, 206, 206, 206, 188, 206, 206, 206, 206, 206, 206, 206, 188, 188, 190, 190, 206, 188, 188, 190, 192, 188, 190, 188, 188, 194, 194, 188, 188, 206, 206, 188]) (len := 188) (pc' := 196) mJ_134 (by decide +kernel) (ns_tsw (V := 37) hc34 (by decide +kernel)) rfl ?_
    refine nk_p (i := .iconst 1) (len := 1) (pc' := 197) mJ_134 (by decide +kernel) (ns_iconst (c := 1) (by decide +kernel)) rfl ?_
    cases hr
    exact nk_iret (ty := .int) (len := 1) mJ_134 (by decide +kernel) rfl (nk_nar_i _)
  have hr := nk_ifn hc34 hr
  by_cases hc35 : v3 = 38
  · have hr := nk_ifp hc35 hr
    refine nk_p (i := .tableswitch 206 3 45 #[188, 206, 188, 188, 190, 206, 206, 206, 206, 206, 206, 206, 206, 206, 206, 188, 206, 206, 206, 206, 206, 206, 206, 188, 188, 190, 190, 206, 188, 188, 190, 192, 188, 190, 188, 188, 194, 194, 188, 188, 206, 206, 188]) (len := 188) (pc' := 196) mJ_134 (by decide +kernel) (ns_tsw (V := 38) hc35 (by decide +kernel)) rfl ?_
    refine nk_p (i := .iconst 1) (len := 1) (pc' := 197) mJ_134 (by decide +kernel) (ns_iconst (c := 1) (by decide +kernel)) rfl ?_
    cases hr
    exact nk_iret (ty := .int) (len := 1) mJ_134 (by decide +kernel) rfl (nk_nar_i _)
  have hr := nk_ifn hc35 hr
  by_cases hc36 : v3 = 39
  · have hr := nk_ifp hc36 hr
    refine nk_p (i := .tableswitch 206 3 45 #[188, 206, 188, 188, 190, 206, 206, 206, 206, 206, 206, 206, 206, 206, 206, 188, 206, 206, 206, 206, 206, 206, 206, 188, 188, 190, 190, 206, 188, 188, 190, 192, 188, 190, 188, 188, 194, 194, 188, 188, 206, 206, 188]) (len := 188) (pc' := 202) mJ_134 (by decide +kernel) (ns_tsw (V := 39) hc36 (by decide +kernel)) rfl ?_
    refine nk_sub [1, 2] (L' := [(0, nk_r l0), (1, nk_i l1)]) rfl ?_
    exact ja_X13_howMany_b202_ok zs _ _ _ _ t_l0 hr
  have hr := nk_ifn hc36 hr
  by_cases hc37 : v3 = 40
  · have hr := nk_ifp hc37 hr
    refine nk_p (i := .tableswitch 206 3 45 #[188, 206, 188, 188, 190, 206, 206, 206, 206, 206, 206, 206, 206, 206, 206, 188, 206, 206, 206, 206, 206, 206, 206, 188, 188, 190, 190, 206, 188, 188, 190, 192, 188, 190, 188, 188, 194, 194, 188, 188, 206, 206, 188]) (len := 188) (pc' := 202) mJ_134 (by decide +kernel) (ns_tsw (V := 40) hc37 (by decide +kernel)) rfl ?_
    refine nk_sub [1, 2] (L' := [(0, nk_r l0), (1, nk_i l1)]) rfl ?_
    exact ja_X13_howMany_b202_ok zs _ _ _ _ t_l0 hr
  have hr := nk_ifn hc37 hr
  by_cases hc38 : v3 = 41
  · have hr := nk_ifp hc38 hr
    refine nk_p (i := .tableswitch 206 3 45 #[188, 206, 188, 188, 190, 206, 206, 206, 206, 206, 206, 206, 206, 206, 206, 188, 206, 206, 206, 206, 206, 206, 206, 188, 188, 190, 190, 206, 188, 188, 190, 192, 188, 190, 188, 188, 194, 194, 188, 188, 206, 206, 188]) (len := 188) (pc' := 196) mJ_134 (by decide +kernel) (ns_tsw (V := 41) hc38 (by decide +kernel)) rfl ?_
    refine nk_p (i := .iconst 1) (len := 1) (pc' := 197) mJ_134 (by decide +kernel) (ns_iconst (c := 1) (by decide +kernel)) rfl ?_
    cases hr
    exact nk_iret (ty := .int) (len := 1) mJ_134 (by decide +kernel) rfl (nk_nar_i _)
  have hr := nk_ifn hc38 hr
  by_cases hc39 : v3 = 42
  · have hr := nk_ifp hc39 hr
    refine nk_p (i := .tableswitch 206 3 45 #[188, 206, 188, 188, 190, 206, 206, 206, 206, 206, 206, 206, 206, 206, 206, 188, 206, 206, 206, 206, 206, 206, 206, 188, 188, 190, 190, 206, 188, 188, 190, 192, 188, 190, 188, 188, 194, 194, 188, 188, 206, 206, 188]) (len := 188) (pc' := 196) mJ_134 (by decide +kernel) (ns_tsw (V := 42) hc39 (by decide +kernel)) rfl ?_
    refine nk_p (i := .iconst 1) (len := 1) (pc' := 197) mJ_134 (by decide +kernel) (ns_iconst (c := 1) (by decide +kernel)) rfl ?_
    cases hr
    exact nk_iret (ty := .int) (len := 1) mJ_134 (by decide +kernel) rfl (nk_nar_i _)
  have hr := nk_ifn hc39 hr
  by_cases hc40 : v3 = 43
  · have hr := nk_ifp hc40 hr
    refine nk_p (i := .tableswitch 206 3 45 #[188, 206, 188, 188, 190, 206, 206, 206, 206, 206, 206, 206, 206, 206, 206, 188, 206, 206, 206, 206, 206, 206, 206, 188, 188, 190, 190, 206, 188, 188, 190, 192, 188, 190, 188, 188, 194, 194, 188, 188, 206, 206, 188]) (len := 188) (pc' := 214) mJ_134 (by decide +kernel) (ns_tsw (V := 43) hc40 (by decide +kernel)) rfl ?_
    refine nk_sub [0] (L' := [(2, nk_i v3)]) rfl ?_
    exact ja_X13_howMany_b214_ok zs _ _ _ hr
  have hr := nk_ifn hc40 hr
  by_cases hc41 : v3 = 44
  · have hr := nk_ifp hc41 hr
    refine nk_p (i := .tableswitch 206 3 45 #[188, 206, 188, 188, 190, 206, 206, 206, 206, 206, 206, 206, 206, 206, 206, 188, 206, 206, 206, 206, 206, 206, 206, 188, 188, 190, 190, 206, 188, 188, 190, 192, 188, 190, 188, 188, 194, 194, 188, 188, 206, 206, 188]) (len := 188) (pc' := 214) mJ_134 (by decide +kernel) (ns_tsw (V := 44) hc41 (by decide +kernel)) rfl ?_
    refine nk_sub [0] (L' := [(2, nk_i v3)]) rfl ?_
    exact ja_X13_howMany_b214_ok zs _ _ _ hr
  have hr := nk_ifn hc41 hr
  by_cases hc42 : v3 = 45
  · have hr := nk_ifp hc42 hr
    refine nk_p (i := .tableswitch 206 3 45 #[188, 206, 188, 188, 190, 206, 206, 206, 206, 206, 206, 206, 206, 206, 206, 188, 206, 206, 206, 206, 206, 206, 206, 188, 188, 190, 190, 206, 188, 188, 190, 192, 188, 190, 188, 188, 194, 194, 188, 188, 206, 206, 188]) (len := 188) (pc' := 196) mJ_134 (by decide +kernel) (ns_tsw (V := 45) hc42 (by decide +kernel)) rfl ?_
    refine nk_p (i := .iconst 1) (len := 1) (pc' := 197) mJ_134 (by decide +kernel) (ns_iconst (c := 1) (by decide +kernel)) rfl ?_
    cases hr
    exact nk_iret (ty := .int) (len := 1) mJ_134 (by decide +kernel) rfl (nk_nar_i _)
  have hr := nk_ifn hc42 hr
  refine nk_p (i := .tableswitch 206 3 45 #[188, 206, 188, 188, 190, 206, 206, 206, 206, 206, 206, 206, 206, 206, 206, 188, 206, 206, 206, 206, 206, 206, 206, 188, 188, 190, 190, 206, 188, 188, 190, 192, 188, 190, 188, 188, 194, 194, 188, 188, 206, 206, 188]) (len := 188) (pc' := 214) mJ_134 (by decide +kernel) (ns_tsd (by omega) (by decide +kernel)) rfl ?_
  refine nk_sub [0] (L' := [(2, nk_i v3)]) rfl ?_
  exact ja_X13_howMany_b214_ok zs _ _ _ hr
/-! SafeCodeModel leaves (LSafeCodeModel$Program;I)I -/
noncomputable def ja_X13_leaves_b229 (l2 : Int) (S : nk_S) : Option (Int × nk_S) :=
  if l2 < 8 then
    some (0, S)
  else
    if 17 < l2 then
      some (0, S)
    else
      some (1, S)
theorem ja_X13_leaves_b229_ok (zs : List Int32) : ∀ (l2 : Int) (S : nk_S) (R : Int × nk_S), ja_X13_leaves_b229 l2 S = some R → nk_K ja_Tt mi_Γ (mi_ev zs) 1 178 229 [(2, nk_i l2)] [] S R := by
  intro l2 S R hr
  unfold ja_X13_leaves_b229 at hr
  refine nk_p (i := .iload_n 2) (len := 1) (pc' := 230) mJ_178 (by decide +kernel) (ns_iload_n 0 rfl rfl) rfl ?_
  refine nk_p (i := .bipush 8) (len := 2) (pc' := 232) mJ_178 (by decide +kernel) (ns_bipush (c := 8) (by decide +kernel)) rfl ?_
  refine nk_icmp (c := .lt) (off := 13) (len := 3) (t := 245) (pc' := 235) mJ_178 (by decide +kernel) (by decide +kernel) rfl (fun hc => ?_) (fun hc => ?_)
  · have hr := nk_ifp (c := l2 < 8) hc hr
    refine nk_p (i := .iconst 0) (len := 1) (pc' := 246) mJ_178 (by decide +kernel) (ns_iconst (c := 0) (by decide +kernel)) rfl ?_
    cases hr
    exact nk_iret (ty := .int) (len := 1) mJ_178 (by decide +kernel) rfl (nk_nar_i _)
  · have hr := nk_ifn (c := l2 < 8) hc hr
    refine nk_p (i := .iload_n 2) (len := 1) (pc' := 236) mJ_178 (by decide +kernel) (ns_iload_n 0 rfl rfl) rfl ?_
    refine nk_p (i := .bipush 17) (len := 2) (pc' := 238) mJ_178 (by decide +kernel) (ns_bipush (c := 17) (by decide +kernel)) rfl ?_
    refine nk_icmp (c := .gt) (off := 7) (len := 3) (t := 245) (pc' := 241) mJ_178 (by decide +kernel) (by decide +kernel) rfl (fun hc => ?_) (fun hc => ?_)
    · have hr := nk_ifp (c := 17 < l2) hc hr
      refine nk_p (i := .iconst 0) (len := 1) (pc' := 246) mJ_178 (by decide +kernel) (ns_iconst (c := 0) (by decide +kernel)) rfl ?_
      cases hr
      exact nk_iret (ty := .int) (len := 1) mJ_178 (by decide +kernel) rfl (nk_nar_i _)
    · have hr := nk_ifn (c := 17 < l2) hc hr
      refine nk_p (i := .iconst 1) (len := 1) (pc' := 242) mJ_178 (by decide +kernel) (ns_iconst (c := 1) (by decide +kernel)) rfl ?_
      refine nk_p (i := .goto 4) (len := 3) (pc' := 246) mJ_178 (by decide +kernel) (ns_goto (by decide +kernel)) rfl ?_
      cases hr
      exact nk_iret (ty := .int) (len := 1) mJ_178 (by decide +kernel) rfl (nk_nar_i _)
noncomputable def ja_X13_leaves_b208 (l0 : Nat) (l1 : Int) (S : nk_S) : Option (Int × nk_S) :=
  if 0 ≤ l1 ∧ l1 < 1024 then
  if 0 ≤ (S.1 (ja_c l0 23) l1.toNat) ∧ (S.1 (ja_c l0 23) l1.toNat) < 48 then
  if (S.1 (ja_c l0 17) (S.1 (ja_c l0 23) l1.toNat).toNat) = (-1) then
    some (0, S)
  else
    some (1, S)
  else none
  else none
theorem ja_X13_leaves_b208_ok (zs : List Int32) : ∀ (l0 : Nat) (l1 : Int) (S : nk_S) (R : Int × nk_S), nk_cl ja_Tt l0 = some 12 → ja_X13_leaves_b208 l0 l1 S = some R → nk_K ja_Tt mi_Γ (mi_ev zs) 1 178 208 [(0, nk_r l0), (1, nk_i l1)] [] S R := by
  intro l0 l1 S R t_l0 hr
  unfold ja_X13_leaves_b208 at hr
  refine nk_p (i := .aload_n 0) (len := 1) (pc' := 209) mJ_178 (by decide +kernel) (ns_aload_n 0 rfl rfl) rfl ?_
  refine nk_getC (f := (4, 1, 48)) (x := 343) (len := 3) (ci := 12) (k := 17) (pc' := 212) ja_okT mJ_178 (by decide +kernel) (by decide +kernel) (by decide +kernel) (by decide) t_l0 rfl ?_
  have t1 : nk_ar ja_Tt (ja_c l0 17) = some (1, 48) := nk_ta ja_okT t_l0 (by decide +kernel)
  refine nk_p (i := .aload_n 0) (len := 1) (pc' := 213) mJ_178 (by decide +kernel) (ns_aload_n 0 rfl rfl) rfl ?_
  refine nk_getC (f := (4, 1, 1024)) (x := 414) (len := 3) (ci := 12) (k := 23) (pc' := 216) ja_okT mJ_178 (by decide +kernel) (by decide +kernel) (by decide +kernel) (by decide) t_l0 rfl ?_
  have t2 : nk_ar ja_Tt (ja_c l0 23) = some (1, 1024) := nk_ta ja_okT t_l0 (by decide +kernel)
  refine nk_p (i := .iload_n 1) (len := 1) (pc' := 217) mJ_178 (by decide +kernel) (ns_iload_n 1 rfl rfl) rfl ?_
  obtain ⟨h3, hr⟩ := nk_cke hr
  refine nk_iald (len := 1) (N := 1024) (pc' := 218) mJ_178 (by decide +kernel) t2 h3.1 h3.2 rfl rfl ?_
  obtain ⟨h4, hr⟩ := nk_cke hr
  refine nk_iald (len := 1) (N := 48) (pc' := 219) mJ_178 (by decide +kernel) t1 h4.1 h4.2 rfl rfl ?_
  refine nk_p (i := .iconst (-1)) (len := 1) (pc' := 220) mJ_178 (by decide +kernel) (ns_iconst (c := (-1)) (by decide +kernel)) rfl ?_
  refine nk_icmp (c := .ne) (off := 7) (len := 3) (t := 227) (pc' := 223) mJ_178 (by decide +kernel) (by decide +kernel) rfl (fun hc => ?_) (fun hc => ?_)
  · have hr := nk_ifn (c := (S.1 (ja_c l0 17) (S.1 (ja_c l0 23) l1.toNat).toNat) = (-1)) hc hr
    refine nk_p (i := .iconst 1) (len := 1) (pc' := 228) mJ_178 (by decide +kernel) (ns_iconst (c := 1) (by decide +kernel)) rfl ?_
    cases hr
    exact nk_iret (ty := .int) (len := 1) mJ_178 (by decide +kernel) rfl (nk_nar_i _)
  · have hr := nk_ifp (c := (S.1 (ja_c l0 17) (S.1 (ja_c l0 23) l1.toNat).toNat) = (-1)) (Decidable.of_not_not hc) hr
    refine nk_p (i := .iconst 0) (len := 1) (pc' := 224) mJ_178 (by decide +kernel) (ns_iconst (c := 0) (by decide +kernel)) rfl ?_
    refine nk_p (i := .goto 4) (len := 3) (pc' := 228) mJ_178 (by decide +kernel) (ns_goto (by decide +kernel)) rfl ?_
    cases hr
    exact nk_iret (ty := .int) (len := 1) mJ_178 (by decide +kernel) rfl (nk_nar_i _)
noncomputable def ja_X13_leaves (l0 : Nat) (l1 : Int) (S : nk_S) : Option (Int × nk_S) :=
  if 0 ≤ l1 ∧ l1 < 1024 then
  nk_lt (S.1 (ja_c l0 22) l1.toNat) fun v3 =>
  if v3 = 0 then
    some (1, S)
  else
  if v3 = 1 then
    some (1, S)
  else
  if v3 = 2 then
    some (1, S)
  else
  if v3 = 3 then
    ja_X13_leaves_b229 v3 S
  else
  if v3 = 4 then
    ja_X13_leaves_b229 v3 S
  else
  if v3 = 5 then
    some (2, S)
  else
  if v3 = 6 then
    ja_X13_leaves_b229 v3 S
  else
  if v3 = 7 then
    some (2, S)
  else
  if v3 = 8 then
    ja_X13_leaves_b229 v3 S
  else
  if v3 = 9 then
    ja_X13_leaves_b229 v3 S
  else
  if v3 = 10 then
    ja_X13_leaves_b229 v3 S
  else
  if v3 = 11 then
    ja_X13_leaves_b229 v3 S
  else
  if v3 = 12 then
    ja_X13_leaves_b229 v3 S
  else
  if v3 = 13 then
    ja_X13_leaves_b229 v3 S
  else
  if v3 = 14 then
    ja_X13_leaves_b229 v3 S
  else
  if v3 = 15 then
    ja_X13_leaves_b229 v3 S
  else
  if v3 = 16 then
    ja_X13_leaves_b229 v3 S
  else
  if v3 = 17 then
    ja_X13_leaves_b229 v3 S
  else
  if v3 = 18 then
    some (1, S)
  else
  if v3 = 19 then
    ja_X13_leaves_b229 v3 S
  else
  if v3 = 20 then
    ja_X13_leaves_b229 v3 S
  else
  if v3 = 21 then
    ja_X13_leaves_b229 v3 S
  else
  if v3 = 22 then
    ja_X13_leaves_b229 v3 S
  else
  if v3 = 23 then
    ja_X13_leaves_b229 v3 S
  else
  if v3 = 24 then
    ja_X13_leaves_b229 v3 S
  else
  if v3 = 25 then
    ja_X13_leaves_b229 v3 S
  else
  if v3 = 26 then
    ja_X13_leaves_b229 v3 S
  else
  if v3 = 27 then
    ja_X13_leaves_b229 v3 S
  else
  if v3 = 28 then
    ja_X13_leaves_b229 v3 S
  else
  if v3 = 29 then
    ja_X13_leaves_b229 v3 S
  else
  if v3 = 30 then
    some (1, S)
  else
  if v3 = 31 then
    some (1, S)
  else
  if v3 = 32 then
    some (1, S)
  else
  if v3 = 33 then
    some (1, S)
  else
  if v3 = 34 then
    ja_X13_leaves_b229 v3 S
  else
  if v3 = 35 then
    some (1, S)
  else
  if v3 = 36 then
    ja_X13_leaves_b229 v3 S
  else
  if v3 = 37 then
    some (1, S)
  else
  if v3 = 38 then
    some (1, S)
  else
  if v3 = 39 then
    ja_X13_leaves_b208 l0 l1 S
  else
  if v3 = 40 then
    ja_X13_leaves_b208 l0 l1 S
  else
  if v3 = 41 then
    ja_X13_leaves_b229 v3 S
  else
  if v3 = 42 then
    ja_X13_leaves_b229 v3 S
  else
  if v3 = 43 then
    ja_X13_leaves_b229 v3 S
  else
  if v3 = 44 then
    some (1, S)
  else
  ja_X13_leaves_b229 v3 S
  else none
theorem ja_X13_leaves_ok (zs : List Int32) : ∀ (l0 : Nat) (l1 : Int) (S : nk_S) (R : Int × nk_S), nk_cl ja_Tt l0 = some 12 → ja_X13_leaves l0 l1 S = some R → nk_K ja_Tt mi_Γ (mi_ev zs) 1 178 0 [(0, nk_r l0), (1, nk_i l1)] [] S R := by
  intro l0 l1 S R t_l0 hr
  unfold ja_X13_leaves at hr
  refine nk_p (i := .aload_n 0) (len := 1) (pc' := 1) mJ_178 (by decide +kernel) (ns_aload_n 0 rfl rfl) rfl ?_
  refine nk_getC (f := (4, 1, 1024)) (x := 391) (len := 3) (ci := 12) (k := 22) (pc' := 4) ja_okT mJ_178 (by decide +kernel) (by decide +kernel) (by decide +kernel) (by decide) t_l0 rfl ?_
  have t1 : nk_ar ja_Tt (ja_c l0 22) = some (1, 1024) := nk_ta ja_okT t_l0 (by decide +kernel)
  refine nk_p (i := .iload_n 1) (len := 1) (pc' := 5) mJ_178 (by decide +kernel) (ns_iload_n 1 rfl rfl) rfl ?_
  obtain ⟨h2, hr⟩ := nk_cke hr
  refine nk_iald (len := 1) (N := 1024) (pc' := 6) mJ_178 (by decide +kernel) t1 h2.1 h2.2 rfl rfl ?_
  obtain ⟨v3, h4, hr⟩ := nk_lte hr
  refine nk_p (i := .istore_n 2) (len := 1) (pc' := 7) mJ_178 (by decide +kernel) (ns_istore_n (L' := [(2, nk_i v3), (0, nk_r l0), (1, nk_i l1)]) h4 rfl rfl (by decide +kernel)) rfl ?_
  refine nk_p (i := .iload_n 2) (len := 1) (pc' := 8) mJ_178 (by decide +kernel) (ns_iload_n 0 rfl rfl) rfl ?_
  by_cases hc0 : v3 = 0
  · have hr := nk_ifp hc0 hr
    refine nk_p (i := .tableswitch 221 0 44 #[196, 196, 196, 221, 221, 198, 221, 198, 221, 221, 221, 221, 221, 221, 221, 221, 221, 221, 196, 221, 221, 221, 221, 221, 221, 221, 221, 221, 221, 221, 196, 196, 196, 196, 221, 196, 221, 196, 196, 200, 200, 221, 221, 221, 196]) (len := 196) (pc' := 204) mJ_178 (by decide +kernel) (ns_tsw (V := 0) hc0 (by decide +kernel)) rfl ?_
    refine nk_p (i := .iconst 1) (len := 1) (pc' := 205) mJ_178 (by decide +kernel) (ns_iconst (c := 1) (by decide +kernel)) rfl ?_
    cases hr
    exact nk_iret (ty := .int) (len := 1) mJ_178 (by decide +kernel) rfl (nk_nar_i _)
  have hr := nk_ifn hc0 hr
  by_cases hc1 : v3 = 1
  · have hr := nk_ifp hc1 hr
    refine nk_p (i := .tableswitch 221 0 44 #[196, 196, 196, 221, 221, 198, 221, 198, 221, 221, 221, 221, 221, 221, 221, 221, 221, 221, 196, 221, 221, 221, 221, 221, 221, 221, 221, 221, 221, 221, 196, 196, 196, 196, 221, 196, 221, 196, 196, 200, 200, 221, 221, 221, 196]) (len := 196) (pc' := 204) mJ_178 (by decide +kernel) (ns_tsw (V := 1) hc1 (by decide +kernel)) rfl ?_
    refine nk_p (i := .iconst 1) (len := 1) (pc' := 205) mJ_178 (by decide +kernel) (ns_iconst (c := 1) (by decide +kernel)) rfl ?_
    cases hr
    exact nk_iret (ty := .int) (len := 1) mJ_178 (by decide +kernel) rfl (nk_nar_i _)
  have hr := nk_ifn hc1 hr
  by_cases hc2 : v3 = 2
  · have hr := nk_ifp hc2 hr
    refine nk_p (i := .tableswitch 221 0 44 #[196, 196, 196, 221, 221, 198, 221, 198, 221, 221, 221, 221, 221, 221, 221, 221, 221, 221, 196, 221, 221, 221, 221, 221, 221, 221, 221, 221, 221, 221, 196, 196, 196, 196, 221, 196, 221, 196, 196, 200, 200, 221, 221, 221, 196]) (len := 196) (pc' := 204) mJ_178 (by decide +kernel) (ns_tsw (V := 2) hc2 (by decide +kernel)) rfl ?_
    refine nk_p (i := .iconst 1) (len := 1) (pc' := 205) mJ_178 (by decide +kernel) (ns_iconst (c := 1) (by decide +kernel)) rfl ?_
    cases hr
    exact nk_iret (ty := .int) (len := 1) mJ_178 (by decide +kernel) rfl (nk_nar_i _)
  have hr := nk_ifn hc2 hr
  by_cases hc3 : v3 = 3
  · have hr := nk_ifp hc3 hr
    refine nk_p (i := .tableswitch 221 0 44 #[196, 196, 196, 221, 221, 198, 221, 198, 221, 221, 221, 221, 221, 221, 221, 221, 221, 221, 196, 221, 221, 221, 221, 221, 221, 221, 221, 221, 221, 221, 196, 196, 196, 196, 221, 196, 221, 196, 196, 200, 200, 221, 221, 221, 196]) (len := 196) (pc' := 229) mJ_178 (by decide +kernel) (ns_tsw (V := 3) hc3 (by decide +kernel)) rfl ?_
    refine nk_sub [0] (L' := [(2, nk_i v3)]) rfl ?_
    exact ja_X13_leaves_b229_ok zs _ _ _ hr
  have hr := nk_ifn hc3 hr
  by_cases hc4 : v3 = 4
  · have hr := nk_ifp hc4 hr
    refine nk_p (i := .tableswitch 221 0 44 #[196, 196, 196, 221, 221, 198, 221, 198, 221, 221, 221, 221, 221, 221, 221, 221, 221, 221, 196, 221, 221, 221, 221, 221, 221, 221, 221, 221, 221, 221, 196, 196, 196, 196, 221, 196, 221, 196, 196, 200, 200, 221, 221, 221, 196]) (len := 196) (pc' := 229) mJ_178 (by decide +kernel) (ns_tsw (V := 4) hc4 (by decide +kernel)) rfl ?_
    refine nk_sub [0] (L' := [(2, nk_i v3)]) rfl ?_
    exact ja_X13_leaves_b229_ok zs _ _ _ hr
  have hr := nk_ifn hc4 hr
  by_cases hc5 : v3 = 5
  · have hr := nk_ifp hc5 hr
    refine nk_p (i := .tableswitch 221 0 44 #[196, 196, 196, 221, 221, 198, 221, 198, 221, 221, 221, 221, 221, 221, 221, 221, 221, 221, 196, 221, 221, 221, 221, 221, 221, 221, 221, 221, 221, 221, 196, 196, 196, 196, 221, 196, 221, 196, 196, 200, 200, 221, 221, 221, 196]) (len := 196) (pc' := 206) mJ_178 (by decide +kernel) (ns_tsw (V := 5) hc5 (by decide +kernel)) rfl ?_
    refine nk_p (i := .iconst 2) (len := 1) (pc' := 207) mJ_178 (by decide +kernel) (ns_iconst (c := 2) (by decide +kernel)) rfl ?_
    cases hr
    exact nk_iret (ty := .int) (len := 1) mJ_178 (by decide +kernel) rfl (nk_nar_i _)
  have hr := nk_ifn hc5 hr
  by_cases hc6 : v3 = 6
  · have hr := nk_ifp hc6 hr
    refine nk_p (i := .tableswitch 221 0 44 #[196, 196, 196, 221, 221, 198, 221, 198, 221, 221, 221, 221, 221, 221, 221, 221, 221, 221, 196, 221, 221, 221, 221, 221, 221, 221, 221, 221, 221, 221, 196, 196, 196, 196, 221, 196, 221, 196, 196, 200, 200, 221, 221, 221, 196]) (len := 196) (pc' := 229) mJ_178 (by decide +kernel) (ns_tsw (V := 6) hc6 (by decide +kernel)) rfl ?_
    refine nk_sub [0] (L' := [(2, nk_i v3)]) rfl ?_
    exact ja_X13_leaves_b229_ok zs _ _ _ hr
  have hr := nk_ifn hc6 hr
  by_cases hc7 : v3 = 7
  · have hr := nk_ifp hc7 hr
    refine nk_p (i := .tableswitch 221 0 44 #[196, 196, 196, 221, 221, 198, 221, 198, 221, 221, 221, 221, 221, 221, 221, 221, 221, 221, 196, 221, 221, 221, 221, 221, 221, 221, 221, 221, 221, 221, 196, 196, 196, 196, 221, 196, 221, 196, 196, 200, 200, 221, 221, 221, 196]) (len := 196) (pc' := 206) mJ_178 (by decide +kernel) (ns_tsw (V := 7) hc7 (by decide +kernel)) rfl ?_
    refine nk_p (i := .iconst 2) (len := 1) (pc' := 207) mJ_178 (by decide +kernel) (ns_iconst (c := 2) (by decide +kernel)) rfl ?_
    cases hr
    exact nk_iret (ty := .int) (len := 1) mJ_178 (by decide +kernel) rfl (nk_nar_i _)
  have hr := nk_ifn hc7 hr
  by_cases hc8 : v3 = 8
  · have hr := nk_ifp hc8 hr
    refine nk_p (i := .tableswitch 221 0 44 #[196, 196, 196, 221, 221, 198, 221, 198, 221, 221, 221, 221, 221, 221, 221, 221, 221, 221, 196, 221, 221, 221, 221, 221, 221, 221, 221, 221, 221, 221, 196, 196, 196, 196, 221, 196, 221, 196, 196, 200, 200, 221, 221, 221, 196]) (len := 196) (pc' := 229) mJ_178 (by decide +kernel) (ns_tsw (V := 8) hc8 (by decide +kernel)) rfl ?_
    refine nk_sub [0] (L' := [(2, nk_i v3)]) rfl ?_
    exact ja_X13_leaves_b229_ok zs _ _ _ hr
  have hr := nk_ifn hc8 hr
  by_cases hc9 : v3 = 9
  · have hr := nk_ifp hc9 hr
    refine nk_p (i := .tableswitch 221 0 44 #[196, 196, 196, 221, 221, 198, 221, 198, 221, 221, 221, 221, 221, 221, 221, 221, 221, 221, 196, 221, 221, 221, 221, 221, 221, 221, 221, 221, 221, 221, 196, 196, 196, 196, 221, 196, 221, 196, 196, 200, 200, 221, 221, 221, 196]) (len := 196) (pc' := 229) mJ_178 (by decide +kernel) (ns_tsw (V := 9) hc9 (by decide +kernel)) rfl ?_
    refine nk_sub [0] (L' := [(2, nk_i v3)]) rfl ?_
    exact ja_X13_leaves_b229_ok zs _ _ _ hr
  have hr := nk_ifn hc9 hr
  by_cases hc10 : v3 = 10
  · have hr := nk_ifp hc10 hr
    refine nk_p (i := .tableswitch 221 0 44 #[196, 196, 196, 221, 221, 198, 221, 198, 221, 221, 221, 221, 221, 221, 221, 221, 221, 221, 196, 221, 221, 221, 221, 221, 221, 221, 221, 221, 221, 221, 196, 196, 196, 196, 221, 196, 221, 196, 196, 200, 200, 221, 221, 221, 196]) (len := 196) (pc' := 229) mJ_178 (by decide +kernel) (ns_tsw (V := 10) hc10 (by decide +kernel)) rfl ?_
    refine nk_sub [0] (L' := [(2, nk_i v3)]) rfl ?_
    exact ja_X13_leaves_b229_ok zs _ _ _ hr
  have hr := nk_ifn hc10 hr
  by_cases hc11 : v3 = 11
  · have hr := nk_ifp hc11 hr
    refine nk_p (i := .tableswitch 221 0 44 #[196, 196, 196, 221, 221, 198, 221, 198, 221, 221, 221, 221, 221, 221, 221, 221, 221, 221, 196, 221, 221, 221, 221, 221, 221, 221, 221, 221, 221, 221, 196, 196, 196, 196, 221, 196, 221, 196, 196, 200, 200, 221, 221, 221, 196]) (len := 196) (pc' := 229) mJ_178 (by decide +kernel) (ns_tsw (V := 11) hc11 (by decide +kernel)) rfl ?_
    refine nk_sub [0] (L' := [(2, nk_i v3)]) rfl ?_
    exact ja_X13_leaves_b229_ok zs _ _ _ hr
  have hr := nk_ifn hc11 hr
  by_cases hc12 : v3 = 12
  · have hr := nk_ifp hc12 hr
    refine nk_p (i := .tableswitch 221 0 44 #[196, 196, 196, 221, 221, 198, 221, 198, 221, 221, 221, 221, 221, 221, 221, 221, 221, 221, 196, 221, 221, 221, 221, 221, 221, 221, 221, 221, 221, 221, 196, 196, 196, 196, 221, 196, 221, 196, 196, 200, 200, 221, 221, 221, 196]) (len := 196) (pc' := 229) mJ_178 (by decide +kernel) (ns_tsw (V := 12) hc12 (by decide +kernel)) rfl ?_
    refine nk_sub [0] (L' := [(2, nk_i v3)]) rfl ?_
    exact ja_X13_leaves_b229_ok zs _ _ _ hr
  have hr := nk_ifn hc12 hr
  by_cases hc13 : v3 = 13
  · have hr := nk_ifp hc13 hr
    refine nk_p (i := .tableswitch 221 0 44 #[196, 196, 196, 221, 221, 198, 221, 198, 221, 221, 221, 221, 221, 221, 221, 221, 221, 221, 196, 221, 221, 221, 221, 221, 221, 221, 221, 221, 221, 221, 196, 196, 196, 196, 221, 196, 221, 196, 196, 200, 200, 221, 221, 221, 196]) (len := 196) (pc' := 229) mJ_178 (by decide +kernel) (ns_tsw (V := 13) hc13 (by decide +kernel)) rfl ?_
    refine nk_sub [0] (L' := [(2, nk_i v3)]) rfl ?_
    exact ja_X13_leaves_b229_ok zs _ _ _ hr
  have hr := nk_ifn hc13 hr
  by_cases hc14 : v3 = 14
  · have hr := nk_ifp hc14 hr
    refine nk_p (i := .tableswitch 221 0 44 #[196, 196, 196, 221, 221, 198, 221, 198, 221, 221, 221, 221, 221, 221, 221, 221, 221, 221, 196, 221, 221, 221, 221, 221, 221, 221, 221, 221, 221, 221, 196, 196, 196, 196, 221, 196, 221, 196, 196, 200, 200, 221, 221, 221, 196]) (len := 196) (pc' := 229) mJ_178 (by decide +kernel) (ns_tsw (V := 14) hc14 (by decide +kernel)) rfl ?_
    refine nk_sub [0] (L' := [(2, nk_i v3)]) rfl ?_
    exact ja_X13_leaves_b229_ok zs _ _ _ hr
  have hr := nk_ifn hc14 hr
  by_cases hc15 : v3 = 15
  · have hr := nk_ifp hc15 hr
    refine nk_p (i := .tableswitch 221 0 44 #[196, 196, 196, 221, 221, 198, 221, 198, 221, 221, 221, 221, 221, 221, 221, 221, 221, 221, 196, 221, 221, 221, 221, 221, 221, 221, 221, 221, 221, 221, 196, 196, 196, 196, 221, 196, 221, 196, 196, 200, 200, 221, 221, 221, 196]) (len := 196) (pc' := 229) mJ_178 (by decide +kernel) (ns_tsw (V := 15) hc15 (by decide +kernel)) rfl ?_
    refine nk_sub [0] (L' := [(2, nk_i v3)]) rfl ?_
    exact ja_X13_leaves_b229_ok zs _ _ _ hr
  have hr := nk_ifn hc15 hr
  by_cases hc16 : v3 = 16
  · have hr := nk_ifp hc16 hr
    refine nk_p (i := .tableswitch 221 0 44 #[196, 196, 196, 221, 221, 198, 221, 198, 221, 221, 221, 221, 221, 221, 221, 221, 221, 221, 196, 221, 221, 221, 221, 221, 221, 221, 221, 221, 221, 221, 196, 196, 196, 196, 221, 196, 221, 196, 196, 200, 200, 221, 221, 221, 196]) (len := 196) (pc' := 229) mJ_178 (by decide +kernel) (ns_tsw (V := 16) hc16 (by decide +kernel)) rfl ?_
    refine nk_sub [0] (L' := [(2, nk_i v3)]) rfl ?_
    exact ja_X13_leaves_b229_ok zs _ _ _ hr
  have hr := nk_ifn hc16 hr
  by_cases hc17 : v3 = 17
  · have hr := nk_ifp hc17 hr
    refine nk_p (i := .tableswitch 221 0 44 #[196, 196, 196, 221, 221, 198, 221, 198, 221, 221, 221, 221, 221, 221, 221, 221, 221, 221, 196, 221, 221, 221, 221, 221, 221, 221, 221, 221, 221, 221, 196, 196, 196, 196, 221, 196, 221, 196, 196, 200, 200, 221, 221, 221, 196]) (len := 196) (pc' := 229) mJ_178 (by decide +kernel) (ns_tsw (V := 17) hc17 (by decide +kernel)) rfl ?_
    refine nk_sub [0] (L' := [(2, nk_i v3)]) rfl ?_
    exact ja_X13_leaves_b229_ok zs _ _ _ hr
  have hr := nk_ifn hc17 hr
  by_cases hc18 : v3 = 18
  · have hr := nk_ifp hc18 hr
    refine nk_p (i := .tableswitch 221 0 44 #[196, 196, 196, 221, 221, 198, 221, 198, 221, 221, 221, 221, 221, 221, 221, 221, 221, 221, 196, 221, 221, 221, 221, 221, 221, 221, 221, 221, 221, 221, 196, 196, 196, 196, 221, 196, 221, 196, 196, 200, 200, 221, 221, 221, 196]) (len := 196) (pc' := 204) mJ_178 (by decide +kernel) (ns_tsw (V := 18) hc18 (by decide +kernel)) rfl ?_
    refine nk_p (i := .iconst 1) (len := 1) (pc' := 205) mJ_178 (by decide +kernel) (ns_iconst (c := 1) (by decide +kernel)) rfl ?_
    cases hr
    exact nk_iret (ty := .int) (len := 1) mJ_178 (by decide +kernel) rfl (nk_nar_i _)
  have hr := nk_ifn hc18 hr
  by_cases hc19 : v3 = 19
  · have hr := nk_ifp hc19 hr
    refine nk_p (i := .tableswitch 221 0 44 #[196, 196, 196, 221, 221, 198, 221, 198, 221, 221, 221, 221, 221, 221, 221, 221, 221, 221, 196, 221, 221, 221, 221, 221, 221, 221, 221, 221, 221, 221, 196, 196, 196, 196, 221, 196, 221, 196, 196, 200, 200, 221, 221, 221, 196]) (len := 196) (pc' := 229) mJ_178 (by decide +kernel) (ns_tsw (V := 19) hc19 (by decide +kernel)) rfl ?_
    refine nk_sub [0] (L' := [(2, nk_i v3)]) rfl ?_
    exact ja_X13_leaves_b229_ok zs _ _ _ hr
  have hr := nk_ifn hc19 hr
  by_cases hc20 : v3 = 20
  · have hr := nk_ifp hc20 hr
    refine nk_p (i := .tableswitch 221 0 44 #[196, 196, 196, 221, 221, 198, 221, 198, 221, 221, 221, 221, 221, 221, 221, 221, 221, 221, 196, 221, 221, 221, 221, 221, 221, 221, 221, 221, 221, 221, 196, 196, 196, 196, 221, 196, 221, 196, 196, 200, 200, 221, 221, 221, 196]) (len := 196) (pc' := 229) mJ_178 (by decide +kernel) (ns_tsw (V := 20) hc20 (by decide +kernel)) rfl ?_
    refine nk_sub [0] (L' := [(2, nk_i v3)]) rfl ?_
    exact ja_X13_leaves_b229_ok zs _ _ _ hr
  have hr := nk_ifn hc20 hr
  by_cases hc21 : v3 = 21
  · have hr := nk_ifp hc21 hr
    refine nk_p (i := .tableswitch 221 0 44 #[196, 196, 196, 221, 221, 198, 221, 198, 221, 221, 221, 221, 221, 221, 221, 221, 221, 221, 196, 221, 221, 221, 221, 221, 221, 221, 221, 221, 221, 221, 196, 196, 196, 196, 221, 196, 221, 196, 196, 200, 200, 221, 221, 221, 196]) (len := 196) (pc' := 229) mJ_178 (by decide +kernel) (ns_tsw (V := 21) hc21 (by decide +kernel)) rfl ?_
    refine nk_sub [0] (L' := [(2, nk_i v3)]) rfl ?_
    exact ja_X13_leaves_b229_ok zs _ _ _ hr
  have hr := nk_ifn hc21 hr
  by_cases hc22 : v3 = 22
  · have hr := nk_ifp hc22 hr
    refine nk_p (i := .tableswitch 221 0 44 #[196, 196, 196, 221, 221, 198, 221, 198, 221, 221, 221, 221, 221, 221, 221, 221, 221, 221, 196, 221, 221, 221, 221, 221, 221, 221, 221, 221, 221, 221, 196, 196, 196, 196, 221, 196, 221, 196, 196, 200, 200, 221, 221, 221, 196]) (len := 196) (pc' := 229) mJ_178 (by decide +kernel) (ns_tsw (V := 22) hc22 (by decide +kernel)) rfl ?_
    refine nk_sub [0] (L' := [(2, nk_i v3)]) rfl ?_
    exact ja_X13_leaves_b229_ok zs _ _ _ hr
  have hr := nk_ifn hc22 hr
  by_cases hc23 : v3 = 23
  · have hr := nk_ifp hc23 hr
    refine nk_p (i := .tableswitch 221 0 44 #[196, 196, 196, 221, 221, 198, 221, 198, 221, 221, 221, 221, 221, 221, 221, 221, 221, 221, 196, 221, 221, 221, 221, 221, 221, 221, 221, 221, 221, 221, 196, 196, 196, 196, 221, 196, 221, 196, 196, 200, 200, 221, 221, 221, 196]) (len := 196) (pc' := 229) mJ_178 (by decide +kernel) (ns_tsw (V := 23) hc23 (by decide +kernel)) rfl ?_
    refine nk_sub [0] (L' := [(2, nk_i v3)]) rfl ?_
    exact ja_X13_leaves_b229_ok zs _ _ _ hr
  have hr := nk_ifn hc23 hr
  by_cases hc24 : v3 = 24
  · have hr := nk_ifp hc24 hr
    refine nk_p (i := .tableswitch 221 0 44 #[196, 196, 196, 221, 221, 198, 221, 198, 221, 221, 221, 221, 221, 221, 221, 221, 221, 221, 196, 221, 221, 221, 221, 221, 221, 221, 221, 221, 221, 221, 196, 196, 196, 196, 221, 196, 221, 196, 196, 200, 200, 221, 221, 221, 196]) (len := 196) (pc' := 229) mJ_178 (by decide +kernel) (ns_tsw (V := 24) hc24 (by decide +kernel)) rfl ?_
    refine nk_sub [0] (L' := [(2, nk_i v3)]) rfl ?_
    exact ja_X13_leaves_b229_ok zs _ _ _ hr
  have hr := nk_ifn hc24 hr
  by_cases hc25 : v3 = 25
  · have hr := nk_ifp hc25 hr
    refine nk_p (i := .tableswitch 221 0 44 #[196, 196, 196, 221, 221, 198, 221, 198, 221, 221, 221, 221, 221, 221, 221, 221, 221, 221, 196, 221, 221, 221, 221, 221, 221, 221, 221, 221, 221, 221, 196, 196, 196, 196, 221, 196, 221, 196, 196, 200, 200, 221, 221, 221, 196]) (len := 196) (pc' := 229) mJ_178 (by decide +kernel) (ns_tsw (V := 25) hc25 (by decide +kernel)) rfl ?_
    refine nk_sub [0] (L' := [(2, nk_i v3)]) rfl ?_
    exact ja_X13_leaves_b229_ok zs _ _ _ hr
  have hr := nk_ifn hc25 hr
  by_cases hc26 : v3 = 26
  · have hr := nk_ifp hc26 hr
    refine nk_p (i := .tableswitch 221 0 44 #[196, 196, 196, 221, 221, 198, 221, 198, 221, 221, 221, 221, 221, 221, 221, 221, 221, 221, 196, 221, 221, 221, 221, 221, 221, 221, 221, 221, 221, 221, 196, 196, 196, 196, 221, 196, 221, 196, 196, 200, 200, 221, 221, 221, 196]) (len := 196) (pc' := 229) mJ_178 (by decide +kernel) (ns_tsw (V := 26) hc26 (by decide +kernel)) rfl ?_
    refine nk_sub [0] (L' := [(2, nk_i v3)]) rfl ?_
    exact ja_X13_leaves_b229_ok zs _ _ _ hr
  have hr := nk_ifn hc26 hr
  by_cases hc27 : v3 = 27
  · have hr := nk_ifp hc27 hr
    refine nk_p (i := .tableswitch 221 0 44 #[196, 196, 196, 221, 221, 198, 221, 198, 221, 221, 221, 221, 221, 221, 221, 221, 221, 221, 196, 221, 221, 221, 221, 221, 221, 221, 221, 221, 221, 221, 196, 196, 196, 196, 221, 196, 221, 196, 196, 200, 200, 221, 221, 221, 196]) (len := 196) (pc' := 229) mJ_178 (by decide +kernel) (ns_tsw (V := 27) hc27 (by decide +kernel)) rfl ?_
    refine nk_sub [0] (L' := [(2, nk_i v3)]) rfl ?_
    exact ja_X13_leaves_b229_ok zs _ _ _ hr
  have hr := nk_ifn hc27 hr
  by_cases hc28 : v3 = 28
  · have hr := nk_ifp hc28 hr
    refine nk_p (i := .tableswitch 221 0 44 #[196, 196, 196, 221, 221, 198, 221, 198, 221, 221, 221, 221, 221, 221, 221, 221, 221, 221, 196, 221, 221, 221, 221, 221, 221, 221, 221, 221, 221, 221, 196, 196, 196, 196, 221, 196, 221, 196, 196, 200, 200, 221, 221, 221, 196]) (len := 196) (pc' := 229) mJ_178 (by decide +kernel) (ns_tsw (V := 28) hc28 (by decide +kernel)) rfl ?_
    refine nk_sub [0] (L' := [(2, nk_i v3)]) rfl ?_
    exact ja_X13_leaves_b229_ok zs _ _ _ hr
  have hr := nk_ifn hc28 hr
  by_cases hc29 : v3 = 29
  · have hr := nk_ifp hc29 hr
    refine nk_p (i := .tableswitch 221 0 44 #[196, 196, 196, 221, 221, 198, 221, 198, 221, 221, 221, 221, 221, 221, 221, 221, 221, 221, 196, 221, 221, 221, 221, 221, 221, 221, 221, 221, 221, 221, 196, 196, 196, 196, 221, 196, 221, 196, 196, 200, 200, 221, 221, 221, 196]) (len := 196) (pc' := 229) mJ_178 (by decide +kernel) (ns_tsw (V := 29) hc29 (by decide +kernel)) rfl ?_
    refine nk_sub [0] (L' := [(2, nk_i v3)]) rfl ?_
    exact ja_X13_leaves_b229_ok zs _ _ _ hr
  have hr := nk_ifn hc29 hr
  by_cases hc30 : v3 = 30
  · have hr := nk_ifp hc30 hr
    refine nk_p (i := .tableswitch 221 0 44 #[196, 196, 196, 221, 221, 198, 221, 198, 221, 221, 221, 221, 221, 221, 221, 221, 221, 221, 196, 221, 221, 221, 221, 221, 221, 221, 221, 221, 221, 221, 196, 196, 196, 196, 221, 196, 221, 196, 196, 200, 200, 221, 221, 221, 196]) (len := 196) (pc' := 204) mJ_178 (by decide +kernel) (ns_tsw (V := 30) hc30 (by decide +kernel)) rfl ?_
    refine nk_p (i := .iconst 1) (len := 1) (pc' := 205) mJ_178 (by decide +kernel) (ns_iconst (c := 1) (by decide +kernel)) rfl ?_
    cases hr
    exact nk_iret (ty := .int) (len := 1) mJ_178 (by decide +kernel) rfl (nk_nar_i _)
  have hr := nk_ifn hc30 hr
  by_cases hc31 : v3 = 31
  · have hr := nk_ifp hc31 hr
    refine nk_p (i := .tableswitch 221 0 44 #[196, 196, 196, 221, 221, 198, 221, 198, 221, 221, 221, 221, 221, 221, 221, 221, 221, 221, 196, 221, 221, 221, 221, 221, 221, 221, 221, 221, 221, 221, 196, 196, 196, 196, 221, 196, 221, 196, 196, 200, 200, 221, 221, 221, 196]) (len := 196) (pc' := 204) mJ_178 (by decide +kernel) (ns_tsw (V := 31) hc31 (by decide +kernel)) rfl ?_
    refine nk_p (i := .iconst 1) (len := 1) (pc' := 205) mJ_178 (by decide +kernel) (ns_iconst (c := 1) (by decide +kernel)) rfl ?_
    cases hr
    exact nk_iret (ty := .int) (len := 1) mJ_178 (by decide +kernel) rfl (nk_nar_i _)
  have hr := nk_ifn hc31 hr
  by_cases hc32 : v3 = 32
  · have hr := nk_ifp hc32 hr
    refine nk_p (i := .tableswitch 221 0 44 #[196, 196, 196, 221, 221, 198, 221, 198, 221, 221, 221, 221, 221, 221, 221, 221, 221, 221, 196, 221, 221, 221, 221, 221, 221, 221, 221, 221, 221, 221, 196, 196, 196, 196, 221, 196, 221, 196, 196, 200, 200, 221, 221, 221, 196]) (len := 196) (pc' := 204) mJ_178 (by decide +kernel) (ns_tsw (V := 32) hc32 (by decide +kernel)) rfl ?_
    refine nk_p (i := .iconst 1) (len := 1) (pc' := 205) mJ_178 (by decide +kernel) (ns_iconst (c := 1) (by decide +kernel)) rfl ?_
    cases hr
    exact nk_iret (ty := .int) (len := 1) mJ_178 (by decide +kernel) rfl (nk_nar_i _)
  have hr := nk_ifn hc32 hr
  by_cases hc33 : v3 = 33
  · have hr := nk_ifp hc33 hr
    refine nk_p (i := .tableswitch 221 0 44 #[196, 196, 196, 221, 221, 198, 221, 198, 221, 221, 221, 221, 221, 221, 221, 221, 221, 221, 196, 221, 221, 221, 221, 221, 221, 221, 221, 221, 221, 221, 196, 196, 196, 196, 221, 196, 221, 196, 196, 200, 200, 221, 221, 221, 196]) (len := 196) (pc' := 204) mJ_178 (by decide +kernel) (ns_tsw (V := 33) hc33 (by decide +kernel)) rfl ?_
    refine nk_p (i := .iconst 1) (len := 1) (pc' := 205) mJ_178 (by decide +kernel) (ns_iconst (c := 1) (by decide +kernel)) rfl ?_
    cases hr
    exact nk_iret (ty := .int) (len := 1) mJ_178 (by decide +kernel) rfl (nk_nar_i _)
  have hr := nk_ifn hc33 hr
  by_cases hc34 : v3 = 34
  · have hr := nk_ifp hc34 hr
    refine nk_p (i := .tableswitch 221 0 44 #[196, 196, 196, 221, 221, 198, 221, 198, 221, 221, 221, 221, 221, 221, 221, 221, 221, 221, 196, 221, 221, 221, 221, 221, 221, 221, 221, 221, 221, 221, 196, 196, 196, 196, 221, 196, 221, 196, 196, 200, 200, 221, 221, 221, 196]) (len := 196) (pc' := 229) mJ_178 (by decide +kernel) (ns_tsw (V := 34) hc34 (by decide +kernel)) rfl ?_
    refine nk_sub [0] (L' := [(2, nk_i v3)]) rfl ?_
    exact ja_X13_leaves_b229_ok zs _ _ _ hr
  have hr := nk_ifn hc34 hr
  by_cases hc35 : v3 = 35
  · have hr := nk_ifp hc35 hr
    refine nk_p (i := .tableswitch 221 0 44 #[196, 196, 196, 221, 221, 198, 221, 198, 221, 221, 221, 221, 221, 221, 221, 221, 221, 221, 196, 221, 221, 221, 221, 221, 221, 221, 221, 221, 221, 221, 196, 196, 196, 196, 221, 196, 221, 196, 196, 200, 200, 221, 221, 221, 196]) (len := 196) (pc' := 204) mJ_178 (by decide +kernel) (ns_tsw (V := 35) hc35 (by decide +kernel)) rfl ?_
    refine nk_p (i := .iconst 1) (len := 1) (pc' := 205) mJ_178 (by decide +kernel) (ns_iconst (c := 1) (by decide +kernel)) rfl ?_
    cases hr
    exact nk_iret (ty := .int) (len := 1) mJ_178 (by decide +kernel) rfl (nk_nar_i _)
  have hr := nk_ifn hc35 hr
  by_cases hc36 : v3 = 36
  · have hr := nk_ifp hc36 hr
    refine nk_p (i := .tableswitch 221 0 44 #[196, 196, 196, 221, 221, 198, 221, 198, 221, 221, 221, 221, 221, 221, 221, 221, 221, 221, 196, 221, 221, 221, 221, 221, 221, 221, 221, 221, 221, 221, 196, 196, 196, 196, 221, 196, 221, 196, 196, 200, 200, 221, 221, 221, 196]) (len := 196) (pc' := 229) mJ_178 (by decide +kernel) (ns_tsw (V := 36) hc36 (by decide +kernel)) rfl ?_
    refine nk_sub [0] (L' := [(2, nk_i v3)]) rfl ?_
    exact ja_X13_leaves_b229_ok zs _ _ _ hr
  have hr := nk_ifn hc36 hr
  by_cases hc37 : v3 = 37
  · have hr := nk_ifp hc37 hr
    refine nk_p (i := .tableswitch 221 0 44 #[196, 196, 196, 221, 221, 198, 221, 198, 221, 221, 221, 221, 221, 221, 221, 221, 221, 221, 196, 221, 221, 221, 221, 221, 221, 221, 221, 221, 221, 221, 196, 196, 196, 196, 221, 196, 221, 196, 196, 200, 200, 221, 221, 221, 196]) (len := 196) (pc' := 204) mJ_178 (by decide +kernel) (ns_tsw (V := 37) hc37 (by decide +kernel)) rfl ?_
    refine nk_p (i := .iconst 1) (len := 1) (pc' := 205) mJ_178 (by decide +kernel) (ns_iconst (c := 1) (by decide +kernel)) rfl ?_
    cases hr
    exact nk_iret (ty := .int) (len := 1) mJ_178 (by decide +kernel) rfl (nk_nar_i _)
  have hr := nk_ifn hc37 hr
  by_cases hc38 : v3 = 38
  · have hr := nk_ifp hc38 hr
    refine nk_p (i := .tableswitch 221 0 44 #[196, 196, 196, 221, 221, 198, 221, 198, 221, 221, 221, 221, 221, 221, 221, 221, 221, 221, 196, 221, 221, 221, 221, 221, 221, 221, 221, 221, 221, 221, 196, 196, 196, 196, 221, 196, 221, 196, 196, 200, 200, 221, 221, 221, 196]) (len := 196) (pc' := 204) mJ_178 (by decide +kernel) (ns_tsw (V := 38) hc38 (by decide +kernel)) rfl ?_
    refine nk_p (i := .iconst 1) (len := 1) (pc' := 205) mJ_178 (by decide +kernel) (ns_iconst (c := 1) (by decide +kernel)) rfl ?_
    cases hr
    exact nk_iret (ty := .int) (len := 1) mJ_178 (by decide +kernel) rfl (nk_nar_i _)
  have hr := nk_ifn hc38 hr
  by_cases hc39 : v3 = 39
  · have hr := nk_ifp hc39 hr
    refine nk_p (i := .tableswitch 221 0 44 #[196, 196, 196, 221, 221, 198, 221, 198, 221, 221, 221, 221, 221, 221, 221, 221, 221, 221, 196, 221, 221, 221, 221, 221, 221, 221, 221, 221, 221, 221, 196, 196, 196, 196, 221, 196, 221, 196, 196, 200, 200, 221, 221, 221, 196]) (len := 196) (pc' := 208) mJ_178 (by decide +kernel) (ns_tsw (V := 39) hc39 (by decide +kernel)) rfl ?_
    refine nk_sub [1, 2] (L' := [(0, nk_r l0), (1, nk_i l1)]) rfl ?_
    exact ja_X13_leaves_b208_ok zs _ _ _ _ t_l0 hr
  have hr := nk_ifn hc39 hr
  by_cases hc40 : v3 = 40
  · have hr := nk_ifp hc40 hr
    refine nk_p (i := .tableswitch 221 0 44 #[196, 196, 196, 221, 221, 198, 221, 198, 221, 221, 221, 221, 221, 221, 221, 221, 221, 221, 196, 221, 221, 221, 221, 221, 221, 221, 221, 221, 221, 221, 196, 196, 196, 196, 221, 196, 221, 196, 196, 200, 200, 221, 221, 221, 196]) (len := 196) (pc' := 208) mJ_178 (by decide +kernel) (ns_tsw (V := 40) hc40 (by decide +kernel)) rfl ?_
    refine nk_sub [1, 2] (L' := [(0, nk_r l0), (1, nk_i l1)]) rfl ?_
    exact ja_X13_leaves_b208_ok zs _ _ _ _ t_l0 hr
  have hr := nk_ifn hc40 hr
  by_cases hc41 : v3 = 41
  · have hr := nk_ifp hc41 hr
    refine nk_p (i := .tableswitch 221 0 44 #[196, 196, 196, 221, 221, 198, 221, 198, 221, 221, 221, 221, 221, 221, 221, 221, 221, 221, 196, 221, 221, 221, 221, 221, 221, 221, 221, 221, 221, 221, 196, 196, 196, 196, 221, 196, 221, 196, 196, 200, 200, 221, 221, 221, 196]) (len := 196) (pc' := 229) mJ_178 (by decide +kernel) (ns_tsw (V := 41) hc41 (by decide +kernel)) rfl ?_
    refine nk_sub [0] (L' := [(2, nk_i v3)]) rfl ?_
    exact ja_X13_leaves_b229_ok zs _ _ _ hr
  have hr := nk_ifn hc41 hr
  by_cases hc42 : v3 = 42
  · have hr := nk_ifp hc42 hr
    refine nk_p (i := .tableswitch 221 0 44 #[196, 196, 196, 221, 221, 198, 221, 198, 221, 221, 221, 221, 221, 221, 221, 221, 221, 221, 196, 221, 221, 221, 221, 221, 221, 221, 221, 221, 221, 221, 196, 196, 196, 196, 221, 196, 221, 196, 196, 200, 200, 221, 221, 221, 196]) (len := 196) (pc' := 229) mJ_178 (by decide +kernel) (ns_tsw (V := 42) hc42 (by decide +kernel)) rfl ?_
    refine nk_sub [0] (L' := [(2, nk_i v3)]) rfl ?_
    exact ja_X13_leaves_b229_ok zs _ _ _ hr
  have hr := nk_ifn hc42 hr
  by_cases hc43 : v3 = 43
  · have hr := nk_ifp hc43 hr
    refine nk_p (i := .tableswitch 221 0 44 #[196, 196, 196, 221, 221, 198, 221, 198, 221, 221, 221, 221, 221, 221, 221, 221, 221, 221, 196, 221, 221, 221, 221, 221, 221, 221, 221, 221, 221, 221, 196, 196, 196, 196, 221, 196, 221, 196, 196, 200, 200, 221, 221, 221, 196]) (len := 196) (pc' := 229) mJ_178 (by decide +kernel) (ns_tsw (V := 43) hc43 (by decide +kernel)) rfl ?_
    refine nk_sub [0] (L' := [(2, nk_i v3)]) rfl ?_
    exact ja_X13_leaves_b229_ok zs _ _ _ hr
  have hr := nk_ifn hc43 hr
  by_cases hc44 : v3 = 44
  · have hr := nk_ifp hc44 hr
    refine nk_p (i := .tableswitch 221 0 44 #[196, 196, 196, 221, 221, 198, 221, 198, 221, 221, 221, 221, 221, 221, 221, 221, 221, 221, 196, 221, 221, 221, 221, 221, 221, 221, 221, 221, 221, 221, 196, 196, 196, 196, 221, 196, 221, 196, 196, 200, 200, 221, 221, 221, 196]) (len := 196) (pc' := 204) mJ_178 (by decide +kernel) (ns_tsw (V := 44) hc44 (by decide +kernel)) rfl ?_
    refine nk_p (i := .iconst 1) (len := 1) (pc' := 205) mJ_178 (by decide +kernel) (ns_iconst (c := 1) (by decide +kernel)) rfl ?_
    cases hr
    exact nk_iret (ty := .int) (len := 1) mJ_178 (by decide +kernel) rfl (nk_nar_i _)
  have hr := nk_ifn hc44 hr
  refine nk_p (i := .tableswitch 221 0 44 #[196, 196, 196, 221, 221, 198, 221, 198, 221, 221, 221, 221, 221, 221, 221, 221, 221, 221, 196, 221, 221, 221, 221, 221, 221, 221, 221, 221, 221, 221, 196, 196, 196, 196, 221, 196, 221, 196, 196, 200, 200, 221, 221, 221, 196]) (len := 196) (pc' := 229) mJ_178 (by decide +kernel) (ns_tsd (by omega) (by decide +kernel)) rfl ?_
  refine nk_sub [0] (L' := [(2, nk_i v3)]) rfl ?_
  exact ja_X13_leaves_b229_ok zs _ _ _ hr
/-! SafeCodeModel goodHeights (LSafeCodeModel$Program;I)I -/
noncomputable def ja_X13_goodHeights_b5 (rec5 : Nat → Nat → Int → Int → Int → nk_S → Option (Int × nk_S)) (l0 : Nat) (l1 : Nat) (l2 : Int) (l3 : Int) (l4 : Int) (S : nk_S) : Option (Int × nk_S) :=
  if 8 < l4 then
    some (l3, S)
  else
    nk_bd (ja_X13_howMany l1 l2 S) fun r1 S2 =>
    nk_lt (nk_w (l4 - r1)) fun v4 =>
    if 0 ≤ l2 ∧ l2 < 1024 then
    if (nk_iand (nk_ishr (S2.1 (ja_c l0 21) l2.toNat) l4) 1) = 1 then
      if v4 < 0 then
        nk_lt (nk_w (l4 + 1)) fun v10 =>
        rec5 l0 l1 l2 l3 v10 S2
      else
        nk_bd (ja_X13_leaves l1 l2 S2) fun r12 S13 =>
        if 8 < (nk_w (v4 + r12)) then
          nk_lt (nk_w (l4 + 1)) fun v15 =>
          rec5 l0 l1 l2 l3 v15 S13
        else
          nk_bd (ja_X13_leaves l1 l2 S13) fun r17 S18 =>
          nk_lt (nk_ior l3 (nk_ishl 1 (nk_w (v4 + r17)))) fun v20 =>
          nk_lt (nk_w (l4 + 1)) fun v22 =>
          rec5 l0 l1 l2 v20 v22 S18
    else
      nk_lt (nk_w (l4 + 1)) fun v8 =>
      rec5 l0 l1 l2 l3 v8 S2
    else none
theorem ja_X13_goodHeights_b5_ok (zs : List Int32) {rec5 : Nat → Nat → Int → Int → Int → nk_S → Option (Int × nk_S)} (hrec5 : ∀ (l0 : Nat) (l1 : Nat) (l2 : Int) (l3 : Int) (l4 : Int) (S : nk_S) (R : Int × nk_S), nk_cl ja_Tt l0 = some 13 → nk_cl ja_Tt l1 = some 12 → rec5 l0 l1 l2 l3 l4 S = some R → nk_K ja_Tt mi_Γ (mi_ev zs) 1 128 5 [(0, nk_r l0), (1, nk_r l1), (2, nk_i l2), (3, nk_i l3), (4, nk_i l4)] [] S R) : ∀ (l0 : Nat) (l1 : Nat) (l2 : Int) (l3 : Int) (l4 : Int) (S : nk_S) (R : Int × nk_S), nk_cl ja_Tt l0 = some 13 → nk_cl ja_Tt l1 = some 12 → ja_X13_goodHeights_b5 rec5 l0 l1 l2 l3 l4 S = some R → nk_K ja_Tt mi_Γ (mi_ev zs) 1 128 5 [(0, nk_r l0), (1, nk_r l1), (2, nk_i l2), (3, nk_i l3), (4, nk_i l4)] [] S R := by
  intro l0 l1 l2 l3 l4 S R t_l0 t_l1 hr
  unfold ja_X13_goodHeights_b5 at hr
  refine nk_p (i := .iload 4) (len := 2) (pc' := 7) mJ_128 (by decide +kernel) (ns_iload 4 rfl) rfl ?_
  refine nk_p (i := .bipush 8) (len := 2) (pc' := 9) mJ_128 (by decide +kernel) (ns_bipush (c := 8) (by decide +kernel)) rfl ?_
  refine nk_icmp (c := .gt) (off := 65) (len := 3) (t := 74) (pc' := 12) mJ_128 (by decide +kernel) (by decide +kernel) rfl (fun hc => ?_) (fun hc => ?_)
  · have hr := nk_ifp (c := 8 < l4) hc hr
    refine nk_p (i := .iload_n 3) (len := 1) (pc' := 75) mJ_128 (by decide +kernel) (ns_iload_n 3 rfl rfl) rfl ?_
    cases hr
    exact nk_iret (ty := .int) (len := 1) mJ_128 (by decide +kernel) rfl (nk_nar_i _)
  · have hr := nk_ifn (c := 8 < l4) hc hr
    refine nk_p (i := .iload 4) (len := 2) (pc' := 14) mJ_128 (by decide +kernel) (ns_iload 4 rfl) rfl ?_
    refine nk_p (i := .aload_n 1) (len := 1) (pc' := 15) mJ_128 (by decide +kernel) (ns_aload_n 1 rfl rfl) rfl ?_
    refine nk_p (i := .iload_n 2) (len := 1) (pc' := 16) mJ_128 (by decide +kernel) (ns_iload_n 2 rfl rfl) rfl ?_
    obtain ⟨r1, S2, h3, hr⟩ := nk_bde hr
    refine nk_callS (ci := 0) (n := 2) (x := 477) (len := 3) (j' := 134) (q' := 1) (r := r1) (S' := S2) (L2 := [(0, nk_r l1), (1, nk_i l2)]) (rest := [nk_i l4]) (st' := [nk_i r1, nk_i l4]) (pc' := 19) mJ_128 (by decide +kernel) (by decide +kernel) (Nat.le_of_ble_eq_true rfl) rfl rfl (Nat.le_of_ble_eq_true rfl) mJ_134 (Nat.le_of_ble_eq_true rfl) ja_Tpos rfl (ja_X13_howMany_ok zs _ _ _ _ t_l1 h3) rfl ?_
    refine nk_p (i := .isub) (len := 1) (pc' := 20) mJ_128 (by decide +kernel) ns_isub rfl ?_
    obtain ⟨v4, h5, hr⟩ := nk_lte hr
    refine nk_p (i := .istore 5) (len := 2) (pc' := 22) mJ_128 (by decide +kernel) (ns_istore (L' := [(5, nk_i v4), (0, nk_r l0), (1, nk_r l1), (2, nk_i l2), (3, nk_i l3), (4, nk_i l4)]) h5 rfl (by decide +kernel)) rfl ?_
    refine nk_p (i := .aload_n 0) (len := 1) (pc' := 23) mJ_128 (by decide +kernel) (ns_aload_n 1 rfl rfl) rfl ?_
    refine nk_getC (f := (4, 1, 1024)) (x := 58) (len := 3) (ci := 13) (k := 21) (pc' := 26) ja_okT mJ_128 (by decide +kernel) (by decide +kernel) (by decide +kernel) (by decide) t_l0 rfl ?_
    have t6 : nk_ar ja_Tt (ja_c l0 21) = some (1, 1024) := nk_ta ja_okT t_l0 (by decide +kernel)
    refine nk_p (i := .iload_n 2) (len := 1) (pc' := 27) mJ_128 (by decide +kernel) (ns_iload_n 3 rfl rfl) rfl ?_
    obtain ⟨h7, hr⟩ := nk_cke hr
    refine nk_iald (len := 1) (N := 1024) (pc' := 28) mJ_128 (by decide +kernel) t6 h7.1 h7.2 rfl rfl ?_
    refine nk_p (i := .iload 4) (len := 2) (pc' := 30) mJ_128 (by decide +kernel) (ns_iload 5 rfl) rfl ?_
    refine nk_p (i := .ishr) (len := 1) (pc' := 31) mJ_128 (by decide +kernel) ns_ishr rfl ?_
    refine nk_p (i := .iconst 1) (len := 1) (pc' := 32) mJ_128 (by decide +kernel) (ns_iconst (c := 1) (by decide +kernel)) rfl ?_
    refine nk_p (i := .iand) (len := 1) (pc' := 33) mJ_128 (by decide +kernel) ns_iand rfl ?_
    refine nk_p (i := .iconst 1) (len := 1) (pc' := 34) mJ_128 (by decide +kernel) (ns_iconst (c := 1) (by decide +kernel)) rfl ?_
    refine nk_icmp (c := .ne) (off := 34) (len := 3) (t := 68) (pc' := 37) mJ_128 (by decide +kernel) (by decide +kernel) rfl (fun hc => ?_) (fun hc => ?_)
    · have hr := nk_ifn (c := (nk_iand (nk_ishr (S2.1 (ja_c l0 21) l2.toNat) l4) 1) = 1) hc hr
      obtain ⟨v8, h9, hr⟩ := nk_lte hr
      refine nk_p (i := .iinc 4 1) (len := 3) (pc' := 71) mJ_128 (by decide +kernel) (ns_iinc (c := 1) (L' := [(4, nk_i v8), (5, nk_i v4), (0, nk_r l0), (1, nk_r l1), (2, nk_i l2), (3, nk_i l3)]) 5 rfl (by decide +kernel) h9 rfl (by decide +kernel)) rfl ?_
      refine nk_p (i := .goto (-66)) (len := 3) (pc' := 5) mJ_128 (by decide +kernel) (ns_goto (by decide +kernel)) rfl ?_
      refine nk_sub [2, 3, 4, 5, 0] (L' := [(0, nk_r l0), (1, nk_r l1), (2, nk_i l2), (3, nk_i l3), (4, nk_i v8)]) rfl ?_
      exact hrec5 _ _ _ _ _ _ _ t_l0 t_l1 hr
    · have hr := nk_ifp (c := (nk_iand (nk_ishr (S2.1 (ja_c l0 21) l2.toNat) l4) 1) = 1) (Decidable.of_not_not hc) hr
      refine nk_p (i := .iload 5) (len := 2) (pc' := 39) mJ_128 (by decide +kernel) (ns_iload 0 rfl) rfl ?_
      refine nk_icond (c := .lt) (off := 29) (len := 3) (t := 68) (pc' := 42) mJ_128 (by decide +kernel) (by decide +kernel) rfl (fun hc => ?_) (fun hc => ?_)
      · have hr := nk_ifp (c := v4 < 0) hc hr
        obtain ⟨v10, h11, hr⟩ := nk_lte hr
        refine nk_p (i := .iinc 4 1) (len := 3) (pc' := 71) mJ_128 (by decide +kernel) (ns_iinc (c := 1) (L' := [(4, nk_i v10), (5, nk_i v4), (0, nk_r l0), (1, nk_r l1), (2, nk_i l2), (3, nk_i l3)]) 5 rfl (by decide +kernel) h11 rfl (by decide +kernel)) rfl ?_
        refine nk_p (i := .goto (-66)) (len := 3) (pc' := 5) mJ_128 (by decide +kernel) (ns_goto (by decide +kernel)) rfl ?_
        refine nk_sub [2, 3, 4, 5, 0] (L' := [(0, nk_r l0), (1, nk_r l1), (2, nk_i l2), (3, nk_i l3), (4, nk_i v10)]) rfl ?_
        exact hrec5 _ _ _ _ _ _ _ t_l0 t_l1 hr
      · have hr := nk_ifn (c := v4 < 0) hc hr
        refine nk_p (i := .iload 5) (len := 2) (pc' := 44) mJ_128 (by decide +kernel) (ns_iload 0 rfl) rfl ?_
        refine nk_p (i := .aload_n 1) (len := 1) (pc' := 45) mJ_128 (by decide +kernel) (ns_aload_n 2 rfl rfl) rfl ?_
        refine nk_p (i := .iload_n 2) (len := 1) (pc' := 46) mJ_128 (by decide +kernel) (ns_iload_n 3 rfl rfl) rfl ?_
        obtain ⟨r12, S13, h14, hr⟩ := nk_bde hr
        refine nk_callS (ci := 0) (n := 2) (x := 480) (len := 3) (j' := 178) (q' := 1) (r := r12) (S' := S13) (L2 := [(0, nk_r l1), (1, nk_i l2)]) (rest := [nk_i v4]) (st' := [nk_i r12, nk_i v4]) (pc' := 49) mJ_128 (by decide +kernel) (by decide +kernel) (Nat.le_of_ble_eq_true rfl) rfl rfl (Nat.le_of_ble_eq_true rfl) mJ_178 (Nat.le_of_ble_eq_true rfl) ja_Tpos rfl (ja_X13_leaves_ok zs _ _ _ _ t_l1 h14) rfl ?_
        refine nk_p (i := .iadd) (len := 1) (pc' := 50) mJ_128 (by decide +kernel) ns_iadd rfl ?_
        refine nk_p (i := .bipush 8) (len := 2) (pc' := 52) mJ_128 (by decide +kernel) (ns_bipush (c := 8) (by decide +kernel)) rfl ?_
        refine nk_icmp (c := .gt) (off := 16) (len := 3) (t := 68) (pc' := 55) mJ_128 (by decide +kernel) (by decide +kernel) rfl (fun hc => ?_) (fun hc => ?_)
        · have hr := nk_ifp (c := 8 < (nk_w (v4 + r12))) hc hr
          obtain ⟨v15, h16, hr⟩ := nk_lte hr
          refine nk_p (i := .iinc 4 1) (len := 3) (pc' := 71) mJ_128 (by decide +kernel) (ns_iinc (c := 1) (L' := [(4, nk_i v15), (5, nk_i v4), (0, nk_r l0), (1, nk_r l1), (2, nk_i l2), (3, nk_i l3)]) 5 rfl (by decide +kernel) h16 rfl (by decide +kernel)) rfl ?_
          refine nk_p (i := .goto (-66)) (len := 3) (pc' := 5) mJ_128 (by decide +kernel) (ns_goto (by decide +kernel)) rfl ?_
          refine nk_sub [2, 3, 4, 5, 0] (L' := [(0, nk_r l0), (1, nk_r l1), (2, nk_i l2), (3, nk_i l3), (4, nk_i v15)]) rfl ?_
          exact hrec5 _ _ _ _ _ _ _ t_l0 t_l1 hr
        · have hr := nk_ifn (c := 8 < (nk_w (v4 + r12))) hc hr
          refine nk_p (i := .iload_n 3) (len := 1) (pc' := 56) mJ_128 (by decide +kernel) (ns_iload_n 4 rfl rfl) rfl ?_
          refine nk_p (i := .iconst 1) (len := 1) (pc' := 57) mJ_128 (by decide +kernel) (ns_iconst (c := 1) (by decide +kernel)) rfl ?_
          refine nk_p (i := .iload 5) (len := 2) (pc' := 59) mJ_128 (by decide +kernel) (ns_iload 0 rfl) rfl ?_
          refine nk_p (i := .aload_n 1) (len := 1) (pc' := 60) mJ_128 (by decide +kernel) (ns_aload_n 2 rfl rfl) rfl ?_
          refine nk_p (i := .iload_n 2) (len := 1) (pc' := 61) mJ_128 (by decide +kernel) (ns_iload_n 3 rfl rfl) rfl ?_
          obtain ⟨r17, S18, h19, hr⟩ := nk_bde hr
          refine nk_callS (ci := 0) (n := 2) (x := 480) (len := 3) (j' := 178) (q' := 1) (r := r17) (S' := S18) (L2 := [(0, nk_r l1), (1, nk_i l2)]) (rest := [nk_i v4, nk_i 1, nk_i l3]) (st' := [nk_i r17, nk_i v4, nk_i 1, nk_i l3]) (pc' := 64) mJ_128 (by decide +kernel) (by decide +kernel) (Nat.le_of_ble_eq_true rfl) rfl rfl (Nat.le_of_ble_eq_true rfl) mJ_178 (Nat.le_of_ble_eq_true rfl) ja_Tpos rfl (ja_X13_leaves_ok zs _ _ _ _ t_l1 h19) rfl ?_
          refine nk_p (i := .iadd) (len := 1) (pc' := 65) mJ_128 (by decide +kernel) ns_iadd rfl ?_
          refine nk_p (i := .ishl) (len := 1) (pc' := 66) mJ_128 (by decide +kernel) ns_ishl rfl ?_
          refine nk_p (i := .ior) (len := 1) (pc' := 67) mJ_128 (by decide +kernel) ns_ior rfl ?_
          obtain ⟨v20, h21, hr⟩ := nk_lte hr
          refine nk_p (i := .istore_n 3) (len := 1) (pc' := 68) mJ_128 (by decide +kernel) (ns_istore_n (L' := [(3, nk_i v20), (5, nk_i v4), (0, nk_r l0), (1, nk_r l1), (2, nk_i l2), (4, nk_i l4)]) h21 rfl rfl (by decide +kernel)) rfl ?_
          obtain ⟨v22, h23, hr⟩ := nk_lte hr
          refine nk_p (i := .iinc 4 1) (len := 3) (pc' := 71) mJ_128 (by decide +kernel) (ns_iinc (c := 1) (L' := [(4, nk_i v22), (3, nk_i v20), (5, nk_i v4), (0, nk_r l0), (1, nk_r l1), (2, nk_i l2)]) 5 rfl (by decide +kernel) h23 rfl (by decide +kernel)) rfl ?_
          refine nk_p (i := .goto (-66)) (len := 3) (pc' := 5) mJ_128 (by decide +kernel) (ns_goto (by decide +kernel)) rfl ?_
          refine nk_sub [3, 4, 5, 1, 0] (L' := [(0, nk_r l0), (1, nk_r l1), (2, nk_i l2), (3, nk_i v20), (4, nk_i v22)]) rfl ?_
          exact hrec5 _ _ _ _ _ _ _ t_l0 t_l1 hr
noncomputable def ja_X13_goodHeights_L5 : Nat → Nat → Nat → Int → Int → Int → nk_S → Option (Int × nk_S)
  | 0, _, _, _, _, _, _ => none
  | n + 1, l0, l1, l2, l3, l4, S => ja_X13_goodHeights_b5 (ja_X13_goodHeights_L5 n) l0 l1 l2 l3 l4 S
theorem ja_X13_goodHeights_L5_ok (zs : List Int32) : ∀ n : Nat, ∀ (l0 : Nat) (l1 : Nat) (l2 : Int) (l3 : Int) (l4 : Int) (S : nk_S) (R : Int × nk_S), nk_cl ja_Tt l0 = some 13 → nk_cl ja_Tt l1 = some 12 → ja_X13_goodHeights_L5 n l0 l1 l2 l3 l4 S = some R → nk_K ja_Tt mi_Γ (mi_ev zs) 1 128 5 [(0, nk_r l0), (1, nk_r l1), (2, nk_i l2), (3, nk_i l3), (4, nk_i l4)] [] S R := by
  intro n
  induction n with
  | zero => intro _ _ _ _ _ _ _ _ _ hr; cases hr
  | succ n ih => intro l0 l1 l2 l3 l4 S R t_l0 t_l1 hr; exact ja_X13_goodHeights_b5_ok zs ih l0 l1 l2 l3 l4 S R t_l0 t_l1 hr
noncomputable def ja_X13_goodHeights (l0 : Nat) (l1 : Nat) (l2 : Int) (S : nk_S) : Option (Int × nk_S) :=
  ja_X13_goodHeights_L5 nk_big l0 l1 l2 0 0 S
theorem ja_X13_goodHeights_ok (zs : List Int32) : ∀ (l0 : Nat) (l1 : Nat) (l2 : Int) (S : nk_S) (R : Int × nk_S), nk_cl ja_Tt l0 = some 13 → nk_cl ja_Tt l1 = some 12 → ja_X13_goodHeights l0 l1 l2 S = some R → nk_K ja_Tt mi_Γ (mi_ev zs) 1 128 0 [(0, nk_r l0), (1, nk_r l1), (2, nk_i l2)] [] S R := by
  intro l0 l1 l2 S R t_l0 t_l1 hr
  unfold ja_X13_goodHeights at hr
  refine nk_p (i := .iconst 0) (len := 1) (pc' := 1) mJ_128 (by decide +kernel) (ns_iconst (c := 0) (by decide +kernel)) rfl ?_
  refine nk_p (i := .istore_n 3) (len := 1) (pc' := 2) mJ_128 (by decide +kernel) (ns_istore_n (L' := [(3, nk_i 0), (0, nk_r l0), (1, nk_r l1), (2, nk_i l2)]) rfl rfl rfl (by decide +kernel)) rfl ?_
  refine nk_p (i := .iconst 0) (len := 1) (pc' := 3) mJ_128 (by decide +kernel) (ns_iconst (c := 0) (by decide +kernel)) rfl ?_
  refine nk_p (i := .istore 4) (len := 2) (pc' := 5) mJ_128 (by decide +kernel) (ns_istore (L' := [(4, nk_i 0), (3, nk_i 0), (0, nk_r l0), (1, nk_r l1), (2, nk_i l2)]) rfl rfl (by decide +kernel)) rfl ?_
  refine nk_sub [2, 3, 4, 1, 0] (L' := [(0, nk_r l0), (1, nk_r l1), (2, nk_i l2), (3, nk_i 0), (4, nk_i 0)]) rfl ?_
  exact ja_X13_goodHeights_L5_ok zs nk_big _ _ _ _ _ _ _ t_l0 t_l1 hr
/-! SafeCodeModel hasNext (I)Z -/
noncomputable def ja_X13_hasNext (l0 : Int) (S : nk_S) : Option (Int × nk_S) :=
  if l0 = 19 then
    some (0, S)
  else
    if l0 = 41 then
      some (0, S)
    else
      if l0 = 42 then
        some (0, S)
      else
        if l0 = 43 then
          some (0, S)
        else
          some (1, S)
theorem ja_X13_hasNext_ok (zs : List Int32) : ∀ (l0 : Int) (S : nk_S) (R : Int × nk_S), ja_X13_hasNext l0 S = some R → nk_K ja_Tt mi_Γ (mi_ev zs) 1 130 0 [(0, nk_i l0)] [] S R := by
  intro l0 S R hr
  unfold ja_X13_hasNext at hr
  refine nk_p (i := .iload_n 0) (len := 1) (pc' := 1) mJ_130 (by decide +kernel) (ns_iload_n 0 rfl rfl) rfl ?_
  refine nk_p (i := .bipush 19) (len := 2) (pc' := 3) mJ_130 (by decide +kernel) (ns_bipush (c := 19) (by decide +kernel)) rfl ?_
  refine nk_icmp (c := .eq) (off := 25) (len := 3) (t := 28) (pc' := 6) mJ_130 (by decide +kernel) (by decide +kernel) rfl (fun hc => ?_) (fun hc => ?_)
  · have hr := nk_ifp (c := l0 = 19) hc hr
    refine nk_p (i := .iconst 0) (len := 1) (pc' := 29) mJ_130 (by decide +kernel) (ns_iconst (c := 0) (by decide +kernel)) rfl ?_
    cases hr
    exact nk_iret (ty := .boolean) (len := 1) mJ_130 (by decide +kernel) rfl (nk_nar_z (by decide))
  · have hr := nk_ifn (c := l0 = 19) hc hr
    refine nk_p (i := .iload_n 0) (len := 1) (pc' := 7) mJ_130 (by decide +kernel) (ns_iload_n 0 rfl rfl) rfl ?_
    refine nk_p (i := .bipush 41) (len := 2) (pc' := 9) mJ_130 (by decide +kernel) (ns_bipush (c := 41) (by decide +kernel)) rfl ?_
    refine nk_icmp (c := .eq) (off := 19) (len := 3) (t := 28) (pc' := 12) mJ_130 (by decide +kernel) (by decide +kernel) rfl (fun hc => ?_) (fun hc => ?_)
    · have hr := nk_ifp (c := l0 = 41) hc hr
      refine nk_p (i := .iconst 0) (len := 1) (pc' := 29) mJ_130 (by decide +kernel) (ns_iconst (c := 0) (by decide +kernel)) rfl ?_
      cases hr
      exact nk_iret (ty := .boolean) (len := 1) mJ_130 (by decide +kernel) rfl (nk_nar_z (by decide))
    · have hr := nk_ifn (c := l0 = 41) hc hr
      refine nk_p (i := .iload_n 0) (len := 1) (pc' := 13) mJ_130 (by decide +kernel) (ns_iload_n 0 rfl rfl) rfl ?_
      refine nk_p (i := .bipush 42) (len := 2) (pc' := 15) mJ_130 (by decide +kernel) (ns_bipush (c := 42) (by decide +kernel)) rfl ?_
      refine nk_icmp (c := .eq) (off := 13) (len := 3) (t := 28) (pc' := 18) mJ_130 (by decide +kernel) (by decide +kernel) rfl (fun hc => ?_) (fun hc => ?_)
      · have hr := nk_ifp (c := l0 = 42) hc hr
        refine nk_p (i := .iconst 0) (len := 1) (pc' := 29) mJ_130 (by decide +kernel) (ns_iconst (c := 0) (by decide +kernel)) rfl ?_
        cases hr
        exact nk_iret (ty := .boolean) (len := 1) mJ_130 (by decide +kernel) rfl (nk_nar_z (by decide))
      · have hr := nk_ifn (c := l0 = 42) hc hr
        refine nk_p (i := .iload_n 0) (len := 1) (pc' := 19) mJ_130 (by decide +kernel) (ns_iload_n 0 rfl rfl) rfl ?_
        refine nk_p (i := .bipush 43) (len := 2) (pc' := 21) mJ_130 (by decide +kernel) (ns_bipush (c := 43) (by decide +kernel)) rfl ?_
        refine nk_icmp (c := .eq) (off := 7) (len := 3) (t := 28) (pc' := 24) mJ_130 (by decide +kernel) (by decide +kernel) rfl (fun hc => ?_) (fun hc => ?_)
        · have hr := nk_ifp (c := l0 = 43) hc hr
          refine nk_p (i := .iconst 0) (len := 1) (pc' := 29) mJ_130 (by decide +kernel) (ns_iconst (c := 0) (by decide +kernel)) rfl ?_
          cases hr
          exact nk_iret (ty := .boolean) (len := 1) mJ_130 (by decide +kernel) rfl (nk_nar_z (by decide))
        · have hr := nk_ifn (c := l0 = 43) hc hr
          refine nk_p (i := .iconst 1) (len := 1) (pc' := 25) mJ_130 (by decide +kernel) (ns_iconst (c := 1) (by decide +kernel)) rfl ?_
          refine nk_p (i := .goto 4) (len := 3) (pc' := 29) mJ_130 (by decide +kernel) (ns_goto (by decide +kernel)) rfl ?_
          cases hr
          exact nk_iret (ty := .boolean) (len := 1) mJ_130 (by decide +kernel) rfl (nk_nar_z (by decide))
/-! SafeCodeModel hasLabel (I)Z -/
noncomputable def ja_X13_hasLabel (l0 : Int) (S : nk_S) : Option (Int × nk_S) :=
  if l0 < 19 then
    some (0, S)
  else
    if 29 < l0 then
      some (0, S)
    else
      some (1, S)
theorem ja_X13_hasLabel_ok (zs : List Int32) : ∀ (l0 : Int) (S : nk_S) (R : Int × nk_S), ja_X13_hasLabel l0 S = some R → nk_K ja_Tt mi_Γ (mi_ev zs) 1 129 0 [(0, nk_i l0)] [] S R := by
  intro l0 S R hr
  unfold ja_X13_hasLabel at hr
  refine nk_p (i := .iload_n 0) (len := 1) (pc' := 1) mJ_129 (by decide +kernel) (ns_iload_n 0 rfl rfl) rfl ?_
  refine nk_p (i := .bipush 19) (len := 2) (pc' := 3) mJ_129 (by decide +kernel) (ns_bipush (c := 19) (by decide +kernel)) rfl ?_
  refine nk_icmp (c := .lt) (off := 13) (len := 3) (t := 16) (pc' := 6) mJ_129 (by decide +kernel) (by decide +kernel) rfl (fun hc => ?_) (fun hc => ?_)
  · have hr := nk_ifp (c := l0 < 19) hc hr
    refine nk_p (i := .iconst 0) (len := 1) (pc' := 17) mJ_129 (by decide +kernel) (ns_iconst (c := 0) (by decide +kernel)) rfl ?_
    cases hr
    exact nk_iret (ty := .boolean) (len := 1) mJ_129 (by decide +kernel) rfl (nk_nar_z (by decide))
  · have hr := nk_ifn (c := l0 < 19) hc hr
    refine nk_p (i := .iload_n 0) (len := 1) (pc' := 7) mJ_129 (by decide +kernel) (ns_iload_n 0 rfl rfl) rfl ?_
    refine nk_p (i := .bipush 29) (len := 2) (pc' := 9) mJ_129 (by decide +kernel) (ns_bipush (c := 29) (by decide +kernel)) rfl ?_
    refine nk_icmp (c := .gt) (off := 7) (len := 3) (t := 16) (pc' := 12) mJ_129 (by decide +kernel) (by decide +kernel) rfl (fun hc => ?_) (fun hc => ?_)
    · have hr := nk_ifp (c := 29 < l0) hc hr
      refine nk_p (i := .iconst 0) (len := 1) (pc' := 17) mJ_129 (by decide +kernel) (ns_iconst (c := 0) (by decide +kernel)) rfl ?_
      cases hr
      exact nk_iret (ty := .boolean) (len := 1) mJ_129 (by decide +kernel) rfl (nk_nar_z (by decide))
    · have hr := nk_ifn (c := 29 < l0) hc hr
      refine nk_p (i := .iconst 1) (len := 1) (pc' := 13) mJ_129 (by decide +kernel) (ns_iconst (c := 1) (by decide +kernel)) rfl ?_
      refine nk_p (i := .goto 4) (len := 3) (pc' := 17) mJ_129 (by decide +kernel) (ns_goto (by decide +kernel)) rfl ?_
      cases hr
      exact nk_iret (ty := .boolean) (len := 1) mJ_129 (by decide +kernel) rfl (nk_nar_z (by decide))
/-! SafeCodeModel heights (LSafeCodeModel$Program;I)Z -/
noncomputable def ja_X13_heights_b277 (l0 : Nat) (l4 : Int) (S : nk_S) : Option (Int × nk_S) :=
  if 0 ≤ l4 ∧ l4 < 1024 then
  nk_bd (ja_X13_wrong l0 (S.1 (ja_c l0 20) l4.toNat) S) fun r3 S4 =>
  if r3 = 0 ∨ r3 = 1 then
  some (r3, S4)
  else none
  else none
theorem ja_X13_heights_b277_ok (zs : List Int32) : ∀ (l0 : Nat) (l4 : Int) (S : nk_S) (R : Int × nk_S), nk_cl ja_Tt l0 = some 13 → ja_X13_heights_b277 l0 l4 S = some R → nk_K ja_Tt mi_Γ (mi_ev zs) 1 131 277 [(0, nk_r l0), (4, nk_i l4)] [] S R := by
  intro l0 l4 S R t_l0 hr
  unfold ja_X13_heights_b277 at hr
  refine nk_p (i := .aload_n 0) (len := 1) (pc' := 278) mJ_131 (by decide +kernel) (ns_aload_n 0 rfl rfl) rfl ?_
  refine nk_p (i := .aload_n 0) (len := 1) (pc' := 279) mJ_131 (by decide +kernel) (ns_aload_n 0 rfl rfl) rfl ?_
  refine nk_getC (f := (4, 1, 1024)) (x := 55) (len := 3) (ci := 13) (k := 20) (pc' := 282) ja_okT mJ_131 (by decide +kernel) (by decide +kernel) (by decide +kernel) (by decide) t_l0 rfl ?_
  have t1 : nk_ar ja_Tt (ja_c l0 20) = some (1, 1024) := nk_ta ja_okT t_l0 (by decide +kernel)
  refine nk_p (i := .iload 4) (len := 2) (pc' := 284) mJ_131 (by decide +kernel) (ns_iload 1 rfl) rfl ?_
  obtain ⟨h2, hr⟩ := nk_cke hr
  refine nk_iald (len := 1) (N := 1024) (pc' := 285) mJ_131 (by decide +kernel) t1 h2.1 h2.2 rfl rfl ?_
  obtain ⟨r3, S4, h5, hr⟩ := nk_bde hr
  refine nk_callV (ci := 13) (n := 1) (x := 290) (len := 3) (j' := 246) (q' := 1) (r := r3) (S' := S4) (L2 := [(0, nk_r l0), (1, nk_i (S.1 (ja_c l0 20) l4.toNat))]) (rest := []) (st' := [nk_i r3]) (pc' := 288) mJ_131 (by decide +kernel) (by decide +kernel) rfl rfl t_l0 (Nat.le_of_ble_eq_true rfl) mJ_246 (Nat.le_of_ble_eq_true rfl) rfl (ja_X13_wrong_ok zs _ _ _ _ t_l0 h5) rfl ?_
  obtain ⟨h6, hr⟩ := nk_cke hr
  cases hr
  exact nk_iret (ty := .boolean) (len := 1) mJ_131 (by decide +kernel) rfl (nk_nar_z h6)
noncomputable def ja_X13_heights_b300 (rec232 : Nat → Nat → Int → Int → nk_S → Option (Int × nk_S)) (rec300 : Nat → Nat → Int → Int → Int → Int → nk_S → Option (Int × nk_S)) (l0 : Nat) (l1 : Nat) (l2 : Int) (l4 : Int) (l5 : Int) (l6 : Int) (S : nk_S) : Option (Int × nk_S) :=
  if 8 < l6 then
    nk_lt (nk_w (l4 + 1)) fun v1 =>
    rec232 l0 l1 l2 v1 S
  else
    if l5 = (nk_ishl 1 l6) then
      if 0 ≤ l4 ∧ l4 < 1024 then
      nk_lt (nk_wi S (ja_c l1 26) l4.toNat l6) fun S7 =>
      nk_lt (nk_w (l6 + 1)) fun v9 =>
      rec300 l0 l1 l2 l4 l5 v9 S7
      else none
    else
      nk_lt (nk_w (l6 + 1)) fun v3 =>
      rec300 l0 l1 l2 l4 l5 v3 S
theorem ja_X13_heights_b300_ok (zs : List Int32) {rec232 : Nat → Nat → Int → Int → nk_S → Option (Int × nk_S)} (hrec232 : ∀ (l0 : Nat) (l1 : Nat) (l2 : Int) (l4 : Int) (S : nk_S) (R : Int × nk_S), nk_cl ja_Tt l0 = some 13 → nk_cl ja_Tt l1 = some 12 → rec232 l0 l1 l2 l4 S = some R → nk_K ja_Tt mi_Γ (mi_ev zs) 1 131 232 [(0, nk_r l0), (1, nk_r l1), (2, nk_i l2), (4, nk_i l4)] [] S R) {rec300 : Nat → Nat → Int → Int → Int → Int → nk_S → Option (Int × nk_S)} (hrec300 : ∀ (l0 : Nat) (l1 : Nat) (l2 : Int) (l4 : Int) (l5 : Int) (l6 : Int) (S : nk_S) (R : Int × nk_S), nk_cl ja_Tt l0 = some 13 → nk_cl ja_Tt l1 = some 12 → rec300 l0 l1 l2 l4 l5 l6 S = some R → nk_K ja_Tt mi_Γ (mi_ev zs) 1 131 300 [(0, nk_r l0), (1, nk_r l1), (2, nk_i l2), (4, nk_i l4), (5, nk_i l5), (6, nk_i l6)] [] S R) : ∀ (l0 : Nat) (l1 : Nat) (l2 : Int) (l4 : Int) (l5 : Int) (l6 : Int) (S : nk_S) (R : Int × nk_S), nk_cl ja_Tt l0 = some 13 → nk_cl ja_Tt l1 = some 12 → ja_X13_heights_b300 rec232 rec300 l0 l1 l2 l4 l5 l6 S = some R → nk_K ja_Tt mi_Γ (mi_ev zs) 1 131 300 [(0, nk_r l0), (1, nk_r l1), (2, nk_i l2), (4, nk_i l4), (5, nk_i l5), (6, nk_i l6)] [] S R := by
  intro l0 l1 l2 l4 l5 l6 S R t_l0 t_l1 hr
  unfold ja_X13_heights_b300 at hr
  refine nk_p (i := .iload 6) (len := 2) (pc' := 302) mJ_131 (by decide +kernel) (ns_iload 5 rfl) rfl ?_
  refine nk_p (i := .bipush 8) (len := 2) (pc' := 304) mJ_131 (by decide +kernel) (ns_bipush (c := 8) (by decide +kernel)) rfl ?_
  refine nk_icmp (c := .gt) (off := 27) (len := 3) (t := 331) (pc' := 307) mJ_131 (by decide +kernel) (by decide +kernel) rfl (fun hc => ?_) (fun hc => ?_)
  · have hr := nk_ifp (c := 8 < l6) hc hr
    obtain ⟨v1, h2, hr⟩ := nk_lte hr
    refine nk_p (i := .iinc 4 1) (len := 3) (pc' := 334) mJ_131 (by decide +kernel) (ns_iinc (c := 1) (L' := [(4, nk_i v1), (0, nk_r l0), (1, nk_r l1), (2, nk_i l2), (5, nk_i l5), (6, nk_i l6)]) 3 rfl (by decide +kernel) h2 rfl (by decide +kernel)) rfl ?_
    refine nk_p (i := .goto (-102)) (len := 3) (pc' := 232) mJ_131 (by decide +kernel) (ns_goto (by decide +kernel)) rfl ?_
    refine nk_sub [1, 2, 3, 0] (L' := [(0, nk_r l0), (1, nk_r l1), (2, nk_i l2), (4, nk_i v1)]) rfl ?_
    exact hrec232 _ _ _ _ _ _ t_l0 t_l1 hr
  · have hr := nk_ifn (c := 8 < l6) hc hr
    refine nk_p (i := .iload 5) (len := 2) (pc' := 309) mJ_131 (by decide +kernel) (ns_iload 4 rfl) rfl ?_
    refine nk_p (i := .iconst 1) (len := 1) (pc' := 310) mJ_131 (by decide +kernel) (ns_iconst (c := 1) (by decide +kernel)) rfl ?_
    refine nk_p (i := .iload 6) (len := 2) (pc' := 312) mJ_131 (by decide +kernel) (ns_iload 5 rfl) rfl ?_
    refine nk_p (i := .ishl) (len := 1) (pc' := 313) mJ_131 (by decide +kernel) ns_ishl rfl ?_
    refine nk_icmp (c := .ne) (off := 12) (len := 3) (t := 325) (pc' := 316) mJ_131 (by decide +kernel) (by decide +kernel) rfl (fun hc => ?_) (fun hc => ?_)
    · have hr := nk_ifn (c := l5 = (nk_ishl 1 l6)) hc hr
      obtain ⟨v3, h4, hr⟩ := nk_lte hr
      refine nk_p (i := .iinc 6 1) (len := 3) (pc' := 328) mJ_131 (by decide +kernel) (ns_iinc (c := 1) (L' := [(6, nk_i v3), (0, nk_r l0), (1, nk_r l1), (2, nk_i l2), (4, nk_i l4), (5, nk_i l5)]) 5 rfl (by decide +kernel) h4 rfl (by decide +kernel)) rfl ?_
      refine nk_p (i := .goto (-28)) (len := 3) (pc' := 300) mJ_131 (by decide +kernel) (ns_goto (by decide +kernel)) rfl ?_
      refine nk_sub [1, 2, 3, 4, 5, 0] (L' := [(0, nk_r l0), (1, nk_r l1), (2, nk_i l2), (4, nk_i l4), (5, nk_i l5), (6, nk_i v3)]) rfl ?_
      exact hrec300 _ _ _ _ _ _ _ _ t_l0 t_l1 hr
    · have hr := nk_ifp (c := l5 = (nk_ishl 1 l6)) (Decidable.of_not_not hc) hr
      refine nk_p (i := .aload_n 1) (len := 1) (pc' := 317) mJ_131 (by decide +kernel) (ns_aload_n 1 rfl rfl) rfl ?_
      refine nk_getC (f := (4, 1, 1024)) (x := 474) (len := 3) (ci := 12) (k := 26) (pc' := 320) ja_okT mJ_131 (by decide +kernel) (by decide +kernel) (by decide +kernel) (by decide) t_l1 rfl ?_
      have t5 : nk_ar ja_Tt (ja_c l1 26) = some (1, 1024) := nk_ta ja_okT t_l1 (by decide +kernel)
      refine nk_p (i := .iload 4) (len := 2) (pc' := 322) mJ_131 (by decide +kernel) (ns_iload 3 rfl) rfl ?_
      refine nk_p (i := .iload 6) (len := 2) (pc' := 324) mJ_131 (by decide +kernel) (ns_iload 5 rfl) rfl ?_
      obtain ⟨h6, hr⟩ := nk_cke hr
      obtain ⟨S7, h8, hr⟩ := nk_lte hr
      refine nk_iast (len := 1) (N := 1024) (pc' := 325) mJ_131 (by decide +kernel) t5 h6.1 h6.2 rfl rfl h8 ?_
      obtain ⟨v9, h10, hr⟩ := nk_lte hr
      refine nk_p (i := .iinc 6 1) (len := 3) (pc' := 328) mJ_131 (by decide +kernel) (ns_iinc (c := 1) (L' := [(6, nk_i v9), (0, nk_r l0), (1, nk_r l1), (2, nk_i l2), (4, nk_i l4), (5, nk_i l5)]) 5 rfl (by decide +kernel) h10 rfl (by decide +kernel)) rfl ?_
      refine nk_p (i := .goto (-28)) (len := 3) (pc' := 300) mJ_131 (by decide +kernel) (ns_goto (by decide +kernel)) rfl ?_
      refine nk_sub [1, 2, 3, 4, 5, 0] (L' := [(0, nk_r l0), (1, nk_r l1), (2, nk_i l2), (4, nk_i l4), (5, nk_i l5), (6, nk_i v9)]) rfl ?_
      exact hrec300 _ _ _ _ _ _ _ _ t_l0 t_l1 hr
noncomputable def ja_X13_heights_L300 (rec232 : Nat → Nat → Int → Int → nk_S → Option (Int × nk_S)) : Nat → Nat → Nat → Int → Int → Int → Int → nk_S → Option (Int × nk_S)
  | 0, _, _, _, _, _, _, _ => none
  | n + 1, l0, l1, l2, l4, l5, l6, S => ja_X13_heights_b300 rec232 (ja_X13_heights_L300 rec232 n) l0 l1 l2 l4 l5 l6 S
theorem ja_X13_heights_L300_ok (zs : List Int32) {rec232 : Nat → Nat → Int → Int → nk_S → Option (Int × nk_S)} (hrec232 : ∀ (l0 : Nat) (l1 : Nat) (l2 : Int) (l4 : Int) (S : nk_S) (R : Int × nk_S), nk_cl ja_Tt l0 = some 13 → nk_cl ja_Tt l1 = some 12 → rec232 l0 l1 l2 l4 S = some R → nk_K ja_Tt mi_Γ (mi_ev zs) 1 131 232 [(0, nk_r l0), (1, nk_r l1), (2, nk_i l2), (4, nk_i l4)] [] S R) : ∀ n : Nat, ∀ (l0 : Nat) (l1 : Nat) (l2 : Int) (l4 : Int) (l5 : Int) (l6 : Int) (S : nk_S) (R : Int × nk_S), nk_cl ja_Tt l0 = some 13 → nk_cl ja_Tt l1 = some 12 → ja_X13_heights_L300 rec232 n l0 l1 l2 l4 l5 l6 S = some R → nk_K ja_Tt mi_Γ (mi_ev zs) 1 131 300 [(0, nk_r l0), (1, nk_r l1), (2, nk_i l2), (4, nk_i l4), (5, nk_i l5), (6, nk_i l6)] [] S R := by
  intro n
  induction n with
  | zero => intro _ _ _ _ _ _ _ _ _ _ hr; cases hr
  | succ n ih => intro l0 l1 l2 l4 l5 l6 S R t_l0 t_l1 hr; exact ja_X13_heights_b300_ok zs hrec232 ih l0 l1 l2 l4 l5 l6 S R t_l0 t_l1 hr
noncomputable def ja_X13_heights_b289 (rec232 : Nat → Nat → Int → Int → nk_S → Option (Int × nk_S)) (l0 : Nat) (l1 : Nat) (l2 : Int) (l4 : Int) (l5 : Int) (S : nk_S) : Option (Int × nk_S) :=
  if 0 ≤ l4 ∧ l4 < 1024 then
  nk_lt (nk_wi S (ja_c l1 26) l4.toNat (-1)) fun S3 =>
  ja_X13_heights_L300 rec232 nk_big l0 l1 l2 l4 l5 0 S3
  else none
theorem ja_X13_heights_b289_ok (zs : List Int32) {rec232 : Nat → Nat → Int → Int → nk_S → Option (Int × nk_S)} (hrec232 : ∀ (l0 : Nat) (l1 : Nat) (l2 : Int) (l4 : Int) (S : nk_S) (R : Int × nk_S), nk_cl ja_Tt l0 = some 13 → nk_cl ja_Tt l1 = some 12 → rec232 l0 l1 l2 l4 S = some R → nk_K ja_Tt mi_Γ (mi_ev zs) 1 131 232 [(0, nk_r l0), (1, nk_r l1), (2, nk_i l2), (4, nk_i l4)] [] S R) : ∀ (l0 : Nat) (l1 : Nat) (l2 : Int) (l4 : Int) (l5 : Int) (S : nk_S) (R : Int × nk_S), nk_cl ja_Tt l0 = some 13 → nk_cl ja_Tt l1 = some 12 → ja_X13_heights_b289 rec232 l0 l1 l2 l4 l5 S = some R → nk_K ja_Tt mi_Γ (mi_ev zs) 1 131 289 [(0, nk_r l0), (1, nk_r l1), (2, nk_i l2), (4, nk_i l4), (5, nk_i l5)] [] S R := by
  intro l0 l1 l2 l4 l5 S R t_l0 t_l1 hr
  unfold ja_X13_heights_b289 at hr
  refine nk_p (i := .aload_n 1) (len := 1) (pc' := 290) mJ_131 (by decide +kernel) (ns_aload_n 1 rfl rfl) rfl ?_
  refine nk_getC (f := (4, 1, 1024)) (x := 474) (len := 3) (ci := 12) (k := 26) (pc' := 293) ja_okT mJ_131 (by decide +kernel) (by decide +kernel) (by decide +kernel) (by decide) t_l1 rfl ?_
  have t1 : nk_ar ja_Tt (ja_c l1 26) = some (1, 1024) := nk_ta ja_okT t_l1 (by decide +kernel)
  refine nk_p (i := .iload 4) (len := 2) (pc' := 295) mJ_131 (by decide +kernel) (ns_iload 3 rfl) rfl ?_
  refine nk_p (i := .iconst (-1)) (len := 1) (pc' := 296) mJ_131 (by decide +kernel) (ns_iconst (c := (-1)) (by decide +kernel)) rfl ?_
  obtain ⟨h2, hr⟩ := nk_cke hr
  obtain ⟨S3, h4, hr⟩ := nk_lte hr
  refine nk_iast (len := 1) (N := 1024) (pc' := 297) mJ_131 (by decide +kernel) t1 h2.1 h2.2 rfl rfl h4 ?_
  refine nk_p (i := .iconst 0) (len := 1) (pc' := 298) mJ_131 (by decide +kernel) (ns_iconst (c := 0) (by decide +kernel)) rfl ?_
  refine nk_p (i := .istore 6) (len := 2) (pc' := 300) mJ_131 (by decide +kernel) (ns_istore (L' := [(6, nk_i 0), (0, nk_r l0), (1, nk_r l1), (2, nk_i l2), (4, nk_i l4), (5, nk_i l5)]) rfl rfl (by decide +kernel)) rfl ?_
  refine nk_sub [1, 2, 3, 4, 5, 0] (L' := [(0, nk_r l0), (1, nk_r l1), (2, nk_i l2), (4, nk_i l4), (5, nk_i l5), (6, nk_i 0)]) rfl ?_
  exact ja_X13_heights_L300_ok zs hrec232 nk_big _ _ _ _ _ _ _ _ t_l0 t_l1 hr
noncomputable def ja_X13_heights_b232 (rec232 : Nat → Nat → Int → Int → nk_S → Option (Int × nk_S)) (l0 : Nat) (l1 : Nat) (l2 : Int) (l4 : Int) (S : nk_S) : Option (Int × nk_S) :=
  if 0 ≤ l2 ∧ l2 < 48 then
  if (S.1 (ja_c l1 20) l2.toNat) ≤ l4 then
    some (1, S)
  else
    if 0 ≤ l4 ∧ l4 < 1024 then
    nk_lt (S.1 (ja_c l0 21) l4.toNat) fun v5 =>
    if (nk_iand v5 (nk_w (v5 - 1))) = 0 then
      if v5 = 0 then
        ja_X13_heights_b289 rec232 l0 l1 l2 l4 v5 S
      else
        nk_bd (ja_X13_goodHeights l0 l1 l4 S) fun r7 S8 =>
        if r7 = 0 then
          ja_X13_heights_b277 l0 l4 S8
        else
          ja_X13_heights_b289 rec232 l0 l1 l2 l4 v5 S8
    else
      ja_X13_heights_b277 l0 l4 S
    else none
  else none
theorem ja_X13_heights_b232_ok (zs : List Int32) {rec232 : Nat → Nat → Int → Int → nk_S → Option (Int × nk_S)} (hrec232 : ∀ (l0 : Nat) (l1 : Nat) (l2 : Int) (l4 : Int) (S : nk_S) (R : Int × nk_S), nk_cl ja_Tt l0 = some 13 → nk_cl ja_Tt l1 = some 12 → rec232 l0 l1 l2 l4 S = some R → nk_K ja_Tt mi_Γ (mi_ev zs) 1 131 232 [(0, nk_r l0), (1, nk_r l1), (2, nk_i l2), (4, nk_i l4)] [] S R) : ∀ (l0 : Nat) (l1 : Nat) (l2 : Int) (l4 : Int) (S : nk_S) (R : Int × nk_S), nk_cl ja_Tt l0 = some 13 → nk_cl ja_Tt l1 = some 12 → ja_X13_heights_b232 rec232 l0 l1 l2 l4 S = some R → nk_K ja_Tt mi_Γ (mi_ev zs) 1 131 232 [(0, nk_r l0), (1, nk_r l1), (2, nk_i l2), (4, nk_i l4)] [] S R := by
  intro l0 l1 l2 l4 S R t_l0 t_l1 hr
  unfold ja_X13_heights_b232 at hr
  refine nk_p (i := .iload 4) (len := 2) (pc' := 234) mJ_131 (by decide +kernel) (ns_iload 3 rfl) rfl ?_
  refine nk_p (i := .aload_n 1) (len := 1) (pc' := 235) mJ_131 (by decide +kernel) (ns_aload_n 1 rfl rfl) rfl ?_
  refine nk_getC (f := (4, 1, 48)) (x := 378) (len := 3) (ci := 12) (k := 20) (pc' := 238) ja_okT mJ_131 (by decide +kernel) (by decide +kernel) (by decide +kernel) (by decide) t_l1 rfl ?_
  have t1 : nk_ar ja_Tt (ja_c l1 20) = some (1, 48) := nk_ta ja_okT t_l1 (by decide +kernel)
  refine nk_p (i := .iload_n 2) (len := 1) (pc' := 239) mJ_131 (by decide +kernel) (ns_iload_n 2 rfl rfl) rfl ?_
  obtain ⟨h2, hr⟩ := nk_cke hr
  refine nk_iald (len := 1) (N := 48) (pc' := 240) mJ_131 (by decide +kernel) t1 h2.1 h2.2 rfl rfl ?_
  refine nk_icmp (c := .ge) (off := 97) (len := 3) (t := 337) (pc' := 243) mJ_131 (by decide +kernel) (by decide +kernel) rfl (fun hc => ?_) (fun hc => ?_)
  · have hr := nk_ifp (c := (S.1 (ja_c l1 20) l2.toNat) ≤ l4) hc hr
    refine nk_p (i := .iconst 1) (len := 1) (pc' := 338) mJ_131 (by decide +kernel) (ns_iconst (c := 1) (by decide +kernel)) rfl ?_
    cases hr
    exact nk_iret (ty := .boolean) (len := 1) mJ_131 (by decide +kernel) rfl (nk_nar_z (by decide))
  · have hr := nk_ifn (c := (S.1 (ja_c l1 20) l2.toNat) ≤ l4) hc hr
    refine nk_p (i := .aload_n 0) (len := 1) (pc' := 244) mJ_131 (by decide +kernel) (ns_aload_n 0 rfl rfl) rfl ?_
    refine nk_getC (f := (4, 1, 1024)) (x := 58) (len := 3) (ci := 13) (k := 21) (pc' := 247) ja_okT mJ_131 (by decide +kernel) (by decide +kernel) (by decide +kernel) (by decide) t_l0 rfl ?_
    have t3 : nk_ar ja_Tt (ja_c l0 21) = some (1, 1024) := nk_ta ja_okT t_l0 (by decide +kernel)
    refine nk_p (i := .iload 4) (len := 2) (pc' := 249) mJ_131 (by decide +kernel) (ns_iload 3 rfl) rfl ?_
    obtain ⟨h4, hr⟩ := nk_cke hr
    refine nk_iald (len := 1) (N := 1024) (pc' := 250) mJ_131 (by decide +kernel) t3 h4.1 h4.2 rfl rfl ?_
    obtain ⟨v5, h6, hr⟩ := nk_lte hr
    refine nk_p (i := .istore 5) (len := 2) (pc' := 252) mJ_131 (by decide +kernel) (ns_istore (L' := [(5, nk_i v5), (0, nk_r l0), (1, nk_r l1), (2, nk_i l2), (4, nk_i l4)]) h6 rfl (by decide +kernel)) rfl ?_
    refine nk_p (i := .iload 5) (len := 2) (pc' := 254) mJ_131 (by decide +kernel) (ns_iload 0 rfl) rfl ?_
    refine nk_p (i := .iload 5) (len := 2) (pc' := 256) mJ_131 (by decide +kernel) (ns_iload 0 rfl) rfl ?_
    refine nk_p (i := .iconst 1) (len := 1) (pc' := 257) mJ_131 (by decide +kernel) (ns_iconst (c := 1) (by decide +kernel)) rfl ?_
    refine nk_p (i := .isub) (len := 1) (pc' := 258) mJ_131 (by decide +kernel) ns_isub rfl ?_
    refine nk_p (i := .iand) (len := 1) (pc' := 259) mJ_131 (by decide +kernel) ns_iand rfl ?_
    refine nk_icond (c := .ne) (off := 18) (len := 3) (t := 277) (pc' := 262) mJ_131 (by decide +kernel) (by decide +kernel) rfl (fun hc => ?_) (fun hc => ?_)
    · have hr := nk_ifn (c := (nk_iand v5 (nk_w (v5 - 1))) = 0) hc hr
      refine nk_sub [1, 4] (L' := [(0, nk_r l0), (4, nk_i l4)]) rfl ?_
      exact ja_X13_heights_b277_ok zs _ _ _ _ t_l0 hr
    · have hr := nk_ifp (c := (nk_iand v5 (nk_w (v5 - 1))) = 0) (Decidable.of_not_not hc) hr
      refine nk_p (i := .iload 5) (len := 2) (pc' := 264) mJ_131 (by decide +kernel) (ns_iload 0 rfl) rfl ?_
      refine nk_icond (c := .eq) (off := 25) (len := 3) (t := 289) (pc' := 267) mJ_131 (by decide +kernel) (by decide +kernel) rfl (fun hc => ?_) (fun hc => ?_)
      · have hr := nk_ifp (c := v5 = 0) hc hr
        refine nk_sub [1, 2, 3, 4, 0] (L' := [(0, nk_r l0), (1, nk_r l1), (2, nk_i l2), (4, nk_i l4), (5, nk_i v5)]) rfl ?_
        exact ja_X13_heights_b289_ok zs hrec232 _ _ _ _ _ _ _ t_l0 t_l1 hr
      · have hr := nk_ifn (c := v5 = 0) hc hr
        refine nk_p (i := .aload_n 0) (len := 1) (pc' := 268) mJ_131 (by decide +kernel) (ns_aload_n 1 rfl rfl) rfl ?_
        refine nk_p (i := .aload_n 1) (len := 1) (pc' := 269) mJ_131 (by decide +kernel) (ns_aload_n 2 rfl rfl) rfl ?_
        refine nk_p (i := .iload 4) (len := 2) (pc' := 271) mJ_131 (by decide +kernel) (ns_iload 4 rfl) rfl ?_
        obtain ⟨r7, S8, h9, hr⟩ := nk_bde hr
        refine nk_callV (ci := 13) (n := 2) (x := 459) (len := 3) (j' := 128) (q' := 1) (r := r7) (S' := S8) (L2 := [(0, nk_r l0), (1, nk_r l1), (2, nk_i l4)]) (rest := []) (st' := [nk_i r7]) (pc' := 274) mJ_131 (by decide +kernel) (by decide +kernel) rfl rfl t_l0 (Nat.le_of_ble_eq_true rfl) mJ_128 (Nat.le_of_ble_eq_true rfl) rfl (ja_X13_goodHeights_ok zs _ _ _ _ _ t_l0 t_l1 h9) rfl ?_
        refine nk_icond (c := .ne) (off := 15) (len := 3) (t := 289) (pc' := 277) mJ_131 (by decide +kernel) (by decide +kernel) rfl (fun hc => ?_) (fun hc => ?_)
        · have hr := nk_ifn (c := r7 = 0) hc hr
          refine nk_sub [1, 2, 3, 4, 0] (L' := [(0, nk_r l0), (1, nk_r l1), (2, nk_i l2), (4, nk_i l4), (5, nk_i v5)]) rfl ?_
          exact ja_X13_heights_b289_ok zs hrec232 _ _ _ _ _ _ _ t_l0 t_l1 hr
        · have hr := nk_ifp (c := r7 = 0) (Decidable.of_not_not hc) hr
          refine nk_sub [1, 4] (L' := [(0, nk_r l0), (4, nk_i l4)]) rfl ?_
          exact ja_X13_heights_b277_ok zs _ _ _ _ t_l0 hr
noncomputable def ja_X13_heights_L232 : Nat → Nat → Nat → Int → Int → nk_S → Option (Int × nk_S)
  | 0, _, _, _, _, _ => none
  | n + 1, l0, l1, l2, l4, S => ja_X13_heights_b232 (ja_X13_heights_L232 n) l0 l1 l2 l4 S
theorem ja_X13_heights_L232_ok (zs : List Int32) : ∀ n : Nat, ∀ (l0 : Nat) (l1 : Nat) (l2 : Int) (l4 : Int) (S : nk_S) (R : Int × nk_S), nk_cl ja_Tt l0 = some 13 → nk_cl ja_Tt l1 = some 12 → ja_X13_heights_L232 n l0 l1 l2 l4 S = some R → nk_K ja_Tt mi_Γ (mi_ev zs) 1 131 232 [(0, nk_r l0), (1, nk_r l1), (2, nk_i l2), (4, nk_i l4)] [] S R := by
  intro n
  induction n with
  | zero => intro _ _ _ _ _ _ _ _ hr; cases hr
  | succ n ih => intro l0 l1 l2 l4 S R t_l0 t_l1 hr; exact ja_X13_heights_b232_ok zs ih l0 l1 l2 l4 S R t_l0 t_l1 hr
noncomputable def ja_X13_heights_b203 (rec44 : Nat → Nat → Int → Int → nk_S → Option (Int × nk_S)) (rec58 : Nat → Nat → Int → Int → Int → nk_S → Option (Int × nk_S)) (rec164 : Nat → Nat → Int → Int → Int → Int → nk_S → Option (Int × nk_S)) (l0 : Nat) (l1 : Nat) (l2 : Int) (l4 : Int) (l6 : Int) (S : nk_S) : Option (Int × nk_S) :=
  nk_lt (nk_w (l6 + 1)) fun v1 =>
  rec164 l0 l1 l2 1 l4 v1 S
theorem ja_X13_heights_b203_ok (zs : List Int32) {rec44 : Nat → Nat → Int → Int → nk_S → Option (Int × nk_S)} (hrec44 : ∀ (l0 : Nat) (l1 : Nat) (l2 : Int) (l3 : Int) (S : nk_S) (R : Int × nk_S), nk_cl ja_Tt l0 = some 13 → nk_cl ja_Tt l1 = some 12 → rec44 l0 l1 l2 l3 S = some R → nk_K ja_Tt mi_Γ (mi_ev zs) 1 131 44 [(0, nk_r l0), (1, nk_r l1), (2, nk_i l2), (3, nk_i l3)] [] S R) {rec58 : Nat → Nat → Int → Int → Int → nk_S → Option (Int × nk_S)} (hrec58 : ∀ (l0 : Nat) (l1 : Nat) (l2 : Int) (l3 : Int) (l4 : Int) (S : nk_S) (R : Int × nk_S), nk_cl ja_Tt l0 = some 13 → nk_cl ja_Tt l1 = some 12 → rec58 l0 l1 l2 l3 l4 S = some R → nk_K ja_Tt mi_Γ (mi_ev zs) 1 131 58 [(0, nk_r l0), (1, nk_r l1), (2, nk_i l2), (3, nk_i l3), (4, nk_i l4)] [] S R) {rec164 : Nat → Nat → Int → Int → Int → Int → nk_S → Option (Int × nk_S)} (hrec164 : ∀ (l0 : Nat) (l1 : Nat) (l2 : Int) (l3 : Int) (l4 : Int) (l6 : Int) (S : nk_S) (R : Int × nk_S), nk_cl ja_Tt l0 = some 13 → nk_cl ja_Tt l1 = some 12 → rec164 l0 l1 l2 l3 l4 l6 S = some R → nk_K ja_Tt mi_Γ (mi_ev zs) 1 131 164 [(0, nk_r l0), (1, nk_r l1), (2, nk_i l2), (3, nk_i l3), (4, nk_i l4), (6, nk_i l6)] [] S R) : ∀ (l0 : Nat) (l1 : Nat) (l2 : Int) (l4 : Int) (l6 : Int) (S : nk_S) (R : Int × nk_S), nk_cl ja_Tt l0 = some 13 → nk_cl ja_Tt l1 = some 12 → ja_X13_heights_b203 rec44 rec58 rec164 l0 l1 l2 l4 l6 S = some R → nk_K ja_Tt mi_Γ (mi_ev zs) 1 131 203 [(0, nk_r l0), (1, nk_r l1), (2, nk_i l2), (4, nk_i l4), (6, nk_i l6)] [] S R := by
  intro l0 l1 l2 l4 l6 S R t_l0 t_l1 hr
  unfold ja_X13_heights_b203 at hr
  refine nk_p (i := .iconst 1) (len := 1) (pc' := 204) mJ_131 (by decide +kernel) (ns_iconst (c := 1) (by decide +kernel)) rfl ?_
  refine nk_p (i := .goto 4) (len := 3) (pc' := 208) mJ_131 (by decide +kernel) (ns_goto (by decide +kernel)) rfl ?_
  refine nk_p (i := .istore_n 3) (len := 1) (pc' := 209) mJ_131 (by decide +kernel) (ns_istore_n (L' := [(3, nk_i 1), (0, nk_r l0), (1, nk_r l1), (2, nk_i l2), (4, nk_i l4), (6, nk_i l6)]) rfl rfl rfl (by decide +kernel)) rfl ?_
  obtain ⟨v1, h2, hr⟩ := nk_lte hr
  refine nk_p (i := .iinc 6 1) (len := 3) (pc' := 212) mJ_131 (by decide +kernel) (ns_iinc (c := 1) (L' := [(6, nk_i v1), (3, nk_i 1), (0, nk_r l0), (1, nk_r l1), (2, nk_i l2), (4, nk_i l4)]) 5 rfl (by decide +kernel) h2 rfl (by decide +kernel)) rfl ?_
  refine nk_p (i := .goto (-48)) (len := 3) (pc' := 164) mJ_131 (by decide +kernel) (ns_goto (by decide +kernel)) rfl ?_
  refine nk_sub [2, 3, 4, 1, 5, 0] (L' := [(0, nk_r l0), (1, nk_r l1), (2, nk_i l2), (3, nk_i 1), (4, nk_i l4), (6, nk_i v1)]) rfl ?_
  exact hrec164 _ _ _ _ _ _ _ _ t_l0 t_l1 hr
noncomputable def ja_X13_heights_b164 (rec44 : Nat → Nat → Int → Int → nk_S → Option (Int × nk_S)) (rec58 : Nat → Nat → Int → Int → Int → nk_S → Option (Int × nk_S)) (rec164 : Nat → Nat → Int → Int → Int → Int → nk_S → Option (Int × nk_S)) (l0 : Nat) (l1 : Nat) (l2 : Int) (l3 : Int) (l4 : Int) (l6 : Int) (S : nk_S) : Option (Int × nk_S) :=
  if (S.1 l1 5) ≤ l6 then
    nk_lt (nk_w (l4 + 1)) fun v1 =>
    rec58 l0 l1 l2 l3 v1 S
  else
    nk_bd (ja_X13_covers l1 l6 l4 S) fun r3 S4 =>
    if r3 = 0 then
      nk_lt (nk_w (l6 + 1)) fun v6 =>
      rec164 l0 l1 l2 l3 l4 v6 S4
    else
      if 0 ≤ l6 ∧ l6 < 64 then
      nk_bd (ja_X13_added l0 (S4.1 (ja_c l1 31) l6.toNat) 2 S4) fun r10 S11 =>
      if r10 = 0 then
        if l3 = 0 then
          nk_lt (nk_w (l6 + 1)) fun v13 =>
          rec164 l0 l1 l2 0 l4 v13 S11
        else
          ja_X13_heights_b203 rec44 rec58 rec164 l0 l1 l2 l4 l6 S11
      else
        ja_X13_heights_b203 rec44 rec58 rec164 l0 l1 l2 l4 l6 S11
      else none
theorem ja_X13_heights_b164_ok (zs : List Int32) {rec44 : Nat → Nat → Int → Int → nk_S → Option (Int × nk_S)} (hrec44 : ∀ (l0 : Nat) (l1 : Nat) (l2 : Int) (l3 : Int) (S : nk_S) (R : Int × nk_S), nk_cl ja_Tt l0 = some 13 → nk_cl ja_Tt l1 = some 12 → rec44 l0 l1 l2 l3 S = some R → nk_K ja_Tt mi_Γ (mi_ev zs) 1 131 44 [(0, nk_r l0), (1, nk_r l1), (2, nk_i l2), (3, nk_i l3)] [] S R) {rec58 : Nat → Nat → Int → Int → Int → nk_S → Option (Int × nk_S)} (hrec58 : ∀ (l0 : Nat) (l1 : Nat) (l2 : Int) (l3 : Int) (l4 : Int) (S : nk_S) (R : Int × nk_S), nk_cl ja_Tt l0 = some 13 → nk_cl ja_Tt l1 = some 12 → rec58 l0 l1 l2 l3 l4 S = some R → nk_K ja_Tt mi_Γ (mi_ev zs) 1 131 58 [(0, nk_r l0), (1, nk_r l1), (2, nk_i l2), (3, nk_i l3), (4, nk_i l4)] [] S R) {rec164 : Nat → Nat → Int → Int → Int → Int → nk_S → Option (Int × nk_S)} (hrec164 : ∀ (l0 : Nat) (l1 : Nat) (l2 : Int) (l3 : Int) (l4 : Int) (l6 : Int) (S : nk_S) (R : Int × nk_S), nk_cl ja_Tt l0 = some 13 → nk_cl ja_Tt l1 = some 12 → rec164 l0 l1 l2 l3 l4 l6 S = some R → nk_K ja_Tt mi_Γ (mi_ev zs) 1 131 164 [(0, nk_r l0), (1, nk_r l1), (2, nk_i l2), (3, nk_i l3), (4, nk_i l4), (6, nk_i l6)] [] S R) : ∀ (l0 : Nat) (l1 : Nat) (l2 : Int) (l3 : Int) (l4 : Int) (l6 : Int) (S : nk_S) (R : Int × nk_S), nk_cl ja_Tt l0 = some 13 → nk_cl ja_Tt l1 = some 12 → ja_X13_heights_b164 rec44 rec58 rec164 l0 l1 l2 l3 l4 l6 S = some R → nk_K ja_Tt mi_Γ (mi_ev zs) 1 131 164 [(0, nk_r l0), (1, nk_r l1), (2, nk_i l2), (3, nk_i l3), (4, nk_i l4), (6, nk_i l6)] [] S R := by
  intro l0 l1 l2 l3 l4 l6 S R t_l0 t_l1 hr
  unfold ja_X13_heights_b164 at hr
  refine nk_p (i := .iload 6) (len := 2) (pc' := 166) mJ_131 (by decide +kernel) (ns_iload 5 rfl) rfl ?_
  refine nk_p (i := .aload_n 1) (len := 1) (pc' := 167) mJ_131 (by decide +kernel) (ns_aload_n 1 rfl rfl) rfl ?_
  refine nk_getI (y := (0, 0)) (x := 359) (len := 3) (ci := 12) (k := 5) (pc' := 170) ja_okT mJ_131 (by decide +kernel) (by decide +kernel) (by decide +kernel) t_l1 rfl ?_
  refine nk_icmp (c := .ge) (off := 45) (len := 3) (t := 215) (pc' := 173) mJ_131 (by decide +kernel) (by decide +kernel) rfl (fun hc => ?_) (fun hc => ?_)
  · have hr := nk_ifp (c := (S.1 l1 5) ≤ l6) hc hr
    obtain ⟨v1, h2, hr⟩ := nk_lte hr
    refine nk_p (i := .iinc 4 1) (len := 3) (pc' := 218) mJ_131 (by decide +kernel) (ns_iinc (c := 1) (L' := [(4, nk_i v1), (0, nk_r l0), (1, nk_r l1), (2, nk_i l2), (3, nk_i l3), (6, nk_i l6)]) 4 rfl (by decide +kernel) h2 rfl (by decide +kernel)) rfl ?_
    refine nk_p (i := .goto (-160)) (len := 3) (pc' := 58) mJ_131 (by decide +kernel) (ns_goto (by decide +kernel)) rfl ?_
    refine nk_sub [1, 2, 3, 4, 0] (L' := [(0, nk_r l0), (1, nk_r l1), (2, nk_i l2), (3, nk_i l3), (4, nk_i v1)]) rfl ?_
    exact hrec58 _ _ _ _ _ _ _ t_l0 t_l1 hr
  · have hr := nk_ifn (c := (S.1 l1 5) ≤ l6) hc hr
    refine nk_p (i := .aload_n 1) (len := 1) (pc' := 174) mJ_131 (by decide +kernel) (ns_aload_n 1 rfl rfl) rfl ?_
    refine nk_p (i := .iload 6) (len := 2) (pc' := 176) mJ_131 (by decide +kernel) (ns_iload 5 rfl) rfl ?_
    refine nk_p (i := .iload 4) (len := 2) (pc' := 178) mJ_131 (by decide +kernel) (ns_iload 4 rfl) rfl ?_
    obtain ⟨r3, S4, h5, hr⟩ := nk_bde hr
    refine nk_callS (ci := 0) (n := 3) (x := 471) (len := 3) (j' := 104) (q' := 1) (r := r3) (S' := S4) (L2 := [(0, nk_r l1), (1, nk_i l6), (2, nk_i l4)]) (rest := []) (st' := [nk_i r3]) (pc' := 181) mJ_131 (by decide +kernel) (by decide +kernel) (Nat.le_of_ble_eq_true rfl) rfl rfl (Nat.le_of_ble_eq_true rfl) mJ_104 (Nat.le_of_ble_eq_true rfl) ja_Tpos rfl (ja_X13_covers_ok zs _ _ _ _ _ t_l1 h5) rfl ?_
    refine nk_icond (c := .eq) (off := 28) (len := 3) (t := 209) (pc' := 184) mJ_131 (by decide +kernel) (by decide +kernel) rfl (fun hc => ?_) (fun hc => ?_)
    · have hr := nk_ifp (c := r3 = 0) hc hr
      obtain ⟨v6, h7, hr⟩ := nk_lte hr
      refine nk_p (i := .iinc 6 1) (len := 3) (pc' := 212) mJ_131 (by decide +kernel) (ns_iinc (c := 1) (L' := [(6, nk_i v6), (0, nk_r l0), (1, nk_r l1), (2, nk_i l2), (3, nk_i l3), (4, nk_i l4)]) 5 rfl (by decide +kernel) h7 rfl (by decide +kernel)) rfl ?_
      refine nk_p (i := .goto (-48)) (len := 3) (pc' := 164) mJ_131 (by decide +kernel) (ns_goto (by decide +kernel)) rfl ?_
      refine nk_sub [1, 2, 3, 4, 5, 0] (L' := [(0, nk_r l0), (1, nk_r l1), (2, nk_i l2), (3, nk_i l3), (4, nk_i l4), (6, nk_i v6)]) rfl ?_
      exact hrec164 _ _ _ _ _ _ _ _ t_l0 t_l1 hr
    · have hr := nk_ifn (c := r3 = 0) hc hr
      refine nk_p (i := .aload_n 0) (len := 1) (pc' := 185) mJ_131 (by decide +kernel) (ns_aload_n 0 rfl rfl) rfl ?_
      refine nk_p (i := .aload_n 1) (len := 1) (pc' := 186) mJ_131 (by decide +kernel) (ns_aload_n 1 rfl rfl) rfl ?_
      refine nk_getC (f := (4, 1, 64)) (x := 406) (len := 3) (ci := 12) (k := 31) (pc' := 189) ja_okT mJ_131 (by decide +kernel) (by decide +kernel) (by decide +kernel) (by decide) t_l1 rfl ?_
      have t8 : nk_ar ja_Tt (ja_c l1 31) = some (1, 64) := nk_ta ja_okT t_l1 (by decide +kernel)
      refine nk_p (i := .iload 6) (len := 2) (pc' := 191) mJ_131 (by decide +kernel) (ns_iload 5 rfl) rfl ?_
      obtain ⟨h9, hr⟩ := nk_cke hr
      refine nk_iald (len := 1) (N := 64) (pc' := 192) mJ_131 (by decide +kernel) t8 h9.1 h9.2 rfl rfl ?_
      refine nk_p (i := .iconst 2) (len := 1) (pc' := 193) mJ_131 (by decide +kernel) (ns_iconst (c := 2) (by decide +kernel)) rfl ?_
      obtain ⟨r10, S11, h12, hr⟩ := nk_bde hr
      refine nk_callV (ci := 13) (n := 2) (x := 465) (len := 3) (j' := 81) (q' := 1) (r := r10) (S' := S11) (L2 := [(0, nk_r l0), (1, nk_i (S4.1 (ja_c l1 31) l6.toNat)), (2, nk_i 2)]) (rest := []) (st' := [nk_i r10]) (pc' := 196) mJ_131 (by decide +kernel) (by decide +kernel) rfl rfl t_l0 (Nat.le_of_ble_eq_true rfl) mJ_81 (Nat.le_of_ble_eq_true rfl) rfl (ja_X13_added_ok zs _ _ _ _ _ t_l0 h12) rfl ?_
      refine nk_icond (c := .ne) (off := 7) (len := 3) (t := 203) (pc' := 199) mJ_131 (by decide +kernel) (by decide +kernel) rfl (fun hc => ?_) (fun hc => ?_)
      · have hr := nk_ifn (c := r10 = 0) hc hr
        refine nk_sub [0, 1, 2, 4, 5] (L' := [(0, nk_r l0), (1, nk_r l1), (2, nk_i l2), (4, nk_i l4), (6, nk_i l6)]) rfl ?_
        exact ja_X13_heights_b203_ok zs hrec44 hrec58 hrec164 _ _ _ _ _ _ _ t_l0 t_l1 hr
      · have hr := nk_ifp (c := r10 = 0) (Decidable.of_not_not hc) hr
        refine nk_p (i := .iload_n 3) (len := 1) (pc' := 200) mJ_131 (by decide +kernel) (ns_iload_n 3 rfl rfl) rfl ?_
        refine nk_icond (c := .eq) (off := 7) (len := 3) (t := 207) (pc' := 203) mJ_131 (by decide +kernel) (by decide +kernel) rfl (fun hc => ?_) (fun hc => ?_)
        · have hr := nk_ifp (c := l3 = 0) hc hr
          refine nk_p (i := .iconst 0) (len := 1) (pc' := 208) mJ_131 (by decide +kernel) (ns_iconst (c := 0) (by decide +kernel)) rfl ?_
          refine nk_p (i := .istore_n 3) (len := 1) (pc' := 209) mJ_131 (by decide +kernel) (ns_istore_n (L' := [(3, nk_i 0), (0, nk_r l0), (1, nk_r l1), (2, nk_i l2), (4, nk_i l4), (6, nk_i l6)]) rfl rfl rfl (by decide +kernel)) rfl ?_
          obtain ⟨v13, h14, hr⟩ := nk_lte hr
          refine nk_p (i := .iinc 6 1) (len := 3) (pc' := 212) mJ_131 (by decide +kernel) (ns_iinc (c := 1) (L' := [(6, nk_i v13), (3, nk_i 0), (0, nk_r l0), (1, nk_r l1), (2, nk_i l2), (4, nk_i l4)]) 5 rfl (by decide +kernel) h14 rfl (by decide +kernel)) rfl ?_
          refine nk_p (i := .goto (-48)) (len := 3) (pc' := 164) mJ_131 (by decide +kernel) (ns_goto (by decide +kernel)) rfl ?_
          refine nk_sub [2, 3, 4, 1, 5, 0] (L' := [(0, nk_r l0), (1, nk_r l1), (2, nk_i l2), (3, nk_i 0), (4, nk_i l4), (6, nk_i v13)]) rfl ?_
          exact hrec164 _ _ _ _ _ _ _ _ t_l0 t_l1 hr
        · have hr := nk_ifn (c := l3 = 0) hc hr
          refine nk_sub [0, 1, 2, 4, 5] (L' := [(0, nk_r l0), (1, nk_r l1), (2, nk_i l2), (4, nk_i l4), (6, nk_i l6)]) rfl ?_
          exact ja_X13_heights_b203_ok zs hrec44 hrec58 hrec164 _ _ _ _ _ _ _ t_l0 t_l1 hr
noncomputable def ja_X13_heights_L164 (rec44 : Nat → Nat → Int → Int → nk_S → Option (Int × nk_S)) (rec58 : Nat → Nat → Int → Int → Int → nk_S → Option (Int × nk_S)) : Nat → Nat → Nat → Int → Int → Int → Int → nk_S → Option (Int × nk_S)
  | 0, _, _, _, _, _, _, _ => none
  | n + 1, l0, l1, l2, l3, l4, l6, S => ja_X13_heights_b164 rec44 rec58 (ja_X13_heights_L164 rec44 rec58 n) l0 l1 l2 l3 l4 l6 S
theorem ja_X13_heights_L164_ok (zs : List Int32) {rec44 : Nat → Nat → Int → Int → nk_S → Option (Int × nk_S)} (hrec44 : ∀ (l0 : Nat) (l1 : Nat) (l2 : Int) (l3 : Int) (S : nk_S) (R : Int × nk_S), nk_cl ja_Tt l0 = some 13 → nk_cl ja_Tt l1 = some 12 → rec44 l0 l1 l2 l3 S = some R → nk_K ja_Tt mi_Γ (mi_ev zs) 1 131 44 [(0, nk_r l0), (1, nk_r l1), (2, nk_i l2), (3, nk_i l3)] [] S R) {rec58 : Nat → Nat → Int → Int → Int → nk_S → Option (Int × nk_S)} (hrec58 : ∀ (l0 : Nat) (l1 : Nat) (l2 : Int) (l3 : Int) (l4 : Int) (S : nk_S) (R : Int × nk_S), nk_cl ja_Tt l0 = some 13 → nk_cl ja_Tt l1 = some 12 → rec58 l0 l1 l2 l3 l4 S = some R → nk_K ja_Tt mi_Γ (mi_ev zs) 1 131 58 [(0, nk_r l0), (1, nk_r l1), (2, nk_i l2), (3, nk_i l3), (4, nk_i l4)] [] S R) : ∀ n : Nat, ∀ (l0 : Nat) (l1 : Nat) (l2 : Int) (l3 : Int) (l4 : Int) (l6 : Int) (S : nk_S) (R : Int × nk_S), nk_cl ja_Tt l0 = some 13 → nk_cl ja_Tt l1 = some 12 → ja_X13_heights_L164 rec44 rec58 n l0 l1 l2 l3 l4 l6 S = some R → nk_K ja_Tt mi_Γ (mi_ev zs) 1 131 164 [(0, nk_r l0), (1, nk_r l1), (2, nk_i l2), (3, nk_i l3), (4, nk_i l4), (6, nk_i l6)] [] S R := by
  intro n
  induction n with
  | zero => intro _ _ _ _ _ _ _ _ _ _ hr; cases hr
  | succ n ih => intro l0 l1 l2 l3 l4 l6 S R t_l0 t_l1 hr; exact ja_X13_heights_b164_ok zs hrec44 hrec58 ih l0 l1 l2 l3 l4 l6 S R t_l0 t_l1 hr
noncomputable def ja_X13_heights_b155 (rec44 : Nat → Nat → Int → Int → nk_S → Option (Int × nk_S)) (rec58 : Nat → Nat → Int → Int → Int → nk_S → Option (Int × nk_S)) (l0 : Nat) (l1 : Nat) (l2 : Int) (l4 : Int) (S : nk_S) : Option (Int × nk_S) :=
  ja_X13_heights_L164 rec44 rec58 nk_big l0 l1 l2 1 l4 0 S
theorem ja_X13_heights_b155_ok (zs : List Int32) {rec44 : Nat → Nat → Int → Int → nk_S → Option (Int × nk_S)} (hrec44 : ∀ (l0 : Nat) (l1 : Nat) (l2 : Int) (l3 : Int) (S : nk_S) (R : Int × nk_S), nk_cl ja_Tt l0 = some 13 → nk_cl ja_Tt l1 = some 12 → rec44 l0 l1 l2 l3 S = some R → nk_K ja_Tt mi_Γ (mi_ev zs) 1 131 44 [(0, nk_r l0), (1, nk_r l1), (2, nk_i l2), (3, nk_i l3)] [] S R) {rec58 : Nat → Nat → Int → Int → Int → nk_S → Option (Int × nk_S)} (hrec58 : ∀ (l0 : Nat) (l1 : Nat) (l2 : Int) (l3 : Int) (l4 : Int) (S : nk_S) (R : Int × nk_S), nk_cl ja_Tt l0 = some 13 → nk_cl ja_Tt l1 = some 12 → rec58 l0 l1 l2 l3 l4 S = some R → nk_K ja_Tt mi_Γ (mi_ev zs) 1 131 58 [(0, nk_r l0), (1, nk_r l1), (2, nk_i l2), (3, nk_i l3), (4, nk_i l4)] [] S R) : ∀ (l0 : Nat) (l1 : Nat) (l2 : Int) (l4 : Int) (S : nk_S) (R : Int × nk_S), nk_cl ja_Tt l0 = some 13 → nk_cl ja_Tt l1 = some 12 → ja_X13_heights_b155 rec44 rec58 l0 l1 l2 l4 S = some R → nk_K ja_Tt mi_Γ (mi_ev zs) 1 131 155 [(0, nk_r l0), (1, nk_r l1), (2, nk_i l2), (4, nk_i l4)] [] S R := by
  intro l0 l1 l2 l4 S R t_l0 t_l1 hr
  unfold ja_X13_heights_b155 at hr
  refine nk_p (i := .iconst 1) (len := 1) (pc' := 156) mJ_131 (by decide +kernel) (ns_iconst (c := 1) (by decide +kernel)) rfl ?_
  refine nk_p (i := .goto 4) (len := 3) (pc' := 160) mJ_131 (by decide +kernel) (ns_goto (by decide +kernel)) rfl ?_
  refine nk_p (i := .istore_n 3) (len := 1) (pc' := 161) mJ_131 (by decide +kernel) (ns_istore_n (L' := [(3, nk_i 1), (0, nk_r l0), (1, nk_r l1), (2, nk_i l2), (4, nk_i l4)]) rfl rfl rfl (by decide +kernel)) rfl ?_
  refine nk_p (i := .iconst 0) (len := 1) (pc' := 162) mJ_131 (by decide +kernel) (ns_iconst (c := 0) (by decide +kernel)) rfl ?_
  refine nk_p (i := .istore 6) (len := 2) (pc' := 164) mJ_131 (by decide +kernel) (ns_istore (L' := [(6, nk_i 0), (3, nk_i 1), (0, nk_r l0), (1, nk_r l1), (2, nk_i l2), (4, nk_i l4)]) rfl rfl (by decide +kernel)) rfl ?_
  refine nk_sub [2, 3, 4, 1, 5, 0] (L' := [(0, nk_r l0), (1, nk_r l1), (2, nk_i l2), (3, nk_i 1), (4, nk_i l4), (6, nk_i 0)]) rfl ?_
  exact ja_X13_heights_L164_ok zs hrec44 hrec58 nk_big _ _ _ _ _ _ _ _ t_l0 t_l1 hr
noncomputable def ja_X13_heights_b122 (rec44 : Nat → Nat → Int → Int → nk_S → Option (Int × nk_S)) (rec58 : Nat → Nat → Int → Int → Int → nk_S → Option (Int × nk_S)) (l0 : Nat) (l1 : Nat) (l2 : Int) (l3 : Int) (l4 : Int) (l5 : Int) (S : nk_S) : Option (Int × nk_S) :=
  if 0 ≤ l4 ∧ l4 < 1024 then
  nk_bd (ja_X13_hasLabel (S.1 (ja_c l1 22) l4.toNat) S) fun r3 S4 =>
  if r3 = 0 then
    ja_X13_heights_L164 rec44 rec58 nk_big l0 l1 l2 l3 l4 0 S4
  else
    nk_bd (ja_X13_added l0 (S4.1 (ja_c l1 23) l4.toNat) l5 S4) fun r7 S8 =>
    if r7 = 0 then
      if l3 = 0 then
        ja_X13_heights_L164 rec44 rec58 nk_big l0 l1 l2 0 l4 0 S8
      else
        ja_X13_heights_b155 rec44 rec58 l0 l1 l2 l4 S8
    else
      ja_X13_heights_b155 rec44 rec58 l0 l1 l2 l4 S8
  else none
theorem ja_X13_heights_b122_ok (zs : List Int32) {rec44 : Nat → Nat → Int → Int → nk_S → Option (Int × nk_S)} (hrec44 : ∀ (l0 : Nat) (l1 : Nat) (l2 : Int) (l3 : Int) (S : nk_S) (R : Int × nk_S), nk_cl ja_Tt l0 = some 13 → nk_cl ja_Tt l1 = some 12 → rec44 l0 l1 l2 l3 S = some R → nk_K ja_Tt mi_Γ (mi_ev zs) 1 131 44 [(0, nk_r l0), (1, nk_r l1), (2, nk_i l2), (3, nk_i l3)] [] S R) {rec58 : Nat → Nat → Int → Int → Int → nk_S → Option (Int × nk_S)} (hrec58 : ∀ (l0 : Nat) (l1 : Nat) (l2 : Int) (l3 : Int) (l4 : Int) (S : nk_S) (R : Int × nk_S), nk_cl ja_Tt l0 = some 13 → nk_cl ja_Tt l1 = some 12 → rec58 l0 l1 l2 l3 l4 S = some R → nk_K ja_Tt mi_Γ (mi_ev zs) 1 131 58 [(0, nk_r l0), (1, nk_r l1), (2, nk_i l2), (3, nk_i l3), (4, nk_i l4)] [] S R) : ∀ (l0 : Nat) (l1 : Nat) (l2 : Int) (l3 : Int) (l4 : Int) (l5 : Int) (S : nk_S) (R : Int × nk_S), nk_cl ja_Tt l0 = some 13 → nk_cl ja_Tt l1 = some 12 → ja_X13_heights_b122 rec44 rec58 l0 l1 l2 l3 l4 l5 S = some R → nk_K ja_Tt mi_Γ (mi_ev zs) 1 131 122 [(0, nk_r l0), (1, nk_r l1), (2, nk_i l2), (3, nk_i l3), (4, nk_i l4), (5, nk_i l5)] [] S R := by
  intro l0 l1 l2 l3 l4 l5 S R t_l0 t_l1 hr
  unfold ja_X13_heights_b122 at hr
  refine nk_p (i := .aload_n 1) (len := 1) (pc' := 123) mJ_131 (by decide +kernel) (ns_aload_n 1 rfl rfl) rfl ?_
  refine nk_getC (f := (4, 1, 1024)) (x := 391) (len := 3) (ci := 12) (k := 22) (pc' := 126) ja_okT mJ_131 (by decide +kernel) (by decide +kernel) (by decide +kernel) (by decide) t_l1 rfl ?_
  have t1 : nk_ar ja_Tt (ja_c l1 22) = some (1, 1024) := nk_ta ja_okT t_l1 (by decide +kernel)
  refine nk_p (i := .iload 4) (len := 2) (pc' := 128) mJ_131 (by decide +kernel) (ns_iload 4 rfl) rfl ?_
  obtain ⟨h2, hr⟩ := nk_cke hr
  refine nk_iald (len := 1) (N := 1024) (pc' := 129) mJ_131 (by decide +kernel) t1 h2.1 h2.2 rfl rfl ?_
  obtain ⟨r3, S4, h5, hr⟩ := nk_bde hr
  refine nk_callS (ci := 0) (n := 1) (x := 468) (len := 3) (j' := 129) (q' := 1) (r := r3) (S' := S4) (L2 := [(0, nk_i (S.1 (ja_c l1 22) l4.toNat))]) (rest := []) (st' := [nk_i r3]) (pc' := 132) mJ_131 (by decide +kernel) (by decide +kernel) (Nat.le_of_ble_eq_true rfl) rfl rfl (Nat.le_of_ble_eq_true rfl) mJ_129 (Nat.le_of_ble_eq_true rfl) ja_Tpos rfl (ja_X13_hasLabel_ok zs _ _ _ h5) rfl ?_
  refine nk_icond (c := .eq) (off := 29) (len := 3) (t := 161) (pc' := 135) mJ_131 (by decide +kernel) (by decide +kernel) rfl (fun hc => ?_) (fun hc => ?_)
  · have hr := nk_ifp (c := r3 = 0) hc hr
    refine nk_p (i := .iconst 0) (len := 1) (pc' := 162) mJ_131 (by decide +kernel) (ns_iconst (c := 0) (by decide +kernel)) rfl ?_
    refine nk_p (i := .istore 6) (len := 2) (pc' := 164) mJ_131 (by decide +kernel) (ns_istore (L' := [(6, nk_i 0), (0, nk_r l0), (1, nk_r l1), (2, nk_i l2), (3, nk_i l3), (4, nk_i l4), (5, nk_i l5)]) rfl rfl (by decide +kernel)) rfl ?_
    refine nk_sub [1, 2, 3, 4, 5, 0] (L' := [(0, nk_r l0), (1, nk_r l1), (2, nk_i l2), (3, nk_i l3), (4, nk_i l4), (6, nk_i 0)]) rfl ?_
    exact ja_X13_heights_L164_ok zs hrec44 hrec58 nk_big _ _ _ _ _ _ _ _ t_l0 t_l1 hr
  · have hr := nk_ifn (c := r3 = 0) hc hr
    refine nk_p (i := .aload_n 0) (len := 1) (pc' := 136) mJ_131 (by decide +kernel) (ns_aload_n 0 rfl rfl) rfl ?_
    refine nk_p (i := .aload_n 1) (len := 1) (pc' := 137) mJ_131 (by decide +kernel) (ns_aload_n 1 rfl rfl) rfl ?_
    refine nk_getC (f := (4, 1, 1024)) (x := 414) (len := 3) (ci := 12) (k := 23) (pc' := 140) ja_okT mJ_131 (by decide +kernel) (by decide +kernel) (by decide +kernel) (by decide) t_l1 rfl ?_
    have t6 : nk_ar ja_Tt (ja_c l1 23) = some (1, 1024) := nk_ta ja_okT t_l1 (by decide +kernel)
    refine nk_p (i := .iload 4) (len := 2) (pc' := 142) mJ_131 (by decide +kernel) (ns_iload 4 rfl) rfl ?_
    refine nk_iald (len := 1) (N := 1024) (pc' := 143) mJ_131 (by decide +kernel) t6 h2.1 h2.2 rfl rfl ?_
    refine nk_p (i := .iload 5) (len := 2) (pc' := 145) mJ_131 (by decide +kernel) (ns_iload 5 rfl) rfl ?_
    obtain ⟨r7, S8, h9, hr⟩ := nk_bde hr
    refine nk_callV (ci := 13) (n := 2) (x := 465) (len := 3) (j' := 81) (q' := 1) (r := r7) (S' := S8) (L2 := [(0, nk_r l0), (1, nk_i (S4.1 (ja_c l1 23) l4.toNat)), (2, nk_i l5)]) (rest := []) (st' := [nk_i r7]) (pc' := 148) mJ_131 (by decide +kernel) (by decide +kernel) rfl rfl t_l0 (Nat.le_of_ble_eq_true rfl) mJ_81 (Nat.le_of_ble_eq_true rfl) rfl (ja_X13_added_ok zs _ _ _ _ _ t_l0 h9) rfl ?_
    refine nk_icond (c := .ne) (off := 7) (len := 3) (t := 155) (pc' := 151) mJ_131 (by decide +kernel) (by decide +kernel) rfl (fun hc => ?_) (fun hc => ?_)
    · have hr := nk_ifn (c := r7 = 0) hc hr
      refine nk_sub [0, 1, 2, 4] (L' := [(0, nk_r l0), (1, nk_r l1), (2, nk_i l2), (4, nk_i l4)]) rfl ?_
      exact ja_X13_heights_b155_ok zs hrec44 hrec58 _ _ _ _ _ _ t_l0 t_l1 hr
    · have hr := nk_ifp (c := r7 = 0) (Decidable.of_not_not hc) hr
      refine nk_p (i := .iload_n 3) (len := 1) (pc' := 152) mJ_131 (by decide +kernel) (ns_iload_n 3 rfl rfl) rfl ?_
      refine nk_icond (c := .eq) (off := 7) (len := 3) (t := 159) (pc' := 155) mJ_131 (by decide +kernel) (by decide +kernel) rfl (fun hc => ?_) (fun hc => ?_)
      · have hr := nk_ifp (c := l3 = 0) hc hr
        refine nk_p (i := .iconst 0) (len := 1) (pc' := 160) mJ_131 (by decide +kernel) (ns_iconst (c := 0) (by decide +kernel)) rfl ?_
        refine nk_p (i := .istore_n 3) (len := 1) (pc' := 161) mJ_131 (by decide +kernel) (ns_istore_n (L' := [(3, nk_i 0), (0, nk_r l0), (1, nk_r l1), (2, nk_i l2), (4, nk_i l4), (5, nk_i l5)]) rfl rfl rfl (by decide +kernel)) rfl ?_
        refine nk_p (i := .iconst 0) (len := 1) (pc' := 162) mJ_131 (by decide +kernel) (ns_iconst (c := 0) (by decide +kernel)) rfl ?_
        refine nk_p (i := .istore 6) (len := 2) (pc' := 164) mJ_131 (by decide +kernel) (ns_istore (L' := [(6, nk_i 0), (3, nk_i 0), (0, nk_r l0), (1, nk_r l1), (2, nk_i l2), (4, nk_i l4), (5, nk_i l5)]) rfl rfl (by decide +kernel)) rfl ?_
        refine nk_sub [2, 3, 4, 1, 5, 0] (L' := [(0, nk_r l0), (1, nk_r l1), (2, nk_i l2), (3, nk_i 0), (4, nk_i l4), (6, nk_i 0)]) rfl ?_
        exact ja_X13_heights_L164_ok zs hrec44 hrec58 nk_big _ _ _ _ _ _ _ _ t_l0 t_l1 hr
      · have hr := nk_ifn (c := l3 = 0) hc hr
        refine nk_sub [0, 1, 2, 4] (L' := [(0, nk_r l0), (1, nk_r l1), (2, nk_i l2), (4, nk_i l4)]) rfl ?_
        exact ja_X13_heights_b155_ok zs hrec44 hrec58 _ _ _ _ _ _ t_l0 t_l1 hr
noncomputable def ja_X13_heights_b121 (rec44 : Nat → Nat → Int → Int → nk_S → Option (Int × nk_S)) (rec58 : Nat → Nat → Int → Int → Int → nk_S → Option (Int × nk_S)) (l0 : Nat) (l1 : Nat) (l2 : Int) (l4 : Int) (l5 : Int) (s0 : Int) (S : nk_S) : Option (Int × nk_S) :=
  ja_X13_heights_b122 rec44 rec58 l0 l1 l2 s0 l4 l5 S
theorem ja_X13_heights_b121_ok (zs : List Int32) {rec44 : Nat → Nat → Int → Int → nk_S → Option (Int × nk_S)} (hrec44 : ∀ (l0 : Nat) (l1 : Nat) (l2 : Int) (l3 : Int) (S : nk_S) (R : Int × nk_S), nk_cl ja_Tt l0 = some 13 → nk_cl ja_Tt l1 = some 12 → rec44 l0 l1 l2 l3 S = some R → nk_K ja_Tt mi_Γ (mi_ev zs) 1 131 44 [(0, nk_r l0), (1, nk_r l1), (2, nk_i l2), (3, nk_i l3)] [] S R) {rec58 : Nat → Nat → Int → Int → Int → nk_S → Option (Int × nk_S)} (hrec58 : ∀ (l0 : Nat) (l1 : Nat) (l2 : Int) (l3 : Int) (l4 : Int) (S : nk_S) (R : Int × nk_S), nk_cl ja_Tt l0 = some 13 → nk_cl ja_Tt l1 = some 12 → rec58 l0 l1 l2 l3 l4 S = some R → nk_K ja_Tt mi_Γ (mi_ev zs) 1 131 58 [(0, nk_r l0), (1, nk_r l1), (2, nk_i l2), (3, nk_i l3), (4, nk_i l4)] [] S R) : ∀ (l0 : Nat) (l1 : Nat) (l2 : Int) (l4 : Int) (l5 : Int) (s0 : Int) (S : nk_S) (R : Int × nk_S), nk_cl ja_Tt l0 = some 13 → nk_cl ja_Tt l1 = some 12 → ja_X13_heights_b121 rec44 rec58 l0 l1 l2 l4 l5 s0 S = some R → nk_K ja_Tt mi_Γ (mi_ev zs) 1 131 121 [(0, nk_r l0), (1, nk_r l1), (2, nk_i l2), (4, nk_i l4), (5, nk_i l5)] [nk_i s0] S R := by
  intro l0 l1 l2 l4 l5 s0 S R t_l0 t_l1 hr
  unfold ja_X13_heights_b121 at hr
  refine nk_p (i := .istore_n 3) (len := 1) (pc' := 122) mJ_131 (by decide +kernel) (ns_istore_n (L' := [(3, nk_i s0), (0, nk_r l0), (1, nk_r l1), (2, nk_i l2), (4, nk_i l4), (5, nk_i l5)]) rfl rfl rfl (by decide +kernel)) rfl ?_
  refine nk_sub [1, 2, 3, 0, 4, 5] (L' := [(0, nk_r l0), (1, nk_r l1), (2, nk_i l2), (3, nk_i s0), (4, nk_i l4), (5, nk_i l5)]) rfl ?_
  exact ja_X13_heights_b122_ok zs hrec44 hrec58 _ _ _ _ _ _ _ _ t_l0 t_l1 hr
noncomputable def ja_X13_heights_b116 (rec44 : Nat → Nat → Int → Int → nk_S → Option (Int × nk_S)) (rec58 : Nat → Nat → Int → Int → Int → nk_S → Option (Int × nk_S)) (l0 : Nat) (l1 : Nat) (l2 : Int) (l4 : Int) (l5 : Int) (S : nk_S) : Option (Int × nk_S) :=
  ja_X13_heights_b121 rec44 rec58 l0 l1 l2 l4 l5 1 S
theorem ja_X13_heights_b116_ok (zs : List Int32) {rec44 : Nat → Nat → Int → Int → nk_S → Option (Int × nk_S)} (hrec44 : ∀ (l0 : Nat) (l1 : Nat) (l2 : Int) (l3 : Int) (S : nk_S) (R : Int × nk_S), nk_cl ja_Tt l0 = some 13 → nk_cl ja_Tt l1 = some 12 → rec44 l0 l1 l2 l3 S = some R → nk_K ja_Tt mi_Γ (mi_ev zs) 1 131 44 [(0, nk_r l0), (1, nk_r l1), (2, nk_i l2), (3, nk_i l3)] [] S R) {rec58 : Nat → Nat → Int → Int → Int → nk_S → Option (Int × nk_S)} (hrec58 : ∀ (l0 : Nat) (l1 : Nat) (l2 : Int) (l3 : Int) (l4 : Int) (S : nk_S) (R : Int × nk_S), nk_cl ja_Tt l0 = some 13 → nk_cl ja_Tt l1 = some 12 → rec58 l0 l1 l2 l3 l4 S = some R → nk_K ja_Tt mi_Γ (mi_ev zs) 1 131 58 [(0, nk_r l0), (1, nk_r l1), (2, nk_i l2), (3, nk_i l3), (4, nk_i l4)] [] S R) : ∀ (l0 : Nat) (l1 : Nat) (l2 : Int) (l4 : Int) (l5 : Int) (S : nk_S) (R : Int × nk_S), nk_cl ja_Tt l0 = some 13 → nk_cl ja_Tt l1 = some 12 → ja_X13_heights_b116 rec44 rec58 l0 l1 l2 l4 l5 S = some R → nk_K ja_Tt mi_Γ (mi_ev zs) 1 131 116 [(0, nk_r l0), (1, nk_r l1), (2, nk_i l2), (4, nk_i l4), (5, nk_i l5)] [] S R := by
  intro l0 l1 l2 l4 l5 S R t_l0 t_l1 hr
  unfold ja_X13_heights_b116 at hr
  refine nk_p (i := .iconst 1) (len := 1) (pc' := 117) mJ_131 (by decide +kernel) (ns_iconst (c := 1) (by decide +kernel)) rfl ?_
  refine nk_p (i := .goto 4) (len := 3) (pc' := 121) mJ_131 (by decide +kernel) (ns_goto (by decide +kernel)) rfl ?_
  exact ja_X13_heights_b121_ok zs hrec44 hrec58 _ _ _ _ _ _ _ _ t_l0 t_l1 hr
noncomputable def ja_X13_heights_b58 (rec44 : Nat → Nat → Int → Int → nk_S → Option (Int × nk_S)) (rec58 : Nat → Nat → Int → Int → Int → nk_S → Option (Int × nk_S)) (l0 : Nat) (l1 : Nat) (l2 : Int) (l3 : Int) (l4 : Int) (S : nk_S) : Option (Int × nk_S) :=
  if 0 ≤ l2 ∧ l2 < 48 then
  if (S.1 (ja_c l1 20) l2.toNat) ≤ l4 then
    rec44 l0 l1 l2 l3 S
  else
    nk_bd (ja_X13_goodHeights l0 l1 l4 S) fun r3 S4 =>
    if r3 = 0 then
      nk_lt (nk_w (l4 + 1)) fun v14 =>
      rec58 l0 l1 l2 l3 v14 S4
    else
      if 0 ≤ l4 ∧ l4 < 1024 then
      nk_bd (ja_X13_hasNext (S4.1 (ja_c l1 22) l4.toNat) S4) fun r8 S9 =>
      if r8 = 0 then
        ja_X13_heights_b122 rec44 rec58 l0 l1 l2 l3 l4 r3 S9
      else
        nk_bd (ja_X13_added l0 (nk_w (l4 + 1)) r3 S9) fun r11 S12 =>
        if r11 = 0 then
          if l3 = 0 then
            ja_X13_heights_b121 rec44 rec58 l0 l1 l2 l4 r3 0 S12
          else
            ja_X13_heights_b116 rec44 rec58 l0 l1 l2 l4 r3 S12
        else
          ja_X13_heights_b116 rec44 rec58 l0 l1 l2 l4 r3 S12
      else none
  else none
theorem ja_X13_heights_b58_ok (zs : List Int32) {rec44 : Nat → Nat → Int → Int → nk_S → Option (Int × nk_S)} (hrec44 : ∀ (l0 : Nat) (l1 : Nat) (l2 : Int) (l3 : Int) (S : nk_S) (R : Int × nk_S), nk_cl ja_Tt l0 = some 13 → nk_cl ja_Tt l1 = some 12 → rec44 l0 l1 l2 l3 S = some R → nk_K ja_Tt mi_Γ (mi_ev zs) 1 131 44 [(0, nk_r l0), (1, nk_r l1), (2, nk_i l2), (3, nk_i l3)] [] S R) {rec58 : Nat → Nat → Int → Int → Int → nk_S → Option (Int × nk_S)} (hrec58 : ∀ (l0 : Nat) (l1 : Nat) (l2 : Int) (l3 : Int) (l4 : Int) (S : nk_S) (R : Int × nk_S), nk_cl ja_Tt l0 = some 13 → nk_cl ja_Tt l1 = some 12 → rec58 l0 l1 l2 l3 l4 S = some R → nk_K ja_Tt mi_Γ (mi_ev zs) 1 131 58 [(0, nk_r l0), (1, nk_r l1), (2, nk_i l2), (3, nk_i l3), (4, nk_i l4)] [] S R) : ∀ (l0 : Nat) (l1 : Nat) (l2 : Int) (l3 : Int) (l4 : Int) (S : nk_S) (R : Int × nk_S), nk_cl ja_Tt l0 = some 13 → nk_cl ja_Tt l1 = some 12 → ja_X13_heights_b58 rec44 rec58 l0 l1 l2 l3 l4 S = some R → nk_K ja_Tt mi_Γ (mi_ev zs) 1 131 58 [(0, nk_r l0), (1, nk_r l1), (2, nk_i l2), (3, nk_i l3), (4, nk_i l4)] [] S R := by
  intro l0 l1 l2 l3 l4 S R t_l0 t_l1 hr
  unfold ja_X13_heights_b58 at hr
  refine nk_p (i := .iload 4) (len := 2) (pc' := 60) mJ_131 (by decide +kernel) (ns_iload 4 rfl) rfl ?_
  refine nk_p (i := .aload_n 1) (len := 1) (pc' := 61) mJ_131 (by decide +kernel) (ns_aload_n 1 rfl rfl) rfl ?_
  refine nk_getC (f := (4, 1, 48)) (x := 378) (len := 3) (ci := 12) (k := 20) (pc' := 64) ja_okT mJ_131 (by decide +kernel) (by decide +kernel) (by decide +kernel) (by decide) t_l1 rfl ?_
  have t1 : nk_ar ja_Tt (ja_c l1 20) = some (1, 48) := nk_ta ja_okT t_l1 (by decide +kernel)
  refine nk_p (i := .iload_n 2) (len := 1) (pc' := 65) mJ_131 (by decide +kernel) (ns_iload_n 2 rfl rfl) rfl ?_
  obtain ⟨h2, hr⟩ := nk_cke hr
  refine nk_iald (len := 1) (N := 48) (pc' := 66) mJ_131 (by decide +kernel) t1 h2.1 h2.2 rfl rfl ?_
  refine nk_icmp (c := .ge) (off := 155) (len := 3) (t := 221) (pc' := 69) mJ_131 (by decide +kernel) (by decide +kernel) rfl (fun hc => ?_) (fun hc => ?_)
  · have hr := nk_ifp (c := (S.1 (ja_c l1 20) l2.toNat) ≤ l4) hc hr
    refine nk_p (i := .goto (-177)) (len := 3) (pc' := 44) mJ_131 (by decide +kernel) (ns_goto (by decide +kernel)) rfl ?_
    refine nk_sub [0, 1, 2, 3] (L' := [(0, nk_r l0), (1, nk_r l1), (2, nk_i l2), (3, nk_i l3)]) rfl ?_
    exact hrec44 _ _ _ _ _ _ t_l0 t_l1 hr
  · have hr := nk_ifn (c := (S.1 (ja_c l1 20) l2.toNat) ≤ l4) hc hr
    refine nk_p (i := .aload_n 0) (len := 1) (pc' := 70) mJ_131 (by decide +kernel) (ns_aload_n 0 rfl rfl) rfl ?_
    refine nk_p (i := .aload_n 1) (len := 1) (pc' := 71) mJ_131 (by decide +kernel) (ns_aload_n 1 rfl rfl) rfl ?_
    refine nk_p (i := .iload 4) (len := 2) (pc' := 73) mJ_131 (by decide +kernel) (ns_iload 4 rfl) rfl ?_
    obtain ⟨r3, S4, h5, hr⟩ := nk_bde hr
    refine nk_callV (ci := 13) (n := 2) (x := 459) (len := 3) (j' := 128) (q' := 1) (r := r3) (S' := S4) (L2 := [(0, nk_r l0), (1, nk_r l1), (2, nk_i l4)]) (rest := []) (st' := [nk_i r3]) (pc' := 76) mJ_131 (by decide +kernel) (by decide +kernel) rfl rfl t_l0 (Nat.le_of_ble_eq_true rfl) mJ_128 (Nat.le_of_ble_eq_true rfl) rfl (ja_X13_goodHeights_ok zs _ _ _ _ _ t_l0 t_l1 h5) rfl ?_
    refine nk_p (i := .istore 5) (len := 2) (pc' := 78) mJ_131 (by decide +kernel) (ns_istore (L' := [(5, nk_i r3), (0, nk_r l0), (1, nk_r l1), (2, nk_i l2), (3, nk_i l3), (4, nk_i l4)]) rfl rfl (by decide +kernel)) rfl ?_
    refine nk_p (i := .iload 5) (len := 2) (pc' := 80) mJ_131 (by decide +kernel) (ns_iload 0 rfl) rfl ?_
    refine nk_icond (c := .ne) (off := 6) (len := 3) (t := 86) (pc' := 83) mJ_131 (by decide +kernel) (by decide +kernel) rfl (fun hc => ?_) (fun hc => ?_)
    · have hr := nk_ifn (c := r3 = 0) hc hr
      refine nk_p (i := .aload_n 1) (len := 1) (pc' := 87) mJ_131 (by decide +kernel) (ns_aload_n 2 rfl rfl) rfl ?_
      refine nk_getC (f := (4, 1, 1024)) (x := 391) (len := 3) (ci := 12) (k := 22) (pc' := 90) ja_okT mJ_131 (by decide +kernel) (by decide +kernel) (by decide +kernel) (by decide) t_l1 rfl ?_
      have t6 : nk_ar ja_Tt (ja_c l1 22) = some (1, 1024) := nk_ta ja_okT t_l1 (by decide +kernel)
      refine nk_p (i := .iload 4) (len := 2) (pc' := 92) mJ_131 (by decide +kernel) (ns_iload 5 rfl) rfl ?_
      obtain ⟨h7, hr⟩ := nk_cke hr
      refine nk_iald (len := 1) (N := 1024) (pc' := 93) mJ_131 (by decide +kernel) t6 h7.1 h7.2 rfl rfl ?_
      obtain ⟨r8, S9, h10, hr⟩ := nk_bde hr
      refine nk_callS (ci := 0) (n := 1) (x := 462) (len := 3) (j' := 130) (q' := 1) (r := r8) (S' := S9) (L2 := [(0, nk_i (S4.1 (ja_c l1 22) l4.toNat))]) (rest := []) (st' := [nk_i r8]) (pc' := 96) mJ_131 (by decide +kernel) (by decide +kernel) (Nat.le_of_ble_eq_true rfl) rfl rfl (Nat.le_of_ble_eq_true rfl) mJ_130 (Nat.le_of_ble_eq_true rfl) ja_Tpos rfl (ja_X13_hasNext_ok zs _ _ _ h10) rfl ?_
      refine nk_icond (c := .eq) (off := 26) (len := 3) (t := 122) (pc' := 99) mJ_131 (by decide +kernel) (by decide +kernel) rfl (fun hc => ?_) (fun hc => ?_)
      · have hr := nk_ifp (c := r8 = 0) hc hr
        refine nk_sub [1, 2, 3, 4, 5, 0] (L' := [(0, nk_r l0), (1, nk_r l1), (2, nk_i l2), (3, nk_i l3), (4, nk_i l4), (5, nk_i r3)]) rfl ?_
        exact ja_X13_heights_b122_ok zs hrec44 hrec58 _ _ _ _ _ _ _ _ t_l0 t_l1 hr
      · have hr := nk_ifn (c := r8 = 0) hc hr
        refine nk_p (i := .aload_n 0) (len := 1) (pc' := 100) mJ_131 (by decide +kernel) (ns_aload_n 1 rfl rfl) rfl ?_
        refine nk_p (i := .iload 4) (len := 2) (pc' := 102) mJ_131 (by decide +kernel) (ns_iload 5 rfl) rfl ?_
        refine nk_p (i := .iconst 1) (len := 1) (pc' := 103) mJ_131 (by decide +kernel) (ns_iconst (c := 1) (by decide +kernel)) rfl ?_
        refine nk_p (i := .iadd) (len := 1) (pc' := 104) mJ_131 (by decide +kernel) ns_iadd rfl ?_
        refine nk_p (i := .iload 5) (len := 2) (pc' := 106) mJ_131 (by decide +kernel) (ns_iload 0 rfl) rfl ?_
        obtain ⟨r11, S12, h13, hr⟩ := nk_bde hr
        refine nk_callV (ci := 13) (n := 2) (x := 465) (len := 3) (j' := 81) (q' := 1) (r := r11) (S' := S12) (L2 := [(0, nk_r l0), (1, nk_i (nk_w (l4 + 1))), (2, nk_i r3)]) (rest := []) (st' := [nk_i r11]) (pc' := 109) mJ_131 (by decide +kernel) (by decide +kernel) rfl rfl t_l0 (Nat.le_of_ble_eq_true rfl) mJ_81 (Nat.le_of_ble_eq_true rfl) rfl (ja_X13_added_ok zs _ _ _ _ _ t_l0 h13) rfl ?_
        refine nk_icond (c := .ne) (off := 7) (len := 3) (t := 116) (pc' := 112) mJ_131 (by decide +kernel) (by decide +kernel) rfl (fun hc => ?_) (fun hc => ?_)
        · have hr := nk_ifn (c := r11 = 0) hc hr
          refine nk_sub [1, 2, 3, 5, 0] (L' := [(0, nk_r l0), (1, nk_r l1), (2, nk_i l2), (4, nk_i l4), (5, nk_i r3)]) rfl ?_
          exact ja_X13_heights_b116_ok zs hrec44 hrec58 _ _ _ _ _ _ _ t_l0 t_l1 hr
        · have hr := nk_ifp (c := r11 = 0) (Decidable.of_not_not hc) hr
          refine nk_p (i := .iload_n 3) (len := 1) (pc' := 113) mJ_131 (by decide +kernel) (ns_iload_n 4 rfl rfl) rfl ?_
          refine nk_icond (c := .eq) (off := 7) (len := 3) (t := 120) (pc' := 116) mJ_131 (by decide +kernel) (by decide +kernel) rfl (fun hc => ?_) (fun hc => ?_)
          · have hr := nk_ifp (c := l3 = 0) hc hr
            refine nk_p (i := .iconst 0) (len := 1) (pc' := 121) mJ_131 (by decide +kernel) (ns_iconst (c := 0) (by decide +kernel)) rfl ?_
            refine nk_sub [1, 2, 3, 5, 0] (L' := [(0, nk_r l0), (1, nk_r l1), (2, nk_i l2), (4, nk_i l4), (5, nk_i r3)]) rfl ?_
            exact ja_X13_heights_b121_ok zs hrec44 hrec58 _ _ _ _ _ _ _ _ t_l0 t_l1 hr
          · have hr := nk_ifn (c := l3 = 0) hc hr
            refine nk_sub [1, 2, 3, 5, 0] (L' := [(0, nk_r l0), (1, nk_r l1), (2, nk_i l2), (4, nk_i l4), (5, nk_i r3)]) rfl ?_
            exact ja_X13_heights_b116_ok zs hrec44 hrec58 _ _ _ _ _ _ _ t_l0 t_l1 hr
    · have hr := nk_ifp (c := r3 = 0) (Decidable.of_not_not hc) hr
      refine nk_p (i := .goto 132) (len := 3) (pc' := 215) mJ_131 (by decide +kernel) (ns_goto (by decide +kernel)) rfl ?_
      obtain ⟨v14, h15, hr⟩ := nk_lte hr
      refine nk_p (i := .iinc 4 1) (len := 3) (pc' := 218) mJ_131 (by decide +kernel) (ns_iinc (c := 1) (L' := [(4, nk_i v14), (5, nk_i r3), (0, nk_r l0), (1, nk_r l1), (2, nk_i l2), (3, nk_i l3)]) 5 rfl (by decide +kernel) h15 rfl (by decide +kernel)) rfl ?_
      refine nk_p (i := .goto (-160)) (len := 3) (pc' := 58) mJ_131 (by decide +kernel) (ns_goto (by decide +kernel)) rfl ?_
      refine nk_sub [2, 3, 4, 5, 0] (L' := [(0, nk_r l0), (1, nk_r l1), (2, nk_i l2), (3, nk_i l3), (4, nk_i v14)]) rfl ?_
      exact hrec58 _ _ _ _ _ _ _ t_l0 t_l1 hr
noncomputable def ja_X13_heights_L58 (rec44 : Nat → Nat → Int → Int → nk_S → Option (Int × nk_S)) : Nat → Nat → Nat → Int → Int → Int → nk_S → Option (Int × nk_S)
  | 0, _, _, _, _, _, _ => none
  | n + 1, l0, l1, l2, l3, l4, S => ja_X13_heights_b58 rec44 (ja_X13_heights_L58 rec44 n) l0 l1 l2 l3 l4 S
theorem ja_X13_heights_L58_ok (zs : List Int32) {rec44 : Nat → Nat → Int → Int → nk_S → Option (Int × nk_S)} (hrec44 : ∀ (l0 : Nat) (l1 : Nat) (l2 : Int) (l3 : Int) (S : nk_S) (R : Int × nk_S), nk_cl ja_Tt l0 = some 13 → nk_cl ja_Tt l1 = some 12 → rec44 l0 l1 l2 l3 S = some R → nk_K ja_Tt mi_Γ (mi_ev zs) 1 131 44 [(0, nk_r l0), (1, nk_r l1), (2, nk_i l2), (3, nk_i l3)] [] S R) : ∀ n : Nat, ∀ (l0 : Nat) (l1 : Nat) (l2 : Int) (l3 : Int) (l4 : Int) (S : nk_S) (R : Int × nk_S), nk_cl ja_Tt l0 = some 13 → nk_cl ja_Tt l1 = some 12 → ja_X13_heights_L58 rec44 n l0 l1 l2 l3 l4 S = some R → nk_K ja_Tt mi_Γ (mi_ev zs) 1 131 58 [(0, nk_r l0), (1, nk_r l1), (2, nk_i l2), (3, nk_i l3), (4, nk_i l4)] [] S R := by
  intro n
  induction n with
  | zero => intro _ _ _ _ _ _ _ _ _ hr; cases hr
  | succ n ih => intro l0 l1 l2 l3 l4 S R t_l0 t_l1 hr; exact ja_X13_heights_b58_ok zs hrec44 ih l0 l1 l2 l3 l4 S R t_l0 t_l1 hr
noncomputable def ja_X13_heights_b44 (rec44 : Nat → Nat → Int → Int → nk_S → Option (Int × nk_S)) (l0 : Nat) (l1 : Nat) (l2 : Int) (l3 : Int) (S : nk_S) : Option (Int × nk_S) :=
  if l3 = 0 then
    if 0 ≤ l2 ∧ l2 < 48 then
    nk_lt (S.1 (ja_c l1 19) l2.toNat) fun v3 =>
    ja_X13_heights_L232 nk_big l0 l1 l2 v3 S
    else none
  else
    if 0 ≤ l2 ∧ l2 < 48 then
    nk_lt (S.1 (ja_c l1 19) l2.toNat) fun v7 =>
    ja_X13_heights_L58 rec44 nk_big l0 l1 l2 0 v7 S
    else none
theorem ja_X13_heights_b44_ok (zs : List Int32) {rec44 : Nat → Nat → Int → Int → nk_S → Option (Int × nk_S)} (hrec44 : ∀ (l0 : Nat) (l1 : Nat) (l2 : Int) (l3 : Int) (S : nk_S) (R : Int × nk_S), nk_cl ja_Tt l0 = some 13 → nk_cl ja_Tt l1 = some 12 → rec44 l0 l1 l2 l3 S = some R → nk_K ja_Tt mi_Γ (mi_ev zs) 1 131 44 [(0, nk_r l0), (1, nk_r l1), (2, nk_i l2), (3, nk_i l3)] [] S R) : ∀ (l0 : Nat) (l1 : Nat) (l2 : Int) (l3 : Int) (S : nk_S) (R : Int × nk_S), nk_cl ja_Tt l0 = some 13 → nk_cl ja_Tt l1 = some 12 → ja_X13_heights_b44 rec44 l0 l1 l2 l3 S = some R → nk_K ja_Tt mi_Γ (mi_ev zs) 1 131 44 [(0, nk_r l0), (1, nk_r l1), (2, nk_i l2), (3, nk_i l3)] [] S R := by
  intro l0 l1 l2 l3 S R t_l0 t_l1 hr
  unfold ja_X13_heights_b44 at hr
  refine nk_p (i := .iload_n 3) (len := 1) (pc' := 45) mJ_131 (by decide +kernel) (ns_iload_n 3 rfl rfl) rfl ?_
  refine nk_icond (c := .eq) (off := 179) (len := 3) (t := 224) (pc' := 48) mJ_131 (by decide +kernel) (by decide +kernel) rfl (fun hc => ?_) (fun hc => ?_)
  · have hr := nk_ifp (c := l3 = 0) hc hr
    refine nk_p (i := .aload_n 1) (len := 1) (pc' := 225) mJ_131 (by decide +kernel) (ns_aload_n 1 rfl rfl) rfl ?_
    refine nk_getC (f := (4, 1, 48)) (x := 369) (len := 3) (ci := 12) (k := 19) (pc' := 228) ja_okT mJ_131 (by decide +kernel) (by decide +kernel) (by decide +kernel) (by decide) t_l1 rfl ?_
    have t1 : nk_ar ja_Tt (ja_c l1 19) = some (1, 48) := nk_ta ja_okT t_l1 (by decide +kernel)
    refine nk_p (i := .iload_n 2) (len := 1) (pc' := 229) mJ_131 (by decide +kernel) (ns_iload_n 2 rfl rfl) rfl ?_
    obtain ⟨h2, hr⟩ := nk_cke hr
    refine nk_iald (len := 1) (N := 48) (pc' := 230) mJ_131 (by decide +kernel) t1 h2.1 h2.2 rfl rfl ?_
    obtain ⟨v3, h4, hr⟩ := nk_lte hr
    refine nk_p (i := .istore 4) (len := 2) (pc' := 232) mJ_131 (by decide +kernel) (ns_istore (L' := [(4, nk_i v3), (0, nk_r l0), (1, nk_r l1), (2, nk_i l2), (3, nk_i l3)]) h4 rfl (by decide +kernel)) rfl ?_
    refine nk_sub [1, 2, 3, 0] (L' := [(0, nk_r l0), (1, nk_r l1), (2, nk_i l2), (4, nk_i v3)]) rfl ?_
    exact ja_X13_heights_L232_ok zs nk_big _ _ _ _ _ _ t_l0 t_l1 hr
  · have hr := nk_ifn (c := l3 = 0) hc hr
    refine nk_p (i := .iconst 0) (len := 1) (pc' := 49) mJ_131 (by decide +kernel) (ns_iconst (c := 0) (by decide +kernel)) rfl ?_
    refine nk_p (i := .istore_n 3) (len := 1) (pc' := 50) mJ_131 (by decide +kernel) (ns_istore_n (L' := [(3, nk_i 0), (0, nk_r l0), (1, nk_r l1), (2, nk_i l2)]) rfl rfl rfl (by decide +kernel)) rfl ?_
    refine nk_p (i := .aload_n 1) (len := 1) (pc' := 51) mJ_131 (by decide +kernel) (ns_aload_n 2 rfl rfl) rfl ?_
    refine nk_getC (f := (4, 1, 48)) (x := 369) (len := 3) (ci := 12) (k := 19) (pc' := 54) ja_okT mJ_131 (by decide +kernel) (by decide +kernel) (by decide +kernel) (by decide) t_l1 rfl ?_
    have t5 : nk_ar ja_Tt (ja_c l1 19) = some (1, 48) := nk_ta ja_okT t_l1 (by decide +kernel)
    refine nk_p (i := .iload_n 2) (len := 1) (pc' := 55) mJ_131 (by decide +kernel) (ns_iload_n 3 rfl rfl) rfl ?_
    obtain ⟨h6, hr⟩ := nk_cke hr
    refine nk_iald (len := 1) (N := 48) (pc' := 56) mJ_131 (by decide +kernel) t5 h6.1 h6.2 rfl rfl ?_
    obtain ⟨v7, h8, hr⟩ := nk_lte hr
    refine nk_p (i := .istore 4) (len := 2) (pc' := 58) mJ_131 (by decide +kernel) (ns_istore (L' := [(4, nk_i v7), (3, nk_i 0), (0, nk_r l0), (1, nk_r l1), (2, nk_i l2)]) h8 rfl (by decide +kernel)) rfl ?_
    refine nk_sub [2, 3, 4, 1, 0] (L' := [(0, nk_r l0), (1, nk_r l1), (2, nk_i l2), (3, nk_i 0), (4, nk_i v7)]) rfl ?_
    exact ja_X13_heights_L58_ok zs hrec44 nk_big _ _ _ _ _ _ _ t_l0 t_l1 hr
noncomputable def ja_X13_heights_L44 : Nat → Nat → Nat → Int → Int → nk_S → Option (Int × nk_S)
  | 0, _, _, _, _, _ => none
  | n + 1, l0, l1, l2, l3, S => ja_X13_heights_b44 (ja_X13_heights_L44 n) l0 l1 l2 l3 S
theorem ja_X13_heights_L44_ok (zs : List Int32) : ∀ n : Nat, ∀ (l0 : Nat) (l1 : Nat) (l2 : Int) (l3 : Int) (S : nk_S) (R : Int × nk_S), nk_cl ja_Tt l0 = some 13 → nk_cl ja_Tt l1 = some 12 → ja_X13_heights_L44 n l0 l1 l2 l3 S = some R → nk_K ja_Tt mi_Γ (mi_ev zs) 1 131 44 [(0, nk_r l0), (1, nk_r l1), (2, nk_i l2), (3, nk_i l3)] [] S R := by
  intro n
  induction n with
  | zero => intro _ _ _ _ _ _ _ _ hr; cases hr
  | succ n ih => intro l0 l1 l2 l3 S R t_l0 t_l1 hr; exact ja_X13_heights_b44_ok zs ih l0 l1 l2 l3 S R t_l0 t_l1 hr
noncomputable def ja_X13_heights_b7 (rec7 : Nat → Nat → Int → Int → nk_S → Option (Int × nk_S)) (l0 : Nat) (l1 : Nat) (l2 : Int) (l3 : Int) (S : nk_S) : Option (Int × nk_S) :=
  if 0 ≤ l2 ∧ l2 < 48 then
  if (S.1 (ja_c l1 20) l2.toNat) ≤ l3 then
    if 0 ≤ (S.1 (ja_c l1 19) l2.toNat) ∧ (S.1 (ja_c l1 19) l2.toNat) < 1024 then
    nk_lt (nk_wi S (ja_c l0 21) (S.1 (ja_c l1 19) l2.toNat).toNat 1) fun S6 =>
    ja_X13_heights_L44 nk_big l0 l1 l2 1 S6
    else none
  else
    if 0 ≤ l3 ∧ l3 < 1024 then
    nk_lt (nk_wi S (ja_c l0 21) l3.toNat 0) fun S10 =>
    nk_lt (nk_w (l3 + 1)) fun v12 =>
    rec7 l0 l1 l2 v12 S10
    else none
  else none
theorem ja_X13_heights_b7_ok (zs : List Int32) {rec7 : Nat → Nat → Int → Int → nk_S → Option (Int × nk_S)} (hrec7 : ∀ (l0 : Nat) (l1 : Nat) (l2 : Int) (l3 : Int) (S : nk_S) (R : Int × nk_S), nk_cl ja_Tt l0 = some 13 → nk_cl ja_Tt l1 = some 12 → rec7 l0 l1 l2 l3 S = some R → nk_K ja_Tt mi_Γ (mi_ev zs) 1 131 7 [(0, nk_r l0), (1, nk_r l1), (2, nk_i l2), (3, nk_i l3)] [] S R) : ∀ (l0 : Nat) (l1 : Nat) (l2 : Int) (l3 : Int) (S : nk_S) (R : Int × nk_S), nk_cl ja_Tt l0 = some 13 → nk_cl ja_Tt l1 = some 12 → ja_X13_heights_b7 rec7 l0 l1 l2 l3 S = some R → nk_K ja_Tt mi_Γ (mi_ev zs) 1 131 7 [(0, nk_r l0), (1, nk_r l1), (2, nk_i l2), (3, nk_i l3)] [] S R := by
  intro l0 l1 l2 l3 S R t_l0 t_l1 hr
  unfold ja_X13_heights_b7 at hr
  refine nk_p (i := .iload_n 3) (len := 1) (pc' := 8) mJ_131 (by decide +kernel) (ns_iload_n 3 rfl rfl) rfl ?_
  refine nk_p (i := .aload_n 1) (len := 1) (pc' := 9) mJ_131 (by decide +kernel) (ns_aload_n 1 rfl rfl) rfl ?_
  refine nk_getC (f := (4, 1, 48)) (x := 378) (len := 3) (ci := 12) (k := 20) (pc' := 12) ja_okT mJ_131 (by decide +kernel) (by decide +kernel) (by decide +kernel) (by decide) t_l1 rfl ?_
  have t1 : nk_ar ja_Tt (ja_c l1 20) = some (1, 48) := nk_ta ja_okT t_l1 (by decide +kernel)
  refine nk_p (i := .iload_n 2) (len := 1) (pc' := 13) mJ_131 (by decide +kernel) (ns_iload_n 2 rfl rfl) rfl ?_
  obtain ⟨h2, hr⟩ := nk_cke hr
  refine nk_iald (len := 1) (N := 48) (pc' := 14) mJ_131 (by decide +kernel) t1 h2.1 h2.2 rfl rfl ?_
  refine nk_icmp (c := .ge) (off := 16) (len := 3) (t := 30) (pc' := 17) mJ_131 (by decide +kernel) (by decide +kernel) rfl (fun hc => ?_) (fun hc => ?_)
  · have hr := nk_ifp (c := (S.1 (ja_c l1 20) l2.toNat) ≤ l3) hc hr
    refine nk_p (i := .aload_n 0) (len := 1) (pc' := 31) mJ_131 (by decide +kernel) (ns_aload_n 0 rfl rfl) rfl ?_
    refine nk_getC (f := (4, 1, 1024)) (x := 58) (len := 3) (ci := 13) (k := 21) (pc' := 34) ja_okT mJ_131 (by decide +kernel) (by decide +kernel) (by decide +kernel) (by decide) t_l0 rfl ?_
    have t3 : nk_ar ja_Tt (ja_c l0 21) = some (1, 1024) := nk_ta ja_okT t_l0 (by decide +kernel)
    refine nk_p (i := .aload_n 1) (len := 1) (pc' := 35) mJ_131 (by decide +kernel) (ns_aload_n 1 rfl rfl) rfl ?_
    refine nk_getC (f := (4, 1, 48)) (x := 369) (len := 3) (ci := 12) (k := 19) (pc' := 38) ja_okT mJ_131 (by decide +kernel) (by decide +kernel) (by decide +kernel) (by decide) t_l1 rfl ?_
    have t4 : nk_ar ja_Tt (ja_c l1 19) = some (1, 48) := nk_ta ja_okT t_l1 (by decide +kernel)
    refine nk_p (i := .iload_n 2) (len := 1) (pc' := 39) mJ_131 (by decide +kernel) (ns_iload_n 2 rfl rfl) rfl ?_
    refine nk_iald (len := 1) (N := 48) (pc' := 40) mJ_131 (by decide +kernel) t4 h2.1 h2.2 rfl rfl ?_
    refine nk_p (i := .iconst 1) (len := 1) (pc' := 41) mJ_131 (by decide +kernel) (ns_iconst (c := 1) (by decide +kernel)) rfl ?_
    obtain ⟨h5, hr⟩ := nk_cke hr
    obtain ⟨S6, h7, hr⟩ := nk_lte hr
    refine nk_iast (len := 1) (N := 1024) (pc' := 42) mJ_131 (by decide +kernel) t3 h5.1 h5.2 rfl rfl h7 ?_
    refine nk_p (i := .iconst 1) (len := 1) (pc' := 43) mJ_131 (by decide +kernel) (ns_iconst (c := 1) (by decide +kernel)) rfl ?_
    refine nk_p (i := .istore_n 3) (len := 1) (pc' := 44) mJ_131 (by decide +kernel) (ns_istore_n (L' := [(3, nk_i 1), (0, nk_r l0), (1, nk_r l1), (2, nk_i l2)]) rfl rfl rfl (by decide +kernel)) rfl ?_
    refine nk_sub [1, 2, 3, 0] (L' := [(0, nk_r l0), (1, nk_r l1), (2, nk_i l2), (3, nk_i 1)]) rfl ?_
    exact ja_X13_heights_L44_ok zs nk_big _ _ _ _ _ _ t_l0 t_l1 hr
  · have hr := nk_ifn (c := (S.1 (ja_c l1 20) l2.toNat) ≤ l3) hc hr
    refine nk_p (i := .aload_n 0) (len := 1) (pc' := 18) mJ_131 (by decide +kernel) (ns_aload_n 0 rfl rfl) rfl ?_
    refine nk_getC (f := (4, 1, 1024)) (x := 58) (len := 3) (ci := 13) (k := 21) (pc' := 21) ja_okT mJ_131 (by decide +kernel) (by decide +kernel) (by decide +kernel) (by decide) t_l0 rfl ?_
    have t8 : nk_ar ja_Tt (ja_c l0 21) = some (1, 1024) := nk_ta ja_okT t_l0 (by decide +kernel)
    refine nk_p (i := .iload_n 3) (len := 1) (pc' := 22) mJ_131 (by decide +kernel) (ns_iload_n 3 rfl rfl) rfl ?_
    refine nk_p (i := .iconst 0) (len := 1) (pc' := 23) mJ_131 (by decide +kernel) (ns_iconst (c := 0) (by decide +kernel)) rfl ?_
    obtain ⟨h9, hr⟩ := nk_cke hr
    obtain ⟨S10, h11, hr⟩ := nk_lte hr
    refine nk_iast (len := 1) (N := 1024) (pc' := 24) mJ_131 (by decide +kernel) t8 h9.1 h9.2 rfl rfl h11 ?_
    obtain ⟨v12, h13, hr⟩ := nk_lte hr
    refine nk_p (i := .iinc 3 1) (len := 3) (pc' := 27) mJ_131 (by decide +kernel) (ns_iinc (c := 1) (L' := [(3, nk_i v12), (0, nk_r l0), (1, nk_r l1), (2, nk_i l2)]) 3 rfl (by decide +kernel) h13 rfl (by decide +kernel)) rfl ?_
    refine nk_p (i := .goto (-20)) (len := 3) (pc' := 7) mJ_131 (by decide +kernel) (ns_goto (by decide +kernel)) rfl ?_
    refine nk_sub [1, 2, 3, 0] (L' := [(0, nk_r l0), (1, nk_r l1), (2, nk_i l2), (3, nk_i v12)]) rfl ?_
    exact hrec7 _ _ _ _ _ _ t_l0 t_l1 hr
noncomputable def ja_X13_heights_L7 : Nat → Nat → Nat → Int → Int → nk_S → Option (Int × nk_S)
  | 0, _, _, _, _, _ => none
  | n + 1, l0, l1, l2, l3, S => ja_X13_heights_b7 (ja_X13_heights_L7 n) l0 l1 l2 l3 S
theorem ja_X13_heights_L7_ok (zs : List Int32) : ∀ n : Nat, ∀ (l0 : Nat) (l1 : Nat) (l2 : Int) (l3 : Int) (S : nk_S) (R : Int × nk_S), nk_cl ja_Tt l0 = some 13 → nk_cl ja_Tt l1 = some 12 → ja_X13_heights_L7 n l0 l1 l2 l3 S = some R → nk_K ja_Tt mi_Γ (mi_ev zs) 1 131 7 [(0, nk_r l0), (1, nk_r l1), (2, nk_i l2), (3, nk_i l3)] [] S R := by
  intro n
  induction n with
  | zero => intro _ _ _ _ _ _ _ _ hr; cases hr
  | succ n ih => intro l0 l1 l2 l3 S R t_l0 t_l1 hr; exact ja_X13_heights_b7_ok zs ih l0 l1 l2 l3 S R t_l0 t_l1 hr
noncomputable def ja_X13_heights (l0 : Nat) (l1 : Nat) (l2 : Int) (S : nk_S) : Option (Int × nk_S) :=
  if 0 ≤ l2 ∧ l2 < 48 then
  nk_lt (S.1 (ja_c l1 19) l2.toNat) fun v3 =>
  ja_X13_heights_L7 nk_big l0 l1 l2 v3 S
  else none
theorem ja_X13_heights_ok (zs : List Int32) : ∀ (l0 : Nat) (l1 : Nat) (l2 : Int) (S : nk_S) (R : Int × nk_S), nk_cl ja_Tt l0 = some 13 → nk_cl ja_Tt l1 = some 12 → ja_X13_heights l0 l1 l2 S = some R → nk_K ja_Tt mi_Γ (mi_ev zs) 1 131 0 [(0, nk_r l0), (1, nk_r l1), (2, nk_i l2)] [] S R := by
  intro l0 l1 l2 S R t_l0 t_l1 hr
  unfold ja_X13_heights at hr
  refine nk_p (i := .aload_n 1) (len := 1) (pc' := 1) mJ_131 (by decide +kernel) (ns_aload_n 1 rfl rfl) rfl ?_
  refine nk_getC (f := (4, 1, 48)) (x := 369) (len := 3) (ci := 12) (k := 19) (pc' := 4) ja_okT mJ_131 (by decide +kernel) (by decide +kernel) (by decide +kernel) (by decide) t_l1 rfl ?_
  have t1 : nk_ar ja_Tt (ja_c l1 19) = some (1, 48) := nk_ta ja_okT t_l1 (by decide +kernel)
  refine nk_p (i := .iload_n 2) (len := 1) (pc' := 5) mJ_131 (by decide +kernel) (ns_iload_n 2 rfl rfl) rfl ?_
  obtain ⟨h2, hr⟩ := nk_cke hr
  refine nk_iald (len := 1) (N := 48) (pc' := 6) mJ_131 (by decide +kernel) t1 h2.1 h2.2 rfl rfl ?_
  obtain ⟨v3, h4, hr⟩ := nk_lte hr
  refine nk_p (i := .istore_n 3) (len := 1) (pc' := 7) mJ_131 (by decide +kernel) (ns_istore_n (L' := [(3, nk_i v3), (0, nk_r l0), (1, nk_r l1), (2, nk_i l2)]) h4 rfl rfl (by decide +kernel)) rfl ?_
  refine nk_sub [1, 2, 3, 0] (L' := [(0, nk_r l0), (1, nk_r l1), (2, nk_i l2), (3, nk_i v3)]) rfl ?_
  exact ja_X13_heights_L7_ok zs nk_big _ _ _ _ _ _ t_l0 t_l1 hr
/-! SafeCodeModel typesAt (LSafeCodeModel$Program;I)V -/
noncomputable def ja_X13_typesAt_b2 (rec2 : Nat → Nat → Int → Int → nk_S → Option (Int × nk_S)) (l0 : Nat) (l1 : Nat) (l2 : Int) (l3 : Int) (S : nk_S) : Option (Int × nk_S) :=
  if 20 ≤ l3 then
    if 0 ≤ l2 ∧ l2 < 1024 then
    nk_lt (nk_wi S l0 25 (nk_w (12 + (S.1 (ja_c l1 26) l2.toNat)))) fun S3 =>
    some (0, S3)
    else none
  else
    if 0 ≤ (nk_w ((nk_w (l2 * 20)) + l3)) ∧ (nk_w ((nk_w (l2 * 20)) + l3)) < 20480 then
    if 0 ≤ l3 ∧ l3 < 24 then
    nk_lt (nk_wi S (ja_c l0 24) l3.toNat (S.1 (ja_c l0 23) (nk_w ((nk_w (l2 * 20)) + l3)).toNat)) fun S9 =>
    nk_lt (nk_w (l3 + 1)) fun v11 =>
    rec2 l0 l1 l2 v11 S9
    else none
    else none
theorem ja_X13_typesAt_b2_ok (zs : List Int32) {rec2 : Nat → Nat → Int → Int → nk_S → Option (Int × nk_S)} (hrec2 : ∀ (l0 : Nat) (l1 : Nat) (l2 : Int) (l3 : Int) (S : nk_S) (R : Int × nk_S), nk_cl ja_Tt l0 = some 13 → nk_cl ja_Tt l1 = some 12 → rec2 l0 l1 l2 l3 S = some R → nk_K ja_Tt mi_Γ (mi_ev zs) 0 238 2 [(0, nk_r l0), (1, nk_r l1), (2, nk_i l2), (3, nk_i l3)] [] S R) : ∀ (l0 : Nat) (l1 : Nat) (l2 : Int) (l3 : Int) (S : nk_S) (R : Int × nk_S), nk_cl ja_Tt l0 = some 13 → nk_cl ja_Tt l1 = some 12 → ja_X13_typesAt_b2 rec2 l0 l1 l2 l3 S = some R → nk_K ja_Tt mi_Γ (mi_ev zs) 0 238 2 [(0, nk_r l0), (1, nk_r l1), (2, nk_i l2), (3, nk_i l3)] [] S R := by
  intro l0 l1 l2 l3 S R t_l0 t_l1 hr
  unfold ja_X13_typesAt_b2 at hr
  refine nk_p (i := .iload_n 3) (len := 1) (pc' := 3) mJ_238 (by decide +kernel) (ns_iload_n 3 rfl rfl) rfl ?_
  refine nk_p (i := .bipush 20) (len := 2) (pc' := 5) mJ_238 (by decide +kernel) (ns_bipush (c := 20) (by decide +kernel)) rfl ?_
  refine nk_icmp (c := .ge) (off := 26) (len := 3) (t := 31) (pc' := 8) mJ_238 (by decide +kernel) (by decide +kernel) rfl (fun hc => ?_) (fun hc => ?_)
  · have hr := nk_ifp (c := 20 ≤ l3) hc hr
    refine nk_p (i := .aload_n 0) (len := 1) (pc' := 32) mJ_238 (by decide +kernel) (ns_aload_n 0 rfl rfl) rfl ?_
    refine nk_p (i := .bipush 12) (len := 2) (pc' := 34) mJ_238 (by decide +kernel) (ns_bipush (c := 12) (by decide +kernel)) rfl ?_
    refine nk_p (i := .aload_n 1) (len := 1) (pc' := 35) mJ_238 (by decide +kernel) (ns_aload_n 1 rfl rfl) rfl ?_
    refine nk_getC (f := (4, 1, 1024)) (x := 474) (len := 3) (ci := 12) (k := 26) (pc' := 38) ja_okT mJ_238 (by decide +kernel) (by decide +kernel) (by decide +kernel) (by decide) t_l1 rfl ?_
    have t1 : nk_ar ja_Tt (ja_c l1 26) = some (1, 1024) := nk_ta ja_okT t_l1 (by decide +kernel)
    refine nk_p (i := .iload_n 2) (len := 1) (pc' := 39) mJ_238 (by decide +kernel) (ns_iload_n 2 rfl rfl) rfl ?_
    obtain ⟨h2, hr⟩ := nk_cke hr
    refine nk_iald (len := 1) (N := 1024) (pc' := 40) mJ_238 (by decide +kernel) t1 h2.1 h2.2 rfl rfl ?_
    refine nk_p (i := .iadd) (len := 1) (pc' := 41) mJ_238 (by decide +kernel) ns_iadd rfl ?_
    obtain ⟨S3, h4, hr⟩ := nk_lte hr
    refine nk_putI (y := (0, 0)) (ty := .int) (x := 495) (len := 3) (ci := 13) (k := 25) (pc' := 44) ja_okT mJ_238 (by decide +kernel) (by decide +kernel) (by decide +kernel) t_l0 (Or.inl rfl) rfl h4 ?_
    cases hr
    exact nk_vret (len := 1) mJ_238 (by decide +kernel) rfl
  · have hr := nk_ifn (c := 20 ≤ l3) hc hr
    refine nk_p (i := .aload_n 0) (len := 1) (pc' := 9) mJ_238 (by decide +kernel) (ns_aload_n 0 rfl rfl) rfl ?_
    refine nk_getC (f := (4, 1, 24)) (x := 68) (len := 3) (ci := 13) (k := 24) (pc' := 12) ja_okT mJ_238 (by decide +kernel) (by decide +kernel) (by decide +kernel) (by decide) t_l0 rfl ?_
    have t5 : nk_ar ja_Tt (ja_c l0 24) = some (1, 24) := nk_ta ja_okT t_l0 (by decide +kernel)
    refine nk_p (i := .iload_n 3) (len := 1) (pc' := 13) mJ_238 (by decide +kernel) (ns_iload_n 3 rfl rfl) rfl ?_
    refine nk_p (i := .aload_n 0) (len := 1) (pc' := 14) mJ_238 (by decide +kernel) (ns_aload_n 0 rfl rfl) rfl ?_
    refine nk_getC (f := (4, 1, 20480)) (x := 65) (len := 3) (ci := 13) (k := 23) (pc' := 17) ja_okT mJ_238 (by decide +kernel) (by decide +kernel) (by decide +kernel) (by decide) t_l0 rfl ?_
    have t6 : nk_ar ja_Tt (ja_c l0 23) = some (1, 20480) := nk_ta ja_okT t_l0 (by decide +kernel)
    refine nk_p (i := .iload_n 2) (len := 1) (pc' := 18) mJ_238 (by decide +kernel) (ns_iload_n 2 rfl rfl) rfl ?_
    refine nk_p (i := .bipush 20) (len := 2) (pc' := 20) mJ_238 (by decide +kernel) (ns_bipush (c := 20) (by decide +kernel)) rfl ?_
    refine nk_p (i := .imul) (len := 1) (pc' := 21) mJ_238 (by decide +kernel) ns_imul rfl ?_
    refine nk_p (i := .iload_n 3) (len := 1) (pc' := 22) mJ_238 (by decide +kernel) (ns_iload_n 3 rfl rfl) rfl ?_
    refine nk_p (i := .iadd) (len := 1) (pc' := 23) mJ_238 (by decide +kernel) ns_iadd rfl ?_
    obtain ⟨h7, hr⟩ := nk_cke hr
    refine nk_iald (len := 1) (N := 20480) (pc' := 24) mJ_238 (by decide +kernel) t6 h7.1 h7.2 rfl rfl ?_
    obtain ⟨h8, hr⟩ := nk_cke hr
    obtain ⟨S9, h10, hr⟩ := nk_lte hr
    refine nk_iast (len := 1) (N := 24) (pc' := 25) mJ_238 (by decide +kernel) t5 h8.1 h8.2 rfl rfl h10 ?_
    obtain ⟨v11, h12, hr⟩ := nk_lte hr
    refine nk_p (i := .iinc 3 1) (len := 3) (pc' := 28) mJ_238 (by decide +kernel) (ns_iinc (c := 1) (L' := [(3, nk_i v11), (0, nk_r l0), (1, nk_r l1), (2, nk_i l2)]) 3 rfl (by decide +kernel) h12 rfl (by decide +kernel)) rfl ?_
    refine nk_p (i := .goto (-26)) (len := 3) (pc' := 2) mJ_238 (by decide +kernel) (ns_goto (by decide +kernel)) rfl ?_
    refine nk_sub [1, 2, 3, 0] (L' := [(0, nk_r l0), (1, nk_r l1), (2, nk_i l2), (3, nk_i v11)]) rfl ?_
    exact hrec2 _ _ _ _ _ _ t_l0 t_l1 hr
noncomputable def ja_X13_typesAt_L2 : Nat → Nat → Nat → Int → Int → nk_S → Option (Int × nk_S)
  | 0, _, _, _, _, _ => none
  | n + 1, l0, l1, l2, l3, S => ja_X13_typesAt_b2 (ja_X13_typesAt_L2 n) l0 l1 l2 l3 S
theorem ja_X13_typesAt_L2_ok (zs : List Int32) : ∀ n : Nat, ∀ (l0 : Nat) (l1 : Nat) (l2 : Int) (l3 : Int) (S : nk_S) (R : Int × nk_S), nk_cl ja_Tt l0 = some 13 → nk_cl ja_Tt l1 = some 12 → ja_X13_typesAt_L2 n l0 l1 l2 l3 S = some R → nk_K ja_Tt mi_Γ (mi_ev zs) 0 238 2 [(0, nk_r l0), (1, nk_r l1), (2, nk_i l2), (3, nk_i l3)] [] S R := by
  intro n
  induction n with
  | zero => intro _ _ _ _ _ _ _ _ hr; cases hr
  | succ n ih => intro l0 l1 l2 l3 S R t_l0 t_l1 hr; exact ja_X13_typesAt_b2_ok zs ih l0 l1 l2 l3 S R t_l0 t_l1 hr
noncomputable def ja_X13_typesAt (l0 : Nat) (l1 : Nat) (l2 : Int) (S : nk_S) : Option (Int × nk_S) :=
  ja_X13_typesAt_L2 nk_big l0 l1 l2 0 S
theorem ja_X13_typesAt_ok (zs : List Int32) : ∀ (l0 : Nat) (l1 : Nat) (l2 : Int) (S : nk_S) (R : Int × nk_S), nk_cl ja_Tt l0 = some 13 → nk_cl ja_Tt l1 = some 12 → ja_X13_typesAt l0 l1 l2 S = some R → nk_K ja_Tt mi_Γ (mi_ev zs) 0 238 0 [(0, nk_r l0), (1, nk_r l1), (2, nk_i l2)] [] S R := by
  intro l0 l1 l2 S R t_l0 t_l1 hr
  unfold ja_X13_typesAt at hr
  refine nk_p (i := .iconst 0) (len := 1) (pc' := 1) mJ_238 (by decide +kernel) (ns_iconst (c := 0) (by decide +kernel)) rfl ?_
  refine nk_p (i := .istore_n 3) (len := 1) (pc' := 2) mJ_238 (by decide +kernel) (ns_istore_n (L' := [(3, nk_i 0), (0, nk_r l0), (1, nk_r l1), (2, nk_i l2)]) rfl rfl rfl (by decide +kernel)) rfl ?_
  refine nk_sub [1, 2, 3, 0] (L' := [(0, nk_r l0), (1, nk_r l1), (2, nk_i l2), (3, nk_i 0)]) rfl ?_
  exact ja_X13_typesAt_L2_ok zs nk_big _ _ _ _ _ _ t_l0 t_l1 hr
/-! SafeCodeModel joined (LSafeCodeModel$Program;II)I -/
noncomputable def ja_X13_joined_b102 (rec102 : Nat → Int → Int → Int → nk_S → Option (Int × nk_S)) (l0 : Nat) (l2 : Int) (l5 : Int) (l6 : Int) (S : nk_S) : Option (Int × nk_S) :=
  nk_bd (ja_X13_isAtOrBelow l0 (nk_w (l2 - l5)) l6 S) fun r1 S2 =>
  if r1 = 0 then
    if 0 ≤ l6 ∧ l6 < 32 then
    nk_lt (S2.1 (ja_c l0 8) l6.toNat) fun v6 =>
    rec102 l0 l2 l5 v6 S2
    else none
  else
    some ((nk_w (l5 + l6)), S2)
theorem ja_X13_joined_b102_ok (zs : List Int32) {rec102 : Nat → Int → Int → Int → nk_S → Option (Int × nk_S)} (hrec102 : ∀ (l0 : Nat) (l2 : Int) (l5 : Int) (l6 : Int) (S : nk_S) (R : Int × nk_S), nk_cl ja_Tt l0 = some 12 → rec102 l0 l2 l5 l6 S = some R → nk_K ja_Tt mi_Γ (mi_ev zs) 1 169 102 [(0, nk_r l0), (2, nk_i l2), (5, nk_i l5), (6, nk_i l6)] [] S R) : ∀ (l0 : Nat) (l2 : Int) (l5 : Int) (l6 : Int) (S : nk_S) (R : Int × nk_S), nk_cl ja_Tt l0 = some 12 → ja_X13_joined_b102 rec102 l0 l2 l5 l6 S = some R → nk_K ja_Tt mi_Γ (mi_ev zs) 1 169 102 [(0, nk_r l0), (2, nk_i l2), (5, nk_i l5), (6, nk_i l6)] [] S R := by
  intro l0 l2 l5 l6 S R t_l0 hr
  unfold ja_X13_joined_b102 at hr
  refine nk_p (i := .aload_n 0) (len := 1) (pc' := 103) mJ_169 (by decide +kernel) (ns_aload_n 0 rfl rfl) rfl ?_
  refine nk_p (i := .iload_n 2) (len := 1) (pc' := 104) mJ_169 (by decide +kernel) (ns_iload_n 1 rfl rfl) rfl ?_
  refine nk_p (i := .iload 5) (len := 2) (pc' := 106) mJ_169 (by decide +kernel) (ns_iload 2 rfl) rfl ?_
  refine nk_p (i := .isub) (len := 1) (pc' := 107) mJ_169 (by decide +kernel) ns_isub rfl ?_
  refine nk_p (i := .iload 6) (len := 2) (pc' := 109) mJ_169 (by decide +kernel) (ns_iload 3 rfl) rfl ?_
  obtain ⟨r1, S2, h3, hr⟩ := nk_bde hr
  refine nk_callS (ci := 0) (n := 3) (x := 299) (len := 3) (j' := 142) (q' := 1) (r := r1) (S' := S2) (L2 := [(0, nk_r l0), (1, nk_i (nk_w (l2 - l5))), (2, nk_i l6)]) (rest := []) (st' := [nk_i r1]) (pc' := 112) mJ_169 (by decide +kernel) (by decide +kernel) (Nat.le_of_ble_eq_true rfl) rfl rfl (Nat.le_of_ble_eq_true rfl) mJ_142 (Nat.le_of_ble_eq_true rfl) ja_Tpos rfl (ja_X13_isAtOrBelow_ok zs _ _ _ _ _ t_l0 h3) rfl ?_
  refine nk_icond (c := .ne) (off := 15) (len := 3) (t := 127) (pc' := 115) mJ_169 (by decide +kernel) (by decide +kernel) rfl (fun hc => ?_) (fun hc => ?_)
  · have hr := nk_ifn (c := r1 = 0) hc hr
    refine nk_p (i := .iload 5) (len := 2) (pc' := 129) mJ_169 (by decide +kernel) (ns_iload 2 rfl) rfl ?_
    refine nk_p (i := .iload 6) (len := 2) (pc' := 131) mJ_169 (by decide +kernel) (ns_iload 3 rfl) rfl ?_
    refine nk_p (i := .iadd) (len := 1) (pc' := 132) mJ_169 (by decide +kernel) ns_iadd rfl ?_
    cases hr
    exact nk_iret (ty := .int) (len := 1) mJ_169 (by decide +kernel) rfl (nk_nar_i _)
  · have hr := nk_ifp (c := r1 = 0) (Decidable.of_not_not hc) hr
    refine nk_p (i := .aload_n 0) (len := 1) (pc' := 116) mJ_169 (by decide +kernel) (ns_aload_n 0 rfl rfl) rfl ?_
    refine nk_getC (f := (4, 1, 32)) (x := 280) (len := 3) (ci := 12) (k := 8) (pc' := 119) ja_okT mJ_169 (by decide +kernel) (by decide +kernel) (by decide +kernel) (by decide) t_l0 rfl ?_
    have t4 : nk_ar ja_Tt (ja_c l0 8) = some (1, 32) := nk_ta ja_okT t_l0 (by decide +kernel)
    refine nk_p (i := .iload 6) (len := 2) (pc' := 121) mJ_169 (by decide +kernel) (ns_iload 3 rfl) rfl ?_
    obtain ⟨h5, hr⟩ := nk_cke hr
    refine nk_iald (len := 1) (N := 32) (pc' := 122) mJ_169 (by decide +kernel) t4 h5.1 h5.2 rfl rfl ?_
    obtain ⟨v6, h7, hr⟩ := nk_lte hr
    refine nk_p (i := .istore 6) (len := 2) (pc' := 124) mJ_169 (by decide +kernel) (ns_istore (L' := [(6, nk_i v6), (0, nk_r l0), (2, nk_i l2), (5, nk_i l5)]) h7 rfl (by decide +kernel)) rfl ?_
    refine nk_p (i := .goto (-22)) (len := 3) (pc' := 102) mJ_169 (by decide +kernel) (ns_goto (by decide +kernel)) rfl ?_
    refine nk_sub [1, 2, 3, 0] (L' := [(0, nk_r l0), (2, nk_i l2), (5, nk_i l5), (6, nk_i v6)]) rfl ?_
    exact hrec102 _ _ _ _ _ _ t_l0 hr
noncomputable def ja_X13_joined_L102 : Nat → Nat → Int → Int → Int → nk_S → Option (Int × nk_S)
  | 0, _, _, _, _, _ => none
  | n + 1, l0, l2, l5, l6, S => ja_X13_joined_b102 (ja_X13_joined_L102 n) l0 l2 l5 l6 S
theorem ja_X13_joined_L102_ok (zs : List Int32) : ∀ n : Nat, ∀ (l0 : Nat) (l2 : Int) (l5 : Int) (l6 : Int) (S : nk_S) (R : Int × nk_S), nk_cl ja_Tt l0 = some 12 → ja_X13_joined_L102 n l0 l2 l5 l6 S = some R → nk_K ja_Tt mi_Γ (mi_ev zs) 1 169 102 [(0, nk_r l0), (2, nk_i l2), (5, nk_i l5), (6, nk_i l6)] [] S R := by
  intro n
  induction n with
  | zero => intro _ _ _ _ _ _ _ hr; cases hr
  | succ n ih => intro l0 l2 l5 l6 S R t_l0 hr; exact ja_X13_joined_b102_ok zs ih l0 l2 l5 l6 S R t_l0 hr
noncomputable def ja_X13_joined_b94 (l0 : Nat) (l1 : Int) (l2 : Int) (s0 : Int) (S : nk_S) : Option (Int × nk_S) :=
  nk_lt (nk_w (l1 - s0)) fun v1 =>
  ja_X13_joined_L102 nk_big l0 l2 s0 v1 S
theorem ja_X13_joined_b94_ok (zs : List Int32) : ∀ (l0 : Nat) (l1 : Int) (l2 : Int) (s0 : Int) (S : nk_S) (R : Int × nk_S), nk_cl ja_Tt l0 = some 12 → ja_X13_joined_b94 l0 l1 l2 s0 S = some R → nk_K ja_Tt mi_Γ (mi_ev zs) 1 169 94 [(0, nk_r l0), (1, nk_i l1), (2, nk_i l2)] [nk_i s0] S R := by
  intro l0 l1 l2 s0 S R t_l0 hr
  unfold ja_X13_joined_b94 at hr
  refine nk_p (i := .istore 5) (len := 2) (pc' := 96) mJ_169 (by decide +kernel) (ns_istore (L' := [(5, nk_i s0), (0, nk_r l0), (1, nk_i l1), (2, nk_i l2)]) rfl rfl (by decide +kernel)) rfl ?_
  refine nk_p (i := .iload_n 1) (len := 1) (pc' := 97) mJ_169 (by decide +kernel) (ns_iload_n 2 rfl rfl) rfl ?_
  refine nk_p (i := .iload 5) (len := 2) (pc' := 99) mJ_169 (by decide +kernel) (ns_iload 0 rfl) rfl ?_
  refine nk_p (i := .isub) (len := 1) (pc' := 100) mJ_169 (by decide +kernel) ns_isub rfl ?_
  obtain ⟨v1, h2, hr⟩ := nk_lte hr
  refine nk_p (i := .istore 6) (len := 2) (pc' := 102) mJ_169 (by decide +kernel) (ns_istore (L' := [(6, nk_i v1), (5, nk_i s0), (0, nk_r l0), (1, nk_i l1), (2, nk_i l2)]) h2 rfl (by decide +kernel)) rfl ?_
  refine nk_sub [2, 4, 1, 0] (L' := [(0, nk_r l0), (2, nk_i l2), (5, nk_i s0), (6, nk_i v1)]) rfl ?_
  exact ja_X13_joined_L102_ok zs nk_big _ _ _ _ _ _ t_l0 hr
noncomputable def ja_X13_joined_b83 (l0 : Nat) (l1 : Int) (l2 : Int) (l3 : Int) (S : nk_S) : Option (Int × nk_S) :=
  if l3 = 0 then
    ja_X13_joined_b94 l0 l1 l2 48 S
  else
    ja_X13_joined_b94 l0 l1 l2 8 S
theorem ja_X13_joined_b83_ok (zs : List Int32) : ∀ (l0 : Nat) (l1 : Int) (l2 : Int) (l3 : Int) (S : nk_S) (R : Int × nk_S), nk_cl ja_Tt l0 = some 12 → ja_X13_joined_b83 l0 l1 l2 l3 S = some R → nk_K ja_Tt mi_Γ (mi_ev zs) 1 169 83 [(0, nk_r l0), (1, nk_i l1), (2, nk_i l2), (3, nk_i l3)] [] S R := by
  intro l0 l1 l2 l3 S R t_l0 hr
  unfold ja_X13_joined_b83 at hr
  refine nk_p (i := .iload_n 3) (len := 1) (pc' := 84) mJ_169 (by decide +kernel) (ns_iload_n 3 rfl rfl) rfl ?_
  refine nk_icond (c := .eq) (off := 8) (len := 3) (t := 92) (pc' := 87) mJ_169 (by decide +kernel) (by decide +kernel) rfl (fun hc => ?_) (fun hc => ?_)
  · have hr := nk_ifp (c := l3 = 0) hc hr
    refine nk_p (i := .bipush 48) (len := 2) (pc' := 94) mJ_169 (by decide +kernel) (ns_bipush (c := 48) (by decide +kernel)) rfl ?_
    refine nk_sub [0, 1, 2] (L' := [(0, nk_r l0), (1, nk_i l1), (2, nk_i l2)]) rfl ?_
    exact ja_X13_joined_b94_ok zs _ _ _ _ _ _ t_l0 hr
  · have hr := nk_ifn (c := l3 = 0) hc hr
    refine nk_p (i := .bipush 8) (len := 2) (pc' := 89) mJ_169 (by decide +kernel) (ns_bipush (c := 8) (by decide +kernel)) rfl ?_
    refine nk_p (i := .goto 5) (len := 3) (pc' := 94) mJ_169 (by decide +kernel) (ns_goto (by decide +kernel)) rfl ?_
    refine nk_sub [0, 1, 2] (L' := [(0, nk_r l0), (1, nk_i l1), (2, nk_i l2)]) rfl ?_
    exact ja_X13_joined_b94_ok zs _ _ _ _ _ _ t_l0 hr
noncomputable def ja_X13_joined_b69 (l0 : Nat) (l1 : Int) (l2 : Int) (l3 : Int) (s0 : Int) (S : nk_S) : Option (Int × nk_S) :=
  if l3 = 0 then
    if s0 = 0 then
      some (8, S)
    else
      ja_X13_joined_b83 l0 l1 l2 l3 S
  else
    ja_X13_joined_b83 l0 l1 l2 l3 S
theorem ja_X13_joined_b69_ok (zs : List Int32) : ∀ (l0 : Nat) (l1 : Int) (l2 : Int) (l3 : Int) (s0 : Int) (S : nk_S) (R : Int × nk_S), nk_cl ja_Tt l0 = some 12 → ja_X13_joined_b69 l0 l1 l2 l3 s0 S = some R → nk_K ja_Tt mi_Γ (mi_ev zs) 1 169 69 [(0, nk_r l0), (1, nk_i l1), (2, nk_i l2), (3, nk_i l3)] [nk_i s0] S R := by
  intro l0 l1 l2 l3 s0 S R t_l0 hr
  unfold ja_X13_joined_b69 at hr
  refine nk_p (i := .istore 4) (len := 2) (pc' := 71) mJ_169 (by decide +kernel) (ns_istore (L' := [(4, nk_i s0), (0, nk_r l0), (1, nk_i l1), (2, nk_i l2), (3, nk_i l3)]) rfl rfl (by decide +kernel)) rfl ?_
  refine nk_p (i := .iload_n 3) (len := 1) (pc' := 72) mJ_169 (by decide +kernel) (ns_iload_n 4 rfl rfl) rfl ?_
  refine nk_icond (c := .ne) (off := 11) (len := 3) (t := 83) (pc' := 75) mJ_169 (by decide +kernel) (by decide +kernel) rfl (fun hc => ?_) (fun hc => ?_)
  · have hr := nk_ifn (c := l3 = 0) hc hr
    refine nk_sub [1, 2, 3, 4] (L' := [(0, nk_r l0), (1, nk_i l1), (2, nk_i l2), (3, nk_i l3)]) rfl ?_
    exact ja_X13_joined_b83_ok zs _ _ _ _ _ _ t_l0 hr
  · have hr := nk_ifp (c := l3 = 0) (Decidable.of_not_not hc) hr
    refine nk_p (i := .iload 4) (len := 2) (pc' := 77) mJ_169 (by decide +kernel) (ns_iload 0 rfl) rfl ?_
    refine nk_icond (c := .ne) (off := 6) (len := 3) (t := 83) (pc' := 80) mJ_169 (by decide +kernel) (by decide +kernel) rfl (fun hc => ?_) (fun hc => ?_)
    · have hr := nk_ifn (c := s0 = 0) hc hr
      refine nk_sub [1, 2, 3, 4] (L' := [(0, nk_r l0), (1, nk_i l1), (2, nk_i l2), (3, nk_i l3)]) rfl ?_
      exact ja_X13_joined_b83_ok zs _ _ _ _ _ _ t_l0 hr
    · have hr := nk_ifp (c := s0 = 0) (Decidable.of_not_not hc) hr
      refine nk_p (i := .bipush 8) (len := 2) (pc' := 82) mJ_169 (by decide +kernel) (ns_bipush (c := 8) (by decide +kernel)) rfl ?_
      cases hr
      exact nk_iret (ty := .int) (len := 1) mJ_169 (by decide +kernel) rfl (nk_nar_i _)
noncomputable def ja_X13_joined_b68 (l0 : Nat) (l1 : Int) (l2 : Int) (l3 : Int) (S : nk_S) : Option (Int × nk_S) :=
  ja_X13_joined_b69 l0 l1 l2 l3 0 S
theorem ja_X13_joined_b68_ok (zs : List Int32) : ∀ (l0 : Nat) (l1 : Int) (l2 : Int) (l3 : Int) (S : nk_S) (R : Int × nk_S), nk_cl ja_Tt l0 = some 12 → ja_X13_joined_b68 l0 l1 l2 l3 S = some R → nk_K ja_Tt mi_Γ (mi_ev zs) 1 169 68 [(0, nk_r l0), (1, nk_i l1), (2, nk_i l2), (3, nk_i l3)] [] S R := by
  intro l0 l1 l2 l3 S R t_l0 hr
  unfold ja_X13_joined_b68 at hr
  refine nk_p (i := .iconst 0) (len := 1) (pc' := 69) mJ_169 (by decide +kernel) (ns_iconst (c := 0) (by decide +kernel)) rfl ?_
  exact ja_X13_joined_b69_ok zs _ _ _ _ _ _ _ t_l0 hr
noncomputable def ja_X13_joined_b51 (l0 : Nat) (l1 : Int) (l2 : Int) (s0 : Int) (S : nk_S) : Option (Int × nk_S) :=
  if l1 < 48 then
    ja_X13_joined_b68 l0 l1 l2 s0 S
  else
    if l2 < 48 then
      ja_X13_joined_b68 l0 l1 l2 s0 S
    else
      ja_X13_joined_b69 l0 l1 l2 s0 1 S
theorem ja_X13_joined_b51_ok (zs : List Int32) : ∀ (l0 : Nat) (l1 : Int) (l2 : Int) (s0 : Int) (S : nk_S) (R : Int × nk_S), nk_cl ja_Tt l0 = some 12 → ja_X13_joined_b51 l0 l1 l2 s0 S = some R → nk_K ja_Tt mi_Γ (mi_ev zs) 1 169 51 [(0, nk_r l0), (1, nk_i l1), (2, nk_i l2)] [nk_i s0] S R := by
  intro l0 l1 l2 s0 S R t_l0 hr
  unfold ja_X13_joined_b51 at hr
  refine nk_p (i := .istore_n 3) (len := 1) (pc' := 52) mJ_169 (by decide +kernel) (ns_istore_n (L' := [(3, nk_i s0), (0, nk_r l0), (1, nk_i l1), (2, nk_i l2)]) rfl rfl rfl (by decide +kernel)) rfl ?_
  refine nk_p (i := .iload_n 1) (len := 1) (pc' := 53) mJ_169 (by decide +kernel) (ns_iload_n 2 rfl rfl) rfl ?_
  refine nk_p (i := .bipush 48) (len := 2) (pc' := 55) mJ_169 (by decide +kernel) (ns_bipush (c := 48) (by decide +kernel)) rfl ?_
  refine nk_icmp (c := .lt) (off := 13) (len := 3) (t := 68) (pc' := 58) mJ_169 (by decide +kernel) (by decide +kernel) rfl (fun hc => ?_) (fun hc => ?_)
  · have hr := nk_ifp (c := l1 < 48) hc hr
    refine nk_sub [1, 2, 3, 0] (L' := [(0, nk_r l0), (1, nk_i l1), (2, nk_i l2), (3, nk_i s0)]) rfl ?_
    exact ja_X13_joined_b68_ok zs _ _ _ _ _ _ t_l0 hr
  · have hr := nk_ifn (c := l1 < 48) hc hr
    refine nk_p (i := .iload_n 2) (len := 1) (pc' := 59) mJ_169 (by decide +kernel) (ns_iload_n 3 rfl rfl) rfl ?_
    refine nk_p (i := .bipush 48) (len := 2) (pc' := 61) mJ_169 (by decide +kernel) (ns_bipush (c := 48) (by decide +kernel)) rfl ?_
    refine nk_icmp (c := .lt) (off := 7) (len := 3) (t := 68) (pc' := 64) mJ_169 (by decide +kernel) (by decide +kernel) rfl (fun hc => ?_) (fun hc => ?_)
    · have hr := nk_ifp (c := l2 < 48) hc hr
      refine nk_sub [1, 2, 3, 0] (L' := [(0, nk_r l0), (1, nk_i l1), (2, nk_i l2), (3, nk_i s0)]) rfl ?_
      exact ja_X13_joined_b68_ok zs _ _ _ _ _ _ t_l0 hr
    · have hr := nk_ifn (c := l2 < 48) hc hr
      refine nk_p (i := .iconst 1) (len := 1) (pc' := 65) mJ_169 (by decide +kernel) (ns_iconst (c := 1) (by decide +kernel)) rfl ?_
      refine nk_p (i := .goto 4) (len := 3) (pc' := 69) mJ_169 (by decide +kernel) (ns_goto (by decide +kernel)) rfl ?_
      refine nk_sub [1, 2, 3, 0] (L' := [(0, nk_r l0), (1, nk_i l1), (2, nk_i l2), (3, nk_i s0)]) rfl ?_
      exact ja_X13_joined_b69_ok zs _ _ _ _ _ _ _ t_l0 hr
noncomputable def ja_X13_joined_b50 (l0 : Nat) (l1 : Int) (l2 : Int) (S : nk_S) : Option (Int × nk_S) :=
  ja_X13_joined_b51 l0 l1 l2 0 S
theorem ja_X13_joined_b50_ok (zs : List Int32) : ∀ (l0 : Nat) (l1 : Int) (l2 : Int) (S : nk_S) (R : Int × nk_S), nk_cl ja_Tt l0 = some 12 → ja_X13_joined_b50 l0 l1 l2 S = some R → nk_K ja_Tt mi_Γ (mi_ev zs) 1 169 50 [(0, nk_r l0), (1, nk_i l1), (2, nk_i l2)] [] S R := by
  intro l0 l1 l2 S R t_l0 hr
  unfold ja_X13_joined_b50 at hr
  refine nk_p (i := .iconst 0) (len := 1) (pc' := 51) mJ_169 (by decide +kernel) (ns_iconst (c := 0) (by decide +kernel)) rfl ?_
  exact ja_X13_joined_b51_ok zs _ _ _ _ _ _ t_l0 hr
noncomputable def ja_X13_joined (l0 : Nat) (l1 : Int) (l2 : Int) (S : nk_S) : Option (Int × nk_S) :=
  nk_bd (ja_X13_isBelow l0 l1 l2 S) fun r1 S2 =>
  if r1 = 0 then
    nk_bd (ja_X13_isBelow l0 l2 l1 S2) fun r4 S5 =>
    if r4 = 0 then
      if l1 = 0 then
        some (2, S5)
      else
        if l2 = 0 then
          some (2, S5)
        else
          nk_bd (ja_X13_isClass l1 S5) fun r7 S8 =>
          if r7 = 0 then
            ja_X13_joined_b50 l0 l1 l2 S8
          else
            nk_bd (ja_X13_isClass l2 S8) fun r10 S11 =>
            if r10 = 0 then
              ja_X13_joined_b50 l0 l1 l2 S11
            else
              ja_X13_joined_b51 l0 l1 l2 1 S11
    else
      some (l1, S5)
  else
    some (l2, S2)
theorem ja_X13_joined_ok (zs : List Int32) : ∀ (l0 : Nat) (l1 : Int) (l2 : Int) (S : nk_S) (R : Int × nk_S), nk_cl ja_Tt l0 = some 12 → ja_X13_joined l0 l1 l2 S = some R → nk_K ja_Tt mi_Γ (mi_ev zs) 1 169 0 [(0, nk_r l0), (1, nk_i l1), (2, nk_i l2)] [] S R := by
  intro l0 l1 l2 S R t_l0 hr
  unfold ja_X13_joined at hr
  refine nk_p (i := .aload_n 0) (len := 1) (pc' := 1) mJ_169 (by decide +kernel) (ns_aload_n 0 rfl rfl) rfl ?_
  refine nk_p (i := .iload_n 1) (len := 1) (pc' := 2) mJ_169 (by decide +kernel) (ns_iload_n 1 rfl rfl) rfl ?_
  refine nk_p (i := .iload_n 2) (len := 1) (pc' := 3) mJ_169 (by decide +kernel) (ns_iload_n 2 rfl rfl) rfl ?_
  obtain ⟨r1, S2, h3, hr⟩ := nk_bde hr
  refine nk_callS (ci := 0) (n := 3) (x := 486) (len := 3) (j' := 143) (q' := 1) (r := r1) (S' := S2) (L2 := [(0, nk_r l0), (1, nk_i l1), (2, nk_i l2)]) (rest := []) (st' := [nk_i r1]) (pc' := 6) mJ_169 (by decide +kernel) (by decide +kernel) (Nat.le_of_ble_eq_true rfl) rfl rfl (Nat.le_of_ble_eq_true rfl) mJ_143 (Nat.le_of_ble_eq_true rfl) ja_Tpos rfl (ja_X13_isBelow_ok zs _ _ _ _ _ t_l0 h3) rfl ?_
  refine nk_icond (c := .eq) (off := 5) (len := 3) (t := 11) (pc' := 9) mJ_169 (by decide +kernel) (by decide +kernel) rfl (fun hc => ?_) (fun hc => ?_)
  · have hr := nk_ifp (c := r1 = 0) hc hr
    refine nk_p (i := .aload_n 0) (len := 1) (pc' := 12) mJ_169 (by decide +kernel) (ns_aload_n 0 rfl rfl) rfl ?_
    refine nk_p (i := .iload_n 2) (len := 1) (pc' := 13) mJ_169 (by decide +kernel) (ns_iload_n 2 rfl rfl) rfl ?_
    refine nk_p (i := .iload_n 1) (len := 1) (pc' := 14) mJ_169 (by decide +kernel) (ns_iload_n 1 rfl rfl) rfl ?_
    obtain ⟨r4, S5, h6, hr⟩ := nk_bde hr
    refine nk_callS (ci := 0) (n := 3) (x := 486) (len := 3) (j' := 143) (q' := 1) (r := r4) (S' := S5) (L2 := [(0, nk_r l0), (1, nk_i l2), (2, nk_i l1)]) (rest := []) (st' := [nk_i r4]) (pc' := 17) mJ_169 (by decide +kernel) (by decide +kernel) (Nat.le_of_ble_eq_true rfl) rfl rfl (Nat.le_of_ble_eq_true rfl) mJ_143 (Nat.le_of_ble_eq_true rfl) ja_Tpos rfl (ja_X13_isBelow_ok zs _ _ _ _ _ t_l0 h6) rfl ?_
    refine nk_icond (c := .eq) (off := 5) (len := 3) (t := 22) (pc' := 20) mJ_169 (by decide +kernel) (by decide +kernel) rfl (fun hc => ?_) (fun hc => ?_)
    · have hr := nk_ifp (c := r4 = 0) hc hr
      refine nk_p (i := .iload_n 1) (len := 1) (pc' := 23) mJ_169 (by decide +kernel) (ns_iload_n 1 rfl rfl) rfl ?_
      refine nk_icond (c := .eq) (off := 7) (len := 3) (t := 30) (pc' := 26) mJ_169 (by decide +kernel) (by decide +kernel) rfl (fun hc => ?_) (fun hc => ?_)
      · have hr := nk_ifp (c := l1 = 0) hc hr
        refine nk_p (i := .iconst 2) (len := 1) (pc' := 31) mJ_169 (by decide +kernel) (ns_iconst (c := 2) (by decide +kernel)) rfl ?_
        cases hr
        exact nk_iret (ty := .int) (len := 1) mJ_169 (by decide +kernel) rfl (nk_nar_i _)
      · have hr := nk_ifn (c := l1 = 0) hc hr
        refine nk_p (i := .iload_n 2) (len := 1) (pc' := 27) mJ_169 (by decide +kernel) (ns_iload_n 2 rfl rfl) rfl ?_
        refine nk_icond (c := .ne) (off := 5) (len := 3) (t := 32) (pc' := 30) mJ_169 (by decide +kernel) (by decide +kernel) rfl (fun hc => ?_) (fun hc => ?_)
        · have hr := nk_ifn (c := l2 = 0) hc hr
          refine nk_p (i := .iload_n 1) (len := 1) (pc' := 33) mJ_169 (by decide +kernel) (ns_iload_n 1 rfl rfl) rfl ?_
          obtain ⟨r7, S8, h9, hr⟩ := nk_bde hr
          refine nk_callS (ci := 0) (n := 1) (x := 483) (len := 3) (j' := 144) (q' := 1) (r := r7) (S' := S8) (L2 := [(0, nk_i l1)]) (rest := []) (st' := [nk_i r7]) (pc' := 36) mJ_169 (by decide +kernel) (by decide +kernel) (Nat.le_of_ble_eq_true rfl) rfl rfl (Nat.le_of_ble_eq_true rfl) mJ_144 (Nat.le_of_ble_eq_true rfl) ja_Tpos rfl (ja_X13_isClass_ok zs _ _ _ h9) rfl ?_
          refine nk_icond (c := .eq) (off := 14) (len := 3) (t := 50) (pc' := 39) mJ_169 (by decide +kernel) (by decide +kernel) rfl (fun hc => ?_) (fun hc => ?_)
          · have hr := nk_ifp (c := r7 = 0) hc hr
            exact ja_X13_joined_b50_ok zs _ _ _ _ _ t_l0 hr
          · have hr := nk_ifn (c := r7 = 0) hc hr
            refine nk_p (i := .iload_n 2) (len := 1) (pc' := 40) mJ_169 (by decide +kernel) (ns_iload_n 2 rfl rfl) rfl ?_
            obtain ⟨r10, S11, h12, hr⟩ := nk_bde hr
            refine nk_callS (ci := 0) (n := 1) (x := 483) (len := 3) (j' := 144) (q' := 1) (r := r10) (S' := S11) (L2 := [(0, nk_i l2)]) (rest := []) (st' := [nk_i r10]) (pc' := 43) mJ_169 (by decide +kernel) (by decide +kernel) (Nat.le_of_ble_eq_true rfl) rfl rfl (Nat.le_of_ble_eq_true rfl) mJ_144 (Nat.le_of_ble_eq_true rfl) ja_Tpos rfl (ja_X13_isClass_ok zs _ _ _ h12) rfl ?_
            refine nk_icond (c := .eq) (off := 7) (len := 3) (t := 50) (pc' := 46) mJ_169 (by decide +kernel) (by decide +kernel) rfl (fun hc => ?_) (fun hc => ?_)
            · have hr := nk_ifp (c := r10 = 0) hc hr
              exact ja_X13_joined_b50_ok zs _ _ _ _ _ t_l0 hr
            · have hr := nk_ifn (c := r10 = 0) hc hr
              refine nk_p (i := .iconst 1) (len := 1) (pc' := 47) mJ_169 (by decide +kernel) (ns_iconst (c := 1) (by decide +kernel)) rfl ?_
              refine nk_p (i := .goto 4) (len := 3) (pc' := 51) mJ_169 (by decide +kernel) (ns_goto (by decide +kernel)) rfl ?_
              exact ja_X13_joined_b51_ok zs _ _ _ _ _ _ t_l0 hr
        · have hr := nk_ifp (c := l2 = 0) (Decidable.of_not_not hc) hr
          refine nk_p (i := .iconst 2) (len := 1) (pc' := 31) mJ_169 (by decide +kernel) (ns_iconst (c := 2) (by decide +kernel)) rfl ?_
          cases hr
          exact nk_iret (ty := .int) (len := 1) mJ_169 (by decide +kernel) rfl (nk_nar_i _)
    · have hr := nk_ifn (c := r4 = 0) hc hr
      refine nk_p (i := .iload_n 1) (len := 1) (pc' := 21) mJ_169 (by decide +kernel) (ns_iload_n 1 rfl rfl) rfl ?_
      cases hr
      exact nk_iret (ty := .int) (len := 1) mJ_169 (by decide +kernel) rfl (nk_nar_i _)
  · have hr := nk_ifn (c := r1 = 0) hc hr
    refine nk_p (i := .iload_n 2) (len := 1) (pc' := 10) mJ_169 (by decide +kernel) (ns_iload_n 2 rfl rfl) rfl ?_
    cases hr
    exact nk_iret (ty := .int) (len := 1) mJ_169 (by decide +kernel) rfl (nk_nar_i _)
