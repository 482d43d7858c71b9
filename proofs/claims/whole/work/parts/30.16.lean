/-! SafeCodeModel end (I)Z -/
noncomputable def ja_X13_end_b16 (rec16 : Nat → Int → Int → nk_S → Option (Int × nk_S)) (l0 : Nat) (l1 : Int) (l2 : Int) (S : nk_S) : Option (Int × nk_S) :=
  if l1 ≤ l2 then
    nk_lt (nk_wi S l0 7 l1) fun S1 =>
    nk_lt (nk_wi S1 l0 4 0) fun S3 =>
    some (1, S3)
  else
    if 0 ≤ l2 ∧ l2 < 16000 then
    nk_lt (nk_wi S (ja_c l0 6) l2.toNat (nk_i2b (S.1 (ja_c l0 3) l2.toNat))) fun S8 =>
    nk_lt (nk_w (l2 + 1)) fun v10 =>
    rec16 l0 l1 v10 S8
    else none
theorem ja_X13_end_b16_ok (zs : List Int32) {rec16 : Nat → Int → Int → nk_S → Option (Int × nk_S)} (hrec16 : ∀ (l0 : Nat) (l1 : Int) (l2 : Int) (S : nk_S) (R : Int × nk_S), nk_cl ja_Tt l0 = some 13 → rec16 l0 l1 l2 S = some R → nk_K ja_Tt mi_Γ (mi_ev zs) 1 110 16 [(0, nk_r l0), (1, nk_i l1), (2, nk_i l2)] [] S R) : ∀ (l0 : Nat) (l1 : Int) (l2 : Int) (S : nk_S) (R : Int × nk_S), nk_cl ja_Tt l0 = some 13 → ja_X13_end_b16 rec16 l0 l1 l2 S = some R → nk_K ja_Tt mi_Γ (mi_ev zs) 1 110 16 [(0, nk_r l0), (1, nk_i l1), (2, nk_i l2)] [] S R := by
  intro l0 l1 l2 S R t_l0 hr
  unfold ja_X13_end_b16 at hr
  refine nk_p (i := .iload_n 2) (len := 1) (pc' := 17) mJ_110 (by decide +kernel) (ns_iload_n 2 rfl rfl) rfl ?_
  refine nk_p (i := .iload_n 1) (len := 1) (pc' := 18) mJ_110 (by decide +kernel) (ns_iload_n 1 rfl rfl) rfl ?_
  refine nk_icmp (c := .ge) (off := 21) (len := 3) (t := 39) (pc' := 21) mJ_110 (by decide +kernel) (by decide +kernel) rfl (fun hc => ?_) (fun hc => ?_)
  · have hr := nk_ifp (c := l1 ≤ l2) hc hr
    refine nk_p (i := .aload_n 0) (len := 1) (pc' := 40) mJ_110 (by decide +kernel) (ns_aload_n 0 rfl rfl) rfl ?_
    refine nk_p (i := .iload_n 1) (len := 1) (pc' := 41) mJ_110 (by decide +kernel) (ns_iload_n 1 rfl rfl) rfl ?_
    obtain ⟨S1, h2, hr⟩ := nk_lte hr
    refine nk_putI (y := (0, 0)) (ty := .int) (x := 152) (len := 3) (ci := 13) (k := 7) (pc' := 44) ja_okT mJ_110 (by decide +kernel) (by decide +kernel) (by decide +kernel) t_l0 (Or.inl rfl) rfl h2 ?_
    refine nk_p (i := .aload_n 0) (len := 1) (pc' := 45) mJ_110 (by decide +kernel) (ns_aload_n 0 rfl rfl) rfl ?_
    refine nk_p (i := .iconst 0) (len := 1) (pc' := 46) mJ_110 (by decide +kernel) (ns_iconst (c := 0) (by decide +kernel)) rfl ?_
    obtain ⟨S3, h4, hr⟩ := nk_lte hr
    refine nk_putI (y := (0, 0)) (ty := .int) (x := 141) (len := 3) (ci := 13) (k := 4) (pc' := 49) ja_okT mJ_110 (by decide +kernel) (by decide +kernel) (by decide +kernel) t_l0 (Or.inl rfl) rfl h4 ?_
    refine nk_p (i := .iconst 1) (len := 1) (pc' := 50) mJ_110 (by decide +kernel) (ns_iconst (c := 1) (by decide +kernel)) rfl ?_
    cases hr
    exact nk_iret (ty := .boolean) (len := 1) mJ_110 (by decide +kernel) rfl (nk_nar_z (by decide))
  · have hr := nk_ifn (c := l1 ≤ l2) hc hr
    refine nk_p (i := .aload_n 0) (len := 1) (pc' := 22) mJ_110 (by decide +kernel) (ns_aload_n 0 rfl rfl) rfl ?_
    refine nk_getC (f := (4, 0, 16000)) (x := 23) (len := 3) (ci := 13) (k := 6) (pc' := 25) ja_okT mJ_110 (by decide +kernel) (by decide +kernel) (by decide +kernel) (by decide) t_l0 rfl ?_
    have t5 : nk_ar ja_Tt (ja_c l0 6) = some (0, 16000) := nk_ta ja_okT t_l0 (by decide +kernel)
    refine nk_p (i := .iload_n 2) (len := 1) (pc' := 26) mJ_110 (by decide +kernel) (ns_iload_n 2 rfl rfl) rfl ?_
    refine nk_p (i := .aload_n 0) (len := 1) (pc' := 27) mJ_110 (by decide +kernel) (ns_aload_n 0 rfl rfl) rfl ?_
    refine nk_getC (f := (4, 0, 16000)) (x := 19) (len := 3) (ci := 13) (k := 3) (pc' := 30) ja_okT mJ_110 (by decide +kernel) (by decide +kernel) (by decide +kernel) (by decide) t_l0 rfl ?_
    have t6 : nk_ar ja_Tt (ja_c l0 3) = some (0, 16000) := nk_ta ja_okT t_l0 (by decide +kernel)
    refine nk_p (i := .iload_n 2) (len := 1) (pc' := 31) mJ_110 (by decide +kernel) (ns_iload_n 2 rfl rfl) rfl ?_
    obtain ⟨h7, hr⟩ := nk_cke hr
    refine nk_bald (t := 0) (len := 1) (N := 16000) (pc' := 32) mJ_110 (by decide +kernel) t6 (by decide) h7.1 h7.2 rfl rfl ?_
    obtain ⟨S8, h9, hr⟩ := nk_lte hr
    refine nk_bast (len := 1) (N := 16000) (pc' := 33) mJ_110 (by decide +kernel) t5 h7.1 h7.2 rfl rfl h9 ?_
    obtain ⟨v10, h11, hr⟩ := nk_lte hr
    refine nk_p (i := .iinc 2 1) (len := 3) (pc' := 36) mJ_110 (by decide +kernel) (ns_iinc (c := 1) (L' := [(2, nk_i v10), (0, nk_r l0), (1, nk_i l1)]) 2 rfl (by decide +kernel) h11 rfl (by decide +kernel)) rfl ?_
    refine nk_p (i := .goto (-20)) (len := 3) (pc' := 16) mJ_110 (by decide +kernel) (ns_goto (by decide +kernel)) rfl ?_
    refine nk_sub [1, 2, 0] (L' := [(0, nk_r l0), (1, nk_i l1), (2, nk_i v10)]) rfl ?_
    exact hrec16 _ _ _ _ _ t_l0 hr
noncomputable def ja_X13_end_L16 : Nat → Nat → Int → Int → nk_S → Option (Int × nk_S)
  | 0, _, _, _, _ => none
  | n + 1, l0, l1, l2, S => ja_X13_end_b16 (ja_X13_end_L16 n) l0 l1 l2 S
theorem ja_X13_end_L16_ok (zs : List Int32) : ∀ n : Nat, ∀ (l0 : Nat) (l1 : Int) (l2 : Int) (S : nk_S) (R : Int × nk_S), nk_cl ja_Tt l0 = some 13 → ja_X13_end_L16 n l0 l1 l2 S = some R → nk_K ja_Tt mi_Γ (mi_ev zs) 1 110 16 [(0, nk_r l0), (1, nk_i l1), (2, nk_i l2)] [] S R := by
  intro n
  induction n with
  | zero => intro _ _ _ _ _ _ hr; cases hr
  | succ n ih => intro l0 l1 l2 S R t_l0 hr; exact ja_X13_end_b16_ok zs ih l0 l1 l2 S R t_l0 hr
noncomputable def ja_X13_end (l0 : Nat) (l1 : Int) (S : nk_S) : Option (Int × nk_S) :=
  if l1 < 0 then
    some (0, S)
  else
    if l1 ≤ (S.1 l0 4) then
      ja_X13_end_L16 nk_big l0 l1 0 S
    else
      some (0, S)
theorem ja_X13_end_ok (zs : List Int32) : ∀ (l0 : Nat) (l1 : Int) (S : nk_S) (R : Int × nk_S), nk_cl ja_Tt l0 = some 13 → ja_X13_end l0 l1 S = some R → nk_K ja_Tt mi_Γ (mi_ev zs) 1 110 0 [(0, nk_r l0), (1, nk_i l1)] [] S R := by
  intro l0 l1 S R t_l0 hr
  unfold ja_X13_end at hr
  refine nk_p (i := .iload_n 1) (len := 1) (pc' := 1) mJ_110 (by decide +kernel) (ns_iload_n 1 rfl rfl) rfl ?_
  refine nk_icond (c := .lt) (off := 11) (len := 3) (t := 12) (pc' := 4) mJ_110 (by decide +kernel) (by decide +kernel) rfl (fun hc => ?_) (fun hc => ?_)
  · have hr := nk_ifp (c := l1 < 0) hc hr
    refine nk_p (i := .iconst 0) (len := 1) (pc' := 13) mJ_110 (by decide +kernel) (ns_iconst (c := 0) (by decide +kernel)) rfl ?_
    cases hr
    exact nk_iret (ty := .boolean) (len := 1) mJ_110 (by decide +kernel) rfl (nk_nar_z (by decide))
  · have hr := nk_ifn (c := l1 < 0) hc hr
    refine nk_p (i := .iload_n 1) (len := 1) (pc' := 5) mJ_110 (by decide +kernel) (ns_iload_n 1 rfl rfl) rfl ?_
    refine nk_p (i := .aload_n 0) (len := 1) (pc' := 6) mJ_110 (by decide +kernel) (ns_aload_n 0 rfl rfl) rfl ?_
    refine nk_getI (y := (0, 0)) (x := 141) (len := 3) (ci := 13) (k := 4) (pc' := 9) ja_okT mJ_110 (by decide +kernel) (by decide +kernel) (by decide +kernel) t_l0 rfl ?_
    refine nk_icmp (c := .le) (off := 5) (len := 3) (t := 14) (pc' := 12) mJ_110 (by decide +kernel) (by decide +kernel) rfl (fun hc => ?_) (fun hc => ?_)
    · have hr := nk_ifp (c := l1 ≤ (S.1 l0 4)) hc hr
      refine nk_p (i := .iconst 0) (len := 1) (pc' := 15) mJ_110 (by decide +kernel) (ns_iconst (c := 0) (by decide +kernel)) rfl ?_
      refine nk_p (i := .istore_n 2) (len := 1) (pc' := 16) mJ_110 (by decide +kernel) (ns_istore_n (L' := [(2, nk_i 0), (0, nk_r l0), (1, nk_i l1)]) rfl rfl rfl (by decide +kernel)) rfl ?_
      refine nk_sub [1, 2, 0] (L' := [(0, nk_r l0), (1, nk_i l1), (2, nk_i 0)]) rfl ?_
      exact ja_X13_end_L16_ok zs nk_big _ _ _ _ _ t_l0 hr
    · have hr := nk_ifn (c := l1 ≤ (S.1 l0 4)) hc hr
      refine nk_p (i := .iconst 0) (len := 1) (pc' := 13) mJ_110 (by decide +kernel) (ns_iconst (c := 0) (by decide +kernel)) rfl ?_
      cases hr
      exact nk_iret (ty := .boolean) (len := 1) mJ_110 (by decide +kernel) rfl (nk_nar_z (by decide))
/-! SafeCodeModel ends ()J -/
noncomputable def ja_X13_ends (l0 : Nat) (S : nk_S) : Option (Int × nk_S) :=
  if (S.1 l0 2) = 0 then
    some (0, S)
  else
    if 0 ≤ (S.1 (S.2 l0 0) 6) ∧ (S.1 (S.2 l0 0) 6) < 48 then
    some ((S.1 (ja_c (S.2 l0 0) 52) (S.1 (S.2 l0 0) 6).toNat), S)
    else none
theorem ja_X13_ends_ok (zs : List Int32) : ∀ (l0 : Nat) (S : nk_S) (R : Int × nk_S), nk_cl ja_Tt l0 = some 13 → ja_X13_ends l0 S = some R → nk_K ja_Tt mi_Γ (mi_ev zs) 2 112 0 [(0, nk_r l0)] [] S R := by
  intro l0 S R t_l0 hr
  unfold ja_X13_ends at hr
  refine nk_p (i := .aload_n 0) (len := 1) (pc' := 1) mJ_112 (by decide +kernel) (ns_aload_n 0 rfl rfl) rfl ?_
  refine nk_getI (y := (0, 0)) (x := 794) (len := 3) (ci := 13) (k := 2) (pc' := 4) ja_okT mJ_112 (by decide +kernel) (by decide +kernel) (by decide +kernel) t_l0 rfl ?_
  refine nk_icond (c := .eq) (off := 21) (len := 3) (t := 25) (pc' := 7) mJ_112 (by decide +kernel) (by decide +kernel) rfl (fun hc => ?_) (fun hc => ?_)
  · have hr := nk_ifp (c := (S.1 l0 2) = 0) hc hr
    refine nk_p (i := .lconst 0) (len := 1) (pc' := 26) mJ_112 (by decide +kernel) (ns_lconst (c := 0) (by decide +kernel)) rfl ?_
    cases hr
    exact nk_lret (len := 1) mJ_112 (by decide +kernel) rfl
  · have hr := nk_ifn (c := (S.1 l0 2) = 0) hc hr
    refine nk_p (i := .aload_n 0) (len := 1) (pc' := 8) mJ_112 (by decide +kernel) (ns_aload_n 0 rfl rfl) rfl ?_
    refine nk_getM (cj := 12) (z := 0) (x := 12) (len := 3) (ci := 13) (k := 0) (pc' := 11) ja_okT mJ_112 (by decide +kernel) (by decide +kernel) (by decide +kernel) t_l0 rfl (fun t1 => ?_)
    refine nk_getC (f := (4, 2, 48)) (x := 613) (len := 3) (ci := 12) (k := 52) (pc' := 14) ja_okT mJ_112 (by decide +kernel) (by decide +kernel) (by decide +kernel) (by decide) t1 rfl ?_
    have t2 : nk_ar ja_Tt (ja_c (S.2 l0 0) 52) = some (2, 48) := nk_ta ja_okT t1 (by decide +kernel)
    refine nk_p (i := .aload_n 0) (len := 1) (pc' := 15) mJ_112 (by decide +kernel) (ns_aload_n 0 rfl rfl) rfl ?_
    refine nk_getM (cj := 12) (z := 0) (x := 12) (len := 3) (ci := 13) (k := 0) (pc' := 18) ja_okT mJ_112 (by decide +kernel) (by decide +kernel) (by decide +kernel) t_l0 rfl (fun t3 => ?_)
    refine nk_getI (y := (0, 0)) (x := 453) (len := 3) (ci := 12) (k := 6) (pc' := 21) ja_okT mJ_112 (by decide +kernel) (by decide +kernel) (by decide +kernel) t3 rfl ?_
    obtain ⟨h4, hr⟩ := nk_cke hr
    refine nk_lald (len := 1) (N := 48) (pc' := 22) mJ_112 (by decide +kernel) t2 h4.1 h4.2 rfl rfl ?_
    refine nk_p (i := .goto 4) (len := 3) (pc' := 26) mJ_112 (by decide +kernel) (ns_goto (by decide +kernel)) rfl ?_
    cases hr
    exact nk_lret (len := 1) mJ_112 (by decide +kernel) rfl
/-! SafeCodeModel isCode (I)Z -/
noncomputable def ja_X13_isCode (l0 : Nat) (l1 : Int) (S : nk_S) : Option (Int × nk_S) :=
  if (S.1 l0 2) = 0 then
    some (0, S)
  else
    if l1 < 0 then
      some (0, S)
    else
      if (S.1 (S.2 l0 0) 3) ≤ l1 then
        some (0, S)
      else
        some (1, S)
theorem ja_X13_isCode_ok (zs : List Int32) : ∀ (l0 : Nat) (l1 : Int) (S : nk_S) (R : Int × nk_S), nk_cl ja_Tt l0 = some 13 → ja_X13_isCode l0 l1 S = some R → nk_K ja_Tt mi_Γ (mi_ev zs) 1 146 0 [(0, nk_r l0), (1, nk_i l1)] [] S R := by
  intro l0 l1 S R t_l0 hr
  unfold ja_X13_isCode at hr
  refine nk_p (i := .aload_n 0) (len := 1) (pc' := 1) mJ_146 (by decide +kernel) (ns_aload_n 0 rfl rfl) rfl ?_
  refine nk_getI (y := (0, 0)) (x := 794) (len := 3) (ci := 13) (k := 2) (pc' := 4) ja_okT mJ_146 (by decide +kernel) (by decide +kernel) (by decide +kernel) t_l0 rfl ?_
  refine nk_icond (c := .eq) (off := 22) (len := 3) (t := 26) (pc' := 7) mJ_146 (by decide +kernel) (by decide +kernel) rfl (fun hc => ?_) (fun hc => ?_)
  · have hr := nk_ifp (c := (S.1 l0 2) = 0) hc hr
    refine nk_p (i := .iconst 0) (len := 1) (pc' := 27) mJ_146 (by decide +kernel) (ns_iconst (c := 0) (by decide +kernel)) rfl ?_
    cases hr
    exact nk_iret (ty := .boolean) (len := 1) mJ_146 (by decide +kernel) rfl (nk_nar_z (by decide))
  · have hr := nk_ifn (c := (S.1 l0 2) = 0) hc hr
    refine nk_p (i := .iload_n 1) (len := 1) (pc' := 8) mJ_146 (by decide +kernel) (ns_iload_n 1 rfl rfl) rfl ?_
    refine nk_icond (c := .lt) (off := 18) (len := 3) (t := 26) (pc' := 11) mJ_146 (by decide +kernel) (by decide +kernel) rfl (fun hc => ?_) (fun hc => ?_)
    · have hr := nk_ifp (c := l1 < 0) hc hr
      refine nk_p (i := .iconst 0) (len := 1) (pc' := 27) mJ_146 (by decide +kernel) (ns_iconst (c := 0) (by decide +kernel)) rfl ?_
      cases hr
      exact nk_iret (ty := .boolean) (len := 1) mJ_146 (by decide +kernel) rfl (nk_nar_z (by decide))
    · have hr := nk_ifn (c := l1 < 0) hc hr
      refine nk_p (i := .iload_n 1) (len := 1) (pc' := 12) mJ_146 (by decide +kernel) (ns_iload_n 1 rfl rfl) rfl ?_
      refine nk_p (i := .aload_n 0) (len := 1) (pc' := 13) mJ_146 (by decide +kernel) (ns_aload_n 0 rfl rfl) rfl ?_
      refine nk_getM (cj := 12) (z := 0) (x := 12) (len := 3) (ci := 13) (k := 0) (pc' := 16) ja_okT mJ_146 (by decide +kernel) (by decide +kernel) (by decide +kernel) t_l0 rfl (fun t1 => ?_)
      refine nk_getI (y := (0, 0)) (x := 353) (len := 3) (ci := 12) (k := 3) (pc' := 19) ja_okT mJ_146 (by decide +kernel) (by decide +kernel) (by decide +kernel) t1 rfl ?_
      refine nk_icmp (c := .ge) (off := 7) (len := 3) (t := 26) (pc' := 22) mJ_146 (by decide +kernel) (by decide +kernel) rfl (fun hc => ?_) (fun hc => ?_)
      · have hr := nk_ifp (c := (S.1 (S.2 l0 0) 3) ≤ l1) hc hr
        refine nk_p (i := .iconst 0) (len := 1) (pc' := 27) mJ_146 (by decide +kernel) (ns_iconst (c := 0) (by decide +kernel)) rfl ?_
        cases hr
        exact nk_iret (ty := .boolean) (len := 1) mJ_146 (by decide +kernel) rfl (nk_nar_z (by decide))
      · have hr := nk_ifn (c := (S.1 (S.2 l0 0) 3) ≤ l1) hc hr
        refine nk_p (i := .iconst 1) (len := 1) (pc' := 23) mJ_146 (by decide +kernel) (ns_iconst (c := 1) (by decide +kernel)) rfl ?_
        refine nk_p (i := .goto 4) (len := 3) (pc' := 27) mJ_146 (by decide +kernel) (ns_goto (by decide +kernel)) rfl ?_
        cases hr
        exact nk_iret (ty := .boolean) (len := 1) mJ_146 (by decide +kernel) rfl (nk_nar_z (by decide))
/-! SafeCodeModel errors (I)I -/
noncomputable def ja_X13_errors (l0 : Nat) (l1 : Int) (S : nk_S) : Option (Int × nk_S) :=
  nk_bd (ja_X13_isCode l0 l1 S) fun r1 S2 =>
  if r1 = 0 then
    some ((-1), S2)
  else
    if 0 ≤ l1 ∧ l1 < 1024 then
    some ((S2.1 (ja_c (S2.2 l0 0) 44) l1.toNat), S2)
    else none
theorem ja_X13_errors_ok (zs : List Int32) : ∀ (l0 : Nat) (l1 : Int) (S : nk_S) (R : Int × nk_S), nk_cl ja_Tt l0 = some 13 → ja_X13_errors l0 l1 S = some R → nk_K ja_Tt mi_Γ (mi_ev zs) 1 114 0 [(0, nk_r l0), (1, nk_i l1)] [] S R := by
  intro l0 l1 S R t_l0 hr
  unfold ja_X13_errors at hr
  refine nk_p (i := .aload_n 0) (len := 1) (pc' := 1) mJ_114 (by decide +kernel) (ns_aload_n 0 rfl rfl) rfl ?_
  refine nk_p (i := .iload_n 1) (len := 1) (pc' := 2) mJ_114 (by decide +kernel) (ns_iload_n 1 rfl rfl) rfl ?_
  obtain ⟨r1, S2, h3, hr⟩ := nk_bde hr
  refine nk_callV (ci := 13) (n := 1) (x := 797) (len := 3) (j' := 146) (q' := 1) (r := r1) (S' := S2) (L2 := [(0, nk_r l0), (1, nk_i l1)]) (rest := []) (st' := [nk_i r1]) (pc' := 5) mJ_114 (by decide +kernel) (by decide +kernel) rfl rfl t_l0 (Nat.le_of_ble_eq_true rfl) mJ_146 (Nat.le_of_ble_eq_true rfl) rfl (ja_X13_isCode_ok zs _ _ _ _ t_l0 h3) rfl ?_
  refine nk_icond (c := .eq) (off := 15) (len := 3) (t := 20) (pc' := 8) mJ_114 (by decide +kernel) (by decide +kernel) rfl (fun hc => ?_) (fun hc => ?_)
  · have hr := nk_ifp (c := r1 = 0) hc hr
    refine nk_p (i := .iconst (-1)) (len := 1) (pc' := 21) mJ_114 (by decide +kernel) (ns_iconst (c := (-1)) (by decide +kernel)) rfl ?_
    cases hr
    exact nk_iret (ty := .int) (len := 1) mJ_114 (by decide +kernel) rfl (nk_nar_i _)
  · have hr := nk_ifn (c := r1 = 0) hc hr
    refine nk_p (i := .aload_n 0) (len := 1) (pc' := 9) mJ_114 (by decide +kernel) (ns_aload_n 0 rfl rfl) rfl ?_
    refine nk_getM (cj := 12) (z := 0) (x := 12) (len := 3) (ci := 13) (k := 0) (pc' := 12) ja_okT mJ_114 (by decide +kernel) (by decide +kernel) (by decide +kernel) t_l0 rfl (fun t4 => ?_)
    refine nk_getC (f := (4, 1, 1024)) (x := 601) (len := 3) (ci := 12) (k := 44) (pc' := 15) ja_okT mJ_114 (by decide +kernel) (by decide +kernel) (by decide +kernel) (by decide) t4 rfl ?_
    have t5 : nk_ar ja_Tt (ja_c (S2.2 l0 0) 44) = some (1, 1024) := nk_ta ja_okT t4 (by decide +kernel)
    refine nk_p (i := .iload_n 1) (len := 1) (pc' := 16) mJ_114 (by decide +kernel) (ns_iload_n 1 rfl rfl) rfl ?_
    obtain ⟨h6, hr⟩ := nk_cke hr
    refine nk_iald (len := 1) (N := 1024) (pc' := 17) mJ_114 (by decide +kernel) t5 h6.1 h6.2 rfl rfl ?_
    refine nk_p (i := .goto 4) (len := 3) (pc' := 21) mJ_114 (by decide +kernel) (ns_goto (by decide +kernel)) rfl ?_
    cases hr
    exact nk_iret (ty := .int) (len := 1) mJ_114 (by decide +kernel) rfl (nk_nar_i _)
/-! SafeCodeModel escapes (I)J -/
noncomputable def ja_X13_escapes (l0 : Nat) (l1 : Int) (S : nk_S) : Option (Int × nk_S) :=
  nk_bd (ja_X13_isCode l0 l1 S) fun r1 S2 =>
  if r1 = 0 then
    some (0, S2)
  else
    if 0 ≤ l1 ∧ l1 < 1024 then
    some ((S2.1 (ja_c (S2.2 l0 0) 45) l1.toNat), S2)
    else none
theorem ja_X13_escapes_ok (zs : List Int32) : ∀ (l0 : Nat) (l1 : Int) (S : nk_S) (R : Int × nk_S), nk_cl ja_Tt l0 = some 13 → ja_X13_escapes l0 l1 S = some R → nk_K ja_Tt mi_Γ (mi_ev zs) 2 115 0 [(0, nk_r l0), (1, nk_i l1)] [] S R := by
  intro l0 l1 S R t_l0 hr
  unfold ja_X13_escapes at hr
  refine nk_p (i := .aload_n 0) (len := 1) (pc' := 1) mJ_115 (by decide +kernel) (ns_aload_n 0 rfl rfl) rfl ?_
  refine nk_p (i := .iload_n 1) (len := 1) (pc' := 2) mJ_115 (by decide +kernel) (ns_iload_n 1 rfl rfl) rfl ?_
  obtain ⟨r1, S2, h3, hr⟩ := nk_bde hr
  refine nk_callV (ci := 13) (n := 1) (x := 797) (len := 3) (j' := 146) (q' := 1) (r := r1) (S' := S2) (L2 := [(0, nk_r l0), (1, nk_i l1)]) (rest := []) (st' := [nk_i r1]) (pc' := 5) mJ_115 (by decide +kernel) (by decide +kernel) rfl rfl t_l0 (Nat.le_of_ble_eq_true rfl) mJ_146 (Nat.le_of_ble_eq_true rfl) rfl (ja_X13_isCode_ok zs _ _ _ _ t_l0 h3) rfl ?_
  refine nk_icond (c := .eq) (off := 15) (len := 3) (t := 20) (pc' := 8) mJ_115 (by decide +kernel) (by decide +kernel) rfl (fun hc => ?_) (fun hc => ?_)
  · have hr := nk_ifp (c := r1 = 0) hc hr
    refine nk_p (i := .lconst 0) (len := 1) (pc' := 21) mJ_115 (by decide +kernel) (ns_lconst (c := 0) (by decide +kernel)) rfl ?_
    cases hr
    exact nk_lret (len := 1) mJ_115 (by decide +kernel) rfl
  · have hr := nk_ifn (c := r1 = 0) hc hr
    refine nk_p (i := .aload_n 0) (len := 1) (pc' := 9) mJ_115 (by decide +kernel) (ns_aload_n 0 rfl rfl) rfl ?_
    refine nk_getM (cj := 12) (z := 0) (x := 12) (len := 3) (ci := 13) (k := 0) (pc' := 12) ja_okT mJ_115 (by decide +kernel) (by decide +kernel) (by decide +kernel) t_l0 rfl (fun t4 => ?_)
    refine nk_getC (f := (4, 2, 1024)) (x := 604) (len := 3) (ci := 12) (k := 45) (pc' := 15) ja_okT mJ_115 (by decide +kernel) (by decide +kernel) (by decide +kernel) (by decide) t4 rfl ?_
    have t5 : nk_ar ja_Tt (ja_c (S2.2 l0 0) 45) = some (2, 1024) := nk_ta ja_okT t4 (by decide +kernel)
    refine nk_p (i := .iload_n 1) (len := 1) (pc' := 16) mJ_115 (by decide +kernel) (ns_iload_n 1 rfl rfl) rfl ?_
    obtain ⟨h6, hr⟩ := nk_cke hr
    refine nk_lald (len := 1) (N := 1024) (pc' := 17) mJ_115 (by decide +kernel) t5 h6.1 h6.2 rfl rfl ?_
    refine nk_p (i := .goto 4) (len := 3) (pc' := 21) mJ_115 (by decide +kernel) (ns_goto (by decide +kernel)) rfl ?_
    cases hr
    exact nk_lret (len := 1) mJ_115 (by decide +kernel) rfl
/-! SafeCodeModel slot (II)I -/
noncomputable def ja_X13_slot (l0 : Nat) (l1 : Int) (l2 : Int) (S : nk_S) : Option (Int × nk_S) :=
  nk_bd (ja_X13_isCode l0 l1 S) fun r1 S2 =>
  if r1 = 0 then
    some ((-1), S2)
  else
    if 0 ≤ l1 ∧ l1 < 1024 then
    if (S2.1 (ja_c (S2.2 l0 0) 34) l1.toNat) = 0 then
      some ((-1), S2)
    else
      if l2 < 0 then
        some ((-1), S2)
      else
        if (nk_w (12 + (S2.1 (ja_c (S2.2 l0 0) 26) l1.toNat))) ≤ l2 then
          some ((-1), S2)
        else
          some ((nk_w ((nk_w (l1 * 20)) + l2)), S2)
    else none
theorem ja_X13_slot_ok (zs : List Int32) : ∀ (l0 : Nat) (l1 : Int) (l2 : Int) (S : nk_S) (R : Int × nk_S), nk_cl ja_Tt l0 = some 13 → ja_X13_slot l0 l1 l2 S = some R → nk_K ja_Tt mi_Γ (mi_ev zs) 1 227 0 [(0, nk_r l0), (1, nk_i l1), (2, nk_i l2)] [] S R := by
  intro l0 l1 l2 S R t_l0 hr
  unfold ja_X13_slot at hr
  refine nk_p (i := .aload_n 0) (len := 1) (pc' := 1) mJ_227 (by decide +kernel) (ns_aload_n 0 rfl rfl) rfl ?_
  refine nk_p (i := .iload_n 1) (len := 1) (pc' := 2) mJ_227 (by decide +kernel) (ns_iload_n 1 rfl rfl) rfl ?_
  obtain ⟨r1, S2, h3, hr⟩ := nk_bde hr
  refine nk_callV (ci := 13) (n := 1) (x := 797) (len := 3) (j' := 146) (q' := 1) (r := r1) (S' := S2) (L2 := [(0, nk_r l0), (1, nk_i l1)]) (rest := []) (st' := [nk_i r1]) (pc' := 5) mJ_227 (by decide +kernel) (by decide +kernel) rfl rfl t_l0 (Nat.le_of_ble_eq_true rfl) mJ_146 (Nat.le_of_ble_eq_true rfl) rfl (ja_X13_isCode_ok zs _ _ _ _ t_l0 h3) rfl ?_
  refine nk_icond (c := .eq) (off := 44) (len := 3) (t := 49) (pc' := 8) mJ_227 (by decide +kernel) (by decide +kernel) rfl (fun hc => ?_) (fun hc => ?_)
  · have hr := nk_ifp (c := r1 = 0) hc hr
    refine nk_p (i := .iconst (-1)) (len := 1) (pc' := 50) mJ_227 (by decide +kernel) (ns_iconst (c := (-1)) (by decide +kernel)) rfl ?_
    cases hr
    exact nk_iret (ty := .int) (len := 1) mJ_227 (by decide +kernel) rfl (nk_nar_i _)
  · have hr := nk_ifn (c := r1 = 0) hc hr
    refine nk_p (i := .aload_n 0) (len := 1) (pc' := 9) mJ_227 (by decide +kernel) (ns_aload_n 0 rfl rfl) rfl ?_
    refine nk_getM (cj := 12) (z := 0) (x := 12) (len := 3) (ci := 13) (k := 0) (pc' := 12) ja_okT mJ_227 (by decide +kernel) (by decide +kernel) (by decide +kernel) t_l0 rfl (fun t4 => ?_)
    refine nk_getC (f := (4, 3, 1024)) (x := 539) (len := 3) (ci := 12) (k := 34) (pc' := 15) ja_okT mJ_227 (by decide +kernel) (by decide +kernel) (by decide +kernel) (by decide) t4 rfl ?_
    have t5 : nk_ar ja_Tt (ja_c (S2.2 l0 0) 34) = some (3, 1024) := nk_ta ja_okT t4 (by decide +kernel)
    refine nk_p (i := .iload_n 1) (len := 1) (pc' := 16) mJ_227 (by decide +kernel) (ns_iload_n 1 rfl rfl) rfl ?_
    obtain ⟨h6, hr⟩ := nk_cke hr
    refine nk_bald (t := 3) (len := 1) (N := 1024) (pc' := 17) mJ_227 (by decide +kernel) t5 (by decide) h6.1 h6.2 rfl rfl ?_
    refine nk_icond (c := .eq) (off := 32) (len := 3) (t := 49) (pc' := 20) mJ_227 (by decide +kernel) (by decide +kernel) rfl (fun hc => ?_) (fun hc => ?_)
    · have hr := nk_ifp (c := (S2.1 (ja_c (S2.2 l0 0) 34) l1.toNat) = 0) hc hr
      refine nk_p (i := .iconst (-1)) (len := 1) (pc' := 50) mJ_227 (by decide +kernel) (ns_iconst (c := (-1)) (by decide +kernel)) rfl ?_
      cases hr
      exact nk_iret (ty := .int) (len := 1) mJ_227 (by decide +kernel) rfl (nk_nar_i _)
    · have hr := nk_ifn (c := (S2.1 (ja_c (S2.2 l0 0) 34) l1.toNat) = 0) hc hr
      refine nk_p (i := .iload_n 2) (len := 1) (pc' := 21) mJ_227 (by decide +kernel) (ns_iload_n 2 rfl rfl) rfl ?_
      refine nk_icond (c := .lt) (off := 28) (len := 3) (t := 49) (pc' := 24) mJ_227 (by decide +kernel) (by decide +kernel) rfl (fun hc => ?_) (fun hc => ?_)
      · have hr := nk_ifp (c := l2 < 0) hc hr
        refine nk_p (i := .iconst (-1)) (len := 1) (pc' := 50) mJ_227 (by decide +kernel) (ns_iconst (c := (-1)) (by decide +kernel)) rfl ?_
        cases hr
        exact nk_iret (ty := .int) (len := 1) mJ_227 (by decide +kernel) rfl (nk_nar_i _)
      · have hr := nk_ifn (c := l2 < 0) hc hr
        refine nk_p (i := .iload_n 2) (len := 1) (pc' := 25) mJ_227 (by decide +kernel) (ns_iload_n 2 rfl rfl) rfl ?_
        refine nk_p (i := .bipush 12) (len := 2) (pc' := 27) mJ_227 (by decide +kernel) (ns_bipush (c := 12) (by decide +kernel)) rfl ?_
        refine nk_p (i := .aload_n 0) (len := 1) (pc' := 28) mJ_227 (by decide +kernel) (ns_aload_n 0 rfl rfl) rfl ?_
        refine nk_getM (cj := 12) (z := 0) (x := 12) (len := 3) (ci := 13) (k := 0) (pc' := 31) ja_okT mJ_227 (by decide +kernel) (by decide +kernel) (by decide +kernel) t_l0 rfl (fun t7 => ?_)
        refine nk_getC (f := (4, 1, 1024)) (x := 474) (len := 3) (ci := 12) (k := 26) (pc' := 34) ja_okT mJ_227 (by decide +kernel) (by decide +kernel) (by decide +kernel) (by decide) t7 rfl ?_
        have t8 : nk_ar ja_Tt (ja_c (S2.2 l0 0) 26) = some (1, 1024) := nk_ta ja_okT t7 (by decide +kernel)
        refine nk_p (i := .iload_n 1) (len := 1) (pc' := 35) mJ_227 (by decide +kernel) (ns_iload_n 1 rfl rfl) rfl ?_
        refine nk_iald (len := 1) (N := 1024) (pc' := 36) mJ_227 (by decide +kernel) t8 h6.1 h6.2 rfl rfl ?_
        refine nk_p (i := .iadd) (len := 1) (pc' := 37) mJ_227 (by decide +kernel) ns_iadd rfl ?_
        refine nk_icmp (c := .ge) (off := 12) (len := 3) (t := 49) (pc' := 40) mJ_227 (by decide +kernel) (by decide +kernel) rfl (fun hc => ?_) (fun hc => ?_)
        · have hr := nk_ifp (c := (nk_w (12 + (S2.1 (ja_c (S2.2 l0 0) 26) l1.toNat))) ≤ l2) hc hr
          refine nk_p (i := .iconst (-1)) (len := 1) (pc' := 50) mJ_227 (by decide +kernel) (ns_iconst (c := (-1)) (by decide +kernel)) rfl ?_
          cases hr
          exact nk_iret (ty := .int) (len := 1) mJ_227 (by decide +kernel) rfl (nk_nar_i _)
        · have hr := nk_ifn (c := (nk_w (12 + (S2.1 (ja_c (S2.2 l0 0) 26) l1.toNat))) ≤ l2) hc hr
          refine nk_p (i := .iload_n 1) (len := 1) (pc' := 41) mJ_227 (by decide +kernel) (ns_iload_n 1 rfl rfl) rfl ?_
          refine nk_p (i := .bipush 20) (len := 2) (pc' := 43) mJ_227 (by decide +kernel) (ns_bipush (c := 20) (by decide +kernel)) rfl ?_
          refine nk_p (i := .imul) (len := 1) (pc' := 44) mJ_227 (by decide +kernel) ns_imul rfl ?_
          refine nk_p (i := .iload_n 2) (len := 1) (pc' := 45) mJ_227 (by decide +kernel) (ns_iload_n 2 rfl rfl) rfl ?_
          refine nk_p (i := .iadd) (len := 1) (pc' := 46) mJ_227 (by decide +kernel) ns_iadd rfl ?_
          refine nk_p (i := .goto 4) (len := 3) (pc' := 50) mJ_227 (by decide +kernel) (ns_goto (by decide +kernel)) rfl ?_
          cases hr
          exact nk_iret (ty := .int) (len := 1) mJ_227 (by decide +kernel) rfl (nk_nar_i _)
/-! SafeCodeModel fact (III)I -/
noncomputable def ja_X13_fact (l0 : Nat) (l1 : Int) (l2 : Int) (l3 : Int) (S : nk_S) : Option (Int × nk_S) :=
  nk_bd (ja_X13_slot l0 l1 l2 S) fun r1 S2 =>
  if 0 ≤ r1 then
    if l3 = 0 then
      if 0 ≤ r1 ∧ r1 < 20480 then
      some ((S2.1 (ja_c (S2.2 l0 0) 39) r1.toNat), S2)
      else none
    else
    if l3 = 1 then
      if 0 ≤ r1 ∧ r1 < 20480 then
      some ((S2.1 (ja_c (S2.2 l0 0) 40) r1.toNat), S2)
      else none
    else
    if l3 = 2 then
      if 0 ≤ r1 ∧ r1 < 20480 then
      some ((S2.1 (ja_c (S2.2 l0 0) 41) r1.toNat), S2)
      else none
    else
    if l3 = 3 then
      if 0 ≤ r1 ∧ r1 < 20480 then
      some ((S2.1 (ja_c (S2.2 l0 0) 42) r1.toNat), S2)
      else none
    else
    if l3 = 4 then
      if 0 ≤ r1 ∧ r1 < 20480 then
      some ((S2.1 (ja_c (S2.2 l0 0) 43) r1.toNat), S2)
      else none
    else
    some (0, S2)
  else
    if l3 = 0 then
      some ((-1), S2)
    else
      some (0, S2)
theorem ja_X13_fact_ok (zs : List Int32) : ∀ (l0 : Nat) (l1 : Int) (l2 : Int) (l3 : Int) (S : nk_S) (R : Int × nk_S), nk_cl ja_Tt l0 = some 13 → ja_X13_fact l0 l1 l2 l3 S = some R → nk_K ja_Tt mi_Γ (mi_ev zs) 1 116 0 [(0, nk_r l0), (1, nk_i l1), (2, nk_i l2), (3, nk_i l3)] [] S R := by
  intro l0 l1 l2 l3 S R t_l0 hr
  unfold ja_X13_fact at hr
  refine nk_p (i := .aload_n 0) (len := 1) (pc' := 1) mJ_116 (by decide +kernel) (ns_aload_n 0 rfl rfl) rfl ?_
  refine nk_p (i := .iload_n 1) (len := 1) (pc' := 2) mJ_116 (by decide +kernel) (ns_iload_n 1 rfl rfl) rfl ?_
  refine nk_p (i := .iload_n 2) (len := 1) (pc' := 3) mJ_116 (by decide +kernel) (ns_iload_n 2 rfl rfl) rfl ?_
  obtain ⟨r1, S2, h3, hr⟩ := nk_bde hr
  refine nk_callV (ci := 13) (n := 2) (x := 800) (len := 3) (j' := 227) (q' := 1) (r := r1) (S' := S2) (L2 := [(0, nk_r l0), (1, nk_i l1), (2, nk_i l2)]) (rest := []) (st' := [nk_i r1]) (pc' := 6) mJ_116 (by decide +kernel) (by decide +kernel) rfl rfl t_l0 (Nat.le_of_ble_eq_true rfl) mJ_227 (Nat.le_of_ble_eq_true rfl) rfl (ja_X13_slot_ok zs _ _ _ _ _ t_l0 h3) rfl ?_
  refine nk_p (i := .istore 4) (len := 2) (pc' := 8) mJ_116 (by decide +kernel) (ns_istore (L' := [(4, nk_i r1), (0, nk_r l0), (1, nk_i l1), (2, nk_i l2), (3, nk_i l3)]) rfl rfl (by decide +kernel)) rfl ?_
  refine nk_p (i := .iload 4) (len := 2) (pc' := 10) mJ_116 (by decide +kernel) (ns_iload 0 rfl) rfl ?_
  refine nk_icond (c := .ge) (off := 13) (len := 3) (t := 23) (pc' := 13) mJ_116 (by decide +kernel) (by decide +kernel) rfl (fun hc => ?_) (fun hc => ?_)
  · have hr := nk_ifp (c := 0 ≤ r1) hc hr
    refine nk_p (i := .iload_n 3) (len := 1) (pc' := 24) mJ_116 (by decide +kernel) (ns_iload_n 4 rfl rfl) rfl ?_
    by_cases hc0 : l3 = 0
    · have hr := nk_ifp hc0 hr
      refine nk_p (i := .tableswitch 91 0 4 #[36, 47, 58, 69, 80]) (len := 36) (pc' := 60) mJ_116 (by decide +kernel) (ns_tsw (V := 0) hc0 (by decide +kernel)) rfl ?_
      refine nk_p (i := .aload_n 0) (len := 1) (pc' := 61) mJ_116 (by decide +kernel) (ns_aload_n 1 rfl rfl) rfl ?_
      refine nk_getM (cj := 12) (z := 0) (x := 12) (len := 3) (ci := 13) (k := 0) (pc' := 64) ja_okT mJ_116 (by decide +kernel) (by decide +kernel) (by decide +kernel) t_l0 rfl (fun t4 => ?_)
      refine nk_getC (f := (4, 0, 20480)) (x := 533) (len := 3) (ci := 12) (k := 39) (pc' := 67) ja_okT mJ_116 (by decide +kernel) (by decide +kernel) (by decide +kernel) (by decide) t4 rfl ?_
      have t5 : nk_ar ja_Tt (ja_c (S2.2 l0 0) 39) = some (0, 20480) := nk_ta ja_okT t4 (by decide +kernel)
      refine nk_p (i := .iload 4) (len := 2) (pc' := 69) mJ_116 (by decide +kernel) (ns_iload 0 rfl) rfl ?_
      obtain ⟨h6, hr⟩ := nk_cke hr
      refine nk_bald (t := 0) (len := 1) (N := 20480) (pc' := 70) mJ_116 (by decide +kernel) t5 (by decide) h6.1 h6.2 rfl rfl ?_
      cases hr
      exact nk_iret (ty := .int) (len := 1) mJ_116 (by decide +kernel) rfl (nk_nar_i _)
    have hr := nk_ifn hc0 hr
    by_cases hc1 : l3 = 1
    · have hr := nk_ifp hc1 hr
      refine nk_p (i := .tableswitch 91 0 4 #[36, 47, 58, 69, 80]) (len := 36) (pc' := 71) mJ_116 (by decide +kernel) (ns_tsw (V := 1) hc1 (by decide +kernel)) rfl ?_
      refine nk_p (i := .aload_n 0) (len := 1) (pc' := 72) mJ_116 (by decide +kernel) (ns_aload_n 1 rfl rfl) rfl ?_
      refine nk_getM (cj := 12) (z := 0) (x := 12) (len := 3) (ci := 13) (k := 0) (pc' := 75) ja_okT mJ_116 (by decide +kernel) (by decide +kernel) (by decide +kernel) t_l0 rfl (fun t7 => ?_)
      refine nk_getC (f := (4, 1, 20480)) (x := 535) (len := 3) (ci := 12) (k := 40) (pc' := 78) ja_okT mJ_116 (by decide +kernel) (by decide +kernel) (by decide +kernel) (by decide) t7 rfl ?_
      have t8 : nk_ar ja_Tt (ja_c (S2.2 l0 0) 40) = some (1, 20480) := nk_ta ja_okT t7 (by decide +kernel)
      refine nk_p (i := .iload 4) (len := 2) (pc' := 80) mJ_116 (by decide +kernel) (ns_iload 0 rfl) rfl ?_
      obtain ⟨h9, hr⟩ := nk_cke hr
      refine nk_iald (len := 1) (N := 20480) (pc' := 81) mJ_116 (by decide +kernel) t8 h9.1 h9.2 rfl rfl ?_
      cases hr
      exact nk_iret (ty := .int) (len := 1) mJ_116 (by decide +kernel) rfl (nk_nar_i _)
    have hr := nk_ifn hc1 hr
    by_cases hc2 : l3 = 2
    · have hr := nk_ifp hc2 hr
      refine nk_p (i := .tableswitch 91 0 4 #[36, 47, 58, 69, 80]) (len := 36) (pc' := 82) mJ_116 (by decide +kernel) (ns_tsw (V := 2) hc2 (by decide +kernel)) rfl ?_
      refine nk_p (i := .aload_n 0) (len := 1) (pc' := 83) mJ_116 (by decide +kernel) (ns_aload_n 1 rfl rfl) rfl ?_
      refine nk_getM (cj := 12) (z := 0) (x := 12) (len := 3) (ci := 13) (k := 0) (pc' := 86) ja_okT mJ_116 (by decide +kernel) (by decide +kernel) (by decide +kernel) t_l0 rfl (fun t10 => ?_)
      refine nk_getC (f := (4, 1, 20480)) (x := 536) (len := 3) (ci := 12) (k := 41) (pc' := 89) ja_okT mJ_116 (by decide +kernel) (by decide +kernel) (by decide +kernel) (by decide) t10 rfl ?_
      have t11 : nk_ar ja_Tt (ja_c (S2.2 l0 0) 41) = some (1, 20480) := nk_ta ja_okT t10 (by decide +kernel)
      refine nk_p (i := .iload 4) (len := 2) (pc' := 91) mJ_116 (by decide +kernel) (ns_iload 0 rfl) rfl ?_
      obtain ⟨h12, hr⟩ := nk_cke hr
      refine nk_iald (len := 1) (N := 20480) (pc' := 92) mJ_116 (by decide +kernel) t11 h12.1 h12.2 rfl rfl ?_
      cases hr
      exact nk_iret (ty := .int) (len := 1) mJ_116 (by decide +kernel) rfl (nk_nar_i _)
    have hr := nk_ifn hc2 hr
    by_cases hc3 : l3 = 3
    · have hr := nk_ifp hc3 hr
      refine nk_p (i := .tableswitch 91 0 4 #[36, 47, 58, 69, 80]) (len := 36) (pc' := 93) mJ_116 (by decide +kernel) (ns_tsw (V := 3) hc3 (by decide +kernel)) rfl ?_
      refine nk_p (i := .aload_n 0) (len := 1) (pc' := 94) mJ_116 (by decide +kernel) (ns_aload_n 1 rfl rfl) rfl ?_
      refine nk_getM (cj := 12) (z := 0) (x := 12) (len := 3) (ci := 13) (k := 0) (pc' := 97) ja_okT mJ_116 (by decide +kernel) (by decide +kernel) (by decide +kernel) t_l0 rfl (fun t13 => ?_)
      refine nk_getC (f := (4, 1, 20480)) (x := 537) (len := 3) (ci := 12) (k := 42) (pc' := 100) ja_okT mJ_116 (by decide +kernel) (by decide +kernel) (by decide +kernel) (by decide) t13 rfl ?_
      have t14 : nk_ar ja_Tt (ja_c (S2.2 l0 0) 42) = some (1, 20480) := nk_ta ja_okT t13 (by decide +kernel)
      refine nk_p (i := .iload 4) (len := 2) (pc' := 102) mJ_116 (by decide +kernel) (ns_iload 0 rfl) rfl ?_
      obtain ⟨h15, hr⟩ := nk_cke hr
      refine nk_iald (len := 1) (N := 20480) (pc' := 103) mJ_116 (by decide +kernel) t14 h15.1 h15.2 rfl rfl ?_
      cases hr
      exact nk_iret (ty := .int) (len := 1) mJ_116 (by decide +kernel) rfl (nk_nar_i _)
    have hr := nk_ifn hc3 hr
    by_cases hc4 : l3 = 4
    · have hr := nk_ifp hc4 hr
      refine nk_p (i := .tableswitch 91 0 4 #[36, 47, 58, 69, 80]) (len := 36) (pc' := 104) mJ_116 (by decide +kernel) (ns_tsw (V := 4) hc4 (by decide +kernel)) rfl ?_
      refine nk_p (i := .aload_n 0) (len := 1) (pc' := 105) mJ_116 (by decide +kernel) (ns_aload_n 1 rfl rfl) rfl ?_
      refine nk_getM (cj := 12) (z := 0) (x := 12) (len := 3) (ci := 13) (k := 0) (pc' := 108) ja_okT mJ_116 (by decide +kernel) (by decide +kernel) (by decide +kernel) t_l0 rfl (fun t16 => ?_)
      refine nk_getC (f := (4, 1, 20480)) (x := 538) (len := 3) (ci := 12) (k := 43) (pc' := 111) ja_okT mJ_116 (by decide +kernel) (by decide +kernel) (by decide +kernel) (by decide) t16 rfl ?_
      have t17 : nk_ar ja_Tt (ja_c (S2.2 l0 0) 43) = some (1, 20480) := nk_ta ja_okT t16 (by decide +kernel)
      refine nk_p (i := .iload 4) (len := 2) (pc' := 113) mJ_116 (by decide +kernel) (ns_iload 0 rfl) rfl ?_
      obtain ⟨h18, hr⟩ := nk_cke hr
      refine nk_iald (len := 1) (N := 20480) (pc' := 114) mJ_116 (by decide +kernel) t17 h18.1 h18.2 rfl rfl ?_
      cases hr
      exact nk_iret (ty := .int) (len := 1) mJ_116 (by decide +kernel) rfl (nk_nar_i _)
    have hr := nk_ifn hc4 hr
    refine nk_p (i := .tableswitch 91 0 4 #[36, 47, 58, 69, 80]) (len := 36) (pc' := 115) mJ_116 (by decide +kernel) (ns_tsd (by omega) (by decide +kernel)) rfl ?_
    refine nk_p (i := .iconst 0) (len := 1) (pc' := 116) mJ_116 (by decide +kernel) (ns_iconst (c := 0) (by decide +kernel)) rfl ?_
    cases hr
    exact nk_iret (ty := .int) (len := 1) mJ_116 (by decide +kernel) rfl (nk_nar_i _)
  · have hr := nk_ifn (c := 0 ≤ r1) hc hr
    refine nk_p (i := .iload_n 3) (len := 1) (pc' := 14) mJ_116 (by decide +kernel) (ns_iload_n 4 rfl rfl) rfl ?_
    refine nk_icond (c := .ne) (off := 7) (len := 3) (t := 21) (pc' := 17) mJ_116 (by decide +kernel) (by decide +kernel) rfl (fun hc => ?_) (fun hc => ?_)
    · have hr := nk_ifn (c := l3 = 0) hc hr
      refine nk_p (i := .iconst 0) (len := 1) (pc' := 22) mJ_116 (by decide +kernel) (ns_iconst (c := 0) (by decide +kernel)) rfl ?_
      cases hr
      exact nk_iret (ty := .int) (len := 1) mJ_116 (by decide +kernel) rfl (nk_nar_i _)
    · have hr := nk_ifp (c := l3 = 0) (Decidable.of_not_not hc) hr
      refine nk_p (i := .iconst (-1)) (len := 1) (pc' := 18) mJ_116 (by decide +kernel) (ns_iconst (c := (-1)) (by decide +kernel)) rfl ?_
      refine nk_p (i := .goto 4) (len := 3) (pc' := 22) mJ_116 (by decide +kernel) (ns_goto (by decide +kernel)) rfl ?_
      cases hr
      exact nk_iret (ty := .int) (len := 1) mJ_116 (by decide +kernel) rfl (nk_nar_i _)
/-! SafeCodeModel takes (Z)Z -/
noncomputable def ja_X13_takes (l0 : Nat) (l1 : Int) (S : nk_S) : Option (Int × nk_S) :=
  if l1 = 0 then
    if l1 = 0 ∨ l1 = 1 then
    some (l1, S)
    else none
  else
    nk_lt (nk_wi S l0 11 (nk_w ((S.1 l0 11) + 1))) fun S2 =>
    if l1 = 0 ∨ l1 = 1 then
    some (l1, S2)
    else none
theorem ja_X13_takes_ok (zs : List Int32) : ∀ (l0 : Nat) (l1 : Int) (S : nk_S) (R : Int × nk_S), nk_cl ja_Tt l0 = some 13 → ja_X13_takes l0 l1 S = some R → nk_K ja_Tt mi_Γ (mi_ev zs) 1 231 0 [(0, nk_r l0), (1, nk_i l1)] [] S R := by
  intro l0 l1 S R t_l0 hr
  unfold ja_X13_takes at hr
  refine nk_p (i := .iload_n 1) (len := 1) (pc' := 1) mJ_231 (by decide +kernel) (ns_iload_n 1 rfl rfl) rfl ?_
  refine nk_icond (c := .eq) (off := 13) (len := 3) (t := 14) (pc' := 4) mJ_231 (by decide +kernel) (by decide +kernel) rfl (fun hc => ?_) (fun hc => ?_)
  · have hr := nk_ifp (c := l1 = 0) hc hr
    refine nk_p (i := .iload_n 1) (len := 1) (pc' := 15) mJ_231 (by decide +kernel) (ns_iload_n 1 rfl rfl) rfl ?_
    obtain ⟨h1, hr⟩ := nk_cke hr
    cases hr
    exact nk_iret (ty := .boolean) (len := 1) mJ_231 (by decide +kernel) rfl (nk_nar_z h1)
  · have hr := nk_ifn (c := l1 = 0) hc hr
    refine nk_p (i := .aload_n 0) (len := 1) (pc' := 5) mJ_231 (by decide +kernel) (ns_aload_n 0 rfl rfl) rfl ?_
    refine nk_p (i := .dup) (len := 1) (pc' := 6) mJ_231 (by decide +kernel) (ns_dup rfl) rfl ?_
    refine nk_getI (y := (0, 0)) (x := 194) (len := 3) (ci := 13) (k := 11) (pc' := 9) ja_okT mJ_231 (by decide +kernel) (by decide +kernel) (by decide +kernel) t_l0 rfl ?_
    refine nk_p (i := .iconst 1) (len := 1) (pc' := 10) mJ_231 (by decide +kernel) (ns_iconst (c := 1) (by decide +kernel)) rfl ?_
    refine nk_p (i := .iadd) (len := 1) (pc' := 11) mJ_231 (by decide +kernel) ns_iadd rfl ?_
    obtain ⟨S2, h3, hr⟩ := nk_lte hr
    refine nk_putI (y := (0, 0)) (ty := .int) (x := 194) (len := 3) (ci := 13) (k := 11) (pc' := 14) ja_okT mJ_231 (by decide +kernel) (by decide +kernel) (by decide +kernel) t_l0 (Or.inl rfl) rfl h3 ?_
    refine nk_p (i := .iload_n 1) (len := 1) (pc' := 15) mJ_231 (by decide +kernel) (ns_iload_n 1 rfl rfl) rfl ?_
    obtain ⟨h4, hr⟩ := nk_cke hr
    cases hr
    exact nk_iret (ty := .boolean) (len := 1) mJ_231 (by decide +kernel) rfl (nk_nar_z h4)
/-! SafeCodeModel isName (IIII)Z -/
noncomputable def ja_X13_isName_b96 (rec39 : Nat → Int → Int → nk_S → Option (Int × nk_S)) (l0 : Nat) (l2 : Int) (l5 : Int) (l6 : Int) (S : nk_S) : Option (Int × nk_S) :=
  if l6 = 95 then
    nk_lt (nk_w (l5 + 1)) fun v1 =>
    rec39 l0 l2 v1 S
  else
    some (0, S)
theorem ja_X13_isName_b96_ok (zs : List Int32) {rec39 : Nat → Int → Int → nk_S → Option (Int × nk_S)} (hrec39 : ∀ (l0 : Nat) (l2 : Int) (l5 : Int) (S : nk_S) (R : Int × nk_S), nk_cl ja_Tt l0 = some 13 → rec39 l0 l2 l5 S = some R → nk_K ja_Tt mi_Γ (mi_ev zs) 1 153 39 [(0, nk_r l0), (2, nk_i l2), (5, nk_i l5)] [] S R) : ∀ (l0 : Nat) (l2 : Int) (l5 : Int) (l6 : Int) (S : nk_S) (R : Int × nk_S), nk_cl ja_Tt l0 = some 13 → ja_X13_isName_b96 rec39 l0 l2 l5 l6 S = some R → nk_K ja_Tt mi_Γ (mi_ev zs) 1 153 96 [(0, nk_r l0), (2, nk_i l2), (5, nk_i l5), (6, nk_i l6)] [] S R := by
  intro l0 l2 l5 l6 S R t_l0 hr
  unfold ja_X13_isName_b96 at hr
  refine nk_p (i := .iload 6) (len := 2) (pc' := 98) mJ_153 (by decide +kernel) (ns_iload 3 rfl) rfl ?_
  refine nk_p (i := .bipush 95) (len := 2) (pc' := 100) mJ_153 (by decide +kernel) (ns_bipush (c := 95) (by decide +kernel)) rfl ?_
  refine nk_icmp (c := .eq) (off := 5) (len := 3) (t := 105) (pc' := 103) mJ_153 (by decide +kernel) (by decide +kernel) rfl (fun hc => ?_) (fun hc => ?_)
  · have hr := nk_ifp (c := l6 = 95) hc hr
    obtain ⟨v1, h2, hr⟩ := nk_lte hr
    refine nk_p (i := .iinc 5 1) (len := 3) (pc' := 108) mJ_153 (by decide +kernel) (ns_iinc (c := 1) (L' := [(5, nk_i v1), (0, nk_r l0), (2, nk_i l2), (6, nk_i l6)]) 2 rfl (by decide +kernel) h2 rfl (by decide +kernel)) rfl ?_
    refine nk_p (i := .goto (-69)) (len := 3) (pc' := 39) mJ_153 (by decide +kernel) (ns_goto (by decide +kernel)) rfl ?_
    refine nk_sub [1, 2, 0] (L' := [(0, nk_r l0), (2, nk_i l2), (5, nk_i v1)]) rfl ?_
    exact hrec39 _ _ _ _ _ t_l0 hr
  · have hr := nk_ifn (c := l6 = 95) hc hr
    refine nk_p (i := .iconst 0) (len := 1) (pc' := 104) mJ_153 (by decide +kernel) (ns_iconst (c := 0) (by decide +kernel)) rfl ?_
    cases hr
    exact nk_iret (ty := .boolean) (len := 1) mJ_153 (by decide +kernel) rfl (nk_nar_z (by decide))
noncomputable def ja_X13_isName_b82 (rec39 : Nat → Int → Int → nk_S → Option (Int × nk_S)) (l0 : Nat) (l2 : Int) (l5 : Int) (l6 : Int) (S : nk_S) : Option (Int × nk_S) :=
  if l6 < 48 then
    ja_X13_isName_b96 rec39 l0 l2 l5 l6 S
  else
    if l6 ≤ 57 then
      nk_lt (nk_w (l5 + 1)) fun v1 =>
      rec39 l0 l2 v1 S
    else
      ja_X13_isName_b96 rec39 l0 l2 l5 l6 S
theorem ja_X13_isName_b82_ok (zs : List Int32) {rec39 : Nat → Int → Int → nk_S → Option (Int × nk_S)} (hrec39 : ∀ (l0 : Nat) (l2 : Int) (l5 : Int) (S : nk_S) (R : Int × nk_S), nk_cl ja_Tt l0 = some 13 → rec39 l0 l2 l5 S = some R → nk_K ja_Tt mi_Γ (mi_ev zs) 1 153 39 [(0, nk_r l0), (2, nk_i l2), (5, nk_i l5)] [] S R) : ∀ (l0 : Nat) (l2 : Int) (l5 : Int) (l6 : Int) (S : nk_S) (R : Int × nk_S), nk_cl ja_Tt l0 = some 13 → ja_X13_isName_b82 rec39 l0 l2 l5 l6 S = some R → nk_K ja_Tt mi_Γ (mi_ev zs) 1 153 82 [(0, nk_r l0), (2, nk_i l2), (5, nk_i l5), (6, nk_i l6)] [] S R := by
  intro l0 l2 l5 l6 S R t_l0 hr
  unfold ja_X13_isName_b82 at hr
  refine nk_p (i := .iload 6) (len := 2) (pc' := 84) mJ_153 (by decide +kernel) (ns_iload 3 rfl) rfl ?_
  refine nk_p (i := .bipush 48) (len := 2) (pc' := 86) mJ_153 (by decide +kernel) (ns_bipush (c := 48) (by decide +kernel)) rfl ?_
  refine nk_icmp (c := .lt) (off := 10) (len := 3) (t := 96) (pc' := 89) mJ_153 (by decide +kernel) (by decide +kernel) rfl (fun hc => ?_) (fun hc => ?_)
  · have hr := nk_ifp (c := l6 < 48) hc hr
    exact ja_X13_isName_b96_ok zs hrec39 _ _ _ _ _ _ t_l0 hr
  · have hr := nk_ifn (c := l6 < 48) hc hr
    refine nk_p (i := .iload 6) (len := 2) (pc' := 91) mJ_153 (by decide +kernel) (ns_iload 3 rfl) rfl ?_
    refine nk_p (i := .bipush 57) (len := 2) (pc' := 93) mJ_153 (by decide +kernel) (ns_bipush (c := 57) (by decide +kernel)) rfl ?_
    refine nk_icmp (c := .le) (off := 12) (len := 3) (t := 105) (pc' := 96) mJ_153 (by decide +kernel) (by decide +kernel) rfl (fun hc => ?_) (fun hc => ?_)
    · have hr := nk_ifp (c := l6 ≤ 57) hc hr
      obtain ⟨v1, h2, hr⟩ := nk_lte hr
      refine nk_p (i := .iinc 5 1) (len := 3) (pc' := 108) mJ_153 (by decide +kernel) (ns_iinc (c := 1) (L' := [(5, nk_i v1), (0, nk_r l0), (2, nk_i l2), (6, nk_i l6)]) 2 rfl (by decide +kernel) h2 rfl (by decide +kernel)) rfl ?_
      refine nk_p (i := .goto (-69)) (len := 3) (pc' := 39) mJ_153 (by decide +kernel) (ns_goto (by decide +kernel)) rfl ?_
      refine nk_sub [1, 2, 0] (L' := [(0, nk_r l0), (2, nk_i l2), (5, nk_i v1)]) rfl ?_
      exact hrec39 _ _ _ _ _ t_l0 hr
    · have hr := nk_ifn (c := l6 ≤ 57) hc hr
      exact ja_X13_isName_b96_ok zs hrec39 _ _ _ _ _ _ t_l0 hr
noncomputable def ja_X13_isName_b68 (rec39 : Nat → Int → Int → nk_S → Option (Int × nk_S)) (l0 : Nat) (l2 : Int) (l5 : Int) (l6 : Int) (S : nk_S) : Option (Int × nk_S) :=
  if l6 < 65 then
    ja_X13_isName_b82 rec39 l0 l2 l5 l6 S
  else
    if l6 ≤ 90 then
      nk_lt (nk_w (l5 + 1)) fun v1 =>
      rec39 l0 l2 v1 S
    else
      ja_X13_isName_b82 rec39 l0 l2 l5 l6 S
theorem ja_X13_isName_b68_ok (zs : List Int32) {rec39 : Nat → Int → Int → nk_S → Option (Int × nk_S)} (hrec39 : ∀ (l0 : Nat) (l2 : Int) (l5 : Int) (S : nk_S) (R : Int × nk_S), nk_cl ja_Tt l0 = some 13 → rec39 l0 l2 l5 S = some R → nk_K ja_Tt mi_Γ (mi_ev zs) 1 153 39 [(0, nk_r l0), (2, nk_i l2), (5, nk_i l5)] [] S R) : ∀ (l0 : Nat) (l2 : Int) (l5 : Int) (l6 : Int) (S : nk_S) (R : Int × nk_S), nk_cl ja_Tt l0 = some 13 → ja_X13_isName_b68 rec39 l0 l2 l5 l6 S = some R → nk_K ja_Tt mi_Γ (mi_ev zs) 1 153 68 [(0, nk_r l0), (2, nk_i l2), (5, nk_i l5), (6, nk_i l6)] [] S R := by
  intro l0 l2 l5 l6 S R t_l0 hr
  unfold ja_X13_isName_b68 at hr
  refine nk_p (i := .iload 6) (len := 2) (pc' := 70) mJ_153 (by decide +kernel) (ns_iload 3 rfl) rfl ?_
  refine nk_p (i := .bipush 65) (len := 2) (pc' := 72) mJ_153 (by decide +kernel) (ns_bipush (c := 65) (by decide +kernel)) rfl ?_
  refine nk_icmp (c := .lt) (off := 10) (len := 3) (t := 82) (pc' := 75) mJ_153 (by decide +kernel) (by decide +kernel) rfl (fun hc => ?_) (fun hc => ?_)
  · have hr := nk_ifp (c := l6 < 65) hc hr
    exact ja_X13_isName_b82_ok zs hrec39 _ _ _ _ _ _ t_l0 hr
  · have hr := nk_ifn (c := l6 < 65) hc hr
    refine nk_p (i := .iload 6) (len := 2) (pc' := 77) mJ_153 (by decide +kernel) (ns_iload 3 rfl) rfl ?_
    refine nk_p (i := .bipush 90) (len := 2) (pc' := 79) mJ_153 (by decide +kernel) (ns_bipush (c := 90) (by decide +kernel)) rfl ?_
    refine nk_icmp (c := .le) (off := 26) (len := 3) (t := 105) (pc' := 82) mJ_153 (by decide +kernel) (by decide +kernel) rfl (fun hc => ?_) (fun hc => ?_)
    · have hr := nk_ifp (c := l6 ≤ 90) hc hr
      obtain ⟨v1, h2, hr⟩ := nk_lte hr
      refine nk_p (i := .iinc 5 1) (len := 3) (pc' := 108) mJ_153 (by decide +kernel) (ns_iinc (c := 1) (L' := [(5, nk_i v1), (0, nk_r l0), (2, nk_i l2), (6, nk_i l6)]) 2 rfl (by decide +kernel) h2 rfl (by decide +kernel)) rfl ?_
      refine nk_p (i := .goto (-69)) (len := 3) (pc' := 39) mJ_153 (by decide +kernel) (ns_goto (by decide +kernel)) rfl ?_
      refine nk_sub [1, 2, 0] (L' := [(0, nk_r l0), (2, nk_i l2), (5, nk_i v1)]) rfl ?_
      exact hrec39 _ _ _ _ _ t_l0 hr
    · have hr := nk_ifn (c := l6 ≤ 90) hc hr
      exact ja_X13_isName_b82_ok zs hrec39 _ _ _ _ _ _ t_l0 hr
noncomputable def ja_X13_isName_b39 (rec39 : Nat → Int → Int → nk_S → Option (Int × nk_S)) (l0 : Nat) (l2 : Int) (l5 : Int) (S : nk_S) : Option (Int × nk_S) :=
  if l2 ≤ l5 then
    some (1, S)
  else
    if 0 ≤ l5 ∧ l5 < 16000 then
    nk_lt (S.1 (ja_c l0 6) l5.toNat) fun v3 =>
    if v3 < 97 then
      ja_X13_isName_b68 rec39 l0 l2 l5 v3 S
    else
      if v3 ≤ 122 then
        nk_lt (nk_w (l5 + 1)) fun v5 =>
        rec39 l0 l2 v5 S
      else
        ja_X13_isName_b68 rec39 l0 l2 l5 v3 S
    else none
theorem ja_X13_isName_b39_ok (zs : List Int32) {rec39 : Nat → Int → Int → nk_S → Option (Int × nk_S)} (hrec39 : ∀ (l0 : Nat) (l2 : Int) (l5 : Int) (S : nk_S) (R : Int × nk_S), nk_cl ja_Tt l0 = some 13 → rec39 l0 l2 l5 S = some R → nk_K ja_Tt mi_Γ (mi_ev zs) 1 153 39 [(0, nk_r l0), (2, nk_i l2), (5, nk_i l5)] [] S R) : ∀ (l0 : Nat) (l2 : Int) (l5 : Int) (S : nk_S) (R : Int × nk_S), nk_cl ja_Tt l0 = some 13 → ja_X13_isName_b39 rec39 l0 l2 l5 S = some R → nk_K ja_Tt mi_Γ (mi_ev zs) 1 153 39 [(0, nk_r l0), (2, nk_i l2), (5, nk_i l5)] [] S R := by
  intro l0 l2 l5 S R t_l0 hr
  unfold ja_X13_isName_b39 at hr
  refine nk_p (i := .iload 5) (len := 2) (pc' := 41) mJ_153 (by decide +kernel) (ns_iload 2 rfl) rfl ?_
  refine nk_p (i := .iload_n 2) (len := 1) (pc' := 42) mJ_153 (by decide +kernel) (ns_iload_n 1 rfl rfl) rfl ?_
  refine nk_icmp (c := .ge) (off := 69) (len := 3) (t := 111) (pc' := 45) mJ_153 (by decide +kernel) (by decide +kernel) rfl (fun hc => ?_) (fun hc => ?_)
  · have hr := nk_ifp (c := l2 ≤ l5) hc hr
    refine nk_p (i := .iconst 1) (len := 1) (pc' := 112) mJ_153 (by decide +kernel) (ns_iconst (c := 1) (by decide +kernel)) rfl ?_
    cases hr
    exact nk_iret (ty := .boolean) (len := 1) mJ_153 (by decide +kernel) rfl (nk_nar_z (by decide))
  · have hr := nk_ifn (c := l2 ≤ l5) hc hr
    refine nk_p (i := .aload_n 0) (len := 1) (pc' := 46) mJ_153 (by decide +kernel) (ns_aload_n 0 rfl rfl) rfl ?_
    refine nk_getC (f := (4, 0, 16000)) (x := 23) (len := 3) (ci := 13) (k := 6) (pc' := 49) ja_okT mJ_153 (by decide +kernel) (by decide +kernel) (by decide +kernel) (by decide) t_l0 rfl ?_
    have t1 : nk_ar ja_Tt (ja_c l0 6) = some (0, 16000) := nk_ta ja_okT t_l0 (by decide +kernel)
    refine nk_p (i := .iload 5) (len := 2) (pc' := 51) mJ_153 (by decide +kernel) (ns_iload 2 rfl) rfl ?_
    obtain ⟨h2, hr⟩ := nk_cke hr
    refine nk_bald (t := 0) (len := 1) (N := 16000) (pc' := 52) mJ_153 (by decide +kernel) t1 (by decide) h2.1 h2.2 rfl rfl ?_
    obtain ⟨v3, h4, hr⟩ := nk_lte hr
    refine nk_p (i := .istore 6) (len := 2) (pc' := 54) mJ_153 (by decide +kernel) (ns_istore (L' := [(6, nk_i v3), (0, nk_r l0), (2, nk_i l2), (5, nk_i l5)]) h4 rfl (by decide +kernel)) rfl ?_
    refine nk_p (i := .iload 6) (len := 2) (pc' := 56) mJ_153 (by decide +kernel) (ns_iload 0 rfl) rfl ?_
    refine nk_p (i := .bipush 97) (len := 2) (pc' := 58) mJ_153 (by decide +kernel) (ns_bipush (c := 97) (by decide +kernel)) rfl ?_
    refine nk_icmp (c := .lt) (off := 10) (len := 3) (t := 68) (pc' := 61) mJ_153 (by decide +kernel) (by decide +kernel) rfl (fun hc => ?_) (fun hc => ?_)
    · have hr := nk_ifp (c := v3 < 97) hc hr
      refine nk_sub [1, 2, 3, 0] (L' := [(0, nk_r l0), (2, nk_i l2), (5, nk_i l5), (6, nk_i v3)]) rfl ?_
      exact ja_X13_isName_b68_ok zs hrec39 _ _ _ _ _ _ t_l0 hr
    · have hr := nk_ifn (c := v3 < 97) hc hr
      refine nk_p (i := .iload 6) (len := 2) (pc' := 63) mJ_153 (by decide +kernel) (ns_iload 0 rfl) rfl ?_
      refine nk_p (i := .bipush 122) (len := 2) (pc' := 65) mJ_153 (by decide +kernel) (ns_bipush (c := 122) (by decide +kernel)) rfl ?_
      refine nk_icmp (c := .le) (off := 40) (len := 3) (t := 105) (pc' := 68) mJ_153 (by decide +kernel) (by decide +kernel) rfl (fun hc => ?_) (fun hc => ?_)
      · have hr := nk_ifp (c := v3 ≤ 122) hc hr
        obtain ⟨v5, h6, hr⟩ := nk_lte hr
        refine nk_p (i := .iinc 5 1) (len := 3) (pc' := 108) mJ_153 (by decide +kernel) (ns_iinc (c := 1) (L' := [(5, nk_i v5), (6, nk_i v3), (0, nk_r l0), (2, nk_i l2)]) 3 rfl (by decide +kernel) h6 rfl (by decide +kernel)) rfl ?_
        refine nk_p (i := .goto (-69)) (len := 3) (pc' := 39) mJ_153 (by decide +kernel) (ns_goto (by decide +kernel)) rfl ?_
        refine nk_sub [2, 3, 0] (L' := [(0, nk_r l0), (2, nk_i l2), (5, nk_i v5)]) rfl ?_
        exact hrec39 _ _ _ _ _ t_l0 hr
      · have hr := nk_ifn (c := v3 ≤ 122) hc hr
        refine nk_sub [1, 2, 3, 0] (L' := [(0, nk_r l0), (2, nk_i l2), (5, nk_i l5), (6, nk_i v3)]) rfl ?_
        exact ja_X13_isName_b68_ok zs hrec39 _ _ _ _ _ _ t_l0 hr
noncomputable def ja_X13_isName_L39 : Nat → Nat → Int → Int → nk_S → Option (Int × nk_S)
  | 0, _, _, _, _ => none
  | n + 1, l0, l2, l5, S => ja_X13_isName_b39 (ja_X13_isName_L39 n) l0 l2 l5 S
theorem ja_X13_isName_L39_ok (zs : List Int32) : ∀ n : Nat, ∀ (l0 : Nat) (l2 : Int) (l5 : Int) (S : nk_S) (R : Int × nk_S), nk_cl ja_Tt l0 = some 13 → ja_X13_isName_L39 n l0 l2 l5 S = some R → nk_K ja_Tt mi_Γ (mi_ev zs) 1 153 39 [(0, nk_r l0), (2, nk_i l2), (5, nk_i l5)] [] S R := by
  intro n
  induction n with
  | zero => intro _ _ _ _ _ _ hr; cases hr
  | succ n ih => intro l0 l2 l5 S R t_l0 hr; exact ja_X13_isName_b39_ok zs ih l0 l2 l5 S R t_l0 hr
noncomputable def ja_X13_isName (l0 : Nat) (l1 : Int) (l2 : Int) (l3 : Int) (l4 : Int) (S : nk_S) : Option (Int × nk_S) :=
  if l2 ≤ l1 then
    some (0, S)
  else
    if 24 < (nk_w (l2 - l1)) then
      some (0, S)
    else
      if 0 ≤ l1 ∧ l1 < 16000 then
      if (S.1 (ja_c l0 6) l1.toNat) < l3 then
        some (0, S)
      else
        if (S.1 (ja_c l0 6) l1.toNat) ≤ l4 then
          ja_X13_isName_L39 nk_big l0 l2 l1 S
        else
          some (0, S)
      else none
theorem ja_X13_isName_ok (zs : List Int32) : ∀ (l0 : Nat) (l1 : Int) (l2 : Int) (l3 : Int) (l4 : Int) (S : nk_S) (R : Int × nk_S), nk_cl ja_Tt l0 = some 13 → ja_X13_isName l0 l1 l2 l3 l4 S = some R → nk_K ja_Tt mi_Γ (mi_ev zs) 1 153 0 [(0, nk_r l0), (1, nk_i l1), (2, nk_i l2), (3, nk_i l3), (4, nk_i l4)] [] S R := by
  intro l0 l1 l2 l3 l4 S R t_l0 hr
  unfold ja_X13_isName at hr
  refine nk_p (i := .iload_n 1) (len := 1) (pc' := 1) mJ_153 (by decide +kernel) (ns_iload_n 1 rfl rfl) rfl ?_
  refine nk_p (i := .iload_n 2) (len := 1) (pc' := 2) mJ_153 (by decide +kernel) (ns_iload_n 2 rfl rfl) rfl ?_
  refine nk_icmp (c := .ge) (off := 32) (len := 3) (t := 34) (pc' := 5) mJ_153 (by decide +kernel) (by decide +kernel) rfl (fun hc => ?_) (fun hc => ?_)
  · have hr := nk_ifp (c := l2 ≤ l1) hc hr
    refine nk_p (i := .iconst 0) (len := 1) (pc' := 35) mJ_153 (by decide +kernel) (ns_iconst (c := 0) (by decide +kernel)) rfl ?_
    cases hr
    exact nk_iret (ty := .boolean) (len := 1) mJ_153 (by decide +kernel) rfl (nk_nar_z (by decide))
  · have hr := nk_ifn (c := l2 ≤ l1) hc hr
    refine nk_p (i := .iload_n 2) (len := 1) (pc' := 6) mJ_153 (by decide +kernel) (ns_iload_n 2 rfl rfl) rfl ?_
    refine nk_p (i := .iload_n 1) (len := 1) (pc' := 7) mJ_153 (by decide +kernel) (ns_iload_n 1 rfl rfl) rfl ?_
    refine nk_p (i := .isub) (len := 1) (pc' := 8) mJ_153 (by decide +kernel) ns_isub rfl ?_
    refine nk_p (i := .bipush 24) (len := 2) (pc' := 10) mJ_153 (by decide +kernel) (ns_bipush (c := 24) (by decide +kernel)) rfl ?_
    refine nk_icmp (c := .gt) (off := 24) (len := 3) (t := 34) (pc' := 13) mJ_153 (by decide +kernel) (by decide +kernel) rfl (fun hc => ?_) (fun hc => ?_)
    · have hr := nk_ifp (c := 24 < (nk_w (l2 - l1))) hc hr
      refine nk_p (i := .iconst 0) (len := 1) (pc' := 35) mJ_153 (by decide +kernel) (ns_iconst (c := 0) (by decide +kernel)) rfl ?_
      cases hr
      exact nk_iret (ty := .boolean) (len := 1) mJ_153 (by decide +kernel) rfl (nk_nar_z (by decide))
    · have hr := nk_ifn (c := 24 < (nk_w (l2 - l1))) hc hr
      refine nk_p (i := .aload_n 0) (len := 1) (pc' := 14) mJ_153 (by decide +kernel) (ns_aload_n 0 rfl rfl) rfl ?_
      refine nk_getC (f := (4, 0, 16000)) (x := 23) (len := 3) (ci := 13) (k := 6) (pc' := 17) ja_okT mJ_153 (by decide +kernel) (by decide +kernel) (by decide +kernel) (by decide) t_l0 rfl ?_
      have t1 : nk_ar ja_Tt (ja_c l0 6) = some (0, 16000) := nk_ta ja_okT t_l0 (by decide +kernel)
      refine nk_p (i := .iload_n 1) (len := 1) (pc' := 18) mJ_153 (by decide +kernel) (ns_iload_n 1 rfl rfl) rfl ?_
      obtain ⟨h2, hr⟩ := nk_cke hr
      refine nk_bald (t := 0) (len := 1) (N := 16000) (pc' := 19) mJ_153 (by decide +kernel) t1 (by decide) h2.1 h2.2 rfl rfl ?_
      refine nk_p (i := .iload_n 3) (len := 1) (pc' := 20) mJ_153 (by decide +kernel) (ns_iload_n 3 rfl rfl) rfl ?_
      refine nk_icmp (c := .lt) (off := 14) (len := 3) (t := 34) (pc' := 23) mJ_153 (by decide +kernel) (by decide +kernel) rfl (fun hc => ?_) (fun hc => ?_)
      · have hr := nk_ifp (c := (S.1 (ja_c l0 6) l1.toNat) < l3) hc hr
        refine nk_p (i := .iconst 0) (len := 1) (pc' := 35) mJ_153 (by decide +kernel) (ns_iconst (c := 0) (by decide +kernel)) rfl ?_
        cases hr
        exact nk_iret (ty := .boolean) (len := 1) mJ_153 (by decide +kernel) rfl (nk_nar_z (by decide))
      · have hr := nk_ifn (c := (S.1 (ja_c l0 6) l1.toNat) < l3) hc hr
        refine nk_p (i := .aload_n 0) (len := 1) (pc' := 24) mJ_153 (by decide +kernel) (ns_aload_n 0 rfl rfl) rfl ?_
        refine nk_getC (f := (4, 0, 16000)) (x := 23) (len := 3) (ci := 13) (k := 6) (pc' := 27) ja_okT mJ_153 (by decide +kernel) (by decide +kernel) (by decide +kernel) (by decide) t_l0 rfl ?_
        refine nk_p (i := .iload_n 1) (len := 1) (pc' := 28) mJ_153 (by decide +kernel) (ns_iload_n 1 rfl rfl) rfl ?_
        refine nk_bald (t := 0) (len := 1) (N := 16000) (pc' := 29) mJ_153 (by decide +kernel) t1 (by decide) h2.1 h2.2 rfl rfl ?_
        refine nk_p (i := .iload 4) (len := 2) (pc' := 31) mJ_153 (by decide +kernel) (ns_iload 4 rfl) rfl ?_
        refine nk_icmp (c := .le) (off := 5) (len := 3) (t := 36) (pc' := 34) mJ_153 (by decide +kernel) (by decide +kernel) rfl (fun hc => ?_) (fun hc => ?_)
        · have hr := nk_ifp (c := (S.1 (ja_c l0 6) l1.toNat) ≤ l4) hc hr
          refine nk_p (i := .iload_n 1) (len := 1) (pc' := 37) mJ_153 (by decide +kernel) (ns_iload_n 1 rfl rfl) rfl ?_
          refine nk_p (i := .istore 5) (len := 2) (pc' := 39) mJ_153 (by decide +kernel) (ns_istore (L' := [(5, nk_i l1), (0, nk_r l0), (1, nk_i l1), (2, nk_i l2), (3, nk_i l3), (4, nk_i l4)]) rfl rfl (by decide +kernel)) rfl ?_
          refine nk_sub [1, 3, 0] (L' := [(0, nk_r l0), (2, nk_i l2), (5, nk_i l1)]) rfl ?_
          exact ja_X13_isName_L39_ok zs nk_big _ _ _ _ _ t_l0 hr
        · have hr := nk_ifn (c := (S.1 (ja_c l0 6) l1.toNat) ≤ l4) hc hr
          refine nk_p (i := .iconst 0) (len := 1) (pc' := 35) mJ_153 (by decide +kernel) (ns_iconst (c := 0) (by decide +kernel)) rfl ?_
          cases hr
          exact nk_iret (ty := .boolean) (len := 1) mJ_153 (by decide +kernel) rfl (nk_nar_z (by decide))
/-! SafeCodeModel isClassName (I)Z -/
noncomputable def ja_X13_isClassName (l0 : Nat) (l1 : Int) (S : nk_S) : Option (Int × nk_S) :=
  if (S.1 l0 10) ≤ l1 then
    some (0, S)
  else
    if 0 ≤ l1 ∧ l1 < 16002 then
    nk_bd (ja_X13_isName l0 (S.1 (ja_c l0 8) l1.toNat) (S.1 (ja_c l0 9) l1.toNat) 65 90 S) fun r4 S5 =>
    if r4 = 0 then
      some (0, S5)
    else
      some (1, S5)
    else none
theorem ja_X13_isClassName_ok (zs : List Int32) : ∀ (l0 : Nat) (l1 : Int) (S : nk_S) (R : Int × nk_S), nk_cl ja_Tt l0 = some 13 → ja_X13_isClassName l0 l1 S = some R → nk_K ja_Tt mi_Γ (mi_ev zs) 1 145 0 [(0, nk_r l0), (1, nk_i l1)] [] S R := by
  intro l0 l1 S R t_l0 hr
  unfold ja_X13_isClassName at hr
  refine nk_p (i := .iload_n 1) (len := 1) (pc' := 1) mJ_145 (by decide +kernel) (ns_iload_n 1 rfl rfl) rfl ?_
  refine nk_p (i := .aload_n 0) (len := 1) (pc' := 2) mJ_145 (by decide +kernel) (ns_aload_n 0 rfl rfl) rfl ?_
  refine nk_getI (y := (0, 0)) (x := 155) (len := 3) (ci := 13) (k := 10) (pc' := 5) ja_okT mJ_145 (by decide +kernel) (by decide +kernel) (by decide +kernel) t_l0 rfl ?_
  refine nk_icmp (c := .ge) (off := 30) (len := 3) (t := 35) (pc' := 8) mJ_145 (by decide +kernel) (by decide +kernel) rfl (fun hc => ?_) (fun hc => ?_)
  · have hr := nk_ifp (c := (S.1 l0 10) ≤ l1) hc hr
    refine nk_p (i := .iconst 0) (len := 1) (pc' := 36) mJ_145 (by decide +kernel) (ns_iconst (c := 0) (by decide +kernel)) rfl ?_
    cases hr
    exact nk_iret (ty := .boolean) (len := 1) mJ_145 (by decide +kernel) rfl (nk_nar_z (by decide))
  · have hr := nk_ifn (c := (S.1 l0 10) ≤ l1) hc hr
    refine nk_p (i := .aload_n 0) (len := 1) (pc' := 9) mJ_145 (by decide +kernel) (ns_aload_n 0 rfl rfl) rfl ?_
    refine nk_p (i := .aload_n 0) (len := 1) (pc' := 10) mJ_145 (by decide +kernel) (ns_aload_n 0 rfl rfl) rfl ?_
    refine nk_getC (f := (4, 1, 16002)) (x := 26) (len := 3) (ci := 13) (k := 8) (pc' := 13) ja_okT mJ_145 (by decide +kernel) (by decide +kernel) (by decide +kernel) (by decide) t_l0 rfl ?_
    have t1 : nk_ar ja_Tt (ja_c l0 8) = some (1, 16002) := nk_ta ja_okT t_l0 (by decide +kernel)
    refine nk_p (i := .iload_n 1) (len := 1) (pc' := 14) mJ_145 (by decide +kernel) (ns_iload_n 1 rfl rfl) rfl ?_
    obtain ⟨h2, hr⟩ := nk_cke hr
    refine nk_iald (len := 1) (N := 16002) (pc' := 15) mJ_145 (by decide +kernel) t1 h2.1 h2.2 rfl rfl ?_
    refine nk_p (i := .aload_n 0) (len := 1) (pc' := 16) mJ_145 (by decide +kernel) (ns_aload_n 0 rfl rfl) rfl ?_
    refine nk_getC (f := (4, 1, 16002)) (x := 30) (len := 3) (ci := 13) (k := 9) (pc' := 19) ja_okT mJ_145 (by decide +kernel) (by decide +kernel) (by decide +kernel) (by decide) t_l0 rfl ?_
    have t3 : nk_ar ja_Tt (ja_c l0 9) = some (1, 16002) := nk_ta ja_okT t_l0 (by decide +kernel)
    refine nk_p (i := .iload_n 1) (len := 1) (pc' := 20) mJ_145 (by decide +kernel) (ns_iload_n 1 rfl rfl) rfl ?_
    refine nk_iald (len := 1) (N := 16002) (pc' := 21) mJ_145 (by decide +kernel) t3 h2.1 h2.2 rfl rfl ?_
    refine nk_p (i := .bipush 65) (len := 2) (pc' := 23) mJ_145 (by decide +kernel) (ns_bipush (c := 65) (by decide +kernel)) rfl ?_
    refine nk_p (i := .bipush 90) (len := 2) (pc' := 25) mJ_145 (by decide +kernel) (ns_bipush (c := 90) (by decide +kernel)) rfl ?_
    obtain ⟨r4, S5, h6, hr⟩ := nk_bde hr
    refine nk_callV (ci := 13) (n := 4) (x := 171) (len := 3) (j' := 153) (q' := 1) (r := r4) (S' := S5) (L2 := [(0, nk_r l0), (1, nk_i (S.1 (ja_c l0 8) l1.toNat)), (2, nk_i (S.1 (ja_c l0 9) l1.toNat)), (3, nk_i 65), (4, nk_i 90)]) (rest := []) (st' := [nk_i r4]) (pc' := 28) mJ_145 (by decide +kernel) (by decide +kernel) rfl rfl t_l0 (Nat.le_of_ble_eq_true rfl) mJ_153 (Nat.le_of_ble_eq_true rfl) rfl (ja_X13_isName_ok zs _ _ _ _ _ _ _ t_l0 h6) rfl ?_
    refine nk_icond (c := .eq) (off := 7) (len := 3) (t := 35) (pc' := 31) mJ_145 (by decide +kernel) (by decide +kernel) rfl (fun hc => ?_) (fun hc => ?_)
    · have hr := nk_ifp (c := r4 = 0) hc hr
      refine nk_p (i := .iconst 0) (len := 1) (pc' := 36) mJ_145 (by decide +kernel) (ns_iconst (c := 0) (by decide +kernel)) rfl ?_
      cases hr
      exact nk_iret (ty := .boolean) (len := 1) mJ_145 (by decide +kernel) rfl (nk_nar_z (by decide))
    · have hr := nk_ifn (c := r4 = 0) hc hr
      refine nk_p (i := .iconst 1) (len := 1) (pc' := 32) mJ_145 (by decide +kernel) (ns_iconst (c := 1) (by decide +kernel)) rfl ?_
      refine nk_p (i := .goto 4) (len := 3) (pc' := 36) mJ_145 (by decide +kernel) (ns_goto (by decide +kernel)) rfl ?_
      cases hr
      exact nk_iret (ty := .boolean) (len := 1) mJ_145 (by decide +kernel) rfl (nk_nar_z (by decide))
/-! SafeCodeModel isSmallName (I)Z -/
noncomputable def ja_X13_isSmallName (l0 : Nat) (l1 : Int) (S : nk_S) : Option (Int × nk_S) :=
  if (S.1 l0 10) ≤ l1 then
    some (0, S)
  else
    if 0 ≤ l1 ∧ l1 < 16002 then
    nk_bd (ja_X13_isName l0 (S.1 (ja_c l0 8) l1.toNat) (S.1 (ja_c l0 9) l1.toNat) 97 122 S) fun r4 S5 =>
    if r4 = 0 then
      some (0, S5)
    else
      some (1, S5)
    else none
theorem ja_X13_isSmallName_ok (zs : List Int32) : ∀ (l0 : Nat) (l1 : Int) (S : nk_S) (R : Int × nk_S), nk_cl ja_Tt l0 = some 13 → ja_X13_isSmallName l0 l1 S = some R → nk_K ja_Tt mi_Γ (mi_ev zs) 1 162 0 [(0, nk_r l0), (1, nk_i l1)] [] S R := by
  intro l0 l1 S R t_l0 hr
  unfold ja_X13_isSmallName at hr
  refine nk_p (i := .iload_n 1) (len := 1) (pc' := 1) mJ_162 (by decide +kernel) (ns_iload_n 1 rfl rfl) rfl ?_
  refine nk_p (i := .aload_n 0) (len := 1) (pc' := 2) mJ_162 (by decide +kernel) (ns_aload_n 0 rfl rfl) rfl ?_
  refine nk_getI (y := (0, 0)) (x := 155) (len := 3) (ci := 13) (k := 10) (pc' := 5) ja_okT mJ_162 (by decide +kernel) (by decide +kernel) (by decide +kernel) t_l0 rfl ?_
  refine nk_icmp (c := .ge) (off := 30) (len := 3) (t := 35) (pc' := 8) mJ_162 (by decide +kernel) (by decide +kernel) rfl (fun hc => ?_) (fun hc => ?_)
  · have hr := nk_ifp (c := (S.1 l0 10) ≤ l1) hc hr
    refine nk_p (i := .iconst 0) (len := 1) (pc' := 36) mJ_162 (by decide +kernel) (ns_iconst (c := 0) (by decide +kernel)) rfl ?_
    cases hr
    exact nk_iret (ty := .boolean) (len := 1) mJ_162 (by decide +kernel) rfl (nk_nar_z (by decide))
  · have hr := nk_ifn (c := (S.1 l0 10) ≤ l1) hc hr
    refine nk_p (i := .aload_n 0) (len := 1) (pc' := 9) mJ_162 (by decide +kernel) (ns_aload_n 0 rfl rfl) rfl ?_
    refine nk_p (i := .aload_n 0) (len := 1) (pc' := 10) mJ_162 (by decide +kernel) (ns_aload_n 0 rfl rfl) rfl ?_
    refine nk_getC (f := (4, 1, 16002)) (x := 26) (len := 3) (ci := 13) (k := 8) (pc' := 13) ja_okT mJ_162 (by decide +kernel) (by decide +kernel) (by decide +kernel) (by decide) t_l0 rfl ?_
    have t1 : nk_ar ja_Tt (ja_c l0 8) = some (1, 16002) := nk_ta ja_okT t_l0 (by decide +kernel)
    refine nk_p (i := .iload_n 1) (len := 1) (pc' := 14) mJ_162 (by decide +kernel) (ns_iload_n 1 rfl rfl) rfl ?_
    obtain ⟨h2, hr⟩ := nk_cke hr
    refine nk_iald (len := 1) (N := 16002) (pc' := 15) mJ_162 (by decide +kernel) t1 h2.1 h2.2 rfl rfl ?_
    refine nk_p (i := .aload_n 0) (len := 1) (pc' := 16) mJ_162 (by decide +kernel) (ns_aload_n 0 rfl rfl) rfl ?_
    refine nk_getC (f := (4, 1, 16002)) (x := 30) (len := 3) (ci := 13) (k := 9) (pc' := 19) ja_okT mJ_162 (by decide +kernel) (by decide +kernel) (by decide +kernel) (by decide) t_l0 rfl ?_
    have t3 : nk_ar ja_Tt (ja_c l0 9) = some (1, 16002) := nk_ta ja_okT t_l0 (by decide +kernel)
    refine nk_p (i := .iload_n 1) (len := 1) (pc' := 20) mJ_162 (by decide +kernel) (ns_iload_n 1 rfl rfl) rfl ?_
    refine nk_iald (len := 1) (N := 16002) (pc' := 21) mJ_162 (by decide +kernel) t3 h2.1 h2.2 rfl rfl ?_
    refine nk_p (i := .bipush 97) (len := 2) (pc' := 23) mJ_162 (by decide +kernel) (ns_bipush (c := 97) (by decide +kernel)) rfl ?_
    refine nk_p (i := .bipush 122) (len := 2) (pc' := 25) mJ_162 (by decide +kernel) (ns_bipush (c := 122) (by decide +kernel)) rfl ?_
    obtain ⟨r4, S5, h6, hr⟩ := nk_bde hr
    refine nk_callV (ci := 13) (n := 4) (x := 171) (len := 3) (j' := 153) (q' := 1) (r := r4) (S' := S5) (L2 := [(0, nk_r l0), (1, nk_i (S.1 (ja_c l0 8) l1.toNat)), (2, nk_i (S.1 (ja_c l0 9) l1.toNat)), (3, nk_i 97), (4, nk_i 122)]) (rest := []) (st' := [nk_i r4]) (pc' := 28) mJ_162 (by decide +kernel) (by decide +kernel) rfl rfl t_l0 (Nat.le_of_ble_eq_true rfl) mJ_153 (Nat.le_of_ble_eq_true rfl) rfl (ja_X13_isName_ok zs _ _ _ _ _ _ _ t_l0 h6) rfl ?_
    refine nk_icond (c := .eq) (off := 7) (len := 3) (t := 35) (pc' := 31) mJ_162 (by decide +kernel) (by decide +kernel) rfl (fun hc => ?_) (fun hc => ?_)
    · have hr := nk_ifp (c := r4 = 0) hc hr
      refine nk_p (i := .iconst 0) (len := 1) (pc' := 36) mJ_162 (by decide +kernel) (ns_iconst (c := 0) (by decide +kernel)) rfl ?_
      cases hr
      exact nk_iret (ty := .boolean) (len := 1) mJ_162 (by decide +kernel) rfl (nk_nar_z (by decide))
    · have hr := nk_ifn (c := r4 = 0) hc hr
      refine nk_p (i := .iconst 1) (len := 1) (pc' := 32) mJ_162 (by decide +kernel) (ns_iconst (c := 1) (by decide +kernel)) rfl ?_
      refine nk_p (i := .goto 4) (len := 3) (pc' := 36) mJ_162 (by decide +kernel) (ns_goto (by decide +kernel)) rfl ?_
      cases hr
      exact nk_iret (ty := .boolean) (len := 1) mJ_162 (by decide +kernel) rfl (nk_nar_z (by decide))
/-! SafeCodeModel isType (I)Z -/
noncomputable def ja_X13_isType_b92 (l0 : Nat) (l1 : Int) (l2 : Int) (s0 : Int) (S : nk_S) : Option (Int × nk_S) :=
  if s0 = 0 then
    if 0 ≤ l1 ∧ l1 < 16002 then
    nk_bd (ja_X13_isName l0 (S.1 (ja_c l0 8) l1.toNat) l2 65 90 S) fun r3 S4 =>
    if r3 = 0 then
      some (0, S4)
    else
      some (1, S4)
    else none
  else
    some (1, S)
theorem ja_X13_isType_b92_ok (zs : List Int32) : ∀ (l0 : Nat) (l1 : Int) (l2 : Int) (s0 : Int) (S : nk_S) (R : Int × nk_S), nk_cl ja_Tt l0 = some 13 → ja_X13_isType_b92 l0 l1 l2 s0 S = some R → nk_K ja_Tt mi_Γ (mi_ev zs) 1 163 92 [(0, nk_r l0), (1, nk_i l1), (2, nk_i l2)] [nk_i s0] S R := by
  intro l0 l1 l2 s0 S R t_l0 hr
  unfold ja_X13_isType_b92 at hr
  refine nk_p (i := .istore_n 3) (len := 1) (pc' := 93) mJ_163 (by decide +kernel) (ns_istore_n (L' := [(3, nk_i s0), (0, nk_r l0), (1, nk_i l1), (2, nk_i l2)]) rfl rfl rfl (by decide +kernel)) rfl ?_
  refine nk_p (i := .iload_n 3) (len := 1) (pc' := 94) mJ_163 (by decide +kernel) (ns_iload_n 0 rfl rfl) rfl ?_
  refine nk_icond (c := .ne) (off := 21) (len := 3) (t := 115) (pc' := 97) mJ_163 (by decide +kernel) (by decide +kernel) rfl (fun hc => ?_) (fun hc => ?_)
  · have hr := nk_ifn (c := s0 = 0) hc hr
    refine nk_p (i := .iconst 1) (len := 1) (pc' := 116) mJ_163 (by decide +kernel) (ns_iconst (c := 1) (by decide +kernel)) rfl ?_
    refine nk_p (i := .goto 4) (len := 3) (pc' := 120) mJ_163 (by decide +kernel) (ns_goto (by decide +kernel)) rfl ?_
    cases hr
    exact nk_iret (ty := .boolean) (len := 1) mJ_163 (by decide +kernel) rfl (nk_nar_z (by decide))
  · have hr := nk_ifp (c := s0 = 0) (Decidable.of_not_not hc) hr
    refine nk_p (i := .aload_n 0) (len := 1) (pc' := 98) mJ_163 (by decide +kernel) (ns_aload_n 1 rfl rfl) rfl ?_
    refine nk_p (i := .aload_n 0) (len := 1) (pc' := 99) mJ_163 (by decide +kernel) (ns_aload_n 1 rfl rfl) rfl ?_
    refine nk_getC (f := (4, 1, 16002)) (x := 26) (len := 3) (ci := 13) (k := 8) (pc' := 102) ja_okT mJ_163 (by decide +kernel) (by decide +kernel) (by decide +kernel) (by decide) t_l0 rfl ?_
    have t1 : nk_ar ja_Tt (ja_c l0 8) = some (1, 16002) := nk_ta ja_okT t_l0 (by decide +kernel)
    refine nk_p (i := .iload_n 1) (len := 1) (pc' := 103) mJ_163 (by decide +kernel) (ns_iload_n 2 rfl rfl) rfl ?_
    obtain ⟨h2, hr⟩ := nk_cke hr
    refine nk_iald (len := 1) (N := 16002) (pc' := 104) mJ_163 (by decide +kernel) t1 h2.1 h2.2 rfl rfl ?_
    refine nk_p (i := .iload_n 2) (len := 1) (pc' := 105) mJ_163 (by decide +kernel) (ns_iload_n 3 rfl rfl) rfl ?_
    refine nk_p (i := .bipush 65) (len := 2) (pc' := 107) mJ_163 (by decide +kernel) (ns_bipush (c := 65) (by decide +kernel)) rfl ?_
    refine nk_p (i := .bipush 90) (len := 2) (pc' := 109) mJ_163 (by decide +kernel) (ns_bipush (c := 90) (by decide +kernel)) rfl ?_
    obtain ⟨r3, S4, h5, hr⟩ := nk_bde hr
    refine nk_callV (ci := 13) (n := 4) (x := 171) (len := 3) (j' := 153) (q' := 1) (r := r3) (S' := S4) (L2 := [(0, nk_r l0), (1, nk_i (S.1 (ja_c l0 8) l1.toNat)), (2, nk_i l2), (3, nk_i 65), (4, nk_i 90)]) (rest := []) (st' := [nk_i r3]) (pc' := 112) mJ_163 (by decide +kernel) (by decide +kernel) rfl rfl t_l0 (Nat.le_of_ble_eq_true rfl) mJ_153 (Nat.le_of_ble_eq_true rfl) rfl (ja_X13_isName_ok zs _ _ _ _ _ _ _ t_l0 h5) rfl ?_
    refine nk_icond (c := .eq) (off := 7) (len := 3) (t := 119) (pc' := 115) mJ_163 (by decide +kernel) (by decide +kernel) rfl (fun hc => ?_) (fun hc => ?_)
    · have hr := nk_ifp (c := r3 = 0) hc hr
      refine nk_p (i := .iconst 0) (len := 1) (pc' := 120) mJ_163 (by decide +kernel) (ns_iconst (c := 0) (by decide +kernel)) rfl ?_
      cases hr
      exact nk_iret (ty := .boolean) (len := 1) mJ_163 (by decide +kernel) rfl (nk_nar_z (by decide))
    · have hr := nk_ifn (c := r3 = 0) hc hr
      refine nk_p (i := .iconst 1) (len := 1) (pc' := 116) mJ_163 (by decide +kernel) (ns_iconst (c := 1) (by decide +kernel)) rfl ?_
      refine nk_p (i := .goto 4) (len := 3) (pc' := 120) mJ_163 (by decide +kernel) (ns_goto (by decide +kernel)) rfl ?_
      cases hr
      exact nk_iret (ty := .boolean) (len := 1) mJ_163 (by decide +kernel) rfl (nk_nar_z (by decide))
noncomputable def ja_X13_isType_b91 (l0 : Nat) (l1 : Int) (l2 : Int) (S : nk_S) : Option (Int × nk_S) :=
  ja_X13_isType_b92 l0 l1 l2 0 S
theorem ja_X13_isType_b91_ok (zs : List Int32) : ∀ (l0 : Nat) (l1 : Int) (l2 : Int) (S : nk_S) (R : Int × nk_S), nk_cl ja_Tt l0 = some 13 → ja_X13_isType_b91 l0 l1 l2 S = some R → nk_K ja_Tt mi_Γ (mi_ev zs) 1 163 91 [(0, nk_r l0), (1, nk_i l1), (2, nk_i l2)] [] S R := by
  intro l0 l1 l2 S R t_l0 hr
  unfold ja_X13_isType_b91 at hr
  refine nk_p (i := .iconst 0) (len := 1) (pc' := 92) mJ_163 (by decide +kernel) (ns_iconst (c := 0) (by decide +kernel)) rfl ?_
  exact ja_X13_isType_b92_ok zs _ _ _ _ _ _ t_l0 hr
noncomputable def ja_X13_isType_b35 (l0 : Nat) (l1 : Int) (s0 : Int) (S : nk_S) : Option (Int × nk_S) :=
  if 0 ≤ l1 ∧ l1 < 16002 then
  if (nk_w (s0 - (S.1 (ja_c l0 8) l1.toNat))) = 3 then
    if 0 ≤ (nk_w (s0 - 3)) ∧ (nk_w (s0 - 3)) < 16000 then
    if (S.1 (ja_c l0 6) (nk_w (s0 - 3)).toNat) = 105 then
      if 0 ≤ (nk_w (s0 - 2)) ∧ (nk_w (s0 - 2)) < 16000 then
      if (S.1 (ja_c l0 6) (nk_w (s0 - 2)).toNat) = 110 then
        if 0 ≤ (nk_w (s0 - 1)) ∧ (nk_w (s0 - 1)) < 16000 then
        if (S.1 (ja_c l0 6) (nk_w (s0 - 1)).toNat) = 116 then
          ja_X13_isType_b92 l0 l1 s0 1 S
        else
          ja_X13_isType_b91 l0 l1 s0 S
        else none
      else
        ja_X13_isType_b91 l0 l1 s0 S
      else none
    else
      ja_X13_isType_b91 l0 l1 s0 S
    else none
  else
    ja_X13_isType_b91 l0 l1 s0 S
  else none
theorem ja_X13_isType_b35_ok (zs : List Int32) : ∀ (l0 : Nat) (l1 : Int) (s0 : Int) (S : nk_S) (R : Int × nk_S), nk_cl ja_Tt l0 = some 13 → ja_X13_isType_b35 l0 l1 s0 S = some R → nk_K ja_Tt mi_Γ (mi_ev zs) 1 163 35 [(0, nk_r l0), (1, nk_i l1)] [nk_i s0] S R := by
  intro l0 l1 s0 S R t_l0 hr
  unfold ja_X13_isType_b35 at hr
  refine nk_p (i := .istore_n 2) (len := 1) (pc' := 36) mJ_163 (by decide +kernel) (ns_istore_n (L' := [(2, nk_i s0), (0, nk_r l0), (1, nk_i l1)]) rfl rfl rfl (by decide +kernel)) rfl ?_
  refine nk_p (i := .iload_n 2) (len := 1) (pc' := 37) mJ_163 (by decide +kernel) (ns_iload_n 0 rfl rfl) rfl ?_
  refine nk_p (i := .aload_n 0) (len := 1) (pc' := 38) mJ_163 (by decide +kernel) (ns_aload_n 1 rfl rfl) rfl ?_
  refine nk_getC (f := (4, 1, 16002)) (x := 26) (len := 3) (ci := 13) (k := 8) (pc' := 41) ja_okT mJ_163 (by decide +kernel) (by decide +kernel) (by decide +kernel) (by decide) t_l0 rfl ?_
  have t1 : nk_ar ja_Tt (ja_c l0 8) = some (1, 16002) := nk_ta ja_okT t_l0 (by decide +kernel)
  refine nk_p (i := .iload_n 1) (len := 1) (pc' := 42) mJ_163 (by decide +kernel) (ns_iload_n 2 rfl rfl) rfl ?_
  obtain ⟨h2, hr⟩ := nk_cke hr
  refine nk_iald (len := 1) (N := 16002) (pc' := 43) mJ_163 (by decide +kernel) t1 h2.1 h2.2 rfl rfl ?_
  refine nk_p (i := .isub) (len := 1) (pc' := 44) mJ_163 (by decide +kernel) ns_isub rfl ?_
  refine nk_p (i := .iconst 3) (len := 1) (pc' := 45) mJ_163 (by decide +kernel) (ns_iconst (c := 3) (by decide +kernel)) rfl ?_
  refine nk_icmp (c := .ne) (off := 46) (len := 3) (t := 91) (pc' := 48) mJ_163 (by decide +kernel) (by decide +kernel) rfl (fun hc => ?_) (fun hc => ?_)
  · have hr := nk_ifn (c := (nk_w (s0 - (S.1 (ja_c l0 8) l1.toNat))) = 3) hc hr
    refine nk_sub [1, 2, 0] (L' := [(0, nk_r l0), (1, nk_i l1), (2, nk_i s0)]) rfl ?_
    exact ja_X13_isType_b91_ok zs _ _ _ _ _ t_l0 hr
  · have hr := nk_ifp (c := (nk_w (s0 - (S.1 (ja_c l0 8) l1.toNat))) = 3) (Decidable.of_not_not hc) hr
    refine nk_p (i := .aload_n 0) (len := 1) (pc' := 49) mJ_163 (by decide +kernel) (ns_aload_n 1 rfl rfl) rfl ?_
    refine nk_getC (f := (4, 0, 16000)) (x := 23) (len := 3) (ci := 13) (k := 6) (pc' := 52) ja_okT mJ_163 (by decide +kernel) (by decide +kernel) (by decide +kernel) (by decide) t_l0 rfl ?_
    have t3 : nk_ar ja_Tt (ja_c l0 6) = some (0, 16000) := nk_ta ja_okT t_l0 (by decide +kernel)
    refine nk_p (i := .iload_n 2) (len := 1) (pc' := 53) mJ_163 (by decide +kernel) (ns_iload_n 0 rfl rfl) rfl ?_
    refine nk_p (i := .iconst 3) (len := 1) (pc' := 54) mJ_163 (by decide +kernel) (ns_iconst (c := 3) (by decide +kernel)) rfl ?_
    refine nk_p (i := .isub) (len := 1) (pc' := 55) mJ_163 (by decide +kernel) ns_isub rfl ?_
    obtain ⟨h4, hr⟩ := nk_cke hr
    refine nk_bald (t := 0) (len := 1) (N := 16000) (pc' := 56) mJ_163 (by decide +kernel) t3 (by decide) h4.1 h4.2 rfl rfl ?_
    refine nk_p (i := .bipush 105) (len := 2) (pc' := 58) mJ_163 (by decide +kernel) (ns_bipush (c := 105) (by decide +kernel)) rfl ?_
    refine nk_icmp (c := .ne) (off := 33) (len := 3) (t := 91) (pc' := 61) mJ_163 (by decide +kernel) (by decide +kernel) rfl (fun hc => ?_) (fun hc => ?_)
    · have hr := nk_ifn (c := (S.1 (ja_c l0 6) (nk_w (s0 - 3)).toNat) = 105) hc hr
      refine nk_sub [1, 2, 0] (L' := [(0, nk_r l0), (1, nk_i l1), (2, nk_i s0)]) rfl ?_
      exact ja_X13_isType_b91_ok zs _ _ _ _ _ t_l0 hr
    · have hr := nk_ifp (c := (S.1 (ja_c l0 6) (nk_w (s0 - 3)).toNat) = 105) (Decidable.of_not_not hc) hr
      refine nk_p (i := .aload_n 0) (len := 1) (pc' := 62) mJ_163 (by decide +kernel) (ns_aload_n 1 rfl rfl) rfl ?_
      refine nk_getC (f := (4, 0, 16000)) (x := 23) (len := 3) (ci := 13) (k := 6) (pc' := 65) ja_okT mJ_163 (by decide +kernel) (by decide +kernel) (by decide +kernel) (by decide) t_l0 rfl ?_
      refine nk_p (i := .iload_n 2) (len := 1) (pc' := 66) mJ_163 (by decide +kernel) (ns_iload_n 0 rfl rfl) rfl ?_
      refine nk_p (i := .iconst 2) (len := 1) (pc' := 67) mJ_163 (by decide +kernel) (ns_iconst (c := 2) (by decide +kernel)) rfl ?_
      refine nk_p (i := .isub) (len := 1) (pc' := 68) mJ_163 (by decide +kernel) ns_isub rfl ?_
      obtain ⟨h5, hr⟩ := nk_cke hr
      refine nk_bald (t := 0) (len := 1) (N := 16000) (pc' := 69) mJ_163 (by decide +kernel) t3 (by decide) h5.1 h5.2 rfl rfl ?_
      refine nk_p (i := .bipush 110) (len := 2) (pc' := 71) mJ_163 (by decide +kernel) (ns_bipush (c := 110) (by decide +kernel)) rfl ?_
      refine nk_icmp (c := .ne) (off := 20) (len := 3) (t := 91) (pc' := 74) mJ_163 (by decide +kernel) (by decide +kernel) rfl (fun hc => ?_) (fun hc => ?_)
      · have hr := nk_ifn (c := (S.1 (ja_c l0 6) (nk_w (s0 - 2)).toNat) = 110) hc hr
        refine nk_sub [1, 2, 0] (L' := [(0, nk_r l0), (1, nk_i l1), (2, nk_i s0)]) rfl ?_
        exact ja_X13_isType_b91_ok zs _ _ _ _ _ t_l0 hr
      · have hr := nk_ifp (c := (S.1 (ja_c l0 6) (nk_w (s0 - 2)).toNat) = 110) (Decidable.of_not_not hc) hr
        refine nk_p (i := .aload_n 0) (len := 1) (pc' := 75) mJ_163 (by decide +kernel) (ns_aload_n 1 rfl rfl) rfl ?_
        refine nk_getC (f := (4, 0, 16000)) (x := 23) (len := 3) (ci := 13) (k := 6) (pc' := 78) ja_okT mJ_163 (by decide +kernel) (by decide +kernel) (by decide +kernel) (by decide) t_l0 rfl ?_
        refine nk_p (i := .iload_n 2) (len := 1) (pc' := 79) mJ_163 (by decide +kernel) (ns_iload_n 0 rfl rfl) rfl ?_
        refine nk_p (i := .iconst 1) (len := 1) (pc' := 80) mJ_163 (by decide +kernel) (ns_iconst (c := 1) (by decide +kernel)) rfl ?_
        refine nk_p (i := .isub) (len := 1) (pc' := 81) mJ_163 (by decide +kernel) ns_isub rfl ?_
        obtain ⟨h6, hr⟩ := nk_cke hr
        refine nk_bald (t := 0) (len := 1) (N := 16000) (pc' := 82) mJ_163 (by decide +kernel) t3 (by decide) h6.1 h6.2 rfl rfl ?_
        refine nk_p (i := .bipush 116) (len := 2) (pc' := 84) mJ_163 (by decide +kernel) (ns_bipush (c := 116) (by decide +kernel)) rfl ?_
        refine nk_icmp (c := .ne) (off := 7) (len := 3) (t := 91) (pc' := 87) mJ_163 (by decide +kernel) (by decide +kernel) rfl (fun hc => ?_) (fun hc => ?_)
        · have hr := nk_ifn (c := (S.1 (ja_c l0 6) (nk_w (s0 - 1)).toNat) = 116) hc hr
          refine nk_sub [1, 2, 0] (L' := [(0, nk_r l0), (1, nk_i l1), (2, nk_i s0)]) rfl ?_
          exact ja_X13_isType_b91_ok zs _ _ _ _ _ t_l0 hr
        · have hr := nk_ifp (c := (S.1 (ja_c l0 6) (nk_w (s0 - 1)).toNat) = 116) (Decidable.of_not_not hc) hr
          refine nk_p (i := .iconst 1) (len := 1) (pc' := 88) mJ_163 (by decide +kernel) (ns_iconst (c := 1) (by decide +kernel)) rfl ?_
          refine nk_p (i := .goto 4) (len := 3) (pc' := 92) mJ_163 (by decide +kernel) (ns_goto (by decide +kernel)) rfl ?_
          refine nk_sub [1, 2, 0] (L' := [(0, nk_r l0), (1, nk_i l1), (2, nk_i s0)]) rfl ?_
          exact ja_X13_isType_b92_ok zs _ _ _ _ _ _ t_l0 hr
noncomputable def ja_X13_isType (l0 : Nat) (l1 : Int) (S : nk_S) : Option (Int × nk_S) :=
  if l1 < (S.1 l0 10) then
    nk_bd (ja_X13_isArray l0 l1 S) fun r1 S2 =>
    if r1 = 0 then
      if 0 ≤ l1 ∧ l1 < 16002 then
      ja_X13_isType_b35 l0 l1 (S2.1 (ja_c l0 9) l1.toNat) S2
      else none
    else
      if 0 ≤ l1 ∧ l1 < 16002 then
      ja_X13_isType_b35 l0 l1 (nk_w ((S2.1 (ja_c l0 9) l1.toNat) - 2)) S2
      else none
  else
    some (0, S)
theorem ja_X13_isType_ok (zs : List Int32) : ∀ (l0 : Nat) (l1 : Int) (S : nk_S) (R : Int × nk_S), nk_cl ja_Tt l0 = some 13 → ja_X13_isType l0 l1 S = some R → nk_K ja_Tt mi_Γ (mi_ev zs) 1 163 0 [(0, nk_r l0), (1, nk_i l1)] [] S R := by
  intro l0 l1 S R t_l0 hr
  unfold ja_X13_isType at hr
  refine nk_p (i := .iload_n 1) (len := 1) (pc' := 1) mJ_163 (by decide +kernel) (ns_iload_n 1 rfl rfl) rfl ?_
  refine nk_p (i := .aload_n 0) (len := 1) (pc' := 2) mJ_163 (by decide +kernel) (ns_aload_n 0 rfl rfl) rfl ?_
  refine nk_getI (y := (0, 0)) (x := 155) (len := 3) (ci := 13) (k := 10) (pc' := 5) ja_okT mJ_163 (by decide +kernel) (by decide +kernel) (by decide +kernel) t_l0 rfl ?_
  refine nk_icmp (c := .lt) (off := 5) (len := 3) (t := 10) (pc' := 8) mJ_163 (by decide +kernel) (by decide +kernel) rfl (fun hc => ?_) (fun hc => ?_)
  · have hr := nk_ifp (c := l1 < (S.1 l0 10)) hc hr
    refine nk_p (i := .aload_n 0) (len := 1) (pc' := 11) mJ_163 (by decide +kernel) (ns_aload_n 0 rfl rfl) rfl ?_
    refine nk_p (i := .iload_n 1) (len := 1) (pc' := 12) mJ_163 (by decide +kernel) (ns_iload_n 1 rfl rfl) rfl ?_
    obtain ⟨r1, S2, h3, hr⟩ := nk_bde hr
    refine nk_callV (ci := 13) (n := 1) (x := 174) (len := 3) (j' := 139) (q' := 1) (r := r1) (S' := S2) (L2 := [(0, nk_r l0), (1, nk_i l1)]) (rest := []) (st' := [nk_i r1]) (pc' := 15) mJ_163 (by decide +kernel) (by decide +kernel) rfl rfl t_l0 (Nat.le_of_ble_eq_true rfl) mJ_139 (Nat.le_of_ble_eq_true rfl) rfl (ja_X13_isArray_ok zs _ _ _ _ t_l0 h3) rfl ?_
    refine nk_icond (c := .eq) (off := 14) (len := 3) (t := 29) (pc' := 18) mJ_163 (by decide +kernel) (by decide +kernel) rfl (fun hc => ?_) (fun hc => ?_)
    · have hr := nk_ifp (c := r1 = 0) hc hr
      refine nk_p (i := .aload_n 0) (len := 1) (pc' := 30) mJ_163 (by decide +kernel) (ns_aload_n 0 rfl rfl) rfl ?_
      refine nk_getC (f := (4, 1, 16002)) (x := 30) (len := 3) (ci := 13) (k := 9) (pc' := 33) ja_okT mJ_163 (by decide +kernel) (by decide +kernel) (by decide +kernel) (by decide) t_l0 rfl ?_
      have t4 : nk_ar ja_Tt (ja_c l0 9) = some (1, 16002) := nk_ta ja_okT t_l0 (by decide +kernel)
      refine nk_p (i := .iload_n 1) (len := 1) (pc' := 34) mJ_163 (by decide +kernel) (ns_iload_n 1 rfl rfl) rfl ?_
      obtain ⟨h5, hr⟩ := nk_cke hr
      refine nk_iald (len := 1) (N := 16002) (pc' := 35) mJ_163 (by decide +kernel) t4 h5.1 h5.2 rfl rfl ?_
      exact ja_X13_isType_b35_ok zs _ _ _ _ _ t_l0 hr
    · have hr := nk_ifn (c := r1 = 0) hc hr
      refine nk_p (i := .aload_n 0) (len := 1) (pc' := 19) mJ_163 (by decide +kernel) (ns_aload_n 0 rfl rfl) rfl ?_
      refine nk_getC (f := (4, 1, 16002)) (x := 30) (len := 3) (ci := 13) (k := 9) (pc' := 22) ja_okT mJ_163 (by decide +kernel) (by decide +kernel) (by decide +kernel) (by decide) t_l0 rfl ?_
      have t6 : nk_ar ja_Tt (ja_c l0 9) = some (1, 16002) := nk_ta ja_okT t_l0 (by decide +kernel)
      refine nk_p (i := .iload_n 1) (len := 1) (pc' := 23) mJ_163 (by decide +kernel) (ns_iload_n 1 rfl rfl) rfl ?_
      obtain ⟨h7, hr⟩ := nk_cke hr
      refine nk_iald (len := 1) (N := 16002) (pc' := 24) mJ_163 (by decide +kernel) t6 h7.1 h7.2 rfl rfl ?_
      refine nk_p (i := .iconst 2) (len := 1) (pc' := 25) mJ_163 (by decide +kernel) (ns_iconst (c := 2) (by decide +kernel)) rfl ?_
      refine nk_p (i := .isub) (len := 1) (pc' := 26) mJ_163 (by decide +kernel) ns_isub rfl ?_
      refine nk_p (i := .goto 9) (len := 3) (pc' := 35) mJ_163 (by decide +kernel) (ns_goto (by decide +kernel)) rfl ?_
      exact ja_X13_isType_b35_ok zs _ _ _ _ _ t_l0 hr
  · have hr := nk_ifn (c := l1 < (S.1 l0 10)) hc hr
    refine nk_p (i := .iconst 0) (len := 1) (pc' := 9) mJ_163 (by decide +kernel) (ns_iconst (c := 0) (by decide +kernel)) rfl ?_
    cases hr
    exact nk_iret (ty := .boolean) (len := 1) mJ_163 (by decide +kernel) rfl (nk_nar_z (by decide))
/-! SafeCodeModel isNumber (I)Z -/
noncomputable def ja_X13_isNumber_b73 (rec73 : Nat → Int → Int → nk_S → Option (Int × nk_S)) (l0 : Nat) (l1 : Int) (l3 : Int) (S : nk_S) : Option (Int × nk_S) :=
  if 0 ≤ l1 ∧ l1 < 16002 then
  if (S.1 (ja_c l0 9) l1.toNat) ≤ l3 then
    nk_bd (ja_X13_number l0 l1 S) fun r3 S4 =>
    if r3 < (-2147483648) then
      some (0, S4)
    else
      if 2147483647 < r3 then
        some (0, S4)
      else
        some (1, S4)
  else
    if 0 ≤ l3 ∧ l3 < 16000 then
    if (S.1 (ja_c l0 6) l3.toNat) < 48 then
      some (0, S)
    else
      if (S.1 (ja_c l0 6) l3.toNat) ≤ 57 then
        nk_lt (nk_w (l3 + 1)) fun v8 =>
        rec73 l0 l1 v8 S
      else
        some (0, S)
    else none
  else none
theorem ja_X13_isNumber_b73_ok (zs : List Int32) {rec73 : Nat → Int → Int → nk_S → Option (Int × nk_S)} (hrec73 : ∀ (l0 : Nat) (l1 : Int) (l3 : Int) (S : nk_S) (R : Int × nk_S), nk_cl ja_Tt l0 = some 13 → rec73 l0 l1 l3 S = some R → nk_K ja_Tt mi_Γ (mi_ev zs) 1 154 73 [(0, nk_r l0), (1, nk_i l1), (3, nk_i l3)] [] S R) : ∀ (l0 : Nat) (l1 : Int) (l3 : Int) (S : nk_S) (R : Int × nk_S), nk_cl ja_Tt l0 = some 13 → ja_X13_isNumber_b73 rec73 l0 l1 l3 S = some R → nk_K ja_Tt mi_Γ (mi_ev zs) 1 154 73 [(0, nk_r l0), (1, nk_i l1), (3, nk_i l3)] [] S R := by
  intro l0 l1 l3 S R t_l0 hr
  unfold ja_X13_isNumber_b73 at hr
  refine nk_p (i := .iload_n 3) (len := 1) (pc' := 74) mJ_154 (by decide +kernel) (ns_iload_n 2 rfl rfl) rfl ?_
  refine nk_p (i := .aload_n 0) (len := 1) (pc' := 75) mJ_154 (by decide +kernel) (ns_aload_n 0 rfl rfl) rfl ?_
  refine nk_getC (f := (4, 1, 16002)) (x := 30) (len := 3) (ci := 13) (k := 9) (pc' := 78) ja_okT mJ_154 (by decide +kernel) (by decide +kernel) (by decide +kernel) (by decide) t_l0 rfl ?_
  have t1 : nk_ar ja_Tt (ja_c l0 9) = some (1, 16002) := nk_ta ja_okT t_l0 (by decide +kernel)
  refine nk_p (i := .iload_n 1) (len := 1) (pc' := 79) mJ_154 (by decide +kernel) (ns_iload_n 1 rfl rfl) rfl ?_
  obtain ⟨h2, hr⟩ := nk_cke hr
  refine nk_iald (len := 1) (N := 16002) (pc' := 80) mJ_154 (by decide +kernel) t1 h2.1 h2.2 rfl rfl ?_
  refine nk_icmp (c := .ge) (off := 33) (len := 3) (t := 113) (pc' := 83) mJ_154 (by decide +kernel) (by decide +kernel) rfl (fun hc => ?_) (fun hc => ?_)
  · have hr := nk_ifp (c := (S.1 (ja_c l0 9) l1.toNat) ≤ l3) hc hr
    refine nk_p (i := .aload_n 0) (len := 1) (pc' := 114) mJ_154 (by decide +kernel) (ns_aload_n 0 rfl rfl) rfl ?_
    refine nk_p (i := .iload_n 1) (len := 1) (pc' := 115) mJ_154 (by decide +kernel) (ns_iload_n 1 rfl rfl) rfl ?_
    obtain ⟨r3, S4, h5, hr⟩ := nk_bde hr
    refine nk_callV (ci := 13) (n := 1) (x := 182) (len := 3) (j' := 197) (q' := 2) (r := r3) (S' := S4) (L2 := [(0, nk_r l0), (1, nk_i l1)]) (rest := []) (st' := [nk_l r3]) (pc' := 118) mJ_154 (by decide +kernel) (by decide +kernel) rfl rfl t_l0 (Nat.le_of_ble_eq_true rfl) mJ_197 (Nat.le_of_ble_eq_true rfl) rfl (ja_X13_number_ok zs _ _ _ _ t_l0 h5) rfl ?_
    refine nk_p (i := .lstore_n 3) (len := 1) (pc' := 119) mJ_154 (by decide +kernel) (ns_lstore_n (L' := [(3, nk_l r3), (0, nk_r l0), (1, nk_i l1)]) rfl rfl rfl (by decide +kernel)) rfl ?_
    refine nk_p (i := .lload_n 3) (len := 1) (pc' := 120) mJ_154 (by decide +kernel) (ns_lload_n 0 rfl rfl) rfl ?_
    refine nk_ldc2 (x := 186) (len := 3) (X := (-2147483648)) (v := (-2147483648)) (pc' := 123) mJ_154 (by decide +kernel) (by decide +kernel) (by decide +kernel) rfl ?_
    refine nk_p (i := .lcmp) (len := 1) (pc' := 124) mJ_154 (by decide +kernel) ns_lcmp rfl ?_
    refine nk_lcond (c := .lt) (off := 15) (len := 3) (t := 139) (pc' := 127) mJ_154 (by decide +kernel) (by decide +kernel) rfl (fun hc => ?_) (fun hc => ?_)
    · have hr := nk_ifp (c := r3 < (-2147483648)) hc hr
      refine nk_p (i := .iconst 0) (len := 1) (pc' := 140) mJ_154 (by decide +kernel) (ns_iconst (c := 0) (by decide +kernel)) rfl ?_
      cases hr
      exact nk_iret (ty := .boolean) (len := 1) mJ_154 (by decide +kernel) rfl (nk_nar_z (by decide))
    · have hr := nk_ifn (c := r3 < (-2147483648)) hc hr
      refine nk_p (i := .lload_n 3) (len := 1) (pc' := 128) mJ_154 (by decide +kernel) (ns_lload_n 0 rfl rfl) rfl ?_
      refine nk_ldc2 (x := 188) (len := 3) (X := 2147483647) (v := 2147483647) (pc' := 131) mJ_154 (by decide +kernel) (by decide +kernel) (by decide +kernel) rfl ?_
      refine nk_p (i := .lcmp) (len := 1) (pc' := 132) mJ_154 (by decide +kernel) ns_lcmp rfl ?_
      refine nk_lcond (c := .gt) (off := 7) (len := 3) (t := 139) (pc' := 135) mJ_154 (by decide +kernel) (by decide +kernel) rfl (fun hc => ?_) (fun hc => ?_)
      · have hr := nk_ifp (c := 2147483647 < r3) hc hr
        refine nk_p (i := .iconst 0) (len := 1) (pc' := 140) mJ_154 (by decide +kernel) (ns_iconst (c := 0) (by decide +kernel)) rfl ?_
        cases hr
        exact nk_iret (ty := .boolean) (len := 1) mJ_154 (by decide +kernel) rfl (nk_nar_z (by decide))
      · have hr := nk_ifn (c := 2147483647 < r3) hc hr
        refine nk_p (i := .iconst 1) (len := 1) (pc' := 136) mJ_154 (by decide +kernel) (ns_iconst (c := 1) (by decide +kernel)) rfl ?_
        refine nk_p (i := .goto 4) (len := 3) (pc' := 140) mJ_154 (by decide +kernel) (ns_goto (by decide +kernel)) rfl ?_
        cases hr
        exact nk_iret (ty := .boolean) (len := 1) mJ_154 (by decide +kernel) rfl (nk_nar_z (by decide))
  · have hr := nk_ifn (c := (S.1 (ja_c l0 9) l1.toNat) ≤ l3) hc hr
    refine nk_p (i := .aload_n 0) (len := 1) (pc' := 84) mJ_154 (by decide +kernel) (ns_aload_n 0 rfl rfl) rfl ?_
    refine nk_getC (f := (4, 0, 16000)) (x := 23) (len := 3) (ci := 13) (k := 6) (pc' := 87) ja_okT mJ_154 (by decide +kernel) (by decide +kernel) (by decide +kernel) (by decide) t_l0 rfl ?_
    have t6 : nk_ar ja_Tt (ja_c l0 6) = some (0, 16000) := nk_ta ja_okT t_l0 (by decide +kernel)
    refine nk_p (i := .iload_n 3) (len := 1) (pc' := 88) mJ_154 (by decide +kernel) (ns_iload_n 2 rfl rfl) rfl ?_
    obtain ⟨h7, hr⟩ := nk_cke hr
    refine nk_bald (t := 0) (len := 1) (N := 16000) (pc' := 89) mJ_154 (by decide +kernel) t6 (by decide) h7.1 h7.2 rfl rfl ?_
    refine nk_p (i := .bipush 48) (len := 2) (pc' := 91) mJ_154 (by decide +kernel) (ns_bipush (c := 48) (by decide +kernel)) rfl ?_
    refine nk_icmp (c := .lt) (off := 14) (len := 3) (t := 105) (pc' := 94) mJ_154 (by decide +kernel) (by decide +kernel) rfl (fun hc => ?_) (fun hc => ?_)
    · have hr := nk_ifp (c := (S.1 (ja_c l0 6) l3.toNat) < 48) hc hr
      refine nk_p (i := .iconst 0) (len := 1) (pc' := 106) mJ_154 (by decide +kernel) (ns_iconst (c := 0) (by decide +kernel)) rfl ?_
      cases hr
      exact nk_iret (ty := .boolean) (len := 1) mJ_154 (by decide +kernel) rfl (nk_nar_z (by decide))
    · have hr := nk_ifn (c := (S.1 (ja_c l0 6) l3.toNat) < 48) hc hr
      refine nk_p (i := .aload_n 0) (len := 1) (pc' := 95) mJ_154 (by decide +kernel) (ns_aload_n 0 rfl rfl) rfl ?_
      refine nk_getC (f := (4, 0, 16000)) (x := 23) (len := 3) (ci := 13) (k := 6) (pc' := 98) ja_okT mJ_154 (by decide +kernel) (by decide +kernel) (by decide +kernel) (by decide) t_l0 rfl ?_
      refine nk_p (i := .iload_n 3) (len := 1) (pc' := 99) mJ_154 (by decide +kernel) (ns_iload_n 2 rfl rfl) rfl ?_
      refine nk_bald (t := 0) (len := 1) (N := 16000) (pc' := 100) mJ_154 (by decide +kernel) t6 (by decide) h7.1 h7.2 rfl rfl ?_
      refine nk_p (i := .bipush 57) (len := 2) (pc' := 102) mJ_154 (by decide +kernel) (ns_bipush (c := 57) (by decide +kernel)) rfl ?_
      refine nk_icmp (c := .le) (off := 5) (len := 3) (t := 107) (pc' := 105) mJ_154 (by decide +kernel) (by decide +kernel) rfl (fun hc => ?_) (fun hc => ?_)
      · have hr := nk_ifp (c := (S.1 (ja_c l0 6) l3.toNat) ≤ 57) hc hr
        obtain ⟨v8, h9, hr⟩ := nk_lte hr
        refine nk_p (i := .iinc 3 1) (len := 3) (pc' := 110) mJ_154 (by decide +kernel) (ns_iinc (c := 1) (L' := [(3, nk_i v8), (0, nk_r l0), (1, nk_i l1)]) 2 rfl (by decide +kernel) h9 rfl (by decide +kernel)) rfl ?_
        refine nk_p (i := .goto (-37)) (len := 3) (pc' := 73) mJ_154 (by decide +kernel) (ns_goto (by decide +kernel)) rfl ?_
        refine nk_sub [1, 2, 0] (L' := [(0, nk_r l0), (1, nk_i l1), (3, nk_i v8)]) rfl ?_
        exact hrec73 _ _ _ _ _ t_l0 hr
      · have hr := nk_ifn (c := (S.1 (ja_c l0 6) l3.toNat) ≤ 57) hc hr
        refine nk_p (i := .iconst 0) (len := 1) (pc' := 106) mJ_154 (by decide +kernel) (ns_iconst (c := 0) (by decide +kernel)) rfl ?_
        cases hr
        exact nk_iret (ty := .boolean) (len := 1) mJ_154 (by decide +kernel) rfl (nk_nar_z (by decide))
noncomputable def ja_X13_isNumber_L73 : Nat → Nat → Int → Int → nk_S → Option (Int × nk_S)
  | 0, _, _, _, _ => none
  | n + 1, l0, l1, l3, S => ja_X13_isNumber_b73 (ja_X13_isNumber_L73 n) l0 l1 l3 S
theorem ja_X13_isNumber_L73_ok (zs : List Int32) : ∀ n : Nat, ∀ (l0 : Nat) (l1 : Int) (l3 : Int) (S : nk_S) (R : Int × nk_S), nk_cl ja_Tt l0 = some 13 → ja_X13_isNumber_L73 n l0 l1 l3 S = some R → nk_K ja_Tt mi_Γ (mi_ev zs) 1 154 73 [(0, nk_r l0), (1, nk_i l1), (3, nk_i l3)] [] S R := by
  intro n
  induction n with
  | zero => intro _ _ _ _ _ _ hr; cases hr
  | succ n ih => intro l0 l1 l3 S R t_l0 hr; exact ja_X13_isNumber_b73_ok zs ih l0 l1 l3 S R t_l0 hr
noncomputable def ja_X13_isNumber_b43 (l0 : Nat) (l1 : Int) (s0 : Int) (S : nk_S) : Option (Int × nk_S) :=
  if 0 ≤ l1 ∧ l1 < 16002 then
  if (nk_w ((S.1 (ja_c l0 9) l1.toNat) - s0)) < 1 then
    some (0, S)
  else
    if (nk_w ((S.1 (ja_c l0 9) l1.toNat) - s0)) ≤ 10 then
      ja_X13_isNumber_L73 nk_big l0 l1 s0 S
    else
      some (0, S)
  else none
theorem ja_X13_isNumber_b43_ok (zs : List Int32) : ∀ (l0 : Nat) (l1 : Int) (s0 : Int) (S : nk_S) (R : Int × nk_S), nk_cl ja_Tt l0 = some 13 → ja_X13_isNumber_b43 l0 l1 s0 S = some R → nk_K ja_Tt mi_Γ (mi_ev zs) 1 154 43 [(0, nk_r l0), (1, nk_i l1)] [nk_i s0] S R := by
  intro l0 l1 s0 S R t_l0 hr
  unfold ja_X13_isNumber_b43 at hr
  refine nk_p (i := .istore_n 2) (len := 1) (pc' := 44) mJ_154 (by decide +kernel) (ns_istore_n (L' := [(2, nk_i s0), (0, nk_r l0), (1, nk_i l1)]) rfl rfl rfl (by decide +kernel)) rfl ?_
  refine nk_p (i := .aload_n 0) (len := 1) (pc' := 45) mJ_154 (by decide +kernel) (ns_aload_n 1 rfl rfl) rfl ?_
  refine nk_getC (f := (4, 1, 16002)) (x := 30) (len := 3) (ci := 13) (k := 9) (pc' := 48) ja_okT mJ_154 (by decide +kernel) (by decide +kernel) (by decide +kernel) (by decide) t_l0 rfl ?_
  have t1 : nk_ar ja_Tt (ja_c l0 9) = some (1, 16002) := nk_ta ja_okT t_l0 (by decide +kernel)
  refine nk_p (i := .iload_n 1) (len := 1) (pc' := 49) mJ_154 (by decide +kernel) (ns_iload_n 2 rfl rfl) rfl ?_
  obtain ⟨h2, hr⟩ := nk_cke hr
  refine nk_iald (len := 1) (N := 16002) (pc' := 50) mJ_154 (by decide +kernel) t1 h2.1 h2.2 rfl rfl ?_
  refine nk_p (i := .iload_n 2) (len := 1) (pc' := 51) mJ_154 (by decide +kernel) (ns_iload_n 0 rfl rfl) rfl ?_
  refine nk_p (i := .isub) (len := 1) (pc' := 52) mJ_154 (by decide +kernel) ns_isub rfl ?_
  refine nk_p (i := .iconst 1) (len := 1) (pc' := 53) mJ_154 (by decide +kernel) (ns_iconst (c := 1) (by decide +kernel)) rfl ?_
  refine nk_icmp (c := .lt) (off := 16) (len := 3) (t := 69) (pc' := 56) mJ_154 (by decide +kernel) (by decide +kernel) rfl (fun hc => ?_) (fun hc => ?_)
  · have hr := nk_ifp (c := (nk_w ((S.1 (ja_c l0 9) l1.toNat) - s0)) < 1) hc hr
    refine nk_p (i := .iconst 0) (len := 1) (pc' := 70) mJ_154 (by decide +kernel) (ns_iconst (c := 0) (by decide +kernel)) rfl ?_
    cases hr
    exact nk_iret (ty := .boolean) (len := 1) mJ_154 (by decide +kernel) rfl (nk_nar_z (by decide))
  · have hr := nk_ifn (c := (nk_w ((S.1 (ja_c l0 9) l1.toNat) - s0)) < 1) hc hr
    refine nk_p (i := .aload_n 0) (len := 1) (pc' := 57) mJ_154 (by decide +kernel) (ns_aload_n 1 rfl rfl) rfl ?_
    refine nk_getC (f := (4, 1, 16002)) (x := 30) (len := 3) (ci := 13) (k := 9) (pc' := 60) ja_okT mJ_154 (by decide +kernel) (by decide +kernel) (by decide +kernel) (by decide) t_l0 rfl ?_
    refine nk_p (i := .iload_n 1) (len := 1) (pc' := 61) mJ_154 (by decide +kernel) (ns_iload_n 2 rfl rfl) rfl ?_
    refine nk_iald (len := 1) (N := 16002) (pc' := 62) mJ_154 (by decide +kernel) t1 h2.1 h2.2 rfl rfl ?_
    refine nk_p (i := .iload_n 2) (len := 1) (pc' := 63) mJ_154 (by decide +kernel) (ns_iload_n 0 rfl rfl) rfl ?_
    refine nk_p (i := .isub) (len := 1) (pc' := 64) mJ_154 (by decide +kernel) ns_isub rfl ?_
    refine nk_p (i := .bipush 10) (len := 2) (pc' := 66) mJ_154 (by decide +kernel) (ns_bipush (c := 10) (by decide +kernel)) rfl ?_
    refine nk_icmp (c := .le) (off := 5) (len := 3) (t := 71) (pc' := 69) mJ_154 (by decide +kernel) (by decide +kernel) rfl (fun hc => ?_) (fun hc => ?_)
    · have hr := nk_ifp (c := (nk_w ((S.1 (ja_c l0 9) l1.toNat) - s0)) ≤ 10) hc hr
      refine nk_p (i := .iload_n 2) (len := 1) (pc' := 72) mJ_154 (by decide +kernel) (ns_iload_n 0 rfl rfl) rfl ?_
      refine nk_p (i := .istore_n 3) (len := 1) (pc' := 73) mJ_154 (by decide +kernel) (ns_istore_n (L' := [(3, nk_i s0), (2, nk_i s0), (0, nk_r l0), (1, nk_i l1)]) rfl rfl rfl (by decide +kernel)) rfl ?_
      refine nk_sub [2, 3, 0] (L' := [(0, nk_r l0), (1, nk_i l1), (3, nk_i s0)]) rfl ?_
      exact ja_X13_isNumber_L73_ok zs nk_big _ _ _ _ _ t_l0 hr
    · have hr := nk_ifn (c := (nk_w ((S.1 (ja_c l0 9) l1.toNat) - s0)) ≤ 10) hc hr
      refine nk_p (i := .iconst 0) (len := 1) (pc' := 70) mJ_154 (by decide +kernel) (ns_iconst (c := 0) (by decide +kernel)) rfl ?_
      cases hr
      exact nk_iret (ty := .boolean) (len := 1) mJ_154 (by decide +kernel) rfl (nk_nar_z (by decide))
noncomputable def ja_X13_isNumber (l0 : Nat) (l1 : Int) (S : nk_S) : Option (Int × nk_S) :=
  if l1 < (S.1 l0 10) then
    if 0 ≤ l1 ∧ l1 < 16002 then
    if 0 ≤ (S.1 (ja_c l0 8) l1.toNat) ∧ (S.1 (ja_c l0 8) l1.toNat) < 16000 then
    if (S.1 (ja_c l0 6) (S.1 (ja_c l0 8) l1.toNat).toNat) = 45 then
      ja_X13_isNumber_b43 l0 l1 (nk_w ((S.1 (ja_c l0 8) l1.toNat) + 1)) S
    else
      ja_X13_isNumber_b43 l0 l1 (S.1 (ja_c l0 8) l1.toNat) S
    else none
    else none
  else
    some (0, S)
theorem ja_X13_isNumber_ok (zs : List Int32) : ∀ (l0 : Nat) (l1 : Int) (S : nk_S) (R : Int × nk_S), nk_cl ja_Tt l0 = some 13 → ja_X13_isNumber l0 l1 S = some R → nk_K ja_Tt mi_Γ (mi_ev zs) 1 154 0 [(0, nk_r l0), (1, nk_i l1)] [] S R := by
  intro l0 l1 S R t_l0 hr
  unfold ja_X13_isNumber at hr
  refine nk_p (i := .iload_n 1) (len := 1) (pc' := 1) mJ_154 (by decide +kernel) (ns_iload_n 1 rfl rfl) rfl ?_
  refine nk_p (i := .aload_n 0) (len := 1) (pc' := 2) mJ_154 (by decide +kernel) (ns_aload_n 0 rfl rfl) rfl ?_
  refine nk_getI (y := (0, 0)) (x := 155) (len := 3) (ci := 13) (k := 10) (pc' := 5) ja_okT mJ_154 (by decide +kernel) (by decide +kernel) (by decide +kernel) t_l0 rfl ?_
  refine nk_icmp (c := .lt) (off := 5) (len := 3) (t := 10) (pc' := 8) mJ_154 (by decide +kernel) (by decide +kernel) rfl (fun hc => ?_) (fun hc => ?_)
  · have hr := nk_ifp (c := l1 < (S.1 l0 10)) hc hr
    refine nk_p (i := .aload_n 0) (len := 1) (pc' := 11) mJ_154 (by decide +kernel) (ns_aload_n 0 rfl rfl) rfl ?_
    refine nk_getC (f := (4, 0, 16000)) (x := 23) (len := 3) (ci := 13) (k := 6) (pc' := 14) ja_okT mJ_154 (by decide +kernel) (by decide +kernel) (by decide +kernel) (by decide) t_l0 rfl ?_
    have t1 : nk_ar ja_Tt (ja_c l0 6) = some (0, 16000) := nk_ta ja_okT t_l0 (by decide +kernel)
    refine nk_p (i := .aload_n 0) (len := 1) (pc' := 15) mJ_154 (by decide +kernel) (ns_aload_n 0 rfl rfl) rfl ?_
    refine nk_getC (f := (4, 1, 16002)) (x := 26) (len := 3) (ci := 13) (k := 8) (pc' := 18) ja_okT mJ_154 (by decide +kernel) (by decide +kernel) (by decide +kernel) (by decide) t_l0 rfl ?_
    have t2 : nk_ar ja_Tt (ja_c l0 8) = some (1, 16002) := nk_ta ja_okT t_l0 (by decide +kernel)
    refine nk_p (i := .iload_n 1) (len := 1) (pc' := 19) mJ_154 (by decide +kernel) (ns_iload_n 1 rfl rfl) rfl ?_
    obtain ⟨h3, hr⟩ := nk_cke hr
    refine nk_iald (len := 1) (N := 16002) (pc' := 20) mJ_154 (by decide +kernel) t2 h3.1 h3.2 rfl rfl ?_
    obtain ⟨h4, hr⟩ := nk_cke hr
    refine nk_bald (t := 0) (len := 1) (N := 16000) (pc' := 21) mJ_154 (by decide +kernel) t1 (by decide) h4.1 h4.2 rfl rfl ?_
    refine nk_p (i := .bipush 45) (len := 2) (pc' := 23) mJ_154 (by decide +kernel) (ns_bipush (c := 45) (by decide +kernel)) rfl ?_
    refine nk_icmp (c := .ne) (off := 14) (len := 3) (t := 37) (pc' := 26) mJ_154 (by decide +kernel) (by decide +kernel) rfl (fun hc => ?_) (fun hc => ?_)
    · have hr := nk_ifn (c := (S.1 (ja_c l0 6) (S.1 (ja_c l0 8) l1.toNat).toNat) = 45) hc hr
      refine nk_p (i := .aload_n 0) (len := 1) (pc' := 38) mJ_154 (by decide +kernel) (ns_aload_n 0 rfl rfl) rfl ?_
      refine nk_getC (f := (4, 1, 16002)) (x := 26) (len := 3) (ci := 13) (k := 8) (pc' := 41) ja_okT mJ_154 (by decide +kernel) (by decide +kernel) (by decide +kernel) (by decide) t_l0 rfl ?_
      refine nk_p (i := .iload_n 1) (len := 1) (pc' := 42) mJ_154 (by decide +kernel) (ns_iload_n 1 rfl rfl) rfl ?_
      refine nk_iald (len := 1) (N := 16002) (pc' := 43) mJ_154 (by decide +kernel) t2 h3.1 h3.2 rfl rfl ?_
      exact ja_X13_isNumber_b43_ok zs _ _ _ _ _ t_l0 hr
    · have hr := nk_ifp (c := (S.1 (ja_c l0 6) (S.1 (ja_c l0 8) l1.toNat).toNat) = 45) (Decidable.of_not_not hc) hr
      refine nk_p (i := .aload_n 0) (len := 1) (pc' := 27) mJ_154 (by decide +kernel) (ns_aload_n 0 rfl rfl) rfl ?_
      refine nk_getC (f := (4, 1, 16002)) (x := 26) (len := 3) (ci := 13) (k := 8) (pc' := 30) ja_okT mJ_154 (by decide +kernel) (by decide +kernel) (by decide +kernel) (by decide) t_l0 rfl ?_
      refine nk_p (i := .iload_n 1) (len := 1) (pc' := 31) mJ_154 (by decide +kernel) (ns_iload_n 1 rfl rfl) rfl ?_
      refine nk_iald (len := 1) (N := 16002) (pc' := 32) mJ_154 (by decide +kernel) t2 h3.1 h3.2 rfl rfl ?_
      refine nk_p (i := .iconst 1) (len := 1) (pc' := 33) mJ_154 (by decide +kernel) (ns_iconst (c := 1) (by decide +kernel)) rfl ?_
      refine nk_p (i := .iadd) (len := 1) (pc' := 34) mJ_154 (by decide +kernel) ns_iadd rfl ?_
      refine nk_p (i := .goto 9) (len := 3) (pc' := 43) mJ_154 (by decide +kernel) (ns_goto (by decide +kernel)) rfl ?_
      exact ja_X13_isNumber_b43_ok zs _ _ _ _ _ t_l0 hr
  · have hr := nk_ifn (c := l1 < (S.1 l0 10)) hc hr
    refine nk_p (i := .iconst 0) (len := 1) (pc' := 9) mJ_154 (by decide +kernel) (ns_iconst (c := 0) (by decide +kernel)) rfl ?_
    cases hr
    exact nk_iret (ty := .boolean) (len := 1) mJ_154 (by decide +kernel) rfl (nk_nar_z (by decide))
/-! SafeCodeModel isLabel (I)Z -/
noncomputable def ja_X13_isLabel (l0 : Nat) (l1 : Int) (S : nk_S) : Option (Int × nk_S) :=
  nk_bd (ja_X13_is l0 (nk_w (l1 + 1)) 27 S) fun r1 S2 =>
  if r1 = 0 ∨ r1 = 1 then
  some (r1, S2)
  else none
theorem ja_X13_isLabel_ok (zs : List Int32) : ∀ (l0 : Nat) (l1 : Int) (S : nk_S) (R : Int × nk_S), nk_cl ja_Tt l0 = some 13 → ja_X13_isLabel l0 l1 S = some R → nk_K ja_Tt mi_Γ (mi_ev zs) 1 150 0 [(0, nk_r l0), (1, nk_i l1)] [] S R := by
  intro l0 l1 S R t_l0 hr
  unfold ja_X13_isLabel at hr
  refine nk_p (i := .aload_n 0) (len := 1) (pc' := 1) mJ_150 (by decide +kernel) (ns_aload_n 0 rfl rfl) rfl ?_
  refine nk_p (i := .iload_n 1) (len := 1) (pc' := 2) mJ_150 (by decide +kernel) (ns_iload_n 1 rfl rfl) rfl ?_
  refine nk_p (i := .iconst 1) (len := 1) (pc' := 3) mJ_150 (by decide +kernel) (ns_iconst (c := 1) (by decide +kernel)) rfl ?_
  refine nk_p (i := .iadd) (len := 1) (pc' := 4) mJ_150 (by decide +kernel) ns_iadd rfl ?_
  refine nk_ldct (x := 244) (len := 2) (k := 27) (s := ":") (pc' := 6) mJ_150 (by decide +kernel) (by decide +kernel) (by decide +kernel) rfl ?_
  obtain ⟨r1, S2, h3, hr⟩ := nk_bde hr
  refine nk_callV (ci := 13) (n := 2) (x := 199) (len := 3) (j' := 138) (q' := 1) (r := r1) (S' := S2) (L2 := [(0, nk_r l0), (1, nk_i (nk_w (l1 + 1))), (2, nk_o 27)]) (rest := []) (st' := [nk_i r1]) (pc' := 9) mJ_150 (by decide +kernel) (by decide +kernel) rfl rfl t_l0 (Nat.le_of_ble_eq_true rfl) mJ_138 (Nat.le_of_ble_eq_true rfl) rfl (ja_X13_is_ok zs _ _ _ _ _ t_l0 (ja_tx27 zs) h3) rfl ?_
  obtain ⟨h4, hr⟩ := nk_cke hr
  cases hr
  exact nk_iret (ty := .boolean) (len := 1) mJ_150 (by decide +kernel) rfl (nk_nar_z h4)
/-! SafeCodeModel isReference (I)Z -/
noncomputable def ja_X13_isReference (l0 : Nat) (l1 : Int) (S : nk_S) : Option (Int × nk_S) :=
  if l1 < (S.1 l0 10) then
    nk_bd (ja_X13_point l0 l1 S) fun r1 S2 =>
    if 0 ≤ l1 ∧ l1 < 16002 then
    nk_bd (ja_X13_isName l0 (S2.1 (ja_c l0 8) l1.toNat) r1 65 90 S2) fun r6 S7 =>
    if r6 = 0 then
      some (0, S7)
    else
      nk_bd (ja_X13_isName l0 (nk_w (r1 + 1)) (S7.1 (ja_c l0 9) l1.toNat) 97 122 S7) fun r10 S11 =>
      if r10 = 0 then
        some (0, S11)
      else
        some (1, S11)
    else none
  else
    some (0, S)
theorem ja_X13_isReference_ok (zs : List Int32) : ∀ (l0 : Nat) (l1 : Int) (S : nk_S) (R : Int × nk_S), nk_cl ja_Tt l0 = some 13 → ja_X13_isReference l0 l1 S = some R → nk_K ja_Tt mi_Γ (mi_ev zs) 1 157 0 [(0, nk_r l0), (1, nk_i l1)] [] S R := by
  intro l0 l1 S R t_l0 hr
  unfold ja_X13_isReference at hr
  refine nk_p (i := .iload_n 1) (len := 1) (pc' := 1) mJ_157 (by decide +kernel) (ns_iload_n 1 rfl rfl) rfl ?_
  refine nk_p (i := .aload_n 0) (len := 1) (pc' := 2) mJ_157 (by decide +kernel) (ns_aload_n 0 rfl rfl) rfl ?_
  refine nk_getI (y := (0, 0)) (x := 155) (len := 3) (ci := 13) (k := 10) (pc' := 5) ja_okT mJ_157 (by decide +kernel) (by decide +kernel) (by decide +kernel) t_l0 rfl ?_
  refine nk_icmp (c := .lt) (off := 5) (len := 3) (t := 10) (pc' := 8) mJ_157 (by decide +kernel) (by decide +kernel) rfl (fun hc => ?_) (fun hc => ?_)
  · have hr := nk_ifp (c := l1 < (S.1 l0 10)) hc hr
    refine nk_p (i := .aload_n 0) (len := 1) (pc' := 11) mJ_157 (by decide +kernel) (ns_aload_n 0 rfl rfl) rfl ?_
    refine nk_p (i := .iload_n 1) (len := 1) (pc' := 12) mJ_157 (by decide +kernel) (ns_iload_n 1 rfl rfl) rfl ?_
    obtain ⟨r1, S2, h3, hr⟩ := nk_bde hr
    refine nk_callV (ci := 13) (n := 1) (x := 178) (len := 3) (j' := 207) (q' := 1) (r := r1) (S' := S2) (L2 := [(0, nk_r l0), (1, nk_i l1)]) (rest := []) (st' := [nk_i r1]) (pc' := 15) mJ_157 (by decide +kernel) (by decide +kernel) rfl rfl t_l0 (Nat.le_of_ble_eq_true rfl) mJ_207 (Nat.le_of_ble_eq_true rfl) rfl (ja_X13_point_ok zs _ _ _ _ t_l0 h3) rfl ?_
    refine nk_p (i := .istore_n 2) (len := 1) (pc' := 16) mJ_157 (by decide +kernel) (ns_istore_n (L' := [(2, nk_i r1), (0, nk_r l0), (1, nk_i l1)]) rfl rfl rfl (by decide +kernel)) rfl ?_
    refine nk_p (i := .aload_n 0) (len := 1) (pc' := 17) mJ_157 (by decide +kernel) (ns_aload_n 1 rfl rfl) rfl ?_
    refine nk_p (i := .aload_n 0) (len := 1) (pc' := 18) mJ_157 (by decide +kernel) (ns_aload_n 1 rfl rfl) rfl ?_
    refine nk_getC (f := (4, 1, 16002)) (x := 26) (len := 3) (ci := 13) (k := 8) (pc' := 21) ja_okT mJ_157 (by decide +kernel) (by decide +kernel) (by decide +kernel) (by decide) t_l0 rfl ?_
    have t4 : nk_ar ja_Tt (ja_c l0 8) = some (1, 16002) := nk_ta ja_okT t_l0 (by decide +kernel)
    refine nk_p (i := .iload_n 1) (len := 1) (pc' := 22) mJ_157 (by decide +kernel) (ns_iload_n 2 rfl rfl) rfl ?_
    obtain ⟨h5, hr⟩ := nk_cke hr
    refine nk_iald (len := 1) (N := 16002) (pc' := 23) mJ_157 (by decide +kernel) t4 h5.1 h5.2 rfl rfl ?_
    refine nk_p (i := .iload_n 2) (len := 1) (pc' := 24) mJ_157 (by decide +kernel) (ns_iload_n 0 rfl rfl) rfl ?_
    refine nk_p (i := .bipush 65) (len := 2) (pc' := 26) mJ_157 (by decide +kernel) (ns_bipush (c := 65) (by decide +kernel)) rfl ?_
    refine nk_p (i := .bipush 90) (len := 2) (pc' := 28) mJ_157 (by decide +kernel) (ns_bipush (c := 90) (by decide +kernel)) rfl ?_
    obtain ⟨r6, S7, h8, hr⟩ := nk_bde hr
    refine nk_callV (ci := 13) (n := 4) (x := 171) (len := 3) (j' := 153) (q' := 1) (r := r6) (S' := S7) (L2 := [(0, nk_r l0), (1, nk_i (S2.1 (ja_c l0 8) l1.toNat)), (2, nk_i r1), (3, nk_i 65), (4, nk_i 90)]) (rest := []) (st' := [nk_i r6]) (pc' := 31) mJ_157 (by decide +kernel) (by decide +kernel) rfl rfl t_l0 (Nat.le_of_ble_eq_true rfl) mJ_153 (Nat.le_of_ble_eq_true rfl) rfl (ja_X13_isName_ok zs _ _ _ _ _ _ _ t_l0 h8) rfl ?_
    refine nk_icond (c := .eq) (off := 27) (len := 3) (t := 58) (pc' := 34) mJ_157 (by decide +kernel) (by decide +kernel) rfl (fun hc => ?_) (fun hc => ?_)
    · have hr := nk_ifp (c := r6 = 0) hc hr
      refine nk_p (i := .iconst 0) (len := 1) (pc' := 59) mJ_157 (by decide +kernel) (ns_iconst (c := 0) (by decide +kernel)) rfl ?_
      cases hr
      exact nk_iret (ty := .boolean) (len := 1) mJ_157 (by decide +kernel) rfl (nk_nar_z (by decide))
    · have hr := nk_ifn (c := r6 = 0) hc hr
      refine nk_p (i := .aload_n 0) (len := 1) (pc' := 35) mJ_157 (by decide +kernel) (ns_aload_n 1 rfl rfl) rfl ?_
      refine nk_p (i := .iload_n 2) (len := 1) (pc' := 36) mJ_157 (by decide +kernel) (ns_iload_n 0 rfl rfl) rfl ?_
      refine nk_p (i := .iconst 1) (len := 1) (pc' := 37) mJ_157 (by decide +kernel) (ns_iconst (c := 1) (by decide +kernel)) rfl ?_
      refine nk_p (i := .iadd) (len := 1) (pc' := 38) mJ_157 (by decide +kernel) ns_iadd rfl ?_
      refine nk_p (i := .aload_n 0) (len := 1) (pc' := 39) mJ_157 (by decide +kernel) (ns_aload_n 1 rfl rfl) rfl ?_
      refine nk_getC (f := (4, 1, 16002)) (x := 30) (len := 3) (ci := 13) (k := 9) (pc' := 42) ja_okT mJ_157 (by decide +kernel) (by decide +kernel) (by decide +kernel) (by decide) t_l0 rfl ?_
      have t9 : nk_ar ja_Tt (ja_c l0 9) = some (1, 16002) := nk_ta ja_okT t_l0 (by decide +kernel)
      refine nk_p (i := .iload_n 1) (len := 1) (pc' := 43) mJ_157 (by decide +kernel) (ns_iload_n 2 rfl rfl) rfl ?_
      refine nk_iald (len := 1) (N := 16002) (pc' := 44) mJ_157 (by decide +kernel) t9 h5.1 h5.2 rfl rfl ?_
      refine nk_p (i := .bipush 97) (len := 2) (pc' := 46) mJ_157 (by decide +kernel) (ns_bipush (c := 97) (by decide +kernel)) rfl ?_
      refine nk_p (i := .bipush 122) (len := 2) (pc' := 48) mJ_157 (by decide +kernel) (ns_bipush (c := 122) (by decide +kernel)) rfl ?_
      obtain ⟨r10, S11, h12, hr⟩ := nk_bde hr
      refine nk_callV (ci := 13) (n := 4) (x := 171) (len := 3) (j' := 153) (q' := 1) (r := r10) (S' := S11) (L2 := [(0, nk_r l0), (1, nk_i (nk_w (r1 + 1))), (2, nk_i (S7.1 (ja_c l0 9) l1.toNat)), (3, nk_i 97), (4, nk_i 122)]) (rest := []) (st' := [nk_i r10]) (pc' := 51) mJ_157 (by decide +kernel) (by decide +kernel) rfl rfl t_l0 (Nat.le_of_ble_eq_true rfl) mJ_153 (Nat.le_of_ble_eq_true rfl) rfl (ja_X13_isName_ok zs _ _ _ _ _ _ _ t_l0 h12) rfl ?_
      refine nk_icond (c := .eq) (off := 7) (len := 3) (t := 58) (pc' := 54) mJ_157 (by decide +kernel) (by decide +kernel) rfl (fun hc => ?_) (fun hc => ?_)
      · have hr := nk_ifp (c := r10 = 0) hc hr
        refine nk_p (i := .iconst 0) (len := 1) (pc' := 59) mJ_157 (by decide +kernel) (ns_iconst (c := 0) (by decide +kernel)) rfl ?_
        cases hr
        exact nk_iret (ty := .boolean) (len := 1) mJ_157 (by decide +kernel) rfl (nk_nar_z (by decide))
      · have hr := nk_ifn (c := r10 = 0) hc hr
        refine nk_p (i := .iconst 1) (len := 1) (pc' := 55) mJ_157 (by decide +kernel) (ns_iconst (c := 1) (by decide +kernel)) rfl ?_
        refine nk_p (i := .goto 4) (len := 3) (pc' := 59) mJ_157 (by decide +kernel) (ns_goto (by decide +kernel)) rfl ?_
        cases hr
        exact nk_iret (ty := .boolean) (len := 1) mJ_157 (by decide +kernel) rfl (nk_nar_z (by decide))
  · have hr := nk_ifn (c := l1 < (S.1 l0 10)) hc hr
    refine nk_p (i := .iconst 0) (len := 1) (pc' := 9) mJ_157 (by decide +kernel) (ns_iconst (c := 0) (by decide +kernel)) rfl ?_
    cases hr
    exact nk_iret (ty := .boolean) (len := 1) mJ_157 (by decide +kernel) rfl (nk_nar_z (by decide))
/-! SafeCodeModel isLine ()Z -/
noncomputable def ja_X13_isLine_b382 (s0 : Nat) (s1 : Int) (S : nk_S) : Option (Int × nk_S) :=
  nk_bd (ja_X13_takes s0 s1 S) fun r1 S2 =>
  if r1 = 0 ∨ r1 = 1 then
  some (r1, S2)
  else none
theorem ja_X13_isLine_b382_ok (zs : List Int32) : ∀ (s0 : Nat) (s1 : Int) (S : nk_S) (R : Int × nk_S), nk_cl ja_Tt s0 = some 13 → ja_X13_isLine_b382 s0 s1 S = some R → nk_K ja_Tt mi_Γ (mi_ev zs) 1 151 382 [] [nk_i s1, nk_r s0] S R := by
  intro s0 s1 S R t_s0 hr
  unfold ja_X13_isLine_b382 at hr
  obtain ⟨r1, S2, h3, hr⟩ := nk_bde hr
  refine nk_callV (ci := 13) (n := 1) (x := 203) (len := 3) (j' := 231) (q' := 1) (r := r1) (S' := S2) (L2 := [(0, nk_r s0), (1, nk_i s1)]) (rest := []) (st' := [nk_i r1]) (pc' := 385) mJ_151 (by decide +kernel) (by decide +kernel) rfl rfl t_s0 (Nat.le_of_ble_eq_true rfl) mJ_231 (Nat.le_of_ble_eq_true rfl) rfl (ja_X13_takes_ok zs _ _ _ _ t_s0 h3) rfl ?_
  obtain ⟨h4, hr⟩ := nk_cke hr
  cases hr
  exact nk_iret (ty := .boolean) (len := 1) mJ_151 (by decide +kernel) rfl (nk_nar_z h4)
noncomputable def ja_X13_isLine_b377 (s0 : Nat) (S : nk_S) : Option (Int × nk_S) :=
  ja_X13_isLine_b382 s0 1 S
theorem ja_X13_isLine_b377_ok (zs : List Int32) : ∀ (s0 : Nat) (S : nk_S) (R : Int × nk_S), nk_cl ja_Tt s0 = some 13 → ja_X13_isLine_b377 s0 S = some R → nk_K ja_Tt mi_Γ (mi_ev zs) 1 151 377 [] [nk_r s0] S R := by
  intro s0 S R t_s0 hr
  unfold ja_X13_isLine_b377 at hr
  refine nk_p (i := .iconst 1) (len := 1) (pc' := 378) mJ_151 (by decide +kernel) (ns_iconst (c := 1) (by decide +kernel)) rfl ?_
  refine nk_p (i := .goto 4) (len := 3) (pc' := 382) mJ_151 (by decide +kernel) (ns_goto (by decide +kernel)) rfl ?_
  exact ja_X13_isLine_b382_ok zs _ _ _ _ t_s0 hr
noncomputable def ja_X13_isLine_b276 (l0 : Nat) (S : nk_S) : Option (Int × nk_S) :=
  nk_bd (ja_X13_isNumber l0 (S.1 l0 11) S) fun r1 S2 =>
  nk_bd (ja_X13_takes l0 r1 S2) fun r4 S5 =>
  if r4 = 0 ∨ r4 = 1 then
  some (r4, S5)
  else none
theorem ja_X13_isLine_b276_ok (zs : List Int32) : ∀ (l0 : Nat) (S : nk_S) (R : Int × nk_S), nk_cl ja_Tt l0 = some 13 → ja_X13_isLine_b276 l0 S = some R → nk_K ja_Tt mi_Γ (mi_ev zs) 1 151 276 [(0, nk_r l0)] [] S R := by
  intro l0 S R t_l0 hr
  unfold ja_X13_isLine_b276 at hr
  refine nk_p (i := .aload_n 0) (len := 1) (pc' := 277) mJ_151 (by decide +kernel) (ns_aload_n 0 rfl rfl) rfl ?_
  refine nk_p (i := .aload_n 0) (len := 1) (pc' := 278) mJ_151 (by decide +kernel) (ns_aload_n 0 rfl rfl) rfl ?_
  refine nk_p (i := .aload_n 0) (len := 1) (pc' := 279) mJ_151 (by decide +kernel) (ns_aload_n 0 rfl rfl) rfl ?_
  refine nk_getI (y := (0, 0)) (x := 194) (len := 3) (ci := 13) (k := 11) (pc' := 282) ja_okT mJ_151 (by decide +kernel) (by decide +kernel) (by decide +kernel) t_l0 rfl ?_
  obtain ⟨r1, S2, h3, hr⟩ := nk_bde hr
  refine nk_callV (ci := 13) (n := 1) (x := 238) (len := 3) (j' := 154) (q' := 1) (r := r1) (S' := S2) (L2 := [(0, nk_r l0), (1, nk_i (S.1 l0 11))]) (rest := [nk_r l0]) (st' := [nk_i r1, nk_r l0]) (pc' := 285) mJ_151 (by decide +kernel) (by decide +kernel) rfl rfl t_l0 (Nat.le_of_ble_eq_true rfl) mJ_154 (Nat.le_of_ble_eq_true rfl) rfl (ja_X13_isNumber_ok zs _ _ _ _ t_l0 h3) rfl ?_
  obtain ⟨r4, S5, h6, hr⟩ := nk_bde hr
  refine nk_callV (ci := 13) (n := 1) (x := 203) (len := 3) (j' := 231) (q' := 1) (r := r4) (S' := S5) (L2 := [(0, nk_r l0), (1, nk_i r1)]) (rest := []) (st' := [nk_i r4]) (pc' := 288) mJ_151 (by decide +kernel) (by decide +kernel) rfl rfl t_l0 (Nat.le_of_ble_eq_true rfl) mJ_231 (Nat.le_of_ble_eq_true rfl) rfl (ja_X13_takes_ok zs _ _ _ _ t_l0 h6) rfl ?_
  obtain ⟨h7, hr⟩ := nk_cke hr
  cases hr
  exact nk_iret (ty := .boolean) (len := 1) mJ_151 (by decide +kernel) rfl (nk_nar_z h7)
noncomputable def ja_X13_isLine_b430 (s0 : Nat) (s1 : Int) (S : nk_S) : Option (Int × nk_S) :=
  nk_bd (ja_X13_takes s0 s1 S) fun r1 S2 =>
  if r1 = 0 ∨ r1 = 1 then
  some (r1, S2)
  else none
theorem ja_X13_isLine_b430_ok (zs : List Int32) : ∀ (s0 : Nat) (s1 : Int) (S : nk_S) (R : Int × nk_S), nk_cl ja_Tt s0 = some 13 → ja_X13_isLine_b430 s0 s1 S = some R → nk_K ja_Tt mi_Γ (mi_ev zs) 1 151 430 [] [nk_i s1, nk_r s0] S R := by
  intro s0 s1 S R t_s0 hr
  unfold ja_X13_isLine_b430 at hr
  obtain ⟨r1, S2, h3, hr⟩ := nk_bde hr
  refine nk_callV (ci := 13) (n := 1) (x := 203) (len := 3) (j' := 231) (q' := 1) (r := r1) (S' := S2) (L2 := [(0, nk_r s0), (1, nk_i s1)]) (rest := []) (st' := [nk_i r1]) (pc' := 433) mJ_151 (by decide +kernel) (by decide +kernel) rfl rfl t_s0 (Nat.le_of_ble_eq_true rfl) mJ_231 (Nat.le_of_ble_eq_true rfl) rfl (ja_X13_takes_ok zs _ _ _ _ t_s0 h3) rfl ?_
  obtain ⟨h4, hr⟩ := nk_cke hr
  cases hr
  exact nk_iret (ty := .boolean) (len := 1) mJ_151 (by decide +kernel) rfl (nk_nar_z h4)
noncomputable def ja_X13_isLine_b429 (s0 : Nat) (S : nk_S) : Option (Int × nk_S) :=
  ja_X13_isLine_b430 s0 0 S
theorem ja_X13_isLine_b429_ok (zs : List Int32) : ∀ (s0 : Nat) (S : nk_S) (R : Int × nk_S), nk_cl ja_Tt s0 = some 13 → ja_X13_isLine_b429 s0 S = some R → nk_K ja_Tt mi_Γ (mi_ev zs) 1 151 429 [] [nk_r s0] S R := by
  intro s0 S R t_s0 hr
  unfold ja_X13_isLine_b429 at hr
  refine nk_p (i := .iconst 0) (len := 1) (pc' := 430) mJ_151 (by decide +kernel) (ns_iconst (c := 0) (by decide +kernel)) rfl ?_
  exact ja_X13_isLine_b430_ok zs _ _ _ _ t_s0 hr
noncomputable def ja_X13_isLine_b172 (l0 : Nat) (l1 : Int) (S : nk_S) : Option (Int × nk_S) :=
  nk_lt (nk_wi S l0 11 (nk_w ((S.1 l0 11) + 1))) fun S1 =>
  nk_bd (ja_J0_charAt_5068e 33 l1 S1) fun r3 S4 =>
  if r3 = 67 then
    nk_bd (ja_X13_isClassName l0 (S4.1 l0 11) S4) fun r6 S7 =>
    nk_bd (ja_X13_takes l0 r6 S7) fun r9 S10 =>
    if r9 = 0 ∨ r9 = 1 then
    some (r9, S10)
    else none
  else
  if r3 = 68 then
    some (1, S4)
  else
  if r3 = 69 then
    nk_bd (ja_X13_is l0 (S4.1 l0 11) 35 S4) fun r13 S14 =>
    if r13 = 0 then
      nk_bd (ja_X13_isClassName l0 (S14.1 l0 11) S14) fun r16 S17 =>
      if r16 = 0 then
        ja_X13_isLine_b382 l0 0 S17
      else
        ja_X13_isLine_b377 l0 S17
    else
      ja_X13_isLine_b377 l0 S14
  else
  if r3 = 70 then
    nk_bd (ja_X13_isReference l0 (S4.1 l0 11) S4) fun r19 S20 =>
    nk_bd (ja_X13_takes l0 r19 S20) fun r22 S23 =>
    if r22 = 0 ∨ r22 = 1 then
    some (r22, S23)
    else none
  else
  if r3 = 71 then
    some (1, S4)
  else
  if r3 = 72 then
    some (1, S4)
  else
  if r3 = 73 then
    nk_bd (ja_X13_isNumber l0 (S4.1 l0 11) S4) fun r26 S27 =>
    nk_bd (ja_X13_takes l0 r26 S27) fun r29 S30 =>
    if r29 = 0 then
      some (0, S30)
    else
      nk_bd (ja_X13_isNumber l0 (S30.1 l0 11) S30) fun r32 S33 =>
      nk_bd (ja_X13_takes l0 r32 S33) fun r35 S36 =>
      if r35 = 0 then
        some (0, S36)
      else
        some (1, S36)
  else
  if r3 = 74 then
    some (1, S4)
  else
  if r3 = 75 then
    ja_X13_isLine_b276 l0 S4
  else
  if r3 = 76 then
    nk_bd (ja_X13_isSmallName l0 (S4.1 l0 11) S4) fun r38 S39 =>
    nk_bd (ja_X13_takes l0 r38 S39) fun r41 S42 =>
    if r41 = 0 ∨ r41 = 1 then
    some (r41, S42)
    else none
  else
  if r3 = 77 then
    some (1, S4)
  else
  if r3 = 78 then
    ja_X13_isLine_b276 l0 S4
  else
  if r3 = 79 then
    some (1, S4)
  else
  if r3 = 80 then
    some (1, S4)
  else
  if r3 = 81 then
    some (1, S4)
  else
  if r3 = 82 then
    some (1, S4)
  else
  if r3 = 83 then
    some (1, S4)
  else
  if r3 = 84 then
    nk_bd (ja_X13_isType l0 (S4.1 l0 11) S4) fun r45 S46 =>
    if r45 = 0 then
      ja_X13_isLine_b429 l0 S46
    else
      nk_bd (ja_X13_is l0 (S46.1 l0 11) 35 S46) fun r48 S49 =>
      if r48 = 0 then
        ja_X13_isLine_b430 l0 1 S49
      else
        ja_X13_isLine_b429 l0 S49
  else
  some (1, S4)
theorem ja_X13_isLine_b172_ok (zs : List Int32) : ∀ (l0 : Nat) (l1 : Int) (S : nk_S) (R : Int × nk_S), nk_cl ja_Tt l0 = some 13 → ja_X13_isLine_b172 l0 l1 S = some R → nk_K ja_Tt mi_Γ (mi_ev zs) 1 151 172 [(0, nk_r l0), (1, nk_i l1)] [] S R := by
  intro l0 l1 S R t_l0 hr
  unfold ja_X13_isLine_b172 at hr
  refine nk_p (i := .aload_n 0) (len := 1) (pc' := 173) mJ_151 (by decide +kernel) (ns_aload_n 0 rfl rfl) rfl ?_
  refine nk_p (i := .dup) (len := 1) (pc' := 174) mJ_151 (by decide +kernel) (ns_dup rfl) rfl ?_
  refine nk_getI (y := (0, 0)) (x := 194) (len := 3) (ci := 13) (k := 11) (pc' := 177) ja_okT mJ_151 (by decide +kernel) (by decide +kernel) (by decide +kernel) t_l0 rfl ?_
  refine nk_p (i := .iconst 1) (len := 1) (pc' := 178) mJ_151 (by decide +kernel) (ns_iconst (c := 1) (by decide +kernel)) rfl ?_
  refine nk_p (i := .iadd) (len := 1) (pc' := 179) mJ_151 (by decide +kernel) ns_iadd rfl ?_
  obtain ⟨S1, h2, hr⟩ := nk_lte hr
  refine nk_putI (y := (0, 0)) (ty := .int) (x := 194) (len := 3) (ci := 13) (k := 11) (pc' := 182) ja_okT mJ_151 (by decide +kernel) (by decide +kernel) (by decide +kernel) t_l0 (Or.inl rfl) rfl h2 ?_
  refine nk_ldwt (x := 260) (len := 3) (k := 33) (s := "N-KKI--------------LLLLLLLLLLLCE---FFTTFF-----") (pc' := 185) mJ_151 (by decide +kernel) (by decide +kernel) (by decide +kernel) rfl ?_
  refine nk_p (i := .iload_n 1) (len := 1) (pc' := 186) mJ_151 (by decide +kernel) (ns_iload_n 1 rfl rfl) rfl ?_
  obtain ⟨r3, S4, h5, hr⟩ := nk_bde hr
  refine nk_callT (ci := 0) (n := 1) (x := 163) (len := 3) (j' := 1) (q' := 1) (r := r3) (S' := S4) (L2 := [(0, nk_o 33), (1, nk_i l1)]) (rest := []) (st' := [nk_i r3]) (pc' := 189) mJ_151 (by decide +kernel) (by decide +kernel) rfl rfl (ja_tx33 zs).1 (Nat.le_of_ble_eq_true rfl) mJ_1 (Nat.le_of_ble_eq_true rfl) ja_Tpos rfl (ja_J0_charAt_5068e_ok zs _ _ _ _ (ja_tx33 zs) h5) rfl ?_
  by_cases hc0 : r3 = 67
  · have hr := nk_ifp hc0 hr
    refine nk_p (i := .tableswitch 245 67 84 #[149, 245, 162, 197, 245, 245, 100, 245, 87, 136, 245, 87, 245, 245, 245, 245, 245, 210]) (len := 87) (pc' := 338) mJ_151 (by decide +kernel) (ns_tsw (V := 67) hc0 (by decide +kernel)) rfl ?_
    refine nk_p (i := .aload_n 0) (len := 1) (pc' := 339) mJ_151 (by decide +kernel) (ns_aload_n 0 rfl rfl) rfl ?_
    refine nk_p (i := .aload_n 0) (len := 1) (pc' := 340) mJ_151 (by decide +kernel) (ns_aload_n 0 rfl rfl) rfl ?_
    refine nk_p (i := .aload_n 0) (len := 1) (pc' := 341) mJ_151 (by decide +kernel) (ns_aload_n 0 rfl rfl) rfl ?_
    refine nk_getI (y := (0, 0)) (x := 194) (len := 3) (ci := 13) (k := 11) (pc' := 344) ja_okT mJ_151 (by decide +kernel) (by decide +kernel) (by decide +kernel) t_l0 rfl ?_
    obtain ⟨r6, S7, h8, hr⟩ := nk_bde hr
    refine nk_callV (ci := 13) (n := 1) (x := 207) (len := 3) (j' := 145) (q' := 1) (r := r6) (S' := S7) (L2 := [(0, nk_r l0), (1, nk_i (S4.1 l0 11))]) (rest := [nk_r l0]) (st' := [nk_i r6, nk_r l0]) (pc' := 347) mJ_151 (by decide +kernel) (by decide +kernel) rfl rfl t_l0 (Nat.le_of_ble_eq_true rfl) mJ_145 (Nat.le_of_ble_eq_true rfl) rfl (ja_X13_isClassName_ok zs _ _ _ _ t_l0 h8) rfl ?_
    obtain ⟨r9, S10, h11, hr⟩ := nk_bde hr
    refine nk_callV (ci := 13) (n := 1) (x := 203) (len := 3) (j' := 231) (q' := 1) (r := r9) (S' := S10) (L2 := [(0, nk_r l0), (1, nk_i r6)]) (rest := []) (st' := [nk_i r9]) (pc' := 350) mJ_151 (by decide +kernel) (by decide +kernel) rfl rfl t_l0 (Nat.le_of_ble_eq_true rfl) mJ_231 (Nat.le_of_ble_eq_true rfl) rfl (ja_X13_takes_ok zs _ _ _ _ t_l0 h11) rfl ?_
    obtain ⟨h12, hr⟩ := nk_cke hr
    cases hr
    exact nk_iret (ty := .boolean) (len := 1) mJ_151 (by decide +kernel) rfl (nk_nar_z h12)
  have hr := nk_ifn hc0 hr
  by_cases hc1 : r3 = 68
  · have hr := nk_ifp hc1 hr
    refine nk_p (i := .tableswitch 245 67 84 #[149, 245, 162, 197, 245, 245, 100, 245, 87, 136, 245, 87, 245, 245, 245, 245, 245, 210]) (len := 87) (pc' := 434) mJ_151 (by decide +kernel) (ns_tsw (V := 68) hc1 (by decide +kernel)) rfl ?_
    refine nk_p (i := .iconst 1) (len := 1) (pc' := 435) mJ_151 (by decide +kernel) (ns_iconst (c := 1) (by decide +kernel)) rfl ?_
    cases hr
    exact nk_iret (ty := .boolean) (len := 1) mJ_151 (by decide +kernel) rfl (nk_nar_z (by decide))
  have hr := nk_ifn hc1 hr
  by_cases hc2 : r3 = 69
  · have hr := nk_ifp hc2 hr
    refine nk_p (i := .tableswitch 245 67 84 #[149, 245, 162, 197, 245, 245, 100, 245, 87, 136, 245, 87, 245, 245, 245, 245, 245, 210]) (len := 87) (pc' := 351) mJ_151 (by decide +kernel) (ns_tsw (V := 69) hc2 (by decide +kernel)) rfl ?_
    refine nk_p (i := .aload_n 0) (len := 1) (pc' := 352) mJ_151 (by decide +kernel) (ns_aload_n 0 rfl rfl) rfl ?_
    refine nk_p (i := .aload_n 0) (len := 1) (pc' := 353) mJ_151 (by decide +kernel) (ns_aload_n 0 rfl rfl) rfl ?_
    refine nk_p (i := .aload_n 0) (len := 1) (pc' := 354) mJ_151 (by decide +kernel) (ns_aload_n 0 rfl rfl) rfl ?_
    refine nk_getI (y := (0, 0)) (x := 194) (len := 3) (ci := 13) (k := 11) (pc' := 357) ja_okT mJ_151 (by decide +kernel) (by decide +kernel) (by decide +kernel) t_l0 rfl ?_
    refine nk_ldwt (x := 262) (len := 3) (k := 35) (s := "int") (pc' := 360) mJ_151 (by decide +kernel) (by decide +kernel) (by decide +kernel) rfl ?_
    obtain ⟨r13, S14, h15, hr⟩ := nk_bde hr
    refine nk_callV (ci := 13) (n := 2) (x := 199) (len := 3) (j' := 138) (q' := 1) (r := r13) (S' := S14) (L2 := [(0, nk_r l0), (1, nk_i (S4.1 l0 11)), (2, nk_o 35)]) (rest := [nk_r l0]) (st' := [nk_i r13, nk_r l0]) (pc' := 363) mJ_151 (by decide +kernel) (by decide +kernel) rfl rfl t_l0 (Nat.le_of_ble_eq_true rfl) mJ_138 (Nat.le_of_ble_eq_true rfl) rfl (ja_X13_is_ok zs _ _ _ _ _ t_l0 (ja_tx35 zs) h15) rfl ?_
    refine nk_icond (c := .ne) (off := 14) (len := 3) (t := 377) (pc' := 366) mJ_151 (by decide +kernel) (by decide +kernel) rfl (fun hc => ?_) (fun hc => ?_)
    · have hr := nk_ifn (c := r13 = 0) hc hr
      refine nk_sub [] (L' := []) rfl ?_
      exact ja_X13_isLine_b377_ok zs _ _ _ t_l0 hr
    · have hr := nk_ifp (c := r13 = 0) (Decidable.of_not_not hc) hr
      refine nk_p (i := .aload_n 0) (len := 1) (pc' := 367) mJ_151 (by decide +kernel) (ns_aload_n 0 rfl rfl) rfl ?_
      refine nk_p (i := .aload_n 0) (len := 1) (pc' := 368) mJ_151 (by decide +kernel) (ns_aload_n 0 rfl rfl) rfl ?_
      refine nk_getI (y := (0, 0)) (x := 194) (len := 3) (ci := 13) (k := 11) (pc' := 371) ja_okT mJ_151 (by decide +kernel) (by decide +kernel) (by decide +kernel) t_l0 rfl ?_
      obtain ⟨r16, S17, h18, hr⟩ := nk_bde hr
      refine nk_callV (ci := 13) (n := 1) (x := 207) (len := 3) (j' := 145) (q' := 1) (r := r16) (S' := S17) (L2 := [(0, nk_r l0), (1, nk_i (S14.1 l0 11))]) (rest := [nk_r l0]) (st' := [nk_i r16, nk_r l0]) (pc' := 374) mJ_151 (by decide +kernel) (by decide +kernel) rfl rfl t_l0 (Nat.le_of_ble_eq_true rfl) mJ_145 (Nat.le_of_ble_eq_true rfl) rfl (ja_X13_isClassName_ok zs _ _ _ _ t_l0 h18) rfl ?_
      refine nk_icond (c := .eq) (off := 7) (len := 3) (t := 381) (pc' := 377) mJ_151 (by decide +kernel) (by decide +kernel) rfl (fun hc => ?_) (fun hc => ?_)
      · have hr := nk_ifp (c := r16 = 0) hc hr
        refine nk_p (i := .iconst 0) (len := 1) (pc' := 382) mJ_151 (by decide +kernel) (ns_iconst (c := 0) (by decide +kernel)) rfl ?_
        refine nk_sub [] (L' := []) rfl ?_
        exact ja_X13_isLine_b382_ok zs _ _ _ _ t_l0 hr
      · have hr := nk_ifn (c := r16 = 0) hc hr
        refine nk_sub [] (L' := []) rfl ?_
        exact ja_X13_isLine_b377_ok zs _ _ _ t_l0 hr
  have hr := nk_ifn hc2 hr
  by_cases hc3 : r3 = 70
  · have hr := nk_ifp hc3 hr
    refine nk_p (i := .tableswitch 245 67 84 #[149, 245, 162, 197, 245, 245, 100, 245, 87, 136, 245, 87, 245, 245, 245, 245, 245, 210]) (len := 87) (pc' := 386) mJ_151 (by decide +kernel) (ns_tsw (V := 70) hc3 (by decide +kernel)) rfl ?_
    refine nk_p (i := .aload_n 0) (len := 1) (pc' := 387) mJ_151 (by decide +kernel) (ns_aload_n 0 rfl rfl) rfl ?_
    refine nk_p (i := .aload_n 0) (len := 1) (pc' := 388) mJ_151 (by decide +kernel) (ns_aload_n 0 rfl rfl) rfl ?_
    refine nk_p (i := .aload_n 0) (len := 1) (pc' := 389) mJ_151 (by decide +kernel) (ns_aload_n 0 rfl rfl) rfl ?_
    refine nk_getI (y := (0, 0)) (x := 194) (len := 3) (ci := 13) (k := 11) (pc' := 392) ja_okT mJ_151 (by decide +kernel) (by decide +kernel) (by decide +kernel) t_l0 rfl ?_
    obtain ⟨r19, S20, h21, hr⟩ := nk_bde hr
    refine nk_callV (ci := 13) (n := 1) (x := 264) (len := 3) (j' := 157) (q' := 1) (r := r19) (S' := S20) (L2 := [(0, nk_r l0), (1, nk_i (S4.1 l0 11))]) (rest := [nk_r l0]) (st' := [nk_i r19, nk_r l0]) (pc' := 395) mJ_151 (by decide +kernel) (by decide +kernel) rfl rfl t_l0 (Nat.le_of_ble_eq_true rfl) mJ_157 (Nat.le_of_ble_eq_true rfl) rfl (ja_X13_isReference_ok zs _ _ _ _ t_l0 h21) rfl ?_
    obtain ⟨r22, S23, h24, hr⟩ := nk_bde hr
    refine nk_callV (ci := 13) (n := 1) (x := 203) (len := 3) (j' := 231) (q' := 1) (r := r22) (S' := S23) (L2 := [(0, nk_r l0), (1, nk_i r19)]) (rest := []) (st' := [nk_i r22]) (pc' := 398) mJ_151 (by decide +kernel) (by decide +kernel) rfl rfl t_l0 (Nat.le_of_ble_eq_true rfl) mJ_231 (Nat.le_of_ble_eq_true rfl) rfl (ja_X13_takes_ok zs _ _ _ _ t_l0 h24) rfl ?_
    obtain ⟨h25, hr⟩ := nk_cke hr
    cases hr
    exact nk_iret (ty := .boolean) (len := 1) mJ_151 (by decide +kernel) rfl (nk_nar_z h25)
  have hr := nk_ifn hc3 hr
  by_cases hc4 : r3 = 71
  · have hr := nk_ifp hc4 hr
    refine nk_p (i := .tableswitch 245 67 84 #[149, 245, 162, 197, 245, 245, 100, 245, 87, 136, 245, 87, 245, 245, 245, 245, 245, 210]) (len := 87) (pc' := 434) mJ_151 (by decide +kernel) (ns_tsw (V := 71) hc4 (by decide +kernel)) rfl ?_
    refine nk_p (i := .iconst 1) (len := 1) (pc' := 435) mJ_151 (by decide +kernel) (ns_iconst (c := 1) (by decide +kernel)) rfl ?_
    cases hr
    exact nk_iret (ty := .boolean) (len := 1) mJ_151 (by decide +kernel) rfl (nk_nar_z (by decide))
  have hr := nk_ifn hc4 hr
  by_cases hc5 : r3 = 72
  · have hr := nk_ifp hc5 hr
    refine nk_p (i := .tableswitch 245 67 84 #[149, 245, 162, 197, 245, 245, 100, 245, 87, 136, 245, 87, 245, 245, 245, 245, 245, 210]) (len := 87) (pc' := 434) mJ_151 (by decide +kernel) (ns_tsw (V := 72) hc5 (by decide +kernel)) rfl ?_
    refine nk_p (i := .iconst 1) (len := 1) (pc' := 435) mJ_151 (by decide +kernel) (ns_iconst (c := 1) (by decide +kernel)) rfl ?_
    cases hr
    exact nk_iret (ty := .boolean) (len := 1) mJ_151 (by decide +kernel) rfl (nk_nar_z (by decide))
  have hr := nk_ifn hc5 hr
  by_cases hc6 : r3 = 73
  · have hr := nk_ifp hc6 hr
    refine nk_p (i := .tableswitch 245 67 84 #[149, 245, 162, 197, 245, 245, 100, 245, 87, 136, 245, 87, 245, 245, 245, 245, 245, 210]) (len := 87) (pc' := 289) mJ_151 (by decide +kernel) (ns_tsw (V := 73) hc6 (by decide +kernel)) rfl ?_
    refine nk_p (i := .aload_n 0) (len := 1) (pc' := 290) mJ_151 (by decide +kernel) (ns_aload_n 0 rfl rfl) rfl ?_
    refine nk_p (i := .aload_n 0) (len := 1) (pc' := 291) mJ_151 (by decide +kernel) (ns_aload_n 0 rfl rfl) rfl ?_
    refine nk_p (i := .aload_n 0) (len := 1) (pc' := 292) mJ_151 (by decide +kernel) (ns_aload_n 0 rfl rfl) rfl ?_
    refine nk_getI (y := (0, 0)) (x := 194) (len := 3) (ci := 13) (k := 11) (pc' := 295) ja_okT mJ_151 (by decide +kernel) (by decide +kernel) (by decide +kernel) t_l0 rfl ?_
    obtain ⟨r26, S27, h28, hr⟩ := nk_bde hr
    refine nk_callV (ci := 13) (n := 1) (x := 238) (len := 3) (j' := 154) (q' := 1) (r := r26) (S' := S27) (L2 := [(0, nk_r l0), (1, nk_i (S4.1 l0 11))]) (rest := [nk_r l0]) (st' := [nk_i r26, nk_r l0]) (pc' := 298) mJ_151 (by decide +kernel) (by decide +kernel) rfl rfl t_l0 (Nat.le_of_ble_eq_true rfl) mJ_154 (Nat.le_of_ble_eq_true rfl) rfl (ja_X13_isNumber_ok zs _ _ _ _ t_l0 h28) rfl ?_
    obtain ⟨r29, S30, h31, hr⟩ := nk_bde hr
    refine nk_callV (ci := 13) (n := 1) (x := 203) (len := 3) (j' := 231) (q' := 1) (r := r29) (S' := S30) (L2 := [(0, nk_r l0), (1, nk_i r26)]) (rest := []) (st' := [nk_i r29]) (pc' := 301) mJ_151 (by decide +kernel) (by decide +kernel) rfl rfl t_l0 (Nat.le_of_ble_eq_true rfl) mJ_231 (Nat.le_of_ble_eq_true rfl) rfl (ja_X13_takes_ok zs _ _ _ _ t_l0 h31) rfl ?_
    refine nk_icond (c := .eq) (off := 22) (len := 3) (t := 323) (pc' := 304) mJ_151 (by decide +kernel) (by decide +kernel) rfl (fun hc => ?_) (fun hc => ?_)
    · have hr := nk_ifp (c := r29 = 0) hc hr
      refine nk_p (i := .iconst 0) (len := 1) (pc' := 324) mJ_151 (by decide +kernel) (ns_iconst (c := 0) (by decide +kernel)) rfl ?_
      cases hr
      exact nk_iret (ty := .boolean) (len := 1) mJ_151 (by decide +kernel) rfl (nk_nar_z (by decide))
    · have hr := nk_ifn (c := r29 = 0) hc hr
      refine nk_p (i := .aload_n 0) (len := 1) (pc' := 305) mJ_151 (by decide +kernel) (ns_aload_n 0 rfl rfl) rfl ?_
      refine nk_p (i := .aload_n 0) (len := 1) (pc' := 306) mJ_151 (by decide +kernel) (ns_aload_n 0 rfl rfl) rfl ?_
      refine nk_p (i := .aload_n 0) (len := 1) (pc' := 307) mJ_151 (by decide +kernel) (ns_aload_n 0 rfl rfl) rfl ?_
      refine nk_getI (y := (0, 0)) (x := 194) (len := 3) (ci := 13) (k := 11) (pc' := 310) ja_okT mJ_151 (by decide +kernel) (by decide +kernel) (by decide +kernel) t_l0 rfl ?_
      obtain ⟨r32, S33, h34, hr⟩ := nk_bde hr
      refine nk_callV (ci := 13) (n := 1) (x := 238) (len := 3) (j' := 154) (q' := 1) (r := r32) (S' := S33) (L2 := [(0, nk_r l0), (1, nk_i (S30.1 l0 11))]) (rest := [nk_r l0]) (st' := [nk_i r32, nk_r l0]) (pc' := 313) mJ_151 (by decide +kernel) (by decide +kernel) rfl rfl t_l0 (Nat.le_of_ble_eq_true rfl) mJ_154 (Nat.le_of_ble_eq_true rfl) rfl (ja_X13_isNumber_ok zs _ _ _ _ t_l0 h34) rfl ?_
      obtain ⟨r35, S36, h37, hr⟩ := nk_bde hr
      refine nk_callV (ci := 13) (n := 1) (x := 203) (len := 3) (j' := 231) (q' := 1) (r := r35) (S' := S36) (L2 := [(0, nk_r l0), (1, nk_i r32)]) (rest := []) (st' := [nk_i r35]) (pc' := 316) mJ_151 (by decide +kernel) (by decide +kernel) rfl rfl t_l0 (Nat.le_of_ble_eq_true rfl) mJ_231 (Nat.le_of_ble_eq_true rfl) rfl (ja_X13_takes_ok zs _ _ _ _ t_l0 h37) rfl ?_
      refine nk_icond (c := .eq) (off := 7) (len := 3) (t := 323) (pc' := 319) mJ_151 (by decide +kernel) (by decide +kernel) rfl (fun hc => ?_) (fun hc => ?_)
      · have hr := nk_ifp (c := r35 = 0) hc hr
        refine nk_p (i := .iconst 0) (len := 1) (pc' := 324) mJ_151 (by decide +kernel) (ns_iconst (c := 0) (by decide +kernel)) rfl ?_
        cases hr
        exact nk_iret (ty := .boolean) (len := 1) mJ_151 (by decide +kernel) rfl (nk_nar_z (by decide))
      · have hr := nk_ifn (c := r35 = 0) hc hr
        refine nk_p (i := .iconst 1) (len := 1) (pc' := 320) mJ_151 (by decide +kernel) (ns_iconst (c := 1) (by decide +kernel)) rfl ?_
        refine nk_p (i := .goto 4) (len := 3) (pc' := 324) mJ_151 (by decide +kernel) (ns_goto (by decide +kernel)) rfl ?_
        cases hr
        exact nk_iret (ty := .boolean) (len := 1) mJ_151 (by decide +kernel) rfl (nk_nar_z (by decide))
  have hr := nk_ifn hc6 hr
  by_cases hc7 : r3 = 74
  · have hr := nk_ifp hc7 hr
    refine nk_p (i := .tableswitch 245 67 84 #[149, 245, 162, 197, 245, 245, 100, 245, 87, 136, 245, 87, 245, 245, 245, 245, 245, 210]) (len := 87) (pc' := 434) mJ_151 (by decide +kernel) (ns_tsw (V := 74) hc7 (by decide +kernel)) rfl ?_
    refine nk_p (i := .iconst 1) (len := 1) (pc' := 435) mJ_151 (by decide +kernel) (ns_iconst (c := 1) (by decide +kernel)) rfl ?_
    cases hr
    exact nk_iret (ty := .boolean) (len := 1) mJ_151 (by decide +kernel) rfl (nk_nar_z (by decide))
  have hr := nk_ifn hc7 hr
  by_cases hc8 : r3 = 75
  · have hr := nk_ifp hc8 hr
    refine nk_p (i := .tableswitch 245 67 84 #[149, 245, 162, 197, 245, 245, 100, 245, 87, 136, 245, 87, 245, 245, 245, 245, 245, 210]) (len := 87) (pc' := 276) mJ_151 (by decide +kernel) (ns_tsw (V := 75) hc8 (by decide +kernel)) rfl ?_
    refine nk_sub [0] (L' := [(0, nk_r l0)]) rfl ?_
    exact ja_X13_isLine_b276_ok zs _ _ _ t_l0 hr
  have hr := nk_ifn hc8 hr
  by_cases hc9 : r3 = 76
  · have hr := nk_ifp hc9 hr
    refine nk_p (i := .tableswitch 245 67 84 #[149, 245, 162, 197, 245, 245, 100, 245, 87, 136, 245, 87, 245, 245, 245, 245, 245, 210]) (len := 87) (pc' := 325) mJ_151 (by decide +kernel) (ns_tsw (V := 76) hc9 (by decide +kernel)) rfl ?_
    refine nk_p (i := .aload_n 0) (len := 1) (pc' := 326) mJ_151 (by decide +kernel) (ns_aload_n 0 rfl rfl) rfl ?_
    refine nk_p (i := .aload_n 0) (len := 1) (pc' := 327) mJ_151 (by decide +kernel) (ns_aload_n 0 rfl rfl) rfl ?_
    refine nk_p (i := .aload_n 0) (len := 1) (pc' := 328) mJ_151 (by decide +kernel) (ns_aload_n 0 rfl rfl) rfl ?_
    refine nk_getI (y := (0, 0)) (x := 194) (len := 3) (ci := 13) (k := 11) (pc' := 331) ja_okT mJ_151 (by decide +kernel) (by decide +kernel) (by decide +kernel) t_l0 rfl ?_
    obtain ⟨r38, S39, h40, hr⟩ := nk_bde hr
    refine nk_callV (ci := 13) (n := 1) (x := 222) (len := 3) (j' := 162) (q' := 1) (r := r38) (S' := S39) (L2 := [(0, nk_r l0), (1, nk_i (S4.1 l0 11))]) (rest := [nk_r l0]) (st' := [nk_i r38, nk_r l0]) (pc' := 334) mJ_151 (by decide +kernel) (by decide +kernel) rfl rfl t_l0 (Nat.le_of_ble_eq_true rfl) mJ_162 (Nat.le_of_ble_eq_true rfl) rfl (ja_X13_isSmallName_ok zs _ _ _ _ t_l0 h40) rfl ?_
    obtain ⟨r41, S42, h43, hr⟩ := nk_bde hr
    refine nk_callV (ci := 13) (n := 1) (x := 203) (len := 3) (j' := 231) (q' := 1) (r := r41) (S' := S42) (L2 := [(0, nk_r l0), (1, nk_i r38)]) (rest := []) (st' := [nk_i r41]) (pc' := 337) mJ_151 (by decide +kernel) (by decide +kernel) rfl rfl t_l0 (Nat.le_of_ble_eq_true rfl) mJ_231 (Nat.le_of_ble_eq_true rfl) rfl (ja_X13_takes_ok zs _ _ _ _ t_l0 h43) rfl ?_
    obtain ⟨h44, hr⟩ := nk_cke hr
    cases hr
    exact nk_iret (ty := .boolean) (len := 1) mJ_151 (by decide +kernel) rfl (nk_nar_z h44)
  have hr := nk_ifn hc9 hr
  by_cases hc10 : r3 = 77
  · have hr := nk_ifp hc10 hr
    refine nk_p (i := .tableswitch 245 67 84 #[149, 245, 162, 197, 245, 245, 100, 245, 87, 136, 245, 87, 245, 245, 245, 245, 245, 210]) (len := 87) (pc' := 434) mJ_151 (by decide +kernel) (ns_tsw (V := 77) hc10 (by decide +kernel)) rfl ?_
    refine nk_p (i := .iconst 1) (len := 1) (pc' := 435) mJ_151 (by decide +kernel) (ns_iconst (c := 1) (by decide +kernel)) rfl ?_
    cases hr
    exact nk_iret (ty := .boolean) (len := 1) mJ_151 (by decide +kernel) rfl (nk_nar_z (by decide))
  have hr := nk_ifn hc10 hr
  by_cases hc11 : r3 = 78
  · have hr := nk_ifp hc11 hr
    refine nk_p (i := .tableswitch 245 67 84 #[149, 245, 162, 197, 245, 245, 100, 245, 87, 136, 245, 87, 245, 245, 245, 245, 245, 210]) (len := 87) (pc' := 276) mJ_151 (by decide +kernel) (ns_tsw (V := 78) hc11 (by decide +kernel)) rfl ?_
    refine nk_sub [0] (L' := [(0, nk_r l0)]) rfl ?_
    exact ja_X13_isLine_b276_ok zs _ _ _ t_l0 hr
  have hr := nk_ifn hc11 hr
  by_cases hc12 : r3 = 79
  · have hr := nk_ifp hc12 hr
    refine nk_p (i := .tableswitch 245 67 84 #[149, 245, 162, 197, 245, 245, 100, 245, 87, 136, 245, 87, 245, 245, 245, 245, 245, 210]) (len := 87) (pc' := 434) mJ_151 (by decide +kernel) (ns_tsw (V := 79) hc12 (by decide +kernel)) rfl ?_
    refine nk_p (i := .iconst 1) (len := 1) (pc' := 435) mJ_151 (by decide +kernel) (ns_iconst (c := 1) (by decide +kernel)) rfl ?_
    cases hr
    exact nk_iret (ty := .boolean) (len := 1) mJ_151 (by decide +kernel) rfl (nk_nar_z (by decide))
  have hr := nk_ifn hc12 hr
  by_cases hc13 : r3 = 80
  · have hr := nk_ifp hc13 hr
    refine nk_p (i := .tableswitch 245 67 84 #[149, 245, 162, 197, 245, 245, 100, 245, 87, 136, 245, 87, 245, 245, 245, 245, 245, 210]) (len := 87) (pc' := 434) mJ_151 (by decide +kernel) (ns_tsw (V := 80) hc13 (by decide +kernel)) rfl ?_
    refine nk_p (i := .iconst 1) (len := 1) (pc' := 435) mJ_151 (by decide +kernel) (ns_iconst (c := 1) (by decide +kernel)) rfl ?_
    cases hr
    exact nk_iret (ty := .boolean) (len := 1) mJ_151 (by decide +kernel) rfl (nk_nar_z (by decide))
  have hr := nk_ifn hc13 hr
  by_cases hc14 : r3 = 81
  · have hr := nk_ifp hc14 hr
    refine nk_p (i := .tableswitch 245 67 84 #[149, 245, 162, 197, 245, 245, 100, 245, 87, 136, 245, 87, 245, 245, 245, 245, 245, 210]) (len := 87) (pc' := 434) mJ_151 (by decide +kernel) (ns_tsw (V := 81) hc14 (by decide +kernel)) rfl ?_
    refine nk_p (i := .iconst 1) (len := 1) (pc' := 435) mJ_151 (by decide +kernel) (ns_iconst (c := 1) (by decide +kernel)) rfl ?_
    cases hr
    exact nk_iret (ty := .boolean) (len := 1) mJ_151 (by decide +kernel) rfl (nk_nar_z (by decide))
  have hr := nk_ifn hc14 hr
  by_cases hc15 : r3 = 82
  · have hr := nk_ifp hc15 hr
    refine nk_p (i := .tableswitch 245 67 84 #[149, 245, 162, 197, 245, 245, 100, 245, 87, 136, 245, 87, 245, 245, 245, 245, 245, 210]) (len := 87) (pc' := 434) mJ_151 (by decide +kernel) (ns_tsw (V := 82) hc15 (by decide +kernel)) rfl ?_
    refine nk_p (i := .iconst 1) (len := 1) (pc' := 435) mJ_151 (by decide +kernel) (ns_iconst (c := 1) (by decide +kernel)) rfl ?_
    cases hr
    exact nk_iret (ty := .boolean) (len := 1) mJ_151 (by decide +kernel) rfl (nk_nar_z (by decide))
  have hr := nk_ifn hc15 hr
  by_cases hc16 : r3 = 83
  · have hr := nk_ifp hc16 hr
    refine nk_p (i := .tableswitch 245 67 84 #[149, 245, 162, 197, 245, 245, 100, 245, 87, 136, 245, 87, 245, 245, 245, 245, 245, 210]) (len := 87) (pc' := 434) mJ_151 (by decide +kernel) (ns_tsw (V := 83) hc16 (by decide +kernel)) rfl ?_
    refine nk_p (i := .iconst 1) (len := 1) (pc' := 435) mJ_151 (by decide +kernel) (ns_iconst (c := 1) (by decide +kernel)) rfl ?_
    cases hr
    exact nk_iret (ty := .boolean) (len := 1) mJ_151 (by decide +kernel) rfl (nk_nar_z (by decide))
  have hr := nk_ifn hc16 hr
  by_cases hc17 : r3 = 84
  · have hr := nk_ifp hc17 hr
    refine nk_p (i := .tableswitch 245 67 84 #[149, 245, 162, 197, 245, 245, 100, 245, 87, 136, 245, 87, 245, 245, 245, 245, 245, 210]) (len := 87) (pc' := 399) mJ_151 (by decide +kernel) (ns_tsw (V := 84) hc17 (by decide +kernel)) rfl ?_
    refine nk_p (i := .aload_n 0) (len := 1) (pc' := 400) mJ_151 (by decide +kernel) (ns_aload_n 0 rfl rfl) rfl ?_
    refine nk_p (i := .aload_n 0) (len := 1) (pc' := 401) mJ_151 (by decide +kernel) (ns_aload_n 0 rfl rfl) rfl ?_
    refine nk_p (i := .aload_n 0) (len := 1) (pc' := 402) mJ_151 (by decide +kernel) (ns_aload_n 0 rfl rfl) rfl ?_
    refine nk_getI (y := (0, 0)) (x := 194) (len := 3) (ci := 13) (k := 11) (pc' := 405) ja_okT mJ_151 (by decide +kernel) (by decide +kernel) (by decide +kernel) t_l0 rfl ?_
    obtain ⟨r45, S46, h47, hr⟩ := nk_bde hr
    refine nk_callV (ci := 13) (n := 1) (x := 225) (len := 3) (j' := 163) (q' := 1) (r := r45) (S' := S46) (L2 := [(0, nk_r l0), (1, nk_i (S4.1 l0 11))]) (rest := [nk_r l0]) (st' := [nk_i r45, nk_r l0]) (pc' := 408) mJ_151 (by decide +kernel) (by decide +kernel) rfl rfl t_l0 (Nat.le_of_ble_eq_true rfl) mJ_163 (Nat.le_of_ble_eq_true rfl) rfl (ja_X13_isType_ok zs _ _ _ _ t_l0 h47) rfl ?_
    refine nk_icond (c := .eq) (off := 21) (len := 3) (t := 429) (pc' := 411) mJ_151 (by decide +kernel) (by decide +kernel) rfl (fun hc => ?_) (fun hc => ?_)
    · have hr := nk_ifp (c := r45 = 0) hc hr
      refine nk_sub [] (L' := []) rfl ?_
      exact ja_X13_isLine_b429_ok zs _ _ _ t_l0 hr
    · have hr := nk_ifn (c := r45 = 0) hc hr
      refine nk_p (i := .aload_n 0) (len := 1) (pc' := 412) mJ_151 (by decide +kernel) (ns_aload_n 0 rfl rfl) rfl ?_
      refine nk_p (i := .aload_n 0) (len := 1) (pc' := 413) mJ_151 (by decide +kernel) (ns_aload_n 0 rfl rfl) rfl ?_
      refine nk_getI (y := (0, 0)) (x := 194) (len := 3) (ci := 13) (k := 11) (pc' := 416) ja_okT mJ_151 (by decide +kernel) (by decide +kernel) (by decide +kernel) t_l0 rfl ?_
      refine nk_ldwt (x := 262) (len := 3) (k := 35) (s := "int") (pc' := 419) mJ_151 (by decide +kernel) (by decide +kernel) (by decide +kernel) rfl ?_
      obtain ⟨r48, S49, h50, hr⟩ := nk_bde hr
      refine nk_callV (ci := 13) (n := 2) (x := 199) (len := 3) (j' := 138) (q' := 1) (r := r48) (S' := S49) (L2 := [(0, nk_r l0), (1, nk_i (S46.1 l0 11)), (2, nk_o 35)]) (rest := [nk_r l0]) (st' := [nk_i r48, nk_r l0]) (pc' := 422) mJ_151 (by decide +kernel) (by decide +kernel) rfl rfl t_l0 (Nat.le_of_ble_eq_true rfl) mJ_138 (Nat.le_of_ble_eq_true rfl) rfl (ja_X13_is_ok zs _ _ _ _ _ t_l0 (ja_tx35 zs) h50) rfl ?_
      refine nk_icond (c := .ne) (off := 7) (len := 3) (t := 429) (pc' := 425) mJ_151 (by decide +kernel) (by decide +kernel) rfl (fun hc => ?_) (fun hc => ?_)
      · have hr := nk_ifn (c := r48 = 0) hc hr
        refine nk_sub [] (L' := []) rfl ?_
        exact ja_X13_isLine_b429_ok zs _ _ _ t_l0 hr
      · have hr := nk_ifp (c := r48 = 0) (Decidable.of_not_not hc) hr
        refine nk_p (i := .iconst 1) (len := 1) (pc' := 426) mJ_151 (by decide +kernel) (ns_iconst (c := 1) (by decide +kernel)) rfl ?_
        refine nk_p (i := .goto 4) (len := 3) (pc' := 430) mJ_151 (by decide +kernel) (ns_goto (by decide +kernel)) rfl ?_
        refine nk_sub [] (L' := []) rfl ?_
        exact ja_X13_isLine_b430_ok zs _ _ _ _ t_l0 hr
  have hr := nk_ifn hc17 hr
  refine nk_p (i := .tableswitch 245 67 84 #[149, 245, 162, 197, 245, 245, 100, 245, 87, 136, 245, 87, 245, 245, 245, 245, 245, 210]) (len := 87) (pc' := 434) mJ_151 (by decide +kernel) (ns_tsd (by omega) (by decide +kernel)) rfl ?_
  refine nk_p (i := .iconst 1) (len := 1) (pc' := 435) mJ_151 (by decide +kernel) (ns_iconst (c := 1) (by decide +kernel)) rfl ?_
  cases hr
  exact nk_iret (ty := .boolean) (len := 1) mJ_151 (by decide +kernel) rfl (nk_nar_z (by decide))
noncomputable def ja_X13_isLine_b13 (l0 : Nat) (S : nk_S) : Option (Int × nk_S) :=
  nk_bd (ja_X13_isLabel l0 (S.1 l0 11) S) fun r1 S2 =>
  if r1 = 0 then
    nk_bd (ja_X13_is l0 (S2.1 l0 11) 29 S2) fun r4 S5 =>
    if r4 = 0 then
      nk_bd (ja_X13_opOf l0 (S5.1 l0 11) S5) fun r7 S8 =>
      if 0 ≤ r7 then
        ja_X13_isLine_b172 l0 r7 S8
      else
        nk_bd (ja_X13_isSmallName l0 (S8.1 l0 11) S8) fun r10 S11 =>
        nk_bd (ja_X13_takes l0 r10 S11) fun r13 S14 =>
        if r13 = 0 then
          some (0, S14)
        else
          some (0, S14)
    else
      nk_lt (nk_wi S5 l0 11 (nk_w ((S5.1 l0 11) + 1))) fun S16 =>
      nk_bd (ja_X13_isSmallName l0 (S16.1 l0 11) S16) fun r18 S19 =>
      nk_bd (ja_X13_takes l0 r18 S19) fun r21 S22 =>
      if r21 = 0 then
        some (0, S22)
      else
        nk_bd (ja_X13_isSmallName l0 (S22.1 l0 11) S22) fun r24 S25 =>
        nk_bd (ja_X13_takes l0 r24 S25) fun r27 S28 =>
        if r27 = 0 then
          some (0, S28)
        else
          nk_bd (ja_X13_isSmallName l0 (S28.1 l0 11) S28) fun r30 S31 =>
          nk_bd (ja_X13_takes l0 r30 S31) fun r33 S34 =>
          if r33 = 0 then
            some (0, S34)
          else
            nk_bd (ja_X13_isClassName l0 (S34.1 l0 11) S34) fun r36 S37 =>
            nk_bd (ja_X13_takes l0 r36 S37) fun r39 S40 =>
            if r39 = 0 then
              some (0, S40)
            else
              some (1, S40)
  else
    nk_bd (ja_X13_isSmallName l0 (S2.1 l0 11) S2) fun r42 S43 =>
    nk_bd (ja_X13_takes l0 r42 S43) fun r45 S46 =>
    if r45 = 0 then
      some (0, S46)
    else
      nk_bd (ja_X13_takes l0 1 S46) fun r48 S49 =>
      if r48 = 0 then
        some (0, S49)
      else
        some (1, S49)
theorem ja_X13_isLine_b13_ok (zs : List Int32) : ∀ (l0 : Nat) (S : nk_S) (R : Int × nk_S), nk_cl ja_Tt l0 = some 13 → ja_X13_isLine_b13 l0 S = some R → nk_K ja_Tt mi_Γ (mi_ev zs) 1 151 13 [(0, nk_r l0)] [] S R := by
  intro l0 S R t_l0 hr
  unfold ja_X13_isLine_b13 at hr
  refine nk_p (i := .aload_n 0) (len := 1) (pc' := 14) mJ_151 (by decide +kernel) (ns_aload_n 0 rfl rfl) rfl ?_
  refine nk_p (i := .aload_n 0) (len := 1) (pc' := 15) mJ_151 (by decide +kernel) (ns_aload_n 0 rfl rfl) rfl ?_
  refine nk_getI (y := (0, 0)) (x := 194) (len := 3) (ci := 13) (k := 11) (pc' := 18) ja_okT mJ_151 (by decide +kernel) (by decide +kernel) (by decide +kernel) t_l0 rfl ?_
  obtain ⟨r1, S2, h3, hr⟩ := nk_bde hr
  refine nk_callV (ci := 13) (n := 1) (x := 252) (len := 3) (j' := 150) (q' := 1) (r := r1) (S' := S2) (L2 := [(0, nk_r l0), (1, nk_i (S.1 l0 11))]) (rest := []) (st' := [nk_i r1]) (pc' := 21) mJ_151 (by decide +kernel) (by decide +kernel) rfl rfl t_l0 (Nat.le_of_ble_eq_true rfl) mJ_150 (Nat.le_of_ble_eq_true rfl) rfl (ja_X13_isLabel_ok zs _ _ _ _ t_l0 h3) rfl ?_
  refine nk_icond (c := .eq) (off := 32) (len := 3) (t := 53) (pc' := 24) mJ_151 (by decide +kernel) (by decide +kernel) rfl (fun hc => ?_) (fun hc => ?_)
  · have hr := nk_ifp (c := r1 = 0) hc hr
    refine nk_p (i := .aload_n 0) (len := 1) (pc' := 54) mJ_151 (by decide +kernel) (ns_aload_n 0 rfl rfl) rfl ?_
    refine nk_p (i := .aload_n 0) (len := 1) (pc' := 55) mJ_151 (by decide +kernel) (ns_aload_n 0 rfl rfl) rfl ?_
    refine nk_getI (y := (0, 0)) (x := 194) (len := 3) (ci := 13) (k := 11) (pc' := 58) ja_okT mJ_151 (by decide +kernel) (by decide +kernel) (by decide +kernel) t_l0 rfl ?_
    refine nk_ldct (x := 255) (len := 2) (k := 29) (s := "catch") (pc' := 60) mJ_151 (by decide +kernel) (by decide +kernel) (by decide +kernel) rfl ?_
    obtain ⟨r4, S5, h6, hr⟩ := nk_bde hr
    refine nk_callV (ci := 13) (n := 2) (x := 199) (len := 3) (j' := 138) (q' := 1) (r := r4) (S' := S5) (L2 := [(0, nk_r l0), (1, nk_i (S2.1 l0 11)), (2, nk_o 29)]) (rest := []) (st' := [nk_i r4]) (pc' := 63) mJ_151 (by decide +kernel) (by decide +kernel) rfl rfl t_l0 (Nat.le_of_ble_eq_true rfl) mJ_138 (Nat.le_of_ble_eq_true rfl) rfl (ja_X13_is_ok zs _ _ _ _ _ t_l0 (ja_tx29 zs) h6) rfl ?_
    refine nk_icond (c := .eq) (off := 79) (len := 3) (t := 142) (pc' := 66) mJ_151 (by decide +kernel) (by decide +kernel) rfl (fun hc => ?_) (fun hc => ?_)
    · have hr := nk_ifp (c := r4 = 0) hc hr
      refine nk_p (i := .aload_n 0) (len := 1) (pc' := 143) mJ_151 (by decide +kernel) (ns_aload_n 0 rfl rfl) rfl ?_
      refine nk_p (i := .aload_n 0) (len := 1) (pc' := 144) mJ_151 (by decide +kernel) (ns_aload_n 0 rfl rfl) rfl ?_
      refine nk_getI (y := (0, 0)) (x := 194) (len := 3) (ci := 13) (k := 11) (pc' := 147) ja_okT mJ_151 (by decide +kernel) (by decide +kernel) (by decide +kernel) t_l0 rfl ?_
      obtain ⟨r7, S8, h9, hr⟩ := nk_bde hr
      refine nk_callV (ci := 13) (n := 1) (x := 257) (len := 3) (j' := 203) (q' := 1) (r := r7) (S' := S8) (L2 := [(0, nk_r l0), (1, nk_i (S5.1 l0 11))]) (rest := []) (st' := [nk_i r7]) (pc' := 150) mJ_151 (by decide +kernel) (by decide +kernel) rfl rfl t_l0 (Nat.le_of_ble_eq_true rfl) mJ_203 (Nat.le_of_ble_eq_true rfl) rfl (ja_X13_opOf_ok zs _ _ _ _ t_l0 h9) rfl ?_
      refine nk_p (i := .istore_n 1) (len := 1) (pc' := 151) mJ_151 (by decide +kernel) (ns_istore_n (L' := [(1, nk_i r7), (0, nk_r l0)]) rfl rfl rfl (by decide +kernel)) rfl ?_
      refine nk_p (i := .iload_n 1) (len := 1) (pc' := 152) mJ_151 (by decide +kernel) (ns_iload_n 0 rfl rfl) rfl ?_
      refine nk_icond (c := .ge) (off := 20) (len := 3) (t := 172) (pc' := 155) mJ_151 (by decide +kernel) (by decide +kernel) rfl (fun hc => ?_) (fun hc => ?_)
      · have hr := nk_ifp (c := 0 ≤ r7) hc hr
        refine nk_sub [1, 0] (L' := [(0, nk_r l0), (1, nk_i r7)]) rfl ?_
        exact ja_X13_isLine_b172_ok zs _ _ _ _ t_l0 hr
      · have hr := nk_ifn (c := 0 ≤ r7) hc hr
        refine nk_p (i := .aload_n 0) (len := 1) (pc' := 156) mJ_151 (by decide +kernel) (ns_aload_n 1 rfl rfl) rfl ?_
        refine nk_p (i := .aload_n 0) (len := 1) (pc' := 157) mJ_151 (by decide +kernel) (ns_aload_n 1 rfl rfl) rfl ?_
        refine nk_p (i := .aload_n 0) (len := 1) (pc' := 158) mJ_151 (by decide +kernel) (ns_aload_n 1 rfl rfl) rfl ?_
        refine nk_getI (y := (0, 0)) (x := 194) (len := 3) (ci := 13) (k := 11) (pc' := 161) ja_okT mJ_151 (by decide +kernel) (by decide +kernel) (by decide +kernel) t_l0 rfl ?_
        obtain ⟨r10, S11, h12, hr⟩ := nk_bde hr
        refine nk_callV (ci := 13) (n := 1) (x := 222) (len := 3) (j' := 162) (q' := 1) (r := r10) (S' := S11) (L2 := [(0, nk_r l0), (1, nk_i (S8.1 l0 11))]) (rest := [nk_r l0]) (st' := [nk_i r10, nk_r l0]) (pc' := 164) mJ_151 (by decide +kernel) (by decide +kernel) rfl rfl t_l0 (Nat.le_of_ble_eq_true rfl) mJ_162 (Nat.le_of_ble_eq_true rfl) rfl (ja_X13_isSmallName_ok zs _ _ _ _ t_l0 h12) rfl ?_
        obtain ⟨r13, S14, h15, hr⟩ := nk_bde hr
        refine nk_callV (ci := 13) (n := 1) (x := 203) (len := 3) (j' := 231) (q' := 1) (r := r13) (S' := S14) (L2 := [(0, nk_r l0), (1, nk_i r10)]) (rest := []) (st' := [nk_i r13]) (pc' := 167) mJ_151 (by decide +kernel) (by decide +kernel) rfl rfl t_l0 (Nat.le_of_ble_eq_true rfl) mJ_231 (Nat.le_of_ble_eq_true rfl) rfl (ja_X13_takes_ok zs _ _ _ _ t_l0 h15) rfl ?_
        refine nk_icond (c := .eq) (off := 3) (len := 3) (t := 170) (pc' := 170) mJ_151 (by decide +kernel) (by decide +kernel) rfl (fun hc => ?_) (fun hc => ?_)
        · have hr := nk_ifp (c := r13 = 0) hc hr
          refine nk_p (i := .iconst 0) (len := 1) (pc' := 171) mJ_151 (by decide +kernel) (ns_iconst (c := 0) (by decide +kernel)) rfl ?_
          cases hr
          exact nk_iret (ty := .boolean) (len := 1) mJ_151 (by decide +kernel) rfl (nk_nar_z (by decide))
        · have hr := nk_ifn (c := r13 = 0) hc hr
          refine nk_p (i := .iconst 0) (len := 1) (pc' := 171) mJ_151 (by decide +kernel) (ns_iconst (c := 0) (by decide +kernel)) rfl ?_
          cases hr
          exact nk_iret (ty := .boolean) (len := 1) mJ_151 (by decide +kernel) rfl (nk_nar_z (by decide))
    · have hr := nk_ifn (c := r4 = 0) hc hr
      refine nk_p (i := .aload_n 0) (len := 1) (pc' := 67) mJ_151 (by decide +kernel) (ns_aload_n 0 rfl rfl) rfl ?_
      refine nk_p (i := .dup) (len := 1) (pc' := 68) mJ_151 (by decide +kernel) (ns_dup rfl) rfl ?_
      refine nk_getI (y := (0, 0)) (x := 194) (len := 3) (ci := 13) (k := 11) (pc' := 71) ja_okT mJ_151 (by decide +kernel) (by decide +kernel) (by decide +kernel) t_l0 rfl ?_
      refine nk_p (i := .iconst 1) (len := 1) (pc' := 72) mJ_151 (by decide +kernel) (ns_iconst (c := 1) (by decide +kernel)) rfl ?_
      refine nk_p (i := .iadd) (len := 1) (pc' := 73) mJ_151 (by decide +kernel) ns_iadd rfl ?_
      obtain ⟨S16, h17, hr⟩ := nk_lte hr
      refine nk_putI (y := (0, 0)) (ty := .int) (x := 194) (len := 3) (ci := 13) (k := 11) (pc' := 76) ja_okT mJ_151 (by decide +kernel) (by decide +kernel) (by decide +kernel) t_l0 (Or.inl rfl) rfl h17 ?_
      refine nk_p (i := .aload_n 0) (len := 1) (pc' := 77) mJ_151 (by decide +kernel) (ns_aload_n 0 rfl rfl) rfl ?_
      refine nk_p (i := .aload_n 0) (len := 1) (pc' := 78) mJ_151 (by decide +kernel) (ns_aload_n 0 rfl rfl) rfl ?_
      refine nk_p (i := .aload_n 0) (len := 1) (pc' := 79) mJ_151 (by decide +kernel) (ns_aload_n 0 rfl rfl) rfl ?_
      refine nk_getI (y := (0, 0)) (x := 194) (len := 3) (ci := 13) (k := 11) (pc' := 82) ja_okT mJ_151 (by decide +kernel) (by decide +kernel) (by decide +kernel) t_l0 rfl ?_
      obtain ⟨r18, S19, h20, hr⟩ := nk_bde hr
      refine nk_callV (ci := 13) (n := 1) (x := 222) (len := 3) (j' := 162) (q' := 1) (r := r18) (S' := S19) (L2 := [(0, nk_r l0), (1, nk_i (S16.1 l0 11))]) (rest := [nk_r l0]) (st' := [nk_i r18, nk_r l0]) (pc' := 85) mJ_151 (by decide +kernel) (by decide +kernel) rfl rfl t_l0 (Nat.le_of_ble_eq_true rfl) mJ_162 (Nat.le_of_ble_eq_true rfl) rfl (ja_X13_isSmallName_ok zs _ _ _ _ t_l0 h20) rfl ?_
      obtain ⟨r21, S22, h23, hr⟩ := nk_bde hr
      refine nk_callV (ci := 13) (n := 1) (x := 203) (len := 3) (j' := 231) (q' := 1) (r := r21) (S' := S22) (L2 := [(0, nk_r l0), (1, nk_i r18)]) (rest := []) (st' := [nk_i r21]) (pc' := 88) mJ_151 (by decide +kernel) (by decide +kernel) rfl rfl t_l0 (Nat.le_of_ble_eq_true rfl) mJ_231 (Nat.le_of_ble_eq_true rfl) rfl (ja_X13_takes_ok zs _ _ _ _ t_l0 h23) rfl ?_
      refine nk_icond (c := .eq) (off := 52) (len := 3) (t := 140) (pc' := 91) mJ_151 (by decide +kernel) (by decide +kernel) rfl (fun hc => ?_) (fun hc => ?_)
      · have hr := nk_ifp (c := r21 = 0) hc hr
        refine nk_p (i := .iconst 0) (len := 1) (pc' := 141) mJ_151 (by decide +kernel) (ns_iconst (c := 0) (by decide +kernel)) rfl ?_
        cases hr
        exact nk_iret (ty := .boolean) (len := 1) mJ_151 (by decide +kernel) rfl (nk_nar_z (by decide))
      · have hr := nk_ifn (c := r21 = 0) hc hr
        refine nk_p (i := .aload_n 0) (len := 1) (pc' := 92) mJ_151 (by decide +kernel) (ns_aload_n 0 rfl rfl) rfl ?_
        refine nk_p (i := .aload_n 0) (len := 1) (pc' := 93) mJ_151 (by decide +kernel) (ns_aload_n 0 rfl rfl) rfl ?_
        refine nk_p (i := .aload_n 0) (len := 1) (pc' := 94) mJ_151 (by decide +kernel) (ns_aload_n 0 rfl rfl) rfl ?_
        refine nk_getI (y := (0, 0)) (x := 194) (len := 3) (ci := 13) (k := 11) (pc' := 97) ja_okT mJ_151 (by decide +kernel) (by decide +kernel) (by decide +kernel) t_l0 rfl ?_
        obtain ⟨r24, S25, h26, hr⟩ := nk_bde hr
        refine nk_callV (ci := 13) (n := 1) (x := 222) (len := 3) (j' := 162) (q' := 1) (r := r24) (S' := S25) (L2 := [(0, nk_r l0), (1, nk_i (S22.1 l0 11))]) (rest := [nk_r l0]) (st' := [nk_i r24, nk_r l0]) (pc' := 100) mJ_151 (by decide +kernel) (by decide +kernel) rfl rfl t_l0 (Nat.le_of_ble_eq_true rfl) mJ_162 (Nat.le_of_ble_eq_true rfl) rfl (ja_X13_isSmallName_ok zs _ _ _ _ t_l0 h26) rfl ?_
        obtain ⟨r27, S28, h29, hr⟩ := nk_bde hr
        refine nk_callV (ci := 13) (n := 1) (x := 203) (len := 3) (j' := 231) (q' := 1) (r := r27) (S' := S28) (L2 := [(0, nk_r l0), (1, nk_i r24)]) (rest := []) (st' := [nk_i r27]) (pc' := 103) mJ_151 (by decide +kernel) (by decide +kernel) rfl rfl t_l0 (Nat.le_of_ble_eq_true rfl) mJ_231 (Nat.le_of_ble_eq_true rfl) rfl (ja_X13_takes_ok zs _ _ _ _ t_l0 h29) rfl ?_
        refine nk_icond (c := .eq) (off := 37) (len := 3) (t := 140) (pc' := 106) mJ_151 (by decide +kernel) (by decide +kernel) rfl (fun hc => ?_) (fun hc => ?_)
        · have hr := nk_ifp (c := r27 = 0) hc hr
          refine nk_p (i := .iconst 0) (len := 1) (pc' := 141) mJ_151 (by decide +kernel) (ns_iconst (c := 0) (by decide +kernel)) rfl ?_
          cases hr
          exact nk_iret (ty := .boolean) (len := 1) mJ_151 (by decide +kernel) rfl (nk_nar_z (by decide))
        · have hr := nk_ifn (c := r27 = 0) hc hr
          refine nk_p (i := .aload_n 0) (len := 1) (pc' := 107) mJ_151 (by decide +kernel) (ns_aload_n 0 rfl rfl) rfl ?_
          refine nk_p (i := .aload_n 0) (len := 1) (pc' := 108) mJ_151 (by decide +kernel) (ns_aload_n 0 rfl rfl) rfl ?_
          refine nk_p (i := .aload_n 0) (len := 1) (pc' := 109) mJ_151 (by decide +kernel) (ns_aload_n 0 rfl rfl) rfl ?_
          refine nk_getI (y := (0, 0)) (x := 194) (len := 3) (ci := 13) (k := 11) (pc' := 112) ja_okT mJ_151 (by decide +kernel) (by decide +kernel) (by decide +kernel) t_l0 rfl ?_
          obtain ⟨r30, S31, h32, hr⟩ := nk_bde hr
          refine nk_callV (ci := 13) (n := 1) (x := 222) (len := 3) (j' := 162) (q' := 1) (r := r30) (S' := S31) (L2 := [(0, nk_r l0), (1, nk_i (S28.1 l0 11))]) (rest := [nk_r l0]) (st' := [nk_i r30, nk_r l0]) (pc' := 115) mJ_151 (by decide +kernel) (by decide +kernel) rfl rfl t_l0 (Nat.le_of_ble_eq_true rfl) mJ_162 (Nat.le_of_ble_eq_true rfl) rfl (ja_X13_isSmallName_ok zs _ _ _ _ t_l0 h32) rfl ?_
          obtain ⟨r33, S34, h35, hr⟩ := nk_bde hr
          refine nk_callV (ci := 13) (n := 1) (x := 203) (len := 3) (j' := 231) (q' := 1) (r := r33) (S' := S34) (L2 := [(0, nk_r l0), (1, nk_i r30)]) (rest := []) (st' := [nk_i r33]) (pc' := 118) mJ_151 (by decide +kernel) (by decide +kernel) rfl rfl t_l0 (Nat.le_of_ble_eq_true rfl) mJ_231 (Nat.le_of_ble_eq_true rfl) rfl (ja_X13_takes_ok zs _ _ _ _ t_l0 h35) rfl ?_
          refine nk_icond (c := .eq) (off := 22) (len := 3) (t := 140) (pc' := 121) mJ_151 (by decide +kernel) (by decide +kernel) rfl (fun hc => ?_) (fun hc => ?_)
          · have hr := nk_ifp (c := r33 = 0) hc hr
            refine nk_p (i := .iconst 0) (len := 1) (pc' := 141) mJ_151 (by decide +kernel) (ns_iconst (c := 0) (by decide +kernel)) rfl ?_
            cases hr
            exact nk_iret (ty := .boolean) (len := 1) mJ_151 (by decide +kernel) rfl (nk_nar_z (by decide))
          · have hr := nk_ifn (c := r33 = 0) hc hr
            refine nk_p (i := .aload_n 0) (len := 1) (pc' := 122) mJ_151 (by decide +kernel) (ns_aload_n 0 rfl rfl) rfl ?_
            refine nk_p (i := .aload_n 0) (len := 1) (pc' := 123) mJ_151 (by decide +kernel) (ns_aload_n 0 rfl rfl) rfl ?_
            refine nk_p (i := .aload_n 0) (len := 1) (pc' := 124) mJ_151 (by decide +kernel) (ns_aload_n 0 rfl rfl) rfl ?_
            refine nk_getI (y := (0, 0)) (x := 194) (len := 3) (ci := 13) (k := 11) (pc' := 127) ja_okT mJ_151 (by decide +kernel) (by decide +kernel) (by decide +kernel) t_l0 rfl ?_
            obtain ⟨r36, S37, h38, hr⟩ := nk_bde hr
            refine nk_callV (ci := 13) (n := 1) (x := 207) (len := 3) (j' := 145) (q' := 1) (r := r36) (S' := S37) (L2 := [(0, nk_r l0), (1, nk_i (S34.1 l0 11))]) (rest := [nk_r l0]) (st' := [nk_i r36, nk_r l0]) (pc' := 130) mJ_151 (by decide +kernel) (by decide +kernel) rfl rfl t_l0 (Nat.le_of_ble_eq_true rfl) mJ_145 (Nat.le_of_ble_eq_true rfl) rfl (ja_X13_isClassName_ok zs _ _ _ _ t_l0 h38) rfl ?_
            obtain ⟨r39, S40, h41, hr⟩ := nk_bde hr
            refine nk_callV (ci := 13) (n := 1) (x := 203) (len := 3) (j' := 231) (q' := 1) (r := r39) (S' := S40) (L2 := [(0, nk_r l0), (1, nk_i r36)]) (rest := []) (st' := [nk_i r39]) (pc' := 133) mJ_151 (by decide +kernel) (by decide +kernel) rfl rfl t_l0 (Nat.le_of_ble_eq_true rfl) mJ_231 (Nat.le_of_ble_eq_true rfl) rfl (ja_X13_takes_ok zs _ _ _ _ t_l0 h41) rfl ?_
            refine nk_icond (c := .eq) (off := 7) (len := 3) (t := 140) (pc' := 136) mJ_151 (by decide +kernel) (by decide +kernel) rfl (fun hc => ?_) (fun hc => ?_)
            · have hr := nk_ifp (c := r39 = 0) hc hr
              refine nk_p (i := .iconst 0) (len := 1) (pc' := 141) mJ_151 (by decide +kernel) (ns_iconst (c := 0) (by decide +kernel)) rfl ?_
              cases hr
              exact nk_iret (ty := .boolean) (len := 1) mJ_151 (by decide +kernel) rfl (nk_nar_z (by decide))
            · have hr := nk_ifn (c := r39 = 0) hc hr
              refine nk_p (i := .iconst 1) (len := 1) (pc' := 137) mJ_151 (by decide +kernel) (ns_iconst (c := 1) (by decide +kernel)) rfl ?_
              refine nk_p (i := .goto 4) (len := 3) (pc' := 141) mJ_151 (by decide +kernel) (ns_goto (by decide +kernel)) rfl ?_
              cases hr
              exact nk_iret (ty := .boolean) (len := 1) mJ_151 (by decide +kernel) rfl (nk_nar_z (by decide))
  · have hr := nk_ifn (c := r1 = 0) hc hr
    refine nk_p (i := .aload_n 0) (len := 1) (pc' := 25) mJ_151 (by decide +kernel) (ns_aload_n 0 rfl rfl) rfl ?_
    refine nk_p (i := .aload_n 0) (len := 1) (pc' := 26) mJ_151 (by decide +kernel) (ns_aload_n 0 rfl rfl) rfl ?_
    refine nk_p (i := .aload_n 0) (len := 1) (pc' := 27) mJ_151 (by decide +kernel) (ns_aload_n 0 rfl rfl) rfl ?_
    refine nk_getI (y := (0, 0)) (x := 194) (len := 3) (ci := 13) (k := 11) (pc' := 30) ja_okT mJ_151 (by decide +kernel) (by decide +kernel) (by decide +kernel) t_l0 rfl ?_
    obtain ⟨r42, S43, h44, hr⟩ := nk_bde hr
    refine nk_callV (ci := 13) (n := 1) (x := 222) (len := 3) (j' := 162) (q' := 1) (r := r42) (S' := S43) (L2 := [(0, nk_r l0), (1, nk_i (S2.1 l0 11))]) (rest := [nk_r l0]) (st' := [nk_i r42, nk_r l0]) (pc' := 33) mJ_151 (by decide +kernel) (by decide +kernel) rfl rfl t_l0 (Nat.le_of_ble_eq_true rfl) mJ_162 (Nat.le_of_ble_eq_true rfl) rfl (ja_X13_isSmallName_ok zs _ _ _ _ t_l0 h44) rfl ?_
    obtain ⟨r45, S46, h47, hr⟩ := nk_bde hr
    refine nk_callV (ci := 13) (n := 1) (x := 203) (len := 3) (j' := 231) (q' := 1) (r := r45) (S' := S46) (L2 := [(0, nk_r l0), (1, nk_i r42)]) (rest := []) (st' := [nk_i r45]) (pc' := 36) mJ_151 (by decide +kernel) (by decide +kernel) rfl rfl t_l0 (Nat.le_of_ble_eq_true rfl) mJ_231 (Nat.le_of_ble_eq_true rfl) rfl (ja_X13_takes_ok zs _ _ _ _ t_l0 h47) rfl ?_
    refine nk_icond (c := .eq) (off := 15) (len := 3) (t := 51) (pc' := 39) mJ_151 (by decide +kernel) (by decide +kernel) rfl (fun hc => ?_) (fun hc => ?_)
    · have hr := nk_ifp (c := r45 = 0) hc hr
      refine nk_p (i := .iconst 0) (len := 1) (pc' := 52) mJ_151 (by decide +kernel) (ns_iconst (c := 0) (by decide +kernel)) rfl ?_
      cases hr
      exact nk_iret (ty := .boolean) (len := 1) mJ_151 (by decide +kernel) rfl (nk_nar_z (by decide))
    · have hr := nk_ifn (c := r45 = 0) hc hr
      refine nk_p (i := .aload_n 0) (len := 1) (pc' := 40) mJ_151 (by decide +kernel) (ns_aload_n 0 rfl rfl) rfl ?_
      refine nk_p (i := .iconst 1) (len := 1) (pc' := 41) mJ_151 (by decide +kernel) (ns_iconst (c := 1) (by decide +kernel)) rfl ?_
      obtain ⟨r48, S49, h50, hr⟩ := nk_bde hr
      refine nk_callV (ci := 13) (n := 1) (x := 203) (len := 3) (j' := 231) (q' := 1) (r := r48) (S' := S49) (L2 := [(0, nk_r l0), (1, nk_i 1)]) (rest := []) (st' := [nk_i r48]) (pc' := 44) mJ_151 (by decide +kernel) (by decide +kernel) rfl rfl t_l0 (Nat.le_of_ble_eq_true rfl) mJ_231 (Nat.le_of_ble_eq_true rfl) rfl (ja_X13_takes_ok zs _ _ _ _ t_l0 h50) rfl ?_
      refine nk_icond (c := .eq) (off := 7) (len := 3) (t := 51) (pc' := 47) mJ_151 (by decide +kernel) (by decide +kernel) rfl (fun hc => ?_) (fun hc => ?_)
      · have hr := nk_ifp (c := r48 = 0) hc hr
        refine nk_p (i := .iconst 0) (len := 1) (pc' := 52) mJ_151 (by decide +kernel) (ns_iconst (c := 0) (by decide +kernel)) rfl ?_
        cases hr
        exact nk_iret (ty := .boolean) (len := 1) mJ_151 (by decide +kernel) rfl (nk_nar_z (by decide))
      · have hr := nk_ifn (c := r48 = 0) hc hr
        refine nk_p (i := .iconst 1) (len := 1) (pc' := 48) mJ_151 (by decide +kernel) (ns_iconst (c := 1) (by decide +kernel)) rfl ?_
        refine nk_p (i := .goto 4) (len := 3) (pc' := 52) mJ_151 (by decide +kernel) (ns_goto (by decide +kernel)) rfl ?_
        cases hr
        exact nk_iret (ty := .boolean) (len := 1) mJ_151 (by decide +kernel) rfl (nk_nar_z (by decide))
noncomputable def ja_X13_isLine (l0 : Nat) (S : nk_S) : Option (Int × nk_S) :=
  if (S.1 l0 11) < (S.1 l0 10) then
    ja_X13_isLine_b13 l0 S
  else
    some (0, S)
theorem ja_X13_isLine_ok (zs : List Int32) : ∀ (l0 : Nat) (S : nk_S) (R : Int × nk_S), nk_cl ja_Tt l0 = some 13 → ja_X13_isLine l0 S = some R → nk_K ja_Tt mi_Γ (mi_ev zs) 1 151 0 [(0, nk_r l0)] [] S R := by
  intro l0 S R t_l0 hr
  unfold ja_X13_isLine at hr
  refine nk_p (i := .aload_n 0) (len := 1) (pc' := 1) mJ_151 (by decide +kernel) (ns_aload_n 0 rfl rfl) rfl ?_
  refine nk_getI (y := (0, 0)) (x := 194) (len := 3) (ci := 13) (k := 11) (pc' := 4) ja_okT mJ_151 (by decide +kernel) (by decide +kernel) (by decide +kernel) t_l0 rfl ?_
  refine nk_p (i := .aload_n 0) (len := 1) (pc' := 5) mJ_151 (by decide +kernel) (ns_aload_n 0 rfl rfl) rfl ?_
  refine nk_getI (y := (0, 0)) (x := 155) (len := 3) (ci := 13) (k := 10) (pc' := 8) ja_okT mJ_151 (by decide +kernel) (by decide +kernel) (by decide +kernel) t_l0 rfl ?_
  refine nk_icmp (c := .lt) (off := 5) (len := 3) (t := 13) (pc' := 11) mJ_151 (by decide +kernel) (by decide +kernel) rfl (fun hc => ?_) (fun hc => ?_)
  · have hr := nk_ifp (c := (S.1 l0 11) < (S.1 l0 10)) hc hr
    exact ja_X13_isLine_b13_ok zs _ _ _ t_l0 hr
  · have hr := nk_ifn (c := (S.1 l0 11) < (S.1 l0 10)) hc hr
    refine nk_p (i := .iconst 0) (len := 1) (pc' := 12) mJ_151 (by decide +kernel) (ns_iconst (c := 0) (by decide +kernel)) rfl ?_
    cases hr
    exact nk_iret (ty := .boolean) (len := 1) mJ_151 (by decide +kernel) rfl (nk_nar_z (by decide))
/-! SafeCodeModel isMember ()Z -/
noncomputable def ja_X13_isMember_b241 (rec241 : Nat → nk_S → Option (Int × nk_S)) (l0 : Nat) (S : nk_S) : Option (Int × nk_S) :=
  nk_bd (ja_X13_is l0 (S.1 l0 11) 13 S) fun r1 S2 =>
  if r1 = 0 then
    nk_bd (ja_X13_isLine l0 S2) fun r6 S7 =>
    if r6 = 0 then
      some (0, S7)
    else
      rec241 l0 S7
  else
    nk_lt (nk_wi S2 l0 11 (nk_w ((S2.1 l0 11) + 1))) fun S4 =>
    some (1, S4)
theorem ja_X13_isMember_b241_ok (zs : List Int32) {rec241 : Nat → nk_S → Option (Int × nk_S)} (hrec241 : ∀ (l0 : Nat) (S : nk_S) (R : Int × nk_S), nk_cl ja_Tt l0 = some 13 → rec241 l0 S = some R → nk_K ja_Tt mi_Γ (mi_ev zs) 1 152 241 [(0, nk_r l0)] [] S R) : ∀ (l0 : Nat) (S : nk_S) (R : Int × nk_S), nk_cl ja_Tt l0 = some 13 → ja_X13_isMember_b241 rec241 l0 S = some R → nk_K ja_Tt mi_Γ (mi_ev zs) 1 152 241 [(0, nk_r l0)] [] S R := by
  intro l0 S R t_l0 hr
  unfold ja_X13_isMember_b241 at hr
  refine nk_p (i := .aload_n 0) (len := 1) (pc' := 242) mJ_152 (by decide +kernel) (ns_aload_n 0 rfl rfl) rfl ?_
  refine nk_p (i := .aload_n 0) (len := 1) (pc' := 243) mJ_152 (by decide +kernel) (ns_aload_n 0 rfl rfl) rfl ?_
  refine nk_getI (y := (0, 0)) (x := 194) (len := 3) (ci := 13) (k := 11) (pc' := 246) ja_okT mJ_152 (by decide +kernel) (by decide +kernel) (by decide +kernel) t_l0 rfl ?_
  refine nk_ldct (x := 214) (len := 2) (k := 13) (s := "}") (pc' := 248) mJ_152 (by decide +kernel) (by decide +kernel) (by decide +kernel) rfl ?_
  obtain ⟨r1, S2, h3, hr⟩ := nk_bde hr
  refine nk_callV (ci := 13) (n := 2) (x := 199) (len := 3) (j' := 138) (q' := 1) (r := r1) (S' := S2) (L2 := [(0, nk_r l0), (1, nk_i (S.1 l0 11)), (2, nk_o 13)]) (rest := []) (st' := [nk_i r1]) (pc' := 251) mJ_152 (by decide +kernel) (by decide +kernel) rfl rfl t_l0 (Nat.le_of_ble_eq_true rfl) mJ_138 (Nat.le_of_ble_eq_true rfl) rfl (ja_X13_is_ok zs _ _ _ _ _ t_l0 (ja_tx13 zs) h3) rfl ?_
  refine nk_icond (c := .ne) (off := 12) (len := 3) (t := 263) (pc' := 254) mJ_152 (by decide +kernel) (by decide +kernel) rfl (fun hc => ?_) (fun hc => ?_)
  · have hr := nk_ifn (c := r1 = 0) hc hr
    refine nk_p (i := .aload_n 0) (len := 1) (pc' := 264) mJ_152 (by decide +kernel) (ns_aload_n 0 rfl rfl) rfl ?_
    refine nk_p (i := .dup) (len := 1) (pc' := 265) mJ_152 (by decide +kernel) (ns_dup rfl) rfl ?_
    refine nk_getI (y := (0, 0)) (x := 194) (len := 3) (ci := 13) (k := 11) (pc' := 268) ja_okT mJ_152 (by decide +kernel) (by decide +kernel) (by decide +kernel) t_l0 rfl ?_
    refine nk_p (i := .iconst 1) (len := 1) (pc' := 269) mJ_152 (by decide +kernel) (ns_iconst (c := 1) (by decide +kernel)) rfl ?_
    refine nk_p (i := .iadd) (len := 1) (pc' := 270) mJ_152 (by decide +kernel) ns_iadd rfl ?_
    obtain ⟨S4, h5, hr⟩ := nk_lte hr
    refine nk_putI (y := (0, 0)) (ty := .int) (x := 194) (len := 3) (ci := 13) (k := 11) (pc' := 273) ja_okT mJ_152 (by decide +kernel) (by decide +kernel) (by decide +kernel) t_l0 (Or.inl rfl) rfl h5 ?_
    refine nk_p (i := .iconst 1) (len := 1) (pc' := 274) mJ_152 (by decide +kernel) (ns_iconst (c := 1) (by decide +kernel)) rfl ?_
    cases hr
    exact nk_iret (ty := .boolean) (len := 1) mJ_152 (by decide +kernel) rfl (nk_nar_z (by decide))
  · have hr := nk_ifp (c := r1 = 0) (Decidable.of_not_not hc) hr
    refine nk_p (i := .aload_n 0) (len := 1) (pc' := 255) mJ_152 (by decide +kernel) (ns_aload_n 0 rfl rfl) rfl ?_
    obtain ⟨r6, S7, h8, hr⟩ := nk_bde hr
    refine nk_callV (ci := 13) (n := 0) (x := 241) (len := 3) (j' := 151) (q' := 1) (r := r6) (S' := S7) (L2 := [(0, nk_r l0)]) (rest := []) (st' := [nk_i r6]) (pc' := 258) mJ_152 (by decide +kernel) (by decide +kernel) rfl rfl t_l0 (Nat.le_of_ble_eq_true rfl) mJ_151 (Nat.le_of_ble_eq_true rfl) rfl (ja_X13_isLine_ok zs _ _ _ t_l0 h8) rfl ?_
    refine nk_icond (c := .ne) (off := (-17)) (len := 3) (t := 241) (pc' := 261) mJ_152 (by decide +kernel) (by decide +kernel) rfl (fun hc => ?_) (fun hc => ?_)
    · have hr := nk_ifn (c := r6 = 0) hc hr
      exact hrec241 _ _ _ t_l0 hr
    · have hr := nk_ifp (c := r6 = 0) (Decidable.of_not_not hc) hr
      refine nk_p (i := .iconst 0) (len := 1) (pc' := 262) mJ_152 (by decide +kernel) (ns_iconst (c := 0) (by decide +kernel)) rfl ?_
      cases hr
      exact nk_iret (ty := .boolean) (len := 1) mJ_152 (by decide +kernel) rfl (nk_nar_z (by decide))
noncomputable def ja_X13_isMember_L241 : Nat → Nat → nk_S → Option (Int × nk_S)
  | 0, _, _ => none
  | n + 1, l0, S => ja_X13_isMember_b241 (ja_X13_isMember_L241 n) l0 S
theorem ja_X13_isMember_L241_ok (zs : List Int32) : ∀ n : Nat, ∀ (l0 : Nat) (S : nk_S) (R : Int × nk_S), nk_cl ja_Tt l0 = some 13 → ja_X13_isMember_L241 n l0 S = some R → nk_K ja_Tt mi_Γ (mi_ev zs) 1 152 241 [(0, nk_r l0)] [] S R := by
  intro n
  induction n with
  | zero => intro _ _ _ _ hr; cases hr
  | succ n ih => intro l0 S R t_l0 hr; exact ja_X13_isMember_b241_ok zs ih l0 S R t_l0 hr
noncomputable def ja_X13_isMember_b201 (l0 : Nat) (s0 : Nat) (s1 : Int) (S : nk_S) : Option (Int × nk_S) :=
  nk_bd (ja_X13_takes s0 s1 S) fun r1 S2 =>
  if r1 = 0 then
    some (0, S2)
  else
    nk_bd (ja_X13_isNumber l0 (S2.1 l0 11) S2) fun r4 S5 =>
    nk_bd (ja_X13_takes l0 r4 S5) fun r7 S8 =>
    if r7 = 0 then
      some (0, S8)
    else
      nk_bd (ja_X13_is l0 (S8.1 l0 11) 11 S8) fun r10 S11 =>
      nk_bd (ja_X13_takes l0 r10 S11) fun r13 S14 =>
      if r13 = 0 then
        some (0, S14)
      else
        ja_X13_isMember_L241 nk_big l0 S14
theorem ja_X13_isMember_b201_ok (zs : List Int32) : ∀ (l0 : Nat) (s0 : Nat) (s1 : Int) (S : nk_S) (R : Int × nk_S), nk_cl ja_Tt l0 = some 13 → nk_cl ja_Tt s0 = some 13 → ja_X13_isMember_b201 l0 s0 s1 S = some R → nk_K ja_Tt mi_Γ (mi_ev zs) 1 152 201 [(0, nk_r l0)] [nk_i s1, nk_r s0] S R := by
  intro l0 s0 s1 S R t_l0 t_s0 hr
  unfold ja_X13_isMember_b201 at hr
  obtain ⟨r1, S2, h3, hr⟩ := nk_bde hr
  refine nk_callV (ci := 13) (n := 1) (x := 203) (len := 3) (j' := 231) (q' := 1) (r := r1) (S' := S2) (L2 := [(0, nk_r s0), (1, nk_i s1)]) (rest := []) (st' := [nk_i r1]) (pc' := 204) mJ_152 (by decide +kernel) (by decide +kernel) rfl rfl t_s0 (Nat.le_of_ble_eq_true rfl) mJ_231 (Nat.le_of_ble_eq_true rfl) rfl (ja_X13_takes_ok zs _ _ _ _ t_s0 h3) rfl ?_
  refine nk_icond (c := .eq) (off := 35) (len := 3) (t := 239) (pc' := 207) mJ_152 (by decide +kernel) (by decide +kernel) rfl (fun hc => ?_) (fun hc => ?_)
  · have hr := nk_ifp (c := r1 = 0) hc hr
    refine nk_p (i := .iconst 0) (len := 1) (pc' := 240) mJ_152 (by decide +kernel) (ns_iconst (c := 0) (by decide +kernel)) rfl ?_
    cases hr
    exact nk_iret (ty := .boolean) (len := 1) mJ_152 (by decide +kernel) rfl (nk_nar_z (by decide))
  · have hr := nk_ifn (c := r1 = 0) hc hr
    refine nk_p (i := .aload_n 0) (len := 1) (pc' := 208) mJ_152 (by decide +kernel) (ns_aload_n 0 rfl rfl) rfl ?_
    refine nk_p (i := .aload_n 0) (len := 1) (pc' := 209) mJ_152 (by decide +kernel) (ns_aload_n 0 rfl rfl) rfl ?_
    refine nk_p (i := .aload_n 0) (len := 1) (pc' := 210) mJ_152 (by decide +kernel) (ns_aload_n 0 rfl rfl) rfl ?_
    refine nk_getI (y := (0, 0)) (x := 194) (len := 3) (ci := 13) (k := 11) (pc' := 213) ja_okT mJ_152 (by decide +kernel) (by decide +kernel) (by decide +kernel) t_l0 rfl ?_
    obtain ⟨r4, S5, h6, hr⟩ := nk_bde hr
    refine nk_callV (ci := 13) (n := 1) (x := 238) (len := 3) (j' := 154) (q' := 1) (r := r4) (S' := S5) (L2 := [(0, nk_r l0), (1, nk_i (S2.1 l0 11))]) (rest := [nk_r l0]) (st' := [nk_i r4, nk_r l0]) (pc' := 216) mJ_152 (by decide +kernel) (by decide +kernel) rfl rfl t_l0 (Nat.le_of_ble_eq_true rfl) mJ_154 (Nat.le_of_ble_eq_true rfl) rfl (ja_X13_isNumber_ok zs _ _ _ _ t_l0 h6) rfl ?_
    obtain ⟨r7, S8, h9, hr⟩ := nk_bde hr
    refine nk_callV (ci := 13) (n := 1) (x := 203) (len := 3) (j' := 231) (q' := 1) (r := r7) (S' := S8) (L2 := [(0, nk_r l0), (1, nk_i r4)]) (rest := []) (st' := [nk_i r7]) (pc' := 219) mJ_152 (by decide +kernel) (by decide +kernel) rfl rfl t_l0 (Nat.le_of_ble_eq_true rfl) mJ_231 (Nat.le_of_ble_eq_true rfl) rfl (ja_X13_takes_ok zs _ _ _ _ t_l0 h9) rfl ?_
    refine nk_icond (c := .eq) (off := 20) (len := 3) (t := 239) (pc' := 222) mJ_152 (by decide +kernel) (by decide +kernel) rfl (fun hc => ?_) (fun hc => ?_)
    · have hr := nk_ifp (c := r7 = 0) hc hr
      refine nk_p (i := .iconst 0) (len := 1) (pc' := 240) mJ_152 (by decide +kernel) (ns_iconst (c := 0) (by decide +kernel)) rfl ?_
      cases hr
      exact nk_iret (ty := .boolean) (len := 1) mJ_152 (by decide +kernel) rfl (nk_nar_z (by decide))
    · have hr := nk_ifn (c := r7 = 0) hc hr
      refine nk_p (i := .aload_n 0) (len := 1) (pc' := 223) mJ_152 (by decide +kernel) (ns_aload_n 0 rfl rfl) rfl ?_
      refine nk_p (i := .aload_n 0) (len := 1) (pc' := 224) mJ_152 (by decide +kernel) (ns_aload_n 0 rfl rfl) rfl ?_
      refine nk_p (i := .aload_n 0) (len := 1) (pc' := 225) mJ_152 (by decide +kernel) (ns_aload_n 0 rfl rfl) rfl ?_
      refine nk_getI (y := (0, 0)) (x := 194) (len := 3) (ci := 13) (k := 11) (pc' := 228) ja_okT mJ_152 (by decide +kernel) (by decide +kernel) (by decide +kernel) t_l0 rfl ?_
      refine nk_ldct (x := 212) (len := 2) (k := 11) (s := "{") (pc' := 230) mJ_152 (by decide +kernel) (by decide +kernel) (by decide +kernel) rfl ?_
      obtain ⟨r10, S11, h12, hr⟩ := nk_bde hr
      refine nk_callV (ci := 13) (n := 2) (x := 199) (len := 3) (j' := 138) (q' := 1) (r := r10) (S' := S11) (L2 := [(0, nk_r l0), (1, nk_i (S8.1 l0 11)), (2, nk_o 11)]) (rest := [nk_r l0]) (st' := [nk_i r10, nk_r l0]) (pc' := 233) mJ_152 (by decide +kernel) (by decide +kernel) rfl rfl t_l0 (Nat.le_of_ble_eq_true rfl) mJ_138 (Nat.le_of_ble_eq_true rfl) rfl (ja_X13_is_ok zs _ _ _ _ _ t_l0 (ja_tx11 zs) h12) rfl ?_
      obtain ⟨r13, S14, h15, hr⟩ := nk_bde hr
      refine nk_callV (ci := 13) (n := 1) (x := 203) (len := 3) (j' := 231) (q' := 1) (r := r13) (S' := S14) (L2 := [(0, nk_r l0), (1, nk_i r10)]) (rest := []) (st' := [nk_i r13]) (pc' := 236) mJ_152 (by decide +kernel) (by decide +kernel) rfl rfl t_l0 (Nat.le_of_ble_eq_true rfl) mJ_231 (Nat.le_of_ble_eq_true rfl) rfl (ja_X13_takes_ok zs _ _ _ _ t_l0 h15) rfl ?_
      refine nk_icond (c := .ne) (off := 5) (len := 3) (t := 241) (pc' := 239) mJ_152 (by decide +kernel) (by decide +kernel) rfl (fun hc => ?_) (fun hc => ?_)
      · have hr := nk_ifn (c := r13 = 0) hc hr
        exact ja_X13_isMember_L241_ok zs nk_big _ _ _ t_l0 hr
      · have hr := nk_ifp (c := r13 = 0) (Decidable.of_not_not hc) hr
        refine nk_p (i := .iconst 0) (len := 1) (pc' := 240) mJ_152 (by decide +kernel) (ns_iconst (c := 0) (by decide +kernel)) rfl ?_
        cases hr
        exact nk_iret (ty := .boolean) (len := 1) mJ_152 (by decide +kernel) rfl (nk_nar_z (by decide))
noncomputable def ja_X13_isMember_b196 (l0 : Nat) (s0 : Nat) (S : nk_S) : Option (Int × nk_S) :=
  ja_X13_isMember_b201 l0 s0 1 S
theorem ja_X13_isMember_b196_ok (zs : List Int32) : ∀ (l0 : Nat) (s0 : Nat) (S : nk_S) (R : Int × nk_S), nk_cl ja_Tt l0 = some 13 → nk_cl ja_Tt s0 = some 13 → ja_X13_isMember_b196 l0 s0 S = some R → nk_K ja_Tt mi_Γ (mi_ev zs) 1 152 196 [(0, nk_r l0)] [nk_r s0] S R := by
  intro l0 s0 S R t_l0 t_s0 hr
  unfold ja_X13_isMember_b196 at hr
  refine nk_p (i := .iconst 1) (len := 1) (pc' := 197) mJ_152 (by decide +kernel) (ns_iconst (c := 1) (by decide +kernel)) rfl ?_
  refine nk_p (i := .goto 4) (len := 3) (pc' := 201) mJ_152 (by decide +kernel) (ns_goto (by decide +kernel)) rfl ?_
  exact ja_X13_isMember_b201_ok zs _ _ _ _ _ t_l0 t_s0 hr
noncomputable def ja_X13_isMember_b131 (rec131 : Nat → nk_S → Option (Int × nk_S)) (l0 : Nat) (S : nk_S) : Option (Int × nk_S) :=
  nk_bd (ja_X13_is l0 (S.1 l0 11) 23 S) fun r1 S2 =>
  if r1 = 0 then
    nk_bd (ja_X13_isType l0 (S2.1 l0 11) S2) fun r12 S13 =>
    nk_bd (ja_X13_takes l0 r12 S13) fun r15 S16 =>
    if r15 = 0 then
      some (0, S16)
    else
      rec131 l0 S16
  else
    nk_lt (nk_wi S2 l0 11 (nk_w ((S2.1 l0 11) + 1))) fun S4 =>
    nk_bd (ja_X13_is l0 (S4.1 l0 11) 25 S4) fun r6 S7 =>
    if r6 = 0 then
      nk_bd (ja_X13_isType l0 (S7.1 l0 11) S7) fun r9 S10 =>
      if r9 = 0 then
        ja_X13_isMember_b201 l0 l0 0 S10
      else
        ja_X13_isMember_b196 l0 l0 S10
    else
      ja_X13_isMember_b196 l0 l0 S7
theorem ja_X13_isMember_b131_ok (zs : List Int32) {rec131 : Nat → nk_S → Option (Int × nk_S)} (hrec131 : ∀ (l0 : Nat) (S : nk_S) (R : Int × nk_S), nk_cl ja_Tt l0 = some 13 → rec131 l0 S = some R → nk_K ja_Tt mi_Γ (mi_ev zs) 1 152 131 [(0, nk_r l0)] [] S R) : ∀ (l0 : Nat) (S : nk_S) (R : Int × nk_S), nk_cl ja_Tt l0 = some 13 → ja_X13_isMember_b131 rec131 l0 S = some R → nk_K ja_Tt mi_Γ (mi_ev zs) 1 152 131 [(0, nk_r l0)] [] S R := by
  intro l0 S R t_l0 hr
  unfold ja_X13_isMember_b131 at hr
  refine nk_p (i := .aload_n 0) (len := 1) (pc' := 132) mJ_152 (by decide +kernel) (ns_aload_n 0 rfl rfl) rfl ?_
  refine nk_p (i := .aload_n 0) (len := 1) (pc' := 133) mJ_152 (by decide +kernel) (ns_aload_n 0 rfl rfl) rfl ?_
  refine nk_getI (y := (0, 0)) (x := 194) (len := 3) (ci := 13) (k := 11) (pc' := 136) ja_okT mJ_152 (by decide +kernel) (by decide +kernel) (by decide +kernel) t_l0 rfl ?_
  refine nk_ldct (x := 234) (len := 2) (k := 23) (s := ")") (pc' := 138) mJ_152 (by decide +kernel) (by decide +kernel) (by decide +kernel) rfl ?_
  obtain ⟨r1, S2, h3, hr⟩ := nk_bde hr
  refine nk_callV (ci := 13) (n := 2) (x := 199) (len := 3) (j' := 138) (q' := 1) (r := r1) (S' := S2) (L2 := [(0, nk_r l0), (1, nk_i (S.1 l0 11)), (2, nk_o 23)]) (rest := []) (st' := [nk_i r1]) (pc' := 141) mJ_152 (by decide +kernel) (by decide +kernel) rfl rfl t_l0 (Nat.le_of_ble_eq_true rfl) mJ_138 (Nat.le_of_ble_eq_true rfl) rfl (ja_X13_is_ok zs _ _ _ _ _ t_l0 (ja_tx23 zs) h3) rfl ?_
  refine nk_icond (c := .ne) (off := 20) (len := 3) (t := 161) (pc' := 144) mJ_152 (by decide +kernel) (by decide +kernel) rfl (fun hc => ?_) (fun hc => ?_)
  · have hr := nk_ifn (c := r1 = 0) hc hr
    refine nk_p (i := .aload_n 0) (len := 1) (pc' := 162) mJ_152 (by decide +kernel) (ns_aload_n 0 rfl rfl) rfl ?_
    refine nk_p (i := .dup) (len := 1) (pc' := 163) mJ_152 (by decide +kernel) (ns_dup rfl) rfl ?_
    refine nk_getI (y := (0, 0)) (x := 194) (len := 3) (ci := 13) (k := 11) (pc' := 166) ja_okT mJ_152 (by decide +kernel) (by decide +kernel) (by decide +kernel) t_l0 rfl ?_
    refine nk_p (i := .iconst 1) (len := 1) (pc' := 167) mJ_152 (by decide +kernel) (ns_iconst (c := 1) (by decide +kernel)) rfl ?_
    refine nk_p (i := .iadd) (len := 1) (pc' := 168) mJ_152 (by decide +kernel) ns_iadd rfl ?_
    obtain ⟨S4, h5, hr⟩ := nk_lte hr
    refine nk_putI (y := (0, 0)) (ty := .int) (x := 194) (len := 3) (ci := 13) (k := 11) (pc' := 171) ja_okT mJ_152 (by decide +kernel) (by decide +kernel) (by decide +kernel) t_l0 (Or.inl rfl) rfl h5 ?_
    refine nk_p (i := .aload_n 0) (len := 1) (pc' := 172) mJ_152 (by decide +kernel) (ns_aload_n 0 rfl rfl) rfl ?_
    refine nk_p (i := .aload_n 0) (len := 1) (pc' := 173) mJ_152 (by decide +kernel) (ns_aload_n 0 rfl rfl) rfl ?_
    refine nk_p (i := .aload_n 0) (len := 1) (pc' := 174) mJ_152 (by decide +kernel) (ns_aload_n 0 rfl rfl) rfl ?_
    refine nk_getI (y := (0, 0)) (x := 194) (len := 3) (ci := 13) (k := 11) (pc' := 177) ja_okT mJ_152 (by decide +kernel) (by decide +kernel) (by decide +kernel) t_l0 rfl ?_
    refine nk_ldct (x := 236) (len := 2) (k := 25) (s := "none") (pc' := 179) mJ_152 (by decide +kernel) (by decide +kernel) (by decide +kernel) rfl ?_
    obtain ⟨r6, S7, h8, hr⟩ := nk_bde hr
    refine nk_callV (ci := 13) (n := 2) (x := 199) (len := 3) (j' := 138) (q' := 1) (r := r6) (S' := S7) (L2 := [(0, nk_r l0), (1, nk_i (S4.1 l0 11)), (2, nk_o 25)]) (rest := [nk_r l0]) (st' := [nk_i r6, nk_r l0]) (pc' := 182) mJ_152 (by decide +kernel) (by decide +kernel) rfl rfl t_l0 (Nat.le_of_ble_eq_true rfl) mJ_138 (Nat.le_of_ble_eq_true rfl) rfl (ja_X13_is_ok zs _ _ _ _ _ t_l0 (ja_tx25 zs) h8) rfl ?_
    refine nk_icond (c := .ne) (off := 14) (len := 3) (t := 196) (pc' := 185) mJ_152 (by decide +kernel) (by decide +kernel) rfl (fun hc => ?_) (fun hc => ?_)
    · have hr := nk_ifn (c := r6 = 0) hc hr
      exact ja_X13_isMember_b196_ok zs _ _ _ _ t_l0 t_l0 hr
    · have hr := nk_ifp (c := r6 = 0) (Decidable.of_not_not hc) hr
      refine nk_p (i := .aload_n 0) (len := 1) (pc' := 186) mJ_152 (by decide +kernel) (ns_aload_n 0 rfl rfl) rfl ?_
      refine nk_p (i := .aload_n 0) (len := 1) (pc' := 187) mJ_152 (by decide +kernel) (ns_aload_n 0 rfl rfl) rfl ?_
      refine nk_getI (y := (0, 0)) (x := 194) (len := 3) (ci := 13) (k := 11) (pc' := 190) ja_okT mJ_152 (by decide +kernel) (by decide +kernel) (by decide +kernel) t_l0 rfl ?_
      obtain ⟨r9, S10, h11, hr⟩ := nk_bde hr
      refine nk_callV (ci := 13) (n := 1) (x := 225) (len := 3) (j' := 163) (q' := 1) (r := r9) (S' := S10) (L2 := [(0, nk_r l0), (1, nk_i (S7.1 l0 11))]) (rest := [nk_r l0]) (st' := [nk_i r9, nk_r l0]) (pc' := 193) mJ_152 (by decide +kernel) (by decide +kernel) rfl rfl t_l0 (Nat.le_of_ble_eq_true rfl) mJ_163 (Nat.le_of_ble_eq_true rfl) rfl (ja_X13_isType_ok zs _ _ _ _ t_l0 h11) rfl ?_
      refine nk_icond (c := .eq) (off := 7) (len := 3) (t := 200) (pc' := 196) mJ_152 (by decide +kernel) (by decide +kernel) rfl (fun hc => ?_) (fun hc => ?_)
      · have hr := nk_ifp (c := r9 = 0) hc hr
        refine nk_p (i := .iconst 0) (len := 1) (pc' := 201) mJ_152 (by decide +kernel) (ns_iconst (c := 0) (by decide +kernel)) rfl ?_
        exact ja_X13_isMember_b201_ok zs _ _ _ _ _ t_l0 t_l0 hr
      · have hr := nk_ifn (c := r9 = 0) hc hr
        exact ja_X13_isMember_b196_ok zs _ _ _ _ t_l0 t_l0 hr
  · have hr := nk_ifp (c := r1 = 0) (Decidable.of_not_not hc) hr
    refine nk_p (i := .aload_n 0) (len := 1) (pc' := 145) mJ_152 (by decide +kernel) (ns_aload_n 0 rfl rfl) rfl ?_
    refine nk_p (i := .aload_n 0) (len := 1) (pc' := 146) mJ_152 (by decide +kernel) (ns_aload_n 0 rfl rfl) rfl ?_
    refine nk_p (i := .aload_n 0) (len := 1) (pc' := 147) mJ_152 (by decide +kernel) (ns_aload_n 0 rfl rfl) rfl ?_
    refine nk_getI (y := (0, 0)) (x := 194) (len := 3) (ci := 13) (k := 11) (pc' := 150) ja_okT mJ_152 (by decide +kernel) (by decide +kernel) (by decide +kernel) t_l0 rfl ?_
    obtain ⟨r12, S13, h14, hr⟩ := nk_bde hr
    refine nk_callV (ci := 13) (n := 1) (x := 225) (len := 3) (j' := 163) (q' := 1) (r := r12) (S' := S13) (L2 := [(0, nk_r l0), (1, nk_i (S2.1 l0 11))]) (rest := [nk_r l0]) (st' := [nk_i r12, nk_r l0]) (pc' := 153) mJ_152 (by decide +kernel) (by decide +kernel) rfl rfl t_l0 (Nat.le_of_ble_eq_true rfl) mJ_163 (Nat.le_of_ble_eq_true rfl) rfl (ja_X13_isType_ok zs _ _ _ _ t_l0 h14) rfl ?_
    obtain ⟨r15, S16, h17, hr⟩ := nk_bde hr
    refine nk_callV (ci := 13) (n := 1) (x := 203) (len := 3) (j' := 231) (q' := 1) (r := r15) (S' := S16) (L2 := [(0, nk_r l0), (1, nk_i r12)]) (rest := []) (st' := [nk_i r15]) (pc' := 156) mJ_152 (by decide +kernel) (by decide +kernel) rfl rfl t_l0 (Nat.le_of_ble_eq_true rfl) mJ_231 (Nat.le_of_ble_eq_true rfl) rfl (ja_X13_takes_ok zs _ _ _ _ t_l0 h17) rfl ?_
    refine nk_icond (c := .ne) (off := (-25)) (len := 3) (t := 131) (pc' := 159) mJ_152 (by decide +kernel) (by decide +kernel) rfl (fun hc => ?_) (fun hc => ?_)
    · have hr := nk_ifn (c := r15 = 0) hc hr
      exact hrec131 _ _ _ t_l0 hr
    · have hr := nk_ifp (c := r15 = 0) (Decidable.of_not_not hc) hr
      refine nk_p (i := .iconst 0) (len := 1) (pc' := 160) mJ_152 (by decide +kernel) (ns_iconst (c := 0) (by decide +kernel)) rfl ?_
      cases hr
      exact nk_iret (ty := .boolean) (len := 1) mJ_152 (by decide +kernel) rfl (nk_nar_z (by decide))
noncomputable def ja_X13_isMember_L131 : Nat → Nat → nk_S → Option (Int × nk_S)
  | 0, _, _ => none
  | n + 1, l0, S => ja_X13_isMember_b131 (ja_X13_isMember_L131 n) l0 S
theorem ja_X13_isMember_L131_ok (zs : List Int32) : ∀ n : Nat, ∀ (l0 : Nat) (S : nk_S) (R : Int × nk_S), nk_cl ja_Tt l0 = some 13 → ja_X13_isMember_L131 n l0 S = some R → nk_K ja_Tt mi_Γ (mi_ev zs) 1 152 131 [(0, nk_r l0)] [] S R := by
  intro n
  induction n with
  | zero => intro _ _ _ _ hr; cases hr
  | succ n ih => intro l0 S R t_l0 hr; exact ja_X13_isMember_b131_ok zs ih l0 S R t_l0 hr
noncomputable def ja_X13_isMember_b91 (l0 : Nat) (s0 : Nat) (s1 : Int) (S : nk_S) : Option (Int × nk_S) :=
  nk_bd (ja_X13_takes s0 s1 S) fun r1 S2 =>
  if r1 = 0 then
    some (0, S2)
  else
    nk_bd (ja_X13_isSmallName l0 (S2.1 l0 11) S2) fun r4 S5 =>
    nk_bd (ja_X13_takes l0 r4 S5) fun r7 S8 =>
    if r7 = 0 then
      some (0, S8)
    else
      nk_bd (ja_X13_is l0 (S8.1 l0 11) 21 S8) fun r10 S11 =>
      nk_bd (ja_X13_takes l0 r10 S11) fun r13 S14 =>
      if r13 = 0 then
        some (0, S14)
      else
        ja_X13_isMember_L131 nk_big l0 S14
theorem ja_X13_isMember_b91_ok (zs : List Int32) : ∀ (l0 : Nat) (s0 : Nat) (s1 : Int) (S : nk_S) (R : Int × nk_S), nk_cl ja_Tt l0 = some 13 → nk_cl ja_Tt s0 = some 13 → ja_X13_isMember_b91 l0 s0 s1 S = some R → nk_K ja_Tt mi_Γ (mi_ev zs) 1 152 91 [(0, nk_r l0)] [nk_i s1, nk_r s0] S R := by
  intro l0 s0 s1 S R t_l0 t_s0 hr
  unfold ja_X13_isMember_b91 at hr
  obtain ⟨r1, S2, h3, hr⟩ := nk_bde hr
  refine nk_callV (ci := 13) (n := 1) (x := 203) (len := 3) (j' := 231) (q' := 1) (r := r1) (S' := S2) (L2 := [(0, nk_r s0), (1, nk_i s1)]) (rest := []) (st' := [nk_i r1]) (pc' := 94) mJ_152 (by decide +kernel) (by decide +kernel) rfl rfl t_s0 (Nat.le_of_ble_eq_true rfl) mJ_231 (Nat.le_of_ble_eq_true rfl) rfl (ja_X13_takes_ok zs _ _ _ _ t_s0 h3) rfl ?_
  refine nk_icond (c := .eq) (off := 35) (len := 3) (t := 129) (pc' := 97) mJ_152 (by decide +kernel) (by decide +kernel) rfl (fun hc => ?_) (fun hc => ?_)
  · have hr := nk_ifp (c := r1 = 0) hc hr
    refine nk_p (i := .iconst 0) (len := 1) (pc' := 130) mJ_152 (by decide +kernel) (ns_iconst (c := 0) (by decide +kernel)) rfl ?_
    cases hr
    exact nk_iret (ty := .boolean) (len := 1) mJ_152 (by decide +kernel) rfl (nk_nar_z (by decide))
  · have hr := nk_ifn (c := r1 = 0) hc hr
    refine nk_p (i := .aload_n 0) (len := 1) (pc' := 98) mJ_152 (by decide +kernel) (ns_aload_n 0 rfl rfl) rfl ?_
    refine nk_p (i := .aload_n 0) (len := 1) (pc' := 99) mJ_152 (by decide +kernel) (ns_aload_n 0 rfl rfl) rfl ?_
    refine nk_p (i := .aload_n 0) (len := 1) (pc' := 100) mJ_152 (by decide +kernel) (ns_aload_n 0 rfl rfl) rfl ?_
    refine nk_getI (y := (0, 0)) (x := 194) (len := 3) (ci := 13) (k := 11) (pc' := 103) ja_okT mJ_152 (by decide +kernel) (by decide +kernel) (by decide +kernel) t_l0 rfl ?_
    obtain ⟨r4, S5, h6, hr⟩ := nk_bde hr
    refine nk_callV (ci := 13) (n := 1) (x := 222) (len := 3) (j' := 162) (q' := 1) (r := r4) (S' := S5) (L2 := [(0, nk_r l0), (1, nk_i (S2.1 l0 11))]) (rest := [nk_r l0]) (st' := [nk_i r4, nk_r l0]) (pc' := 106) mJ_152 (by decide +kernel) (by decide +kernel) rfl rfl t_l0 (Nat.le_of_ble_eq_true rfl) mJ_162 (Nat.le_of_ble_eq_true rfl) rfl (ja_X13_isSmallName_ok zs _ _ _ _ t_l0 h6) rfl ?_
    obtain ⟨r7, S8, h9, hr⟩ := nk_bde hr
    refine nk_callV (ci := 13) (n := 1) (x := 203) (len := 3) (j' := 231) (q' := 1) (r := r7) (S' := S8) (L2 := [(0, nk_r l0), (1, nk_i r4)]) (rest := []) (st' := [nk_i r7]) (pc' := 109) mJ_152 (by decide +kernel) (by decide +kernel) rfl rfl t_l0 (Nat.le_of_ble_eq_true rfl) mJ_231 (Nat.le_of_ble_eq_true rfl) rfl (ja_X13_takes_ok zs _ _ _ _ t_l0 h9) rfl ?_
    refine nk_icond (c := .eq) (off := 20) (len := 3) (t := 129) (pc' := 112) mJ_152 (by decide +kernel) (by decide +kernel) rfl (fun hc => ?_) (fun hc => ?_)
    · have hr := nk_ifp (c := r7 = 0) hc hr
      refine nk_p (i := .iconst 0) (len := 1) (pc' := 130) mJ_152 (by decide +kernel) (ns_iconst (c := 0) (by decide +kernel)) rfl ?_
      cases hr
      exact nk_iret (ty := .boolean) (len := 1) mJ_152 (by decide +kernel) rfl (nk_nar_z (by decide))
    · have hr := nk_ifn (c := r7 = 0) hc hr
      refine nk_p (i := .aload_n 0) (len := 1) (pc' := 113) mJ_152 (by decide +kernel) (ns_aload_n 0 rfl rfl) rfl ?_
      refine nk_p (i := .aload_n 0) (len := 1) (pc' := 114) mJ_152 (by decide +kernel) (ns_aload_n 0 rfl rfl) rfl ?_
      refine nk_p (i := .aload_n 0) (len := 1) (pc' := 115) mJ_152 (by decide +kernel) (ns_aload_n 0 rfl rfl) rfl ?_
      refine nk_getI (y := (0, 0)) (x := 194) (len := 3) (ci := 13) (k := 11) (pc' := 118) ja_okT mJ_152 (by decide +kernel) (by decide +kernel) (by decide +kernel) t_l0 rfl ?_
      refine nk_ldct (x := 232) (len := 2) (k := 21) (s := "(") (pc' := 120) mJ_152 (by decide +kernel) (by decide +kernel) (by decide +kernel) rfl ?_
      obtain ⟨r10, S11, h12, hr⟩ := nk_bde hr
      refine nk_callV (ci := 13) (n := 2) (x := 199) (len := 3) (j' := 138) (q' := 1) (r := r10) (S' := S11) (L2 := [(0, nk_r l0), (1, nk_i (S8.1 l0 11)), (2, nk_o 21)]) (rest := [nk_r l0]) (st' := [nk_i r10, nk_r l0]) (pc' := 123) mJ_152 (by decide +kernel) (by decide +kernel) rfl rfl t_l0 (Nat.le_of_ble_eq_true rfl) mJ_138 (Nat.le_of_ble_eq_true rfl) rfl (ja_X13_is_ok zs _ _ _ _ _ t_l0 (ja_tx21 zs) h12) rfl ?_
      obtain ⟨r13, S14, h15, hr⟩ := nk_bde hr
      refine nk_callV (ci := 13) (n := 1) (x := 203) (len := 3) (j' := 231) (q' := 1) (r := r13) (S' := S14) (L2 := [(0, nk_r l0), (1, nk_i r10)]) (rest := []) (st' := [nk_i r13]) (pc' := 126) mJ_152 (by decide +kernel) (by decide +kernel) rfl rfl t_l0 (Nat.le_of_ble_eq_true rfl) mJ_231 (Nat.le_of_ble_eq_true rfl) rfl (ja_X13_takes_ok zs _ _ _ _ t_l0 h15) rfl ?_
      refine nk_icond (c := .ne) (off := 5) (len := 3) (t := 131) (pc' := 129) mJ_152 (by decide +kernel) (by decide +kernel) rfl (fun hc => ?_) (fun hc => ?_)
      · have hr := nk_ifn (c := r13 = 0) hc hr
        exact ja_X13_isMember_L131_ok zs nk_big _ _ _ t_l0 hr
      · have hr := nk_ifp (c := r13 = 0) (Decidable.of_not_not hc) hr
        refine nk_p (i := .iconst 0) (len := 1) (pc' := 130) mJ_152 (by decide +kernel) (ns_iconst (c := 0) (by decide +kernel)) rfl ?_
        cases hr
        exact nk_iret (ty := .boolean) (len := 1) mJ_152 (by decide +kernel) rfl (nk_nar_z (by decide))
noncomputable def ja_X13_isMember_b86 (l0 : Nat) (s0 : Nat) (S : nk_S) : Option (Int × nk_S) :=
  ja_X13_isMember_b91 l0 s0 1 S
theorem ja_X13_isMember_b86_ok (zs : List Int32) : ∀ (l0 : Nat) (s0 : Nat) (S : nk_S) (R : Int × nk_S), nk_cl ja_Tt l0 = some 13 → nk_cl ja_Tt s0 = some 13 → ja_X13_isMember_b86 l0 s0 S = some R → nk_K ja_Tt mi_Γ (mi_ev zs) 1 152 86 [(0, nk_r l0)] [nk_r s0] S R := by
  intro l0 s0 S R t_l0 t_s0 hr
  unfold ja_X13_isMember_b86 at hr
  refine nk_p (i := .iconst 1) (len := 1) (pc' := 87) mJ_152 (by decide +kernel) (ns_iconst (c := 1) (by decide +kernel)) rfl ?_
  refine nk_p (i := .goto 4) (len := 3) (pc' := 91) mJ_152 (by decide +kernel) (ns_goto (by decide +kernel)) rfl ?_
  exact ja_X13_isMember_b91_ok zs _ _ _ _ _ t_l0 t_s0 hr
noncomputable def ja_X13_isMember (l0 : Nat) (S : nk_S) : Option (Int × nk_S) :=
  nk_bd (ja_X13_is l0 (S.1 l0 11) 15 S) fun r1 S2 =>
  if r1 = 0 then
    nk_bd (ja_X13_is l0 (S2.1 l0 11) 17 S2) fun r4 S5 =>
    if r4 = 0 then
      nk_bd (ja_X13_is l0 (S5.1 l0 11) 19 S5) fun r7 S8 =>
      if r7 = 0 then
        ja_X13_isMember_b91 l0 l0 0 S8
      else
        ja_X13_isMember_b86 l0 l0 S8
    else
      ja_X13_isMember_b86 l0 l0 S5
  else
    nk_lt (nk_wi S2 l0 11 (nk_w ((S2.1 l0 11) + 1))) fun S10 =>
    nk_bd (ja_X13_isSmallName l0 (S10.1 l0 11) S10) fun r12 S13 =>
    nk_bd (ja_X13_takes l0 r12 S13) fun r15 S16 =>
    if r15 = 0 then
      some (0, S16)
    else
      nk_bd (ja_X13_isType l0 (S16.1 l0 11) S16) fun r18 S19 =>
      nk_bd (ja_X13_takes l0 r18 S19) fun r21 S22 =>
      if r21 = 0 then
        some (0, S22)
      else
        some (1, S22)
theorem ja_X13_isMember_ok (zs : List Int32) : ∀ (l0 : Nat) (S : nk_S) (R : Int × nk_S), nk_cl ja_Tt l0 = some 13 → ja_X13_isMember l0 S = some R → nk_K ja_Tt mi_Γ (mi_ev zs) 1 152 0 [(0, nk_r l0)] [] S R := by
  intro l0 S R t_l0 hr
  unfold ja_X13_isMember at hr
  refine nk_p (i := .aload_n 0) (len := 1) (pc' := 1) mJ_152 (by decide +kernel) (ns_aload_n 0 rfl rfl) rfl ?_
  refine nk_p (i := .aload_n 0) (len := 1) (pc' := 2) mJ_152 (by decide +kernel) (ns_aload_n 0 rfl rfl) rfl ?_
  refine nk_getI (y := (0, 0)) (x := 194) (len := 3) (ci := 13) (k := 11) (pc' := 5) ja_okT mJ_152 (by decide +kernel) (by decide +kernel) (by decide +kernel) t_l0 rfl ?_
  refine nk_ldct (x := 220) (len := 2) (k := 15) (s := "field") (pc' := 7) mJ_152 (by decide +kernel) (by decide +kernel) (by decide +kernel) rfl ?_
  obtain ⟨r1, S2, h3, hr⟩ := nk_bde hr
  refine nk_callV (ci := 13) (n := 2) (x := 199) (len := 3) (j' := 138) (q' := 1) (r := r1) (S' := S2) (L2 := [(0, nk_r l0), (1, nk_i (S.1 l0 11)), (2, nk_o 15)]) (rest := []) (st' := [nk_i r1]) (pc' := 10) mJ_152 (by decide +kernel) (by decide +kernel) rfl rfl t_l0 (Nat.le_of_ble_eq_true rfl) mJ_138 (Nat.le_of_ble_eq_true rfl) rfl (ja_X13_is_ok zs _ _ _ _ _ t_l0 (ja_tx15 zs) h3) rfl ?_
  refine nk_icond (c := .eq) (off := 49) (len := 3) (t := 59) (pc' := 13) mJ_152 (by decide +kernel) (by decide +kernel) rfl (fun hc => ?_) (fun hc => ?_)
  · have hr := nk_ifp (c := r1 = 0) hc hr
    refine nk_p (i := .aload_n 0) (len := 1) (pc' := 60) mJ_152 (by decide +kernel) (ns_aload_n 0 rfl rfl) rfl ?_
    refine nk_p (i := .aload_n 0) (len := 1) (pc' := 61) mJ_152 (by decide +kernel) (ns_aload_n 0 rfl rfl) rfl ?_
    refine nk_p (i := .aload_n 0) (len := 1) (pc' := 62) mJ_152 (by decide +kernel) (ns_aload_n 0 rfl rfl) rfl ?_
    refine nk_getI (y := (0, 0)) (x := 194) (len := 3) (ci := 13) (k := 11) (pc' := 65) ja_okT mJ_152 (by decide +kernel) (by decide +kernel) (by decide +kernel) t_l0 rfl ?_
    refine nk_ldct (x := 228) (len := 2) (k := 17) (s := "static") (pc' := 67) mJ_152 (by decide +kernel) (by decide +kernel) (by decide +kernel) rfl ?_
    obtain ⟨r4, S5, h6, hr⟩ := nk_bde hr
    refine nk_callV (ci := 13) (n := 2) (x := 199) (len := 3) (j' := 138) (q' := 1) (r := r4) (S' := S5) (L2 := [(0, nk_r l0), (1, nk_i (S2.1 l0 11)), (2, nk_o 17)]) (rest := [nk_r l0]) (st' := [nk_i r4, nk_r l0]) (pc' := 70) mJ_152 (by decide +kernel) (by decide +kernel) rfl rfl t_l0 (Nat.le_of_ble_eq_true rfl) mJ_138 (Nat.le_of_ble_eq_true rfl) rfl (ja_X13_is_ok zs _ _ _ _ _ t_l0 (ja_tx17 zs) h6) rfl ?_
    refine nk_icond (c := .ne) (off := 16) (len := 3) (t := 86) (pc' := 73) mJ_152 (by decide +kernel) (by decide +kernel) rfl (fun hc => ?_) (fun hc => ?_)
    · have hr := nk_ifn (c := r4 = 0) hc hr
      exact ja_X13_isMember_b86_ok zs _ _ _ _ t_l0 t_l0 hr
    · have hr := nk_ifp (c := r4 = 0) (Decidable.of_not_not hc) hr
      refine nk_p (i := .aload_n 0) (len := 1) (pc' := 74) mJ_152 (by decide +kernel) (ns_aload_n 0 rfl rfl) rfl ?_
      refine nk_p (i := .aload_n 0) (len := 1) (pc' := 75) mJ_152 (by decide +kernel) (ns_aload_n 0 rfl rfl) rfl ?_
      refine nk_getI (y := (0, 0)) (x := 194) (len := 3) (ci := 13) (k := 11) (pc' := 78) ja_okT mJ_152 (by decide +kernel) (by decide +kernel) (by decide +kernel) t_l0 rfl ?_
      refine nk_ldct (x := 230) (len := 2) (k := 19) (s := "method") (pc' := 80) mJ_152 (by decide +kernel) (by decide +kernel) (by decide +kernel) rfl ?_
      obtain ⟨r7, S8, h9, hr⟩ := nk_bde hr
      refine nk_callV (ci := 13) (n := 2) (x := 199) (len := 3) (j' := 138) (q' := 1) (r := r7) (S' := S8) (L2 := [(0, nk_r l0), (1, nk_i (S5.1 l0 11)), (2, nk_o 19)]) (rest := [nk_r l0]) (st' := [nk_i r7, nk_r l0]) (pc' := 83) mJ_152 (by decide +kernel) (by decide +kernel) rfl rfl t_l0 (Nat.le_of_ble_eq_true rfl) mJ_138 (Nat.le_of_ble_eq_true rfl) rfl (ja_X13_is_ok zs _ _ _ _ _ t_l0 (ja_tx19 zs) h9) rfl ?_
      refine nk_icond (c := .eq) (off := 7) (len := 3) (t := 90) (pc' := 86) mJ_152 (by decide +kernel) (by decide +kernel) rfl (fun hc => ?_) (fun hc => ?_)
      · have hr := nk_ifp (c := r7 = 0) hc hr
        refine nk_p (i := .iconst 0) (len := 1) (pc' := 91) mJ_152 (by decide +kernel) (ns_iconst (c := 0) (by decide +kernel)) rfl ?_
        exact ja_X13_isMember_b91_ok zs _ _ _ _ _ t_l0 t_l0 hr
      · have hr := nk_ifn (c := r7 = 0) hc hr
        exact ja_X13_isMember_b86_ok zs _ _ _ _ t_l0 t_l0 hr
  · have hr := nk_ifn (c := r1 = 0) hc hr
    refine nk_p (i := .aload_n 0) (len := 1) (pc' := 14) mJ_152 (by decide +kernel) (ns_aload_n 0 rfl rfl) rfl ?_
    refine nk_p (i := .dup) (len := 1) (pc' := 15) mJ_152 (by decide +kernel) (ns_dup rfl) rfl ?_
    refine nk_getI (y := (0, 0)) (x := 194) (len := 3) (ci := 13) (k := 11) (pc' := 18) ja_okT mJ_152 (by decide +kernel) (by decide +kernel) (by decide +kernel) t_l0 rfl ?_
    refine nk_p (i := .iconst 1) (len := 1) (pc' := 19) mJ_152 (by decide +kernel) (ns_iconst (c := 1) (by decide +kernel)) rfl ?_
    refine nk_p (i := .iadd) (len := 1) (pc' := 20) mJ_152 (by decide +kernel) ns_iadd rfl ?_
    obtain ⟨S10, h11, hr⟩ := nk_lte hr
    refine nk_putI (y := (0, 0)) (ty := .int) (x := 194) (len := 3) (ci := 13) (k := 11) (pc' := 23) ja_okT mJ_152 (by decide +kernel) (by decide +kernel) (by decide +kernel) t_l0 (Or.inl rfl) rfl h11 ?_
    refine nk_p (i := .aload_n 0) (len := 1) (pc' := 24) mJ_152 (by decide +kernel) (ns_aload_n 0 rfl rfl) rfl ?_
    refine nk_p (i := .aload_n 0) (len := 1) (pc' := 25) mJ_152 (by decide +kernel) (ns_aload_n 0 rfl rfl) rfl ?_
    refine nk_p (i := .aload_n 0) (len := 1) (pc' := 26) mJ_152 (by decide +kernel) (ns_aload_n 0 rfl rfl) rfl ?_
    refine nk_getI (y := (0, 0)) (x := 194) (len := 3) (ci := 13) (k := 11) (pc' := 29) ja_okT mJ_152 (by decide +kernel) (by decide +kernel) (by decide +kernel) t_l0 rfl ?_
    obtain ⟨r12, S13, h14, hr⟩ := nk_bde hr
    refine nk_callV (ci := 13) (n := 1) (x := 222) (len := 3) (j' := 162) (q' := 1) (r := r12) (S' := S13) (L2 := [(0, nk_r l0), (1, nk_i (S10.1 l0 11))]) (rest := [nk_r l0]) (st' := [nk_i r12, nk_r l0]) (pc' := 32) mJ_152 (by decide +kernel) (by decide +kernel) rfl rfl t_l0 (Nat.le_of_ble_eq_true rfl) mJ_162 (Nat.le_of_ble_eq_true rfl) rfl (ja_X13_isSmallName_ok zs _ _ _ _ t_l0 h14) rfl ?_
    obtain ⟨r15, S16, h17, hr⟩ := nk_bde hr
    refine nk_callV (ci := 13) (n := 1) (x := 203) (len := 3) (j' := 231) (q' := 1) (r := r15) (S' := S16) (L2 := [(0, nk_r l0), (1, nk_i r12)]) (rest := []) (st' := [nk_i r15]) (pc' := 35) mJ_152 (by decide +kernel) (by decide +kernel) rfl rfl t_l0 (Nat.le_of_ble_eq_true rfl) mJ_231 (Nat.le_of_ble_eq_true rfl) rfl (ja_X13_takes_ok zs _ _ _ _ t_l0 h17) rfl ?_
    refine nk_icond (c := .eq) (off := 22) (len := 3) (t := 57) (pc' := 38) mJ_152 (by decide +kernel) (by decide +kernel) rfl (fun hc => ?_) (fun hc => ?_)
    · have hr := nk_ifp (c := r15 = 0) hc hr
      refine nk_p (i := .iconst 0) (len := 1) (pc' := 58) mJ_152 (by decide +kernel) (ns_iconst (c := 0) (by decide +kernel)) rfl ?_
      cases hr
      exact nk_iret (ty := .boolean) (len := 1) mJ_152 (by decide +kernel) rfl (nk_nar_z (by decide))
    · have hr := nk_ifn (c := r15 = 0) hc hr
      refine nk_p (i := .aload_n 0) (len := 1) (pc' := 39) mJ_152 (by decide +kernel) (ns_aload_n 0 rfl rfl) rfl ?_
      refine nk_p (i := .aload_n 0) (len := 1) (pc' := 40) mJ_152 (by decide +kernel) (ns_aload_n 0 rfl rfl) rfl ?_
      refine nk_p (i := .aload_n 0) (len := 1) (pc' := 41) mJ_152 (by decide +kernel) (ns_aload_n 0 rfl rfl) rfl ?_
      refine nk_getI (y := (0, 0)) (x := 194) (len := 3) (ci := 13) (k := 11) (pc' := 44) ja_okT mJ_152 (by decide +kernel) (by decide +kernel) (by decide +kernel) t_l0 rfl ?_
      obtain ⟨r18, S19, h20, hr⟩ := nk_bde hr
      refine nk_callV (ci := 13) (n := 1) (x := 225) (len := 3) (j' := 163) (q' := 1) (r := r18) (S' := S19) (L2 := [(0, nk_r l0), (1, nk_i (S16.1 l0 11))]) (rest := [nk_r l0]) (st' := [nk_i r18, nk_r l0]) (pc' := 47) mJ_152 (by decide +kernel) (by decide +kernel) rfl rfl t_l0 (Nat.le_of_ble_eq_true rfl) mJ_163 (Nat.le_of_ble_eq_true rfl) rfl (ja_X13_isType_ok zs _ _ _ _ t_l0 h20) rfl ?_
      obtain ⟨r21, S22, h23, hr⟩ := nk_bde hr
      refine nk_callV (ci := 13) (n := 1) (x := 203) (len := 3) (j' := 231) (q' := 1) (r := r21) (S' := S22) (L2 := [(0, nk_r l0), (1, nk_i r18)]) (rest := []) (st' := [nk_i r21]) (pc' := 50) mJ_152 (by decide +kernel) (by decide +kernel) rfl rfl t_l0 (Nat.le_of_ble_eq_true rfl) mJ_231 (Nat.le_of_ble_eq_true rfl) rfl (ja_X13_takes_ok zs _ _ _ _ t_l0 h23) rfl ?_
      refine nk_icond (c := .eq) (off := 7) (len := 3) (t := 57) (pc' := 53) mJ_152 (by decide +kernel) (by decide +kernel) rfl (fun hc => ?_) (fun hc => ?_)
      · have hr := nk_ifp (c := r21 = 0) hc hr
        refine nk_p (i := .iconst 0) (len := 1) (pc' := 58) mJ_152 (by decide +kernel) (ns_iconst (c := 0) (by decide +kernel)) rfl ?_
        cases hr
        exact nk_iret (ty := .boolean) (len := 1) mJ_152 (by decide +kernel) rfl (nk_nar_z (by decide))
      · have hr := nk_ifn (c := r21 = 0) hc hr
        refine nk_p (i := .iconst 1) (len := 1) (pc' := 54) mJ_152 (by decide +kernel) (ns_iconst (c := 1) (by decide +kernel)) rfl ?_
        refine nk_p (i := .goto 4) (len := 3) (pc' := 58) mJ_152 (by decide +kernel) (ns_goto (by decide +kernel)) rfl ?_
        cases hr
        exact nk_iret (ty := .boolean) (len := 1) mJ_152 (by decide +kernel) rfl (nk_nar_z (by decide))
/-! SafeCodeModel isProgram ()Z -/
noncomputable def ja_X13_isProgram_b99 (rec5 : Nat → nk_S → Option (Int × nk_S)) (rec99 : Nat → nk_S → Option (Int × nk_S)) (l0 : Nat) (S : nk_S) : Option (Int × nk_S) :=
  nk_bd (ja_X13_is l0 (S.1 l0 11) 13 S) fun r1 S2 =>
  if r1 = 0 then
    nk_bd (ja_X13_isMember l0 S2) fun r6 S7 =>
    if r6 = 0 then
      some (0, S7)
    else
      rec99 l0 S7
  else
    nk_lt (nk_wi S2 l0 11 (nk_w ((S2.1 l0 11) + 1))) fun S4 =>
    rec5 l0 S4
theorem ja_X13_isProgram_b99_ok (zs : List Int32) {rec5 : Nat → nk_S → Option (Int × nk_S)} (hrec5 : ∀ (l0 : Nat) (S : nk_S) (R : Int × nk_S), nk_cl ja_Tt l0 = some 13 → rec5 l0 S = some R → nk_K ja_Tt mi_Γ (mi_ev zs) 1 156 5 [(0, nk_r l0)] [] S R) {rec99 : Nat → nk_S → Option (Int × nk_S)} (hrec99 : ∀ (l0 : Nat) (S : nk_S) (R : Int × nk_S), nk_cl ja_Tt l0 = some 13 → rec99 l0 S = some R → nk_K ja_Tt mi_Γ (mi_ev zs) 1 156 99 [(0, nk_r l0)] [] S R) : ∀ (l0 : Nat) (S : nk_S) (R : Int × nk_S), nk_cl ja_Tt l0 = some 13 → ja_X13_isProgram_b99 rec5 rec99 l0 S = some R → nk_K ja_Tt mi_Γ (mi_ev zs) 1 156 99 [(0, nk_r l0)] [] S R := by
  intro l0 S R t_l0 hr
  unfold ja_X13_isProgram_b99 at hr
  refine nk_p (i := .aload_n 0) (len := 1) (pc' := 100) mJ_156 (by decide +kernel) (ns_aload_n 0 rfl rfl) rfl ?_
  refine nk_p (i := .aload_n 0) (len := 1) (pc' := 101) mJ_156 (by decide +kernel) (ns_aload_n 0 rfl rfl) rfl ?_
  refine nk_getI (y := (0, 0)) (x := 194) (len := 3) (ci := 13) (k := 11) (pc' := 104) ja_okT mJ_156 (by decide +kernel) (by decide +kernel) (by decide +kernel) t_l0 rfl ?_
  refine nk_ldct (x := 214) (len := 2) (k := 13) (s := "}") (pc' := 106) mJ_156 (by decide +kernel) (by decide +kernel) (by decide +kernel) rfl ?_
  obtain ⟨r1, S2, h3, hr⟩ := nk_bde hr
  refine nk_callV (ci := 13) (n := 2) (x := 199) (len := 3) (j' := 138) (q' := 1) (r := r1) (S' := S2) (L2 := [(0, nk_r l0), (1, nk_i (S.1 l0 11)), (2, nk_o 13)]) (rest := []) (st' := [nk_i r1]) (pc' := 109) mJ_156 (by decide +kernel) (by decide +kernel) rfl rfl t_l0 (Nat.le_of_ble_eq_true rfl) mJ_138 (Nat.le_of_ble_eq_true rfl) rfl (ja_X13_is_ok zs _ _ _ _ _ t_l0 (ja_tx13 zs) h3) rfl ?_
  refine nk_icond (c := .ne) (off := 12) (len := 3) (t := 121) (pc' := 112) mJ_156 (by decide +kernel) (by decide +kernel) rfl (fun hc => ?_) (fun hc => ?_)
  · have hr := nk_ifn (c := r1 = 0) hc hr
    refine nk_p (i := .aload_n 0) (len := 1) (pc' := 122) mJ_156 (by decide +kernel) (ns_aload_n 0 rfl rfl) rfl ?_
    refine nk_p (i := .dup) (len := 1) (pc' := 123) mJ_156 (by decide +kernel) (ns_dup rfl) rfl ?_
    refine nk_getI (y := (0, 0)) (x := 194) (len := 3) (ci := 13) (k := 11) (pc' := 126) ja_okT mJ_156 (by decide +kernel) (by decide +kernel) (by decide +kernel) t_l0 rfl ?_
    refine nk_p (i := .iconst 1) (len := 1) (pc' := 127) mJ_156 (by decide +kernel) (ns_iconst (c := 1) (by decide +kernel)) rfl ?_
    refine nk_p (i := .iadd) (len := 1) (pc' := 128) mJ_156 (by decide +kernel) ns_iadd rfl ?_
    obtain ⟨S4, h5, hr⟩ := nk_lte hr
    refine nk_putI (y := (0, 0)) (ty := .int) (x := 194) (len := 3) (ci := 13) (k := 11) (pc' := 131) ja_okT mJ_156 (by decide +kernel) (by decide +kernel) (by decide +kernel) t_l0 (Or.inl rfl) rfl h5 ?_
    refine nk_p (i := .goto (-126)) (len := 3) (pc' := 5) mJ_156 (by decide +kernel) (ns_goto (by decide +kernel)) rfl ?_
    exact hrec5 _ _ _ t_l0 hr
  · have hr := nk_ifp (c := r1 = 0) (Decidable.of_not_not hc) hr
    refine nk_p (i := .aload_n 0) (len := 1) (pc' := 113) mJ_156 (by decide +kernel) (ns_aload_n 0 rfl rfl) rfl ?_
    obtain ⟨r6, S7, h8, hr⟩ := nk_bde hr
    refine nk_callV (ci := 13) (n := 0) (x := 216) (len := 3) (j' := 152) (q' := 1) (r := r6) (S' := S7) (L2 := [(0, nk_r l0)]) (rest := []) (st' := [nk_i r6]) (pc' := 116) mJ_156 (by decide +kernel) (by decide +kernel) rfl rfl t_l0 (Nat.le_of_ble_eq_true rfl) mJ_152 (Nat.le_of_ble_eq_true rfl) rfl (ja_X13_isMember_ok zs _ _ _ t_l0 h8) rfl ?_
    refine nk_icond (c := .ne) (off := (-17)) (len := 3) (t := 99) (pc' := 119) mJ_156 (by decide +kernel) (by decide +kernel) rfl (fun hc => ?_) (fun hc => ?_)
    · have hr := nk_ifn (c := r6 = 0) hc hr
      exact hrec99 _ _ _ t_l0 hr
    · have hr := nk_ifp (c := r6 = 0) (Decidable.of_not_not hc) hr
      refine nk_p (i := .iconst 0) (len := 1) (pc' := 120) mJ_156 (by decide +kernel) (ns_iconst (c := 0) (by decide +kernel)) rfl ?_
      cases hr
      exact nk_iret (ty := .boolean) (len := 1) mJ_156 (by decide +kernel) rfl (nk_nar_z (by decide))
noncomputable def ja_X13_isProgram_L99 (rec5 : Nat → nk_S → Option (Int × nk_S)) : Nat → Nat → nk_S → Option (Int × nk_S)
  | 0, _, _ => none
  | n + 1, l0, S => ja_X13_isProgram_b99 rec5 (ja_X13_isProgram_L99 rec5 n) l0 S
theorem ja_X13_isProgram_L99_ok (zs : List Int32) {rec5 : Nat → nk_S → Option (Int × nk_S)} (hrec5 : ∀ (l0 : Nat) (S : nk_S) (R : Int × nk_S), nk_cl ja_Tt l0 = some 13 → rec5 l0 S = some R → nk_K ja_Tt mi_Γ (mi_ev zs) 1 156 5 [(0, nk_r l0)] [] S R) : ∀ n : Nat, ∀ (l0 : Nat) (S : nk_S) (R : Int × nk_S), nk_cl ja_Tt l0 = some 13 → ja_X13_isProgram_L99 rec5 n l0 S = some R → nk_K ja_Tt mi_Γ (mi_ev zs) 1 156 99 [(0, nk_r l0)] [] S R := by
  intro n
  induction n with
  | zero => intro _ _ _ _ hr; cases hr
  | succ n ih => intro l0 S R t_l0 hr; exact ja_X13_isProgram_b99_ok zs hrec5 ih l0 S R t_l0 hr
noncomputable def ja_X13_isProgram_b5 (rec5 : Nat → nk_S → Option (Int × nk_S)) (l0 : Nat) (S : nk_S) : Option (Int × nk_S) :=
  if (S.1 l0 10) ≤ (S.1 l0 11) then
    some (1, S)
  else
    nk_bd (ja_X13_is l0 (S.1 l0 11) 7 S) fun r1 S2 =>
    nk_bd (ja_X13_takes l0 r1 S2) fun r4 S5 =>
    if r4 = 0 then
      some (0, S5)
    else
      nk_bd (ja_X13_isClassName l0 (S5.1 l0 11) S5) fun r7 S8 =>
      nk_bd (ja_X13_takes l0 r7 S8) fun r10 S11 =>
      if r10 = 0 then
        some (0, S11)
      else
        nk_bd (ja_X13_is l0 (S11.1 l0 11) 9 S11) fun r13 S14 =>
        nk_bd (ja_X13_takes l0 r13 S14) fun r16 S17 =>
        if r16 = 0 then
          some (0, S17)
        else
          nk_bd (ja_X13_isClassName l0 (S17.1 l0 11) S17) fun r19 S20 =>
          nk_bd (ja_X13_takes l0 r19 S20) fun r22 S23 =>
          if r22 = 0 then
            some (0, S23)
          else
            nk_bd (ja_X13_is l0 (S23.1 l0 11) 11 S23) fun r25 S26 =>
            nk_bd (ja_X13_takes l0 r25 S26) fun r28 S29 =>
            if r28 = 0 then
              some (0, S29)
            else
              ja_X13_isProgram_L99 rec5 nk_big l0 S29
theorem ja_X13_isProgram_b5_ok (zs : List Int32) {rec5 : Nat → nk_S → Option (Int × nk_S)} (hrec5 : ∀ (l0 : Nat) (S : nk_S) (R : Int × nk_S), nk_cl ja_Tt l0 = some 13 → rec5 l0 S = some R → nk_K ja_Tt mi_Γ (mi_ev zs) 1 156 5 [(0, nk_r l0)] [] S R) : ∀ (l0 : Nat) (S : nk_S) (R : Int × nk_S), nk_cl ja_Tt l0 = some 13 → ja_X13_isProgram_b5 rec5 l0 S = some R → nk_K ja_Tt mi_Γ (mi_ev zs) 1 156 5 [(0, nk_r l0)] [] S R := by
  intro l0 S R t_l0 hr
  unfold ja_X13_isProgram_b5 at hr
  refine nk_p (i := .aload_n 0) (len := 1) (pc' := 6) mJ_156 (by decide +kernel) (ns_aload_n 0 rfl rfl) rfl ?_
  refine nk_getI (y := (0, 0)) (x := 194) (len := 3) (ci := 13) (k := 11) (pc' := 9) ja_okT mJ_156 (by decide +kernel) (by decide +kernel) (by decide +kernel) t_l0 rfl ?_
  refine nk_p (i := .aload_n 0) (len := 1) (pc' := 10) mJ_156 (by decide +kernel) (ns_aload_n 0 rfl rfl) rfl ?_
  refine nk_getI (y := (0, 0)) (x := 155) (len := 3) (ci := 13) (k := 10) (pc' := 13) ja_okT mJ_156 (by decide +kernel) (by decide +kernel) (by decide +kernel) t_l0 rfl ?_
  refine nk_icmp (c := .ge) (off := 121) (len := 3) (t := 134) (pc' := 16) mJ_156 (by decide +kernel) (by decide +kernel) rfl (fun hc => ?_) (fun hc => ?_)
  · have hr := nk_ifp (c := (S.1 l0 10) ≤ (S.1 l0 11)) hc hr
    refine nk_p (i := .iconst 1) (len := 1) (pc' := 135) mJ_156 (by decide +kernel) (ns_iconst (c := 1) (by decide +kernel)) rfl ?_
    cases hr
    exact nk_iret (ty := .boolean) (len := 1) mJ_156 (by decide +kernel) rfl (nk_nar_z (by decide))
  · have hr := nk_ifn (c := (S.1 l0 10) ≤ (S.1 l0 11)) hc hr
    refine nk_p (i := .aload_n 0) (len := 1) (pc' := 17) mJ_156 (by decide +kernel) (ns_aload_n 0 rfl rfl) rfl ?_
    refine nk_p (i := .aload_n 0) (len := 1) (pc' := 18) mJ_156 (by decide +kernel) (ns_aload_n 0 rfl rfl) rfl ?_
    refine nk_p (i := .aload_n 0) (len := 1) (pc' := 19) mJ_156 (by decide +kernel) (ns_aload_n 0 rfl rfl) rfl ?_
    refine nk_getI (y := (0, 0)) (x := 194) (len := 3) (ci := 13) (k := 11) (pc' := 22) ja_okT mJ_156 (by decide +kernel) (by decide +kernel) (by decide +kernel) t_l0 rfl ?_
    refine nk_ldct (x := 197) (len := 2) (k := 7) (s := "class") (pc' := 24) mJ_156 (by decide +kernel) (by decide +kernel) (by decide +kernel) rfl ?_
    obtain ⟨r1, S2, h3, hr⟩ := nk_bde hr
    refine nk_callV (ci := 13) (n := 2) (x := 199) (len := 3) (j' := 138) (q' := 1) (r := r1) (S' := S2) (L2 := [(0, nk_r l0), (1, nk_i (S.1 l0 11)), (2, nk_o 7)]) (rest := [nk_r l0]) (st' := [nk_i r1, nk_r l0]) (pc' := 27) mJ_156 (by decide +kernel) (by decide +kernel) rfl rfl t_l0 (Nat.le_of_ble_eq_true rfl) mJ_138 (Nat.le_of_ble_eq_true rfl) rfl (ja_X13_is_ok zs _ _ _ _ _ t_l0 (ja_tx7 zs) h3) rfl ?_
    obtain ⟨r4, S5, h6, hr⟩ := nk_bde hr
    refine nk_callV (ci := 13) (n := 1) (x := 203) (len := 3) (j' := 231) (q' := 1) (r := r4) (S' := S5) (L2 := [(0, nk_r l0), (1, nk_i r1)]) (rest := []) (st' := [nk_i r4]) (pc' := 30) mJ_156 (by decide +kernel) (by decide +kernel) rfl rfl t_l0 (Nat.le_of_ble_eq_true rfl) mJ_231 (Nat.le_of_ble_eq_true rfl) rfl (ja_X13_takes_ok zs _ _ _ _ t_l0 h6) rfl ?_
    refine nk_icond (c := .eq) (off := 67) (len := 3) (t := 97) (pc' := 33) mJ_156 (by decide +kernel) (by decide +kernel) rfl (fun hc => ?_) (fun hc => ?_)
    · have hr := nk_ifp (c := r4 = 0) hc hr
      refine nk_p (i := .iconst 0) (len := 1) (pc' := 98) mJ_156 (by decide +kernel) (ns_iconst (c := 0) (by decide +kernel)) rfl ?_
      cases hr
      exact nk_iret (ty := .boolean) (len := 1) mJ_156 (by decide +kernel) rfl (nk_nar_z (by decide))
    · have hr := nk_ifn (c := r4 = 0) hc hr
      refine nk_p (i := .aload_n 0) (len := 1) (pc' := 34) mJ_156 (by decide +kernel) (ns_aload_n 0 rfl rfl) rfl ?_
      refine nk_p (i := .aload_n 0) (len := 1) (pc' := 35) mJ_156 (by decide +kernel) (ns_aload_n 0 rfl rfl) rfl ?_
      refine nk_p (i := .aload_n 0) (len := 1) (pc' := 36) mJ_156 (by decide +kernel) (ns_aload_n 0 rfl rfl) rfl ?_
      refine nk_getI (y := (0, 0)) (x := 194) (len := 3) (ci := 13) (k := 11) (pc' := 39) ja_okT mJ_156 (by decide +kernel) (by decide +kernel) (by decide +kernel) t_l0 rfl ?_
      obtain ⟨r7, S8, h9, hr⟩ := nk_bde hr
      refine nk_callV (ci := 13) (n := 1) (x := 207) (len := 3) (j' := 145) (q' := 1) (r := r7) (S' := S8) (L2 := [(0, nk_r l0), (1, nk_i (S5.1 l0 11))]) (rest := [nk_r l0]) (st' := [nk_i r7, nk_r l0]) (pc' := 42) mJ_156 (by decide +kernel) (by decide +kernel) rfl rfl t_l0 (Nat.le_of_ble_eq_true rfl) mJ_145 (Nat.le_of_ble_eq_true rfl) rfl (ja_X13_isClassName_ok zs _ _ _ _ t_l0 h9) rfl ?_
      obtain ⟨r10, S11, h12, hr⟩ := nk_bde hr
      refine nk_callV (ci := 13) (n := 1) (x := 203) (len := 3) (j' := 231) (q' := 1) (r := r10) (S' := S11) (L2 := [(0, nk_r l0), (1, nk_i r7)]) (rest := []) (st' := [nk_i r10]) (pc' := 45) mJ_156 (by decide +kernel) (by decide +kernel) rfl rfl t_l0 (Nat.le_of_ble_eq_true rfl) mJ_231 (Nat.le_of_ble_eq_true rfl) rfl (ja_X13_takes_ok zs _ _ _ _ t_l0 h12) rfl ?_
      refine nk_icond (c := .eq) (off := 52) (len := 3) (t := 97) (pc' := 48) mJ_156 (by decide +kernel) (by decide +kernel) rfl (fun hc => ?_) (fun hc => ?_)
      · have hr := nk_ifp (c := r10 = 0) hc hr
        refine nk_p (i := .iconst 0) (len := 1) (pc' := 98) mJ_156 (by decide +kernel) (ns_iconst (c := 0) (by decide +kernel)) rfl ?_
        cases hr
        exact nk_iret (ty := .boolean) (len := 1) mJ_156 (by decide +kernel) rfl (nk_nar_z (by decide))
      · have hr := nk_ifn (c := r10 = 0) hc hr
        refine nk_p (i := .aload_n 0) (len := 1) (pc' := 49) mJ_156 (by decide +kernel) (ns_aload_n 0 rfl rfl) rfl ?_
        refine nk_p (i := .aload_n 0) (len := 1) (pc' := 50) mJ_156 (by decide +kernel) (ns_aload_n 0 rfl rfl) rfl ?_
        refine nk_p (i := .aload_n 0) (len := 1) (pc' := 51) mJ_156 (by decide +kernel) (ns_aload_n 0 rfl rfl) rfl ?_
        refine nk_getI (y := (0, 0)) (x := 194) (len := 3) (ci := 13) (k := 11) (pc' := 54) ja_okT mJ_156 (by decide +kernel) (by decide +kernel) (by decide +kernel) t_l0 rfl ?_
        refine nk_ldct (x := 210) (len := 2) (k := 9) (s := "of") (pc' := 56) mJ_156 (by decide +kernel) (by decide +kernel) (by decide +kernel) rfl ?_
        obtain ⟨r13, S14, h15, hr⟩ := nk_bde hr
        refine nk_callV (ci := 13) (n := 2) (x := 199) (len := 3) (j' := 138) (q' := 1) (r := r13) (S' := S14) (L2 := [(0, nk_r l0), (1, nk_i (S11.1 l0 11)), (2, nk_o 9)]) (rest := [nk_r l0]) (st' := [nk_i r13, nk_r l0]) (pc' := 59) mJ_156 (by decide +kernel) (by decide +kernel) rfl rfl t_l0 (Nat.le_of_ble_eq_true rfl) mJ_138 (Nat.le_of_ble_eq_true rfl) rfl (ja_X13_is_ok zs _ _ _ _ _ t_l0 (ja_tx9 zs) h15) rfl ?_
        obtain ⟨r16, S17, h18, hr⟩ := nk_bde hr
        refine nk_callV (ci := 13) (n := 1) (x := 203) (len := 3) (j' := 231) (q' := 1) (r := r16) (S' := S17) (L2 := [(0, nk_r l0), (1, nk_i r13)]) (rest := []) (st' := [nk_i r16]) (pc' := 62) mJ_156 (by decide +kernel) (by decide +kernel) rfl rfl t_l0 (Nat.le_of_ble_eq_true rfl) mJ_231 (Nat.le_of_ble_eq_true rfl) rfl (ja_X13_takes_ok zs _ _ _ _ t_l0 h18) rfl ?_
        refine nk_icond (c := .eq) (off := 35) (len := 3) (t := 97) (pc' := 65) mJ_156 (by decide +kernel) (by decide +kernel) rfl (fun hc => ?_) (fun hc => ?_)
        · have hr := nk_ifp (c := r16 = 0) hc hr
          refine nk_p (i := .iconst 0) (len := 1) (pc' := 98) mJ_156 (by decide +kernel) (ns_iconst (c := 0) (by decide +kernel)) rfl ?_
          cases hr
          exact nk_iret (ty := .boolean) (len := 1) mJ_156 (by decide +kernel) rfl (nk_nar_z (by decide))
        · have hr := nk_ifn (c := r16 = 0) hc hr
          refine nk_p (i := .aload_n 0) (len := 1) (pc' := 66) mJ_156 (by decide +kernel) (ns_aload_n 0 rfl rfl) rfl ?_
          refine nk_p (i := .aload_n 0) (len := 1) (pc' := 67) mJ_156 (by decide +kernel) (ns_aload_n 0 rfl rfl) rfl ?_
          refine nk_p (i := .aload_n 0) (len := 1) (pc' := 68) mJ_156 (by decide +kernel) (ns_aload_n 0 rfl rfl) rfl ?_
          refine nk_getI (y := (0, 0)) (x := 194) (len := 3) (ci := 13) (k := 11) (pc' := 71) ja_okT mJ_156 (by decide +kernel) (by decide +kernel) (by decide +kernel) t_l0 rfl ?_
          obtain ⟨r19, S20, h21, hr⟩ := nk_bde hr
          refine nk_callV (ci := 13) (n := 1) (x := 207) (len := 3) (j' := 145) (q' := 1) (r := r19) (S' := S20) (L2 := [(0, nk_r l0), (1, nk_i (S17.1 l0 11))]) (rest := [nk_r l0]) (st' := [nk_i r19, nk_r l0]) (pc' := 74) mJ_156 (by decide +kernel) (by decide +kernel) rfl rfl t_l0 (Nat.le_of_ble_eq_true rfl) mJ_145 (Nat.le_of_ble_eq_true rfl) rfl (ja_X13_isClassName_ok zs _ _ _ _ t_l0 h21) rfl ?_
          obtain ⟨r22, S23, h24, hr⟩ := nk_bde hr
          refine nk_callV (ci := 13) (n := 1) (x := 203) (len := 3) (j' := 231) (q' := 1) (r := r22) (S' := S23) (L2 := [(0, nk_r l0), (1, nk_i r19)]) (rest := []) (st' := [nk_i r22]) (pc' := 77) mJ_156 (by decide +kernel) (by decide +kernel) rfl rfl t_l0 (Nat.le_of_ble_eq_true rfl) mJ_231 (Nat.le_of_ble_eq_true rfl) rfl (ja_X13_takes_ok zs _ _ _ _ t_l0 h24) rfl ?_
          refine nk_icond (c := .eq) (off := 20) (len := 3) (t := 97) (pc' := 80) mJ_156 (by decide +kernel) (by decide +kernel) rfl (fun hc => ?_) (fun hc => ?_)
          · have hr := nk_ifp (c := r22 = 0) hc hr
            refine nk_p (i := .iconst 0) (len := 1) (pc' := 98) mJ_156 (by decide +kernel) (ns_iconst (c := 0) (by decide +kernel)) rfl ?_
            cases hr
            exact nk_iret (ty := .boolean) (len := 1) mJ_156 (by decide +kernel) rfl (nk_nar_z (by decide))
          · have hr := nk_ifn (c := r22 = 0) hc hr
            refine nk_p (i := .aload_n 0) (len := 1) (pc' := 81) mJ_156 (by decide +kernel) (ns_aload_n 0 rfl rfl) rfl ?_
            refine nk_p (i := .aload_n 0) (len := 1) (pc' := 82) mJ_156 (by decide +kernel) (ns_aload_n 0 rfl rfl) rfl ?_
            refine nk_p (i := .aload_n 0) (len := 1) (pc' := 83) mJ_156 (by decide +kernel) (ns_aload_n 0 rfl rfl) rfl ?_
            refine nk_getI (y := (0, 0)) (x := 194) (len := 3) (ci := 13) (k := 11) (pc' := 86) ja_okT mJ_156 (by decide +kernel) (by decide +kernel) (by decide +kernel) t_l0 rfl ?_
            refine nk_ldct (x := 212) (len := 2) (k := 11) (s := "{") (pc' := 88) mJ_156 (by decide +kernel) (by decide +kernel) (by decide +kernel) rfl ?_
            obtain ⟨r25, S26, h27, hr⟩ := nk_bde hr
            refine nk_callV (ci := 13) (n := 2) (x := 199) (len := 3) (j' := 138) (q' := 1) (r := r25) (S' := S26) (L2 := [(0, nk_r l0), (1, nk_i (S23.1 l0 11)), (2, nk_o 11)]) (rest := [nk_r l0]) (st' := [nk_i r25, nk_r l0]) (pc' := 91) mJ_156 (by decide +kernel) (by decide +kernel) rfl rfl t_l0 (Nat.le_of_ble_eq_true rfl) mJ_138 (Nat.le_of_ble_eq_true rfl) rfl (ja_X13_is_ok zs _ _ _ _ _ t_l0 (ja_tx11 zs) h27) rfl ?_
            obtain ⟨r28, S29, h30, hr⟩ := nk_bde hr
            refine nk_callV (ci := 13) (n := 1) (x := 203) (len := 3) (j' := 231) (q' := 1) (r := r28) (S' := S29) (L2 := [(0, nk_r l0), (1, nk_i r25)]) (rest := []) (st' := [nk_i r28]) (pc' := 94) mJ_156 (by decide +kernel) (by decide +kernel) rfl rfl t_l0 (Nat.le_of_ble_eq_true rfl) mJ_231 (Nat.le_of_ble_eq_true rfl) rfl (ja_X13_takes_ok zs _ _ _ _ t_l0 h30) rfl ?_
            refine nk_icond (c := .ne) (off := 5) (len := 3) (t := 99) (pc' := 97) mJ_156 (by decide +kernel) (by decide +kernel) rfl (fun hc => ?_) (fun hc => ?_)
            · have hr := nk_ifn (c := r28 = 0) hc hr
              exact ja_X13_isProgram_L99_ok zs hrec5 nk_big _ _ _ t_l0 hr
            · have hr := nk_ifp (c := r28 = 0) (Decidable.of_not_not hc) hr
              refine nk_p (i := .iconst 0) (len := 1) (pc' := 98) mJ_156 (by decide +kernel) (ns_iconst (c := 0) (by decide +kernel)) rfl ?_
              cases hr
              exact nk_iret (ty := .boolean) (len := 1) mJ_156 (by decide +kernel) rfl (nk_nar_z (by decide))
noncomputable def ja_X13_isProgram_L5 : Nat → Nat → nk_S → Option (Int × nk_S)
  | 0, _, _ => none
  | n + 1, l0, S => ja_X13_isProgram_b5 (ja_X13_isProgram_L5 n) l0 S
theorem ja_X13_isProgram_L5_ok (zs : List Int32) : ∀ n : Nat, ∀ (l0 : Nat) (S : nk_S) (R : Int × nk_S), nk_cl ja_Tt l0 = some 13 → ja_X13_isProgram_L5 n l0 S = some R → nk_K ja_Tt mi_Γ (mi_ev zs) 1 156 5 [(0, nk_r l0)] [] S R := by
  intro n
  induction n with
  | zero => intro _ _ _ _ hr; cases hr
  | succ n ih => intro l0 S R t_l0 hr; exact ja_X13_isProgram_b5_ok zs ih l0 S R t_l0 hr
noncomputable def ja_X13_isProgram (l0 : Nat) (S : nk_S) : Option (Int × nk_S) :=
  nk_lt (nk_wi S l0 11 0) fun S1 =>
  ja_X13_isProgram_L5 nk_big l0 S1
theorem ja_X13_isProgram_ok (zs : List Int32) : ∀ (l0 : Nat) (S : nk_S) (R : Int × nk_S), nk_cl ja_Tt l0 = some 13 → ja_X13_isProgram l0 S = some R → nk_K ja_Tt mi_Γ (mi_ev zs) 1 156 0 [(0, nk_r l0)] [] S R := by
  intro l0 S R t_l0 hr
  unfold ja_X13_isProgram at hr
  refine nk_p (i := .aload_n 0) (len := 1) (pc' := 1) mJ_156 (by decide +kernel) (ns_aload_n 0 rfl rfl) rfl ?_
  refine nk_p (i := .iconst 0) (len := 1) (pc' := 2) mJ_156 (by decide +kernel) (ns_iconst (c := 0) (by decide +kernel)) rfl ?_
  obtain ⟨S1, h2, hr⟩ := nk_lte hr
  refine nk_putI (y := (0, 0)) (ty := .int) (x := 194) (len := 3) (ci := 13) (k := 11) (pc' := 5) ja_okT mJ_156 (by decide +kernel) (by decide +kernel) (by decide +kernel) t_l0 (Or.inl rfl) rfl h2 ?_
  exact ja_X13_isProgram_L5_ok zs nk_big _ _ _ t_l0 hr
/-! SafeCodeModel field (LSafeCodeModel$Program;II)Z -/
noncomputable def ja_X13_field_b34 (l0 : Nat) (l3 : Int) (S : nk_S) : Option (Int × nk_S) :=
  nk_bd (ja_X13_wrong l0 (nk_w (l3 + 1)) S) fun r1 S2 =>
  if r1 = 0 ∨ r1 = 1 then
  some (r1, S2)
  else none
theorem ja_X13_field_b34_ok (zs : List Int32) : ∀ (l0 : Nat) (l3 : Int) (S : nk_S) (R : Int × nk_S), nk_cl ja_Tt l0 = some 13 → ja_X13_field_b34 l0 l3 S = some R → nk_K ja_Tt mi_Γ (mi_ev zs) 1 121 34 [(0, nk_r l0), (3, nk_i l3)] [] S R := by
  intro l0 l3 S R t_l0 hr
  unfold ja_X13_field_b34 at hr
  refine nk_p (i := .aload_n 0) (len := 1) (pc' := 35) mJ_121 (by decide +kernel) (ns_aload_n 0 rfl rfl) rfl ?_
  refine nk_p (i := .iload_n 3) (len := 1) (pc' := 36) mJ_121 (by decide +kernel) (ns_iload_n 1 rfl rfl) rfl ?_
  refine nk_p (i := .iconst 1) (len := 1) (pc' := 37) mJ_121 (by decide +kernel) (ns_iconst (c := 1) (by decide +kernel)) rfl ?_
  refine nk_p (i := .iadd) (len := 1) (pc' := 38) mJ_121 (by decide +kernel) ns_iadd rfl ?_
  obtain ⟨r1, S2, h3, hr⟩ := nk_bde hr
  refine nk_callV (ci := 13) (n := 1) (x := 290) (len := 3) (j' := 246) (q' := 1) (r := r1) (S' := S2) (L2 := [(0, nk_r l0), (1, nk_i (nk_w (l3 + 1)))]) (rest := []) (st' := [nk_i r1]) (pc' := 41) mJ_121 (by decide +kernel) (by decide +kernel) rfl rfl t_l0 (Nat.le_of_ble_eq_true rfl) mJ_246 (Nat.le_of_ble_eq_true rfl) rfl (ja_X13_wrong_ok zs _ _ _ _ t_l0 h3) rfl ?_
  obtain ⟨h4, hr⟩ := nk_cke hr
  cases hr
  exact nk_iret (ty := .boolean) (len := 1) mJ_121 (by decide +kernel) rfl (nk_nar_z h4)
noncomputable def ja_X13_field (l0 : Nat) (l1 : Nat) (l2 : Int) (l3 : Int) (S : nk_S) : Option (Int × nk_S) :=
  if (S.1 l1 1) = 48 then
    ja_X13_field_b34 l0 l3 S
  else
    if 0 ≤ (nk_w (l3 + 1)) ∧ (nk_w (l3 + 1)) < 16002 then
    nk_bd (ja_X13_fieldOf l0 l1 l2 (S.1 (ja_c l0 8) (nk_w (l3 + 1)).toNat) (S.1 (ja_c l0 9) (nk_w (l3 + 1)).toNat) S) fun r4 S5 =>
    if r4 < 0 then
      nk_bd (ja_X13_typeOf l0 l1 (nk_w (l3 + 2)) S5) fun r7 S8 =>
      if 0 ≤ r7 then
        if 0 ≤ (S8.1 l1 1) ∧ (S8.1 l1 1) < 48 then
        nk_lt (nk_wi S8 (ja_c l0 14) (S8.1 l1 1).toNat (nk_w (l3 + 1))) fun S12 =>
        if 0 ≤ (S12.1 l1 1) ∧ (S12.1 l1 1) < 48 then
        nk_lt (nk_wi S12 (ja_c l1 10) (S12.1 l1 1).toNat l2) fun S16 =>
        if 0 ≤ (S16.1 l1 1) ∧ (S16.1 l1 1) < 48 then
        nk_lt (nk_wi S16 (ja_c l1 11) (S16.1 l1 1).toNat r7) fun S20 =>
        nk_lt (nk_wi S20 l1 1 (nk_w ((S20.1 l1 1) + 1))) fun S22 =>
        some (1, S22)
        else none
        else none
        else none
      else
        nk_bd (ja_X13_wrong l0 (nk_w (l3 + 2)) S8) fun r24 S25 =>
        if r24 = 0 ∨ r24 = 1 then
        some (r24, S25)
        else none
    else
      ja_X13_field_b34 l0 l3 S5
    else none
theorem ja_X13_field_ok (zs : List Int32) : ∀ (l0 : Nat) (l1 : Nat) (l2 : Int) (l3 : Int) (S : nk_S) (R : Int × nk_S), nk_cl ja_Tt l0 = some 13 → nk_cl ja_Tt l1 = some 12 → ja_X13_field l0 l1 l2 l3 S = some R → nk_K ja_Tt mi_Γ (mi_ev zs) 1 121 0 [(0, nk_r l0), (1, nk_r l1), (2, nk_i l2), (3, nk_i l3)] [] S R := by
  intro l0 l1 l2 l3 S R t_l0 t_l1 hr
  unfold ja_X13_field at hr
  refine nk_p (i := .aload_n 1) (len := 1) (pc' := 1) mJ_121 (by decide +kernel) (ns_aload_n 1 rfl rfl) rfl ?_
  refine nk_getI (y := (0, 0)) (x := 293) (len := 3) (ci := 12) (k := 1) (pc' := 4) ja_okT mJ_121 (by decide +kernel) (by decide +kernel) (by decide +kernel) t_l1 rfl ?_
  refine nk_p (i := .bipush 48) (len := 2) (pc' := 6) mJ_121 (by decide +kernel) (ns_bipush (c := 48) (by decide +kernel)) rfl ?_
  refine nk_icmp (c := .eq) (off := 28) (len := 3) (t := 34) (pc' := 9) mJ_121 (by decide +kernel) (by decide +kernel) rfl (fun hc => ?_) (fun hc => ?_)
  · have hr := nk_ifp (c := (S.1 l1 1) = 48) hc hr
    refine nk_sub [0, 3] (L' := [(0, nk_r l0), (3, nk_i l3)]) rfl ?_
    exact ja_X13_field_b34_ok zs _ _ _ _ t_l0 hr
  · have hr := nk_ifn (c := (S.1 l1 1) = 48) hc hr
    refine nk_p (i := .aload_n 0) (len := 1) (pc' := 10) mJ_121 (by decide +kernel) (ns_aload_n 0 rfl rfl) rfl ?_
    refine nk_p (i := .aload_n 1) (len := 1) (pc' := 11) mJ_121 (by decide +kernel) (ns_aload_n 1 rfl rfl) rfl ?_
    refine nk_p (i := .iload_n 2) (len := 1) (pc' := 12) mJ_121 (by decide +kernel) (ns_iload_n 2 rfl rfl) rfl ?_
    refine nk_p (i := .aload_n 0) (len := 1) (pc' := 13) mJ_121 (by decide +kernel) (ns_aload_n 0 rfl rfl) rfl ?_
    refine nk_getC (f := (4, 1, 16002)) (x := 26) (len := 3) (ci := 13) (k := 8) (pc' := 16) ja_okT mJ_121 (by decide +kernel) (by decide +kernel) (by decide +kernel) (by decide) t_l0 rfl ?_
    have t1 : nk_ar ja_Tt (ja_c l0 8) = some (1, 16002) := nk_ta ja_okT t_l0 (by decide +kernel)
    refine nk_p (i := .iload_n 3) (len := 1) (pc' := 17) mJ_121 (by decide +kernel) (ns_iload_n 3 rfl rfl) rfl ?_
    refine nk_p (i := .iconst 1) (len := 1) (pc' := 18) mJ_121 (by decide +kernel) (ns_iconst (c := 1) (by decide +kernel)) rfl ?_
    refine nk_p (i := .iadd) (len := 1) (pc' := 19) mJ_121 (by decide +kernel) ns_iadd rfl ?_
    obtain ⟨h2, hr⟩ := nk_cke hr
    refine nk_iald (len := 1) (N := 16002) (pc' := 20) mJ_121 (by decide +kernel) t1 h2.1 h2.2 rfl rfl ?_
    refine nk_p (i := .aload_n 0) (len := 1) (pc' := 21) mJ_121 (by decide +kernel) (ns_aload_n 0 rfl rfl) rfl ?_
    refine nk_getC (f := (4, 1, 16002)) (x := 30) (len := 3) (ci := 13) (k := 9) (pc' := 24) ja_okT mJ_121 (by decide +kernel) (by decide +kernel) (by decide +kernel) (by decide) t_l0 rfl ?_
    have t3 : nk_ar ja_Tt (ja_c l0 9) = some (1, 16002) := nk_ta ja_okT t_l0 (by decide +kernel)
    refine nk_p (i := .iload_n 3) (len := 1) (pc' := 25) mJ_121 (by decide +kernel) (ns_iload_n 3 rfl rfl) rfl ?_
    refine nk_p (i := .iconst 1) (len := 1) (pc' := 26) mJ_121 (by decide +kernel) (ns_iconst (c := 1) (by decide +kernel)) rfl ?_
    refine nk_p (i := .iadd) (len := 1) (pc' := 27) mJ_121 (by decide +kernel) ns_iadd rfl ?_
    refine nk_iald (len := 1) (N := 16002) (pc' := 28) mJ_121 (by decide +kernel) t3 h2.1 h2.2 rfl rfl ?_
    obtain ⟨r4, S5, h6, hr⟩ := nk_bde hr
    refine nk_callV (ci := 13) (n := 4) (x := 317) (len := 3) (j' := 122) (q' := 1) (r := r4) (S' := S5) (L2 := [(0, nk_r l0), (1, nk_r l1), (2, nk_i l2), (3, nk_i (S.1 (ja_c l0 8) (nk_w (l3 + 1)).toNat)), (4, nk_i (S.1 (ja_c l0 9) (nk_w (l3 + 1)).toNat))]) (rest := []) (st' := [nk_i r4]) (pc' := 31) mJ_121 (by decide +kernel) (by decide +kernel) rfl rfl t_l0 (Nat.le_of_ble_eq_true rfl) mJ_122 (Nat.le_of_ble_eq_true rfl) rfl (ja_X13_fieldOf_ok zs _ _ _ _ _ _ _ t_l0 t_l1 h6) rfl ?_
    refine nk_icond (c := .lt) (off := 11) (len := 3) (t := 42) (pc' := 34) mJ_121 (by decide +kernel) (by decide +kernel) rfl (fun hc => ?_) (fun hc => ?_)
    · have hr := nk_ifp (c := r4 < 0) hc hr
      refine nk_p (i := .aload_n 0) (len := 1) (pc' := 43) mJ_121 (by decide +kernel) (ns_aload_n 0 rfl rfl) rfl ?_
      refine nk_p (i := .aload_n 1) (len := 1) (pc' := 44) mJ_121 (by decide +kernel) (ns_aload_n 1 rfl rfl) rfl ?_
      refine nk_p (i := .iload_n 3) (len := 1) (pc' := 45) mJ_121 (by decide +kernel) (ns_iload_n 3 rfl rfl) rfl ?_
      refine nk_p (i := .iconst 2) (len := 1) (pc' := 46) mJ_121 (by decide +kernel) (ns_iconst (c := 2) (by decide +kernel)) rfl ?_
      refine nk_p (i := .iadd) (len := 1) (pc' := 47) mJ_121 (by decide +kernel) ns_iadd rfl ?_
      obtain ⟨r7, S8, h9, hr⟩ := nk_bde hr
      refine nk_callV (ci := 13) (n := 2) (x := 321) (len := 3) (j' := 236) (q' := 1) (r := r7) (S' := S8) (L2 := [(0, nk_r l0), (1, nk_r l1), (2, nk_i (nk_w (l3 + 2)))]) (rest := []) (st' := [nk_i r7]) (pc' := 50) mJ_121 (by decide +kernel) (by decide +kernel) rfl rfl t_l0 (Nat.le_of_ble_eq_true rfl) mJ_236 (Nat.le_of_ble_eq_true rfl) rfl (ja_X13_typeOf_ok zs _ _ _ _ _ t_l0 t_l1 h9) rfl ?_
      refine nk_p (i := .istore 4) (len := 2) (pc' := 52) mJ_121 (by decide +kernel) (ns_istore (L' := [(4, nk_i r7), (0, nk_r l0), (1, nk_r l1), (2, nk_i l2), (3, nk_i l3)]) rfl rfl (by decide +kernel)) rfl ?_
      refine nk_p (i := .iload 4) (len := 2) (pc' := 54) mJ_121 (by decide +kernel) (ns_iload 0 rfl) rfl ?_
      refine nk_icond (c := .ge) (off := 11) (len := 3) (t := 65) (pc' := 57) mJ_121 (by decide +kernel) (by decide +kernel) rfl (fun hc => ?_) (fun hc => ?_)
      · have hr := nk_ifp (c := 0 ≤ r7) hc hr
        refine nk_p (i := .aload_n 0) (len := 1) (pc' := 66) mJ_121 (by decide +kernel) (ns_aload_n 1 rfl rfl) rfl ?_
        refine nk_getC (f := (4, 1, 48)) (x := 40) (len := 3) (ci := 13) (k := 14) (pc' := 69) ja_okT mJ_121 (by decide +kernel) (by decide +kernel) (by decide +kernel) (by decide) t_l0 rfl ?_
        have t10 : nk_ar ja_Tt (ja_c l0 14) = some (1, 48) := nk_ta ja_okT t_l0 (by decide +kernel)
        refine nk_p (i := .aload_n 1) (len := 1) (pc' := 70) mJ_121 (by decide +kernel) (ns_aload_n 2 rfl rfl) rfl ?_
        refine nk_getI (y := (0, 0)) (x := 293) (len := 3) (ci := 12) (k := 1) (pc' := 73) ja_okT mJ_121 (by decide +kernel) (by decide +kernel) (by decide +kernel) t_l1 rfl ?_
        refine nk_p (i := .iload_n 3) (len := 1) (pc' := 74) mJ_121 (by decide +kernel) (ns_iload_n 4 rfl rfl) rfl ?_
        refine nk_p (i := .iconst 1) (len := 1) (pc' := 75) mJ_121 (by decide +kernel) (ns_iconst (c := 1) (by decide +kernel)) rfl ?_
        refine nk_p (i := .iadd) (len := 1) (pc' := 76) mJ_121 (by decide +kernel) ns_iadd rfl ?_
        obtain ⟨h11, hr⟩ := nk_cke hr
        obtain ⟨S12, h13, hr⟩ := nk_lte hr
        refine nk_iast (len := 1) (N := 48) (pc' := 77) mJ_121 (by decide +kernel) t10 h11.1 h11.2 rfl rfl h13 ?_
        refine nk_p (i := .aload_n 1) (len := 1) (pc' := 78) mJ_121 (by decide +kernel) (ns_aload_n 2 rfl rfl) rfl ?_
        refine nk_getC (f := (4, 1, 48)) (x := 296) (len := 3) (ci := 12) (k := 10) (pc' := 81) ja_okT mJ_121 (by decide +kernel) (by decide +kernel) (by decide +kernel) (by decide) t_l1 rfl ?_
        have t14 : nk_ar ja_Tt (ja_c l1 10) = some (1, 48) := nk_ta ja_okT t_l1 (by decide +kernel)
        refine nk_p (i := .aload_n 1) (len := 1) (pc' := 82) mJ_121 (by decide +kernel) (ns_aload_n 2 rfl rfl) rfl ?_
        refine nk_getI (y := (0, 0)) (x := 293) (len := 3) (ci := 12) (k := 1) (pc' := 85) ja_okT mJ_121 (by decide +kernel) (by decide +kernel) (by decide +kernel) t_l1 rfl ?_
        refine nk_p (i := .iload_n 2) (len := 1) (pc' := 86) mJ_121 (by decide +kernel) (ns_iload_n 3 rfl rfl) rfl ?_
        obtain ⟨h15, hr⟩ := nk_cke hr
        obtain ⟨S16, h17, hr⟩ := nk_lte hr
        refine nk_iast (len := 1) (N := 48) (pc' := 87) mJ_121 (by decide +kernel) t14 h15.1 h15.2 rfl rfl h17 ?_
        refine nk_p (i := .aload_n 1) (len := 1) (pc' := 88) mJ_121 (by decide +kernel) (ns_aload_n 2 rfl rfl) rfl ?_
        refine nk_getC (f := (4, 1, 48)) (x := 324) (len := 3) (ci := 12) (k := 11) (pc' := 91) ja_okT mJ_121 (by decide +kernel) (by decide +kernel) (by decide +kernel) (by decide) t_l1 rfl ?_
        have t18 : nk_ar ja_Tt (ja_c l1 11) = some (1, 48) := nk_ta ja_okT t_l1 (by decide +kernel)
        refine nk_p (i := .aload_n 1) (len := 1) (pc' := 92) mJ_121 (by decide +kernel) (ns_aload_n 2 rfl rfl) rfl ?_
        refine nk_getI (y := (0, 0)) (x := 293) (len := 3) (ci := 12) (k := 1) (pc' := 95) ja_okT mJ_121 (by decide +kernel) (by decide +kernel) (by decide +kernel) t_l1 rfl ?_
        refine nk_p (i := .iload 4) (len := 2) (pc' := 97) mJ_121 (by decide +kernel) (ns_iload 0 rfl) rfl ?_
        obtain ⟨h19, hr⟩ := nk_cke hr
        obtain ⟨S20, h21, hr⟩ := nk_lte hr
        refine nk_iast (len := 1) (N := 48) (pc' := 98) mJ_121 (by decide +kernel) t18 h19.1 h19.2 rfl rfl h21 ?_
        refine nk_p (i := .aload_n 1) (len := 1) (pc' := 99) mJ_121 (by decide +kernel) (ns_aload_n 2 rfl rfl) rfl ?_
        refine nk_p (i := .dup) (len := 1) (pc' := 100) mJ_121 (by decide +kernel) (ns_dup rfl) rfl ?_
        refine nk_getI (y := (0, 0)) (x := 293) (len := 3) (ci := 12) (k := 1) (pc' := 103) ja_okT mJ_121 (by decide +kernel) (by decide +kernel) (by decide +kernel) t_l1 rfl ?_
        refine nk_p (i := .iconst 1) (len := 1) (pc' := 104) mJ_121 (by decide +kernel) (ns_iconst (c := 1) (by decide +kernel)) rfl ?_
        refine nk_p (i := .iadd) (len := 1) (pc' := 105) mJ_121 (by decide +kernel) ns_iadd rfl ?_
        obtain ⟨S22, h23, hr⟩ := nk_lte hr
        refine nk_putI (y := (0, 0)) (ty := .int) (x := 293) (len := 3) (ci := 12) (k := 1) (pc' := 108) ja_okT mJ_121 (by decide +kernel) (by decide +kernel) (by decide +kernel) t_l1 (Or.inl rfl) rfl h23 ?_
        refine nk_p (i := .iconst 1) (len := 1) (pc' := 109) mJ_121 (by decide +kernel) (ns_iconst (c := 1) (by decide +kernel)) rfl ?_
        cases hr
        exact nk_iret (ty := .boolean) (len := 1) mJ_121 (by decide +kernel) rfl (nk_nar_z (by decide))
      · have hr := nk_ifn (c := 0 ≤ r7) hc hr
        refine nk_p (i := .aload_n 0) (len := 1) (pc' := 58) mJ_121 (by decide +kernel) (ns_aload_n 1 rfl rfl) rfl ?_
        refine nk_p (i := .iload_n 3) (len := 1) (pc' := 59) mJ_121 (by decide +kernel) (ns_iload_n 4 rfl rfl) rfl ?_
        refine nk_p (i := .iconst 2) (len := 1) (pc' := 60) mJ_121 (by decide +kernel) (ns_iconst (c := 2) (by decide +kernel)) rfl ?_
        refine nk_p (i := .iadd) (len := 1) (pc' := 61) mJ_121 (by decide +kernel) ns_iadd rfl ?_
        obtain ⟨r24, S25, h26, hr⟩ := nk_bde hr
        refine nk_callV (ci := 13) (n := 1) (x := 290) (len := 3) (j' := 246) (q' := 1) (r := r24) (S' := S25) (L2 := [(0, nk_r l0), (1, nk_i (nk_w (l3 + 2)))]) (rest := []) (st' := [nk_i r24]) (pc' := 64) mJ_121 (by decide +kernel) (by decide +kernel) rfl rfl t_l0 (Nat.le_of_ble_eq_true rfl) mJ_246 (Nat.le_of_ble_eq_true rfl) rfl (ja_X13_wrong_ok zs _ _ _ _ t_l0 h26) rfl ?_
        obtain ⟨h27, hr⟩ := nk_cke hr
        cases hr
        exact nk_iret (ty := .boolean) (len := 1) mJ_121 (by decide +kernel) rfl (nk_nar_z h27)
    · have hr := nk_ifn (c := r4 < 0) hc hr
      refine nk_sub [0, 3] (L' := [(0, nk_r l0), (3, nk_i l3)]) rfl ?_
      exact ja_X13_field_b34_ok zs _ _ _ _ t_l0 hr
