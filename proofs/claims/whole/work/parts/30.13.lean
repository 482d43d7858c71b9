/-! SafeCodeModel number (I)J -/
noncomputable def ja_X13_number_b47 (rec47 : Nat → Int → Int → Int → Int → nk_S → Option (Int × nk_S)) (l0 : Nat) (l1 : Int) (l2 : Int) (l3 : Int) (l5 : Int) (S : nk_S) : Option (Int × nk_S) :=
  if 0 ≤ l1 ∧ l1 < 16002 then
  if (S.1 (ja_c l0 9) l1.toNat) ≤ l5 then
    if l2 = 0 then
      some (l3, S)
    else
      some ((nk_W (-l3)), S)
  else
    if 0 ≤ l5 ∧ l5 < 16000 then
    nk_lt (nk_W ((nk_W ((nk_W (10 * l3)) + (S.1 (ja_c l0 6) l5.toNat))) - 48)) fun v5 =>
    nk_lt (nk_w (l5 + 1)) fun v7 =>
    rec47 l0 l1 l2 v5 v7 S
    else none
  else none
theorem ja_X13_number_b47_ok (zs : List Int32) {rec47 : Nat → Int → Int → Int → Int → nk_S → Option (Int × nk_S)} (hrec47 : ∀ (l0 : Nat) (l1 : Int) (l2 : Int) (l3 : Int) (l5 : Int) (S : nk_S) (R : Int × nk_S), nk_cl ja_Tt l0 = some 13 → rec47 l0 l1 l2 l3 l5 S = some R → nk_K ja_Tt mi_Γ (mi_ev zs) 2 197 47 [(0, nk_r l0), (1, nk_i l1), (2, nk_i l2), (3, nk_l l3), (5, nk_i l5)] [] S R) : ∀ (l0 : Nat) (l1 : Int) (l2 : Int) (l3 : Int) (l5 : Int) (S : nk_S) (R : Int × nk_S), nk_cl ja_Tt l0 = some 13 → ja_X13_number_b47 rec47 l0 l1 l2 l3 l5 S = some R → nk_K ja_Tt mi_Γ (mi_ev zs) 2 197 47 [(0, nk_r l0), (1, nk_i l1), (2, nk_i l2), (3, nk_l l3), (5, nk_i l5)] [] S R := by
  intro l0 l1 l2 l3 l5 S R t_l0 hr
  unfold ja_X13_number_b47 at hr
  refine nk_p (i := .iload 5) (len := 2) (pc' := 49) mJ_197 (by decide +kernel) (ns_iload 4 rfl) rfl ?_
  refine nk_p (i := .aload_n 0) (len := 1) (pc' := 50) mJ_197 (by decide +kernel) (ns_aload_n 0 rfl rfl) rfl ?_
  refine nk_getC (f := (4, 1, 16002)) (x := 30) (len := 3) (ci := 13) (k := 9) (pc' := 53) ja_okT mJ_197 (by decide +kernel) (by decide +kernel) (by decide +kernel) (by decide) t_l0 rfl ?_
  have t1 : nk_ar ja_Tt (ja_c l0 9) = some (1, 16002) := nk_ta ja_okT t_l0 (by decide +kernel)
  refine nk_p (i := .iload_n 1) (len := 1) (pc' := 54) mJ_197 (by decide +kernel) (ns_iload_n 1 rfl rfl) rfl ?_
  obtain ⟨h2, hr⟩ := nk_cke hr
  refine nk_iald (len := 1) (N := 16002) (pc' := 55) mJ_197 (by decide +kernel) t1 h2.1 h2.2 rfl rfl ?_
  refine nk_icmp (c := .ge) (off := 28) (len := 3) (t := 83) (pc' := 58) mJ_197 (by decide +kernel) (by decide +kernel) rfl (fun hc => ?_) (fun hc => ?_)
  · have hr := nk_ifp (c := (S.1 (ja_c l0 9) l1.toNat) ≤ l5) hc hr
    refine nk_p (i := .iload_n 2) (len := 1) (pc' := 84) mJ_197 (by decide +kernel) (ns_iload_n 2 rfl rfl) rfl ?_
    refine nk_icond (c := .eq) (off := 8) (len := 3) (t := 92) (pc' := 87) mJ_197 (by decide +kernel) (by decide +kernel) rfl (fun hc => ?_) (fun hc => ?_)
    · have hr := nk_ifp (c := l2 = 0) hc hr
      refine nk_p (i := .lload_n 3) (len := 1) (pc' := 93) mJ_197 (by decide +kernel) (ns_lload_n 3 rfl rfl) rfl ?_
      cases hr
      exact nk_lret (len := 1) mJ_197 (by decide +kernel) rfl
    · have hr := nk_ifn (c := l2 = 0) hc hr
      refine nk_p (i := .lload_n 3) (len := 1) (pc' := 88) mJ_197 (by decide +kernel) (ns_lload_n 3 rfl rfl) rfl ?_
      refine nk_p (i := .lneg) (len := 1) (pc' := 89) mJ_197 (by decide +kernel) ns_lneg rfl ?_
      refine nk_p (i := .goto 4) (len := 3) (pc' := 93) mJ_197 (by decide +kernel) (ns_goto (by decide +kernel)) rfl ?_
      cases hr
      exact nk_lret (len := 1) mJ_197 (by decide +kernel) rfl
  · have hr := nk_ifn (c := (S.1 (ja_c l0 9) l1.toNat) ≤ l5) hc hr
    refine nk_ldc2 (x := 190) (len := 3) (X := 10) (v := 10) (pc' := 61) mJ_197 (by decide +kernel) (by decide +kernel) (by decide +kernel) rfl ?_
    refine nk_p (i := .lload_n 3) (len := 1) (pc' := 62) mJ_197 (by decide +kernel) (ns_lload_n 3 rfl rfl) rfl ?_
    refine nk_p (i := .lmul) (len := 1) (pc' := 63) mJ_197 (by decide +kernel) ns_lmul rfl ?_
    refine nk_p (i := .aload_n 0) (len := 1) (pc' := 64) mJ_197 (by decide +kernel) (ns_aload_n 0 rfl rfl) rfl ?_
    refine nk_getC (f := (4, 0, 16000)) (x := 23) (len := 3) (ci := 13) (k := 6) (pc' := 67) ja_okT mJ_197 (by decide +kernel) (by decide +kernel) (by decide +kernel) (by decide) t_l0 rfl ?_
    have t3 : nk_ar ja_Tt (ja_c l0 6) = some (0, 16000) := nk_ta ja_okT t_l0 (by decide +kernel)
    refine nk_p (i := .iload 5) (len := 2) (pc' := 69) mJ_197 (by decide +kernel) (ns_iload 4 rfl) rfl ?_
    obtain ⟨h4, hr⟩ := nk_cke hr
    refine nk_bald (t := 0) (len := 1) (N := 16000) (pc' := 70) mJ_197 (by decide +kernel) t3 (by decide) h4.1 h4.2 rfl rfl ?_
    refine nk_p (i := .i2l) (len := 1) (pc' := 71) mJ_197 (by decide +kernel) ns_i2l rfl ?_
    refine nk_p (i := .ladd) (len := 1) (pc' := 72) mJ_197 (by decide +kernel) ns_ladd rfl ?_
    refine nk_ldc2 (x := 192) (len := 3) (X := 48) (v := 48) (pc' := 75) mJ_197 (by decide +kernel) (by decide +kernel) (by decide +kernel) rfl ?_
    refine nk_p (i := .lsub) (len := 1) (pc' := 76) mJ_197 (by decide +kernel) ns_lsub rfl ?_
    obtain ⟨v5, h6, hr⟩ := nk_lte hr
    refine nk_p (i := .lstore_n 3) (len := 1) (pc' := 77) mJ_197 (by decide +kernel) (ns_lstore_n (L' := [(3, nk_l v5), (0, nk_r l0), (1, nk_i l1), (2, nk_i l2), (5, nk_i l5)]) h6 rfl rfl (by decide +kernel)) rfl ?_
    obtain ⟨v7, h8, hr⟩ := nk_lte hr
    refine nk_p (i := .iinc 5 1) (len := 3) (pc' := 80) mJ_197 (by decide +kernel) (ns_iinc (c := 1) (L' := [(5, nk_i v7), (3, nk_l v5), (0, nk_r l0), (1, nk_i l1), (2, nk_i l2)]) 4 rfl (by decide +kernel) h8 rfl (by decide +kernel)) rfl ?_
    refine nk_p (i := .goto (-33)) (len := 3) (pc' := 47) mJ_197 (by decide +kernel) (ns_goto (by decide +kernel)) rfl ?_
    refine nk_sub [2, 3, 4, 1, 0] (L' := [(0, nk_r l0), (1, nk_i l1), (2, nk_i l2), (3, nk_l v5), (5, nk_i v7)]) rfl ?_
    exact hrec47 _ _ _ _ _ _ _ t_l0 hr
noncomputable def ja_X13_number_L47 : Nat → Nat → Int → Int → Int → Int → nk_S → Option (Int × nk_S)
  | 0, _, _, _, _, _, _ => none
  | n + 1, l0, l1, l2, l3, l5, S => ja_X13_number_b47 (ja_X13_number_L47 n) l0 l1 l2 l3 l5 S
theorem ja_X13_number_L47_ok (zs : List Int32) : ∀ n : Nat, ∀ (l0 : Nat) (l1 : Int) (l2 : Int) (l3 : Int) (l5 : Int) (S : nk_S) (R : Int × nk_S), nk_cl ja_Tt l0 = some 13 → ja_X13_number_L47 n l0 l1 l2 l3 l5 S = some R → nk_K ja_Tt mi_Γ (mi_ev zs) 2 197 47 [(0, nk_r l0), (1, nk_i l1), (2, nk_i l2), (3, nk_l l3), (5, nk_i l5)] [] S R := by
  intro n
  induction n with
  | zero => intro _ _ _ _ _ _ _ _ hr; cases hr
  | succ n ih => intro l0 l1 l2 l3 l5 S R t_l0 hr; exact ja_X13_number_b47_ok zs ih l0 l1 l2 l3 l5 S R t_l0 hr
noncomputable def ja_X13_number_b21 (l0 : Nat) (l1 : Int) (s0 : Int) (S : nk_S) : Option (Int × nk_S) :=
  if s0 = 0 then
    if 0 ≤ l1 ∧ l1 < 16002 then
    nk_lt (S.1 (ja_c l0 8) l1.toNat) fun v3 =>
    ja_X13_number_L47 nk_big l0 l1 s0 0 v3 S
    else none
  else
    if 0 ≤ l1 ∧ l1 < 16002 then
    nk_lt (nk_w ((S.1 (ja_c l0 8) l1.toNat) + 1)) fun v7 =>
    ja_X13_number_L47 nk_big l0 l1 s0 0 v7 S
    else none
theorem ja_X13_number_b21_ok (zs : List Int32) : ∀ (l0 : Nat) (l1 : Int) (s0 : Int) (S : nk_S) (R : Int × nk_S), nk_cl ja_Tt l0 = some 13 → ja_X13_number_b21 l0 l1 s0 S = some R → nk_K ja_Tt mi_Γ (mi_ev zs) 2 197 21 [(0, nk_r l0), (1, nk_i l1)] [nk_i s0] S R := by
  intro l0 l1 s0 S R t_l0 hr
  unfold ja_X13_number_b21 at hr
  refine nk_p (i := .istore_n 2) (len := 1) (pc' := 22) mJ_197 (by decide +kernel) (ns_istore_n (L' := [(2, nk_i s0), (0, nk_r l0), (1, nk_i l1)]) rfl rfl rfl (by decide +kernel)) rfl ?_
  refine nk_p (i := .lconst 0) (len := 1) (pc' := 23) mJ_197 (by decide +kernel) (ns_lconst (c := 0) (by decide +kernel)) rfl ?_
  refine nk_p (i := .lstore_n 3) (len := 1) (pc' := 24) mJ_197 (by decide +kernel) (ns_lstore_n (L' := [(3, nk_l 0), (2, nk_i s0), (0, nk_r l0), (1, nk_i l1)]) rfl rfl rfl (by decide +kernel)) rfl ?_
  refine nk_p (i := .iload_n 2) (len := 1) (pc' := 25) mJ_197 (by decide +kernel) (ns_iload_n 1 rfl rfl) rfl ?_
  refine nk_icond (c := .eq) (off := 14) (len := 3) (t := 39) (pc' := 28) mJ_197 (by decide +kernel) (by decide +kernel) rfl (fun hc => ?_) (fun hc => ?_)
  · have hr := nk_ifp (c := s0 = 0) hc hr
    refine nk_p (i := .aload_n 0) (len := 1) (pc' := 40) mJ_197 (by decide +kernel) (ns_aload_n 2 rfl rfl) rfl ?_
    refine nk_getC (f := (4, 1, 16002)) (x := 26) (len := 3) (ci := 13) (k := 8) (pc' := 43) ja_okT mJ_197 (by decide +kernel) (by decide +kernel) (by decide +kernel) (by decide) t_l0 rfl ?_
    have t1 : nk_ar ja_Tt (ja_c l0 8) = some (1, 16002) := nk_ta ja_okT t_l0 (by decide +kernel)
    refine nk_p (i := .iload_n 1) (len := 1) (pc' := 44) mJ_197 (by decide +kernel) (ns_iload_n 3 rfl rfl) rfl ?_
    obtain ⟨h2, hr⟩ := nk_cke hr
    refine nk_iald (len := 1) (N := 16002) (pc' := 45) mJ_197 (by decide +kernel) t1 h2.1 h2.2 rfl rfl ?_
    obtain ⟨v3, h4, hr⟩ := nk_lte hr
    refine nk_p (i := .istore 5) (len := 2) (pc' := 47) mJ_197 (by decide +kernel) (ns_istore (L' := [(5, nk_i v3), (3, nk_l 0), (2, nk_i s0), (0, nk_r l0), (1, nk_i l1)]) h4 rfl (by decide +kernel)) rfl ?_
    refine nk_sub [3, 4, 2, 1, 0] (L' := [(0, nk_r l0), (1, nk_i l1), (2, nk_i s0), (3, nk_l 0), (5, nk_i v3)]) rfl ?_
    exact ja_X13_number_L47_ok zs nk_big _ _ _ _ _ _ _ t_l0 hr
  · have hr := nk_ifn (c := s0 = 0) hc hr
    refine nk_p (i := .aload_n 0) (len := 1) (pc' := 29) mJ_197 (by decide +kernel) (ns_aload_n 2 rfl rfl) rfl ?_
    refine nk_getC (f := (4, 1, 16002)) (x := 26) (len := 3) (ci := 13) (k := 8) (pc' := 32) ja_okT mJ_197 (by decide +kernel) (by decide +kernel) (by decide +kernel) (by decide) t_l0 rfl ?_
    have t5 : nk_ar ja_Tt (ja_c l0 8) = some (1, 16002) := nk_ta ja_okT t_l0 (by decide +kernel)
    refine nk_p (i := .iload_n 1) (len := 1) (pc' := 33) mJ_197 (by decide +kernel) (ns_iload_n 3 rfl rfl) rfl ?_
    obtain ⟨h6, hr⟩ := nk_cke hr
    refine nk_iald (len := 1) (N := 16002) (pc' := 34) mJ_197 (by decide +kernel) t5 h6.1 h6.2 rfl rfl ?_
    refine nk_p (i := .iconst 1) (len := 1) (pc' := 35) mJ_197 (by decide +kernel) (ns_iconst (c := 1) (by decide +kernel)) rfl ?_
    refine nk_p (i := .iadd) (len := 1) (pc' := 36) mJ_197 (by decide +kernel) ns_iadd rfl ?_
    refine nk_p (i := .goto 9) (len := 3) (pc' := 45) mJ_197 (by decide +kernel) (ns_goto (by decide +kernel)) rfl ?_
    obtain ⟨v7, h8, hr⟩ := nk_lte hr
    refine nk_p (i := .istore 5) (len := 2) (pc' := 47) mJ_197 (by decide +kernel) (ns_istore (L' := [(5, nk_i v7), (3, nk_l 0), (2, nk_i s0), (0, nk_r l0), (1, nk_i l1)]) h8 rfl (by decide +kernel)) rfl ?_
    refine nk_sub [3, 4, 2, 1, 0] (L' := [(0, nk_r l0), (1, nk_i l1), (2, nk_i s0), (3, nk_l 0), (5, nk_i v7)]) rfl ?_
    exact ja_X13_number_L47_ok zs nk_big _ _ _ _ _ _ _ t_l0 hr
noncomputable def ja_X13_number (l0 : Nat) (l1 : Int) (S : nk_S) : Option (Int × nk_S) :=
  if 0 ≤ l1 ∧ l1 < 16002 then
  if 0 ≤ (S.1 (ja_c l0 8) l1.toNat) ∧ (S.1 (ja_c l0 8) l1.toNat) < 16000 then
  if (S.1 (ja_c l0 6) (S.1 (ja_c l0 8) l1.toNat).toNat) = 45 then
    ja_X13_number_b21 l0 l1 1 S
  else
    ja_X13_number_b21 l0 l1 0 S
  else none
  else none
theorem ja_X13_number_ok (zs : List Int32) : ∀ (l0 : Nat) (l1 : Int) (S : nk_S) (R : Int × nk_S), nk_cl ja_Tt l0 = some 13 → ja_X13_number l0 l1 S = some R → nk_K ja_Tt mi_Γ (mi_ev zs) 2 197 0 [(0, nk_r l0), (1, nk_i l1)] [] S R := by
  intro l0 l1 S R t_l0 hr
  unfold ja_X13_number at hr
  refine nk_p (i := .aload_n 0) (len := 1) (pc' := 1) mJ_197 (by decide +kernel) (ns_aload_n 0 rfl rfl) rfl ?_
  refine nk_getC (f := (4, 0, 16000)) (x := 23) (len := 3) (ci := 13) (k := 6) (pc' := 4) ja_okT mJ_197 (by decide +kernel) (by decide +kernel) (by decide +kernel) (by decide) t_l0 rfl ?_
  have t1 : nk_ar ja_Tt (ja_c l0 6) = some (0, 16000) := nk_ta ja_okT t_l0 (by decide +kernel)
  refine nk_p (i := .aload_n 0) (len := 1) (pc' := 5) mJ_197 (by decide +kernel) (ns_aload_n 0 rfl rfl) rfl ?_
  refine nk_getC (f := (4, 1, 16002)) (x := 26) (len := 3) (ci := 13) (k := 8) (pc' := 8) ja_okT mJ_197 (by decide +kernel) (by decide +kernel) (by decide +kernel) (by decide) t_l0 rfl ?_
  have t2 : nk_ar ja_Tt (ja_c l0 8) = some (1, 16002) := nk_ta ja_okT t_l0 (by decide +kernel)
  refine nk_p (i := .iload_n 1) (len := 1) (pc' := 9) mJ_197 (by decide +kernel) (ns_iload_n 1 rfl rfl) rfl ?_
  obtain ⟨h3, hr⟩ := nk_cke hr
  refine nk_iald (len := 1) (N := 16002) (pc' := 10) mJ_197 (by decide +kernel) t2 h3.1 h3.2 rfl rfl ?_
  obtain ⟨h4, hr⟩ := nk_cke hr
  refine nk_bald (t := 0) (len := 1) (N := 16000) (pc' := 11) mJ_197 (by decide +kernel) t1 (by decide) h4.1 h4.2 rfl rfl ?_
  refine nk_p (i := .bipush 45) (len := 2) (pc' := 13) mJ_197 (by decide +kernel) (ns_bipush (c := 45) (by decide +kernel)) rfl ?_
  refine nk_icmp (c := .ne) (off := 7) (len := 3) (t := 20) (pc' := 16) mJ_197 (by decide +kernel) (by decide +kernel) rfl (fun hc => ?_) (fun hc => ?_)
  · have hr := nk_ifn (c := (S.1 (ja_c l0 6) (S.1 (ja_c l0 8) l1.toNat).toNat) = 45) hc hr
    refine nk_p (i := .iconst 0) (len := 1) (pc' := 21) mJ_197 (by decide +kernel) (ns_iconst (c := 0) (by decide +kernel)) rfl ?_
    exact ja_X13_number_b21_ok zs _ _ _ _ _ t_l0 hr
  · have hr := nk_ifp (c := (S.1 (ja_c l0 6) (S.1 (ja_c l0 8) l1.toNat).toNat) = 45) (Decidable.of_not_not hc) hr
    refine nk_p (i := .iconst 1) (len := 1) (pc' := 17) mJ_197 (by decide +kernel) (ns_iconst (c := 1) (by decide +kernel)) rfl ?_
    refine nk_p (i := .goto 4) (len := 3) (pc' := 21) mJ_197 (by decide +kernel) (ns_goto (by decide +kernel)) rfl ?_
    exact ja_X13_number_b21_ok zs _ _ _ _ _ t_l0 hr
/-! SafeCodeModel body (LSafeCodeModel$Program;II)Z -/
noncomputable def ja_X13_body_b319 (l0 : Nat) (l9 : Int) (S : nk_S) : Option (Int × nk_S) :=
  nk_bd (ja_X13_wrong l0 (nk_w (l9 + 1)) S) fun r1 S2 =>
  if r1 = 0 ∨ r1 = 1 then
  some (r1, S2)
  else none
theorem ja_X13_body_b319_ok (zs : List Int32) : ∀ (l0 : Nat) (l9 : Int) (S : nk_S) (R : Int × nk_S), nk_cl ja_Tt l0 = some 13 → ja_X13_body_b319 l0 l9 S = some R → nk_K ja_Tt mi_Γ (mi_ev zs) 1 89 319 [(0, nk_r l0), (9, nk_i l9)] [] S R := by
  intro l0 l9 S R t_l0 hr
  unfold ja_X13_body_b319 at hr
  refine nk_p (i := .aload_n 0) (len := 1) (pc' := 320) mJ_89 (by decide +kernel) (ns_aload_n 0 rfl rfl) rfl ?_
  refine nk_p (i := .iload 9) (len := 2) (pc' := 322) mJ_89 (by decide +kernel) (ns_iload 1 rfl) rfl ?_
  refine nk_p (i := .iconst 1) (len := 1) (pc' := 323) mJ_89 (by decide +kernel) (ns_iconst (c := 1) (by decide +kernel)) rfl ?_
  refine nk_p (i := .iadd) (len := 1) (pc' := 324) mJ_89 (by decide +kernel) ns_iadd rfl ?_
  obtain ⟨r1, S2, h3, hr⟩ := nk_bde hr
  refine nk_callV (ci := 13) (n := 1) (x := 290) (len := 3) (j' := 246) (q' := 1) (r := r1) (S' := S2) (L2 := [(0, nk_r l0), (1, nk_i (nk_w (l9 + 1)))]) (rest := []) (st' := [nk_i r1]) (pc' := 327) mJ_89 (by decide +kernel) (by decide +kernel) rfl rfl t_l0 (Nat.le_of_ble_eq_true rfl) mJ_246 (Nat.le_of_ble_eq_true rfl) rfl (ja_X13_wrong_ok zs _ _ _ _ t_l0 h3) rfl ?_
  obtain ⟨h4, hr⟩ := nk_cke hr
  cases hr
  exact nk_iret (ty := .boolean) (len := 1) mJ_89 (by decide +kernel) rfl (nk_nar_z h4)
noncomputable def ja_X13_body_b282 (l0 : Nat) (l1 : Nat) (l2 : Int) (l3 : Int) (l4 : Int) (l7 : Int) (l8 : Int) (l9 : Int) (S : nk_S) : Option (Int × nk_S) :=
  if 0 ≤ l7 ∧ l7 < 48 then
  nk_lt (nk_wi S (ja_c l0 16) l7.toNat l9) fun S3 =>
  nk_bd (ja_X13_number l0 (nk_w (l9 + 1)) S3) fun r5 S6 =>
  if r5 < l8 then
    ja_X13_body_b319 l0 l9 S6
  else
    if r5 ≤ 12 then
      nk_lt (nk_wi S6 (ja_c l0 15) l7.toNat (nk_w (l3 + 1))) fun S9 =>
      nk_lt (nk_wi S9 (ja_c l1 13) l7.toNat l2) fun S12 =>
      if l4 = 0 ∨ l4 = 1 then
      nk_lt (nk_wi S12 (ja_c l1 14) l7.toNat l4) fun S15 =>
      nk_lt (nk_wi S15 (ja_c l1 15) l7.toNat l8) fun S19 =>
      nk_lt (nk_wi S19 (ja_c l1 18) l7.toNat (nk_w r5)) fun S22 =>
      nk_lt (nk_wi S22 l1 2 (nk_w ((S22.1 l1 2) + 1))) fun S24 =>
      some (1, S24)
      else none
    else
      ja_X13_body_b319 l0 l9 S6
  else none
theorem ja_X13_body_b282_ok (zs : List Int32) : ∀ (l0 : Nat) (l1 : Nat) (l2 : Int) (l3 : Int) (l4 : Int) (l7 : Int) (l8 : Int) (l9 : Int) (S : nk_S) (R : Int × nk_S), nk_cl ja_Tt l0 = some 13 → nk_cl ja_Tt l1 = some 12 → ja_X13_body_b282 l0 l1 l2 l3 l4 l7 l8 l9 S = some R → nk_K ja_Tt mi_Γ (mi_ev zs) 1 89 282 [(0, nk_r l0), (1, nk_r l1), (2, nk_i l2), (3, nk_i l3), (4, nk_i l4), (7, nk_i l7), (8, nk_i l8), (9, nk_i l9)] [] S R := by
  intro l0 l1 l2 l3 l4 l7 l8 l9 S R t_l0 t_l1 hr
  unfold ja_X13_body_b282 at hr
  refine nk_p (i := .aload_n 0) (len := 1) (pc' := 283) mJ_89 (by decide +kernel) (ns_aload_n 0 rfl rfl) rfl ?_
  refine nk_getC (f := (4, 1, 48)) (x := 46) (len := 3) (ci := 13) (k := 16) (pc' := 286) ja_okT mJ_89 (by decide +kernel) (by decide +kernel) (by decide +kernel) (by decide) t_l0 rfl ?_
  have t1 : nk_ar ja_Tt (ja_c l0 16) = some (1, 48) := nk_ta ja_okT t_l0 (by decide +kernel)
  refine nk_p (i := .iload 7) (len := 2) (pc' := 288) mJ_89 (by decide +kernel) (ns_iload 5 rfl) rfl ?_
  refine nk_p (i := .iload 9) (len := 2) (pc' := 290) mJ_89 (by decide +kernel) (ns_iload 7 rfl) rfl ?_
  obtain ⟨h2, hr⟩ := nk_cke hr
  obtain ⟨S3, h4, hr⟩ := nk_lte hr
  refine nk_iast (len := 1) (N := 48) (pc' := 291) mJ_89 (by decide +kernel) t1 h2.1 h2.2 rfl rfl h4 ?_
  refine nk_p (i := .aload_n 0) (len := 1) (pc' := 292) mJ_89 (by decide +kernel) (ns_aload_n 0 rfl rfl) rfl ?_
  refine nk_p (i := .iload 9) (len := 2) (pc' := 294) mJ_89 (by decide +kernel) (ns_iload 7 rfl) rfl ?_
  refine nk_p (i := .iconst 1) (len := 1) (pc' := 295) mJ_89 (by decide +kernel) (ns_iconst (c := 1) (by decide +kernel)) rfl ?_
  refine nk_p (i := .iadd) (len := 1) (pc' := 296) mJ_89 (by decide +kernel) ns_iadd rfl ?_
  obtain ⟨r5, S6, h7, hr⟩ := nk_bde hr
  refine nk_callV (ci := 13) (n := 1) (x := 182) (len := 3) (j' := 197) (q' := 2) (r := r5) (S' := S6) (L2 := [(0, nk_r l0), (1, nk_i (nk_w (l9 + 1)))]) (rest := []) (st' := [nk_l r5]) (pc' := 299) mJ_89 (by decide +kernel) (by decide +kernel) rfl rfl t_l0 (Nat.le_of_ble_eq_true rfl) mJ_197 (Nat.le_of_ble_eq_true rfl) rfl (ja_X13_number_ok zs _ _ _ _ t_l0 h7) rfl ?_
  refine nk_p (i := .lstore 10) (len := 2) (pc' := 301) mJ_89 (by decide +kernel) (ns_lstore (L' := [(10, nk_l r5), (0, nk_r l0), (1, nk_r l1), (2, nk_i l2), (3, nk_i l3), (4, nk_i l4), (7, nk_i l7), (8, nk_i l8), (9, nk_i l9)]) rfl rfl (by decide +kernel)) rfl ?_
  refine nk_p (i := .lload 10) (len := 2) (pc' := 303) mJ_89 (by decide +kernel) (ns_lload 0 rfl) rfl ?_
  refine nk_p (i := .iload 8) (len := 2) (pc' := 305) mJ_89 (by decide +kernel) (ns_iload 7 rfl) rfl ?_
  refine nk_p (i := .i2l) (len := 1) (pc' := 306) mJ_89 (by decide +kernel) ns_i2l rfl ?_
  refine nk_p (i := .lcmp) (len := 1) (pc' := 307) mJ_89 (by decide +kernel) ns_lcmp rfl ?_
  refine nk_lcond (c := .lt) (off := 12) (len := 3) (t := 319) (pc' := 310) mJ_89 (by decide +kernel) (by decide +kernel) rfl (fun hc => ?_) (fun hc => ?_)
  · have hr := nk_ifp (c := r5 < l8) hc hr
    refine nk_sub [1, 8] (L' := [(0, nk_r l0), (9, nk_i l9)]) rfl ?_
    exact ja_X13_body_b319_ok zs _ _ _ _ t_l0 hr
  · have hr := nk_ifn (c := r5 < l8) hc hr
    refine nk_p (i := .lload 10) (len := 2) (pc' := 312) mJ_89 (by decide +kernel) (ns_lload 0 rfl) rfl ?_
    refine nk_ldc2 (x := 346) (len := 3) (X := 12) (v := 12) (pc' := 315) mJ_89 (by decide +kernel) (by decide +kernel) (by decide +kernel) rfl ?_
    refine nk_p (i := .lcmp) (len := 1) (pc' := 316) mJ_89 (by decide +kernel) ns_lcmp rfl ?_
    refine nk_lcond (c := .le) (off := 12) (len := 3) (t := 328) (pc' := 319) mJ_89 (by decide +kernel) (by decide +kernel) rfl (fun hc => ?_) (fun hc => ?_)
    · have hr := nk_ifp (c := r5 ≤ 12) hc hr
      refine nk_p (i := .aload_n 0) (len := 1) (pc' := 329) mJ_89 (by decide +kernel) (ns_aload_n 1 rfl rfl) rfl ?_
      refine nk_getC (f := (4, 1, 48)) (x := 43) (len := 3) (ci := 13) (k := 15) (pc' := 332) ja_okT mJ_89 (by decide +kernel) (by decide +kernel) (by decide +kernel) (by decide) t_l0 rfl ?_
      have t8 : nk_ar ja_Tt (ja_c l0 15) = some (1, 48) := nk_ta ja_okT t_l0 (by decide +kernel)
      refine nk_p (i := .iload 7) (len := 2) (pc' := 334) mJ_89 (by decide +kernel) (ns_iload 6 rfl) rfl ?_
      refine nk_p (i := .iload_n 3) (len := 1) (pc' := 335) mJ_89 (by decide +kernel) (ns_iload_n 4 rfl rfl) rfl ?_
      refine nk_p (i := .iconst 1) (len := 1) (pc' := 336) mJ_89 (by decide +kernel) (ns_iconst (c := 1) (by decide +kernel)) rfl ?_
      refine nk_p (i := .iadd) (len := 1) (pc' := 337) mJ_89 (by decide +kernel) ns_iadd rfl ?_
      obtain ⟨S9, h10, hr⟩ := nk_lte hr
      refine nk_iast (len := 1) (N := 48) (pc' := 338) mJ_89 (by decide +kernel) t8 h2.1 h2.2 rfl rfl h10 ?_
      refine nk_p (i := .aload_n 1) (len := 1) (pc' := 339) mJ_89 (by decide +kernel) (ns_aload_n 2 rfl rfl) rfl ?_
      refine nk_getC (f := (4, 1, 48)) (x := 306) (len := 3) (ci := 12) (k := 13) (pc' := 342) ja_okT mJ_89 (by decide +kernel) (by decide +kernel) (by decide +kernel) (by decide) t_l1 rfl ?_
      have t11 : nk_ar ja_Tt (ja_c l1 13) = some (1, 48) := nk_ta ja_okT t_l1 (by decide +kernel)
      refine nk_p (i := .iload 7) (len := 2) (pc' := 344) mJ_89 (by decide +kernel) (ns_iload 6 rfl) rfl ?_
      refine nk_p (i := .iload_n 2) (len := 1) (pc' := 345) mJ_89 (by decide +kernel) (ns_iload_n 3 rfl rfl) rfl ?_
      obtain ⟨S12, h13, hr⟩ := nk_lte hr
      refine nk_iast (len := 1) (N := 48) (pc' := 346) mJ_89 (by decide +kernel) t11 h2.1 h2.2 rfl rfl h13 ?_
      refine nk_p (i := .aload_n 1) (len := 1) (pc' := 347) mJ_89 (by decide +kernel) (ns_aload_n 2 rfl rfl) rfl ?_
      refine nk_getC (f := (4, 3, 48)) (x := 334) (len := 3) (ci := 12) (k := 14) (pc' := 350) ja_okT mJ_89 (by decide +kernel) (by decide +kernel) (by decide +kernel) (by decide) t_l1 rfl ?_
      have t14 : nk_ar ja_Tt (ja_c l1 14) = some (3, 48) := nk_ta ja_okT t_l1 (by decide +kernel)
      refine nk_p (i := .iload 7) (len := 2) (pc' := 352) mJ_89 (by decide +kernel) (ns_iload 6 rfl) rfl ?_
      refine nk_p (i := .iload 4) (len := 2) (pc' := 354) mJ_89 (by decide +kernel) (ns_iload 5 rfl) rfl ?_
      obtain ⟨h17, hr⟩ := nk_cke hr
      obtain ⟨S15, h16, hr⟩ := nk_lte hr
      refine nk_zast (len := 1) (N := 48) (pc' := 355) mJ_89 (by decide +kernel) t14 h2.1 h2.2 h17 rfl rfl h16 ?_
      refine nk_p (i := .aload_n 1) (len := 1) (pc' := 356) mJ_89 (by decide +kernel) (ns_aload_n 2 rfl rfl) rfl ?_
      refine nk_getC (f := (4, 1, 48)) (x := 348) (len := 3) (ci := 12) (k := 15) (pc' := 359) ja_okT mJ_89 (by decide +kernel) (by decide +kernel) (by decide +kernel) (by decide) t_l1 rfl ?_
      have t18 : nk_ar ja_Tt (ja_c l1 15) = some (1, 48) := nk_ta ja_okT t_l1 (by decide +kernel)
      refine nk_p (i := .iload 7) (len := 2) (pc' := 361) mJ_89 (by decide +kernel) (ns_iload 6 rfl) rfl ?_
      refine nk_p (i := .iload 8) (len := 2) (pc' := 363) mJ_89 (by decide +kernel) (ns_iload 7 rfl) rfl ?_
      obtain ⟨S19, h20, hr⟩ := nk_lte hr
      refine nk_iast (len := 1) (N := 48) (pc' := 364) mJ_89 (by decide +kernel) t18 h2.1 h2.2 rfl rfl h20 ?_
      refine nk_p (i := .aload_n 1) (len := 1) (pc' := 365) mJ_89 (by decide +kernel) (ns_aload_n 2 rfl rfl) rfl ?_
      refine nk_getC (f := (4, 1, 48)) (x := 351) (len := 3) (ci := 12) (k := 18) (pc' := 368) ja_okT mJ_89 (by decide +kernel) (by decide +kernel) (by decide +kernel) (by decide) t_l1 rfl ?_
      have t21 : nk_ar ja_Tt (ja_c l1 18) = some (1, 48) := nk_ta ja_okT t_l1 (by decide +kernel)
      refine nk_p (i := .iload 7) (len := 2) (pc' := 370) mJ_89 (by decide +kernel) (ns_iload 6 rfl) rfl ?_
      refine nk_p (i := .lload 10) (len := 2) (pc' := 372) mJ_89 (by decide +kernel) (ns_lload 0 rfl) rfl ?_
      refine nk_p (i := .l2i) (len := 1) (pc' := 373) mJ_89 (by decide +kernel) ns_l2i rfl ?_
      obtain ⟨S22, h23, hr⟩ := nk_lte hr
      refine nk_iast (len := 1) (N := 48) (pc' := 374) mJ_89 (by decide +kernel) t21 h2.1 h2.2 rfl rfl h23 ?_
      refine nk_p (i := .aload_n 1) (len := 1) (pc' := 375) mJ_89 (by decide +kernel) (ns_aload_n 2 rfl rfl) rfl ?_
      refine nk_p (i := .dup) (len := 1) (pc' := 376) mJ_89 (by decide +kernel) (ns_dup rfl) rfl ?_
      refine nk_getI (y := (0, 0)) (x := 303) (len := 3) (ci := 12) (k := 2) (pc' := 379) ja_okT mJ_89 (by decide +kernel) (by decide +kernel) (by decide +kernel) t_l1 rfl ?_
      refine nk_p (i := .iconst 1) (len := 1) (pc' := 380) mJ_89 (by decide +kernel) (ns_iconst (c := 1) (by decide +kernel)) rfl ?_
      refine nk_p (i := .iadd) (len := 1) (pc' := 381) mJ_89 (by decide +kernel) ns_iadd rfl ?_
      obtain ⟨S24, h25, hr⟩ := nk_lte hr
      refine nk_putI (y := (0, 0)) (ty := .int) (x := 303) (len := 3) (ci := 12) (k := 2) (pc' := 384) ja_okT mJ_89 (by decide +kernel) (by decide +kernel) (by decide +kernel) t_l1 (Or.inl rfl) rfl h25 ?_
      refine nk_p (i := .iconst 1) (len := 1) (pc' := 385) mJ_89 (by decide +kernel) (ns_iconst (c := 1) (by decide +kernel)) rfl ?_
      cases hr
      exact nk_iret (ty := .boolean) (len := 1) mJ_89 (by decide +kernel) rfl (nk_nar_z (by decide))
    · have hr := nk_ifn (c := r5 ≤ 12) hc hr
      refine nk_sub [1, 8] (L' := [(0, nk_r l0), (9, nk_i l9)]) rfl ?_
      exact ja_X13_body_b319_ok zs _ _ _ _ t_l0 hr
noncomputable def ja_X13_body_b253 (l0 : Nat) (l1 : Nat) (l2 : Int) (l3 : Int) (l4 : Int) (l7 : Int) (l8 : Int) (l9 : Int) (s0 : Nat) (s1 : Int) (s2 : Int) (S : nk_S) : Option (Int × nk_S) :=
  if 0 ≤ s1 ∧ s1 < 48 then
  nk_lt (nk_wi S s0 s1.toNat s2) fun S2 =>
  nk_bd (ja_X13_is l0 l9 25 S2) fun r4 S5 =>
  if r4 = 0 then
    if 0 ≤ l7 ∧ l7 < 48 then
    if 0 ≤ (S5.1 (ja_c l1 17) l7.toNat) then
      ja_X13_body_b282 l0 l1 l2 l3 l4 l7 l8 l9 S5
    else
      nk_bd (ja_X13_wrong l0 l9 S5) fun r9 S10 =>
      if r9 = 0 ∨ r9 = 1 then
      some (r9, S10)
      else none
    else none
  else
    ja_X13_body_b282 l0 l1 l2 l3 l4 l7 l8 l9 S5
  else none
theorem ja_X13_body_b253_ok (zs : List Int32) : ∀ (l0 : Nat) (l1 : Nat) (l2 : Int) (l3 : Int) (l4 : Int) (l7 : Int) (l8 : Int) (l9 : Int) (s0 : Nat) (s1 : Int) (s2 : Int) (S : nk_S) (R : Int × nk_S), nk_cl ja_Tt l0 = some 13 → nk_cl ja_Tt l1 = some 12 → nk_ar ja_Tt s0 = some (1, 48) → ja_X13_body_b253 l0 l1 l2 l3 l4 l7 l8 l9 s0 s1 s2 S = some R → nk_K ja_Tt mi_Γ (mi_ev zs) 1 89 253 [(0, nk_r l0), (1, nk_r l1), (2, nk_i l2), (3, nk_i l3), (4, nk_i l4), (7, nk_i l7), (8, nk_i l8), (9, nk_i l9)] [nk_i s2, nk_i s1, nk_r s0] S R := by
  intro l0 l1 l2 l3 l4 l7 l8 l9 s0 s1 s2 S R t_l0 t_l1 t_s0 hr
  unfold ja_X13_body_b253 at hr
  obtain ⟨h1, hr⟩ := nk_cke hr
  obtain ⟨S2, h3, hr⟩ := nk_lte hr
  refine nk_iast (len := 1) (N := 48) (pc' := 254) mJ_89 (by decide +kernel) t_s0 h1.1 h1.2 rfl rfl h3 ?_
  refine nk_p (i := .aload_n 0) (len := 1) (pc' := 255) mJ_89 (by decide +kernel) (ns_aload_n 0 rfl rfl) rfl ?_
  refine nk_p (i := .iload 9) (len := 2) (pc' := 257) mJ_89 (by decide +kernel) (ns_iload 7 rfl) rfl ?_
  refine nk_ldct (x := 236) (len := 2) (k := 25) (s := "none") (pc' := 259) mJ_89 (by decide +kernel) (by decide +kernel) (by decide +kernel) rfl ?_
  obtain ⟨r4, S5, h6, hr⟩ := nk_bde hr
  refine nk_callV (ci := 13) (n := 2) (x := 199) (len := 3) (j' := 138) (q' := 1) (r := r4) (S' := S5) (L2 := [(0, nk_r l0), (1, nk_i l9), (2, nk_o 25)]) (rest := []) (st' := [nk_i r4]) (pc' := 262) mJ_89 (by decide +kernel) (by decide +kernel) rfl rfl t_l0 (Nat.le_of_ble_eq_true rfl) mJ_138 (Nat.le_of_ble_eq_true rfl) rfl (ja_X13_is_ok zs _ _ _ _ _ t_l0 (ja_tx25 zs) h6) rfl ?_
  refine nk_icond (c := .ne) (off := 20) (len := 3) (t := 282) (pc' := 265) mJ_89 (by decide +kernel) (by decide +kernel) rfl (fun hc => ?_) (fun hc => ?_)
  · have hr := nk_ifn (c := r4 = 0) hc hr
    exact ja_X13_body_b282_ok zs _ _ _ _ _ _ _ _ _ _ t_l0 t_l1 hr
  · have hr := nk_ifp (c := r4 = 0) (Decidable.of_not_not hc) hr
    refine nk_p (i := .aload_n 1) (len := 1) (pc' := 266) mJ_89 (by decide +kernel) (ns_aload_n 1 rfl rfl) rfl ?_
    refine nk_getC (f := (4, 1, 48)) (x := 343) (len := 3) (ci := 12) (k := 17) (pc' := 269) ja_okT mJ_89 (by decide +kernel) (by decide +kernel) (by decide +kernel) (by decide) t_l1 rfl ?_
    have t7 : nk_ar ja_Tt (ja_c l1 17) = some (1, 48) := nk_ta ja_okT t_l1 (by decide +kernel)
    refine nk_p (i := .iload 7) (len := 2) (pc' := 271) mJ_89 (by decide +kernel) (ns_iload 5 rfl) rfl ?_
    obtain ⟨h8, hr⟩ := nk_cke hr
    refine nk_iald (len := 1) (N := 48) (pc' := 272) mJ_89 (by decide +kernel) t7 h8.1 h8.2 rfl rfl ?_
    refine nk_icond (c := .ge) (off := 10) (len := 3) (t := 282) (pc' := 275) mJ_89 (by decide +kernel) (by decide +kernel) rfl (fun hc => ?_) (fun hc => ?_)
    · have hr := nk_ifp (c := 0 ≤ (S5.1 (ja_c l1 17) l7.toNat)) hc hr
      exact ja_X13_body_b282_ok zs _ _ _ _ _ _ _ _ _ _ t_l0 t_l1 hr
    · have hr := nk_ifn (c := 0 ≤ (S5.1 (ja_c l1 17) l7.toNat)) hc hr
      refine nk_p (i := .aload_n 0) (len := 1) (pc' := 276) mJ_89 (by decide +kernel) (ns_aload_n 0 rfl rfl) rfl ?_
      refine nk_p (i := .iload 9) (len := 2) (pc' := 278) mJ_89 (by decide +kernel) (ns_iload 7 rfl) rfl ?_
      obtain ⟨r9, S10, h11, hr⟩ := nk_bde hr
      refine nk_callV (ci := 13) (n := 1) (x := 290) (len := 3) (j' := 246) (q' := 1) (r := r9) (S' := S10) (L2 := [(0, nk_r l0), (1, nk_i l9)]) (rest := []) (st' := [nk_i r9]) (pc' := 281) mJ_89 (by decide +kernel) (by decide +kernel) rfl rfl t_l0 (Nat.le_of_ble_eq_true rfl) mJ_246 (Nat.le_of_ble_eq_true rfl) rfl (ja_X13_wrong_ok zs _ _ _ _ t_l0 h11) rfl ?_
      obtain ⟨h12, hr⟩ := nk_cke hr
      cases hr
      exact nk_iret (ty := .boolean) (len := 1) mJ_89 (by decide +kernel) rfl (nk_nar_z h12)
noncomputable def ja_X13_body_b159 (rec159 : Nat → Nat → Int → Int → Int → Int → Int → Int → nk_S → Option (Int × nk_S)) (l0 : Nat) (l1 : Nat) (l2 : Int) (l3 : Int) (l4 : Int) (l7 : Int) (l8 : Int) (l9 : Int) (S : nk_S) : Option (Int × nk_S) :=
  nk_bd (ja_X13_is l0 l9 23 S) fun r1 S2 =>
  if r1 = 0 then
    nk_bd (ja_X13_typeOf l0 l1 l9 S2) fun r13 S14 =>
    if 0 ≤ r13 then
      if 12 ≤ l8 then
        nk_lt (nk_w (l8 + 1)) fun v16 =>
        nk_lt (nk_w (l9 + 1)) fun v18 =>
        rec159 l0 l1 l2 l3 l4 l7 v16 v18 S14
      else
        if 0 ≤ (nk_w ((nk_w (l7 * 12)) + l8)) ∧ (nk_w ((nk_w (l7 * 12)) + l8)) < 576 then
        nk_lt (nk_wi S14 (ja_c l1 16) (nk_w ((nk_w (l7 * 12)) + l8)).toNat r13) fun S22 =>
        nk_lt (nk_w (l8 + 1)) fun v24 =>
        nk_lt (nk_w (l9 + 1)) fun v26 =>
        rec159 l0 l1 l2 l3 l4 l7 v24 v26 S22
        else none
    else
      nk_bd (ja_X13_wrong l0 l9 S14) fun r28 S29 =>
      if r28 = 0 ∨ r28 = 1 then
      some (r28, S29)
      else none
  else
    nk_lt (nk_w (l9 + 1)) fun v4 =>
    nk_bd (ja_X13_is l0 v4 25 S2) fun r7 S8 =>
    if r7 = 0 then
      nk_bd (ja_X13_typeOf l0 l1 v4 S8) fun r10 S11 =>
      ja_X13_body_b253 l0 l1 l2 l3 l4 l7 l8 v4 (ja_c l1 17) l7 r10 S11
    else
      ja_X13_body_b253 l0 l1 l2 l3 l4 l7 l8 v4 (ja_c l1 17) l7 (-1) S8
theorem ja_X13_body_b159_ok (zs : List Int32) {rec159 : Nat → Nat → Int → Int → Int → Int → Int → Int → nk_S → Option (Int × nk_S)} (hrec159 : ∀ (l0 : Nat) (l1 : Nat) (l2 : Int) (l3 : Int) (l4 : Int) (l7 : Int) (l8 : Int) (l9 : Int) (S : nk_S) (R : Int × nk_S), nk_cl ja_Tt l0 = some 13 → nk_cl ja_Tt l1 = some 12 → rec159 l0 l1 l2 l3 l4 l7 l8 l9 S = some R → nk_K ja_Tt mi_Γ (mi_ev zs) 1 89 159 [(0, nk_r l0), (1, nk_r l1), (2, nk_i l2), (3, nk_i l3), (4, nk_i l4), (7, nk_i l7), (8, nk_i l8), (9, nk_i l9)] [] S R) : ∀ (l0 : Nat) (l1 : Nat) (l2 : Int) (l3 : Int) (l4 : Int) (l7 : Int) (l8 : Int) (l9 : Int) (S : nk_S) (R : Int × nk_S), nk_cl ja_Tt l0 = some 13 → nk_cl ja_Tt l1 = some 12 → ja_X13_body_b159 rec159 l0 l1 l2 l3 l4 l7 l8 l9 S = some R → nk_K ja_Tt mi_Γ (mi_ev zs) 1 89 159 [(0, nk_r l0), (1, nk_r l1), (2, nk_i l2), (3, nk_i l3), (4, nk_i l4), (7, nk_i l7), (8, nk_i l8), (9, nk_i l9)] [] S R := by
  intro l0 l1 l2 l3 l4 l7 l8 l9 S R t_l0 t_l1 hr
  unfold ja_X13_body_b159 at hr
  refine nk_p (i := .aload_n 0) (len := 1) (pc' := 160) mJ_89 (by decide +kernel) (ns_aload_n 0 rfl rfl) rfl ?_
  refine nk_p (i := .iload 9) (len := 2) (pc' := 162) mJ_89 (by decide +kernel) (ns_iload 7 rfl) rfl ?_
  refine nk_ldct (x := 234) (len := 2) (k := 23) (s := ")") (pc' := 164) mJ_89 (by decide +kernel) (by decide +kernel) (by decide +kernel) rfl ?_
  obtain ⟨r1, S2, h3, hr⟩ := nk_bde hr
  refine nk_callV (ci := 13) (n := 2) (x := 199) (len := 3) (j' := 138) (q' := 1) (r := r1) (S' := S2) (L2 := [(0, nk_r l0), (1, nk_i l9), (2, nk_o 23)]) (rest := []) (st' := [nk_i r1]) (pc' := 167) mJ_89 (by decide +kernel) (by decide +kernel) rfl rfl t_l0 (Nat.le_of_ble_eq_true rfl) mJ_138 (Nat.le_of_ble_eq_true rfl) rfl (ja_X13_is_ok zs _ _ _ _ _ t_l0 (ja_tx23 zs) h3) rfl ?_
  refine nk_icond (c := .ne) (off := 55) (len := 3) (t := 222) (pc' := 170) mJ_89 (by decide +kernel) (by decide +kernel) rfl (fun hc => ?_) (fun hc => ?_)
  · have hr := nk_ifn (c := r1 = 0) hc hr
    obtain ⟨v4, h5, hr⟩ := nk_lte hr
    refine nk_p (i := .iinc 9 1) (len := 3) (pc' := 225) mJ_89 (by decide +kernel) (ns_iinc (c := 1) (L' := [(9, nk_i v4), (0, nk_r l0), (1, nk_r l1), (2, nk_i l2), (3, nk_i l3), (4, nk_i l4), (7, nk_i l7), (8, nk_i l8)]) 7 rfl (by decide +kernel) h5 rfl (by decide +kernel)) rfl ?_
    refine nk_p (i := .aload_n 1) (len := 1) (pc' := 226) mJ_89 (by decide +kernel) (ns_aload_n 2 rfl rfl) rfl ?_
    refine nk_getC (f := (4, 1, 48)) (x := 343) (len := 3) (ci := 12) (k := 17) (pc' := 229) ja_okT mJ_89 (by decide +kernel) (by decide +kernel) (by decide +kernel) (by decide) t_l1 rfl ?_
    have t6 : nk_ar ja_Tt (ja_c l1 17) = some (1, 48) := nk_ta ja_okT t_l1 (by decide +kernel)
    refine nk_p (i := .iload 7) (len := 2) (pc' := 231) mJ_89 (by decide +kernel) (ns_iload 6 rfl) rfl ?_
    refine nk_p (i := .aload_n 0) (len := 1) (pc' := 232) mJ_89 (by decide +kernel) (ns_aload_n 1 rfl rfl) rfl ?_
    refine nk_p (i := .iload 9) (len := 2) (pc' := 234) mJ_89 (by decide +kernel) (ns_iload 0 rfl) rfl ?_
    refine nk_ldct (x := 236) (len := 2) (k := 25) (s := "none") (pc' := 236) mJ_89 (by decide +kernel) (by decide +kernel) (by decide +kernel) rfl ?_
    obtain ⟨r7, S8, h9, hr⟩ := nk_bde hr
    refine nk_callV (ci := 13) (n := 2) (x := 199) (len := 3) (j' := 138) (q' := 1) (r := r7) (S' := S8) (L2 := [(0, nk_r l0), (1, nk_i v4), (2, nk_o 25)]) (rest := [nk_i l7, nk_r (ja_c l1 17)]) (st' := [nk_i r7, nk_i l7, nk_r (ja_c l1 17)]) (pc' := 239) mJ_89 (by decide +kernel) (by decide +kernel) rfl rfl t_l0 (Nat.le_of_ble_eq_true rfl) mJ_138 (Nat.le_of_ble_eq_true rfl) rfl (ja_X13_is_ok zs _ _ _ _ _ t_l0 (ja_tx25 zs) h9) rfl ?_
    refine nk_icond (c := .eq) (off := 7) (len := 3) (t := 246) (pc' := 242) mJ_89 (by decide +kernel) (by decide +kernel) rfl (fun hc => ?_) (fun hc => ?_)
    · have hr := nk_ifp (c := r7 = 0) hc hr
      refine nk_p (i := .aload_n 0) (len := 1) (pc' := 247) mJ_89 (by decide +kernel) (ns_aload_n 1 rfl rfl) rfl ?_
      refine nk_p (i := .aload_n 1) (len := 1) (pc' := 248) mJ_89 (by decide +kernel) (ns_aload_n 2 rfl rfl) rfl ?_
      refine nk_p (i := .iload 9) (len := 2) (pc' := 250) mJ_89 (by decide +kernel) (ns_iload 0 rfl) rfl ?_
      obtain ⟨r10, S11, h12, hr⟩ := nk_bde hr
      refine nk_callV (ci := 13) (n := 2) (x := 321) (len := 3) (j' := 236) (q' := 1) (r := r10) (S' := S11) (L2 := [(0, nk_r l0), (1, nk_r l1), (2, nk_i v4)]) (rest := [nk_i l7, nk_r (ja_c l1 17)]) (st' := [nk_i r10, nk_i l7, nk_r (ja_c l1 17)]) (pc' := 253) mJ_89 (by decide +kernel) (by decide +kernel) rfl rfl t_l0 (Nat.le_of_ble_eq_true rfl) mJ_236 (Nat.le_of_ble_eq_true rfl) rfl (ja_X13_typeOf_ok zs _ _ _ _ _ t_l0 t_l1 h12) rfl ?_
      refine nk_sub [1, 2, 3, 4, 5, 6, 7, 0] (L' := [(0, nk_r l0), (1, nk_r l1), (2, nk_i l2), (3, nk_i l3), (4, nk_i l4), (7, nk_i l7), (8, nk_i l8), (9, nk_i v4)]) rfl ?_
      exact ja_X13_body_b253_ok zs _ _ _ _ _ _ _ _ _ _ _ _ _ t_l0 t_l1 t6 hr
    · have hr := nk_ifn (c := r7 = 0) hc hr
      refine nk_p (i := .iconst (-1)) (len := 1) (pc' := 243) mJ_89 (by decide +kernel) (ns_iconst (c := (-1)) (by decide +kernel)) rfl ?_
      refine nk_p (i := .goto 10) (len := 3) (pc' := 253) mJ_89 (by decide +kernel) (ns_goto (by decide +kernel)) rfl ?_
      refine nk_sub [1, 2, 3, 4, 5, 6, 7, 0] (L' := [(0, nk_r l0), (1, nk_r l1), (2, nk_i l2), (3, nk_i l3), (4, nk_i l4), (7, nk_i l7), (8, nk_i l8), (9, nk_i v4)]) rfl ?_
      exact ja_X13_body_b253_ok zs _ _ _ _ _ _ _ _ _ _ _ _ _ t_l0 t_l1 t6 hr
  · have hr := nk_ifp (c := r1 = 0) (Decidable.of_not_not hc) hr
    refine nk_p (i := .aload_n 0) (len := 1) (pc' := 171) mJ_89 (by decide +kernel) (ns_aload_n 0 rfl rfl) rfl ?_
    refine nk_p (i := .aload_n 1) (len := 1) (pc' := 172) mJ_89 (by decide +kernel) (ns_aload_n 1 rfl rfl) rfl ?_
    refine nk_p (i := .iload 9) (len := 2) (pc' := 174) mJ_89 (by decide +kernel) (ns_iload 7 rfl) rfl ?_
    obtain ⟨r13, S14, h15, hr⟩ := nk_bde hr
    refine nk_callV (ci := 13) (n := 2) (x := 321) (len := 3) (j' := 236) (q' := 1) (r := r13) (S' := S14) (L2 := [(0, nk_r l0), (1, nk_r l1), (2, nk_i l9)]) (rest := []) (st' := [nk_i r13]) (pc' := 177) mJ_89 (by decide +kernel) (by decide +kernel) rfl rfl t_l0 (Nat.le_of_ble_eq_true rfl) mJ_236 (Nat.le_of_ble_eq_true rfl) rfl (ja_X13_typeOf_ok zs _ _ _ _ _ t_l0 t_l1 h15) rfl ?_
    refine nk_p (i := .istore 10) (len := 2) (pc' := 179) mJ_89 (by decide +kernel) (ns_istore (L' := [(10, nk_i r13), (0, nk_r l0), (1, nk_r l1), (2, nk_i l2), (3, nk_i l3), (4, nk_i l4), (7, nk_i l7), (8, nk_i l8), (9, nk_i l9)]) rfl rfl (by decide +kernel)) rfl ?_
    refine nk_p (i := .iload 10) (len := 2) (pc' := 181) mJ_89 (by decide +kernel) (ns_iload 0 rfl) rfl ?_
    refine nk_icond (c := .ge) (off := 10) (len := 3) (t := 191) (pc' := 184) mJ_89 (by decide +kernel) (by decide +kernel) rfl (fun hc => ?_) (fun hc => ?_)
    · have hr := nk_ifp (c := 0 ≤ r13) hc hr
      refine nk_p (i := .iload 8) (len := 2) (pc' := 193) mJ_89 (by decide +kernel) (ns_iload 7 rfl) rfl ?_
      refine nk_p (i := .bipush 12) (len := 2) (pc' := 195) mJ_89 (by decide +kernel) (ns_bipush (c := 12) (by decide +kernel)) rfl ?_
      refine nk_icmp (c := .ge) (off := 18) (len := 3) (t := 213) (pc' := 198) mJ_89 (by decide +kernel) (by decide +kernel) rfl (fun hc => ?_) (fun hc => ?_)
      · have hr := nk_ifp (c := 12 ≤ l8) hc hr
        obtain ⟨v16, h17, hr⟩ := nk_lte hr
        refine nk_p (i := .iinc 8 1) (len := 3) (pc' := 216) mJ_89 (by decide +kernel) (ns_iinc (c := 1) (L' := [(8, nk_i v16), (10, nk_i r13), (0, nk_r l0), (1, nk_r l1), (2, nk_i l2), (3, nk_i l3), (4, nk_i l4), (7, nk_i l7), (9, nk_i l9)]) 7 rfl (by decide +kernel) h17 rfl (by decide +kernel)) rfl ?_
        obtain ⟨v18, h19, hr⟩ := nk_lte hr
        refine nk_p (i := .iinc 9 1) (len := 3) (pc' := 219) mJ_89 (by decide +kernel) (ns_iinc (c := 1) (L' := [(9, nk_i v18), (8, nk_i v16), (10, nk_i r13), (0, nk_r l0), (1, nk_r l1), (2, nk_i l2), (3, nk_i l3), (4, nk_i l4), (7, nk_i l7)]) 8 rfl (by decide +kernel) h19 rfl (by decide +kernel)) rfl ?_
        refine nk_p (i := .goto (-60)) (len := 3) (pc' := 159) mJ_89 (by decide +kernel) (ns_goto (by decide +kernel)) rfl ?_
        refine nk_sub [3, 4, 5, 6, 7, 8, 1, 0] (L' := [(0, nk_r l0), (1, nk_r l1), (2, nk_i l2), (3, nk_i l3), (4, nk_i l4), (7, nk_i l7), (8, nk_i v16), (9, nk_i v18)]) rfl ?_
        exact hrec159 _ _ _ _ _ _ _ _ _ _ t_l0 t_l1 hr
      · have hr := nk_ifn (c := 12 ≤ l8) hc hr
        refine nk_p (i := .aload_n 1) (len := 1) (pc' := 199) mJ_89 (by decide +kernel) (ns_aload_n 2 rfl rfl) rfl ?_
        refine nk_getC (f := (4, 1, 576)) (x := 340) (len := 3) (ci := 12) (k := 16) (pc' := 202) ja_okT mJ_89 (by decide +kernel) (by decide +kernel) (by decide +kernel) (by decide) t_l1 rfl ?_
        have t20 : nk_ar ja_Tt (ja_c l1 16) = some (1, 576) := nk_ta ja_okT t_l1 (by decide +kernel)
        refine nk_p (i := .iload 7) (len := 2) (pc' := 204) mJ_89 (by decide +kernel) (ns_iload 6 rfl) rfl ?_
        refine nk_p (i := .bipush 12) (len := 2) (pc' := 206) mJ_89 (by decide +kernel) (ns_bipush (c := 12) (by decide +kernel)) rfl ?_
        refine nk_p (i := .imul) (len := 1) (pc' := 207) mJ_89 (by decide +kernel) ns_imul rfl ?_
        refine nk_p (i := .iload 8) (len := 2) (pc' := 209) mJ_89 (by decide +kernel) (ns_iload 7 rfl) rfl ?_
        refine nk_p (i := .iadd) (len := 1) (pc' := 210) mJ_89 (by decide +kernel) ns_iadd rfl ?_
        refine nk_p (i := .iload 10) (len := 2) (pc' := 212) mJ_89 (by decide +kernel) (ns_iload 0 rfl) rfl ?_
        obtain ⟨h21, hr⟩ := nk_cke hr
        obtain ⟨S22, h23, hr⟩ := nk_lte hr
        refine nk_iast (len := 1) (N := 576) (pc' := 213) mJ_89 (by decide +kernel) t20 h21.1 h21.2 rfl rfl h23 ?_
        obtain ⟨v24, h25, hr⟩ := nk_lte hr
        refine nk_p (i := .iinc 8 1) (len := 3) (pc' := 216) mJ_89 (by decide +kernel) (ns_iinc (c := 1) (L' := [(8, nk_i v24), (10, nk_i r13), (0, nk_r l0), (1, nk_r l1), (2, nk_i l2), (3, nk_i l3), (4, nk_i l4), (7, nk_i l7), (9, nk_i l9)]) 7 rfl (by decide +kernel) h25 rfl (by decide +kernel)) rfl ?_
        obtain ⟨v26, h27, hr⟩ := nk_lte hr
        refine nk_p (i := .iinc 9 1) (len := 3) (pc' := 219) mJ_89 (by decide +kernel) (ns_iinc (c := 1) (L' := [(9, nk_i v26), (8, nk_i v24), (10, nk_i r13), (0, nk_r l0), (1, nk_r l1), (2, nk_i l2), (3, nk_i l3), (4, nk_i l4), (7, nk_i l7)]) 8 rfl (by decide +kernel) h27 rfl (by decide +kernel)) rfl ?_
        refine nk_p (i := .goto (-60)) (len := 3) (pc' := 159) mJ_89 (by decide +kernel) (ns_goto (by decide +kernel)) rfl ?_
        refine nk_sub [3, 4, 5, 6, 7, 8, 1, 0] (L' := [(0, nk_r l0), (1, nk_r l1), (2, nk_i l2), (3, nk_i l3), (4, nk_i l4), (7, nk_i l7), (8, nk_i v24), (9, nk_i v26)]) rfl ?_
        exact hrec159 _ _ _ _ _ _ _ _ _ _ t_l0 t_l1 hr
    · have hr := nk_ifn (c := 0 ≤ r13) hc hr
      refine nk_p (i := .aload_n 0) (len := 1) (pc' := 185) mJ_89 (by decide +kernel) (ns_aload_n 1 rfl rfl) rfl ?_
      refine nk_p (i := .iload 9) (len := 2) (pc' := 187) mJ_89 (by decide +kernel) (ns_iload 8 rfl) rfl ?_
      obtain ⟨r28, S29, h30, hr⟩ := nk_bde hr
      refine nk_callV (ci := 13) (n := 1) (x := 290) (len := 3) (j' := 246) (q' := 1) (r := r28) (S' := S29) (L2 := [(0, nk_r l0), (1, nk_i l9)]) (rest := []) (st' := [nk_i r28]) (pc' := 190) mJ_89 (by decide +kernel) (by decide +kernel) rfl rfl t_l0 (Nat.le_of_ble_eq_true rfl) mJ_246 (Nat.le_of_ble_eq_true rfl) rfl (ja_X13_wrong_ok zs _ _ _ _ t_l0 h30) rfl ?_
      obtain ⟨h31, hr⟩ := nk_cke hr
      cases hr
      exact nk_iret (ty := .boolean) (len := 1) mJ_89 (by decide +kernel) rfl (nk_nar_z h31)
noncomputable def ja_X13_body_L159 : Nat → Nat → Nat → Int → Int → Int → Int → Int → Int → nk_S → Option (Int × nk_S)
  | 0, _, _, _, _, _, _, _, _, _ => none
  | n + 1, l0, l1, l2, l3, l4, l7, l8, l9, S => ja_X13_body_b159 (ja_X13_body_L159 n) l0 l1 l2 l3 l4 l7 l8 l9 S
theorem ja_X13_body_L159_ok (zs : List Int32) : ∀ n : Nat, ∀ (l0 : Nat) (l1 : Nat) (l2 : Int) (l3 : Int) (l4 : Int) (l7 : Int) (l8 : Int) (l9 : Int) (S : nk_S) (R : Int × nk_S), nk_cl ja_Tt l0 = some 13 → nk_cl ja_Tt l1 = some 12 → ja_X13_body_L159 n l0 l1 l2 l3 l4 l7 l8 l9 S = some R → nk_K ja_Tt mi_Γ (mi_ev zs) 1 89 159 [(0, nk_r l0), (1, nk_r l1), (2, nk_i l2), (3, nk_i l3), (4, nk_i l4), (7, nk_i l7), (8, nk_i l8), (9, nk_i l9)] [] S R := by
  intro n
  induction n with
  | zero => intro _ _ _ _ _ _ _ _ _ _ _ _ hr; cases hr
  | succ n ih => intro l0 l1 l2 l3 l4 l7 l8 l9 S R t_l0 t_l1 hr; exact ja_X13_body_b159_ok zs ih l0 l1 l2 l3 l4 l7 l8 l9 S R t_l0 t_l1 hr
noncomputable def ja_X13_body_b133 (l0 : Nat) (l1 : Nat) (l2 : Int) (l3 : Int) (l4 : Int) (l7 : Int) (s0 : Int) (S : nk_S) : Option (Int × nk_S) :=
  if l4 = 0 then
    nk_lt (nk_w (l3 + 3)) fun v1 =>
    ja_X13_body_L159 nk_big l0 l1 l2 l3 l4 l7 s0 v1 S
  else
    if 0 ≤ (nk_w (l7 * 12)) ∧ (nk_w (l7 * 12)) < 576 then
    nk_lt (nk_wi S (ja_c l1 16) (nk_w (l7 * 12)).toNat (nk_w (8 + l2))) fun S5 =>
    nk_lt (nk_w (l3 + 3)) fun v7 =>
    ja_X13_body_L159 nk_big l0 l1 l2 l3 l4 l7 s0 v7 S5
    else none
theorem ja_X13_body_b133_ok (zs : List Int32) : ∀ (l0 : Nat) (l1 : Nat) (l2 : Int) (l3 : Int) (l4 : Int) (l7 : Int) (s0 : Int) (S : nk_S) (R : Int × nk_S), nk_cl ja_Tt l0 = some 13 → nk_cl ja_Tt l1 = some 12 → ja_X13_body_b133 l0 l1 l2 l3 l4 l7 s0 S = some R → nk_K ja_Tt mi_Γ (mi_ev zs) 1 89 133 [(0, nk_r l0), (1, nk_r l1), (2, nk_i l2), (3, nk_i l3), (4, nk_i l4), (7, nk_i l7)] [nk_i s0] S R := by
  intro l0 l1 l2 l3 l4 l7 s0 S R t_l0 t_l1 hr
  unfold ja_X13_body_b133 at hr
  refine nk_p (i := .istore 8) (len := 2) (pc' := 135) mJ_89 (by decide +kernel) (ns_istore (L' := [(8, nk_i s0), (0, nk_r l0), (1, nk_r l1), (2, nk_i l2), (3, nk_i l3), (4, nk_i l4), (7, nk_i l7)]) rfl rfl (by decide +kernel)) rfl ?_
  refine nk_p (i := .iload 4) (len := 2) (pc' := 137) mJ_89 (by decide +kernel) (ns_iload 5 rfl) rfl ?_
  refine nk_icond (c := .eq) (off := 17) (len := 3) (t := 154) (pc' := 140) mJ_89 (by decide +kernel) (by decide +kernel) rfl (fun hc => ?_) (fun hc => ?_)
  · have hr := nk_ifp (c := l4 = 0) hc hr
    refine nk_p (i := .iload_n 3) (len := 1) (pc' := 155) mJ_89 (by decide +kernel) (ns_iload_n 4 rfl rfl) rfl ?_
    refine nk_p (i := .iconst 3) (len := 1) (pc' := 156) mJ_89 (by decide +kernel) (ns_iconst (c := 3) (by decide +kernel)) rfl ?_
    refine nk_p (i := .iadd) (len := 1) (pc' := 157) mJ_89 (by decide +kernel) ns_iadd rfl ?_
    obtain ⟨v1, h2, hr⟩ := nk_lte hr
    refine nk_p (i := .istore 9) (len := 2) (pc' := 159) mJ_89 (by decide +kernel) (ns_istore (L' := [(9, nk_i v1), (8, nk_i s0), (0, nk_r l0), (1, nk_r l1), (2, nk_i l2), (3, nk_i l3), (4, nk_i l4), (7, nk_i l7)]) h2 rfl (by decide +kernel)) rfl ?_
    refine nk_sub [2, 3, 4, 5, 6, 7, 1, 0] (L' := [(0, nk_r l0), (1, nk_r l1), (2, nk_i l2), (3, nk_i l3), (4, nk_i l4), (7, nk_i l7), (8, nk_i s0), (9, nk_i v1)]) rfl ?_
    exact ja_X13_body_L159_ok zs nk_big _ _ _ _ _ _ _ _ _ _ t_l0 t_l1 hr
  · have hr := nk_ifn (c := l4 = 0) hc hr
    refine nk_p (i := .aload_n 1) (len := 1) (pc' := 141) mJ_89 (by decide +kernel) (ns_aload_n 2 rfl rfl) rfl ?_
    refine nk_getC (f := (4, 1, 576)) (x := 340) (len := 3) (ci := 12) (k := 16) (pc' := 144) ja_okT mJ_89 (by decide +kernel) (by decide +kernel) (by decide +kernel) (by decide) t_l1 rfl ?_
    have t3 : nk_ar ja_Tt (ja_c l1 16) = some (1, 576) := nk_ta ja_okT t_l1 (by decide +kernel)
    refine nk_p (i := .iload 7) (len := 2) (pc' := 146) mJ_89 (by decide +kernel) (ns_iload 6 rfl) rfl ?_
    refine nk_p (i := .bipush 12) (len := 2) (pc' := 148) mJ_89 (by decide +kernel) (ns_bipush (c := 12) (by decide +kernel)) rfl ?_
    refine nk_p (i := .imul) (len := 1) (pc' := 149) mJ_89 (by decide +kernel) ns_imul rfl ?_
    refine nk_p (i := .bipush 8) (len := 2) (pc' := 151) mJ_89 (by decide +kernel) (ns_bipush (c := 8) (by decide +kernel)) rfl ?_
    refine nk_p (i := .iload_n 2) (len := 1) (pc' := 152) mJ_89 (by decide +kernel) (ns_iload_n 3 rfl rfl) rfl ?_
    refine nk_p (i := .iadd) (len := 1) (pc' := 153) mJ_89 (by decide +kernel) ns_iadd rfl ?_
    obtain ⟨h4, hr⟩ := nk_cke hr
    obtain ⟨S5, h6, hr⟩ := nk_lte hr
    refine nk_iast (len := 1) (N := 576) (pc' := 154) mJ_89 (by decide +kernel) t3 h4.1 h4.2 rfl rfl h6 ?_
    refine nk_p (i := .iload_n 3) (len := 1) (pc' := 155) mJ_89 (by decide +kernel) (ns_iload_n 4 rfl rfl) rfl ?_
    refine nk_p (i := .iconst 3) (len := 1) (pc' := 156) mJ_89 (by decide +kernel) (ns_iconst (c := 3) (by decide +kernel)) rfl ?_
    refine nk_p (i := .iadd) (len := 1) (pc' := 157) mJ_89 (by decide +kernel) ns_iadd rfl ?_
    obtain ⟨v7, h8, hr⟩ := nk_lte hr
    refine nk_p (i := .istore 9) (len := 2) (pc' := 159) mJ_89 (by decide +kernel) (ns_istore (L' := [(9, nk_i v7), (8, nk_i s0), (0, nk_r l0), (1, nk_r l1), (2, nk_i l2), (3, nk_i l3), (4, nk_i l4), (7, nk_i l7)]) h8 rfl (by decide +kernel)) rfl ?_
    refine nk_sub [2, 3, 4, 5, 6, 7, 1, 0] (L' := [(0, nk_r l0), (1, nk_r l1), (2, nk_i l2), (3, nk_i l3), (4, nk_i l4), (7, nk_i l7), (8, nk_i s0), (9, nk_i v7)]) rfl ?_
    exact ja_X13_body_L159_ok zs nk_big _ _ _ _ _ _ _ _ _ _ t_l0 t_l1 hr
noncomputable def ja_X13_body_b109 (l0 : Nat) (l3 : Int) (S : nk_S) : Option (Int × nk_S) :=
  nk_bd (ja_X13_wrong l0 (nk_w (l3 + 1)) S) fun r1 S2 =>
  if r1 = 0 ∨ r1 = 1 then
  some (r1, S2)
  else none
theorem ja_X13_body_b109_ok (zs : List Int32) : ∀ (l0 : Nat) (l3 : Int) (S : nk_S) (R : Int × nk_S), nk_cl ja_Tt l0 = some 13 → ja_X13_body_b109 l0 l3 S = some R → nk_K ja_Tt mi_Γ (mi_ev zs) 1 89 109 [(0, nk_r l0), (3, nk_i l3)] [] S R := by
  intro l0 l3 S R t_l0 hr
  unfold ja_X13_body_b109 at hr
  refine nk_p (i := .aload_n 0) (len := 1) (pc' := 110) mJ_89 (by decide +kernel) (ns_aload_n 0 rfl rfl) rfl ?_
  refine nk_p (i := .iload_n 3) (len := 1) (pc' := 111) mJ_89 (by decide +kernel) (ns_iload_n 1 rfl rfl) rfl ?_
  refine nk_p (i := .iconst 1) (len := 1) (pc' := 112) mJ_89 (by decide +kernel) (ns_iconst (c := 1) (by decide +kernel)) rfl ?_
  refine nk_p (i := .iadd) (len := 1) (pc' := 113) mJ_89 (by decide +kernel) ns_iadd rfl ?_
  obtain ⟨r1, S2, h3, hr⟩ := nk_bde hr
  refine nk_callV (ci := 13) (n := 1) (x := 290) (len := 3) (j' := 246) (q' := 1) (r := r1) (S' := S2) (L2 := [(0, nk_r l0), (1, nk_i (nk_w (l3 + 1)))]) (rest := []) (st' := [nk_i r1]) (pc' := 116) mJ_89 (by decide +kernel) (by decide +kernel) rfl rfl t_l0 (Nat.le_of_ble_eq_true rfl) mJ_246 (Nat.le_of_ble_eq_true rfl) rfl (ja_X13_wrong_ok zs _ _ _ _ t_l0 h3) rfl ?_
  obtain ⟨h4, hr⟩ := nk_cke hr
  cases hr
  exact nk_iret (ty := .boolean) (len := 1) mJ_89 (by decide +kernel) rfl (nk_nar_z h4)
noncomputable def ja_X13_body_b100 (l0 : Nat) (l1 : Nat) (l2 : Int) (l3 : Int) (l4 : Int) (S : nk_S) : Option (Int × nk_S) :=
  if (S.1 l1 2) = 48 then
    ja_X13_body_b109 l0 l3 S
  else
    nk_lt (S.1 l1 2) fun v1 =>
    if l4 = 0 then
      ja_X13_body_b133 l0 l1 l2 l3 l4 v1 0 S
    else
      ja_X13_body_b133 l0 l1 l2 l3 l4 v1 1 S
theorem ja_X13_body_b100_ok (zs : List Int32) : ∀ (l0 : Nat) (l1 : Nat) (l2 : Int) (l3 : Int) (l4 : Int) (S : nk_S) (R : Int × nk_S), nk_cl ja_Tt l0 = some 13 → nk_cl ja_Tt l1 = some 12 → ja_X13_body_b100 l0 l1 l2 l3 l4 S = some R → nk_K ja_Tt mi_Γ (mi_ev zs) 1 89 100 [(0, nk_r l0), (1, nk_r l1), (2, nk_i l2), (3, nk_i l3), (4, nk_i l4)] [] S R := by
  intro l0 l1 l2 l3 l4 S R t_l0 t_l1 hr
  unfold ja_X13_body_b100 at hr
  refine nk_p (i := .aload_n 1) (len := 1) (pc' := 101) mJ_89 (by decide +kernel) (ns_aload_n 1 rfl rfl) rfl ?_
  refine nk_getI (y := (0, 0)) (x := 303) (len := 3) (ci := 12) (k := 2) (pc' := 104) ja_okT mJ_89 (by decide +kernel) (by decide +kernel) (by decide +kernel) t_l1 rfl ?_
  refine nk_p (i := .bipush 48) (len := 2) (pc' := 106) mJ_89 (by decide +kernel) (ns_bipush (c := 48) (by decide +kernel)) rfl ?_
  refine nk_icmp (c := .ne) (off := 11) (len := 3) (t := 117) (pc' := 109) mJ_89 (by decide +kernel) (by decide +kernel) rfl (fun hc => ?_) (fun hc => ?_)
  · have hr := nk_ifn (c := (S.1 l1 2) = 48) hc hr
    refine nk_p (i := .aload_n 1) (len := 1) (pc' := 118) mJ_89 (by decide +kernel) (ns_aload_n 1 rfl rfl) rfl ?_
    refine nk_getI (y := (0, 0)) (x := 303) (len := 3) (ci := 12) (k := 2) (pc' := 121) ja_okT mJ_89 (by decide +kernel) (by decide +kernel) (by decide +kernel) t_l1 rfl ?_
    obtain ⟨v1, h2, hr⟩ := nk_lte hr
    refine nk_p (i := .istore 7) (len := 2) (pc' := 123) mJ_89 (by decide +kernel) (ns_istore (L' := [(7, nk_i v1), (0, nk_r l0), (1, nk_r l1), (2, nk_i l2), (3, nk_i l3), (4, nk_i l4)]) h2 rfl (by decide +kernel)) rfl ?_
    refine nk_p (i := .iload 4) (len := 2) (pc' := 125) mJ_89 (by decide +kernel) (ns_iload 5 rfl) rfl ?_
    refine nk_icond (c := .eq) (off := 7) (len := 3) (t := 132) (pc' := 128) mJ_89 (by decide +kernel) (by decide +kernel) rfl (fun hc => ?_) (fun hc => ?_)
    · have hr := nk_ifp (c := l4 = 0) hc hr
      refine nk_p (i := .iconst 0) (len := 1) (pc' := 133) mJ_89 (by decide +kernel) (ns_iconst (c := 0) (by decide +kernel)) rfl ?_
      refine nk_sub [1, 2, 3, 4, 5, 0] (L' := [(0, nk_r l0), (1, nk_r l1), (2, nk_i l2), (3, nk_i l3), (4, nk_i l4), (7, nk_i v1)]) rfl ?_
      exact ja_X13_body_b133_ok zs _ _ _ _ _ _ _ _ _ t_l0 t_l1 hr
    · have hr := nk_ifn (c := l4 = 0) hc hr
      refine nk_p (i := .iconst 1) (len := 1) (pc' := 129) mJ_89 (by decide +kernel) (ns_iconst (c := 1) (by decide +kernel)) rfl ?_
      refine nk_p (i := .goto 4) (len := 3) (pc' := 133) mJ_89 (by decide +kernel) (ns_goto (by decide +kernel)) rfl ?_
      refine nk_sub [1, 2, 3, 4, 5, 0] (L' := [(0, nk_r l0), (1, nk_r l1), (2, nk_i l2), (3, nk_i l3), (4, nk_i l4), (7, nk_i v1)]) rfl ?_
      exact ja_X13_body_b133_ok zs _ _ _ _ _ _ _ _ _ t_l0 t_l1 hr
  · have hr := nk_ifp (c := (S.1 l1 2) = 48) (Decidable.of_not_not hc) hr
    refine nk_sub [0, 3] (L' := [(0, nk_r l0), (3, nk_i l3)]) rfl ?_
    exact ja_X13_body_b109_ok zs _ _ _ _ t_l0 hr
noncomputable def ja_X13_body_b88 (l0 : Nat) (l1 : Nat) (l2 : Int) (l3 : Int) (l4 : Int) (l5 : Int) (s0 : Int) (S : nk_S) : Option (Int × nk_S) :=
  if l5 < 0 then
    ja_X13_body_b100 l0 l1 l2 l3 l4 S
  else
    if s0 = 0 then
      ja_X13_body_b109 l0 l3 S
    else
      ja_X13_body_b100 l0 l1 l2 l3 l4 S
theorem ja_X13_body_b88_ok (zs : List Int32) : ∀ (l0 : Nat) (l1 : Nat) (l2 : Int) (l3 : Int) (l4 : Int) (l5 : Int) (s0 : Int) (S : nk_S) (R : Int × nk_S), nk_cl ja_Tt l0 = some 13 → nk_cl ja_Tt l1 = some 12 → ja_X13_body_b88 l0 l1 l2 l3 l4 l5 s0 S = some R → nk_K ja_Tt mi_Γ (mi_ev zs) 1 89 88 [(0, nk_r l0), (1, nk_r l1), (2, nk_i l2), (3, nk_i l3), (4, nk_i l4), (5, nk_i l5)] [nk_i s0] S R := by
  intro l0 l1 l2 l3 l4 l5 s0 S R t_l0 t_l1 hr
  unfold ja_X13_body_b88 at hr
  refine nk_p (i := .istore 6) (len := 2) (pc' := 90) mJ_89 (by decide +kernel) (ns_istore (L' := [(6, nk_i s0), (0, nk_r l0), (1, nk_r l1), (2, nk_i l2), (3, nk_i l3), (4, nk_i l4), (5, nk_i l5)]) rfl rfl (by decide +kernel)) rfl ?_
  refine nk_p (i := .iload 5) (len := 2) (pc' := 92) mJ_89 (by decide +kernel) (ns_iload 6 rfl) rfl ?_
  refine nk_icond (c := .lt) (off := 8) (len := 3) (t := 100) (pc' := 95) mJ_89 (by decide +kernel) (by decide +kernel) rfl (fun hc => ?_) (fun hc => ?_)
  · have hr := nk_ifp (c := l5 < 0) hc hr
    refine nk_sub [1, 2, 3, 4, 5] (L' := [(0, nk_r l0), (1, nk_r l1), (2, nk_i l2), (3, nk_i l3), (4, nk_i l4)]) rfl ?_
    exact ja_X13_body_b100_ok zs _ _ _ _ _ _ _ t_l0 t_l1 hr
  · have hr := nk_ifn (c := l5 < 0) hc hr
    refine nk_p (i := .iload 6) (len := 2) (pc' := 97) mJ_89 (by decide +kernel) (ns_iload 0 rfl) rfl ?_
    refine nk_icond (c := .eq) (off := 12) (len := 3) (t := 109) (pc' := 100) mJ_89 (by decide +kernel) (by decide +kernel) rfl (fun hc => ?_) (fun hc => ?_)
    · have hr := nk_ifp (c := s0 = 0) hc hr
      refine nk_sub [1, 4] (L' := [(0, nk_r l0), (3, nk_i l3)]) rfl ?_
      exact ja_X13_body_b109_ok zs _ _ _ _ t_l0 hr
    · have hr := nk_ifn (c := s0 = 0) hc hr
      refine nk_sub [1, 2, 3, 4, 5] (L' := [(0, nk_r l0), (1, nk_r l1), (2, nk_i l2), (3, nk_i l3), (4, nk_i l4)]) rfl ?_
      exact ja_X13_body_b100_ok zs _ _ _ _ _ _ _ t_l0 t_l1 hr
noncomputable def ja_X13_body_b87 (l0 : Nat) (l1 : Nat) (l2 : Int) (l3 : Int) (l4 : Int) (l5 : Int) (S : nk_S) : Option (Int × nk_S) :=
  ja_X13_body_b88 l0 l1 l2 l3 l4 l5 0 S
theorem ja_X13_body_b87_ok (zs : List Int32) : ∀ (l0 : Nat) (l1 : Nat) (l2 : Int) (l3 : Int) (l4 : Int) (l5 : Int) (S : nk_S) (R : Int × nk_S), nk_cl ja_Tt l0 = some 13 → nk_cl ja_Tt l1 = some 12 → ja_X13_body_b87 l0 l1 l2 l3 l4 l5 S = some R → nk_K ja_Tt mi_Γ (mi_ev zs) 1 89 87 [(0, nk_r l0), (1, nk_r l1), (2, nk_i l2), (3, nk_i l3), (4, nk_i l4), (5, nk_i l5)] [] S R := by
  intro l0 l1 l2 l3 l4 l5 S R t_l0 t_l1 hr
  unfold ja_X13_body_b87 at hr
  refine nk_p (i := .iconst 0) (len := 1) (pc' := 88) mJ_89 (by decide +kernel) (ns_iconst (c := 0) (by decide +kernel)) rfl ?_
  exact ja_X13_body_b88_ok zs _ _ _ _ _ _ _ _ _ t_l0 t_l1 hr
noncomputable def ja_X13_body (l0 : Nat) (l1 : Nat) (l2 : Int) (l3 : Int) (S : nk_S) : Option (Int × nk_S) :=
  nk_bd (ja_X13_is l0 l3 19 S) fun r1 S2 =>
  if 0 ≤ (nk_w (l3 + 1)) ∧ (nk_w (l3 + 1)) < 16002 then
  nk_bd (ja_X13_bodyOf l0 l1 l2 (S2.1 (ja_c l0 8) (nk_w (l3 + 1)).toNat) (S2.1 (ja_c l0 9) (nk_w (l3 + 1)).toNat) S2) fun r7 S8 =>
  if r7 < 0 then
    ja_X13_body_b87 l0 l1 l2 l3 r1 r7 S8
  else
    if 0 ≤ r7 ∧ r7 < 48 then
    if (S8.1 (ja_c l1 13) r7.toNat) = l2 then
      ja_X13_body_b87 l0 l1 l2 l3 r1 r7 S8
    else
      if r1 = 0 then
        ja_X13_body_b87 l0 l1 l2 l3 r1 r7 S8
      else
        if (S8.1 (ja_c l1 14) r7.toNat) = 0 then
          ja_X13_body_b87 l0 l1 l2 l3 r1 r7 S8
        else
          nk_bd (ja_X13_isSameRow l0 (nk_w (l3 + 2)) (nk_w ((S8.1 (ja_c l0 15) r7.toNat) + 1)) S8) fun r14 S15 =>
          if r14 = 0 then
            ja_X13_body_b87 l0 l1 l2 l3 r1 r7 S15
          else
            ja_X13_body_b88 l0 l1 l2 l3 r1 r7 1 S15
    else none
  else none
theorem ja_X13_body_ok (zs : List Int32) : ∀ (l0 : Nat) (l1 : Nat) (l2 : Int) (l3 : Int) (S : nk_S) (R : Int × nk_S), nk_cl ja_Tt l0 = some 13 → nk_cl ja_Tt l1 = some 12 → ja_X13_body l0 l1 l2 l3 S = some R → nk_K ja_Tt mi_Γ (mi_ev zs) 1 89 0 [(0, nk_r l0), (1, nk_r l1), (2, nk_i l2), (3, nk_i l3)] [] S R := by
  intro l0 l1 l2 l3 S R t_l0 t_l1 hr
  unfold ja_X13_body at hr
  refine nk_p (i := .aload_n 0) (len := 1) (pc' := 1) mJ_89 (by decide +kernel) (ns_aload_n 0 rfl rfl) rfl ?_
  refine nk_p (i := .iload_n 3) (len := 1) (pc' := 2) mJ_89 (by decide +kernel) (ns_iload_n 3 rfl rfl) rfl ?_
  refine nk_ldct (x := 230) (len := 2) (k := 19) (s := "method") (pc' := 4) mJ_89 (by decide +kernel) (by decide +kernel) (by decide +kernel) rfl ?_
  obtain ⟨r1, S2, h3, hr⟩ := nk_bde hr
  refine nk_callV (ci := 13) (n := 2) (x := 199) (len := 3) (j' := 138) (q' := 1) (r := r1) (S' := S2) (L2 := [(0, nk_r l0), (1, nk_i l3), (2, nk_o 19)]) (rest := []) (st' := [nk_i r1]) (pc' := 7) mJ_89 (by decide +kernel) (by decide +kernel) rfl rfl t_l0 (Nat.le_of_ble_eq_true rfl) mJ_138 (Nat.le_of_ble_eq_true rfl) rfl (ja_X13_is_ok zs _ _ _ _ _ t_l0 (ja_tx19 zs) h3) rfl ?_
  refine nk_p (i := .istore 4) (len := 2) (pc' := 9) mJ_89 (by decide +kernel) (ns_istore (L' := [(4, nk_i r1), (0, nk_r l0), (1, nk_r l1), (2, nk_i l2), (3, nk_i l3)]) rfl rfl (by decide +kernel)) rfl ?_
  refine nk_p (i := .aload_n 0) (len := 1) (pc' := 10) mJ_89 (by decide +kernel) (ns_aload_n 1 rfl rfl) rfl ?_
  refine nk_p (i := .aload_n 1) (len := 1) (pc' := 11) mJ_89 (by decide +kernel) (ns_aload_n 2 rfl rfl) rfl ?_
  refine nk_p (i := .iload_n 2) (len := 1) (pc' := 12) mJ_89 (by decide +kernel) (ns_iload_n 3 rfl rfl) rfl ?_
  refine nk_p (i := .aload_n 0) (len := 1) (pc' := 13) mJ_89 (by decide +kernel) (ns_aload_n 1 rfl rfl) rfl ?_
  refine nk_getC (f := (4, 1, 16002)) (x := 26) (len := 3) (ci := 13) (k := 8) (pc' := 16) ja_okT mJ_89 (by decide +kernel) (by decide +kernel) (by decide +kernel) (by decide) t_l0 rfl ?_
  have t4 : nk_ar ja_Tt (ja_c l0 8) = some (1, 16002) := nk_ta ja_okT t_l0 (by decide +kernel)
  refine nk_p (i := .iload_n 3) (len := 1) (pc' := 17) mJ_89 (by decide +kernel) (ns_iload_n 4 rfl rfl) rfl ?_
  refine nk_p (i := .iconst 1) (len := 1) (pc' := 18) mJ_89 (by decide +kernel) (ns_iconst (c := 1) (by decide +kernel)) rfl ?_
  refine nk_p (i := .iadd) (len := 1) (pc' := 19) mJ_89 (by decide +kernel) ns_iadd rfl ?_
  obtain ⟨h5, hr⟩ := nk_cke hr
  refine nk_iald (len := 1) (N := 16002) (pc' := 20) mJ_89 (by decide +kernel) t4 h5.1 h5.2 rfl rfl ?_
  refine nk_p (i := .aload_n 0) (len := 1) (pc' := 21) mJ_89 (by decide +kernel) (ns_aload_n 1 rfl rfl) rfl ?_
  refine nk_getC (f := (4, 1, 16002)) (x := 30) (len := 3) (ci := 13) (k := 9) (pc' := 24) ja_okT mJ_89 (by decide +kernel) (by decide +kernel) (by decide +kernel) (by decide) t_l0 rfl ?_
  have t6 : nk_ar ja_Tt (ja_c l0 9) = some (1, 16002) := nk_ta ja_okT t_l0 (by decide +kernel)
  refine nk_p (i := .iload_n 3) (len := 1) (pc' := 25) mJ_89 (by decide +kernel) (ns_iload_n 4 rfl rfl) rfl ?_
  refine nk_p (i := .iconst 1) (len := 1) (pc' := 26) mJ_89 (by decide +kernel) (ns_iconst (c := 1) (by decide +kernel)) rfl ?_
  refine nk_p (i := .iadd) (len := 1) (pc' := 27) mJ_89 (by decide +kernel) ns_iadd rfl ?_
  refine nk_iald (len := 1) (N := 16002) (pc' := 28) mJ_89 (by decide +kernel) t6 h5.1 h5.2 rfl rfl ?_
  obtain ⟨r7, S8, h9, hr⟩ := nk_bde hr
  refine nk_callV (ci := 13) (n := 4) (x := 331) (len := 3) (j' := 90) (q' := 1) (r := r7) (S' := S8) (L2 := [(0, nk_r l0), (1, nk_r l1), (2, nk_i l2), (3, nk_i (S2.1 (ja_c l0 8) (nk_w (l3 + 1)).toNat)), (4, nk_i (S2.1 (ja_c l0 9) (nk_w (l3 + 1)).toNat))]) (rest := []) (st' := [nk_i r7]) (pc' := 31) mJ_89 (by decide +kernel) (by decide +kernel) rfl rfl t_l0 (Nat.le_of_ble_eq_true rfl) mJ_90 (Nat.le_of_ble_eq_true rfl) rfl (ja_X13_bodyOf_ok zs _ _ _ _ _ _ _ t_l0 t_l1 h9) rfl ?_
  refine nk_p (i := .istore 5) (len := 2) (pc' := 33) mJ_89 (by decide +kernel) (ns_istore (L' := [(5, nk_i r7), (4, nk_i r1), (0, nk_r l0), (1, nk_r l1), (2, nk_i l2), (3, nk_i l3)]) rfl rfl (by decide +kernel)) rfl ?_
  refine nk_p (i := .iload 5) (len := 2) (pc' := 35) mJ_89 (by decide +kernel) (ns_iload 0 rfl) rfl ?_
  refine nk_icond (c := .lt) (off := 52) (len := 3) (t := 87) (pc' := 38) mJ_89 (by decide +kernel) (by decide +kernel) rfl (fun hc => ?_) (fun hc => ?_)
  · have hr := nk_ifp (c := r7 < 0) hc hr
    refine nk_sub [2, 3, 4, 5, 1, 0] (L' := [(0, nk_r l0), (1, nk_r l1), (2, nk_i l2), (3, nk_i l3), (4, nk_i r1), (5, nk_i r7)]) rfl ?_
    exact ja_X13_body_b87_ok zs _ _ _ _ _ _ _ _ t_l0 t_l1 hr
  · have hr := nk_ifn (c := r7 < 0) hc hr
    refine nk_p (i := .aload_n 1) (len := 1) (pc' := 39) mJ_89 (by decide +kernel) (ns_aload_n 3 rfl rfl) rfl ?_
    refine nk_getC (f := (4, 1, 48)) (x := 306) (len := 3) (ci := 12) (k := 13) (pc' := 42) ja_okT mJ_89 (by decide +kernel) (by decide +kernel) (by decide +kernel) (by decide) t_l1 rfl ?_
    have t10 : nk_ar ja_Tt (ja_c l1 13) = some (1, 48) := nk_ta ja_okT t_l1 (by decide +kernel)
    refine nk_p (i := .iload 5) (len := 2) (pc' := 44) mJ_89 (by decide +kernel) (ns_iload 0 rfl) rfl ?_
    obtain ⟨h11, hr⟩ := nk_cke hr
    refine nk_iald (len := 1) (N := 48) (pc' := 45) mJ_89 (by decide +kernel) t10 h11.1 h11.2 rfl rfl ?_
    refine nk_p (i := .iload_n 2) (len := 1) (pc' := 46) mJ_89 (by decide +kernel) (ns_iload_n 4 rfl rfl) rfl ?_
    refine nk_icmp (c := .eq) (off := 41) (len := 3) (t := 87) (pc' := 49) mJ_89 (by decide +kernel) (by decide +kernel) rfl (fun hc => ?_) (fun hc => ?_)
    · have hr := nk_ifp (c := (S8.1 (ja_c l1 13) r7.toNat) = l2) hc hr
      refine nk_sub [2, 3, 4, 5, 1, 0] (L' := [(0, nk_r l0), (1, nk_r l1), (2, nk_i l2), (3, nk_i l3), (4, nk_i r1), (5, nk_i r7)]) rfl ?_
      exact ja_X13_body_b87_ok zs _ _ _ _ _ _ _ _ t_l0 t_l1 hr
    · have hr := nk_ifn (c := (S8.1 (ja_c l1 13) r7.toNat) = l2) hc hr
      refine nk_p (i := .iload 4) (len := 2) (pc' := 51) mJ_89 (by decide +kernel) (ns_iload 1 rfl) rfl ?_
      refine nk_icond (c := .eq) (off := 36) (len := 3) (t := 87) (pc' := 54) mJ_89 (by decide +kernel) (by decide +kernel) rfl (fun hc => ?_) (fun hc => ?_)
      · have hr := nk_ifp (c := r1 = 0) hc hr
        refine nk_sub [2, 3, 4, 5, 1, 0] (L' := [(0, nk_r l0), (1, nk_r l1), (2, nk_i l2), (3, nk_i l3), (4, nk_i r1), (5, nk_i r7)]) rfl ?_
        exact ja_X13_body_b87_ok zs _ _ _ _ _ _ _ _ t_l0 t_l1 hr
      · have hr := nk_ifn (c := r1 = 0) hc hr
        refine nk_p (i := .aload_n 1) (len := 1) (pc' := 55) mJ_89 (by decide +kernel) (ns_aload_n 3 rfl rfl) rfl ?_
        refine nk_getC (f := (4, 3, 48)) (x := 334) (len := 3) (ci := 12) (k := 14) (pc' := 58) ja_okT mJ_89 (by decide +kernel) (by decide +kernel) (by decide +kernel) (by decide) t_l1 rfl ?_
        have t12 : nk_ar ja_Tt (ja_c l1 14) = some (3, 48) := nk_ta ja_okT t_l1 (by decide +kernel)
        refine nk_p (i := .iload 5) (len := 2) (pc' := 60) mJ_89 (by decide +kernel) (ns_iload 0 rfl) rfl ?_
        refine nk_bald (t := 3) (len := 1) (N := 48) (pc' := 61) mJ_89 (by decide +kernel) t12 (by decide) h11.1 h11.2 rfl rfl ?_
        refine nk_icond (c := .eq) (off := 26) (len := 3) (t := 87) (pc' := 64) mJ_89 (by decide +kernel) (by decide +kernel) rfl (fun hc => ?_) (fun hc => ?_)
        · have hr := nk_ifp (c := (S8.1 (ja_c l1 14) r7.toNat) = 0) hc hr
          refine nk_sub [2, 3, 4, 5, 1, 0] (L' := [(0, nk_r l0), (1, nk_r l1), (2, nk_i l2), (3, nk_i l3), (4, nk_i r1), (5, nk_i r7)]) rfl ?_
          exact ja_X13_body_b87_ok zs _ _ _ _ _ _ _ _ t_l0 t_l1 hr
        · have hr := nk_ifn (c := (S8.1 (ja_c l1 14) r7.toNat) = 0) hc hr
          refine nk_p (i := .aload_n 0) (len := 1) (pc' := 65) mJ_89 (by decide +kernel) (ns_aload_n 2 rfl rfl) rfl ?_
          refine nk_p (i := .iload_n 3) (len := 1) (pc' := 66) mJ_89 (by decide +kernel) (ns_iload_n 5 rfl rfl) rfl ?_
          refine nk_p (i := .iconst 2) (len := 1) (pc' := 67) mJ_89 (by decide +kernel) (ns_iconst (c := 2) (by decide +kernel)) rfl ?_
          refine nk_p (i := .iadd) (len := 1) (pc' := 68) mJ_89 (by decide +kernel) ns_iadd rfl ?_
          refine nk_p (i := .aload_n 0) (len := 1) (pc' := 69) mJ_89 (by decide +kernel) (ns_aload_n 2 rfl rfl) rfl ?_
          refine nk_getC (f := (4, 1, 48)) (x := 43) (len := 3) (ci := 13) (k := 15) (pc' := 72) ja_okT mJ_89 (by decide +kernel) (by decide +kernel) (by decide +kernel) (by decide) t_l0 rfl ?_
          have t13 : nk_ar ja_Tt (ja_c l0 15) = some (1, 48) := nk_ta ja_okT t_l0 (by decide +kernel)
          refine nk_p (i := .iload 5) (len := 2) (pc' := 74) mJ_89 (by decide +kernel) (ns_iload 0 rfl) rfl ?_
          refine nk_iald (len := 1) (N := 48) (pc' := 75) mJ_89 (by decide +kernel) t13 h11.1 h11.2 rfl rfl ?_
          refine nk_p (i := .iconst 1) (len := 1) (pc' := 76) mJ_89 (by decide +kernel) (ns_iconst (c := 1) (by decide +kernel)) rfl ?_
          refine nk_p (i := .iadd) (len := 1) (pc' := 77) mJ_89 (by decide +kernel) ns_iadd rfl ?_
          obtain ⟨r14, S15, h16, hr⟩ := nk_bde hr
          refine nk_callV (ci := 13) (n := 2) (x := 337) (len := 3) (j' := 160) (q' := 1) (r := r14) (S' := S15) (L2 := [(0, nk_r l0), (1, nk_i (nk_w (l3 + 2))), (2, nk_i (nk_w ((S8.1 (ja_c l0 15) r7.toNat) + 1)))]) (rest := []) (st' := [nk_i r14]) (pc' := 80) mJ_89 (by decide +kernel) (by decide +kernel) rfl rfl t_l0 (Nat.le_of_ble_eq_true rfl) mJ_160 (Nat.le_of_ble_eq_true rfl) rfl (ja_X13_isSameRow_ok zs _ _ _ _ _ t_l0 h16) rfl ?_
          refine nk_icond (c := .eq) (off := 7) (len := 3) (t := 87) (pc' := 83) mJ_89 (by decide +kernel) (by decide +kernel) rfl (fun hc => ?_) (fun hc => ?_)
          · have hr := nk_ifp (c := r14 = 0) hc hr
            refine nk_sub [2, 3, 4, 5, 1, 0] (L' := [(0, nk_r l0), (1, nk_r l1), (2, nk_i l2), (3, nk_i l3), (4, nk_i r1), (5, nk_i r7)]) rfl ?_
            exact ja_X13_body_b87_ok zs _ _ _ _ _ _ _ _ t_l0 t_l1 hr
          · have hr := nk_ifn (c := r14 = 0) hc hr
            refine nk_p (i := .iconst 1) (len := 1) (pc' := 84) mJ_89 (by decide +kernel) (ns_iconst (c := 1) (by decide +kernel)) rfl ?_
            refine nk_p (i := .goto 4) (len := 3) (pc' := 88) mJ_89 (by decide +kernel) (ns_goto (by decide +kernel)) rfl ?_
            refine nk_sub [2, 3, 4, 5, 1, 0] (L' := [(0, nk_r l0), (1, nk_r l1), (2, nk_i l2), (3, nk_i l3), (4, nk_i r1), (5, nk_i r7)]) rfl ?_
            exact ja_X13_body_b88_ok zs _ _ _ _ _ _ _ _ _ t_l0 t_l1 hr
/-! SafeCodeModel pop ()J -/
noncomputable def ja_X13_pop (l0 : Nat) (S : nk_S) : Option (Int × nk_S) :=
  if 0 ≤ (nk_w ((S.1 l0 52) - 1)) ∧ (nk_w ((S.1 l0 52) - 1)) < 64 then
  nk_lt (nk_wi S (ja_c l0 43) (nk_w ((S.1 l0 52) - 1)).toNat (nk_w ((S.1 (ja_c l0 43) (nk_w ((S.1 l0 52) - 1)).toNat) - 1))) fun S3 =>
  if 0 ≤ (nk_w ((S3.1 l0 52) - 1)) ∧ (nk_w ((S3.1 l0 52) - 1)) < 64 then
  if 0 ≤ (nk_w ((nk_w ((nk_w ((S3.1 l0 52) - 1)) * 8)) + (S3.1 (ja_c l0 43) (nk_w ((S3.1 l0 52) - 1)).toNat))) ∧ (nk_w ((nk_w ((nk_w ((S3.1 l0 52) - 1)) * 8)) + (S3.1 (ja_c l0 43) (nk_w ((S3.1 l0 52) - 1)).toNat))) < 512 then
  some ((S3.1 (ja_c l0 42) (nk_w ((nk_w ((nk_w ((S3.1 l0 52) - 1)) * 8)) + (S3.1 (ja_c l0 43) (nk_w ((S3.1 l0 52) - 1)).toNat))).toNat), S3)
  else none
  else none
  else none
theorem ja_X13_pop_ok (zs : List Int32) : ∀ (l0 : Nat) (S : nk_S) (R : Int × nk_S), nk_cl ja_Tt l0 = some 13 → ja_X13_pop l0 S = some R → nk_K ja_Tt mi_Γ (mi_ev zs) 2 208 0 [(0, nk_r l0)] [] S R := by
  intro l0 S R t_l0 hr
  unfold ja_X13_pop at hr
  refine nk_p (i := .aload_n 0) (len := 1) (pc' := 1) mJ_208 (by decide +kernel) (ns_aload_n 0 rfl rfl) rfl ?_
  refine nk_getC (f := (4, 1, 64)) (x := 108) (len := 3) (ci := 13) (k := 43) (pc' := 4) ja_okT mJ_208 (by decide +kernel) (by decide +kernel) (by decide +kernel) (by decide) t_l0 rfl ?_
  have t1 : nk_ar ja_Tt (ja_c l0 43) = some (1, 64) := nk_ta ja_okT t_l0 (by decide +kernel)
  refine nk_p (i := .aload_n 0) (len := 1) (pc' := 5) mJ_208 (by decide +kernel) (ns_aload_n 0 rfl rfl) rfl ?_
  refine nk_getI (y := (0, 0)) (x := 823) (len := 3) (ci := 13) (k := 52) (pc' := 8) ja_okT mJ_208 (by decide +kernel) (by decide +kernel) (by decide +kernel) t_l0 rfl ?_
  refine nk_p (i := .iconst 1) (len := 1) (pc' := 9) mJ_208 (by decide +kernel) (ns_iconst (c := 1) (by decide +kernel)) rfl ?_
  refine nk_p (i := .isub) (len := 1) (pc' := 10) mJ_208 (by decide +kernel) ns_isub rfl ?_
  refine nk_p (i := .dup2) (len := 1) (pc' := 11) mJ_208 (by decide +kernel) (ns_dup2 rfl rfl) rfl ?_
  obtain ⟨h2, hr⟩ := nk_cke hr
  refine nk_iald (len := 1) (N := 64) (pc' := 12) mJ_208 (by decide +kernel) t1 h2.1 h2.2 rfl rfl ?_
  refine nk_p (i := .iconst 1) (len := 1) (pc' := 13) mJ_208 (by decide +kernel) (ns_iconst (c := 1) (by decide +kernel)) rfl ?_
  refine nk_p (i := .isub) (len := 1) (pc' := 14) mJ_208 (by decide +kernel) ns_isub rfl ?_
  obtain ⟨S3, h4, hr⟩ := nk_lte hr
  refine nk_iast (len := 1) (N := 64) (pc' := 15) mJ_208 (by decide +kernel) t1 h2.1 h2.2 rfl rfl h4 ?_
  refine nk_p (i := .aload_n 0) (len := 1) (pc' := 16) mJ_208 (by decide +kernel) (ns_aload_n 0 rfl rfl) rfl ?_
  refine nk_getC (f := (4, 2, 512)) (x := 105) (len := 3) (ci := 13) (k := 42) (pc' := 19) ja_okT mJ_208 (by decide +kernel) (by decide +kernel) (by decide +kernel) (by decide) t_l0 rfl ?_
  have t5 : nk_ar ja_Tt (ja_c l0 42) = some (2, 512) := nk_ta ja_okT t_l0 (by decide +kernel)
  refine nk_p (i := .aload_n 0) (len := 1) (pc' := 20) mJ_208 (by decide +kernel) (ns_aload_n 0 rfl rfl) rfl ?_
  refine nk_getI (y := (0, 0)) (x := 823) (len := 3) (ci := 13) (k := 52) (pc' := 23) ja_okT mJ_208 (by decide +kernel) (by decide +kernel) (by decide +kernel) t_l0 rfl ?_
  refine nk_p (i := .iconst 1) (len := 1) (pc' := 24) mJ_208 (by decide +kernel) (ns_iconst (c := 1) (by decide +kernel)) rfl ?_
  refine nk_p (i := .isub) (len := 1) (pc' := 25) mJ_208 (by decide +kernel) ns_isub rfl ?_
  refine nk_p (i := .bipush 8) (len := 2) (pc' := 27) mJ_208 (by decide +kernel) (ns_bipush (c := 8) (by decide +kernel)) rfl ?_
  refine nk_p (i := .imul) (len := 1) (pc' := 28) mJ_208 (by decide +kernel) ns_imul rfl ?_
  refine nk_p (i := .aload_n 0) (len := 1) (pc' := 29) mJ_208 (by decide +kernel) (ns_aload_n 0 rfl rfl) rfl ?_
  refine nk_getC (f := (4, 1, 64)) (x := 108) (len := 3) (ci := 13) (k := 43) (pc' := 32) ja_okT mJ_208 (by decide +kernel) (by decide +kernel) (by decide +kernel) (by decide) t_l0 rfl ?_
  refine nk_p (i := .aload_n 0) (len := 1) (pc' := 33) mJ_208 (by decide +kernel) (ns_aload_n 0 rfl rfl) rfl ?_
  refine nk_getI (y := (0, 0)) (x := 823) (len := 3) (ci := 13) (k := 52) (pc' := 36) ja_okT mJ_208 (by decide +kernel) (by decide +kernel) (by decide +kernel) t_l0 rfl ?_
  refine nk_p (i := .iconst 1) (len := 1) (pc' := 37) mJ_208 (by decide +kernel) (ns_iconst (c := 1) (by decide +kernel)) rfl ?_
  refine nk_p (i := .isub) (len := 1) (pc' := 38) mJ_208 (by decide +kernel) ns_isub rfl ?_
  obtain ⟨h6, hr⟩ := nk_cke hr
  refine nk_iald (len := 1) (N := 64) (pc' := 39) mJ_208 (by decide +kernel) t1 h6.1 h6.2 rfl rfl ?_
  refine nk_p (i := .iadd) (len := 1) (pc' := 40) mJ_208 (by decide +kernel) ns_iadd rfl ?_
  obtain ⟨h7, hr⟩ := nk_cke hr
  refine nk_lald (len := 1) (N := 512) (pc' := 41) mJ_208 (by decide +kernel) t5 h7.1 h7.2 rfl rfl ?_
  cases hr
  exact nk_lret (len := 1) mJ_208 (by decide +kernel) rfl
/-! SafeCodeModel next ()V -/
noncomputable def ja_X13_next (l0 : Nat) (S : nk_S) : Option (Int × nk_S) :=
  if 0 ≤ (nk_w ((S.1 l0 52) - 1)) ∧ (nk_w ((S.1 l0 52) - 1)) < 64 then
  nk_lt (nk_wi S (ja_c l0 44) (nk_w ((S.1 l0 52) - 1)).toNat (nk_w ((S.1 (ja_c l0 44) (nk_w ((S.1 l0 52) - 1)).toNat) + 1))) fun S3 =>
  some (0, S3)
  else none
theorem ja_X13_next_ok (zs : List Int32) : ∀ (l0 : Nat) (S : nk_S) (R : Int × nk_S), nk_cl ja_Tt l0 = some 13 → ja_X13_next l0 S = some R → nk_K ja_Tt mi_Γ (mi_ev zs) 0 194 0 [(0, nk_r l0)] [] S R := by
  intro l0 S R t_l0 hr
  unfold ja_X13_next at hr
  refine nk_p (i := .aload_n 0) (len := 1) (pc' := 1) mJ_194 (by decide +kernel) (ns_aload_n 0 rfl rfl) rfl ?_
  refine nk_getC (f := (4, 1, 64)) (x := 111) (len := 3) (ci := 13) (k := 44) (pc' := 4) ja_okT mJ_194 (by decide +kernel) (by decide +kernel) (by decide +kernel) (by decide) t_l0 rfl ?_
  have t1 : nk_ar ja_Tt (ja_c l0 44) = some (1, 64) := nk_ta ja_okT t_l0 (by decide +kernel)
  refine nk_p (i := .aload_n 0) (len := 1) (pc' := 5) mJ_194 (by decide +kernel) (ns_aload_n 0 rfl rfl) rfl ?_
  refine nk_getI (y := (0, 0)) (x := 823) (len := 3) (ci := 13) (k := 52) (pc' := 8) ja_okT mJ_194 (by decide +kernel) (by decide +kernel) (by decide +kernel) t_l0 rfl ?_
  refine nk_p (i := .iconst 1) (len := 1) (pc' := 9) mJ_194 (by decide +kernel) (ns_iconst (c := 1) (by decide +kernel)) rfl ?_
  refine nk_p (i := .isub) (len := 1) (pc' := 10) mJ_194 (by decide +kernel) ns_isub rfl ?_
  refine nk_p (i := .dup2) (len := 1) (pc' := 11) mJ_194 (by decide +kernel) (ns_dup2 rfl rfl) rfl ?_
  obtain ⟨h2, hr⟩ := nk_cke hr
  refine nk_iald (len := 1) (N := 64) (pc' := 12) mJ_194 (by decide +kernel) t1 h2.1 h2.2 rfl rfl ?_
  refine nk_p (i := .iconst 1) (len := 1) (pc' := 13) mJ_194 (by decide +kernel) (ns_iconst (c := 1) (by decide +kernel)) rfl ?_
  refine nk_p (i := .iadd) (len := 1) (pc' := 14) mJ_194 (by decide +kernel) ns_iadd rfl ?_
  obtain ⟨S3, h4, hr⟩ := nk_lte hr
  refine nk_iast (len := 1) (N := 64) (pc' := 15) mJ_194 (by decide +kernel) t1 h2.1 h2.2 rfl rfl h4 ?_
  cases hr
  exact nk_vret (len := 1) mJ_194 (by decide +kernel) rfl
/-! SafeCodeModel branch (II)V -/
noncomputable def ja_X13_branch_b191 (l0 : Nat) (l2 : Int) (l5 : Int) (S : nk_S) : Option (Int × nk_S) :=
  if l5 = 0 then
    nk_bd (ja_X13_next l0 S) fun r1 S2 =>
    some (0, S2)
  else
    if 0 ≤ (nk_w ((S.1 l0 52) - 1)) ∧ (nk_w ((S.1 l0 52) - 1)) < 64 then
    nk_lt (nk_wi S (ja_c l0 44) (nk_w ((S.1 l0 52) - 1)).toNat l2) fun S6 =>
    some (0, S6)
    else none
theorem ja_X13_branch_b191_ok (zs : List Int32) : ∀ (l0 : Nat) (l2 : Int) (l5 : Int) (S : nk_S) (R : Int × nk_S), nk_cl ja_Tt l0 = some 13 → ja_X13_branch_b191 l0 l2 l5 S = some R → nk_K ja_Tt mi_Γ (mi_ev zs) 0 91 191 [(0, nk_r l0), (2, nk_i l2), (5, nk_i l5)] [] S R := by
  intro l0 l2 l5 S R t_l0 hr
  unfold ja_X13_branch_b191 at hr
  refine nk_p (i := .iload 5) (len := 2) (pc' := 193) mJ_91 (by decide +kernel) (ns_iload 2 rfl) rfl ?_
  refine nk_icond (c := .eq) (off := 18) (len := 3) (t := 211) (pc' := 196) mJ_91 (by decide +kernel) (by decide +kernel) rfl (fun hc => ?_) (fun hc => ?_)
  · have hr := nk_ifp (c := l5 = 0) hc hr
    refine nk_p (i := .aload_n 0) (len := 1) (pc' := 212) mJ_91 (by decide +kernel) (ns_aload_n 0 rfl rfl) rfl ?_
    obtain ⟨r1, S2, h3, hr⟩ := nk_bde hr
    refine nk_callV (ci := 13) (n := 0) (x := 899) (len := 3) (j' := 194) (q' := 0) (r := r1) (S' := S2) (L2 := [(0, nk_r l0)]) (rest := []) (st' := []) (pc' := 215) mJ_91 (by decide +kernel) (by decide +kernel) rfl rfl t_l0 (Nat.le_of_ble_eq_true rfl) mJ_194 (Nat.le_of_ble_eq_true rfl) rfl (ja_X13_next_ok zs _ _ _ t_l0 h3) rfl ?_
    cases hr
    exact nk_vret (len := 1) mJ_91 (by decide +kernel) rfl
  · have hr := nk_ifn (c := l5 = 0) hc hr
    refine nk_p (i := .aload_n 0) (len := 1) (pc' := 197) mJ_91 (by decide +kernel) (ns_aload_n 0 rfl rfl) rfl ?_
    refine nk_getC (f := (4, 1, 64)) (x := 111) (len := 3) (ci := 13) (k := 44) (pc' := 200) ja_okT mJ_91 (by decide +kernel) (by decide +kernel) (by decide +kernel) (by decide) t_l0 rfl ?_
    have t4 : nk_ar ja_Tt (ja_c l0 44) = some (1, 64) := nk_ta ja_okT t_l0 (by decide +kernel)
    refine nk_p (i := .aload_n 0) (len := 1) (pc' := 201) mJ_91 (by decide +kernel) (ns_aload_n 0 rfl rfl) rfl ?_
    refine nk_getI (y := (0, 0)) (x := 823) (len := 3) (ci := 13) (k := 52) (pc' := 204) ja_okT mJ_91 (by decide +kernel) (by decide +kernel) (by decide +kernel) t_l0 rfl ?_
    refine nk_p (i := .iconst 1) (len := 1) (pc' := 205) mJ_91 (by decide +kernel) (ns_iconst (c := 1) (by decide +kernel)) rfl ?_
    refine nk_p (i := .isub) (len := 1) (pc' := 206) mJ_91 (by decide +kernel) ns_isub rfl ?_
    refine nk_p (i := .iload_n 2) (len := 1) (pc' := 207) mJ_91 (by decide +kernel) (ns_iload_n 1 rfl rfl) rfl ?_
    obtain ⟨h5, hr⟩ := nk_cke hr
    obtain ⟨S6, h7, hr⟩ := nk_lte hr
    refine nk_iast (len := 1) (N := 64) (pc' := 208) mJ_91 (by decide +kernel) t4 h5.1 h5.2 rfl rfl h7 ?_
    refine nk_p (i := .goto 7) (len := 3) (pc' := 215) mJ_91 (by decide +kernel) (ns_goto (by decide +kernel)) rfl ?_
    cases hr
    exact nk_vret (len := 1) mJ_91 (by decide +kernel) rfl
noncomputable def ja_X13_branch_b49 (l0 : Nat) (l2 : Int) (s0 : Int) (S : nk_S) : Option (Int × nk_S) :=
  ja_X13_branch_b191 l0 l2 s0 S
theorem ja_X13_branch_b49_ok (zs : List Int32) : ∀ (l0 : Nat) (l2 : Int) (s0 : Int) (S : nk_S) (R : Int × nk_S), nk_cl ja_Tt l0 = some 13 → ja_X13_branch_b49 l0 l2 s0 S = some R → nk_K ja_Tt mi_Γ (mi_ev zs) 0 91 49 [(0, nk_r l0), (2, nk_i l2)] [nk_i s0] S R := by
  intro l0 l2 s0 S R t_l0 hr
  unfold ja_X13_branch_b49 at hr
  refine nk_p (i := .istore 5) (len := 2) (pc' := 51) mJ_91 (by decide +kernel) (ns_istore (L' := [(5, nk_i s0), (0, nk_r l0), (2, nk_i l2)]) rfl rfl (by decide +kernel)) rfl ?_
  refine nk_p (i := .goto 140) (len := 3) (pc' := 191) mJ_91 (by decide +kernel) (ns_goto (by decide +kernel)) rfl ?_
  refine nk_sub [1, 2, 0] (L' := [(0, nk_r l0), (2, nk_i l2), (5, nk_i s0)]) rfl ?_
  exact ja_X13_branch_b191_ok zs _ _ _ _ _ t_l0 hr
noncomputable def ja_X13_branch_b41 (l0 : Nat) (l2 : Int) (s0 : Int) (s1 : Int) (S : nk_S) : Option (Int × nk_S) :=
  if s0 = s1 then
    ja_X13_branch_b49 l0 l2 1 S
  else
    ja_X13_branch_b49 l0 l2 0 S
theorem ja_X13_branch_b41_ok (zs : List Int32) : ∀ (l0 : Nat) (l2 : Int) (s0 : Int) (s1 : Int) (S : nk_S) (R : Int × nk_S), nk_cl ja_Tt l0 = some 13 → ja_X13_branch_b41 l0 l2 s0 s1 S = some R → nk_K ja_Tt mi_Γ (mi_ev zs) 0 91 41 [(0, nk_r l0), (2, nk_i l2)] [nk_i s1, nk_i s0] S R := by
  intro l0 l2 s0 s1 S R t_l0 hr
  unfold ja_X13_branch_b41 at hr
  refine nk_icmp (c := .ne) (off := 7) (len := 3) (t := 48) (pc' := 44) mJ_91 (by decide +kernel) (by decide +kernel) rfl (fun hc => ?_) (fun hc => ?_)
  · have hr := nk_ifn (c := s0 = s1) hc hr
    refine nk_p (i := .iconst 0) (len := 1) (pc' := 49) mJ_91 (by decide +kernel) (ns_iconst (c := 0) (by decide +kernel)) rfl ?_
    exact ja_X13_branch_b49_ok zs _ _ _ _ _ t_l0 hr
  · have hr := nk_ifp (c := s0 = s1) (Decidable.of_not_not hc) hr
    refine nk_p (i := .iconst 1) (len := 1) (pc' := 45) mJ_91 (by decide +kernel) (ns_iconst (c := 1) (by decide +kernel)) rfl ?_
    refine nk_p (i := .goto 4) (len := 3) (pc' := 49) mJ_91 (by decide +kernel) (ns_goto (by decide +kernel)) rfl ?_
    exact ja_X13_branch_b49_ok zs _ _ _ _ _ t_l0 hr
noncomputable def ja_X13_branch_b30 (l0 : Nat) (l1 : Int) (l2 : Int) (s0 : Int) (S : nk_S) : Option (Int × nk_S) :=
  if l1 = 26 then
    ja_X13_branch_b41 l0 l2 s0 1 S
  else
    ja_X13_branch_b41 l0 l2 s0 0 S
theorem ja_X13_branch_b30_ok (zs : List Int32) : ∀ (l0 : Nat) (l1 : Int) (l2 : Int) (s0 : Int) (S : nk_S) (R : Int × nk_S), nk_cl ja_Tt l0 = some 13 → ja_X13_branch_b30 l0 l1 l2 s0 S = some R → nk_K ja_Tt mi_Γ (mi_ev zs) 0 91 30 [(0, nk_r l0), (1, nk_i l1), (2, nk_i l2)] [nk_i s0] S R := by
  intro l0 l1 l2 s0 S R t_l0 hr
  unfold ja_X13_branch_b30 at hr
  refine nk_p (i := .iload_n 1) (len := 1) (pc' := 31) mJ_91 (by decide +kernel) (ns_iload_n 1 rfl rfl) rfl ?_
  refine nk_p (i := .bipush 26) (len := 2) (pc' := 33) mJ_91 (by decide +kernel) (ns_bipush (c := 26) (by decide +kernel)) rfl ?_
  refine nk_icmp (c := .ne) (off := 7) (len := 3) (t := 40) (pc' := 36) mJ_91 (by decide +kernel) (by decide +kernel) rfl (fun hc => ?_) (fun hc => ?_)
  · have hr := nk_ifn (c := l1 = 26) hc hr
    refine nk_p (i := .iconst 0) (len := 1) (pc' := 41) mJ_91 (by decide +kernel) (ns_iconst (c := 0) (by decide +kernel)) rfl ?_
    refine nk_sub [0, 2] (L' := [(0, nk_r l0), (2, nk_i l2)]) rfl ?_
    exact ja_X13_branch_b41_ok zs _ _ _ _ _ _ t_l0 hr
  · have hr := nk_ifp (c := l1 = 26) (Decidable.of_not_not hc) hr
    refine nk_p (i := .iconst 1) (len := 1) (pc' := 37) mJ_91 (by decide +kernel) (ns_iconst (c := 1) (by decide +kernel)) rfl ?_
    refine nk_p (i := .goto 4) (len := 3) (pc' := 41) mJ_91 (by decide +kernel) (ns_goto (by decide +kernel)) rfl ?_
    refine nk_sub [0, 2] (L' := [(0, nk_r l0), (2, nk_i l2)]) rfl ?_
    exact ja_X13_branch_b41_ok zs _ _ _ _ _ _ t_l0 hr
noncomputable def ja_X13_branch_b17 (l0 : Nat) (l1 : Int) (l2 : Int) (l3 : Int) (S : nk_S) : Option (Int × nk_S) :=
  if l3 = 1099511627776 then
    ja_X13_branch_b30 l0 l1 l2 1 S
  else
    ja_X13_branch_b30 l0 l1 l2 0 S
theorem ja_X13_branch_b17_ok (zs : List Int32) : ∀ (l0 : Nat) (l1 : Int) (l2 : Int) (l3 : Int) (S : nk_S) (R : Int × nk_S), nk_cl ja_Tt l0 = some 13 → ja_X13_branch_b17 l0 l1 l2 l3 S = some R → nk_K ja_Tt mi_Γ (mi_ev zs) 0 91 17 [(0, nk_r l0), (1, nk_i l1), (2, nk_i l2), (3, nk_l l3)] [] S R := by
  intro l0 l1 l2 l3 S R t_l0 hr
  unfold ja_X13_branch_b17 at hr
  refine nk_p (i := .lload_n 3) (len := 1) (pc' := 18) mJ_91 (by decide +kernel) (ns_lload_n 3 rfl rfl) rfl ?_
  refine nk_ldc2 (x := 846) (len := 3) (X := 1099511627776) (v := 1099511627776) (pc' := 21) mJ_91 (by decide +kernel) (by decide +kernel) (by decide +kernel) rfl ?_
  refine nk_p (i := .lcmp) (len := 1) (pc' := 22) mJ_91 (by decide +kernel) ns_lcmp rfl ?_
  refine nk_lcond (c := .ne) (off := 7) (len := 3) (t := 29) (pc' := 25) mJ_91 (by decide +kernel) (by decide +kernel) rfl (fun hc => ?_) (fun hc => ?_)
  · have hr := nk_ifn (c := l3 = 1099511627776) hc hr
    refine nk_p (i := .iconst 0) (len := 1) (pc' := 30) mJ_91 (by decide +kernel) (ns_iconst (c := 0) (by decide +kernel)) rfl ?_
    refine nk_sub [0, 1, 2] (L' := [(0, nk_r l0), (1, nk_i l1), (2, nk_i l2)]) rfl ?_
    exact ja_X13_branch_b30_ok zs _ _ _ _ _ _ t_l0 hr
  · have hr := nk_ifp (c := l3 = 1099511627776) (Decidable.of_not_not hc) hr
    refine nk_p (i := .iconst 1) (len := 1) (pc' := 26) mJ_91 (by decide +kernel) (ns_iconst (c := 1) (by decide +kernel)) rfl ?_
    refine nk_p (i := .goto 4) (len := 3) (pc' := 30) mJ_91 (by decide +kernel) (ns_goto (by decide +kernel)) rfl ?_
    refine nk_sub [0, 1, 2] (L' := [(0, nk_r l0), (1, nk_i l1), (2, nk_i l2)]) rfl ?_
    exact ja_X13_branch_b30_ok zs _ _ _ _ _ _ t_l0 hr
noncomputable def ja_X13_branch_b189 (l0 : Nat) (l2 : Int) (s0 : Int) (S : nk_S) : Option (Int × nk_S) :=
  ja_X13_branch_b191 l0 l2 s0 S
theorem ja_X13_branch_b189_ok (zs : List Int32) : ∀ (l0 : Nat) (l2 : Int) (s0 : Int) (S : nk_S) (R : Int × nk_S), nk_cl ja_Tt l0 = some 13 → ja_X13_branch_b189 l0 l2 s0 S = some R → nk_K ja_Tt mi_Γ (mi_ev zs) 0 91 189 [(0, nk_r l0), (2, nk_i l2)] [nk_i s0] S R := by
  intro l0 l2 s0 S R t_l0 hr
  unfold ja_X13_branch_b189 at hr
  refine nk_p (i := .istore 5) (len := 2) (pc' := 191) mJ_91 (by decide +kernel) (ns_istore (L' := [(5, nk_i s0), (0, nk_r l0), (2, nk_i l2)]) rfl rfl (by decide +kernel)) rfl ?_
  refine nk_sub [1, 2, 0] (L' := [(0, nk_r l0), (2, nk_i l2), (5, nk_i s0)]) rfl ?_
  exact ja_X13_branch_b191_ok zs _ _ _ _ _ t_l0 hr
noncomputable def ja_X13_branch_b72 (l0 : Nat) (l2 : Int) (l3 : Int) (l6 : Int) (S : nk_S) : Option (Int × nk_S) :=
  if l6 = l3 then
    ja_X13_branch_b189 l0 l2 1 S
  else
    ja_X13_branch_b189 l0 l2 0 S
theorem ja_X13_branch_b72_ok (zs : List Int32) : ∀ (l0 : Nat) (l2 : Int) (l3 : Int) (l6 : Int) (S : nk_S) (R : Int × nk_S), nk_cl ja_Tt l0 = some 13 → ja_X13_branch_b72 l0 l2 l3 l6 S = some R → nk_K ja_Tt mi_Γ (mi_ev zs) 0 91 72 [(0, nk_r l0), (2, nk_i l2), (3, nk_l l3), (6, nk_l l6)] [] S R := by
  intro l0 l2 l3 l6 S R t_l0 hr
  unfold ja_X13_branch_b72 at hr
  refine nk_p (i := .lload 6) (len := 2) (pc' := 74) mJ_91 (by decide +kernel) (ns_lload 3 rfl) rfl ?_
  refine nk_p (i := .lload_n 3) (len := 1) (pc' := 75) mJ_91 (by decide +kernel) (ns_lload_n 2 rfl rfl) rfl ?_
  refine nk_p (i := .lcmp) (len := 1) (pc' := 76) mJ_91 (by decide +kernel) ns_lcmp rfl ?_
  refine nk_lcond (c := .ne) (off := 7) (len := 3) (t := 83) (pc' := 79) mJ_91 (by decide +kernel) (by decide +kernel) rfl (fun hc => ?_) (fun hc => ?_)
  · have hr := nk_ifn (c := l6 = l3) hc hr
    refine nk_p (i := .iconst 0) (len := 1) (pc' := 84) mJ_91 (by decide +kernel) (ns_iconst (c := 0) (by decide +kernel)) rfl ?_
    refine nk_p (i := .goto 105) (len := 3) (pc' := 189) mJ_91 (by decide +kernel) (ns_goto (by decide +kernel)) rfl ?_
    refine nk_sub [0, 1] (L' := [(0, nk_r l0), (2, nk_i l2)]) rfl ?_
    exact ja_X13_branch_b189_ok zs _ _ _ _ _ t_l0 hr
  · have hr := nk_ifp (c := l6 = l3) (Decidable.of_not_not hc) hr
    refine nk_p (i := .iconst 1) (len := 1) (pc' := 80) mJ_91 (by decide +kernel) (ns_iconst (c := 1) (by decide +kernel)) rfl ?_
    refine nk_p (i := .goto 109) (len := 3) (pc' := 189) mJ_91 (by decide +kernel) (ns_goto (by decide +kernel)) rfl ?_
    refine nk_sub [0, 1] (L' := [(0, nk_r l0), (2, nk_i l2)]) rfl ?_
    exact ja_X13_branch_b189_ok zs _ _ _ _ _ t_l0 hr
noncomputable def ja_X13_branch_b99 (l0 : Nat) (l2 : Int) (l3 : Int) (l6 : Int) (S : nk_S) : Option (Int × nk_S) :=
  if l6 = l3 then
    ja_X13_branch_b189 l0 l2 0 S
  else
    ja_X13_branch_b189 l0 l2 1 S
theorem ja_X13_branch_b99_ok (zs : List Int32) : ∀ (l0 : Nat) (l2 : Int) (l3 : Int) (l6 : Int) (S : nk_S) (R : Int × nk_S), nk_cl ja_Tt l0 = some 13 → ja_X13_branch_b99 l0 l2 l3 l6 S = some R → nk_K ja_Tt mi_Γ (mi_ev zs) 0 91 99 [(0, nk_r l0), (2, nk_i l2), (3, nk_l l3), (6, nk_l l6)] [] S R := by
  intro l0 l2 l3 l6 S R t_l0 hr
  unfold ja_X13_branch_b99 at hr
  refine nk_p (i := .lload 6) (len := 2) (pc' := 101) mJ_91 (by decide +kernel) (ns_lload 3 rfl) rfl ?_
  refine nk_p (i := .lload_n 3) (len := 1) (pc' := 102) mJ_91 (by decide +kernel) (ns_lload_n 2 rfl rfl) rfl ?_
  refine nk_p (i := .lcmp) (len := 1) (pc' := 103) mJ_91 (by decide +kernel) ns_lcmp rfl ?_
  refine nk_lcond (c := .eq) (off := 7) (len := 3) (t := 110) (pc' := 106) mJ_91 (by decide +kernel) (by decide +kernel) rfl (fun hc => ?_) (fun hc => ?_)
  · have hr := nk_ifp (c := l6 = l3) hc hr
    refine nk_p (i := .iconst 0) (len := 1) (pc' := 111) mJ_91 (by decide +kernel) (ns_iconst (c := 0) (by decide +kernel)) rfl ?_
    refine nk_p (i := .goto 78) (len := 3) (pc' := 189) mJ_91 (by decide +kernel) (ns_goto (by decide +kernel)) rfl ?_
    refine nk_sub [0, 1] (L' := [(0, nk_r l0), (2, nk_i l2)]) rfl ?_
    exact ja_X13_branch_b189_ok zs _ _ _ _ _ t_l0 hr
  · have hr := nk_ifn (c := l6 = l3) hc hr
    refine nk_p (i := .iconst 1) (len := 1) (pc' := 107) mJ_91 (by decide +kernel) (ns_iconst (c := 1) (by decide +kernel)) rfl ?_
    refine nk_p (i := .goto 82) (len := 3) (pc' := 189) mJ_91 (by decide +kernel) (ns_goto (by decide +kernel)) rfl ?_
    refine nk_sub [0, 1] (L' := [(0, nk_r l0), (2, nk_i l2)]) rfl ?_
    exact ja_X13_branch_b189_ok zs _ _ _ _ _ t_l0 hr
noncomputable def ja_X13_branch (l0 : Nat) (l1 : Int) (l2 : Int) (S : nk_S) : Option (Int × nk_S) :=
  nk_bd (ja_X13_pop l0 S) fun r1 S2 =>
  if l1 = 26 then
    ja_X13_branch_b17 l0 l1 l2 r1 S2
  else
    if l1 = 27 then
      ja_X13_branch_b17 l0 l1 l2 r1 S2
    else
      nk_bd (ja_X13_pop l0 S2) fun r4 S5 =>
      if l1 = 20 then
        ja_X13_branch_b72 l0 l2 r1 r4 S5
      else
        if l1 = 28 then
          ja_X13_branch_b72 l0 l2 r1 r4 S5
        else
          if l1 = 21 then
            ja_X13_branch_b99 l0 l2 r1 r4 S5
          else
            if l1 = 29 then
              ja_X13_branch_b99 l0 l2 r1 r4 S5
            else
              if l1 = 22 then
                if r1 ≤ r4 then
                  ja_X13_branch_b189 l0 l2 0 S5
                else
                  ja_X13_branch_b189 l0 l2 1 S5
              else
                if l1 = 23 then
                  if r1 < r4 then
                    ja_X13_branch_b189 l0 l2 0 S5
                  else
                    ja_X13_branch_b189 l0 l2 1 S5
                else
                  if l1 = 24 then
                    if r4 ≤ r1 then
                      ja_X13_branch_b189 l0 l2 0 S5
                    else
                      ja_X13_branch_b189 l0 l2 1 S5
                  else
                    if r4 < r1 then
                      ja_X13_branch_b189 l0 l2 0 S5
                    else
                      ja_X13_branch_b189 l0 l2 1 S5
theorem ja_X13_branch_ok (zs : List Int32) : ∀ (l0 : Nat) (l1 : Int) (l2 : Int) (S : nk_S) (R : Int × nk_S), nk_cl ja_Tt l0 = some 13 → ja_X13_branch l0 l1 l2 S = some R → nk_K ja_Tt mi_Γ (mi_ev zs) 0 91 0 [(0, nk_r l0), (1, nk_i l1), (2, nk_i l2)] [] S R := by
  intro l0 l1 l2 S R t_l0 hr
  unfold ja_X13_branch at hr
  refine nk_p (i := .aload_n 0) (len := 1) (pc' := 1) mJ_91 (by decide +kernel) (ns_aload_n 0 rfl rfl) rfl ?_
  obtain ⟨r1, S2, h3, hr⟩ := nk_bde hr
  refine nk_callV (ci := 13) (n := 0) (x := 885) (len := 3) (j' := 208) (q' := 2) (r := r1) (S' := S2) (L2 := [(0, nk_r l0)]) (rest := []) (st' := [nk_l r1]) (pc' := 4) mJ_91 (by decide +kernel) (by decide +kernel) rfl rfl t_l0 (Nat.le_of_ble_eq_true rfl) mJ_208 (Nat.le_of_ble_eq_true rfl) rfl (ja_X13_pop_ok zs _ _ _ t_l0 h3) rfl ?_
  refine nk_p (i := .lstore_n 3) (len := 1) (pc' := 5) mJ_91 (by decide +kernel) (ns_lstore_n (L' := [(3, nk_l r1), (0, nk_r l0), (1, nk_i l1), (2, nk_i l2)]) rfl rfl rfl (by decide +kernel)) rfl ?_
  refine nk_p (i := .iload_n 1) (len := 1) (pc' := 6) mJ_91 (by decide +kernel) (ns_iload_n 2 rfl rfl) rfl ?_
  refine nk_p (i := .bipush 26) (len := 2) (pc' := 8) mJ_91 (by decide +kernel) (ns_bipush (c := 26) (by decide +kernel)) rfl ?_
  refine nk_icmp (c := .eq) (off := 9) (len := 3) (t := 17) (pc' := 11) mJ_91 (by decide +kernel) (by decide +kernel) rfl (fun hc => ?_) (fun hc => ?_)
  · have hr := nk_ifp (c := l1 = 26) hc hr
    refine nk_sub [1, 2, 3, 0] (L' := [(0, nk_r l0), (1, nk_i l1), (2, nk_i l2), (3, nk_l r1)]) rfl ?_
    exact ja_X13_branch_b17_ok zs _ _ _ _ _ _ t_l0 hr
  · have hr := nk_ifn (c := l1 = 26) hc hr
    refine nk_p (i := .iload_n 1) (len := 1) (pc' := 12) mJ_91 (by decide +kernel) (ns_iload_n 2 rfl rfl) rfl ?_
    refine nk_p (i := .bipush 27) (len := 2) (pc' := 14) mJ_91 (by decide +kernel) (ns_bipush (c := 27) (by decide +kernel)) rfl ?_
    refine nk_icmp (c := .ne) (off := 40) (len := 3) (t := 54) (pc' := 17) mJ_91 (by decide +kernel) (by decide +kernel) rfl (fun hc => ?_) (fun hc => ?_)
    · have hr := nk_ifn (c := l1 = 27) hc hr
      refine nk_p (i := .aload_n 0) (len := 1) (pc' := 55) mJ_91 (by decide +kernel) (ns_aload_n 1 rfl rfl) rfl ?_
      obtain ⟨r4, S5, h6, hr⟩ := nk_bde hr
      refine nk_callV (ci := 13) (n := 0) (x := 885) (len := 3) (j' := 208) (q' := 2) (r := r4) (S' := S5) (L2 := [(0, nk_r l0)]) (rest := []) (st' := [nk_l r4]) (pc' := 58) mJ_91 (by decide +kernel) (by decide +kernel) rfl rfl t_l0 (Nat.le_of_ble_eq_true rfl) mJ_208 (Nat.le_of_ble_eq_true rfl) rfl (ja_X13_pop_ok zs _ _ _ t_l0 h6) rfl ?_
      refine nk_p (i := .lstore 6) (len := 2) (pc' := 60) mJ_91 (by decide +kernel) (ns_lstore (L' := [(6, nk_l r4), (3, nk_l r1), (0, nk_r l0), (1, nk_i l1), (2, nk_i l2)]) rfl rfl (by decide +kernel)) rfl ?_
      refine nk_p (i := .iload_n 1) (len := 1) (pc' := 61) mJ_91 (by decide +kernel) (ns_iload_n 3 rfl rfl) rfl ?_
      refine nk_p (i := .bipush 20) (len := 2) (pc' := 63) mJ_91 (by decide +kernel) (ns_bipush (c := 20) (by decide +kernel)) rfl ?_
      refine nk_icmp (c := .eq) (off := 9) (len := 3) (t := 72) (pc' := 66) mJ_91 (by decide +kernel) (by decide +kernel) rfl (fun hc => ?_) (fun hc => ?_)
      · have hr := nk_ifp (c := l1 = 20) hc hr
        refine nk_sub [2, 4, 1, 0] (L' := [(0, nk_r l0), (2, nk_i l2), (3, nk_l r1), (6, nk_l r4)]) rfl ?_
        exact ja_X13_branch_b72_ok zs _ _ _ _ _ _ t_l0 hr
      · have hr := nk_ifn (c := l1 = 20) hc hr
        refine nk_p (i := .iload_n 1) (len := 1) (pc' := 67) mJ_91 (by decide +kernel) (ns_iload_n 3 rfl rfl) rfl ?_
        refine nk_p (i := .bipush 28) (len := 2) (pc' := 69) mJ_91 (by decide +kernel) (ns_bipush (c := 28) (by decide +kernel)) rfl ?_
        refine nk_icmp (c := .ne) (off := 18) (len := 3) (t := 87) (pc' := 72) mJ_91 (by decide +kernel) (by decide +kernel) rfl (fun hc => ?_) (fun hc => ?_)
        · have hr := nk_ifn (c := l1 = 28) hc hr
          refine nk_p (i := .iload_n 1) (len := 1) (pc' := 88) mJ_91 (by decide +kernel) (ns_iload_n 3 rfl rfl) rfl ?_
          refine nk_p (i := .bipush 21) (len := 2) (pc' := 90) mJ_91 (by decide +kernel) (ns_bipush (c := 21) (by decide +kernel)) rfl ?_
          refine nk_icmp (c := .eq) (off := 9) (len := 3) (t := 99) (pc' := 93) mJ_91 (by decide +kernel) (by decide +kernel) rfl (fun hc => ?_) (fun hc => ?_)
          · have hr := nk_ifp (c := l1 = 21) hc hr
            refine nk_sub [2, 4, 1, 0] (L' := [(0, nk_r l0), (2, nk_i l2), (3, nk_l r1), (6, nk_l r4)]) rfl ?_
            exact ja_X13_branch_b99_ok zs _ _ _ _ _ _ t_l0 hr
          · have hr := nk_ifn (c := l1 = 21) hc hr
            refine nk_p (i := .iload_n 1) (len := 1) (pc' := 94) mJ_91 (by decide +kernel) (ns_iload_n 3 rfl rfl) rfl ?_
            refine nk_p (i := .bipush 29) (len := 2) (pc' := 96) mJ_91 (by decide +kernel) (ns_bipush (c := 29) (by decide +kernel)) rfl ?_
            refine nk_icmp (c := .ne) (off := 18) (len := 3) (t := 114) (pc' := 99) mJ_91 (by decide +kernel) (by decide +kernel) rfl (fun hc => ?_) (fun hc => ?_)
            · have hr := nk_ifn (c := l1 = 29) hc hr
              refine nk_p (i := .iload_n 1) (len := 1) (pc' := 115) mJ_91 (by decide +kernel) (ns_iload_n 3 rfl rfl) rfl ?_
              refine nk_p (i := .bipush 22) (len := 2) (pc' := 117) mJ_91 (by decide +kernel) (ns_bipush (c := 22) (by decide +kernel)) rfl ?_
              refine nk_icmp (c := .ne) (off := 18) (len := 3) (t := 135) (pc' := 120) mJ_91 (by decide +kernel) (by decide +kernel) rfl (fun hc => ?_) (fun hc => ?_)
              · have hr := nk_ifn (c := l1 = 22) hc hr
                refine nk_p (i := .iload_n 1) (len := 1) (pc' := 136) mJ_91 (by decide +kernel) (ns_iload_n 3 rfl rfl) rfl ?_
                refine nk_p (i := .bipush 23) (len := 2) (pc' := 138) mJ_91 (by decide +kernel) (ns_bipush (c := 23) (by decide +kernel)) rfl ?_
                refine nk_icmp (c := .ne) (off := 18) (len := 3) (t := 156) (pc' := 141) mJ_91 (by decide +kernel) (by decide +kernel) rfl (fun hc => ?_) (fun hc => ?_)
                · have hr := nk_ifn (c := l1 = 23) hc hr
                  refine nk_p (i := .iload_n 1) (len := 1) (pc' := 157) mJ_91 (by decide +kernel) (ns_iload_n 3 rfl rfl) rfl ?_
                  refine nk_p (i := .bipush 24) (len := 2) (pc' := 159) mJ_91 (by decide +kernel) (ns_bipush (c := 24) (by decide +kernel)) rfl ?_
                  refine nk_icmp (c := .ne) (off := 18) (len := 3) (t := 177) (pc' := 162) mJ_91 (by decide +kernel) (by decide +kernel) rfl (fun hc => ?_) (fun hc => ?_)
                  · have hr := nk_ifn (c := l1 = 24) hc hr
                    refine nk_p (i := .lload 6) (len := 2) (pc' := 179) mJ_91 (by decide +kernel) (ns_lload 0 rfl) rfl ?_
                    refine nk_p (i := .lload_n 3) (len := 1) (pc' := 180) mJ_91 (by decide +kernel) (ns_lload_n 1 rfl rfl) rfl ?_
                    refine nk_p (i := .lcmp) (len := 1) (pc' := 181) mJ_91 (by decide +kernel) ns_lcmp rfl ?_
                    refine nk_lcond (c := .lt) (off := 7) (len := 3) (t := 188) (pc' := 184) mJ_91 (by decide +kernel) (by decide +kernel) rfl (fun hc => ?_) (fun hc => ?_)
                    · have hr := nk_ifp (c := r4 < r1) hc hr
                      refine nk_p (i := .iconst 0) (len := 1) (pc' := 189) mJ_91 (by decide +kernel) (ns_iconst (c := 0) (by decide +kernel)) rfl ?_
                      refine nk_sub [2, 4] (L' := [(0, nk_r l0), (2, nk_i l2)]) rfl ?_
                      exact ja_X13_branch_b189_ok zs _ _ _ _ _ t_l0 hr
                    · have hr := nk_ifn (c := r4 < r1) hc hr
                      refine nk_p (i := .iconst 1) (len := 1) (pc' := 185) mJ_91 (by decide +kernel) (ns_iconst (c := 1) (by decide +kernel)) rfl ?_
                      refine nk_p (i := .goto 4) (len := 3) (pc' := 189) mJ_91 (by decide +kernel) (ns_goto (by decide +kernel)) rfl ?_
                      refine nk_sub [2, 4] (L' := [(0, nk_r l0), (2, nk_i l2)]) rfl ?_
                      exact ja_X13_branch_b189_ok zs _ _ _ _ _ t_l0 hr
                  · have hr := nk_ifp (c := l1 = 24) (Decidable.of_not_not hc) hr
                    refine nk_p (i := .lload 6) (len := 2) (pc' := 164) mJ_91 (by decide +kernel) (ns_lload 0 rfl) rfl ?_
                    refine nk_p (i := .lload_n 3) (len := 1) (pc' := 165) mJ_91 (by decide +kernel) (ns_lload_n 1 rfl rfl) rfl ?_
                    refine nk_p (i := .lcmp) (len := 1) (pc' := 166) mJ_91 (by decide +kernel) ns_lcmp rfl ?_
                    refine nk_lcond (c := .le) (off := 7) (len := 3) (t := 173) (pc' := 169) mJ_91 (by decide +kernel) (by decide +kernel) rfl (fun hc => ?_) (fun hc => ?_)
                    · have hr := nk_ifp (c := r4 ≤ r1) hc hr
                      refine nk_p (i := .iconst 0) (len := 1) (pc' := 174) mJ_91 (by decide +kernel) (ns_iconst (c := 0) (by decide +kernel)) rfl ?_
                      refine nk_p (i := .goto 15) (len := 3) (pc' := 189) mJ_91 (by decide +kernel) (ns_goto (by decide +kernel)) rfl ?_
                      refine nk_sub [2, 4] (L' := [(0, nk_r l0), (2, nk_i l2)]) rfl ?_
                      exact ja_X13_branch_b189_ok zs _ _ _ _ _ t_l0 hr
                    · have hr := nk_ifn (c := r4 ≤ r1) hc hr
                      refine nk_p (i := .iconst 1) (len := 1) (pc' := 170) mJ_91 (by decide +kernel) (ns_iconst (c := 1) (by decide +kernel)) rfl ?_
                      refine nk_p (i := .goto 19) (len := 3) (pc' := 189) mJ_91 (by decide +kernel) (ns_goto (by decide +kernel)) rfl ?_
                      refine nk_sub [2, 4] (L' := [(0, nk_r l0), (2, nk_i l2)]) rfl ?_
                      exact ja_X13_branch_b189_ok zs _ _ _ _ _ t_l0 hr
                · have hr := nk_ifp (c := l1 = 23) (Decidable.of_not_not hc) hr
                  refine nk_p (i := .lload 6) (len := 2) (pc' := 143) mJ_91 (by decide +kernel) (ns_lload 0 rfl) rfl ?_
                  refine nk_p (i := .lload_n 3) (len := 1) (pc' := 144) mJ_91 (by decide +kernel) (ns_lload_n 1 rfl rfl) rfl ?_
                  refine nk_p (i := .lcmp) (len := 1) (pc' := 145) mJ_91 (by decide +kernel) ns_lcmp rfl ?_
                  refine nk_lcond (c := .gt) (off := 7) (len := 3) (t := 152) (pc' := 148) mJ_91 (by decide +kernel) (by decide +kernel) rfl (fun hc => ?_) (fun hc => ?_)
                  · have hr := nk_ifp (c := r1 < r4) hc hr
                    refine nk_p (i := .iconst 0) (len := 1) (pc' := 153) mJ_91 (by decide +kernel) (ns_iconst (c := 0) (by decide +kernel)) rfl ?_
                    refine nk_p (i := .goto 36) (len := 3) (pc' := 189) mJ_91 (by decide +kernel) (ns_goto (by decide +kernel)) rfl ?_
                    refine nk_sub [2, 4] (L' := [(0, nk_r l0), (2, nk_i l2)]) rfl ?_
                    exact ja_X13_branch_b189_ok zs _ _ _ _ _ t_l0 hr
                  · have hr := nk_ifn (c := r1 < r4) hc hr
                    refine nk_p (i := .iconst 1) (len := 1) (pc' := 149) mJ_91 (by decide +kernel) (ns_iconst (c := 1) (by decide +kernel)) rfl ?_
                    refine nk_p (i := .goto 40) (len := 3) (pc' := 189) mJ_91 (by decide +kernel) (ns_goto (by decide +kernel)) rfl ?_
                    refine nk_sub [2, 4] (L' := [(0, nk_r l0), (2, nk_i l2)]) rfl ?_
                    exact ja_X13_branch_b189_ok zs _ _ _ _ _ t_l0 hr
              · have hr := nk_ifp (c := l1 = 22) (Decidable.of_not_not hc) hr
                refine nk_p (i := .lload 6) (len := 2) (pc' := 122) mJ_91 (by decide +kernel) (ns_lload 0 rfl) rfl ?_
                refine nk_p (i := .lload_n 3) (len := 1) (pc' := 123) mJ_91 (by decide +kernel) (ns_lload_n 1 rfl rfl) rfl ?_
                refine nk_p (i := .lcmp) (len := 1) (pc' := 124) mJ_91 (by decide +kernel) ns_lcmp rfl ?_
                refine nk_lcond (c := .ge) (off := 7) (len := 3) (t := 131) (pc' := 127) mJ_91 (by decide +kernel) (by decide +kernel) rfl (fun hc => ?_) (fun hc => ?_)
                · have hr := nk_ifp (c := r1 ≤ r4) hc hr
                  refine nk_p (i := .iconst 0) (len := 1) (pc' := 132) mJ_91 (by decide +kernel) (ns_iconst (c := 0) (by decide +kernel)) rfl ?_
                  refine nk_p (i := .goto 57) (len := 3) (pc' := 189) mJ_91 (by decide +kernel) (ns_goto (by decide +kernel)) rfl ?_
                  refine nk_sub [2, 4] (L' := [(0, nk_r l0), (2, nk_i l2)]) rfl ?_
                  exact ja_X13_branch_b189_ok zs _ _ _ _ _ t_l0 hr
                · have hr := nk_ifn (c := r1 ≤ r4) hc hr
                  refine nk_p (i := .iconst 1) (len := 1) (pc' := 128) mJ_91 (by decide +kernel) (ns_iconst (c := 1) (by decide +kernel)) rfl ?_
                  refine nk_p (i := .goto 61) (len := 3) (pc' := 189) mJ_91 (by decide +kernel) (ns_goto (by decide +kernel)) rfl ?_
                  refine nk_sub [2, 4] (L' := [(0, nk_r l0), (2, nk_i l2)]) rfl ?_
                  exact ja_X13_branch_b189_ok zs _ _ _ _ _ t_l0 hr
            · have hr := nk_ifp (c := l1 = 29) (Decidable.of_not_not hc) hr
              refine nk_sub [2, 4, 1, 0] (L' := [(0, nk_r l0), (2, nk_i l2), (3, nk_l r1), (6, nk_l r4)]) rfl ?_
              exact ja_X13_branch_b99_ok zs _ _ _ _ _ _ t_l0 hr
        · have hr := nk_ifp (c := l1 = 28) (Decidable.of_not_not hc) hr
          refine nk_sub [2, 4, 1, 0] (L' := [(0, nk_r l0), (2, nk_i l2), (3, nk_l r1), (6, nk_l r4)]) rfl ?_
          exact ja_X13_branch_b72_ok zs _ _ _ _ _ _ t_l0 hr
    · have hr := nk_ifp (c := l1 = 27) (Decidable.of_not_not hc) hr
      refine nk_sub [1, 2, 3, 0] (L' := [(0, nk_r l0), (1, nk_i l1), (2, nk_i l2), (3, nk_l r1)]) rfl ?_
      exact ja_X13_branch_b17_ok zs _ _ _ _ _ _ t_l0 hr
/-! SafeCodeModel keeps (IJ)Z -/
noncomputable def ja_X13_keeps (l0 : Nat) (l1 : Int) (l2 : Int) (S : nk_S) : Option (Int × nk_S) :=
  if 0 ≤ l1 ∧ l1 < 24 then
  nk_lt (nk_wi S (ja_c l0 29) l1.toNat (nk_land (S.1 (ja_c l0 29) l1.toNat) l2)) fun S3 =>
  if (S3.1 (ja_c l0 29) l1.toNat) = 0 then
    some (0, S3)
  else
    nk_lt (S3.1 (ja_c l0 30) l1.toNat) fun v6 =>
    if 0 ≤ v6 then
      if 0 ≤ v6 ∧ v6 < 24 then
      nk_lt (nk_wi S3 (ja_c l0 29) v6.toNat (nk_land (S3.1 (ja_c l0 29) v6.toNat) l2)) fun S9 =>
      if (S9.1 (ja_c l0 29) v6.toNat) = 0 then
        some (0, S9)
      else
        some (1, S9)
      else none
    else
      some (1, S3)
  else none
theorem ja_X13_keeps_ok (zs : List Int32) : ∀ (l0 : Nat) (l1 : Int) (l2 : Int) (S : nk_S) (R : Int × nk_S), nk_cl ja_Tt l0 = some 13 → ja_X13_keeps l0 l1 l2 S = some R → nk_K ja_Tt mi_Γ (mi_ev zs) 1 170 0 [(0, nk_r l0), (1, nk_i l1), (2, nk_l l2)] [] S R := by
  intro l0 l1 l2 S R t_l0 hr
  unfold ja_X13_keeps at hr
  refine nk_p (i := .aload_n 0) (len := 1) (pc' := 1) mJ_170 (by decide +kernel) (ns_aload_n 0 rfl rfl) rfl ?_
  refine nk_getC (f := (4, 2, 24)) (x := 80) (len := 3) (ci := 13) (k := 29) (pc' := 4) ja_okT mJ_170 (by decide +kernel) (by decide +kernel) (by decide +kernel) (by decide) t_l0 rfl ?_
  have t1 : nk_ar ja_Tt (ja_c l0 29) = some (2, 24) := nk_ta ja_okT t_l0 (by decide +kernel)
  refine nk_p (i := .iload_n 1) (len := 1) (pc' := 5) mJ_170 (by decide +kernel) (ns_iload_n 1 rfl rfl) rfl ?_
  refine nk_p (i := .dup2) (len := 1) (pc' := 6) mJ_170 (by decide +kernel) (ns_dup2 rfl rfl) rfl ?_
  obtain ⟨h2, hr⟩ := nk_cke hr
  refine nk_lald (len := 1) (N := 24) (pc' := 7) mJ_170 (by decide +kernel) t1 h2.1 h2.2 rfl rfl ?_
  refine nk_p (i := .lload_n 2) (len := 1) (pc' := 8) mJ_170 (by decide +kernel) (ns_lload_n 2 rfl rfl) rfl ?_
  refine nk_p (i := .land) (len := 1) (pc' := 9) mJ_170 (by decide +kernel) ns_land rfl ?_
  obtain ⟨S3, h4, hr⟩ := nk_lte hr
  refine nk_last (len := 1) (N := 24) (pc' := 10) mJ_170 (by decide +kernel) t1 h2.1 h2.2 rfl rfl h4 ?_
  refine nk_p (i := .aload_n 0) (len := 1) (pc' := 11) mJ_170 (by decide +kernel) (ns_aload_n 0 rfl rfl) rfl ?_
  refine nk_getC (f := (4, 2, 24)) (x := 80) (len := 3) (ci := 13) (k := 29) (pc' := 14) ja_okT mJ_170 (by decide +kernel) (by decide +kernel) (by decide +kernel) (by decide) t_l0 rfl ?_
  refine nk_p (i := .iload_n 1) (len := 1) (pc' := 15) mJ_170 (by decide +kernel) (ns_iload_n 1 rfl rfl) rfl ?_
  refine nk_lald (len := 1) (N := 24) (pc' := 16) mJ_170 (by decide +kernel) t1 h2.1 h2.2 rfl rfl ?_
  refine nk_p (i := .lconst 0) (len := 1) (pc' := 17) mJ_170 (by decide +kernel) (ns_lconst (c := 0) (by decide +kernel)) rfl ?_
  refine nk_p (i := .lcmp) (len := 1) (pc' := 18) mJ_170 (by decide +kernel) ns_lcmp rfl ?_
  refine nk_lcond (c := .ne) (off := 5) (len := 3) (t := 23) (pc' := 21) mJ_170 (by decide +kernel) (by decide +kernel) rfl (fun hc => ?_) (fun hc => ?_)
  · have hr := nk_ifn (c := (S3.1 (ja_c l0 29) l1.toNat) = 0) hc hr
    refine nk_p (i := .aload_n 0) (len := 1) (pc' := 24) mJ_170 (by decide +kernel) (ns_aload_n 0 rfl rfl) rfl ?_
    refine nk_getC (f := (4, 1, 24)) (x := 84) (len := 3) (ci := 13) (k := 30) (pc' := 27) ja_okT mJ_170 (by decide +kernel) (by decide +kernel) (by decide +kernel) (by decide) t_l0 rfl ?_
    have t5 : nk_ar ja_Tt (ja_c l0 30) = some (1, 24) := nk_ta ja_okT t_l0 (by decide +kernel)
    refine nk_p (i := .iload_n 1) (len := 1) (pc' := 28) mJ_170 (by decide +kernel) (ns_iload_n 1 rfl rfl) rfl ?_
    refine nk_iald (len := 1) (N := 24) (pc' := 29) mJ_170 (by decide +kernel) t5 h2.1 h2.2 rfl rfl ?_
    obtain ⟨v6, h7, hr⟩ := nk_lte hr
    refine nk_p (i := .istore 4) (len := 2) (pc' := 31) mJ_170 (by decide +kernel) (ns_istore (L' := [(4, nk_i v6), (0, nk_r l0), (1, nk_i l1), (2, nk_l l2)]) h7 rfl (by decide +kernel)) rfl ?_
    refine nk_p (i := .iload 4) (len := 2) (pc' := 33) mJ_170 (by decide +kernel) (ns_iload 0 rfl) rfl ?_
    refine nk_icond (c := .ge) (off := 5) (len := 3) (t := 38) (pc' := 36) mJ_170 (by decide +kernel) (by decide +kernel) rfl (fun hc => ?_) (fun hc => ?_)
    · have hr := nk_ifp (c := 0 ≤ v6) hc hr
      refine nk_p (i := .aload_n 0) (len := 1) (pc' := 39) mJ_170 (by decide +kernel) (ns_aload_n 1 rfl rfl) rfl ?_
      refine nk_getC (f := (4, 2, 24)) (x := 80) (len := 3) (ci := 13) (k := 29) (pc' := 42) ja_okT mJ_170 (by decide +kernel) (by decide +kernel) (by decide +kernel) (by decide) t_l0 rfl ?_
      refine nk_p (i := .iload 4) (len := 2) (pc' := 44) mJ_170 (by decide +kernel) (ns_iload 0 rfl) rfl ?_
      refine nk_p (i := .dup2) (len := 1) (pc' := 45) mJ_170 (by decide +kernel) (ns_dup2 rfl rfl) rfl ?_
      obtain ⟨h8, hr⟩ := nk_cke hr
      refine nk_lald (len := 1) (N := 24) (pc' := 46) mJ_170 (by decide +kernel) t1 h8.1 h8.2 rfl rfl ?_
      refine nk_p (i := .lload_n 2) (len := 1) (pc' := 47) mJ_170 (by decide +kernel) (ns_lload_n 3 rfl rfl) rfl ?_
      refine nk_p (i := .land) (len := 1) (pc' := 48) mJ_170 (by decide +kernel) ns_land rfl ?_
      obtain ⟨S9, h10, hr⟩ := nk_lte hr
      refine nk_last (len := 1) (N := 24) (pc' := 49) mJ_170 (by decide +kernel) t1 h8.1 h8.2 rfl rfl h10 ?_
      refine nk_p (i := .aload_n 0) (len := 1) (pc' := 50) mJ_170 (by decide +kernel) (ns_aload_n 1 rfl rfl) rfl ?_
      refine nk_getC (f := (4, 2, 24)) (x := 80) (len := 3) (ci := 13) (k := 29) (pc' := 53) ja_okT mJ_170 (by decide +kernel) (by decide +kernel) (by decide +kernel) (by decide) t_l0 rfl ?_
      refine nk_p (i := .iload 4) (len := 2) (pc' := 55) mJ_170 (by decide +kernel) (ns_iload 0 rfl) rfl ?_
      refine nk_lald (len := 1) (N := 24) (pc' := 56) mJ_170 (by decide +kernel) t1 h8.1 h8.2 rfl rfl ?_
      refine nk_p (i := .lconst 0) (len := 1) (pc' := 57) mJ_170 (by decide +kernel) (ns_lconst (c := 0) (by decide +kernel)) rfl ?_
      refine nk_p (i := .lcmp) (len := 1) (pc' := 58) mJ_170 (by decide +kernel) ns_lcmp rfl ?_
      refine nk_lcond (c := .eq) (off := 7) (len := 3) (t := 65) (pc' := 61) mJ_170 (by decide +kernel) (by decide +kernel) rfl (fun hc => ?_) (fun hc => ?_)
      · have hr := nk_ifp (c := (S9.1 (ja_c l0 29) v6.toNat) = 0) hc hr
        refine nk_p (i := .iconst 0) (len := 1) (pc' := 66) mJ_170 (by decide +kernel) (ns_iconst (c := 0) (by decide +kernel)) rfl ?_
        cases hr
        exact nk_iret (ty := .boolean) (len := 1) mJ_170 (by decide +kernel) rfl (nk_nar_z (by decide))
      · have hr := nk_ifn (c := (S9.1 (ja_c l0 29) v6.toNat) = 0) hc hr
        refine nk_p (i := .iconst 1) (len := 1) (pc' := 62) mJ_170 (by decide +kernel) (ns_iconst (c := 1) (by decide +kernel)) rfl ?_
        refine nk_p (i := .goto 4) (len := 3) (pc' := 66) mJ_170 (by decide +kernel) (ns_goto (by decide +kernel)) rfl ?_
        cases hr
        exact nk_iret (ty := .boolean) (len := 1) mJ_170 (by decide +kernel) rfl (nk_nar_z (by decide))
    · have hr := nk_ifn (c := 0 ≤ v6) hc hr
      refine nk_p (i := .iconst 1) (len := 1) (pc' := 37) mJ_170 (by decide +kernel) (ns_iconst (c := 1) (by decide +kernel)) rfl ?_
      cases hr
      exact nk_iret (ty := .boolean) (len := 1) mJ_170 (by decide +kernel) rfl (nk_nar_z (by decide))
  · have hr := nk_ifp (c := (S3.1 (ja_c l0 29) l1.toNat) = 0) (Decidable.of_not_not hc) hr
    refine nk_p (i := .iconst 0) (len := 1) (pc' := 22) mJ_170 (by decide +kernel) (ns_iconst (c := 0) (by decide +kernel)) rfl ?_
    cases hr
    exact nk_iret (ty := .boolean) (len := 1) mJ_170 (by decide +kernel) rfl (nk_nar_z (by decide))
/-! SafeCodeModel dereference (I)Z -/
noncomputable def ja_X13_dereference_b25 (l0 : Nat) (l1 : Int) (S : nk_S) : Option (Int × nk_S) :=
  nk_bd (ja_X13_keeps l0 l1 (-4611686018427387905) S) fun r1 S2 =>
  if r1 = 0 ∨ r1 = 1 then
  some (r1, S2)
  else none
theorem ja_X13_dereference_b25_ok (zs : List Int32) : ∀ (l0 : Nat) (l1 : Int) (S : nk_S) (R : Int × nk_S), nk_cl ja_Tt l0 = some 13 → ja_X13_dereference_b25 l0 l1 S = some R → nk_K ja_Tt mi_Γ (mi_ev zs) 1 106 25 [(0, nk_r l0), (1, nk_i l1)] [] S R := by
  intro l0 l1 S R t_l0 hr
  unfold ja_X13_dereference_b25 at hr
  refine nk_p (i := .aload_n 0) (len := 1) (pc' := 26) mJ_106 (by decide +kernel) (ns_aload_n 0 rfl rfl) rfl ?_
  refine nk_p (i := .iload_n 1) (len := 1) (pc' := 27) mJ_106 (by decide +kernel) (ns_iload_n 1 rfl rfl) rfl ?_
  refine nk_ldc2 (x := 658) (len := 3) (X := (-4611686018427387905)) (v := (-4611686018427387905)) (pc' := 30) mJ_106 (by decide +kernel) (by decide +kernel) (by decide +kernel) rfl ?_
  obtain ⟨r1, S2, h3, hr⟩ := nk_bde hr
  refine nk_callV (ci := 13) (n := 2) (x := 660) (len := 3) (j' := 170) (q' := 1) (r := r1) (S' := S2) (L2 := [(0, nk_r l0), (1, nk_i l1), (2, nk_l (-4611686018427387905))]) (rest := []) (st' := [nk_i r1]) (pc' := 33) mJ_106 (by decide +kernel) (by decide +kernel) rfl rfl t_l0 (Nat.le_of_ble_eq_true rfl) mJ_170 (Nat.le_of_ble_eq_true rfl) rfl (ja_X13_keeps_ok zs _ _ _ _ _ t_l0 h3) rfl ?_
  obtain ⟨h4, hr⟩ := nk_cke hr
  cases hr
  exact nk_iret (ty := .boolean) (len := 1) mJ_106 (by decide +kernel) rfl (nk_nar_z h4)
noncomputable def ja_X13_dereference (l0 : Nat) (l1 : Int) (S : nk_S) : Option (Int × nk_S) :=
  if 0 ≤ l1 ∧ l1 < 24 then
  if (nk_land (S.1 (ja_c l0 29) l1.toNat) 4611686018427387904) = 0 then
    ja_X13_dereference_b25 l0 l1 S
  else
    nk_lt (nk_wi S l0 39 (nk_ior (S.1 l0 39) 1)) fun S3 =>
    ja_X13_dereference_b25 l0 l1 S3
  else none
theorem ja_X13_dereference_ok (zs : List Int32) : ∀ (l0 : Nat) (l1 : Int) (S : nk_S) (R : Int × nk_S), nk_cl ja_Tt l0 = some 13 → ja_X13_dereference l0 l1 S = some R → nk_K ja_Tt mi_Γ (mi_ev zs) 1 106 0 [(0, nk_r l0), (1, nk_i l1)] [] S R := by
  intro l0 l1 S R t_l0 hr
  unfold ja_X13_dereference at hr
  refine nk_p (i := .aload_n 0) (len := 1) (pc' := 1) mJ_106 (by decide +kernel) (ns_aload_n 0 rfl rfl) rfl ?_
  refine nk_getC (f := (4, 2, 24)) (x := 80) (len := 3) (ci := 13) (k := 29) (pc' := 4) ja_okT mJ_106 (by decide +kernel) (by decide +kernel) (by decide +kernel) (by decide) t_l0 rfl ?_
  have t1 : nk_ar ja_Tt (ja_c l0 29) = some (2, 24) := nk_ta ja_okT t_l0 (by decide +kernel)
  refine nk_p (i := .iload_n 1) (len := 1) (pc' := 5) mJ_106 (by decide +kernel) (ns_iload_n 1 rfl rfl) rfl ?_
  obtain ⟨h2, hr⟩ := nk_cke hr
  refine nk_lald (len := 1) (N := 24) (pc' := 6) mJ_106 (by decide +kernel) t1 h2.1 h2.2 rfl rfl ?_
  refine nk_ldc2 (x := 599) (len := 3) (X := 4611686018427387904) (v := 4611686018427387904) (pc' := 9) mJ_106 (by decide +kernel) (by decide +kernel) (by decide +kernel) rfl ?_
  refine nk_p (i := .land) (len := 1) (pc' := 10) mJ_106 (by decide +kernel) ns_land rfl ?_
  refine nk_p (i := .lconst 0) (len := 1) (pc' := 11) mJ_106 (by decide +kernel) (ns_lconst (c := 0) (by decide +kernel)) rfl ?_
  refine nk_p (i := .lcmp) (len := 1) (pc' := 12) mJ_106 (by decide +kernel) ns_lcmp rfl ?_
  refine nk_lcond (c := .eq) (off := 13) (len := 3) (t := 25) (pc' := 15) mJ_106 (by decide +kernel) (by decide +kernel) rfl (fun hc => ?_) (fun hc => ?_)
  · have hr := nk_ifp (c := (nk_land (S.1 (ja_c l0 29) l1.toNat) 4611686018427387904) = 0) hc hr
    exact ja_X13_dereference_b25_ok zs _ _ _ _ t_l0 hr
  · have hr := nk_ifn (c := (nk_land (S.1 (ja_c l0 29) l1.toNat) 4611686018427387904) = 0) hc hr
    refine nk_p (i := .aload_n 0) (len := 1) (pc' := 16) mJ_106 (by decide +kernel) (ns_aload_n 0 rfl rfl) rfl ?_
    refine nk_p (i := .dup) (len := 1) (pc' := 17) mJ_106 (by decide +kernel) (ns_dup rfl) rfl ?_
    refine nk_getI (y := (0, 0)) (x := 625) (len := 3) (ci := 13) (k := 39) (pc' := 20) ja_okT mJ_106 (by decide +kernel) (by decide +kernel) (by decide +kernel) t_l0 rfl ?_
    refine nk_p (i := .iconst 1) (len := 1) (pc' := 21) mJ_106 (by decide +kernel) (ns_iconst (c := 1) (by decide +kernel)) rfl ?_
    refine nk_p (i := .ior) (len := 1) (pc' := 22) mJ_106 (by decide +kernel) ns_ior rfl ?_
    obtain ⟨S3, h4, hr⟩ := nk_lte hr
    refine nk_putI (y := (0, 0)) (ty := .int) (x := 625) (len := 3) (ci := 13) (k := 39) (pc' := 25) ja_okT mJ_106 (by decide +kernel) (by decide +kernel) (by decide +kernel) t_l0 (Or.inl rfl) rfl h4 ?_
    exact ja_X13_dereference_b25_ok zs _ _ _ _ t_l0 hr
/-! SafeCodeModel joinSites (LSafeCodeModel$Program;IJ)V -/
noncomputable def ja_X13_joinSites_b28 (l0 : Nat) (l1 : Nat) (l2 : Int) (l3 : Int) (S : nk_S) : Option (Int × nk_S) :=
  if 0 ≤ l2 ∧ l2 < 3324 then
  nk_lt (nk_wi S (ja_c l1 49) l2.toNat (nk_lor (S.1 (ja_c l1 49) l2.toNat) l3)) fun S3 =>
  nk_lt (nk_wi S3 (ja_c l1 46) l2.toNat (nk_i2b 2)) fun S6 =>
  nk_lt (nk_wi S6 l0 37 1) fun S8 =>
  some (0, S8)
  else none
theorem ja_X13_joinSites_b28_ok (zs : List Int32) : ∀ (l0 : Nat) (l1 : Nat) (l2 : Int) (l3 : Int) (S : nk_S) (R : Int × nk_S), nk_cl ja_Tt l0 = some 13 → nk_cl ja_Tt l1 = some 12 → ja_X13_joinSites_b28 l0 l1 l2 l3 S = some R → nk_K ja_Tt mi_Γ (mi_ev zs) 0 166 28 [(0, nk_r l0), (1, nk_r l1), (2, nk_i l2), (3, nk_l l3)] [] S R := by
  intro l0 l1 l2 l3 S R t_l0 t_l1 hr
  unfold ja_X13_joinSites_b28 at hr
  refine nk_p (i := .aload_n 1) (len := 1) (pc' := 29) mJ_166 (by decide +kernel) (ns_aload_n 1 rfl rfl) rfl ?_
  refine nk_getC (f := (4, 2, 3324)) (x := 588) (len := 3) (ci := 12) (k := 49) (pc' := 32) ja_okT mJ_166 (by decide +kernel) (by decide +kernel) (by decide +kernel) (by decide) t_l1 rfl ?_
  have t1 : nk_ar ja_Tt (ja_c l1 49) = some (2, 3324) := nk_ta ja_okT t_l1 (by decide +kernel)
  refine nk_p (i := .iload_n 2) (len := 1) (pc' := 33) mJ_166 (by decide +kernel) (ns_iload_n 2 rfl rfl) rfl ?_
  refine nk_p (i := .dup2) (len := 1) (pc' := 34) mJ_166 (by decide +kernel) (ns_dup2 rfl rfl) rfl ?_
  obtain ⟨h2, hr⟩ := nk_cke hr
  refine nk_lald (len := 1) (N := 3324) (pc' := 35) mJ_166 (by decide +kernel) t1 h2.1 h2.2 rfl rfl ?_
  refine nk_p (i := .lload_n 3) (len := 1) (pc' := 36) mJ_166 (by decide +kernel) (ns_lload_n 3 rfl rfl) rfl ?_
  refine nk_p (i := .lor) (len := 1) (pc' := 37) mJ_166 (by decide +kernel) ns_lor rfl ?_
  obtain ⟨S3, h4, hr⟩ := nk_lte hr
  refine nk_last (len := 1) (N := 3324) (pc' := 38) mJ_166 (by decide +kernel) t1 h2.1 h2.2 rfl rfl h4 ?_
  refine nk_p (i := .aload_n 1) (len := 1) (pc' := 39) mJ_166 (by decide +kernel) (ns_aload_n 1 rfl rfl) rfl ?_
  refine nk_getC (f := (4, 0, 3324)) (x := 576) (len := 3) (ci := 12) (k := 46) (pc' := 42) ja_okT mJ_166 (by decide +kernel) (by decide +kernel) (by decide +kernel) (by decide) t_l1 rfl ?_
  have t5 : nk_ar ja_Tt (ja_c l1 46) = some (0, 3324) := nk_ta ja_okT t_l1 (by decide +kernel)
  refine nk_p (i := .iload_n 2) (len := 1) (pc' := 43) mJ_166 (by decide +kernel) (ns_iload_n 2 rfl rfl) rfl ?_
  refine nk_p (i := .iconst 2) (len := 1) (pc' := 44) mJ_166 (by decide +kernel) (ns_iconst (c := 2) (by decide +kernel)) rfl ?_
  obtain ⟨S6, h7, hr⟩ := nk_lte hr
  refine nk_bast (len := 1) (N := 3324) (pc' := 45) mJ_166 (by decide +kernel) t5 h2.1 h2.2 rfl rfl h7 ?_
  refine nk_p (i := .aload_n 0) (len := 1) (pc' := 46) mJ_166 (by decide +kernel) (ns_aload_n 0 rfl rfl) rfl ?_
  refine nk_p (i := .iconst 1) (len := 1) (pc' := 47) mJ_166 (by decide +kernel) (ns_iconst (c := 1) (by decide +kernel)) rfl ?_
  obtain ⟨S8, h9, hr⟩ := nk_lte hr
  refine nk_putI (y := (0, 0)) (ty := .boolean) (x := 585) (len := 3) (ci := 13) (k := 37) (pc' := 50) ja_okT mJ_166 (by decide +kernel) (by decide +kernel) (by decide +kernel) t_l0 (Or.inr ⟨rfl, by decide⟩) rfl h9 ?_
  cases hr
  exact nk_vret (len := 1) mJ_166 (by decide +kernel) rfl
noncomputable def ja_X13_joinSites (l0 : Nat) (l1 : Nat) (l2 : Int) (l3 : Int) (S : nk_S) : Option (Int × nk_S) :=
  if 0 ≤ l2 ∧ l2 < 3324 then
  if (S.1 (ja_c l1 46) l2.toNat) = 2 then
    if (nk_land l3 (nk_lxor (S.1 (ja_c l1 49) l2.toNat) (-1))) = 0 then
      some (0, S)
    else
      ja_X13_joinSites_b28 l0 l1 l2 l3 S
  else
    ja_X13_joinSites_b28 l0 l1 l2 l3 S
  else none
theorem ja_X13_joinSites_ok (zs : List Int32) : ∀ (l0 : Nat) (l1 : Nat) (l2 : Int) (l3 : Int) (S : nk_S) (R : Int × nk_S), nk_cl ja_Tt l0 = some 13 → nk_cl ja_Tt l1 = some 12 → ja_X13_joinSites l0 l1 l2 l3 S = some R → nk_K ja_Tt mi_Γ (mi_ev zs) 0 166 0 [(0, nk_r l0), (1, nk_r l1), (2, nk_i l2), (3, nk_l l3)] [] S R := by
  intro l0 l1 l2 l3 S R t_l0 t_l1 hr
  unfold ja_X13_joinSites at hr
  refine nk_p (i := .aload_n 1) (len := 1) (pc' := 1) mJ_166 (by decide +kernel) (ns_aload_n 1 rfl rfl) rfl ?_
  refine nk_getC (f := (4, 0, 3324)) (x := 576) (len := 3) (ci := 12) (k := 46) (pc' := 4) ja_okT mJ_166 (by decide +kernel) (by decide +kernel) (by decide +kernel) (by decide) t_l1 rfl ?_
  have t1 : nk_ar ja_Tt (ja_c l1 46) = some (0, 3324) := nk_ta ja_okT t_l1 (by decide +kernel)
  refine nk_p (i := .iload_n 2) (len := 1) (pc' := 5) mJ_166 (by decide +kernel) (ns_iload_n 2 rfl rfl) rfl ?_
  obtain ⟨h2, hr⟩ := nk_cke hr
  refine nk_bald (t := 0) (len := 1) (N := 3324) (pc' := 6) mJ_166 (by decide +kernel) t1 (by decide) h2.1 h2.2 rfl rfl ?_
  refine nk_p (i := .iconst 2) (len := 1) (pc' := 7) mJ_166 (by decide +kernel) (ns_iconst (c := 2) (by decide +kernel)) rfl ?_
  refine nk_icmp (c := .ne) (off := 21) (len := 3) (t := 28) (pc' := 10) mJ_166 (by decide +kernel) (by decide +kernel) rfl (fun hc => ?_) (fun hc => ?_)
  · have hr := nk_ifn (c := (S.1 (ja_c l1 46) l2.toNat) = 2) hc hr
    exact ja_X13_joinSites_b28_ok zs _ _ _ _ _ _ t_l0 t_l1 hr
  · have hr := nk_ifp (c := (S.1 (ja_c l1 46) l2.toNat) = 2) (Decidable.of_not_not hc) hr
    refine nk_p (i := .lload_n 3) (len := 1) (pc' := 11) mJ_166 (by decide +kernel) (ns_lload_n 3 rfl rfl) rfl ?_
    refine nk_p (i := .aload_n 1) (len := 1) (pc' := 12) mJ_166 (by decide +kernel) (ns_aload_n 1 rfl rfl) rfl ?_
    refine nk_getC (f := (4, 2, 3324)) (x := 588) (len := 3) (ci := 12) (k := 49) (pc' := 15) ja_okT mJ_166 (by decide +kernel) (by decide +kernel) (by decide +kernel) (by decide) t_l1 rfl ?_
    have t3 : nk_ar ja_Tt (ja_c l1 49) = some (2, 3324) := nk_ta ja_okT t_l1 (by decide +kernel)
    refine nk_p (i := .iload_n 2) (len := 1) (pc' := 16) mJ_166 (by decide +kernel) (ns_iload_n 2 rfl rfl) rfl ?_
    refine nk_lald (len := 1) (N := 3324) (pc' := 17) mJ_166 (by decide +kernel) t3 h2.1 h2.2 rfl rfl ?_
    refine nk_ldc2 (x := 549) (len := 3) (X := (-1)) (v := (-1)) (pc' := 20) mJ_166 (by decide +kernel) (by decide +kernel) (by decide +kernel) rfl ?_
    refine nk_p (i := .lxor) (len := 1) (pc' := 21) mJ_166 (by decide +kernel) ns_lxor rfl ?_
    refine nk_p (i := .land) (len := 1) (pc' := 22) mJ_166 (by decide +kernel) ns_land rfl ?_
    refine nk_p (i := .lconst 0) (len := 1) (pc' := 23) mJ_166 (by decide +kernel) (ns_lconst (c := 0) (by decide +kernel)) rfl ?_
    refine nk_p (i := .lcmp) (len := 1) (pc' := 24) mJ_166 (by decide +kernel) ns_lcmp rfl ?_
    refine nk_lcond (c := .ne) (off := 4) (len := 3) (t := 28) (pc' := 27) mJ_166 (by decide +kernel) (by decide +kernel) rfl (fun hc => ?_) (fun hc => ?_)
    · have hr := nk_ifn (c := (nk_land l3 (nk_lxor (S.1 (ja_c l1 49) l2.toNat) (-1))) = 0) hc hr
      exact ja_X13_joinSites_b28_ok zs _ _ _ _ _ _ t_l0 t_l1 hr
    · have hr := nk_ifp (c := (nk_land l3 (nk_lxor (S.1 (ja_c l1 49) l2.toNat) (-1))) = 0) (Decidable.of_not_not hc) hr
      cases hr
      exact nk_vret (len := 1) mJ_166 (by decide +kernel) rfl
/-! SafeCodeModel joinRange (LSafeCodeModel$Program;III)V -/
noncomputable def ja_X13_joinRange_b100 (l0 : Nat) (l1 : Nat) (l2 : Int) (s0 : Nat) (s1 : Int) (s2 : Int) (S : nk_S) : Option (Int × nk_S) :=
  if 0 ≤ s1 ∧ s1 < 3324 then
  nk_lt (nk_wi S s0 s1.toNat s2) fun S2 =>
  if 0 ≤ l2 ∧ l2 < 3324 then
  nk_lt (nk_wi S2 (ja_c l1 46) l2.toNat (nk_i2b 1)) fun S6 =>
  nk_lt (nk_wi S6 l0 37 1) fun S8 =>
  some (0, S8)
  else none
  else none
theorem ja_X13_joinRange_b100_ok (zs : List Int32) : ∀ (l0 : Nat) (l1 : Nat) (l2 : Int) (s0 : Nat) (s1 : Int) (s2 : Int) (S : nk_S) (R : Int × nk_S), nk_cl ja_Tt l0 = some 13 → nk_cl ja_Tt l1 = some 12 → nk_ar ja_Tt s0 = some (1, 3324) → ja_X13_joinRange_b100 l0 l1 l2 s0 s1 s2 S = some R → nk_K ja_Tt mi_Γ (mi_ev zs) 0 165 100 [(0, nk_r l0), (1, nk_r l1), (2, nk_i l2)] [nk_i s2, nk_i s1, nk_r s0] S R := by
  intro l0 l1 l2 s0 s1 s2 S R t_l0 t_l1 t_s0 hr
  unfold ja_X13_joinRange_b100 at hr
  obtain ⟨h1, hr⟩ := nk_cke hr
  obtain ⟨S2, h3, hr⟩ := nk_lte hr
  refine nk_iast (len := 1) (N := 3324) (pc' := 101) mJ_165 (by decide +kernel) t_s0 h1.1 h1.2 rfl rfl h3 ?_
  refine nk_p (i := .aload_n 1) (len := 1) (pc' := 102) mJ_165 (by decide +kernel) (ns_aload_n 1 rfl rfl) rfl ?_
  refine nk_getC (f := (4, 0, 3324)) (x := 576) (len := 3) (ci := 12) (k := 46) (pc' := 105) ja_okT mJ_165 (by decide +kernel) (by decide +kernel) (by decide +kernel) (by decide) t_l1 rfl ?_
  have t4 : nk_ar ja_Tt (ja_c l1 46) = some (0, 3324) := nk_ta ja_okT t_l1 (by decide +kernel)
  refine nk_p (i := .iload_n 2) (len := 1) (pc' := 106) mJ_165 (by decide +kernel) (ns_iload_n 2 rfl rfl) rfl ?_
  refine nk_p (i := .iconst 1) (len := 1) (pc' := 107) mJ_165 (by decide +kernel) (ns_iconst (c := 1) (by decide +kernel)) rfl ?_
  obtain ⟨h5, hr⟩ := nk_cke hr
  obtain ⟨S6, h7, hr⟩ := nk_lte hr
  refine nk_bast (len := 1) (N := 3324) (pc' := 108) mJ_165 (by decide +kernel) t4 h5.1 h5.2 rfl rfl h7 ?_
  refine nk_p (i := .aload_n 0) (len := 1) (pc' := 109) mJ_165 (by decide +kernel) (ns_aload_n 0 rfl rfl) rfl ?_
  refine nk_p (i := .iconst 1) (len := 1) (pc' := 110) mJ_165 (by decide +kernel) (ns_iconst (c := 1) (by decide +kernel)) rfl ?_
  obtain ⟨S8, h9, hr⟩ := nk_lte hr
  refine nk_putI (y := (0, 0)) (ty := .boolean) (x := 585) (len := 3) (ci := 13) (k := 37) (pc' := 113) ja_okT mJ_165 (by decide +kernel) (by decide +kernel) (by decide +kernel) t_l0 (Or.inr ⟨rfl, by decide⟩) rfl h9 ?_
  cases hr
  exact nk_vret (len := 1) mJ_165 (by decide +kernel) rfl
noncomputable def ja_X13_joinRange_b73 (l0 : Nat) (l1 : Nat) (l2 : Int) (l4 : Int) (l5 : Int) (s0 : Nat) (s1 : Int) (s2 : Int) (S : nk_S) : Option (Int × nk_S) :=
  if 0 ≤ s1 ∧ s1 < 3324 then
  nk_lt (nk_wi S s0 s1.toNat s2) fun S2 =>
  if l5 = 0 then
    if 0 ≤ l2 ∧ l2 < 3324 then
    nk_bd (ja_J9_max_7cf53 l4 (S2.1 (ja_c l1 48) l2.toNat) S2) fun r6 S7 =>
    ja_X13_joinRange_b100 l0 l1 l2 (ja_c l1 48) l2 r6 S7
    else none
  else
    ja_X13_joinRange_b100 l0 l1 l2 (ja_c l1 48) l2 l4 S2
  else none
theorem ja_X13_joinRange_b73_ok (zs : List Int32) : ∀ (l0 : Nat) (l1 : Nat) (l2 : Int) (l4 : Int) (l5 : Int) (s0 : Nat) (s1 : Int) (s2 : Int) (S : nk_S) (R : Int × nk_S), nk_cl ja_Tt l0 = some 13 → nk_cl ja_Tt l1 = some 12 → nk_ar ja_Tt s0 = some (1, 3324) → ja_X13_joinRange_b73 l0 l1 l2 l4 l5 s0 s1 s2 S = some R → nk_K ja_Tt mi_Γ (mi_ev zs) 0 165 73 [(0, nk_r l0), (1, nk_r l1), (2, nk_i l2), (4, nk_i l4), (5, nk_i l5)] [nk_i s2, nk_i s1, nk_r s0] S R := by
  intro l0 l1 l2 l4 l5 s0 s1 s2 S R t_l0 t_l1 t_s0 hr
  unfold ja_X13_joinRange_b73 at hr
  obtain ⟨h1, hr⟩ := nk_cke hr
  obtain ⟨S2, h3, hr⟩ := nk_lte hr
  refine nk_iast (len := 1) (N := 3324) (pc' := 74) mJ_165 (by decide +kernel) t_s0 h1.1 h1.2 rfl rfl h3 ?_
  refine nk_p (i := .aload_n 1) (len := 1) (pc' := 75) mJ_165 (by decide +kernel) (ns_aload_n 1 rfl rfl) rfl ?_
  refine nk_getC (f := (4, 1, 3324)) (x := 582) (len := 3) (ci := 12) (k := 48) (pc' := 78) ja_okT mJ_165 (by decide +kernel) (by decide +kernel) (by decide +kernel) (by decide) t_l1 rfl ?_
  have t4 : nk_ar ja_Tt (ja_c l1 48) = some (1, 3324) := nk_ta ja_okT t_l1 (by decide +kernel)
  refine nk_p (i := .iload_n 2) (len := 1) (pc' := 79) mJ_165 (by decide +kernel) (ns_iload_n 2 rfl rfl) rfl ?_
  refine nk_p (i := .iload 5) (len := 2) (pc' := 81) mJ_165 (by decide +kernel) (ns_iload 4 rfl) rfl ?_
  refine nk_icond (c := .eq) (off := 8) (len := 3) (t := 89) (pc' := 84) mJ_165 (by decide +kernel) (by decide +kernel) rfl (fun hc => ?_) (fun hc => ?_)
  · have hr := nk_ifp (c := l5 = 0) hc hr
    refine nk_p (i := .iload 4) (len := 2) (pc' := 91) mJ_165 (by decide +kernel) (ns_iload 3 rfl) rfl ?_
    refine nk_p (i := .aload_n 1) (len := 1) (pc' := 92) mJ_165 (by decide +kernel) (ns_aload_n 1 rfl rfl) rfl ?_
    refine nk_getC (f := (4, 1, 3324)) (x := 582) (len := 3) (ci := 12) (k := 48) (pc' := 95) ja_okT mJ_165 (by decide +kernel) (by decide +kernel) (by decide +kernel) (by decide) t_l1 rfl ?_
    refine nk_p (i := .iload_n 2) (len := 1) (pc' := 96) mJ_165 (by decide +kernel) (ns_iload_n 2 rfl rfl) rfl ?_
    obtain ⟨h5, hr⟩ := nk_cke hr
    refine nk_iald (len := 1) (N := 3324) (pc' := 97) mJ_165 (by decide +kernel) t4 h5.1 h5.2 rfl rfl ?_
    obtain ⟨r6, S7, h8, hr⟩ := nk_bde hr
    refine nk_callS (ci := 0) (n := 2) (x := 557) (len := 3) (j' := 16) (q' := 1) (r := r6) (S' := S7) (L2 := [(0, nk_i l4), (1, nk_i (S2.1 (ja_c l1 48) l2.toNat))]) (rest := [nk_i l2, nk_r (ja_c l1 48)]) (st' := [nk_i r6, nk_i l2, nk_r (ja_c l1 48)]) (pc' := 100) mJ_165 (by decide +kernel) (by decide +kernel) (Nat.le_of_ble_eq_true rfl) rfl rfl (Nat.le_of_ble_eq_true rfl) mJ_16 (Nat.le_of_ble_eq_true rfl) ja_Tpos rfl (ja_J9_max_7cf53_ok zs _ _ _ _ h8) rfl ?_
    refine nk_sub [0, 1, 2] (L' := [(0, nk_r l0), (1, nk_r l1), (2, nk_i l2)]) rfl ?_
    exact ja_X13_joinRange_b100_ok zs _ _ _ _ _ _ _ _ t_l0 t_l1 t4 hr
  · have hr := nk_ifn (c := l5 = 0) hc hr
    refine nk_p (i := .iload 4) (len := 2) (pc' := 86) mJ_165 (by decide +kernel) (ns_iload 3 rfl) rfl ?_
    refine nk_p (i := .goto 14) (len := 3) (pc' := 100) mJ_165 (by decide +kernel) (ns_goto (by decide +kernel)) rfl ?_
    refine nk_sub [0, 1, 2] (L' := [(0, nk_r l0), (1, nk_r l1), (2, nk_i l2)]) rfl ?_
    exact ja_X13_joinRange_b100_ok zs _ _ _ _ _ _ _ _ t_l0 t_l1 t4 hr
noncomputable def ja_X13_joinRange_b47 (l0 : Nat) (l1 : Nat) (l2 : Int) (l3 : Int) (l4 : Int) (s0 : Int) (S : nk_S) : Option (Int × nk_S) :=
  if s0 = 0 then
    if 0 ≤ l2 ∧ l2 < 3324 then
    nk_bd (ja_J9_min_7cf53 l3 (S.1 (ja_c l1 47) l2.toNat) S) fun r3 S4 =>
    ja_X13_joinRange_b73 l0 l1 l2 l4 s0 (ja_c l1 47) l2 r3 S4
    else none
  else
    ja_X13_joinRange_b73 l0 l1 l2 l4 s0 (ja_c l1 47) l2 l3 S
theorem ja_X13_joinRange_b47_ok (zs : List Int32) : ∀ (l0 : Nat) (l1 : Nat) (l2 : Int) (l3 : Int) (l4 : Int) (s0 : Int) (S : nk_S) (R : Int × nk_S), nk_cl ja_Tt l0 = some 13 → nk_cl ja_Tt l1 = some 12 → ja_X13_joinRange_b47 l0 l1 l2 l3 l4 s0 S = some R → nk_K ja_Tt mi_Γ (mi_ev zs) 0 165 47 [(0, nk_r l0), (1, nk_r l1), (2, nk_i l2), (3, nk_i l3), (4, nk_i l4)] [nk_i s0] S R := by
  intro l0 l1 l2 l3 l4 s0 S R t_l0 t_l1 hr
  unfold ja_X13_joinRange_b47 at hr
  refine nk_p (i := .istore 5) (len := 2) (pc' := 49) mJ_165 (by decide +kernel) (ns_istore (L' := [(5, nk_i s0), (0, nk_r l0), (1, nk_r l1), (2, nk_i l2), (3, nk_i l3), (4, nk_i l4)]) rfl rfl (by decide +kernel)) rfl ?_
  refine nk_p (i := .aload_n 1) (len := 1) (pc' := 50) mJ_165 (by decide +kernel) (ns_aload_n 2 rfl rfl) rfl ?_
  refine nk_getC (f := (4, 1, 3324)) (x := 579) (len := 3) (ci := 12) (k := 47) (pc' := 53) ja_okT mJ_165 (by decide +kernel) (by decide +kernel) (by decide +kernel) (by decide) t_l1 rfl ?_
  have t1 : nk_ar ja_Tt (ja_c l1 47) = some (1, 3324) := nk_ta ja_okT t_l1 (by decide +kernel)
  refine nk_p (i := .iload_n 2) (len := 1) (pc' := 54) mJ_165 (by decide +kernel) (ns_iload_n 3 rfl rfl) rfl ?_
  refine nk_p (i := .iload 5) (len := 2) (pc' := 56) mJ_165 (by decide +kernel) (ns_iload 0 rfl) rfl ?_
  refine nk_icond (c := .eq) (off := 7) (len := 3) (t := 63) (pc' := 59) mJ_165 (by decide +kernel) (by decide +kernel) rfl (fun hc => ?_) (fun hc => ?_)
  · have hr := nk_ifp (c := s0 = 0) hc hr
    refine nk_p (i := .iload_n 3) (len := 1) (pc' := 64) mJ_165 (by decide +kernel) (ns_iload_n 4 rfl rfl) rfl ?_
    refine nk_p (i := .aload_n 1) (len := 1) (pc' := 65) mJ_165 (by decide +kernel) (ns_aload_n 2 rfl rfl) rfl ?_
    refine nk_getC (f := (4, 1, 3324)) (x := 579) (len := 3) (ci := 12) (k := 47) (pc' := 68) ja_okT mJ_165 (by decide +kernel) (by decide +kernel) (by decide +kernel) (by decide) t_l1 rfl ?_
    refine nk_p (i := .iload_n 2) (len := 1) (pc' := 69) mJ_165 (by decide +kernel) (ns_iload_n 3 rfl rfl) rfl ?_
    obtain ⟨h2, hr⟩ := nk_cke hr
    refine nk_iald (len := 1) (N := 3324) (pc' := 70) mJ_165 (by decide +kernel) t1 h2.1 h2.2 rfl rfl ?_
    obtain ⟨r3, S4, h5, hr⟩ := nk_bde hr
    refine nk_callS (ci := 0) (n := 2) (x := 551) (len := 3) (j' := 18) (q' := 1) (r := r3) (S' := S4) (L2 := [(0, nk_i l3), (1, nk_i (S.1 (ja_c l1 47) l2.toNat))]) (rest := [nk_i l2, nk_r (ja_c l1 47)]) (st' := [nk_i r3, nk_i l2, nk_r (ja_c l1 47)]) (pc' := 73) mJ_165 (by decide +kernel) (by decide +kernel) (Nat.le_of_ble_eq_true rfl) rfl rfl (Nat.le_of_ble_eq_true rfl) mJ_18 (Nat.le_of_ble_eq_true rfl) ja_Tpos rfl (ja_J9_min_7cf53_ok zs _ _ _ _ h5) rfl ?_
    refine nk_sub [1, 2, 3, 5, 0] (L' := [(0, nk_r l0), (1, nk_r l1), (2, nk_i l2), (4, nk_i l4), (5, nk_i s0)]) rfl ?_
    exact ja_X13_joinRange_b73_ok zs _ _ _ _ _ _ _ _ _ _ t_l0 t_l1 t1 hr
  · have hr := nk_ifn (c := s0 = 0) hc hr
    refine nk_p (i := .iload_n 3) (len := 1) (pc' := 60) mJ_165 (by decide +kernel) (ns_iload_n 4 rfl rfl) rfl ?_
    refine nk_p (i := .goto 13) (len := 3) (pc' := 73) mJ_165 (by decide +kernel) (ns_goto (by decide +kernel)) rfl ?_
    refine nk_sub [1, 2, 3, 5, 0] (L' := [(0, nk_r l0), (1, nk_r l1), (2, nk_i l2), (4, nk_i l4), (5, nk_i s0)]) rfl ?_
    exact ja_X13_joinRange_b73_ok zs _ _ _ _ _ _ _ _ _ _ t_l0 t_l1 t1 hr
noncomputable def ja_X13_joinRange_b32 (l0 : Nat) (l1 : Nat) (l2 : Int) (l3 : Int) (l4 : Int) (S : nk_S) : Option (Int × nk_S) :=
  if 0 ≤ l2 ∧ l2 < 3324 then
  if (S.1 (ja_c l1 46) l2.toNat) = 1 then
    ja_X13_joinRange_b47 l0 l1 l2 l3 l4 0 S
  else
    ja_X13_joinRange_b47 l0 l1 l2 l3 l4 1 S
  else none
theorem ja_X13_joinRange_b32_ok (zs : List Int32) : ∀ (l0 : Nat) (l1 : Nat) (l2 : Int) (l3 : Int) (l4 : Int) (S : nk_S) (R : Int × nk_S), nk_cl ja_Tt l0 = some 13 → nk_cl ja_Tt l1 = some 12 → ja_X13_joinRange_b32 l0 l1 l2 l3 l4 S = some R → nk_K ja_Tt mi_Γ (mi_ev zs) 0 165 32 [(0, nk_r l0), (1, nk_r l1), (2, nk_i l2), (3, nk_i l3), (4, nk_i l4)] [] S R := by
  intro l0 l1 l2 l3 l4 S R t_l0 t_l1 hr
  unfold ja_X13_joinRange_b32 at hr
  refine nk_p (i := .aload_n 1) (len := 1) (pc' := 33) mJ_165 (by decide +kernel) (ns_aload_n 1 rfl rfl) rfl ?_
  refine nk_getC (f := (4, 0, 3324)) (x := 576) (len := 3) (ci := 12) (k := 46) (pc' := 36) ja_okT mJ_165 (by decide +kernel) (by decide +kernel) (by decide +kernel) (by decide) t_l1 rfl ?_
  have t1 : nk_ar ja_Tt (ja_c l1 46) = some (0, 3324) := nk_ta ja_okT t_l1 (by decide +kernel)
  refine nk_p (i := .iload_n 2) (len := 1) (pc' := 37) mJ_165 (by decide +kernel) (ns_iload_n 2 rfl rfl) rfl ?_
  obtain ⟨h2, hr⟩ := nk_cke hr
  refine nk_bald (t := 0) (len := 1) (N := 3324) (pc' := 38) mJ_165 (by decide +kernel) t1 (by decide) h2.1 h2.2 rfl rfl ?_
  refine nk_p (i := .iconst 1) (len := 1) (pc' := 39) mJ_165 (by decide +kernel) (ns_iconst (c := 1) (by decide +kernel)) rfl ?_
  refine nk_icmp (c := .eq) (off := 7) (len := 3) (t := 46) (pc' := 42) mJ_165 (by decide +kernel) (by decide +kernel) rfl (fun hc => ?_) (fun hc => ?_)
  · have hr := nk_ifp (c := (S.1 (ja_c l1 46) l2.toNat) = 1) hc hr
    refine nk_p (i := .iconst 0) (len := 1) (pc' := 47) mJ_165 (by decide +kernel) (ns_iconst (c := 0) (by decide +kernel)) rfl ?_
    exact ja_X13_joinRange_b47_ok zs _ _ _ _ _ _ _ _ t_l0 t_l1 hr
  · have hr := nk_ifn (c := (S.1 (ja_c l1 46) l2.toNat) = 1) hc hr
    refine nk_p (i := .iconst 1) (len := 1) (pc' := 43) mJ_165 (by decide +kernel) (ns_iconst (c := 1) (by decide +kernel)) rfl ?_
    refine nk_p (i := .goto 4) (len := 3) (pc' := 47) mJ_165 (by decide +kernel) (ns_goto (by decide +kernel)) rfl ?_
    exact ja_X13_joinRange_b47_ok zs _ _ _ _ _ _ _ _ t_l0 t_l1 hr
noncomputable def ja_X13_joinRange (l0 : Nat) (l1 : Nat) (l2 : Int) (l3 : Int) (l4 : Int) (S : nk_S) : Option (Int × nk_S) :=
  if 0 ≤ l2 ∧ l2 < 3324 then
  if (S.1 (ja_c l1 46) l2.toNat) = 1 then
    if l3 < (S.1 (ja_c l1 47) l2.toNat) then
      ja_X13_joinRange_b32 l0 l1 l2 l3 l4 S
    else
      if (S.1 (ja_c l1 48) l2.toNat) < l4 then
        ja_X13_joinRange_b32 l0 l1 l2 l3 l4 S
      else
        some (0, S)
  else
    ja_X13_joinRange_b32 l0 l1 l2 l3 l4 S
  else none
theorem ja_X13_joinRange_ok (zs : List Int32) : ∀ (l0 : Nat) (l1 : Nat) (l2 : Int) (l3 : Int) (l4 : Int) (S : nk_S) (R : Int × nk_S), nk_cl ja_Tt l0 = some 13 → nk_cl ja_Tt l1 = some 12 → ja_X13_joinRange l0 l1 l2 l3 l4 S = some R → nk_K ja_Tt mi_Γ (mi_ev zs) 0 165 0 [(0, nk_r l0), (1, nk_r l1), (2, nk_i l2), (3, nk_i l3), (4, nk_i l4)] [] S R := by
  intro l0 l1 l2 l3 l4 S R t_l0 t_l1 hr
  unfold ja_X13_joinRange at hr
  refine nk_p (i := .aload_n 1) (len := 1) (pc' := 1) mJ_165 (by decide +kernel) (ns_aload_n 1 rfl rfl) rfl ?_
  refine nk_getC (f := (4, 0, 3324)) (x := 576) (len := 3) (ci := 12) (k := 46) (pc' := 4) ja_okT mJ_165 (by decide +kernel) (by decide +kernel) (by decide +kernel) (by decide) t_l1 rfl ?_
  have t1 : nk_ar ja_Tt (ja_c l1 46) = some (0, 3324) := nk_ta ja_okT t_l1 (by decide +kernel)
  refine nk_p (i := .iload_n 2) (len := 1) (pc' := 5) mJ_165 (by decide +kernel) (ns_iload_n 2 rfl rfl) rfl ?_
  obtain ⟨h2, hr⟩ := nk_cke hr
  refine nk_bald (t := 0) (len := 1) (N := 3324) (pc' := 6) mJ_165 (by decide +kernel) t1 (by decide) h2.1 h2.2 rfl rfl ?_
  refine nk_p (i := .iconst 1) (len := 1) (pc' := 7) mJ_165 (by decide +kernel) (ns_iconst (c := 1) (by decide +kernel)) rfl ?_
  refine nk_icmp (c := .ne) (off := 25) (len := 3) (t := 32) (pc' := 10) mJ_165 (by decide +kernel) (by decide +kernel) rfl (fun hc => ?_) (fun hc => ?_)
  · have hr := nk_ifn (c := (S.1 (ja_c l1 46) l2.toNat) = 1) hc hr
    exact ja_X13_joinRange_b32_ok zs _ _ _ _ _ _ _ t_l0 t_l1 hr
  · have hr := nk_ifp (c := (S.1 (ja_c l1 46) l2.toNat) = 1) (Decidable.of_not_not hc) hr
    refine nk_p (i := .aload_n 1) (len := 1) (pc' := 11) mJ_165 (by decide +kernel) (ns_aload_n 1 rfl rfl) rfl ?_
    refine nk_getC (f := (4, 1, 3324)) (x := 579) (len := 3) (ci := 12) (k := 47) (pc' := 14) ja_okT mJ_165 (by decide +kernel) (by decide +kernel) (by decide +kernel) (by decide) t_l1 rfl ?_
    have t3 : nk_ar ja_Tt (ja_c l1 47) = some (1, 3324) := nk_ta ja_okT t_l1 (by decide +kernel)
    refine nk_p (i := .iload_n 2) (len := 1) (pc' := 15) mJ_165 (by decide +kernel) (ns_iload_n 2 rfl rfl) rfl ?_
    refine nk_iald (len := 1) (N := 3324) (pc' := 16) mJ_165 (by decide +kernel) t3 h2.1 h2.2 rfl rfl ?_
    refine nk_p (i := .iload_n 3) (len := 1) (pc' := 17) mJ_165 (by decide +kernel) (ns_iload_n 3 rfl rfl) rfl ?_
    refine nk_icmp (c := .gt) (off := 15) (len := 3) (t := 32) (pc' := 20) mJ_165 (by decide +kernel) (by decide +kernel) rfl (fun hc => ?_) (fun hc => ?_)
    · have hr := nk_ifp (c := l3 < (S.1 (ja_c l1 47) l2.toNat)) hc hr
      exact ja_X13_joinRange_b32_ok zs _ _ _ _ _ _ _ t_l0 t_l1 hr
    · have hr := nk_ifn (c := l3 < (S.1 (ja_c l1 47) l2.toNat)) hc hr
      refine nk_p (i := .aload_n 1) (len := 1) (pc' := 21) mJ_165 (by decide +kernel) (ns_aload_n 1 rfl rfl) rfl ?_
      refine nk_getC (f := (4, 1, 3324)) (x := 582) (len := 3) (ci := 12) (k := 48) (pc' := 24) ja_okT mJ_165 (by decide +kernel) (by decide +kernel) (by decide +kernel) (by decide) t_l1 rfl ?_
      have t4 : nk_ar ja_Tt (ja_c l1 48) = some (1, 3324) := nk_ta ja_okT t_l1 (by decide +kernel)
      refine nk_p (i := .iload_n 2) (len := 1) (pc' := 25) mJ_165 (by decide +kernel) (ns_iload_n 2 rfl rfl) rfl ?_
      refine nk_iald (len := 1) (N := 3324) (pc' := 26) mJ_165 (by decide +kernel) t4 h2.1 h2.2 rfl rfl ?_
      refine nk_p (i := .iload 4) (len := 2) (pc' := 28) mJ_165 (by decide +kernel) (ns_iload 4 rfl) rfl ?_
      refine nk_icmp (c := .lt) (off := 4) (len := 3) (t := 32) (pc' := 31) mJ_165 (by decide +kernel) (by decide +kernel) rfl (fun hc => ?_) (fun hc => ?_)
      · have hr := nk_ifp (c := (S.1 (ja_c l1 48) l2.toNat) < l4) hc hr
        exact ja_X13_joinRange_b32_ok zs _ _ _ _ _ _ _ t_l0 t_l1 hr
      · have hr := nk_ifn (c := (S.1 (ja_c l1 48) l2.toNat) < l4) hc hr
        cases hr
        exact nk_vret (len := 1) mJ_165 (by decide +kernel) rfl
/-! SafeCodeModel joinSlotInto (LSafeCodeModel$Program;II)V -/
noncomputable def ja_X13_joinSlotInto (l0 : Nat) (l1 : Nat) (l2 : Int) (l3 : Int) (S : nk_S) : Option (Int × nk_S) :=
  if 0 ≤ l3 ∧ l3 < 24 then
  if (S.1 (ja_c l0 26) l3.toNat) = 1 then
    nk_bd (ja_X13_joinRange l0 l1 l2 (S.1 (ja_c l0 27) l3.toNat) (S.1 (ja_c l0 28) l3.toNat) S) fun r9 S10 =>
    some (0, S10)
  else
    if (S.1 (ja_c l0 26) l3.toNat) = 2 then
      nk_bd (ja_X13_joinSites l0 l1 l2 (S.1 (ja_c l0 29) l3.toNat) S) fun r4 S5 =>
      some (0, S5)
    else
      some (0, S)
  else none
theorem ja_X13_joinSlotInto_ok (zs : List Int32) : ∀ (l0 : Nat) (l1 : Nat) (l2 : Int) (l3 : Int) (S : nk_S) (R : Int × nk_S), nk_cl ja_Tt l0 = some 13 → nk_cl ja_Tt l1 = some 12 → ja_X13_joinSlotInto l0 l1 l2 l3 S = some R → nk_K ja_Tt mi_Γ (mi_ev zs) 0 168 0 [(0, nk_r l0), (1, nk_r l1), (2, nk_i l2), (3, nk_i l3)] [] S R := by
  intro l0 l1 l2 l3 S R t_l0 t_l1 hr
  unfold ja_X13_joinSlotInto at hr
  refine nk_p (i := .aload_n 0) (len := 1) (pc' := 1) mJ_168 (by decide +kernel) (ns_aload_n 0 rfl rfl) rfl ?_
  refine nk_getC (f := (4, 0, 24)) (x := 71) (len := 3) (ci := 13) (k := 26) (pc' := 4) ja_okT mJ_168 (by decide +kernel) (by decide +kernel) (by decide +kernel) (by decide) t_l0 rfl ?_
  have t1 : nk_ar ja_Tt (ja_c l0 26) = some (0, 24) := nk_ta ja_okT t_l0 (by decide +kernel)
  refine nk_p (i := .iload_n 3) (len := 1) (pc' := 5) mJ_168 (by decide +kernel) (ns_iload_n 3 rfl rfl) rfl ?_
  obtain ⟨h2, hr⟩ := nk_cke hr
  refine nk_bald (t := 0) (len := 1) (N := 24) (pc' := 6) mJ_168 (by decide +kernel) t1 (by decide) h2.1 h2.2 rfl rfl ?_
  refine nk_p (i := .iconst 1) (len := 1) (pc' := 7) mJ_168 (by decide +kernel) (ns_iconst (c := 1) (by decide +kernel)) rfl ?_
  refine nk_icmp (c := .ne) (off := 24) (len := 3) (t := 31) (pc' := 10) mJ_168 (by decide +kernel) (by decide +kernel) rfl (fun hc => ?_) (fun hc => ?_)
  · have hr := nk_ifn (c := (S.1 (ja_c l0 26) l3.toNat) = 1) hc hr
    refine nk_p (i := .aload_n 0) (len := 1) (pc' := 32) mJ_168 (by decide +kernel) (ns_aload_n 0 rfl rfl) rfl ?_
    refine nk_getC (f := (4, 0, 24)) (x := 71) (len := 3) (ci := 13) (k := 26) (pc' := 35) ja_okT mJ_168 (by decide +kernel) (by decide +kernel) (by decide +kernel) (by decide) t_l0 rfl ?_
    refine nk_p (i := .iload_n 3) (len := 1) (pc' := 36) mJ_168 (by decide +kernel) (ns_iload_n 3 rfl rfl) rfl ?_
    refine nk_bald (t := 0) (len := 1) (N := 24) (pc' := 37) mJ_168 (by decide +kernel) t1 (by decide) h2.1 h2.2 rfl rfl ?_
    refine nk_p (i := .iconst 2) (len := 1) (pc' := 38) mJ_168 (by decide +kernel) (ns_iconst (c := 2) (by decide +kernel)) rfl ?_
    refine nk_icmp (c := .ne) (off := 15) (len := 3) (t := 53) (pc' := 41) mJ_168 (by decide +kernel) (by decide +kernel) rfl (fun hc => ?_) (fun hc => ?_)
    · have hr := nk_ifn (c := (S.1 (ja_c l0 26) l3.toNat) = 2) hc hr
      cases hr
      exact nk_vret (len := 1) mJ_168 (by decide +kernel) rfl
    · have hr := nk_ifp (c := (S.1 (ja_c l0 26) l3.toNat) = 2) (Decidable.of_not_not hc) hr
      refine nk_p (i := .aload_n 0) (len := 1) (pc' := 42) mJ_168 (by decide +kernel) (ns_aload_n 0 rfl rfl) rfl ?_
      refine nk_p (i := .aload_n 1) (len := 1) (pc' := 43) mJ_168 (by decide +kernel) (ns_aload_n 1 rfl rfl) rfl ?_
      refine nk_p (i := .iload_n 2) (len := 1) (pc' := 44) mJ_168 (by decide +kernel) (ns_iload_n 2 rfl rfl) rfl ?_
      refine nk_p (i := .aload_n 0) (len := 1) (pc' := 45) mJ_168 (by decide +kernel) (ns_aload_n 0 rfl rfl) rfl ?_
      refine nk_getC (f := (4, 2, 24)) (x := 80) (len := 3) (ci := 13) (k := 29) (pc' := 48) ja_okT mJ_168 (by decide +kernel) (by decide +kernel) (by decide +kernel) (by decide) t_l0 rfl ?_
      have t3 : nk_ar ja_Tt (ja_c l0 29) = some (2, 24) := nk_ta ja_okT t_l0 (by decide +kernel)
      refine nk_p (i := .iload_n 3) (len := 1) (pc' := 49) mJ_168 (by decide +kernel) (ns_iload_n 3 rfl rfl) rfl ?_
      refine nk_lald (len := 1) (N := 24) (pc' := 50) mJ_168 (by decide +kernel) t3 h2.1 h2.2 rfl rfl ?_
      obtain ⟨r4, S5, h6, hr⟩ := nk_bde hr
      refine nk_callV (ci := 13) (n := 3) (x := 595) (len := 3) (j' := 166) (q' := 0) (r := r4) (S' := S5) (L2 := [(0, nk_r l0), (1, nk_r l1), (2, nk_i l2), (3, nk_l (S.1 (ja_c l0 29) l3.toNat))]) (rest := []) (st' := []) (pc' := 53) mJ_168 (by decide +kernel) (by decide +kernel) rfl rfl t_l0 (Nat.le_of_ble_eq_true rfl) mJ_166 (Nat.le_of_ble_eq_true rfl) rfl (ja_X13_joinSites_ok zs _ _ _ _ _ _ t_l0 t_l1 h6) rfl ?_
      cases hr
      exact nk_vret (len := 1) mJ_168 (by decide +kernel) rfl
  · have hr := nk_ifp (c := (S.1 (ja_c l0 26) l3.toNat) = 1) (Decidable.of_not_not hc) hr
    refine nk_p (i := .aload_n 0) (len := 1) (pc' := 11) mJ_168 (by decide +kernel) (ns_aload_n 0 rfl rfl) rfl ?_
    refine nk_p (i := .aload_n 1) (len := 1) (pc' := 12) mJ_168 (by decide +kernel) (ns_aload_n 1 rfl rfl) rfl ?_
    refine nk_p (i := .iload_n 2) (len := 1) (pc' := 13) mJ_168 (by decide +kernel) (ns_iload_n 2 rfl rfl) rfl ?_
    refine nk_p (i := .aload_n 0) (len := 1) (pc' := 14) mJ_168 (by decide +kernel) (ns_aload_n 0 rfl rfl) rfl ?_
    refine nk_getC (f := (4, 1, 24)) (x := 74) (len := 3) (ci := 13) (k := 27) (pc' := 17) ja_okT mJ_168 (by decide +kernel) (by decide +kernel) (by decide +kernel) (by decide) t_l0 rfl ?_
    have t7 : nk_ar ja_Tt (ja_c l0 27) = some (1, 24) := nk_ta ja_okT t_l0 (by decide +kernel)
    refine nk_p (i := .iload_n 3) (len := 1) (pc' := 18) mJ_168 (by decide +kernel) (ns_iload_n 3 rfl rfl) rfl ?_
    refine nk_iald (len := 1) (N := 24) (pc' := 19) mJ_168 (by decide +kernel) t7 h2.1 h2.2 rfl rfl ?_
    refine nk_p (i := .aload_n 0) (len := 1) (pc' := 20) mJ_168 (by decide +kernel) (ns_aload_n 0 rfl rfl) rfl ?_
    refine nk_getC (f := (4, 1, 24)) (x := 77) (len := 3) (ci := 13) (k := 28) (pc' := 23) ja_okT mJ_168 (by decide +kernel) (by decide +kernel) (by decide +kernel) (by decide) t_l0 rfl ?_
    have t8 : nk_ar ja_Tt (ja_c l0 28) = some (1, 24) := nk_ta ja_okT t_l0 (by decide +kernel)
    refine nk_p (i := .iload_n 3) (len := 1) (pc' := 24) mJ_168 (by decide +kernel) (ns_iload_n 3 rfl rfl) rfl ?_
    refine nk_iald (len := 1) (N := 24) (pc' := 25) mJ_168 (by decide +kernel) t8 h2.1 h2.2 rfl rfl ?_
    obtain ⟨r9, S10, h11, hr⟩ := nk_bde hr
    refine nk_callV (ci := 13) (n := 4) (x := 591) (len := 3) (j' := 165) (q' := 0) (r := r9) (S' := S10) (L2 := [(0, nk_r l0), (1, nk_r l1), (2, nk_i l2), (3, nk_i (S.1 (ja_c l0 27) l3.toNat)), (4, nk_i (S.1 (ja_c l0 28) l3.toNat))]) (rest := []) (st' := []) (pc' := 28) mJ_168 (by decide +kernel) (by decide +kernel) rfl rfl t_l0 (Nat.le_of_ble_eq_true rfl) mJ_165 (Nat.le_of_ble_eq_true rfl) rfl (ja_X13_joinRange_ok zs _ _ _ _ _ _ _ t_l0 t_l1 h11) rfl ?_
    refine nk_p (i := .goto 25) (len := 3) (pc' := 53) mJ_168 (by decide +kernel) (ns_goto (by decide +kernel)) rfl ?_
    cases hr
    exact nk_vret (len := 1) mJ_168 (by decide +kernel) rfl
/-! SafeCodeModel leaveValues (LSafeCodeModel$Program;IIJ)Z -/
noncomputable def ja_X13_leaveValues_b139 (rec14 : Nat → Nat → Int → Int → Int → Int → Int → nk_S → Option (Int × nk_S)) (l0 : Nat) (l1 : Nat) (l2 : Int) (l3 : Int) (l4 : Int) (l7 : Int) (l8 : Int) (s0 : Nat) (s1 : Int) (s2 : Int) (S : nk_S) : Option (Int × nk_S) :=
  if 0 ≤ s1 ∧ s1 < 24 then
  nk_lt (nk_wi S s0 s1.toNat s2) fun S2 =>
  if 0 ≤ (S2.1 l0 25) ∧ (S2.1 l0 25) < 24 then
  if 0 ≤ l8 ∧ l8 < 3324 then
  nk_lt (nk_wi S2 (ja_c l0 29) (S2.1 l0 25).toNat (nk_lor (S2.1 (ja_c l0 29) (S2.1 l0 25).toNat) (S2.1 (ja_c l1 49) l8.toNat))) fun S8 =>
  if 0 ≤ (S8.1 l0 25) ∧ (S8.1 l0 25) < 24 then
  nk_lt (nk_wi S8 (ja_c l0 26) (S8.1 l0 25).toNat (nk_i2b (S8.1 (ja_c l1 46) l8.toNat))) fun S13 =>
  nk_lt (nk_w (l7 + 1)) fun v15 =>
  rec14 l0 l1 l2 l3 l4 1 v15 S13
  else none
  else none
  else none
  else none
theorem ja_X13_leaveValues_b139_ok (zs : List Int32) {rec14 : Nat → Nat → Int → Int → Int → Int → Int → nk_S → Option (Int × nk_S)} (hrec14 : ∀ (l0 : Nat) (l1 : Nat) (l2 : Int) (l3 : Int) (l4 : Int) (l6 : Int) (l7 : Int) (S : nk_S) (R : Int × nk_S), nk_cl ja_Tt l0 = some 13 → nk_cl ja_Tt l1 = some 12 → rec14 l0 l1 l2 l3 l4 l6 l7 S = some R → nk_K ja_Tt mi_Γ (mi_ev zs) 1 177 14 [(0, nk_r l0), (1, nk_r l1), (2, nk_i l2), (3, nk_i l3), (4, nk_l l4), (6, nk_i l6), (7, nk_i l7)] [] S R) : ∀ (l0 : Nat) (l1 : Nat) (l2 : Int) (l3 : Int) (l4 : Int) (l7 : Int) (l8 : Int) (s0 : Nat) (s1 : Int) (s2 : Int) (S : nk_S) (R : Int × nk_S), nk_cl ja_Tt l0 = some 13 → nk_cl ja_Tt l1 = some 12 → nk_ar ja_Tt s0 = some (1, 24) → ja_X13_leaveValues_b139 rec14 l0 l1 l2 l3 l4 l7 l8 s0 s1 s2 S = some R → nk_K ja_Tt mi_Γ (mi_ev zs) 1 177 139 [(0, nk_r l0), (1, nk_r l1), (2, nk_i l2), (3, nk_i l3), (4, nk_l l4), (7, nk_i l7), (8, nk_i l8)] [nk_i s2, nk_i s1, nk_r s0] S R := by
  intro l0 l1 l2 l3 l4 l7 l8 s0 s1 s2 S R t_l0 t_l1 t_s0 hr
  unfold ja_X13_leaveValues_b139 at hr
  obtain ⟨h1, hr⟩ := nk_cke hr
  obtain ⟨S2, h3, hr⟩ := nk_lte hr
  refine nk_iast (len := 1) (N := 24) (pc' := 140) mJ_177 (by decide +kernel) t_s0 h1.1 h1.2 rfl rfl h3 ?_
  refine nk_p (i := .aload_n 0) (len := 1) (pc' := 141) mJ_177 (by decide +kernel) (ns_aload_n 0 rfl rfl) rfl ?_
  refine nk_getC (f := (4, 2, 24)) (x := 80) (len := 3) (ci := 13) (k := 29) (pc' := 144) ja_okT mJ_177 (by decide +kernel) (by decide +kernel) (by decide +kernel) (by decide) t_l0 rfl ?_
  have t4 : nk_ar ja_Tt (ja_c l0 29) = some (2, 24) := nk_ta ja_okT t_l0 (by decide +kernel)
  refine nk_p (i := .aload_n 0) (len := 1) (pc' := 145) mJ_177 (by decide +kernel) (ns_aload_n 0 rfl rfl) rfl ?_
  refine nk_getI (y := (0, 0)) (x := 495) (len := 3) (ci := 13) (k := 25) (pc' := 148) ja_okT mJ_177 (by decide +kernel) (by decide +kernel) (by decide +kernel) t_l0 rfl ?_
  refine nk_p (i := .dup2) (len := 1) (pc' := 149) mJ_177 (by decide +kernel) (ns_dup2 rfl rfl) rfl ?_
  obtain ⟨h5, hr⟩ := nk_cke hr
  refine nk_lald (len := 1) (N := 24) (pc' := 150) mJ_177 (by decide +kernel) t4 h5.1 h5.2 rfl rfl ?_
  refine nk_p (i := .aload_n 1) (len := 1) (pc' := 151) mJ_177 (by decide +kernel) (ns_aload_n 1 rfl rfl) rfl ?_
  refine nk_getC (f := (4, 2, 3324)) (x := 588) (len := 3) (ci := 12) (k := 49) (pc' := 154) ja_okT mJ_177 (by decide +kernel) (by decide +kernel) (by decide +kernel) (by decide) t_l1 rfl ?_
  have t6 : nk_ar ja_Tt (ja_c l1 49) = some (2, 3324) := nk_ta ja_okT t_l1 (by decide +kernel)
  refine nk_p (i := .iload 8) (len := 2) (pc' := 156) mJ_177 (by decide +kernel) (ns_iload 6 rfl) rfl ?_
  obtain ⟨h7, hr⟩ := nk_cke hr
  refine nk_lald (len := 1) (N := 3324) (pc' := 157) mJ_177 (by decide +kernel) t6 h7.1 h7.2 rfl rfl ?_
  refine nk_p (i := .lor) (len := 1) (pc' := 158) mJ_177 (by decide +kernel) ns_lor rfl ?_
  obtain ⟨S8, h9, hr⟩ := nk_lte hr
  refine nk_last (len := 1) (N := 24) (pc' := 159) mJ_177 (by decide +kernel) t4 h5.1 h5.2 rfl rfl h9 ?_
  refine nk_p (i := .aload_n 0) (len := 1) (pc' := 160) mJ_177 (by decide +kernel) (ns_aload_n 0 rfl rfl) rfl ?_
  refine nk_getC (f := (4, 0, 24)) (x := 71) (len := 3) (ci := 13) (k := 26) (pc' := 163) ja_okT mJ_177 (by decide +kernel) (by decide +kernel) (by decide +kernel) (by decide) t_l0 rfl ?_
  have t10 : nk_ar ja_Tt (ja_c l0 26) = some (0, 24) := nk_ta ja_okT t_l0 (by decide +kernel)
  refine nk_p (i := .aload_n 0) (len := 1) (pc' := 164) mJ_177 (by decide +kernel) (ns_aload_n 0 rfl rfl) rfl ?_
  refine nk_getI (y := (0, 0)) (x := 495) (len := 3) (ci := 13) (k := 25) (pc' := 167) ja_okT mJ_177 (by decide +kernel) (by decide +kernel) (by decide +kernel) t_l0 rfl ?_
  refine nk_p (i := .aload_n 1) (len := 1) (pc' := 168) mJ_177 (by decide +kernel) (ns_aload_n 1 rfl rfl) rfl ?_
  refine nk_getC (f := (4, 0, 3324)) (x := 576) (len := 3) (ci := 12) (k := 46) (pc' := 171) ja_okT mJ_177 (by decide +kernel) (by decide +kernel) (by decide +kernel) (by decide) t_l1 rfl ?_
  have t11 : nk_ar ja_Tt (ja_c l1 46) = some (0, 3324) := nk_ta ja_okT t_l1 (by decide +kernel)
  refine nk_p (i := .iload 8) (len := 2) (pc' := 173) mJ_177 (by decide +kernel) (ns_iload 6 rfl) rfl ?_
  refine nk_bald (t := 0) (len := 1) (N := 3324) (pc' := 174) mJ_177 (by decide +kernel) t11 (by decide) h7.1 h7.2 rfl rfl ?_
  obtain ⟨h12, hr⟩ := nk_cke hr
  obtain ⟨S13, h14, hr⟩ := nk_lte hr
  refine nk_bast (len := 1) (N := 24) (pc' := 175) mJ_177 (by decide +kernel) t10 h12.1 h12.2 rfl rfl h14 ?_
  refine nk_p (i := .iconst 1) (len := 1) (pc' := 176) mJ_177 (by decide +kernel) (ns_iconst (c := 1) (by decide +kernel)) rfl ?_
  refine nk_p (i := .istore 6) (len := 2) (pc' := 178) mJ_177 (by decide +kernel) (ns_istore (L' := [(6, nk_i 1), (0, nk_r l0), (1, nk_r l1), (2, nk_i l2), (3, nk_i l3), (4, nk_l l4), (7, nk_i l7), (8, nk_i l8)]) rfl rfl (by decide +kernel)) rfl ?_
  obtain ⟨v15, h16, hr⟩ := nk_lte hr
  refine nk_p (i := .iinc 7 1) (len := 3) (pc' := 181) mJ_177 (by decide +kernel) (ns_iinc (c := 1) (L' := [(7, nk_i v15), (6, nk_i 1), (0, nk_r l0), (1, nk_r l1), (2, nk_i l2), (3, nk_i l3), (4, nk_l l4), (8, nk_i l8)]) 6 rfl (by decide +kernel) h16 rfl (by decide +kernel)) rfl ?_
  refine nk_p (i := .goto (-167)) (len := 3) (pc' := 14) mJ_177 (by decide +kernel) (ns_goto (by decide +kernel)) rfl ?_
  refine nk_sub [2, 3, 4, 5, 6, 1, 0] (L' := [(0, nk_r l0), (1, nk_r l1), (2, nk_i l2), (3, nk_i l3), (4, nk_l l4), (6, nk_i 1), (7, nk_i v15)]) rfl ?_
  exact hrec14 _ _ _ _ _ _ _ _ _ t_l0 t_l1 hr
noncomputable def ja_X13_leaveValues_b96 (rec14 : Nat → Nat → Int → Int → Int → Int → Int → nk_S → Option (Int × nk_S)) (l0 : Nat) (l1 : Nat) (l2 : Int) (l3 : Int) (l4 : Int) (l6 : Int) (l7 : Int) (l8 : Int) (s0 : Nat) (s1 : Int) (s2 : Int) (S : nk_S) : Option (Int × nk_S) :=
  if 0 ≤ s1 ∧ s1 < 24 then
  nk_lt (nk_wi S s0 s1.toNat s2) fun S2 =>
  if l6 = 0 then
    if 0 ≤ l8 ∧ l8 < 3324 then
    ja_X13_leaveValues_b139 rec14 l0 l1 l2 l3 l4 l7 l8 (ja_c l0 28) (S2.1 l0 25) (S2.1 (ja_c l1 48) l8.toNat) S2
    else none
  else
    if 0 ≤ (S2.1 l0 25) ∧ (S2.1 l0 25) < 24 then
    if 0 ≤ l8 ∧ l8 < 3324 then
    nk_bd (ja_J9_max_7cf53 (S2.1 (ja_c l0 28) (S2.1 l0 25).toNat) (S2.1 (ja_c l1 48) l8.toNat) S2) fun r10 S11 =>
    ja_X13_leaveValues_b139 rec14 l0 l1 l2 l3 l4 l7 l8 (ja_c l0 28) (S2.1 l0 25) r10 S11
    else none
    else none
  else none
theorem ja_X13_leaveValues_b96_ok (zs : List Int32) {rec14 : Nat → Nat → Int → Int → Int → Int → Int → nk_S → Option (Int × nk_S)} (hrec14 : ∀ (l0 : Nat) (l1 : Nat) (l2 : Int) (l3 : Int) (l4 : Int) (l6 : Int) (l7 : Int) (S : nk_S) (R : Int × nk_S), nk_cl ja_Tt l0 = some 13 → nk_cl ja_Tt l1 = some 12 → rec14 l0 l1 l2 l3 l4 l6 l7 S = some R → nk_K ja_Tt mi_Γ (mi_ev zs) 1 177 14 [(0, nk_r l0), (1, nk_r l1), (2, nk_i l2), (3, nk_i l3), (4, nk_l l4), (6, nk_i l6), (7, nk_i l7)] [] S R) : ∀ (l0 : Nat) (l1 : Nat) (l2 : Int) (l3 : Int) (l4 : Int) (l6 : Int) (l7 : Int) (l8 : Int) (s0 : Nat) (s1 : Int) (s2 : Int) (S : nk_S) (R : Int × nk_S), nk_cl ja_Tt l0 = some 13 → nk_cl ja_Tt l1 = some 12 → nk_ar ja_Tt s0 = some (1, 24) → ja_X13_leaveValues_b96 rec14 l0 l1 l2 l3 l4 l6 l7 l8 s0 s1 s2 S = some R → nk_K ja_Tt mi_Γ (mi_ev zs) 1 177 96 [(0, nk_r l0), (1, nk_r l1), (2, nk_i l2), (3, nk_i l3), (4, nk_l l4), (6, nk_i l6), (7, nk_i l7), (8, nk_i l8)] [nk_i s2, nk_i s1, nk_r s0] S R := by
  intro l0 l1 l2 l3 l4 l6 l7 l8 s0 s1 s2 S R t_l0 t_l1 t_s0 hr
  unfold ja_X13_leaveValues_b96 at hr
  obtain ⟨h1, hr⟩ := nk_cke hr
  obtain ⟨S2, h3, hr⟩ := nk_lte hr
  refine nk_iast (len := 1) (N := 24) (pc' := 97) mJ_177 (by decide +kernel) t_s0 h1.1 h1.2 rfl rfl h3 ?_
  refine nk_p (i := .aload_n 0) (len := 1) (pc' := 98) mJ_177 (by decide +kernel) (ns_aload_n 0 rfl rfl) rfl ?_
  refine nk_getC (f := (4, 1, 24)) (x := 77) (len := 3) (ci := 13) (k := 28) (pc' := 101) ja_okT mJ_177 (by decide +kernel) (by decide +kernel) (by decide +kernel) (by decide) t_l0 rfl ?_
  have t4 : nk_ar ja_Tt (ja_c l0 28) = some (1, 24) := nk_ta ja_okT t_l0 (by decide +kernel)
  refine nk_p (i := .aload_n 0) (len := 1) (pc' := 102) mJ_177 (by decide +kernel) (ns_aload_n 0 rfl rfl) rfl ?_
  refine nk_getI (y := (0, 0)) (x := 495) (len := 3) (ci := 13) (k := 25) (pc' := 105) ja_okT mJ_177 (by decide +kernel) (by decide +kernel) (by decide +kernel) t_l0 rfl ?_
  refine nk_p (i := .iload 6) (len := 2) (pc' := 107) mJ_177 (by decide +kernel) (ns_iload 5 rfl) rfl ?_
  refine nk_icond (c := .eq) (off := 25) (len := 3) (t := 132) (pc' := 110) mJ_177 (by decide +kernel) (by decide +kernel) rfl (fun hc => ?_) (fun hc => ?_)
  · have hr := nk_ifp (c := l6 = 0) hc hr
    refine nk_p (i := .aload_n 1) (len := 1) (pc' := 133) mJ_177 (by decide +kernel) (ns_aload_n 1 rfl rfl) rfl ?_
    refine nk_getC (f := (4, 1, 3324)) (x := 582) (len := 3) (ci := 12) (k := 48) (pc' := 136) ja_okT mJ_177 (by decide +kernel) (by decide +kernel) (by decide +kernel) (by decide) t_l1 rfl ?_
    have t5 : nk_ar ja_Tt (ja_c l1 48) = some (1, 3324) := nk_ta ja_okT t_l1 (by decide +kernel)
    refine nk_p (i := .iload 8) (len := 2) (pc' := 138) mJ_177 (by decide +kernel) (ns_iload 7 rfl) rfl ?_
    obtain ⟨h6, hr⟩ := nk_cke hr
    refine nk_iald (len := 1) (N := 3324) (pc' := 139) mJ_177 (by decide +kernel) t5 h6.1 h6.2 rfl rfl ?_
    refine nk_sub [0, 1, 2, 3, 4, 6, 7] (L' := [(0, nk_r l0), (1, nk_r l1), (2, nk_i l2), (3, nk_i l3), (4, nk_l l4), (7, nk_i l7), (8, nk_i l8)]) rfl ?_
    exact ja_X13_leaveValues_b139_ok zs hrec14 _ _ _ _ _ _ _ _ _ _ _ _ t_l0 t_l1 t4 hr
  · have hr := nk_ifn (c := l6 = 0) hc hr
    refine nk_p (i := .aload_n 0) (len := 1) (pc' := 111) mJ_177 (by decide +kernel) (ns_aload_n 0 rfl rfl) rfl ?_
    refine nk_getC (f := (4, 1, 24)) (x := 77) (len := 3) (ci := 13) (k := 28) (pc' := 114) ja_okT mJ_177 (by decide +kernel) (by decide +kernel) (by decide +kernel) (by decide) t_l0 rfl ?_
    refine nk_p (i := .aload_n 0) (len := 1) (pc' := 115) mJ_177 (by decide +kernel) (ns_aload_n 0 rfl rfl) rfl ?_
    refine nk_getI (y := (0, 0)) (x := 495) (len := 3) (ci := 13) (k := 25) (pc' := 118) ja_okT mJ_177 (by decide +kernel) (by decide +kernel) (by decide +kernel) t_l0 rfl ?_
    obtain ⟨h7, hr⟩ := nk_cke hr
    refine nk_iald (len := 1) (N := 24) (pc' := 119) mJ_177 (by decide +kernel) t4 h7.1 h7.2 rfl rfl ?_
    refine nk_p (i := .aload_n 1) (len := 1) (pc' := 120) mJ_177 (by decide +kernel) (ns_aload_n 1 rfl rfl) rfl ?_
    refine nk_getC (f := (4, 1, 3324)) (x := 582) (len := 3) (ci := 12) (k := 48) (pc' := 123) ja_okT mJ_177 (by decide +kernel) (by decide +kernel) (by decide +kernel) (by decide) t_l1 rfl ?_
    have t8 : nk_ar ja_Tt (ja_c l1 48) = some (1, 3324) := nk_ta ja_okT t_l1 (by decide +kernel)
    refine nk_p (i := .iload 8) (len := 2) (pc' := 125) mJ_177 (by decide +kernel) (ns_iload 7 rfl) rfl ?_
    obtain ⟨h9, hr⟩ := nk_cke hr
    refine nk_iald (len := 1) (N := 3324) (pc' := 126) mJ_177 (by decide +kernel) t8 h9.1 h9.2 rfl rfl ?_
    obtain ⟨r10, S11, h12, hr⟩ := nk_bde hr
    refine nk_callS (ci := 0) (n := 2) (x := 557) (len := 3) (j' := 16) (q' := 1) (r := r10) (S' := S11) (L2 := [(0, nk_i (S2.1 (ja_c l0 28) (S2.1 l0 25).toNat)), (1, nk_i (S2.1 (ja_c l1 48) l8.toNat))]) (rest := [nk_i (S2.1 l0 25), nk_r (ja_c l0 28)]) (st' := [nk_i r10, nk_i (S2.1 l0 25), nk_r (ja_c l0 28)]) (pc' := 129) mJ_177 (by decide +kernel) (by decide +kernel) (Nat.le_of_ble_eq_true rfl) rfl rfl (Nat.le_of_ble_eq_true rfl) mJ_16 (Nat.le_of_ble_eq_true rfl) ja_Tpos rfl (ja_J9_max_7cf53_ok zs _ _ _ _ h12) rfl ?_
    refine nk_p (i := .goto 10) (len := 3) (pc' := 139) mJ_177 (by decide +kernel) (ns_goto (by decide +kernel)) rfl ?_
    refine nk_sub [0, 1, 2, 3, 4, 6, 7] (L' := [(0, nk_r l0), (1, nk_r l1), (2, nk_i l2), (3, nk_i l3), (4, nk_l l4), (7, nk_i l7), (8, nk_i l8)]) rfl ?_
    exact ja_X13_leaveValues_b139_ok zs hrec14 _ _ _ _ _ _ _ _ _ _ _ _ t_l0 t_l1 t4 hr
noncomputable def ja_X13_leaveValues_b14 (rec14 : Nat → Nat → Int → Int → Int → Int → Int → nk_S → Option (Int × nk_S)) (l0 : Nat) (l1 : Nat) (l2 : Int) (l3 : Int) (l4 : Int) (l6 : Int) (l7 : Int) (S : nk_S) : Option (Int × nk_S) :=
  if 54 ≤ l7 then
    nk_lt (nk_wi S l0 25 (nk_w ((S.1 l0 25) + 1))) fun S1 =>
    if l6 = 0 ∨ l6 = 1 then
    some (l6, S1)
    else none
  else
    nk_lt (nk_w (l2 + (nk_w (l3 * l7)))) fun v4 =>
    if (nk_land (nk_lshr l4 l7) 1) = 0 then
      nk_lt (nk_w (l7 + 1)) fun v6 =>
      rec14 l0 l1 l2 l3 l4 l6 v6 S
    else
      if 0 ≤ v4 ∧ v4 < 3324 then
      if (S.1 (ja_c l1 46) v4.toNat) = 0 then
        nk_lt (nk_w (l7 + 1)) fun v17 =>
        rec14 l0 l1 l2 l3 l4 l6 v17 S
      else
        if l6 = 0 then
          ja_X13_leaveValues_b96 rec14 l0 l1 l2 l3 l4 l6 l7 v4 (ja_c l0 27) (S.1 l0 25) (S.1 (ja_c l1 47) v4.toNat) S
        else
          if 0 ≤ (S.1 l0 25) ∧ (S.1 l0 25) < 24 then
          nk_bd (ja_J9_min_7cf53 (S.1 (ja_c l0 27) (S.1 l0 25).toNat) (S.1 (ja_c l1 47) v4.toNat) S) fun r14 S15 =>
          ja_X13_leaveValues_b96 rec14 l0 l1 l2 l3 l4 l6 l7 v4 (ja_c l0 27) (S.1 l0 25) r14 S15
          else none
      else none
theorem ja_X13_leaveValues_b14_ok (zs : List Int32) {rec14 : Nat → Nat → Int → Int → Int → Int → Int → nk_S → Option (Int × nk_S)} (hrec14 : ∀ (l0 : Nat) (l1 : Nat) (l2 : Int) (l3 : Int) (l4 : Int) (l6 : Int) (l7 : Int) (S : nk_S) (R : Int × nk_S), nk_cl ja_Tt l0 = some 13 → nk_cl ja_Tt l1 = some 12 → rec14 l0 l1 l2 l3 l4 l6 l7 S = some R → nk_K ja_Tt mi_Γ (mi_ev zs) 1 177 14 [(0, nk_r l0), (1, nk_r l1), (2, nk_i l2), (3, nk_i l3), (4, nk_l l4), (6, nk_i l6), (7, nk_i l7)] [] S R) : ∀ (l0 : Nat) (l1 : Nat) (l2 : Int) (l3 : Int) (l4 : Int) (l6 : Int) (l7 : Int) (S : nk_S) (R : Int × nk_S), nk_cl ja_Tt l0 = some 13 → nk_cl ja_Tt l1 = some 12 → ja_X13_leaveValues_b14 rec14 l0 l1 l2 l3 l4 l6 l7 S = some R → nk_K ja_Tt mi_Γ (mi_ev zs) 1 177 14 [(0, nk_r l0), (1, nk_r l1), (2, nk_i l2), (3, nk_i l3), (4, nk_l l4), (6, nk_i l6), (7, nk_i l7)] [] S R := by
  intro l0 l1 l2 l3 l4 l6 l7 S R t_l0 t_l1 hr
  unfold ja_X13_leaveValues_b14 at hr
  refine nk_p (i := .iload 7) (len := 2) (pc' := 16) mJ_177 (by decide +kernel) (ns_iload 6 rfl) rfl ?_
  refine nk_p (i := .bipush 54) (len := 2) (pc' := 18) mJ_177 (by decide +kernel) (ns_bipush (c := 54) (by decide +kernel)) rfl ?_
  refine nk_icmp (c := .ge) (off := 166) (len := 3) (t := 184) (pc' := 21) mJ_177 (by decide +kernel) (by decide +kernel) rfl (fun hc => ?_) (fun hc => ?_)
  · have hr := nk_ifp (c := 54 ≤ l7) hc hr
    refine nk_p (i := .aload_n 0) (len := 1) (pc' := 185) mJ_177 (by decide +kernel) (ns_aload_n 0 rfl rfl) rfl ?_
    refine nk_p (i := .dup) (len := 1) (pc' := 186) mJ_177 (by decide +kernel) (ns_dup rfl) rfl ?_
    refine nk_getI (y := (0, 0)) (x := 495) (len := 3) (ci := 13) (k := 25) (pc' := 189) ja_okT mJ_177 (by decide +kernel) (by decide +kernel) (by decide +kernel) t_l0 rfl ?_
    refine nk_p (i := .iconst 1) (len := 1) (pc' := 190) mJ_177 (by decide +kernel) (ns_iconst (c := 1) (by decide +kernel)) rfl ?_
    refine nk_p (i := .iadd) (len := 1) (pc' := 191) mJ_177 (by decide +kernel) ns_iadd rfl ?_
    obtain ⟨S1, h2, hr⟩ := nk_lte hr
    refine nk_putI (y := (0, 0)) (ty := .int) (x := 495) (len := 3) (ci := 13) (k := 25) (pc' := 194) ja_okT mJ_177 (by decide +kernel) (by decide +kernel) (by decide +kernel) t_l0 (Or.inl rfl) rfl h2 ?_
    refine nk_p (i := .iload 6) (len := 2) (pc' := 196) mJ_177 (by decide +kernel) (ns_iload 5 rfl) rfl ?_
    obtain ⟨h3, hr⟩ := nk_cke hr
    cases hr
    exact nk_iret (ty := .boolean) (len := 1) mJ_177 (by decide +kernel) rfl (nk_nar_z h3)
  · have hr := nk_ifn (c := 54 ≤ l7) hc hr
    refine nk_p (i := .iload_n 2) (len := 1) (pc' := 22) mJ_177 (by decide +kernel) (ns_iload_n 2 rfl rfl) rfl ?_
    refine nk_p (i := .iload_n 3) (len := 1) (pc' := 23) mJ_177 (by decide +kernel) (ns_iload_n 3 rfl rfl) rfl ?_
    refine nk_p (i := .iload 7) (len := 2) (pc' := 25) mJ_177 (by decide +kernel) (ns_iload 6 rfl) rfl ?_
    refine nk_p (i := .imul) (len := 1) (pc' := 26) mJ_177 (by decide +kernel) ns_imul rfl ?_
    refine nk_p (i := .iadd) (len := 1) (pc' := 27) mJ_177 (by decide +kernel) ns_iadd rfl ?_
    obtain ⟨v4, h5, hr⟩ := nk_lte hr
    refine nk_p (i := .istore 8) (len := 2) (pc' := 29) mJ_177 (by decide +kernel) (ns_istore (L' := [(8, nk_i v4), (0, nk_r l0), (1, nk_r l1), (2, nk_i l2), (3, nk_i l3), (4, nk_l l4), (6, nk_i l6), (7, nk_i l7)]) h5 rfl (by decide +kernel)) rfl ?_
    refine nk_p (i := .lload 4) (len := 2) (pc' := 31) mJ_177 (by decide +kernel) (ns_lload 5 rfl) rfl ?_
    refine nk_p (i := .iload 7) (len := 2) (pc' := 33) mJ_177 (by decide +kernel) (ns_iload 7 rfl) rfl ?_
    refine nk_p (i := .lshr) (len := 1) (pc' := 34) mJ_177 (by decide +kernel) ns_lshr rfl ?_
    refine nk_p (i := .lconst 1) (len := 1) (pc' := 35) mJ_177 (by decide +kernel) (ns_lconst (c := 1) (by decide +kernel)) rfl ?_
    refine nk_p (i := .land) (len := 1) (pc' := 36) mJ_177 (by decide +kernel) ns_land rfl ?_
    refine nk_p (i := .lconst 0) (len := 1) (pc' := 37) mJ_177 (by decide +kernel) (ns_lconst (c := 0) (by decide +kernel)) rfl ?_
    refine nk_p (i := .lcmp) (len := 1) (pc' := 38) mJ_177 (by decide +kernel) ns_lcmp rfl ?_
    refine nk_lcond (c := .eq) (off := 140) (len := 3) (t := 178) (pc' := 41) mJ_177 (by decide +kernel) (by decide +kernel) rfl (fun hc => ?_) (fun hc => ?_)
    · have hr := nk_ifp (c := (nk_land (nk_lshr l4 l7) 1) = 0) hc hr
      obtain ⟨v6, h7, hr⟩ := nk_lte hr
      refine nk_p (i := .iinc 7 1) (len := 3) (pc' := 181) mJ_177 (by decide +kernel) (ns_iinc (c := 1) (L' := [(7, nk_i v6), (8, nk_i v4), (0, nk_r l0), (1, nk_r l1), (2, nk_i l2), (3, nk_i l3), (4, nk_l l4), (6, nk_i l6)]) 7 rfl (by decide +kernel) h7 rfl (by decide +kernel)) rfl ?_
      refine nk_p (i := .goto (-167)) (len := 3) (pc' := 14) mJ_177 (by decide +kernel) (ns_goto (by decide +kernel)) rfl ?_
      refine nk_sub [2, 3, 4, 5, 6, 7, 0] (L' := [(0, nk_r l0), (1, nk_r l1), (2, nk_i l2), (3, nk_i l3), (4, nk_l l4), (6, nk_i l6), (7, nk_i v6)]) rfl ?_
      exact hrec14 _ _ _ _ _ _ _ _ _ t_l0 t_l1 hr
    · have hr := nk_ifn (c := (nk_land (nk_lshr l4 l7) 1) = 0) hc hr
      refine nk_p (i := .aload_n 1) (len := 1) (pc' := 42) mJ_177 (by decide +kernel) (ns_aload_n 2 rfl rfl) rfl ?_
      refine nk_getC (f := (4, 0, 3324)) (x := 576) (len := 3) (ci := 12) (k := 46) (pc' := 45) ja_okT mJ_177 (by decide +kernel) (by decide +kernel) (by decide +kernel) (by decide) t_l1 rfl ?_
      have t8 : nk_ar ja_Tt (ja_c l1 46) = some (0, 3324) := nk_ta ja_okT t_l1 (by decide +kernel)
      refine nk_p (i := .iload 8) (len := 2) (pc' := 47) mJ_177 (by decide +kernel) (ns_iload 0 rfl) rfl ?_
      obtain ⟨h9, hr⟩ := nk_cke hr
      refine nk_bald (t := 0) (len := 1) (N := 3324) (pc' := 48) mJ_177 (by decide +kernel) t8 (by decide) h9.1 h9.2 rfl rfl ?_
      refine nk_icond (c := .ne) (off := 6) (len := 3) (t := 54) (pc' := 51) mJ_177 (by decide +kernel) (by decide +kernel) rfl (fun hc => ?_) (fun hc => ?_)
      · have hr := nk_ifn (c := (S.1 (ja_c l1 46) v4.toNat) = 0) hc hr
        refine nk_p (i := .aload_n 0) (len := 1) (pc' := 55) mJ_177 (by decide +kernel) (ns_aload_n 1 rfl rfl) rfl ?_
        refine nk_getC (f := (4, 1, 24)) (x := 74) (len := 3) (ci := 13) (k := 27) (pc' := 58) ja_okT mJ_177 (by decide +kernel) (by decide +kernel) (by decide +kernel) (by decide) t_l0 rfl ?_
        have t10 : nk_ar ja_Tt (ja_c l0 27) = some (1, 24) := nk_ta ja_okT t_l0 (by decide +kernel)
        refine nk_p (i := .aload_n 0) (len := 1) (pc' := 59) mJ_177 (by decide +kernel) (ns_aload_n 1 rfl rfl) rfl ?_
        refine nk_getI (y := (0, 0)) (x := 495) (len := 3) (ci := 13) (k := 25) (pc' := 62) ja_okT mJ_177 (by decide +kernel) (by decide +kernel) (by decide +kernel) t_l0 rfl ?_
        refine nk_p (i := .iload 6) (len := 2) (pc' := 64) mJ_177 (by decide +kernel) (ns_iload 6 rfl) rfl ?_
        refine nk_icond (c := .eq) (off := 25) (len := 3) (t := 89) (pc' := 67) mJ_177 (by decide +kernel) (by decide +kernel) rfl (fun hc => ?_) (fun hc => ?_)
        · have hr := nk_ifp (c := l6 = 0) hc hr
          refine nk_p (i := .aload_n 1) (len := 1) (pc' := 90) mJ_177 (by decide +kernel) (ns_aload_n 2 rfl rfl) rfl ?_
          refine nk_getC (f := (4, 1, 3324)) (x := 579) (len := 3) (ci := 12) (k := 47) (pc' := 93) ja_okT mJ_177 (by decide +kernel) (by decide +kernel) (by decide +kernel) (by decide) t_l1 rfl ?_
          have t11 : nk_ar ja_Tt (ja_c l1 47) = some (1, 3324) := nk_ta ja_okT t_l1 (by decide +kernel)
          refine nk_p (i := .iload 8) (len := 2) (pc' := 95) mJ_177 (by decide +kernel) (ns_iload 0 rfl) rfl ?_
          refine nk_iald (len := 1) (N := 3324) (pc' := 96) mJ_177 (by decide +kernel) t11 h9.1 h9.2 rfl rfl ?_
          refine nk_sub [1, 2, 3, 4, 5, 6, 7, 0] (L' := [(0, nk_r l0), (1, nk_r l1), (2, nk_i l2), (3, nk_i l3), (4, nk_l l4), (6, nk_i l6), (7, nk_i l7), (8, nk_i v4)]) rfl ?_
          exact ja_X13_leaveValues_b96_ok zs hrec14 _ _ _ _ _ _ _ _ _ _ _ _ _ t_l0 t_l1 t10 hr
        · have hr := nk_ifn (c := l6 = 0) hc hr
          refine nk_p (i := .aload_n 0) (len := 1) (pc' := 68) mJ_177 (by decide +kernel) (ns_aload_n 1 rfl rfl) rfl ?_
          refine nk_getC (f := (4, 1, 24)) (x := 74) (len := 3) (ci := 13) (k := 27) (pc' := 71) ja_okT mJ_177 (by decide +kernel) (by decide +kernel) (by decide +kernel) (by decide) t_l0 rfl ?_
          refine nk_p (i := .aload_n 0) (len := 1) (pc' := 72) mJ_177 (by decide +kernel) (ns_aload_n 1 rfl rfl) rfl ?_
          refine nk_getI (y := (0, 0)) (x := 495) (len := 3) (ci := 13) (k := 25) (pc' := 75) ja_okT mJ_177 (by decide +kernel) (by decide +kernel) (by decide +kernel) t_l0 rfl ?_
          obtain ⟨h12, hr⟩ := nk_cke hr
          refine nk_iald (len := 1) (N := 24) (pc' := 76) mJ_177 (by decide +kernel) t10 h12.1 h12.2 rfl rfl ?_
          refine nk_p (i := .aload_n 1) (len := 1) (pc' := 77) mJ_177 (by decide +kernel) (ns_aload_n 2 rfl rfl) rfl ?_
          refine nk_getC (f := (4, 1, 3324)) (x := 579) (len := 3) (ci := 12) (k := 47) (pc' := 80) ja_okT mJ_177 (by decide +kernel) (by decide +kernel) (by decide +kernel) (by decide) t_l1 rfl ?_
          have t13 : nk_ar ja_Tt (ja_c l1 47) = some (1, 3324) := nk_ta ja_okT t_l1 (by decide +kernel)
          refine nk_p (i := .iload 8) (len := 2) (pc' := 82) mJ_177 (by decide +kernel) (ns_iload 0 rfl) rfl ?_
          refine nk_iald (len := 1) (N := 3324) (pc' := 83) mJ_177 (by decide +kernel) t13 h9.1 h9.2 rfl rfl ?_
          obtain ⟨r14, S15, h16, hr⟩ := nk_bde hr
          refine nk_callS (ci := 0) (n := 2) (x := 551) (len := 3) (j' := 18) (q' := 1) (r := r14) (S' := S15) (L2 := [(0, nk_i (S.1 (ja_c l0 27) (S.1 l0 25).toNat)), (1, nk_i (S.1 (ja_c l1 47) v4.toNat))]) (rest := [nk_i (S.1 l0 25), nk_r (ja_c l0 27)]) (st' := [nk_i r14, nk_i (S.1 l0 25), nk_r (ja_c l0 27)]) (pc' := 86) mJ_177 (by decide +kernel) (by decide +kernel) (Nat.le_of_ble_eq_true rfl) rfl rfl (Nat.le_of_ble_eq_true rfl) mJ_18 (Nat.le_of_ble_eq_true rfl) ja_Tpos rfl (ja_J9_min_7cf53_ok zs _ _ _ _ h16) rfl ?_
          refine nk_p (i := .goto 10) (len := 3) (pc' := 96) mJ_177 (by decide +kernel) (ns_goto (by decide +kernel)) rfl ?_
          refine nk_sub [1, 2, 3, 4, 5, 6, 7, 0] (L' := [(0, nk_r l0), (1, nk_r l1), (2, nk_i l2), (3, nk_i l3), (4, nk_l l4), (6, nk_i l6), (7, nk_i l7), (8, nk_i v4)]) rfl ?_
          exact ja_X13_leaveValues_b96_ok zs hrec14 _ _ _ _ _ _ _ _ _ _ _ _ _ t_l0 t_l1 t10 hr
      · have hr := nk_ifp (c := (S.1 (ja_c l1 46) v4.toNat) = 0) (Decidable.of_not_not hc) hr
        refine nk_p (i := .goto 127) (len := 3) (pc' := 178) mJ_177 (by decide +kernel) (ns_goto (by decide +kernel)) rfl ?_
        obtain ⟨v17, h18, hr⟩ := nk_lte hr
        refine nk_p (i := .iinc 7 1) (len := 3) (pc' := 181) mJ_177 (by decide +kernel) (ns_iinc (c := 1) (L' := [(7, nk_i v17), (8, nk_i v4), (0, nk_r l0), (1, nk_r l1), (2, nk_i l2), (3, nk_i l3), (4, nk_l l4), (6, nk_i l6)]) 7 rfl (by decide +kernel) h18 rfl (by decide +kernel)) rfl ?_
        refine nk_p (i := .goto (-167)) (len := 3) (pc' := 14) mJ_177 (by decide +kernel) (ns_goto (by decide +kernel)) rfl ?_
        refine nk_sub [2, 3, 4, 5, 6, 7, 0] (L' := [(0, nk_r l0), (1, nk_r l1), (2, nk_i l2), (3, nk_i l3), (4, nk_l l4), (6, nk_i l6), (7, nk_i v17)]) rfl ?_
        exact hrec14 _ _ _ _ _ _ _ _ _ t_l0 t_l1 hr
noncomputable def ja_X13_leaveValues_L14 : Nat → Nat → Nat → Int → Int → Int → Int → Int → nk_S → Option (Int × nk_S)
  | 0, _, _, _, _, _, _, _, _ => none
  | n + 1, l0, l1, l2, l3, l4, l6, l7, S => ja_X13_leaveValues_b14 (ja_X13_leaveValues_L14 n) l0 l1 l2 l3 l4 l6 l7 S
theorem ja_X13_leaveValues_L14_ok (zs : List Int32) : ∀ n : Nat, ∀ (l0 : Nat) (l1 : Nat) (l2 : Int) (l3 : Int) (l4 : Int) (l6 : Int) (l7 : Int) (S : nk_S) (R : Int × nk_S), nk_cl ja_Tt l0 = some 13 → nk_cl ja_Tt l1 = some 12 → ja_X13_leaveValues_L14 n l0 l1 l2 l3 l4 l6 l7 S = some R → nk_K ja_Tt mi_Γ (mi_ev zs) 1 177 14 [(0, nk_r l0), (1, nk_r l1), (2, nk_i l2), (3, nk_i l3), (4, nk_l l4), (6, nk_i l6), (7, nk_i l7)] [] S R := by
  intro n
  induction n with
  | zero => intro _ _ _ _ _ _ _ _ _ _ _ hr; cases hr
  | succ n ih => intro l0 l1 l2 l3 l4 l6 l7 S R t_l0 t_l1 hr; exact ja_X13_leaveValues_b14_ok zs ih l0 l1 l2 l3 l4 l6 l7 S R t_l0 t_l1 hr
noncomputable def ja_X13_leaveValues (l0 : Nat) (l1 : Nat) (l2 : Int) (l3 : Int) (l4 : Int) (S : nk_S) : Option (Int × nk_S) :=
  nk_bd (ja_X13_clear l0 (S.1 l0 25) S) fun r1 S2 =>
  ja_X13_leaveValues_L14 nk_big l0 l1 l2 l3 l4 0 0 S2
theorem ja_X13_leaveValues_ok (zs : List Int32) : ∀ (l0 : Nat) (l1 : Nat) (l2 : Int) (l3 : Int) (l4 : Int) (S : nk_S) (R : Int × nk_S), nk_cl ja_Tt l0 = some 13 → nk_cl ja_Tt l1 = some 12 → ja_X13_leaveValues l0 l1 l2 l3 l4 S = some R → nk_K ja_Tt mi_Γ (mi_ev zs) 1 177 0 [(0, nk_r l0), (1, nk_r l1), (2, nk_i l2), (3, nk_i l3), (4, nk_l l4)] [] S R := by
  intro l0 l1 l2 l3 l4 S R t_l0 t_l1 hr
  unfold ja_X13_leaveValues at hr
  refine nk_p (i := .iconst 0) (len := 1) (pc' := 1) mJ_177 (by decide +kernel) (ns_iconst (c := 0) (by decide +kernel)) rfl ?_
  refine nk_p (i := .istore 6) (len := 2) (pc' := 3) mJ_177 (by decide +kernel) (ns_istore (L' := [(6, nk_i 0), (0, nk_r l0), (1, nk_r l1), (2, nk_i l2), (3, nk_i l3), (4, nk_l l4)]) rfl rfl (by decide +kernel)) rfl ?_
  refine nk_p (i := .aload_n 0) (len := 1) (pc' := 4) mJ_177 (by decide +kernel) (ns_aload_n 1 rfl rfl) rfl ?_
  refine nk_p (i := .aload_n 0) (len := 1) (pc' := 5) mJ_177 (by decide +kernel) (ns_aload_n 1 rfl rfl) rfl ?_
  refine nk_getI (y := (0, 0)) (x := 495) (len := 3) (ci := 13) (k := 25) (pc' := 8) ja_okT mJ_177 (by decide +kernel) (by decide +kernel) (by decide +kernel) t_l0 rfl ?_
  obtain ⟨r1, S2, h3, hr⟩ := nk_bde hr
  refine nk_callV (ci := 13) (n := 1) (x := 560) (len := 3) (j' := 101) (q' := 0) (r := r1) (S' := S2) (L2 := [(0, nk_r l0), (1, nk_i (S.1 l0 25))]) (rest := []) (st' := []) (pc' := 11) mJ_177 (by decide +kernel) (by decide +kernel) rfl rfl t_l0 (Nat.le_of_ble_eq_true rfl) mJ_101 (Nat.le_of_ble_eq_true rfl) rfl (ja_X13_clear_ok zs _ _ _ _ t_l0 h3) rfl ?_
  refine nk_p (i := .iconst 0) (len := 1) (pc' := 12) mJ_177 (by decide +kernel) (ns_iconst (c := 0) (by decide +kernel)) rfl ?_
  refine nk_p (i := .istore 7) (len := 2) (pc' := 14) mJ_177 (by decide +kernel) (ns_istore (L' := [(7, nk_i 0), (6, nk_i 0), (0, nk_r l0), (1, nk_r l1), (2, nk_i l2), (3, nk_i l3), (4, nk_l l4)]) rfl rfl (by decide +kernel)) rfl ?_
  refine nk_sub [2, 3, 4, 5, 6, 1, 0] (L' := [(0, nk_r l0), (1, nk_r l1), (2, nk_i l2), (3, nk_i l3), (4, nk_l l4), (6, nk_i 0), (7, nk_i 0)]) rfl ?_
  exact ja_X13_leaveValues_L14_ok zs nk_big _ _ _ _ _ _ _ _ _ t_l0 t_l1 hr
/-! SafeCodeModel call (LSafeCodeModel$Program;IZ)Z -/
noncomputable def ja_X13_call_b246 (rec134 : Nat → Nat → Int → Int → Int → Int → Int → Int → Int → nk_S → Option (Int × nk_S)) (l0 : Nat) (l1 : Nat) (l2 : Int) (l3 : Int) (l4 : Int) (l5 : Int) (l6 : Int) (l8 : Int) (l10 : Int) (S : nk_S) : Option (Int × nk_S) :=
  if 0 ≤ l10 ∧ l10 < 48 then
  nk_lt (nk_wi S l0 40 (nk_lor (S.1 l0 40) (S.1 (ja_c l1 52) l10.toNat))) fun S3 =>
  nk_lt (nk_w (l10 + 1)) fun v5 =>
  rec134 l0 l1 l2 l3 l4 l5 l6 l8 v5 S3
  else none
theorem ja_X13_call_b246_ok (zs : List Int32) {rec134 : Nat → Nat → Int → Int → Int → Int → Int → Int → Int → nk_S → Option (Int × nk_S)} (hrec134 : ∀ (l0 : Nat) (l1 : Nat) (l2 : Int) (l3 : Int) (l4 : Int) (l5 : Int) (l6 : Int) (l8 : Int) (l10 : Int) (S : nk_S) (R : Int × nk_S), nk_cl ja_Tt l0 = some 13 → nk_cl ja_Tt l1 = some 12 → rec134 l0 l1 l2 l3 l4 l5 l6 l8 l10 S = some R → nk_K ja_Tt mi_Γ (mi_ev zs) 1 93 134 [(0, nk_r l0), (1, nk_r l1), (2, nk_i l2), (3, nk_i l3), (4, nk_i l4), (5, nk_i l5), (6, nk_l l6), (8, nk_l l8), (10, nk_i l10)] [] S R) : ∀ (l0 : Nat) (l1 : Nat) (l2 : Int) (l3 : Int) (l4 : Int) (l5 : Int) (l6 : Int) (l8 : Int) (l10 : Int) (S : nk_S) (R : Int × nk_S), nk_cl ja_Tt l0 = some 13 → nk_cl ja_Tt l1 = some 12 → ja_X13_call_b246 rec134 l0 l1 l2 l3 l4 l5 l6 l8 l10 S = some R → nk_K ja_Tt mi_Γ (mi_ev zs) 1 93 246 [(0, nk_r l0), (1, nk_r l1), (2, nk_i l2), (3, nk_i l3), (4, nk_i l4), (5, nk_i l5), (6, nk_l l6), (8, nk_l l8), (10, nk_i l10)] [] S R := by
  intro l0 l1 l2 l3 l4 l5 l6 l8 l10 S R t_l0 t_l1 hr
  unfold ja_X13_call_b246 at hr
  refine nk_p (i := .aload_n 0) (len := 1) (pc' := 247) mJ_93 (by decide +kernel) (ns_aload_n 0 rfl rfl) rfl ?_
  refine nk_p (i := .dup) (len := 1) (pc' := 248) mJ_93 (by decide +kernel) (ns_dup rfl) rfl ?_
  refine nk_getL (y := (0, 0)) (x := 628) (len := 3) (ci := 13) (k := 40) (pc' := 251) ja_okT mJ_93 (by decide +kernel) (by decide +kernel) (by decide +kernel) t_l0 rfl ?_
  refine nk_p (i := .aload_n 1) (len := 1) (pc' := 252) mJ_93 (by decide +kernel) (ns_aload_n 1 rfl rfl) rfl ?_
  refine nk_getC (f := (4, 2, 48)) (x := 613) (len := 3) (ci := 12) (k := 52) (pc' := 255) ja_okT mJ_93 (by decide +kernel) (by decide +kernel) (by decide +kernel) (by decide) t_l1 rfl ?_
  have t1 : nk_ar ja_Tt (ja_c l1 52) = some (2, 48) := nk_ta ja_okT t_l1 (by decide +kernel)
  refine nk_p (i := .iload 10) (len := 2) (pc' := 257) mJ_93 (by decide +kernel) (ns_iload 8 rfl) rfl ?_
  obtain ⟨h2, hr⟩ := nk_cke hr
  refine nk_lald (len := 1) (N := 48) (pc' := 258) mJ_93 (by decide +kernel) t1 h2.1 h2.2 rfl rfl ?_
  refine nk_p (i := .lor) (len := 1) (pc' := 259) mJ_93 (by decide +kernel) ns_lor rfl ?_
  obtain ⟨S3, h4, hr⟩ := nk_lte hr
  refine nk_putL (y := (0, 0)) (x := 628) (len := 3) (ci := 13) (k := 40) (pc' := 262) ja_okT mJ_93 (by decide +kernel) (by decide +kernel) (by decide +kernel) t_l0 rfl h4 ?_
  obtain ⟨v5, h6, hr⟩ := nk_lte hr
  refine nk_p (i := .iinc 10 1) (len := 3) (pc' := 265) mJ_93 (by decide +kernel) (ns_iinc (c := 1) (L' := [(10, nk_i v5), (0, nk_r l0), (1, nk_r l1), (2, nk_i l2), (3, nk_i l3), (4, nk_i l4), (5, nk_i l5), (6, nk_l l6), (8, nk_l l8)]) 8 rfl (by decide +kernel) h6 rfl (by decide +kernel)) rfl ?_
  refine nk_p (i := .goto (-131)) (len := 3) (pc' := 134) mJ_93 (by decide +kernel) (ns_goto (by decide +kernel)) rfl ?_
  refine nk_sub [1, 2, 3, 4, 5, 6, 7, 8, 0] (L' := [(0, nk_r l0), (1, nk_r l1), (2, nk_i l2), (3, nk_i l3), (4, nk_i l4), (5, nk_i l5), (6, nk_l l6), (8, nk_l l8), (10, nk_i v5)]) rfl ?_
  exact hrec134 _ _ _ _ _ _ _ _ _ _ _ t_l0 t_l1 hr
noncomputable def ja_X13_call_b219 (rec134 : Nat → Nat → Int → Int → Int → Int → Int → Int → Int → nk_S → Option (Int × nk_S)) (l0 : Nat) (l1 : Nat) (l2 : Int) (l3 : Int) (l4 : Int) (l5 : Int) (l6 : Int) (l8 : Int) (l10 : Int) (S : nk_S) : Option (Int × nk_S) :=
  if 0 ≤ l10 ∧ l10 < 48 then
  nk_lt (nk_wi S (ja_c l1 51) l10.toNat 1) fun S3 =>
  if (S3.1 (ja_c l1 50) l10.toNat) = 0 then
    ja_X13_call_b246 rec134 l0 l1 l2 l3 l4 l5 l6 l8 l10 S3
  else
    nk_lt (nk_lor l8 (nk_lshl 1 l10)) fun v6 =>
    ja_X13_call_b246 rec134 l0 l1 l2 l3 l4 l5 l6 v6 l10 S3
  else none
theorem ja_X13_call_b219_ok (zs : List Int32) {rec134 : Nat → Nat → Int → Int → Int → Int → Int → Int → Int → nk_S → Option (Int × nk_S)} (hrec134 : ∀ (l0 : Nat) (l1 : Nat) (l2 : Int) (l3 : Int) (l4 : Int) (l5 : Int) (l6 : Int) (l8 : Int) (l10 : Int) (S : nk_S) (R : Int × nk_S), nk_cl ja_Tt l0 = some 13 → nk_cl ja_Tt l1 = some 12 → rec134 l0 l1 l2 l3 l4 l5 l6 l8 l10 S = some R → nk_K ja_Tt mi_Γ (mi_ev zs) 1 93 134 [(0, nk_r l0), (1, nk_r l1), (2, nk_i l2), (3, nk_i l3), (4, nk_i l4), (5, nk_i l5), (6, nk_l l6), (8, nk_l l8), (10, nk_i l10)] [] S R) : ∀ (l0 : Nat) (l1 : Nat) (l2 : Int) (l3 : Int) (l4 : Int) (l5 : Int) (l6 : Int) (l8 : Int) (l10 : Int) (S : nk_S) (R : Int × nk_S), nk_cl ja_Tt l0 = some 13 → nk_cl ja_Tt l1 = some 12 → ja_X13_call_b219 rec134 l0 l1 l2 l3 l4 l5 l6 l8 l10 S = some R → nk_K ja_Tt mi_Γ (mi_ev zs) 1 93 219 [(0, nk_r l0), (1, nk_r l1), (2, nk_i l2), (3, nk_i l3), (4, nk_i l4), (5, nk_i l5), (6, nk_l l6), (8, nk_l l8), (10, nk_i l10)] [] S R := by
  intro l0 l1 l2 l3 l4 l5 l6 l8 l10 S R t_l0 t_l1 hr
  unfold ja_X13_call_b219 at hr
  refine nk_p (i := .aload_n 1) (len := 1) (pc' := 220) mJ_93 (by decide +kernel) (ns_aload_n 1 rfl rfl) rfl ?_
  refine nk_getC (f := (4, 3, 48)) (x := 610) (len := 3) (ci := 12) (k := 51) (pc' := 223) ja_okT mJ_93 (by decide +kernel) (by decide +kernel) (by decide +kernel) (by decide) t_l1 rfl ?_
  have t1 : nk_ar ja_Tt (ja_c l1 51) = some (3, 48) := nk_ta ja_okT t_l1 (by decide +kernel)
  refine nk_p (i := .iload 10) (len := 2) (pc' := 225) mJ_93 (by decide +kernel) (ns_iload 8 rfl) rfl ?_
  refine nk_p (i := .iconst 1) (len := 1) (pc' := 226) mJ_93 (by decide +kernel) (ns_iconst (c := 1) (by decide +kernel)) rfl ?_
  obtain ⟨h2, hr⟩ := nk_cke hr
  obtain ⟨S3, h4, hr⟩ := nk_lte hr
  refine nk_zast (len := 1) (N := 48) (pc' := 227) mJ_93 (by decide +kernel) t1 h2.1 h2.2 (by decide) rfl rfl h4 ?_
  refine nk_p (i := .aload_n 1) (len := 1) (pc' := 228) mJ_93 (by decide +kernel) (ns_aload_n 1 rfl rfl) rfl ?_
  refine nk_getC (f := (4, 3, 48)) (x := 607) (len := 3) (ci := 12) (k := 50) (pc' := 231) ja_okT mJ_93 (by decide +kernel) (by decide +kernel) (by decide +kernel) (by decide) t_l1 rfl ?_
  have t5 : nk_ar ja_Tt (ja_c l1 50) = some (3, 48) := nk_ta ja_okT t_l1 (by decide +kernel)
  refine nk_p (i := .iload 10) (len := 2) (pc' := 233) mJ_93 (by decide +kernel) (ns_iload 8 rfl) rfl ?_
  refine nk_bald (t := 3) (len := 1) (N := 48) (pc' := 234) mJ_93 (by decide +kernel) t5 (by decide) h2.1 h2.2 rfl rfl ?_
  refine nk_icond (c := .eq) (off := 12) (len := 3) (t := 246) (pc' := 237) mJ_93 (by decide +kernel) (by decide +kernel) rfl (fun hc => ?_) (fun hc => ?_)
  · have hr := nk_ifp (c := (S3.1 (ja_c l1 50) l10.toNat) = 0) hc hr
    exact ja_X13_call_b246_ok zs hrec134 _ _ _ _ _ _ _ _ _ _ _ t_l0 t_l1 hr
  · have hr := nk_ifn (c := (S3.1 (ja_c l1 50) l10.toNat) = 0) hc hr
    refine nk_p (i := .lload 8) (len := 2) (pc' := 239) mJ_93 (by decide +kernel) (ns_lload 7 rfl) rfl ?_
    refine nk_p (i := .lconst 1) (len := 1) (pc' := 240) mJ_93 (by decide +kernel) (ns_lconst (c := 1) (by decide +kernel)) rfl ?_
    refine nk_p (i := .iload 10) (len := 2) (pc' := 242) mJ_93 (by decide +kernel) (ns_iload 8 rfl) rfl ?_
    refine nk_p (i := .lshl) (len := 1) (pc' := 243) mJ_93 (by decide +kernel) ns_lshl rfl ?_
    refine nk_p (i := .lor) (len := 1) (pc' := 244) mJ_93 (by decide +kernel) ns_lor rfl ?_
    obtain ⟨v6, h7, hr⟩ := nk_lte hr
    refine nk_p (i := .lstore 8) (len := 2) (pc' := 246) mJ_93 (by decide +kernel) (ns_lstore (L' := [(8, nk_l v6), (0, nk_r l0), (1, nk_r l1), (2, nk_i l2), (3, nk_i l3), (4, nk_i l4), (5, nk_i l5), (6, nk_l l6), (10, nk_i l10)]) h7 rfl (by decide +kernel)) rfl ?_
    refine nk_sub [1, 2, 3, 4, 5, 6, 7, 0, 8] (L' := [(0, nk_r l0), (1, nk_r l1), (2, nk_i l2), (3, nk_i l3), (4, nk_i l4), (5, nk_i l5), (6, nk_l l6), (8, nk_l v6), (10, nk_i l10)]) rfl ?_
    exact ja_X13_call_b246_ok zs hrec134 _ _ _ _ _ _ _ _ _ _ _ t_l0 t_l1 hr
noncomputable def ja_X13_call_b169 (rec134 : Nat → Nat → Int → Int → Int → Int → Int → Int → Int → nk_S → Option (Int × nk_S)) (rec169 : Nat → Nat → Int → Int → Int → Int → Int → Int → Int → Int → nk_S → Option (Int × nk_S)) (l0 : Nat) (l1 : Nat) (l2 : Int) (l3 : Int) (l4 : Int) (l5 : Int) (l6 : Int) (l8 : Int) (l10 : Int) (l11 : Int) (S : nk_S) : Option (Int × nk_S) :=
  if l4 ≤ l11 then
    if 0 ≤ l10 ∧ l10 < 48 then
    if (S.1 (ja_c l1 51) l10.toNat) = 0 then
      nk_lt (nk_wi S l0 37 1) fun S3 =>
      ja_X13_call_b219 rec134 l0 l1 l2 l3 l4 l5 l6 l8 l10 S3
    else
      ja_X13_call_b219 rec134 l0 l1 l2 l3 l4 l5 l6 l8 l10 S
    else none
  else
    nk_bd (ja_X13_joinSlotInto l0 l1 (nk_w ((nk_w (2700 + (nk_w (l10 * 12)))) + l11)) (nk_w (l5 + l11)) S) fun r5 S6 =>
    nk_lt (nk_w (l11 + 1)) fun v8 =>
    rec169 l0 l1 l2 l3 l4 l5 l6 l8 l10 v8 S6
theorem ja_X13_call_b169_ok (zs : List Int32) {rec134 : Nat → Nat → Int → Int → Int → Int → Int → Int → Int → nk_S → Option (Int × nk_S)} (hrec134 : ∀ (l0 : Nat) (l1 : Nat) (l2 : Int) (l3 : Int) (l4 : Int) (l5 : Int) (l6 : Int) (l8 : Int) (l10 : Int) (S : nk_S) (R : Int × nk_S), nk_cl ja_Tt l0 = some 13 → nk_cl ja_Tt l1 = some 12 → rec134 l0 l1 l2 l3 l4 l5 l6 l8 l10 S = some R → nk_K ja_Tt mi_Γ (mi_ev zs) 1 93 134 [(0, nk_r l0), (1, nk_r l1), (2, nk_i l2), (3, nk_i l3), (4, nk_i l4), (5, nk_i l5), (6, nk_l l6), (8, nk_l l8), (10, nk_i l10)] [] S R) {rec169 : Nat → Nat → Int → Int → Int → Int → Int → Int → Int → Int → nk_S → Option (Int × nk_S)} (hrec169 : ∀ (l0 : Nat) (l1 : Nat) (l2 : Int) (l3 : Int) (l4 : Int) (l5 : Int) (l6 : Int) (l8 : Int) (l10 : Int) (l11 : Int) (S : nk_S) (R : Int × nk_S), nk_cl ja_Tt l0 = some 13 → nk_cl ja_Tt l1 = some 12 → rec169 l0 l1 l2 l3 l4 l5 l6 l8 l10 l11 S = some R → nk_K ja_Tt mi_Γ (mi_ev zs) 1 93 169 [(0, nk_r l0), (1, nk_r l1), (2, nk_i l2), (3, nk_i l3), (4, nk_i l4), (5, nk_i l5), (6, nk_l l6), (8, nk_l l8), (10, nk_i l10), (11, nk_i l11)] [] S R) : ∀ (l0 : Nat) (l1 : Nat) (l2 : Int) (l3 : Int) (l4 : Int) (l5 : Int) (l6 : Int) (l8 : Int) (l10 : Int) (l11 : Int) (S : nk_S) (R : Int × nk_S), nk_cl ja_Tt l0 = some 13 → nk_cl ja_Tt l1 = some 12 → ja_X13_call_b169 rec134 rec169 l0 l1 l2 l3 l4 l5 l6 l8 l10 l11 S = some R → nk_K ja_Tt mi_Γ (mi_ev zs) 1 93 169 [(0, nk_r l0), (1, nk_r l1), (2, nk_i l2), (3, nk_i l3), (4, nk_i l4), (5, nk_i l5), (6, nk_l l6), (8, nk_l l8), (10, nk_i l10), (11, nk_i l11)] [] S R := by
  intro l0 l1 l2 l3 l4 l5 l6 l8 l10 l11 S R t_l0 t_l1 hr
  unfold ja_X13_call_b169 at hr
  refine nk_p (i := .iload 11) (len := 2) (pc' := 171) mJ_93 (by decide +kernel) (ns_iload 9 rfl) rfl ?_
  refine nk_p (i := .iload 4) (len := 2) (pc' := 173) mJ_93 (by decide +kernel) (ns_iload 4 rfl) rfl ?_
  refine nk_icmp (c := .ge) (off := 31) (len := 3) (t := 204) (pc' := 176) mJ_93 (by decide +kernel) (by decide +kernel) rfl (fun hc => ?_) (fun hc => ?_)
  · have hr := nk_ifp (c := l4 ≤ l11) hc hr
    refine nk_p (i := .aload_n 1) (len := 1) (pc' := 205) mJ_93 (by decide +kernel) (ns_aload_n 1 rfl rfl) rfl ?_
    refine nk_getC (f := (4, 3, 48)) (x := 610) (len := 3) (ci := 12) (k := 51) (pc' := 208) ja_okT mJ_93 (by decide +kernel) (by decide +kernel) (by decide +kernel) (by decide) t_l1 rfl ?_
    have t1 : nk_ar ja_Tt (ja_c l1 51) = some (3, 48) := nk_ta ja_okT t_l1 (by decide +kernel)
    refine nk_p (i := .iload 10) (len := 2) (pc' := 210) mJ_93 (by decide +kernel) (ns_iload 8 rfl) rfl ?_
    obtain ⟨h2, hr⟩ := nk_cke hr
    refine nk_bald (t := 3) (len := 1) (N := 48) (pc' := 211) mJ_93 (by decide +kernel) t1 (by decide) h2.1 h2.2 rfl rfl ?_
    refine nk_icond (c := .ne) (off := 8) (len := 3) (t := 219) (pc' := 214) mJ_93 (by decide +kernel) (by decide +kernel) rfl (fun hc => ?_) (fun hc => ?_)
    · have hr := nk_ifn (c := (S.1 (ja_c l1 51) l10.toNat) = 0) hc hr
      refine nk_sub [0, 1, 2, 3, 4, 5, 6, 7, 8] (L' := [(0, nk_r l0), (1, nk_r l1), (2, nk_i l2), (3, nk_i l3), (4, nk_i l4), (5, nk_i l5), (6, nk_l l6), (8, nk_l l8), (10, nk_i l10)]) rfl ?_
      exact ja_X13_call_b219_ok zs hrec134 _ _ _ _ _ _ _ _ _ _ _ t_l0 t_l1 hr
    · have hr := nk_ifp (c := (S.1 (ja_c l1 51) l10.toNat) = 0) (Decidable.of_not_not hc) hr
      refine nk_p (i := .aload_n 0) (len := 1) (pc' := 215) mJ_93 (by decide +kernel) (ns_aload_n 0 rfl rfl) rfl ?_
      refine nk_p (i := .iconst 1) (len := 1) (pc' := 216) mJ_93 (by decide +kernel) (ns_iconst (c := 1) (by decide +kernel)) rfl ?_
      obtain ⟨S3, h4, hr⟩ := nk_lte hr
      refine nk_putI (y := (0, 0)) (ty := .boolean) (x := 585) (len := 3) (ci := 13) (k := 37) (pc' := 219) ja_okT mJ_93 (by decide +kernel) (by decide +kernel) (by decide +kernel) t_l0 (Or.inr ⟨rfl, by decide⟩) rfl h4 ?_
      refine nk_sub [0, 1, 2, 3, 4, 5, 6, 7, 8] (L' := [(0, nk_r l0), (1, nk_r l1), (2, nk_i l2), (3, nk_i l3), (4, nk_i l4), (5, nk_i l5), (6, nk_l l6), (8, nk_l l8), (10, nk_i l10)]) rfl ?_
      exact ja_X13_call_b219_ok zs hrec134 _ _ _ _ _ _ _ _ _ _ _ t_l0 t_l1 hr
  · have hr := nk_ifn (c := l4 ≤ l11) hc hr
    refine nk_p (i := .aload_n 0) (len := 1) (pc' := 177) mJ_93 (by decide +kernel) (ns_aload_n 0 rfl rfl) rfl ?_
    refine nk_p (i := .aload_n 1) (len := 1) (pc' := 178) mJ_93 (by decide +kernel) (ns_aload_n 1 rfl rfl) rfl ?_
    refine nk_p (i := .sipush 2700) (len := 3) (pc' := 181) mJ_93 (by decide +kernel) (ns_sipush (c := 2700) (by decide +kernel)) rfl ?_
    refine nk_p (i := .iload 10) (len := 2) (pc' := 183) mJ_93 (by decide +kernel) (ns_iload 8 rfl) rfl ?_
    refine nk_p (i := .bipush 12) (len := 2) (pc' := 185) mJ_93 (by decide +kernel) (ns_bipush (c := 12) (by decide +kernel)) rfl ?_
    refine nk_p (i := .imul) (len := 1) (pc' := 186) mJ_93 (by decide +kernel) ns_imul rfl ?_
    refine nk_p (i := .iadd) (len := 1) (pc' := 187) mJ_93 (by decide +kernel) ns_iadd rfl ?_
    refine nk_p (i := .iload 11) (len := 2) (pc' := 189) mJ_93 (by decide +kernel) (ns_iload 9 rfl) rfl ?_
    refine nk_p (i := .iadd) (len := 1) (pc' := 190) mJ_93 (by decide +kernel) ns_iadd rfl ?_
    refine nk_p (i := .iload 5) (len := 2) (pc' := 192) mJ_93 (by decide +kernel) (ns_iload 5 rfl) rfl ?_
    refine nk_p (i := .iload 11) (len := 2) (pc' := 194) mJ_93 (by decide +kernel) (ns_iload 9 rfl) rfl ?_
    refine nk_p (i := .iadd) (len := 1) (pc' := 195) mJ_93 (by decide +kernel) ns_iadd rfl ?_
    obtain ⟨r5, S6, h7, hr⟩ := nk_bde hr
    refine nk_callV (ci := 13) (n := 3) (x := 725) (len := 3) (j' := 168) (q' := 0) (r := r5) (S' := S6) (L2 := [(0, nk_r l0), (1, nk_r l1), (2, nk_i (nk_w ((nk_w (2700 + (nk_w (l10 * 12)))) + l11))), (3, nk_i (nk_w (l5 + l11)))]) (rest := []) (st' := []) (pc' := 198) mJ_93 (by decide +kernel) (by decide +kernel) rfl rfl t_l0 (Nat.le_of_ble_eq_true rfl) mJ_168 (Nat.le_of_ble_eq_true rfl) rfl (ja_X13_joinSlotInto_ok zs _ _ _ _ _ _ t_l0 t_l1 h7) rfl ?_
    obtain ⟨v8, h9, hr⟩ := nk_lte hr
    refine nk_p (i := .iinc 11 1) (len := 3) (pc' := 201) mJ_93 (by decide +kernel) (ns_iinc (c := 1) (L' := [(11, nk_i v8), (0, nk_r l0), (1, nk_r l1), (2, nk_i l2), (3, nk_i l3), (4, nk_i l4), (5, nk_i l5), (6, nk_l l6), (8, nk_l l8), (10, nk_i l10)]) 9 rfl (by decide +kernel) h9 rfl (by decide +kernel)) rfl ?_
    refine nk_p (i := .goto (-32)) (len := 3) (pc' := 169) mJ_93 (by decide +kernel) (ns_goto (by decide +kernel)) rfl ?_
    refine nk_sub [1, 2, 3, 4, 5, 6, 7, 8, 9, 0] (L' := [(0, nk_r l0), (1, nk_r l1), (2, nk_i l2), (3, nk_i l3), (4, nk_i l4), (5, nk_i l5), (6, nk_l l6), (8, nk_l l8), (10, nk_i l10), (11, nk_i v8)]) rfl ?_
    exact hrec169 _ _ _ _ _ _ _ _ _ _ _ _ t_l0 t_l1 hr
noncomputable def ja_X13_call_L169 (rec134 : Nat → Nat → Int → Int → Int → Int → Int → Int → Int → nk_S → Option (Int × nk_S)) : Nat → Nat → Nat → Int → Int → Int → Int → Int → Int → Int → Int → nk_S → Option (Int × nk_S)
  | 0, _, _, _, _, _, _, _, _, _, _, _ => none
  | n + 1, l0, l1, l2, l3, l4, l5, l6, l8, l10, l11, S => ja_X13_call_b169 rec134 (ja_X13_call_L169 rec134 n) l0 l1 l2 l3 l4 l5 l6 l8 l10 l11 S
theorem ja_X13_call_L169_ok (zs : List Int32) {rec134 : Nat → Nat → Int → Int → Int → Int → Int → Int → Int → nk_S → Option (Int × nk_S)} (hrec134 : ∀ (l0 : Nat) (l1 : Nat) (l2 : Int) (l3 : Int) (l4 : Int) (l5 : Int) (l6 : Int) (l8 : Int) (l10 : Int) (S : nk_S) (R : Int × nk_S), nk_cl ja_Tt l0 = some 13 → nk_cl ja_Tt l1 = some 12 → rec134 l0 l1 l2 l3 l4 l5 l6 l8 l10 S = some R → nk_K ja_Tt mi_Γ (mi_ev zs) 1 93 134 [(0, nk_r l0), (1, nk_r l1), (2, nk_i l2), (3, nk_i l3), (4, nk_i l4), (5, nk_i l5), (6, nk_l l6), (8, nk_l l8), (10, nk_i l10)] [] S R) : ∀ n : Nat, ∀ (l0 : Nat) (l1 : Nat) (l2 : Int) (l3 : Int) (l4 : Int) (l5 : Int) (l6 : Int) (l8 : Int) (l10 : Int) (l11 : Int) (S : nk_S) (R : Int × nk_S), nk_cl ja_Tt l0 = some 13 → nk_cl ja_Tt l1 = some 12 → ja_X13_call_L169 rec134 n l0 l1 l2 l3 l4 l5 l6 l8 l10 l11 S = some R → nk_K ja_Tt mi_Γ (mi_ev zs) 1 93 169 [(0, nk_r l0), (1, nk_r l1), (2, nk_i l2), (3, nk_i l3), (4, nk_i l4), (5, nk_i l5), (6, nk_l l6), (8, nk_l l8), (10, nk_i l10), (11, nk_i l11)] [] S R := by
  intro n
  induction n with
  | zero => intro _ _ _ _ _ _ _ _ _ _ _ _ _ _ hr; cases hr
  | succ n ih => intro l0 l1 l2 l3 l4 l5 l6 l8 l10 l11 S R t_l0 t_l1 hr; exact ja_X13_call_b169_ok zs hrec134 ih l0 l1 l2 l3 l4 l5 l6 l8 l10 l11 S R t_l0 t_l1 hr
noncomputable def ja_X13_call_b134 (rec134 : Nat → Nat → Int → Int → Int → Int → Int → Int → Int → nk_S → Option (Int × nk_S)) (l0 : Nat) (l1 : Nat) (l2 : Int) (l3 : Int) (l4 : Int) (l5 : Int) (l6 : Int) (l8 : Int) (l10 : Int) (S : nk_S) : Option (Int × nk_S) :=
  if (S.1 l1 2) ≤ l10 then
    nk_lt (nk_wi S l0 25 l5) fun S1 =>
    if l8 = 0 then
      some (0, S1)
    else
      if 0 ≤ l2 ∧ l2 < 48 then
      if (S1.1 (ja_c l1 17) l2.toNat) = (-1) then
        some (1, S1)
      else
        nk_bd (ja_X13_leaveValues l0 l1 3276 1 l8 S1) fun r5 S6 =>
        if r5 = 0 then
          some (0, S6)
        else
          some (1, S6)
      else none
  else
    if (nk_land (nk_lshr l6 l10) 1) = 0 then
      nk_lt (nk_w (l10 + 1)) fun v8 =>
      rec134 l0 l1 l2 l3 l4 l5 l6 l8 v8 S
    else
      if l3 = 0 then
        ja_X13_call_L169 rec134 nk_big l0 l1 l2 l3 l4 l5 l6 l8 l10 0 S
      else
        ja_X13_call_L169 rec134 nk_big l0 l1 l2 l3 l4 l5 l6 l8 l10 1 S
theorem ja_X13_call_b134_ok (zs : List Int32) {rec134 : Nat → Nat → Int → Int → Int → Int → Int → Int → Int → nk_S → Option (Int × nk_S)} (hrec134 : ∀ (l0 : Nat) (l1 : Nat) (l2 : Int) (l3 : Int) (l4 : Int) (l5 : Int) (l6 : Int) (l8 : Int) (l10 : Int) (S : nk_S) (R : Int × nk_S), nk_cl ja_Tt l0 = some 13 → nk_cl ja_Tt l1 = some 12 → rec134 l0 l1 l2 l3 l4 l5 l6 l8 l10 S = some R → nk_K ja_Tt mi_Γ (mi_ev zs) 1 93 134 [(0, nk_r l0), (1, nk_r l1), (2, nk_i l2), (3, nk_i l3), (4, nk_i l4), (5, nk_i l5), (6, nk_l l6), (8, nk_l l8), (10, nk_i l10)] [] S R) : ∀ (l0 : Nat) (l1 : Nat) (l2 : Int) (l3 : Int) (l4 : Int) (l5 : Int) (l6 : Int) (l8 : Int) (l10 : Int) (S : nk_S) (R : Int × nk_S), nk_cl ja_Tt l0 = some 13 → nk_cl ja_Tt l1 = some 12 → ja_X13_call_b134 rec134 l0 l1 l2 l3 l4 l5 l6 l8 l10 S = some R → nk_K ja_Tt mi_Γ (mi_ev zs) 1 93 134 [(0, nk_r l0), (1, nk_r l1), (2, nk_i l2), (3, nk_i l3), (4, nk_i l4), (5, nk_i l5), (6, nk_l l6), (8, nk_l l8), (10, nk_i l10)] [] S R := by
  intro l0 l1 l2 l3 l4 l5 l6 l8 l10 S R t_l0 t_l1 hr
  unfold ja_X13_call_b134 at hr
  refine nk_p (i := .iload 10) (len := 2) (pc' := 136) mJ_93 (by decide +kernel) (ns_iload 8 rfl) rfl ?_
  refine nk_p (i := .aload_n 1) (len := 1) (pc' := 137) mJ_93 (by decide +kernel) (ns_aload_n 1 rfl rfl) rfl ?_
  refine nk_getI (y := (0, 0)) (x := 303) (len := 3) (ci := 12) (k := 2) (pc' := 140) ja_okT mJ_93 (by decide +kernel) (by decide +kernel) (by decide +kernel) t_l1 rfl ?_
  refine nk_icmp (c := .ge) (off := 128) (len := 3) (t := 268) (pc' := 143) mJ_93 (by decide +kernel) (by decide +kernel) rfl (fun hc => ?_) (fun hc => ?_)
  · have hr := nk_ifp (c := (S.1 l1 2) ≤ l10) hc hr
    refine nk_p (i := .aload_n 0) (len := 1) (pc' := 269) mJ_93 (by decide +kernel) (ns_aload_n 0 rfl rfl) rfl ?_
    refine nk_p (i := .iload 5) (len := 2) (pc' := 271) mJ_93 (by decide +kernel) (ns_iload 5 rfl) rfl ?_
    obtain ⟨S1, h2, hr⟩ := nk_lte hr
    refine nk_putI (y := (0, 0)) (ty := .int) (x := 495) (len := 3) (ci := 13) (k := 25) (pc' := 274) ja_okT mJ_93 (by decide +kernel) (by decide +kernel) (by decide +kernel) t_l0 (Or.inl rfl) rfl h2 ?_
    refine nk_p (i := .lload 8) (len := 2) (pc' := 276) mJ_93 (by decide +kernel) (ns_lload 7 rfl) rfl ?_
    refine nk_p (i := .lconst 0) (len := 1) (pc' := 277) mJ_93 (by decide +kernel) (ns_lconst (c := 0) (by decide +kernel)) rfl ?_
    refine nk_p (i := .lcmp) (len := 1) (pc' := 278) mJ_93 (by decide +kernel) ns_lcmp rfl ?_
    refine nk_lcond (c := .ne) (off := 5) (len := 3) (t := 283) (pc' := 281) mJ_93 (by decide +kernel) (by decide +kernel) rfl (fun hc => ?_) (fun hc => ?_)
    · have hr := nk_ifn (c := l8 = 0) hc hr
      refine nk_p (i := .aload_n 1) (len := 1) (pc' := 284) mJ_93 (by decide +kernel) (ns_aload_n 1 rfl rfl) rfl ?_
      refine nk_getC (f := (4, 1, 48)) (x := 343) (len := 3) (ci := 12) (k := 17) (pc' := 287) ja_okT mJ_93 (by decide +kernel) (by decide +kernel) (by decide +kernel) (by decide) t_l1 rfl ?_
      have t3 : nk_ar ja_Tt (ja_c l1 17) = some (1, 48) := nk_ta ja_okT t_l1 (by decide +kernel)
      refine nk_p (i := .iload_n 2) (len := 1) (pc' := 288) mJ_93 (by decide +kernel) (ns_iload_n 2 rfl rfl) rfl ?_
      obtain ⟨h4, hr⟩ := nk_cke hr
      refine nk_iald (len := 1) (N := 48) (pc' := 289) mJ_93 (by decide +kernel) t3 h4.1 h4.2 rfl rfl ?_
      refine nk_p (i := .iconst (-1)) (len := 1) (pc' := 290) mJ_93 (by decide +kernel) (ns_iconst (c := (-1)) (by decide +kernel)) rfl ?_
      refine nk_icmp (c := .eq) (off := 17) (len := 3) (t := 307) (pc' := 293) mJ_93 (by decide +kernel) (by decide +kernel) rfl (fun hc => ?_) (fun hc => ?_)
      · have hr := nk_ifp (c := (S1.1 (ja_c l1 17) l2.toNat) = (-1)) hc hr
        refine nk_p (i := .iconst 1) (len := 1) (pc' := 308) mJ_93 (by decide +kernel) (ns_iconst (c := 1) (by decide +kernel)) rfl ?_
        refine nk_p (i := .goto 4) (len := 3) (pc' := 312) mJ_93 (by decide +kernel) (ns_goto (by decide +kernel)) rfl ?_
        cases hr
        exact nk_iret (ty := .boolean) (len := 1) mJ_93 (by decide +kernel) rfl (nk_nar_z (by decide))
      · have hr := nk_ifn (c := (S1.1 (ja_c l1 17) l2.toNat) = (-1)) hc hr
        refine nk_p (i := .aload_n 0) (len := 1) (pc' := 294) mJ_93 (by decide +kernel) (ns_aload_n 0 rfl rfl) rfl ?_
        refine nk_p (i := .aload_n 1) (len := 1) (pc' := 295) mJ_93 (by decide +kernel) (ns_aload_n 1 rfl rfl) rfl ?_
        refine nk_p (i := .sipush 3276) (len := 3) (pc' := 298) mJ_93 (by decide +kernel) (ns_sipush (c := 3276) (by decide +kernel)) rfl ?_
        refine nk_p (i := .iconst 1) (len := 1) (pc' := 299) mJ_93 (by decide +kernel) (ns_iconst (c := 1) (by decide +kernel)) rfl ?_
        refine nk_p (i := .lload 8) (len := 2) (pc' := 301) mJ_93 (by decide +kernel) (ns_lload 7 rfl) rfl ?_
        obtain ⟨r5, S6, h7, hr⟩ := nk_bde hr
        refine nk_callV (ci := 13) (n := 4) (x := 754) (len := 3) (j' := 177) (q' := 1) (r := r5) (S' := S6) (L2 := [(0, nk_r l0), (1, nk_r l1), (2, nk_i 3276), (3, nk_i 1), (4, nk_l l8)]) (rest := []) (st' := [nk_i r5]) (pc' := 304) mJ_93 (by decide +kernel) (by decide +kernel) rfl rfl t_l0 (Nat.le_of_ble_eq_true rfl) mJ_177 (Nat.le_of_ble_eq_true rfl) rfl (ja_X13_leaveValues_ok zs _ _ _ _ _ _ _ t_l0 t_l1 h7) rfl ?_
        refine nk_icond (c := .eq) (off := 7) (len := 3) (t := 311) (pc' := 307) mJ_93 (by decide +kernel) (by decide +kernel) rfl (fun hc => ?_) (fun hc => ?_)
        · have hr := nk_ifp (c := r5 = 0) hc hr
          refine nk_p (i := .iconst 0) (len := 1) (pc' := 312) mJ_93 (by decide +kernel) (ns_iconst (c := 0) (by decide +kernel)) rfl ?_
          cases hr
          exact nk_iret (ty := .boolean) (len := 1) mJ_93 (by decide +kernel) rfl (nk_nar_z (by decide))
        · have hr := nk_ifn (c := r5 = 0) hc hr
          refine nk_p (i := .iconst 1) (len := 1) (pc' := 308) mJ_93 (by decide +kernel) (ns_iconst (c := 1) (by decide +kernel)) rfl ?_
          refine nk_p (i := .goto 4) (len := 3) (pc' := 312) mJ_93 (by decide +kernel) (ns_goto (by decide +kernel)) rfl ?_
          cases hr
          exact nk_iret (ty := .boolean) (len := 1) mJ_93 (by decide +kernel) rfl (nk_nar_z (by decide))
    · have hr := nk_ifp (c := l8 = 0) (Decidable.of_not_not hc) hr
      refine nk_p (i := .iconst 0) (len := 1) (pc' := 282) mJ_93 (by decide +kernel) (ns_iconst (c := 0) (by decide +kernel)) rfl ?_
      cases hr
      exact nk_iret (ty := .boolean) (len := 1) mJ_93 (by decide +kernel) rfl (nk_nar_z (by decide))
  · have hr := nk_ifn (c := (S.1 l1 2) ≤ l10) hc hr
    refine nk_p (i := .lload 6) (len := 2) (pc' := 145) mJ_93 (by decide +kernel) (ns_lload 6 rfl) rfl ?_
    refine nk_p (i := .iload 10) (len := 2) (pc' := 147) mJ_93 (by decide +kernel) (ns_iload 8 rfl) rfl ?_
    refine nk_p (i := .lshr) (len := 1) (pc' := 148) mJ_93 (by decide +kernel) ns_lshr rfl ?_
    refine nk_p (i := .lconst 1) (len := 1) (pc' := 149) mJ_93 (by decide +kernel) (ns_lconst (c := 1) (by decide +kernel)) rfl ?_
    refine nk_p (i := .land) (len := 1) (pc' := 150) mJ_93 (by decide +kernel) ns_land rfl ?_
    refine nk_p (i := .lconst 0) (len := 1) (pc' := 151) mJ_93 (by decide +kernel) (ns_lconst (c := 0) (by decide +kernel)) rfl ?_
    refine nk_p (i := .lcmp) (len := 1) (pc' := 152) mJ_93 (by decide +kernel) ns_lcmp rfl ?_
    refine nk_lcond (c := .ne) (off := 6) (len := 3) (t := 158) (pc' := 155) mJ_93 (by decide +kernel) (by decide +kernel) rfl (fun hc => ?_) (fun hc => ?_)
    · have hr := nk_ifn (c := (nk_land (nk_lshr l6 l10) 1) = 0) hc hr
      refine nk_p (i := .iload_n 3) (len := 1) (pc' := 159) mJ_93 (by decide +kernel) (ns_iload_n 3 rfl rfl) rfl ?_
      refine nk_icond (c := .eq) (off := 7) (len := 3) (t := 166) (pc' := 162) mJ_93 (by decide +kernel) (by decide +kernel) rfl (fun hc => ?_) (fun hc => ?_)
      · have hr := nk_ifp (c := l3 = 0) hc hr
        refine nk_p (i := .iconst 0) (len := 1) (pc' := 167) mJ_93 (by decide +kernel) (ns_iconst (c := 0) (by decide +kernel)) rfl ?_
        refine nk_p (i := .istore 11) (len := 2) (pc' := 169) mJ_93 (by decide +kernel) (ns_istore (L' := [(11, nk_i 0), (0, nk_r l0), (1, nk_r l1), (2, nk_i l2), (3, nk_i l3), (4, nk_i l4), (5, nk_i l5), (6, nk_l l6), (8, nk_l l8), (10, nk_i l10)]) rfl rfl (by decide +kernel)) rfl ?_
        refine nk_sub [1, 2, 3, 4, 5, 6, 7, 8, 9, 0] (L' := [(0, nk_r l0), (1, nk_r l1), (2, nk_i l2), (3, nk_i l3), (4, nk_i l4), (5, nk_i l5), (6, nk_l l6), (8, nk_l l8), (10, nk_i l10), (11, nk_i 0)]) rfl ?_
        exact ja_X13_call_L169_ok zs hrec134 nk_big _ _ _ _ _ _ _ _ _ _ _ _ t_l0 t_l1 hr
      · have hr := nk_ifn (c := l3 = 0) hc hr
        refine nk_p (i := .iconst 1) (len := 1) (pc' := 163) mJ_93 (by decide +kernel) (ns_iconst (c := 1) (by decide +kernel)) rfl ?_
        refine nk_p (i := .goto 4) (len := 3) (pc' := 167) mJ_93 (by decide +kernel) (ns_goto (by decide +kernel)) rfl ?_
        refine nk_p (i := .istore 11) (len := 2) (pc' := 169) mJ_93 (by decide +kernel) (ns_istore (L' := [(11, nk_i 1), (0, nk_r l0), (1, nk_r l1), (2, nk_i l2), (3, nk_i l3), (4, nk_i l4), (5, nk_i l5), (6, nk_l l6), (8, nk_l l8), (10, nk_i l10)]) rfl rfl (by decide +kernel)) rfl ?_
        refine nk_sub [1, 2, 3, 4, 5, 6, 7, 8, 9, 0] (L' := [(0, nk_r l0), (1, nk_r l1), (2, nk_i l2), (3, nk_i l3), (4, nk_i l4), (5, nk_i l5), (6, nk_l l6), (8, nk_l l8), (10, nk_i l10), (11, nk_i 1)]) rfl ?_
        exact ja_X13_call_L169_ok zs hrec134 nk_big _ _ _ _ _ _ _ _ _ _ _ _ t_l0 t_l1 hr
    · have hr := nk_ifp (c := (nk_land (nk_lshr l6 l10) 1) = 0) (Decidable.of_not_not hc) hr
      refine nk_p (i := .goto 107) (len := 3) (pc' := 262) mJ_93 (by decide +kernel) (ns_goto (by decide +kernel)) rfl ?_
      obtain ⟨v8, h9, hr⟩ := nk_lte hr
      refine nk_p (i := .iinc 10 1) (len := 3) (pc' := 265) mJ_93 (by decide +kernel) (ns_iinc (c := 1) (L' := [(10, nk_i v8), (0, nk_r l0), (1, nk_r l1), (2, nk_i l2), (3, nk_i l3), (4, nk_i l4), (5, nk_i l5), (6, nk_l l6), (8, nk_l l8)]) 8 rfl (by decide +kernel) h9 rfl (by decide +kernel)) rfl ?_
      refine nk_p (i := .goto (-131)) (len := 3) (pc' := 134) mJ_93 (by decide +kernel) (ns_goto (by decide +kernel)) rfl ?_
      refine nk_sub [1, 2, 3, 4, 5, 6, 7, 8, 0] (L' := [(0, nk_r l0), (1, nk_r l1), (2, nk_i l2), (3, nk_i l3), (4, nk_i l4), (5, nk_i l5), (6, nk_l l6), (8, nk_l l8), (10, nk_i v8)]) rfl ?_
      exact hrec134 _ _ _ _ _ _ _ _ _ _ _ t_l0 t_l1 hr
noncomputable def ja_X13_call_L134 : Nat → Nat → Nat → Int → Int → Int → Int → Int → Int → Int → nk_S → Option (Int × nk_S)
  | 0, _, _, _, _, _, _, _, _, _, _ => none
  | n + 1, l0, l1, l2, l3, l4, l5, l6, l8, l10, S => ja_X13_call_b134 (ja_X13_call_L134 n) l0 l1 l2 l3 l4 l5 l6 l8 l10 S
theorem ja_X13_call_L134_ok (zs : List Int32) : ∀ n : Nat, ∀ (l0 : Nat) (l1 : Nat) (l2 : Int) (l3 : Int) (l4 : Int) (l5 : Int) (l6 : Int) (l8 : Int) (l10 : Int) (S : nk_S) (R : Int × nk_S), nk_cl ja_Tt l0 = some 13 → nk_cl ja_Tt l1 = some 12 → ja_X13_call_L134 n l0 l1 l2 l3 l4 l5 l6 l8 l10 S = some R → nk_K ja_Tt mi_Γ (mi_ev zs) 1 93 134 [(0, nk_r l0), (1, nk_r l1), (2, nk_i l2), (3, nk_i l3), (4, nk_i l4), (5, nk_i l5), (6, nk_l l6), (8, nk_l l8), (10, nk_i l10)] [] S R := by
  intro n
  induction n with
  | zero => intro _ _ _ _ _ _ _ _ _ _ _ _ _ hr; cases hr
  | succ n ih => intro l0 l1 l2 l3 l4 l5 l6 l8 l10 S R t_l0 t_l1 hr; exact ja_X13_call_b134_ok zs ih l0 l1 l2 l3 l4 l5 l6 l8 l10 S R t_l0 t_l1 hr
noncomputable def ja_X13_call_b38 (rec38 : Nat → Nat → Int → Int → Int → Int → Int → Int → nk_S → Option (Int × nk_S)) (l0 : Nat) (l1 : Nat) (l2 : Int) (l3 : Int) (l4 : Int) (l5 : Int) (l6 : Int) (l8 : Int) (S : nk_S) : Option (Int × nk_S) :=
  if 54 ≤ l8 then
    ja_X13_call_L134 nk_big l0 l1 l2 l3 l4 l5 l6 0 0 S
  else
    if 0 ≤ l5 ∧ l5 < 24 then
    if (nk_land (nk_lshr (S.1 (ja_c l0 29) l5.toNat) l8) 1) = 0 then
      nk_lt (nk_w (l8 + 1)) fun v16 =>
      rec38 l0 l1 l2 l3 l4 l5 l6 v16 S
    else
      if 0 ≤ l8 ∧ l8 < 54 then
      if 0 ≤ (nk_w ((nk_w ((nk_w ((S.1 (ja_c l1 27) l8.toNat) - 8)) * 48)) + l2)) ∧ (nk_w ((nk_w ((nk_w ((S.1 (ja_c l1 27) l8.toNat) - 8)) * 48)) + l2)) < 1536 then
      nk_lt (S.1 (ja_c l1 21) (nk_w ((nk_w ((nk_w ((S.1 (ja_c l1 27) l8.toNat) - 8)) * 48)) + l2)).toNat) fun v7 =>
      nk_lt (nk_lor l6 (nk_lshl 1 v7)) fun v9 =>
      nk_bd (ja_X13_joinSites l0 l1 (nk_w (2700 + (nk_w (v7 * 12)))) (nk_lshl 1 l8) S) fun r11 S12 =>
      nk_lt (nk_w (l8 + 1)) fun v14 =>
      rec38 l0 l1 l2 l3 l4 l5 v9 v14 S12
      else none
      else none
    else none
theorem ja_X13_call_b38_ok (zs : List Int32) {rec38 : Nat → Nat → Int → Int → Int → Int → Int → Int → nk_S → Option (Int × nk_S)} (hrec38 : ∀ (l0 : Nat) (l1 : Nat) (l2 : Int) (l3 : Int) (l4 : Int) (l5 : Int) (l6 : Int) (l8 : Int) (S : nk_S) (R : Int × nk_S), nk_cl ja_Tt l0 = some 13 → nk_cl ja_Tt l1 = some 12 → rec38 l0 l1 l2 l3 l4 l5 l6 l8 S = some R → nk_K ja_Tt mi_Γ (mi_ev zs) 1 93 38 [(0, nk_r l0), (1, nk_r l1), (2, nk_i l2), (3, nk_i l3), (4, nk_i l4), (5, nk_i l5), (6, nk_l l6), (8, nk_i l8)] [] S R) : ∀ (l0 : Nat) (l1 : Nat) (l2 : Int) (l3 : Int) (l4 : Int) (l5 : Int) (l6 : Int) (l8 : Int) (S : nk_S) (R : Int × nk_S), nk_cl ja_Tt l0 = some 13 → nk_cl ja_Tt l1 = some 12 → ja_X13_call_b38 rec38 l0 l1 l2 l3 l4 l5 l6 l8 S = some R → nk_K ja_Tt mi_Γ (mi_ev zs) 1 93 38 [(0, nk_r l0), (1, nk_r l1), (2, nk_i l2), (3, nk_i l3), (4, nk_i l4), (5, nk_i l5), (6, nk_l l6), (8, nk_i l8)] [] S R := by
  intro l0 l1 l2 l3 l4 l5 l6 l8 S R t_l0 t_l1 hr
  unfold ja_X13_call_b38 at hr
  refine nk_p (i := .iload 8) (len := 2) (pc' := 40) mJ_93 (by decide +kernel) (ns_iload 7 rfl) rfl ?_
  refine nk_p (i := .bipush 54) (len := 2) (pc' := 42) mJ_93 (by decide +kernel) (ns_bipush (c := 54) (by decide +kernel)) rfl ?_
  refine nk_icmp (c := .ge) (off := 78) (len := 3) (t := 120) (pc' := 45) mJ_93 (by decide +kernel) (by decide +kernel) rfl (fun hc => ?_) (fun hc => ?_)
  · have hr := nk_ifp (c := 54 ≤ l8) hc hr
    refine nk_p (i := .goto 8) (len := 3) (pc' := 128) mJ_93 (by decide +kernel) (ns_goto (by decide +kernel)) rfl ?_
    refine nk_p (i := .lconst 0) (len := 1) (pc' := 129) mJ_93 (by decide +kernel) (ns_lconst (c := 0) (by decide +kernel)) rfl ?_
    refine nk_p (i := .lstore 8) (len := 2) (pc' := 131) mJ_93 (by decide +kernel) (ns_lstore (L' := [(8, nk_l 0), (0, nk_r l0), (1, nk_r l1), (2, nk_i l2), (3, nk_i l3), (4, nk_i l4), (5, nk_i l5), (6, nk_l l6)]) rfl rfl (by decide +kernel)) rfl ?_
    refine nk_p (i := .iconst 0) (len := 1) (pc' := 132) mJ_93 (by decide +kernel) (ns_iconst (c := 0) (by decide +kernel)) rfl ?_
    refine nk_p (i := .istore 10) (len := 2) (pc' := 134) mJ_93 (by decide +kernel) (ns_istore (L' := [(10, nk_i 0), (8, nk_l 0), (0, nk_r l0), (1, nk_r l1), (2, nk_i l2), (3, nk_i l3), (4, nk_i l4), (5, nk_i l5), (6, nk_l l6)]) rfl rfl (by decide +kernel)) rfl ?_
    refine nk_sub [2, 3, 4, 5, 6, 7, 8, 1, 0] (L' := [(0, nk_r l0), (1, nk_r l1), (2, nk_i l2), (3, nk_i l3), (4, nk_i l4), (5, nk_i l5), (6, nk_l l6), (8, nk_l 0), (10, nk_i 0)]) rfl ?_
    exact ja_X13_call_L134_ok zs nk_big _ _ _ _ _ _ _ _ _ _ _ t_l0 t_l1 hr
  · have hr := nk_ifn (c := 54 ≤ l8) hc hr
    refine nk_p (i := .aload_n 0) (len := 1) (pc' := 46) mJ_93 (by decide +kernel) (ns_aload_n 0 rfl rfl) rfl ?_
    refine nk_getC (f := (4, 2, 24)) (x := 80) (len := 3) (ci := 13) (k := 29) (pc' := 49) ja_okT mJ_93 (by decide +kernel) (by decide +kernel) (by decide +kernel) (by decide) t_l0 rfl ?_
    have t1 : nk_ar ja_Tt (ja_c l0 29) = some (2, 24) := nk_ta ja_okT t_l0 (by decide +kernel)
    refine nk_p (i := .iload 5) (len := 2) (pc' := 51) mJ_93 (by decide +kernel) (ns_iload 5 rfl) rfl ?_
    obtain ⟨h2, hr⟩ := nk_cke hr
    refine nk_lald (len := 1) (N := 24) (pc' := 52) mJ_93 (by decide +kernel) t1 h2.1 h2.2 rfl rfl ?_
    refine nk_p (i := .iload 8) (len := 2) (pc' := 54) mJ_93 (by decide +kernel) (ns_iload 7 rfl) rfl ?_
    refine nk_p (i := .lshr) (len := 1) (pc' := 55) mJ_93 (by decide +kernel) ns_lshr rfl ?_
    refine nk_p (i := .lconst 1) (len := 1) (pc' := 56) mJ_93 (by decide +kernel) (ns_lconst (c := 1) (by decide +kernel)) rfl ?_
    refine nk_p (i := .land) (len := 1) (pc' := 57) mJ_93 (by decide +kernel) ns_land rfl ?_
    refine nk_p (i := .lconst 0) (len := 1) (pc' := 58) mJ_93 (by decide +kernel) (ns_lconst (c := 0) (by decide +kernel)) rfl ?_
    refine nk_p (i := .lcmp) (len := 1) (pc' := 59) mJ_93 (by decide +kernel) ns_lcmp rfl ?_
    refine nk_lcond (c := .ne) (off := 6) (len := 3) (t := 65) (pc' := 62) mJ_93 (by decide +kernel) (by decide +kernel) rfl (fun hc => ?_) (fun hc => ?_)
    · have hr := nk_ifn (c := (nk_land (nk_lshr (S.1 (ja_c l0 29) l5.toNat) l8) 1) = 0) hc hr
      refine nk_p (i := .aload_n 1) (len := 1) (pc' := 66) mJ_93 (by decide +kernel) (ns_aload_n 1 rfl rfl) rfl ?_
      refine nk_getC (f := (4, 1, 1536)) (x := 450) (len := 3) (ci := 12) (k := 21) (pc' := 69) ja_okT mJ_93 (by decide +kernel) (by decide +kernel) (by decide +kernel) (by decide) t_l1 rfl ?_
      have t3 : nk_ar ja_Tt (ja_c l1 21) = some (1, 1536) := nk_ta ja_okT t_l1 (by decide +kernel)
      refine nk_p (i := .aload_n 1) (len := 1) (pc' := 70) mJ_93 (by decide +kernel) (ns_aload_n 1 rfl rfl) rfl ?_
      refine nk_getC (f := (4, 1, 54)) (x := 432) (len := 3) (ci := 12) (k := 27) (pc' := 73) ja_okT mJ_93 (by decide +kernel) (by decide +kernel) (by decide +kernel) (by decide) t_l1 rfl ?_
      have t4 : nk_ar ja_Tt (ja_c l1 27) = some (1, 54) := nk_ta ja_okT t_l1 (by decide +kernel)
      refine nk_p (i := .iload 8) (len := 2) (pc' := 75) mJ_93 (by decide +kernel) (ns_iload 7 rfl) rfl ?_
      obtain ⟨h5, hr⟩ := nk_cke hr
      refine nk_iald (len := 1) (N := 54) (pc' := 76) mJ_93 (by decide +kernel) t4 h5.1 h5.2 rfl rfl ?_
      refine nk_p (i := .bipush 8) (len := 2) (pc' := 78) mJ_93 (by decide +kernel) (ns_bipush (c := 8) (by decide +kernel)) rfl ?_
      refine nk_p (i := .isub) (len := 1) (pc' := 79) mJ_93 (by decide +kernel) ns_isub rfl ?_
      refine nk_p (i := .bipush 48) (len := 2) (pc' := 81) mJ_93 (by decide +kernel) (ns_bipush (c := 48) (by decide +kernel)) rfl ?_
      refine nk_p (i := .imul) (len := 1) (pc' := 82) mJ_93 (by decide +kernel) ns_imul rfl ?_
      refine nk_p (i := .iload_n 2) (len := 1) (pc' := 83) mJ_93 (by decide +kernel) (ns_iload_n 2 rfl rfl) rfl ?_
      refine nk_p (i := .iadd) (len := 1) (pc' := 84) mJ_93 (by decide +kernel) ns_iadd rfl ?_
      obtain ⟨h6, hr⟩ := nk_cke hr
      refine nk_iald (len := 1) (N := 1536) (pc' := 85) mJ_93 (by decide +kernel) t3 h6.1 h6.2 rfl rfl ?_
      obtain ⟨v7, h8, hr⟩ := nk_lte hr
      refine nk_p (i := .istore 9) (len := 2) (pc' := 87) mJ_93 (by decide +kernel) (ns_istore (L' := [(9, nk_i v7), (0, nk_r l0), (1, nk_r l1), (2, nk_i l2), (3, nk_i l3), (4, nk_i l4), (5, nk_i l5), (6, nk_l l6), (8, nk_i l8)]) h8 rfl (by decide +kernel)) rfl ?_
      refine nk_p (i := .lload 6) (len := 2) (pc' := 89) mJ_93 (by decide +kernel) (ns_lload 7 rfl) rfl ?_
      refine nk_p (i := .lconst 1) (len := 1) (pc' := 90) mJ_93 (by decide +kernel) (ns_lconst (c := 1) (by decide +kernel)) rfl ?_
      refine nk_p (i := .iload 9) (len := 2) (pc' := 92) mJ_93 (by decide +kernel) (ns_iload 0 rfl) rfl ?_
      refine nk_p (i := .lshl) (len := 1) (pc' := 93) mJ_93 (by decide +kernel) ns_lshl rfl ?_
      refine nk_p (i := .lor) (len := 1) (pc' := 94) mJ_93 (by decide +kernel) ns_lor rfl ?_
      obtain ⟨v9, h10, hr⟩ := nk_lte hr
      refine nk_p (i := .lstore 6) (len := 2) (pc' := 96) mJ_93 (by decide +kernel) (ns_lstore (L' := [(6, nk_l v9), (9, nk_i v7), (0, nk_r l0), (1, nk_r l1), (2, nk_i l2), (3, nk_i l3), (4, nk_i l4), (5, nk_i l5), (8, nk_i l8)]) h10 rfl (by decide +kernel)) rfl ?_
      refine nk_p (i := .aload_n 0) (len := 1) (pc' := 97) mJ_93 (by decide +kernel) (ns_aload_n 2 rfl rfl) rfl ?_
      refine nk_p (i := .aload_n 1) (len := 1) (pc' := 98) mJ_93 (by decide +kernel) (ns_aload_n 3 rfl rfl) rfl ?_
      refine nk_p (i := .sipush 2700) (len := 3) (pc' := 101) mJ_93 (by decide +kernel) (ns_sipush (c := 2700) (by decide +kernel)) rfl ?_
      refine nk_p (i := .iload 9) (len := 2) (pc' := 103) mJ_93 (by decide +kernel) (ns_iload 1 rfl) rfl ?_
      refine nk_p (i := .bipush 12) (len := 2) (pc' := 105) mJ_93 (by decide +kernel) (ns_bipush (c := 12) (by decide +kernel)) rfl ?_
      refine nk_p (i := .imul) (len := 1) (pc' := 106) mJ_93 (by decide +kernel) ns_imul rfl ?_
      refine nk_p (i := .iadd) (len := 1) (pc' := 107) mJ_93 (by decide +kernel) ns_iadd rfl ?_
      refine nk_p (i := .lconst 1) (len := 1) (pc' := 108) mJ_93 (by decide +kernel) (ns_lconst (c := 1) (by decide +kernel)) rfl ?_
      refine nk_p (i := .iload 8) (len := 2) (pc' := 110) mJ_93 (by decide +kernel) (ns_iload 8 rfl) rfl ?_
      refine nk_p (i := .lshl) (len := 1) (pc' := 111) mJ_93 (by decide +kernel) ns_lshl rfl ?_
      obtain ⟨r11, S12, h13, hr⟩ := nk_bde hr
      refine nk_callV (ci := 13) (n := 3) (x := 595) (len := 3) (j' := 166) (q' := 0) (r := r11) (S' := S12) (L2 := [(0, nk_r l0), (1, nk_r l1), (2, nk_i (nk_w (2700 + (nk_w (v7 * 12))))), (3, nk_l (nk_lshl 1 l8))]) (rest := []) (st' := []) (pc' := 114) mJ_93 (by decide +kernel) (by decide +kernel) rfl rfl t_l0 (Nat.le_of_ble_eq_true rfl) mJ_166 (Nat.le_of_ble_eq_true rfl) rfl (ja_X13_joinSites_ok zs _ _ _ _ _ _ t_l0 t_l1 h13) rfl ?_
      obtain ⟨v14, h15, hr⟩ := nk_lte hr
      refine nk_p (i := .iinc 8 1) (len := 3) (pc' := 117) mJ_93 (by decide +kernel) (ns_iinc (c := 1) (L' := [(8, nk_i v14), (6, nk_l v9), (9, nk_i v7), (0, nk_r l0), (1, nk_r l1), (2, nk_i l2), (3, nk_i l3), (4, nk_i l4), (5, nk_i l5)]) 8 rfl (by decide +kernel) h15 rfl (by decide +kernel)) rfl ?_
      refine nk_p (i := .goto (-79)) (len := 3) (pc' := 38) mJ_93 (by decide +kernel) (ns_goto (by decide +kernel)) rfl ?_
      refine nk_sub [3, 4, 5, 6, 7, 8, 1, 0] (L' := [(0, nk_r l0), (1, nk_r l1), (2, nk_i l2), (3, nk_i l3), (4, nk_i l4), (5, nk_i l5), (6, nk_l v9), (8, nk_i v14)]) rfl ?_
      exact hrec38 _ _ _ _ _ _ _ _ _ _ t_l0 t_l1 hr
    · have hr := nk_ifp (c := (nk_land (nk_lshr (S.1 (ja_c l0 29) l5.toNat) l8) 1) = 0) (Decidable.of_not_not hc) hr
      refine nk_p (i := .goto 52) (len := 3) (pc' := 114) mJ_93 (by decide +kernel) (ns_goto (by decide +kernel)) rfl ?_
      obtain ⟨v16, h17, hr⟩ := nk_lte hr
      refine nk_p (i := .iinc 8 1) (len := 3) (pc' := 117) mJ_93 (by decide +kernel) (ns_iinc (c := 1) (L' := [(8, nk_i v16), (0, nk_r l0), (1, nk_r l1), (2, nk_i l2), (3, nk_i l3), (4, nk_i l4), (5, nk_i l5), (6, nk_l l6)]) 7 rfl (by decide +kernel) h17 rfl (by decide +kernel)) rfl ?_
      refine nk_p (i := .goto (-79)) (len := 3) (pc' := 38) mJ_93 (by decide +kernel) (ns_goto (by decide +kernel)) rfl ?_
      refine nk_sub [1, 2, 3, 4, 5, 6, 7, 0] (L' := [(0, nk_r l0), (1, nk_r l1), (2, nk_i l2), (3, nk_i l3), (4, nk_i l4), (5, nk_i l5), (6, nk_l l6), (8, nk_i v16)]) rfl ?_
      exact hrec38 _ _ _ _ _ _ _ _ _ _ t_l0 t_l1 hr
noncomputable def ja_X13_call_L38 : Nat → Nat → Nat → Int → Int → Int → Int → Int → Int → nk_S → Option (Int × nk_S)
  | 0, _, _, _, _, _, _, _, _, _ => none
  | n + 1, l0, l1, l2, l3, l4, l5, l6, l8, S => ja_X13_call_b38 (ja_X13_call_L38 n) l0 l1 l2 l3 l4 l5 l6 l8 S
theorem ja_X13_call_L38_ok (zs : List Int32) : ∀ n : Nat, ∀ (l0 : Nat) (l1 : Nat) (l2 : Int) (l3 : Int) (l4 : Int) (l5 : Int) (l6 : Int) (l8 : Int) (S : nk_S) (R : Int × nk_S), nk_cl ja_Tt l0 = some 13 → nk_cl ja_Tt l1 = some 12 → ja_X13_call_L38 n l0 l1 l2 l3 l4 l5 l6 l8 S = some R → nk_K ja_Tt mi_Γ (mi_ev zs) 1 93 38 [(0, nk_r l0), (1, nk_r l1), (2, nk_i l2), (3, nk_i l3), (4, nk_i l4), (5, nk_i l5), (6, nk_l l6), (8, nk_i l8)] [] S R := by
  intro n
  induction n with
  | zero => intro _ _ _ _ _ _ _ _ _ _ _ _ hr; cases hr
  | succ n ih => intro l0 l1 l2 l3 l4 l5 l6 l8 S R t_l0 t_l1 hr; exact ja_X13_call_b38_ok zs ih l0 l1 l2 l3 l4 l5 l6 l8 S R t_l0 t_l1 hr
noncomputable def ja_X13_call (l0 : Nat) (l1 : Nat) (l2 : Int) (l3 : Int) (S : nk_S) : Option (Int × nk_S) :=
  if 0 ≤ l2 ∧ l2 < 48 then
  nk_lt (S.1 (ja_c l1 15) l2.toNat) fun v3 =>
  nk_lt (nk_w ((S.1 l0 25) - v3)) fun v5 =>
  if l3 = 0 then
    nk_lt (nk_lshl 1 l2) fun v7 =>
    ja_X13_call_L134 nk_big l0 l1 l2 l3 v3 v5 v7 0 0 S
  else
    nk_bd (ja_X13_dereference l0 v5 S) fun r9 S10 =>
    if r9 = 0 then
      some (0, S10)
    else
      ja_X13_call_L38 nk_big l0 l1 l2 l3 v3 v5 0 0 S10
  else none
theorem ja_X13_call_ok (zs : List Int32) : ∀ (l0 : Nat) (l1 : Nat) (l2 : Int) (l3 : Int) (S : nk_S) (R : Int × nk_S), nk_cl ja_Tt l0 = some 13 → nk_cl ja_Tt l1 = some 12 → ja_X13_call l0 l1 l2 l3 S = some R → nk_K ja_Tt mi_Γ (mi_ev zs) 1 93 0 [(0, nk_r l0), (1, nk_r l1), (2, nk_i l2), (3, nk_i l3)] [] S R := by
  intro l0 l1 l2 l3 S R t_l0 t_l1 hr
  unfold ja_X13_call at hr
  refine nk_p (i := .aload_n 1) (len := 1) (pc' := 1) mJ_93 (by decide +kernel) (ns_aload_n 1 rfl rfl) rfl ?_
  refine nk_getC (f := (4, 1, 48)) (x := 348) (len := 3) (ci := 12) (k := 15) (pc' := 4) ja_okT mJ_93 (by decide +kernel) (by decide +kernel) (by decide +kernel) (by decide) t_l1 rfl ?_
  have t1 : nk_ar ja_Tt (ja_c l1 15) = some (1, 48) := nk_ta ja_okT t_l1 (by decide +kernel)
  refine nk_p (i := .iload_n 2) (len := 1) (pc' := 5) mJ_93 (by decide +kernel) (ns_iload_n 2 rfl rfl) rfl ?_
  obtain ⟨h2, hr⟩ := nk_cke hr
  refine nk_iald (len := 1) (N := 48) (pc' := 6) mJ_93 (by decide +kernel) t1 h2.1 h2.2 rfl rfl ?_
  obtain ⟨v3, h4, hr⟩ := nk_lte hr
  refine nk_p (i := .istore 4) (len := 2) (pc' := 8) mJ_93 (by decide +kernel) (ns_istore (L' := [(4, nk_i v3), (0, nk_r l0), (1, nk_r l1), (2, nk_i l2), (3, nk_i l3)]) h4 rfl (by decide +kernel)) rfl ?_
  refine nk_p (i := .aload_n 0) (len := 1) (pc' := 9) mJ_93 (by decide +kernel) (ns_aload_n 1 rfl rfl) rfl ?_
  refine nk_getI (y := (0, 0)) (x := 495) (len := 3) (ci := 13) (k := 25) (pc' := 12) ja_okT mJ_93 (by decide +kernel) (by decide +kernel) (by decide +kernel) t_l0 rfl ?_
  refine nk_p (i := .iload 4) (len := 2) (pc' := 14) mJ_93 (by decide +kernel) (ns_iload 0 rfl) rfl ?_
  refine nk_p (i := .isub) (len := 1) (pc' := 15) mJ_93 (by decide +kernel) ns_isub rfl ?_
  obtain ⟨v5, h6, hr⟩ := nk_lte hr
  refine nk_p (i := .istore 5) (len := 2) (pc' := 17) mJ_93 (by decide +kernel) (ns_istore (L' := [(5, nk_i v5), (4, nk_i v3), (0, nk_r l0), (1, nk_r l1), (2, nk_i l2), (3, nk_i l3)]) h6 rfl (by decide +kernel)) rfl ?_
  refine nk_p (i := .lconst 0) (len := 1) (pc' := 18) mJ_93 (by decide +kernel) (ns_lconst (c := 0) (by decide +kernel)) rfl ?_
  refine nk_p (i := .lstore 6) (len := 2) (pc' := 20) mJ_93 (by decide +kernel) (ns_lstore (L' := [(6, nk_l 0), (5, nk_i v5), (4, nk_i v3), (0, nk_r l0), (1, nk_r l1), (2, nk_i l2), (3, nk_i l3)]) rfl rfl (by decide +kernel)) rfl ?_
  refine nk_p (i := .iload_n 3) (len := 1) (pc' := 21) mJ_93 (by decide +kernel) (ns_iload_n 6 rfl rfl) rfl ?_
  refine nk_icond (c := .eq) (off := 102) (len := 3) (t := 123) (pc' := 24) mJ_93 (by decide +kernel) (by decide +kernel) rfl (fun hc => ?_) (fun hc => ?_)
  · have hr := nk_ifp (c := l3 = 0) hc hr
    refine nk_p (i := .lconst 1) (len := 1) (pc' := 124) mJ_93 (by decide +kernel) (ns_lconst (c := 1) (by decide +kernel)) rfl ?_
    refine nk_p (i := .iload_n 2) (len := 1) (pc' := 125) mJ_93 (by decide +kernel) (ns_iload_n 5 rfl rfl) rfl ?_
    refine nk_p (i := .lshl) (len := 1) (pc' := 126) mJ_93 (by decide +kernel) ns_lshl rfl ?_
    obtain ⟨v7, h8, hr⟩ := nk_lte hr
    refine nk_p (i := .lstore 6) (len := 2) (pc' := 128) mJ_93 (by decide +kernel) (ns_lstore (L' := [(6, nk_l v7), (5, nk_i v5), (4, nk_i v3), (0, nk_r l0), (1, nk_r l1), (2, nk_i l2), (3, nk_i l3)]) h8 rfl (by decide +kernel)) rfl ?_
    refine nk_p (i := .lconst 0) (len := 1) (pc' := 129) mJ_93 (by decide +kernel) (ns_lconst (c := 0) (by decide +kernel)) rfl ?_
    refine nk_p (i := .lstore 8) (len := 2) (pc' := 131) mJ_93 (by decide +kernel) (ns_lstore (L' := [(8, nk_l 0), (6, nk_l v7), (5, nk_i v5), (4, nk_i v3), (0, nk_r l0), (1, nk_r l1), (2, nk_i l2), (3, nk_i l3)]) rfl rfl (by decide +kernel)) rfl ?_
    refine nk_p (i := .iconst 0) (len := 1) (pc' := 132) mJ_93 (by decide +kernel) (ns_iconst (c := 0) (by decide +kernel)) rfl ?_
    refine nk_p (i := .istore 10) (len := 2) (pc' := 134) mJ_93 (by decide +kernel) (ns_istore (L' := [(10, nk_i 0), (8, nk_l 0), (6, nk_l v7), (5, nk_i v5), (4, nk_i v3), (0, nk_r l0), (1, nk_r l1), (2, nk_i l2), (3, nk_i l3)]) rfl rfl (by decide +kernel)) rfl ?_
    refine nk_sub [5, 6, 7, 8, 4, 3, 2, 1, 0] (L' := [(0, nk_r l0), (1, nk_r l1), (2, nk_i l2), (3, nk_i l3), (4, nk_i v3), (5, nk_i v5), (6, nk_l v7), (8, nk_l 0), (10, nk_i 0)]) rfl ?_
    exact ja_X13_call_L134_ok zs nk_big _ _ _ _ _ _ _ _ _ _ _ t_l0 t_l1 hr
  · have hr := nk_ifn (c := l3 = 0) hc hr
    refine nk_p (i := .aload_n 0) (len := 1) (pc' := 25) mJ_93 (by decide +kernel) (ns_aload_n 3 rfl rfl) rfl ?_
    refine nk_p (i := .iload 5) (len := 2) (pc' := 27) mJ_93 (by decide +kernel) (ns_iload 1 rfl) rfl ?_
    obtain ⟨r9, S10, h11, hr⟩ := nk_bde hr
    refine nk_callV (ci := 13) (n := 1) (x := 751) (len := 3) (j' := 106) (q' := 1) (r := r9) (S' := S10) (L2 := [(0, nk_r l0), (1, nk_i v5)]) (rest := []) (st' := [nk_i r9]) (pc' := 30) mJ_93 (by decide +kernel) (by decide +kernel) rfl rfl t_l0 (Nat.le_of_ble_eq_true rfl) mJ_106 (Nat.le_of_ble_eq_true rfl) rfl (ja_X13_dereference_ok zs _ _ _ _ t_l0 h11) rfl ?_
    refine nk_icond (c := .ne) (off := 5) (len := 3) (t := 35) (pc' := 33) mJ_93 (by decide +kernel) (by decide +kernel) rfl (fun hc => ?_) (fun hc => ?_)
    · have hr := nk_ifn (c := r9 = 0) hc hr
      refine nk_p (i := .iconst 0) (len := 1) (pc' := 36) mJ_93 (by decide +kernel) (ns_iconst (c := 0) (by decide +kernel)) rfl ?_
      refine nk_p (i := .istore 8) (len := 2) (pc' := 38) mJ_93 (by decide +kernel) (ns_istore (L' := [(8, nk_i 0), (6, nk_l 0), (5, nk_i v5), (4, nk_i v3), (0, nk_r l0), (1, nk_r l1), (2, nk_i l2), (3, nk_i l3)]) rfl rfl (by decide +kernel)) rfl ?_
      refine nk_sub [4, 5, 6, 7, 3, 2, 1, 0] (L' := [(0, nk_r l0), (1, nk_r l1), (2, nk_i l2), (3, nk_i l3), (4, nk_i v3), (5, nk_i v5), (6, nk_l 0), (8, nk_i 0)]) rfl ?_
      exact ja_X13_call_L38_ok zs nk_big _ _ _ _ _ _ _ _ _ _ t_l0 t_l1 hr
    · have hr := nk_ifp (c := r9 = 0) (Decidable.of_not_not hc) hr
      refine nk_p (i := .iconst 0) (len := 1) (pc' := 34) mJ_93 (by decide +kernel) (ns_iconst (c := 0) (by decide +kernel)) rfl ?_
      cases hr
      exact nk_iret (ty := .boolean) (len := 1) mJ_93 (by decide +kernel) rfl (nk_nar_z (by decide))
