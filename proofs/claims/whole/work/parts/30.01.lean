/-! SafeCode$Words forgetMeanings ()V -/
noncomputable def ja_X10_forgetMeanings_b35 (rec2 : Nat → Int → nk_S → Option (Int × nk_S)) (l0 : Nat) (l1 : Int) (s0 : Nat) (s1 : Int) (s2 : Int) (S : nk_S) : Option (Int × nk_S) :=
  if 0 ≤ s1 ∧ s1 < 12288 then
  nk_lt (nk_wi S s0 s1.toNat s2) fun S2 =>
  if 0 ≤ l1 ∧ l1 < 12288 then
  nk_lt (nk_wi S2 (ja_c l0 14) l1.toNat (-1)) fun S6 =>
  nk_lt (nk_w (l1 + 1)) fun v8 =>
  rec2 l0 v8 S6
  else none
  else none
theorem ja_X10_forgetMeanings_b35_ok (zs : List Int32) {rec2 : Nat → Int → nk_S → Option (Int × nk_S)} (hrec2 : ∀ (l0 : Nat) (l1 : Int) (S : nk_S) (R : Int × nk_S), nk_cl ja_Tt l0 = some 10 → rec2 l0 l1 S = some R → nk_K ja_Tt mi_Γ (mi_ev zs) 0 36 2 [(0, nk_r l0), (1, nk_i l1)] [] S R) : ∀ (l0 : Nat) (l1 : Int) (s0 : Nat) (s1 : Int) (s2 : Int) (S : nk_S) (R : Int × nk_S), nk_cl ja_Tt l0 = some 10 → nk_ar ja_Tt s0 = some (1, 12288) → ja_X10_forgetMeanings_b35 rec2 l0 l1 s0 s1 s2 S = some R → nk_K ja_Tt mi_Γ (mi_ev zs) 0 36 35 [(0, nk_r l0), (1, nk_i l1)] [nk_i s2, nk_i s1, nk_r s0] S R := by
  intro l0 l1 s0 s1 s2 S R t_l0 t_s0 hr
  unfold ja_X10_forgetMeanings_b35 at hr
  obtain ⟨h1, hr⟩ := nk_cke hr
  obtain ⟨S2, h3, hr⟩ := nk_lte hr
  refine nk_iast (len := 1) (N := 12288) (pc' := 36) mJ_36 (by decide +kernel) t_s0 h1.1 h1.2 rfl rfl h3 ?_
  refine nk_p (i := .aload_n 0) (len := 1) (pc' := 37) mJ_36 (by decide +kernel) (ns_aload_n 0 rfl rfl) rfl ?_
  refine nk_getC (f := (4, 1, 12288)) (x := 37) (len := 3) (ci := 10) (k := 14) (pc' := 40) ja_okT mJ_36 (by decide +kernel) (by decide +kernel) (by decide +kernel) (by decide) t_l0 rfl ?_
  have t4 : nk_ar ja_Tt (ja_c l0 14) = some (1, 12288) := nk_ta ja_okT t_l0 (by decide +kernel)
  refine nk_p (i := .iload_n 1) (len := 1) (pc' := 41) mJ_36 (by decide +kernel) (ns_iload_n 1 rfl rfl) rfl ?_
  refine nk_p (i := .iconst (-1)) (len := 1) (pc' := 42) mJ_36 (by decide +kernel) (ns_iconst (c := (-1)) (by decide +kernel)) rfl ?_
  obtain ⟨h5, hr⟩ := nk_cke hr
  obtain ⟨S6, h7, hr⟩ := nk_lte hr
  refine nk_iast (len := 1) (N := 12288) (pc' := 43) mJ_36 (by decide +kernel) t4 h5.1 h5.2 rfl rfl h7 ?_
  obtain ⟨v8, h9, hr⟩ := nk_lte hr
  refine nk_p (i := .iinc 1 1) (len := 3) (pc' := 46) mJ_36 (by decide +kernel) (ns_iinc (c := 1) (L' := [(1, nk_i v8), (0, nk_r l0)]) 1 rfl (by decide +kernel) h9 rfl (by decide +kernel)) rfl ?_
  refine nk_p (i := .goto (-44)) (len := 3) (pc' := 2) mJ_36 (by decide +kernel) (ns_goto (by decide +kernel)) rfl ?_
  refine nk_sub [1, 0] (L' := [(0, nk_r l0), (1, nk_i v8)]) rfl ?_
  exact hrec2 _ _ _ _ t_l0 hr
noncomputable def ja_X10_forgetMeanings_b34 (rec2 : Nat → Int → nk_S → Option (Int × nk_S)) (l0 : Nat) (l1 : Int) (s0 : Nat) (s1 : Int) (S : nk_S) : Option (Int × nk_S) :=
  ja_X10_forgetMeanings_b35 rec2 l0 l1 s0 s1 (-1) S
theorem ja_X10_forgetMeanings_b34_ok (zs : List Int32) {rec2 : Nat → Int → nk_S → Option (Int × nk_S)} (hrec2 : ∀ (l0 : Nat) (l1 : Int) (S : nk_S) (R : Int × nk_S), nk_cl ja_Tt l0 = some 10 → rec2 l0 l1 S = some R → nk_K ja_Tt mi_Γ (mi_ev zs) 0 36 2 [(0, nk_r l0), (1, nk_i l1)] [] S R) : ∀ (l0 : Nat) (l1 : Int) (s0 : Nat) (s1 : Int) (S : nk_S) (R : Int × nk_S), nk_cl ja_Tt l0 = some 10 → nk_ar ja_Tt s0 = some (1, 12288) → ja_X10_forgetMeanings_b34 rec2 l0 l1 s0 s1 S = some R → nk_K ja_Tt mi_Γ (mi_ev zs) 0 36 34 [(0, nk_r l0), (1, nk_i l1)] [nk_i s1, nk_r s0] S R := by
  intro l0 l1 s0 s1 S R t_l0 t_s0 hr
  unfold ja_X10_forgetMeanings_b34 at hr
  refine nk_p (i := .iconst (-1)) (len := 1) (pc' := 35) mJ_36 (by decide +kernel) (ns_iconst (c := (-1)) (by decide +kernel)) rfl ?_
  exact ja_X10_forgetMeanings_b35_ok zs hrec2 _ _ _ _ _ _ _ t_l0 t_s0 hr
noncomputable def ja_X10_forgetMeanings_b2 (rec2 : Nat → Int → nk_S → Option (Int × nk_S)) (l0 : Nat) (l1 : Int) (S : nk_S) : Option (Int × nk_S) :=
  if (S.1 l0 10) ≤ l1 then
    some (0, S)
  else
    nk_lt (nk_w (l1 - 60)) fun v1 =>
    if v1 < 0 then
      ja_X10_forgetMeanings_b34 rec2 l0 l1 (ja_c l0 13) l1 S
    else
      if 8 ≤ v1 then
        ja_X10_forgetMeanings_b34 rec2 l0 l1 (ja_c l0 13) l1 S
      else
        ja_X10_forgetMeanings_b35 rec2 l0 l1 (ja_c l0 13) l1 v1 S
theorem ja_X10_forgetMeanings_b2_ok (zs : List Int32) {rec2 : Nat → Int → nk_S → Option (Int × nk_S)} (hrec2 : ∀ (l0 : Nat) (l1 : Int) (S : nk_S) (R : Int × nk_S), nk_cl ja_Tt l0 = some 10 → rec2 l0 l1 S = some R → nk_K ja_Tt mi_Γ (mi_ev zs) 0 36 2 [(0, nk_r l0), (1, nk_i l1)] [] S R) : ∀ (l0 : Nat) (l1 : Int) (S : nk_S) (R : Int × nk_S), nk_cl ja_Tt l0 = some 10 → ja_X10_forgetMeanings_b2 rec2 l0 l1 S = some R → nk_K ja_Tt mi_Γ (mi_ev zs) 0 36 2 [(0, nk_r l0), (1, nk_i l1)] [] S R := by
  intro l0 l1 S R t_l0 hr
  unfold ja_X10_forgetMeanings_b2 at hr
  refine nk_p (i := .iload_n 1) (len := 1) (pc' := 3) mJ_36 (by decide +kernel) (ns_iload_n 1 rfl rfl) rfl ?_
  refine nk_p (i := .aload_n 0) (len := 1) (pc' := 4) mJ_36 (by decide +kernel) (ns_aload_n 0 rfl rfl) rfl ?_
  refine nk_getI (y := (0, 0)) (x := 74) (len := 3) (ci := 10) (k := 10) (pc' := 7) ja_okT mJ_36 (by decide +kernel) (by decide +kernel) (by decide +kernel) t_l0 rfl ?_
  refine nk_icmp (c := .ge) (off := 42) (len := 3) (t := 49) (pc' := 10) mJ_36 (by decide +kernel) (by decide +kernel) rfl (fun hc => ?_) (fun hc => ?_)
  · have hr := nk_ifp (c := (S.1 l0 10) ≤ l1) hc hr
    cases hr
    exact nk_vret (len := 1) mJ_36 (by decide +kernel) rfl
  · have hr := nk_ifn (c := (S.1 l0 10) ≤ l1) hc hr
    refine nk_p (i := .iload_n 1) (len := 1) (pc' := 11) mJ_36 (by decide +kernel) (ns_iload_n 1 rfl rfl) rfl ?_
    refine nk_p (i := .bipush 60) (len := 2) (pc' := 13) mJ_36 (by decide +kernel) (ns_bipush (c := 60) (by decide +kernel)) rfl ?_
    refine nk_p (i := .isub) (len := 1) (pc' := 14) mJ_36 (by decide +kernel) ns_isub rfl ?_
    obtain ⟨v1, h2, hr⟩ := nk_lte hr
    refine nk_p (i := .istore_n 2) (len := 1) (pc' := 15) mJ_36 (by decide +kernel) (ns_istore_n (L' := [(2, nk_i v1), (0, nk_r l0), (1, nk_i l1)]) h2 rfl rfl (by decide +kernel)) rfl ?_
    refine nk_p (i := .aload_n 0) (len := 1) (pc' := 16) mJ_36 (by decide +kernel) (ns_aload_n 1 rfl rfl) rfl ?_
    refine nk_getC (f := (4, 1, 12288)) (x := 34) (len := 3) (ci := 10) (k := 13) (pc' := 19) ja_okT mJ_36 (by decide +kernel) (by decide +kernel) (by decide +kernel) (by decide) t_l0 rfl ?_
    have t3 : nk_ar ja_Tt (ja_c l0 13) = some (1, 12288) := nk_ta ja_okT t_l0 (by decide +kernel)
    refine nk_p (i := .iload_n 1) (len := 1) (pc' := 20) mJ_36 (by decide +kernel) (ns_iload_n 2 rfl rfl) rfl ?_
    refine nk_p (i := .iload_n 2) (len := 1) (pc' := 21) mJ_36 (by decide +kernel) (ns_iload_n 0 rfl rfl) rfl ?_
    refine nk_icond (c := .lt) (off := 13) (len := 3) (t := 34) (pc' := 24) mJ_36 (by decide +kernel) (by decide +kernel) rfl (fun hc => ?_) (fun hc => ?_)
    · have hr := nk_ifp (c := v1 < 0) hc hr
      refine nk_sub [1, 2] (L' := [(0, nk_r l0), (1, nk_i l1)]) rfl ?_
      exact ja_X10_forgetMeanings_b34_ok zs hrec2 _ _ _ _ _ _ t_l0 t3 hr
    · have hr := nk_ifn (c := v1 < 0) hc hr
      refine nk_p (i := .iload_n 2) (len := 1) (pc' := 25) mJ_36 (by decide +kernel) (ns_iload_n 0 rfl rfl) rfl ?_
      refine nk_p (i := .bipush 8) (len := 2) (pc' := 27) mJ_36 (by decide +kernel) (ns_bipush (c := 8) (by decide +kernel)) rfl ?_
      refine nk_icmp (c := .ge) (off := 7) (len := 3) (t := 34) (pc' := 30) mJ_36 (by decide +kernel) (by decide +kernel) rfl (fun hc => ?_) (fun hc => ?_)
      · have hr := nk_ifp (c := 8 ≤ v1) hc hr
        refine nk_sub [1, 2] (L' := [(0, nk_r l0), (1, nk_i l1)]) rfl ?_
        exact ja_X10_forgetMeanings_b34_ok zs hrec2 _ _ _ _ _ _ t_l0 t3 hr
      · have hr := nk_ifn (c := 8 ≤ v1) hc hr
        refine nk_p (i := .iload_n 2) (len := 1) (pc' := 31) mJ_36 (by decide +kernel) (ns_iload_n 0 rfl rfl) rfl ?_
        refine nk_p (i := .goto 4) (len := 3) (pc' := 35) mJ_36 (by decide +kernel) (ns_goto (by decide +kernel)) rfl ?_
        refine nk_sub [1, 2] (L' := [(0, nk_r l0), (1, nk_i l1)]) rfl ?_
        exact ja_X10_forgetMeanings_b35_ok zs hrec2 _ _ _ _ _ _ _ t_l0 t3 hr
noncomputable def ja_X10_forgetMeanings_L2 : Nat → Nat → Int → nk_S → Option (Int × nk_S)
  | 0, _, _, _ => none
  | n + 1, l0, l1, S => ja_X10_forgetMeanings_b2 (ja_X10_forgetMeanings_L2 n) l0 l1 S
theorem ja_X10_forgetMeanings_L2_ok (zs : List Int32) : ∀ n : Nat, ∀ (l0 : Nat) (l1 : Int) (S : nk_S) (R : Int × nk_S), nk_cl ja_Tt l0 = some 10 → ja_X10_forgetMeanings_L2 n l0 l1 S = some R → nk_K ja_Tt mi_Γ (mi_ev zs) 0 36 2 [(0, nk_r l0), (1, nk_i l1)] [] S R := by
  intro n
  induction n with
  | zero => intro _ _ _ _ _ hr; cases hr
  | succ n ih => intro l0 l1 S R t_l0 hr; exact ja_X10_forgetMeanings_b2_ok zs ih l0 l1 S R t_l0 hr
noncomputable def ja_X10_forgetMeanings (l0 : Nat) (S : nk_S) : Option (Int × nk_S) :=
  ja_X10_forgetMeanings_L2 nk_big l0 0 S
theorem ja_X10_forgetMeanings_ok (zs : List Int32) : ∀ (l0 : Nat) (S : nk_S) (R : Int × nk_S), nk_cl ja_Tt l0 = some 10 → ja_X10_forgetMeanings l0 S = some R → nk_K ja_Tt mi_Γ (mi_ev zs) 0 36 0 [(0, nk_r l0)] [] S R := by
  intro l0 S R t_l0 hr
  unfold ja_X10_forgetMeanings at hr
  refine nk_p (i := .iconst 0) (len := 1) (pc' := 1) mJ_36 (by decide +kernel) (ns_iconst (c := 0) (by decide +kernel)) rfl ?_
  refine nk_p (i := .istore_n 1) (len := 1) (pc' := 2) mJ_36 (by decide +kernel) (ns_istore_n (L' := [(1, nk_i 0), (0, nk_r l0)]) rfl rfl rfl (by decide +kernel)) rfl ?_
  refine nk_sub [1, 0] (L' := [(0, nk_r l0), (1, nk_i 0)]) rfl ?_
  exact ja_X10_forgetMeanings_L2_ok zs nk_big _ _ _ _ t_l0 hr
/-! SafeCode$Words nameShape (II)I -/
noncomputable def ja_X10_nameShape_b63 (rec17 : Nat → Int → Int → Int → nk_S → Option (Int × nk_S)) (l0 : Nat) (l1 : Int) (l2 : Int) (l3 : Int) (l4 : Int) (s0 : Int) (S : nk_S) : Option (Int × nk_S) :=
  if s0 = 0 then
    if l3 = l1 then
      some (0, S)
    else
      if l4 = 95 then
        nk_lt (nk_w (l3 + 1)) fun v3 =>
        rec17 l0 l1 l2 v3 S
      else
        if l4 < 48 then
          some (0, S)
        else
          if l4 ≤ 57 then
            nk_lt (nk_w (l3 + 1)) fun v5 =>
            rec17 l0 l1 l2 v5 S
          else
            some (0, S)
  else
    nk_lt (nk_w (l3 + 1)) fun v1 =>
    rec17 l0 l1 l2 v1 S
theorem ja_X10_nameShape_b63_ok (zs : List Int32) {rec17 : Nat → Int → Int → Int → nk_S → Option (Int × nk_S)} (hrec17 : ∀ (l0 : Nat) (l1 : Int) (l2 : Int) (l3 : Int) (S : nk_S) (R : Int × nk_S), nk_cl ja_Tt l0 = some 10 → rec17 l0 l1 l2 l3 S = some R → nk_K ja_Tt mi_Γ (mi_ev zs) 1 43 17 [(0, nk_r l0), (1, nk_i l1), (2, nk_i l2), (3, nk_i l3)] [] S R) : ∀ (l0 : Nat) (l1 : Int) (l2 : Int) (l3 : Int) (l4 : Int) (s0 : Int) (S : nk_S) (R : Int × nk_S), nk_cl ja_Tt l0 = some 10 → ja_X10_nameShape_b63 rec17 l0 l1 l2 l3 l4 s0 S = some R → nk_K ja_Tt mi_Γ (mi_ev zs) 1 43 63 [(0, nk_r l0), (1, nk_i l1), (2, nk_i l2), (3, nk_i l3), (4, nk_i l4)] [nk_i s0] S R := by
  intro l0 l1 l2 l3 l4 s0 S R t_l0 hr
  unfold ja_X10_nameShape_b63 at hr
  refine nk_p (i := .istore 5) (len := 2) (pc' := 65) mJ_43 (by decide +kernel) (ns_istore (L' := [(5, nk_i s0), (0, nk_r l0), (1, nk_i l1), (2, nk_i l2), (3, nk_i l3), (4, nk_i l4)]) rfl rfl (by decide +kernel)) rfl ?_
  refine nk_p (i := .iload 5) (len := 2) (pc' := 67) mJ_43 (by decide +kernel) (ns_iload 0 rfl) rfl ?_
  refine nk_icond (c := .ne) (off := 31) (len := 3) (t := 98) (pc' := 70) mJ_43 (by decide +kernel) (by decide +kernel) rfl (fun hc => ?_) (fun hc => ?_)
  · have hr := nk_ifn (c := s0 = 0) hc hr
    obtain ⟨v1, h2, hr⟩ := nk_lte hr
    refine nk_p (i := .iinc 3 1) (len := 3) (pc' := 101) mJ_43 (by decide +kernel) (ns_iinc (c := 1) (L' := [(3, nk_i v1), (5, nk_i s0), (0, nk_r l0), (1, nk_i l1), (2, nk_i l2), (4, nk_i l4)]) 4 rfl (by decide +kernel) h2 rfl (by decide +kernel)) rfl ?_
    refine nk_p (i := .goto (-84)) (len := 3) (pc' := 17) mJ_43 (by decide +kernel) (ns_goto (by decide +kernel)) rfl ?_
    refine nk_sub [2, 3, 4, 0] (L' := [(0, nk_r l0), (1, nk_i l1), (2, nk_i l2), (3, nk_i v1)]) rfl ?_
    exact hrec17 _ _ _ _ _ _ t_l0 hr
  · have hr := nk_ifp (c := s0 = 0) (Decidable.of_not_not hc) hr
    refine nk_p (i := .iload_n 3) (len := 1) (pc' := 71) mJ_43 (by decide +kernel) (ns_iload_n 4 rfl rfl) rfl ?_
    refine nk_p (i := .iload_n 1) (len := 1) (pc' := 72) mJ_43 (by decide +kernel) (ns_iload_n 2 rfl rfl) rfl ?_
    refine nk_icmp (c := .eq) (off := 24) (len := 3) (t := 96) (pc' := 75) mJ_43 (by decide +kernel) (by decide +kernel) rfl (fun hc => ?_) (fun hc => ?_)
    · have hr := nk_ifp (c := l3 = l1) hc hr
      refine nk_p (i := .iconst 0) (len := 1) (pc' := 97) mJ_43 (by decide +kernel) (ns_iconst (c := 0) (by decide +kernel)) rfl ?_
      cases hr
      exact nk_iret (ty := .int) (len := 1) mJ_43 (by decide +kernel) rfl (nk_nar_i _)
    · have hr := nk_ifn (c := l3 = l1) hc hr
      refine nk_p (i := .iload 4) (len := 2) (pc' := 77) mJ_43 (by decide +kernel) (ns_iload 5 rfl) rfl ?_
      refine nk_p (i := .bipush 95) (len := 2) (pc' := 79) mJ_43 (by decide +kernel) (ns_bipush (c := 95) (by decide +kernel)) rfl ?_
      refine nk_icmp (c := .eq) (off := 19) (len := 3) (t := 98) (pc' := 82) mJ_43 (by decide +kernel) (by decide +kernel) rfl (fun hc => ?_) (fun hc => ?_)
      · have hr := nk_ifp (c := l4 = 95) hc hr
        obtain ⟨v3, h4, hr⟩ := nk_lte hr
        refine nk_p (i := .iinc 3 1) (len := 3) (pc' := 101) mJ_43 (by decide +kernel) (ns_iinc (c := 1) (L' := [(3, nk_i v3), (5, nk_i s0), (0, nk_r l0), (1, nk_i l1), (2, nk_i l2), (4, nk_i l4)]) 4 rfl (by decide +kernel) h4 rfl (by decide +kernel)) rfl ?_
        refine nk_p (i := .goto (-84)) (len := 3) (pc' := 17) mJ_43 (by decide +kernel) (ns_goto (by decide +kernel)) rfl ?_
        refine nk_sub [2, 3, 4, 0] (L' := [(0, nk_r l0), (1, nk_i l1), (2, nk_i l2), (3, nk_i v3)]) rfl ?_
        exact hrec17 _ _ _ _ _ _ t_l0 hr
      · have hr := nk_ifn (c := l4 = 95) hc hr
        refine nk_p (i := .iload 4) (len := 2) (pc' := 84) mJ_43 (by decide +kernel) (ns_iload 5 rfl) rfl ?_
        refine nk_p (i := .bipush 48) (len := 2) (pc' := 86) mJ_43 (by decide +kernel) (ns_bipush (c := 48) (by decide +kernel)) rfl ?_
        refine nk_icmp (c := .lt) (off := 10) (len := 3) (t := 96) (pc' := 89) mJ_43 (by decide +kernel) (by decide +kernel) rfl (fun hc => ?_) (fun hc => ?_)
        · have hr := nk_ifp (c := l4 < 48) hc hr
          refine nk_p (i := .iconst 0) (len := 1) (pc' := 97) mJ_43 (by decide +kernel) (ns_iconst (c := 0) (by decide +kernel)) rfl ?_
          cases hr
          exact nk_iret (ty := .int) (len := 1) mJ_43 (by decide +kernel) rfl (nk_nar_i _)
        · have hr := nk_ifn (c := l4 < 48) hc hr
          refine nk_p (i := .iload 4) (len := 2) (pc' := 91) mJ_43 (by decide +kernel) (ns_iload 5 rfl) rfl ?_
          refine nk_p (i := .bipush 57) (len := 2) (pc' := 93) mJ_43 (by decide +kernel) (ns_bipush (c := 57) (by decide +kernel)) rfl ?_
          refine nk_icmp (c := .le) (off := 5) (len := 3) (t := 98) (pc' := 96) mJ_43 (by decide +kernel) (by decide +kernel) rfl (fun hc => ?_) (fun hc => ?_)
          · have hr := nk_ifp (c := l4 ≤ 57) hc hr
            obtain ⟨v5, h6, hr⟩ := nk_lte hr
            refine nk_p (i := .iinc 3 1) (len := 3) (pc' := 101) mJ_43 (by decide +kernel) (ns_iinc (c := 1) (L' := [(3, nk_i v5), (5, nk_i s0), (0, nk_r l0), (1, nk_i l1), (2, nk_i l2), (4, nk_i l4)]) 4 rfl (by decide +kernel) h6 rfl (by decide +kernel)) rfl ?_
            refine nk_p (i := .goto (-84)) (len := 3) (pc' := 17) mJ_43 (by decide +kernel) (ns_goto (by decide +kernel)) rfl ?_
            refine nk_sub [2, 3, 4, 0] (L' := [(0, nk_r l0), (1, nk_i l1), (2, nk_i l2), (3, nk_i v5)]) rfl ?_
            exact hrec17 _ _ _ _ _ _ t_l0 hr
          · have hr := nk_ifn (c := l4 ≤ 57) hc hr
            refine nk_p (i := .iconst 0) (len := 1) (pc' := 97) mJ_43 (by decide +kernel) (ns_iconst (c := 0) (by decide +kernel)) rfl ?_
            cases hr
            exact nk_iret (ty := .int) (len := 1) mJ_43 (by decide +kernel) rfl (nk_nar_i _)
noncomputable def ja_X10_nameShape_b62 (rec17 : Nat → Int → Int → Int → nk_S → Option (Int × nk_S)) (l0 : Nat) (l1 : Int) (l2 : Int) (l3 : Int) (l4 : Int) (S : nk_S) : Option (Int × nk_S) :=
  ja_X10_nameShape_b63 rec17 l0 l1 l2 l3 l4 0 S
theorem ja_X10_nameShape_b62_ok (zs : List Int32) {rec17 : Nat → Int → Int → Int → nk_S → Option (Int × nk_S)} (hrec17 : ∀ (l0 : Nat) (l1 : Int) (l2 : Int) (l3 : Int) (S : nk_S) (R : Int × nk_S), nk_cl ja_Tt l0 = some 10 → rec17 l0 l1 l2 l3 S = some R → nk_K ja_Tt mi_Γ (mi_ev zs) 1 43 17 [(0, nk_r l0), (1, nk_i l1), (2, nk_i l2), (3, nk_i l3)] [] S R) : ∀ (l0 : Nat) (l1 : Int) (l2 : Int) (l3 : Int) (l4 : Int) (S : nk_S) (R : Int × nk_S), nk_cl ja_Tt l0 = some 10 → ja_X10_nameShape_b62 rec17 l0 l1 l2 l3 l4 S = some R → nk_K ja_Tt mi_Γ (mi_ev zs) 1 43 62 [(0, nk_r l0), (1, nk_i l1), (2, nk_i l2), (3, nk_i l3), (4, nk_i l4)] [] S R := by
  intro l0 l1 l2 l3 l4 S R t_l0 hr
  unfold ja_X10_nameShape_b62 at hr
  refine nk_p (i := .iconst 0) (len := 1) (pc' := 63) mJ_43 (by decide +kernel) (ns_iconst (c := 0) (by decide +kernel)) rfl ?_
  exact ja_X10_nameShape_b63_ok zs hrec17 _ _ _ _ _ _ _ _ t_l0 hr
noncomputable def ja_X10_nameShape_b58 (rec17 : Nat → Int → Int → Int → nk_S → Option (Int × nk_S)) (l0 : Nat) (l1 : Int) (l2 : Int) (l3 : Int) (l4 : Int) (S : nk_S) : Option (Int × nk_S) :=
  ja_X10_nameShape_b63 rec17 l0 l1 l2 l3 l4 1 S
theorem ja_X10_nameShape_b58_ok (zs : List Int32) {rec17 : Nat → Int → Int → Int → nk_S → Option (Int × nk_S)} (hrec17 : ∀ (l0 : Nat) (l1 : Int) (l2 : Int) (l3 : Int) (S : nk_S) (R : Int × nk_S), nk_cl ja_Tt l0 = some 10 → rec17 l0 l1 l2 l3 S = some R → nk_K ja_Tt mi_Γ (mi_ev zs) 1 43 17 [(0, nk_r l0), (1, nk_i l1), (2, nk_i l2), (3, nk_i l3)] [] S R) : ∀ (l0 : Nat) (l1 : Int) (l2 : Int) (l3 : Int) (l4 : Int) (S : nk_S) (R : Int × nk_S), nk_cl ja_Tt l0 = some 10 → ja_X10_nameShape_b58 rec17 l0 l1 l2 l3 l4 S = some R → nk_K ja_Tt mi_Γ (mi_ev zs) 1 43 58 [(0, nk_r l0), (1, nk_i l1), (2, nk_i l2), (3, nk_i l3), (4, nk_i l4)] [] S R := by
  intro l0 l1 l2 l3 l4 S R t_l0 hr
  unfold ja_X10_nameShape_b58 at hr
  refine nk_p (i := .iconst 1) (len := 1) (pc' := 59) mJ_43 (by decide +kernel) (ns_iconst (c := 1) (by decide +kernel)) rfl ?_
  refine nk_p (i := .goto 4) (len := 3) (pc' := 63) mJ_43 (by decide +kernel) (ns_goto (by decide +kernel)) rfl ?_
  exact ja_X10_nameShape_b63_ok zs hrec17 _ _ _ _ _ _ _ _ t_l0 hr
noncomputable def ja_X10_nameShape_b44 (rec17 : Nat → Int → Int → Int → nk_S → Option (Int × nk_S)) (l0 : Nat) (l1 : Int) (l2 : Int) (l3 : Int) (l4 : Int) (S : nk_S) : Option (Int × nk_S) :=
  if l4 < 65 then
    ja_X10_nameShape_b62 rec17 l0 l1 l2 l3 l4 S
  else
    if 90 < l4 then
      ja_X10_nameShape_b62 rec17 l0 l1 l2 l3 l4 S
    else
      ja_X10_nameShape_b58 rec17 l0 l1 l2 l3 l4 S
theorem ja_X10_nameShape_b44_ok (zs : List Int32) {rec17 : Nat → Int → Int → Int → nk_S → Option (Int × nk_S)} (hrec17 : ∀ (l0 : Nat) (l1 : Int) (l2 : Int) (l3 : Int) (S : nk_S) (R : Int × nk_S), nk_cl ja_Tt l0 = some 10 → rec17 l0 l1 l2 l3 S = some R → nk_K ja_Tt mi_Γ (mi_ev zs) 1 43 17 [(0, nk_r l0), (1, nk_i l1), (2, nk_i l2), (3, nk_i l3)] [] S R) : ∀ (l0 : Nat) (l1 : Int) (l2 : Int) (l3 : Int) (l4 : Int) (S : nk_S) (R : Int × nk_S), nk_cl ja_Tt l0 = some 10 → ja_X10_nameShape_b44 rec17 l0 l1 l2 l3 l4 S = some R → nk_K ja_Tt mi_Γ (mi_ev zs) 1 43 44 [(0, nk_r l0), (1, nk_i l1), (2, nk_i l2), (3, nk_i l3), (4, nk_i l4)] [] S R := by
  intro l0 l1 l2 l3 l4 S R t_l0 hr
  unfold ja_X10_nameShape_b44 at hr
  refine nk_p (i := .iload 4) (len := 2) (pc' := 46) mJ_43 (by decide +kernel) (ns_iload 4 rfl) rfl ?_
  refine nk_p (i := .bipush 65) (len := 2) (pc' := 48) mJ_43 (by decide +kernel) (ns_bipush (c := 65) (by decide +kernel)) rfl ?_
  refine nk_icmp (c := .lt) (off := 14) (len := 3) (t := 62) (pc' := 51) mJ_43 (by decide +kernel) (by decide +kernel) rfl (fun hc => ?_) (fun hc => ?_)
  · have hr := nk_ifp (c := l4 < 65) hc hr
    exact ja_X10_nameShape_b62_ok zs hrec17 _ _ _ _ _ _ _ t_l0 hr
  · have hr := nk_ifn (c := l4 < 65) hc hr
    refine nk_p (i := .iload 4) (len := 2) (pc' := 53) mJ_43 (by decide +kernel) (ns_iload 4 rfl) rfl ?_
    refine nk_p (i := .bipush 90) (len := 2) (pc' := 55) mJ_43 (by decide +kernel) (ns_bipush (c := 90) (by decide +kernel)) rfl ?_
    refine nk_icmp (c := .gt) (off := 7) (len := 3) (t := 62) (pc' := 58) mJ_43 (by decide +kernel) (by decide +kernel) rfl (fun hc => ?_) (fun hc => ?_)
    · have hr := nk_ifp (c := 90 < l4) hc hr
      exact ja_X10_nameShape_b62_ok zs hrec17 _ _ _ _ _ _ _ t_l0 hr
    · have hr := nk_ifn (c := 90 < l4) hc hr
      exact ja_X10_nameShape_b58_ok zs hrec17 _ _ _ _ _ _ _ t_l0 hr
noncomputable def ja_X10_nameShape_b17 (rec17 : Nat → Int → Int → Int → nk_S → Option (Int × nk_S)) (l0 : Nat) (l1 : Int) (l2 : Int) (l3 : Int) (S : nk_S) : Option (Int × nk_S) :=
  if l2 ≤ l3 then
    if 0 ≤ l1 ∧ l1 < 16512 then
    if (S.1 (ja_c l0 0) l1.toNat) < 97 then
      some (2, S)
    else
      some (1, S)
    else none
  else
    if 0 ≤ l3 ∧ l3 < 16512 then
    nk_lt (S.1 (ja_c l0 0) l3.toNat) fun v5 =>
    if v5 < 97 then
      ja_X10_nameShape_b44 rec17 l0 l1 l2 l3 v5 S
    else
      if v5 ≤ 122 then
        ja_X10_nameShape_b58 rec17 l0 l1 l2 l3 v5 S
      else
        ja_X10_nameShape_b44 rec17 l0 l1 l2 l3 v5 S
    else none
theorem ja_X10_nameShape_b17_ok (zs : List Int32) {rec17 : Nat → Int → Int → Int → nk_S → Option (Int × nk_S)} (hrec17 : ∀ (l0 : Nat) (l1 : Int) (l2 : Int) (l3 : Int) (S : nk_S) (R : Int × nk_S), nk_cl ja_Tt l0 = some 10 → rec17 l0 l1 l2 l3 S = some R → nk_K ja_Tt mi_Γ (mi_ev zs) 1 43 17 [(0, nk_r l0), (1, nk_i l1), (2, nk_i l2), (3, nk_i l3)] [] S R) : ∀ (l0 : Nat) (l1 : Int) (l2 : Int) (l3 : Int) (S : nk_S) (R : Int × nk_S), nk_cl ja_Tt l0 = some 10 → ja_X10_nameShape_b17 rec17 l0 l1 l2 l3 S = some R → nk_K ja_Tt mi_Γ (mi_ev zs) 1 43 17 [(0, nk_r l0), (1, nk_i l1), (2, nk_i l2), (3, nk_i l3)] [] S R := by
  intro l0 l1 l2 l3 S R t_l0 hr
  unfold ja_X10_nameShape_b17 at hr
  refine nk_p (i := .iload_n 3) (len := 1) (pc' := 18) mJ_43 (by decide +kernel) (ns_iload_n 3 rfl rfl) rfl ?_
  refine nk_p (i := .iload_n 2) (len := 1) (pc' := 19) mJ_43 (by decide +kernel) (ns_iload_n 2 rfl rfl) rfl ?_
  refine nk_icmp (c := .ge) (off := 85) (len := 3) (t := 104) (pc' := 22) mJ_43 (by decide +kernel) (by decide +kernel) rfl (fun hc => ?_) (fun hc => ?_)
  · have hr := nk_ifp (c := l2 ≤ l3) hc hr
    refine nk_p (i := .aload_n 0) (len := 1) (pc' := 105) mJ_43 (by decide +kernel) (ns_aload_n 0 rfl rfl) rfl ?_
    refine nk_getC (f := (4, 0, 16512)) (x := 9) (len := 3) (ci := 10) (k := 0) (pc' := 108) ja_okT mJ_43 (by decide +kernel) (by decide +kernel) (by decide +kernel) (by decide) t_l0 rfl ?_
    have t1 : nk_ar ja_Tt (ja_c l0 0) = some (0, 16512) := nk_ta ja_okT t_l0 (by decide +kernel)
    refine nk_p (i := .iload_n 1) (len := 1) (pc' := 109) mJ_43 (by decide +kernel) (ns_iload_n 1 rfl rfl) rfl ?_
    obtain ⟨h2, hr⟩ := nk_cke hr
    refine nk_bald (t := 0) (len := 1) (N := 16512) (pc' := 110) mJ_43 (by decide +kernel) t1 (by decide) h2.1 h2.2 rfl rfl ?_
    refine nk_p (i := .bipush 97) (len := 2) (pc' := 112) mJ_43 (by decide +kernel) (ns_bipush (c := 97) (by decide +kernel)) rfl ?_
    refine nk_icmp (c := .lt) (off := 7) (len := 3) (t := 119) (pc' := 115) mJ_43 (by decide +kernel) (by decide +kernel) rfl (fun hc => ?_) (fun hc => ?_)
    · have hr := nk_ifp (c := (S.1 (ja_c l0 0) l1.toNat) < 97) hc hr
      refine nk_p (i := .iconst 2) (len := 1) (pc' := 120) mJ_43 (by decide +kernel) (ns_iconst (c := 2) (by decide +kernel)) rfl ?_
      cases hr
      exact nk_iret (ty := .int) (len := 1) mJ_43 (by decide +kernel) rfl (nk_nar_i _)
    · have hr := nk_ifn (c := (S.1 (ja_c l0 0) l1.toNat) < 97) hc hr
      refine nk_p (i := .iconst 1) (len := 1) (pc' := 116) mJ_43 (by decide +kernel) (ns_iconst (c := 1) (by decide +kernel)) rfl ?_
      refine nk_p (i := .goto 4) (len := 3) (pc' := 120) mJ_43 (by decide +kernel) (ns_goto (by decide +kernel)) rfl ?_
      cases hr
      exact nk_iret (ty := .int) (len := 1) mJ_43 (by decide +kernel) rfl (nk_nar_i _)
  · have hr := nk_ifn (c := l2 ≤ l3) hc hr
    refine nk_p (i := .aload_n 0) (len := 1) (pc' := 23) mJ_43 (by decide +kernel) (ns_aload_n 0 rfl rfl) rfl ?_
    refine nk_getC (f := (4, 0, 16512)) (x := 9) (len := 3) (ci := 10) (k := 0) (pc' := 26) ja_okT mJ_43 (by decide +kernel) (by decide +kernel) (by decide +kernel) (by decide) t_l0 rfl ?_
    have t3 : nk_ar ja_Tt (ja_c l0 0) = some (0, 16512) := nk_ta ja_okT t_l0 (by decide +kernel)
    refine nk_p (i := .iload_n 3) (len := 1) (pc' := 27) mJ_43 (by decide +kernel) (ns_iload_n 3 rfl rfl) rfl ?_
    obtain ⟨h4, hr⟩ := nk_cke hr
    refine nk_bald (t := 0) (len := 1) (N := 16512) (pc' := 28) mJ_43 (by decide +kernel) t3 (by decide) h4.1 h4.2 rfl rfl ?_
    obtain ⟨v5, h6, hr⟩ := nk_lte hr
    refine nk_p (i := .istore 4) (len := 2) (pc' := 30) mJ_43 (by decide +kernel) (ns_istore (L' := [(4, nk_i v5), (0, nk_r l0), (1, nk_i l1), (2, nk_i l2), (3, nk_i l3)]) h6 rfl (by decide +kernel)) rfl ?_
    refine nk_p (i := .iload 4) (len := 2) (pc' := 32) mJ_43 (by decide +kernel) (ns_iload 0 rfl) rfl ?_
    refine nk_p (i := .bipush 97) (len := 2) (pc' := 34) mJ_43 (by decide +kernel) (ns_bipush (c := 97) (by decide +kernel)) rfl ?_
    refine nk_icmp (c := .lt) (off := 10) (len := 3) (t := 44) (pc' := 37) mJ_43 (by decide +kernel) (by decide +kernel) rfl (fun hc => ?_) (fun hc => ?_)
    · have hr := nk_ifp (c := v5 < 97) hc hr
      refine nk_sub [1, 2, 3, 4, 0] (L' := [(0, nk_r l0), (1, nk_i l1), (2, nk_i l2), (3, nk_i l3), (4, nk_i v5)]) rfl ?_
      exact ja_X10_nameShape_b44_ok zs hrec17 _ _ _ _ _ _ _ t_l0 hr
    · have hr := nk_ifn (c := v5 < 97) hc hr
      refine nk_p (i := .iload 4) (len := 2) (pc' := 39) mJ_43 (by decide +kernel) (ns_iload 0 rfl) rfl ?_
      refine nk_p (i := .bipush 122) (len := 2) (pc' := 41) mJ_43 (by decide +kernel) (ns_bipush (c := 122) (by decide +kernel)) rfl ?_
      refine nk_icmp (c := .le) (off := 17) (len := 3) (t := 58) (pc' := 44) mJ_43 (by decide +kernel) (by decide +kernel) rfl (fun hc => ?_) (fun hc => ?_)
      · have hr := nk_ifp (c := v5 ≤ 122) hc hr
        refine nk_sub [1, 2, 3, 4, 0] (L' := [(0, nk_r l0), (1, nk_i l1), (2, nk_i l2), (3, nk_i l3), (4, nk_i v5)]) rfl ?_
        exact ja_X10_nameShape_b58_ok zs hrec17 _ _ _ _ _ _ _ t_l0 hr
      · have hr := nk_ifn (c := v5 ≤ 122) hc hr
        refine nk_sub [1, 2, 3, 4, 0] (L' := [(0, nk_r l0), (1, nk_i l1), (2, nk_i l2), (3, nk_i l3), (4, nk_i v5)]) rfl ?_
        exact ja_X10_nameShape_b44_ok zs hrec17 _ _ _ _ _ _ _ t_l0 hr
noncomputable def ja_X10_nameShape_L17 : Nat → Nat → Int → Int → Int → nk_S → Option (Int × nk_S)
  | 0, _, _, _, _, _ => none
  | n + 1, l0, l1, l2, l3, S => ja_X10_nameShape_b17 (ja_X10_nameShape_L17 n) l0 l1 l2 l3 S
theorem ja_X10_nameShape_L17_ok (zs : List Int32) : ∀ n : Nat, ∀ (l0 : Nat) (l1 : Int) (l2 : Int) (l3 : Int) (S : nk_S) (R : Int × nk_S), nk_cl ja_Tt l0 = some 10 → ja_X10_nameShape_L17 n l0 l1 l2 l3 S = some R → nk_K ja_Tt mi_Γ (mi_ev zs) 1 43 17 [(0, nk_r l0), (1, nk_i l1), (2, nk_i l2), (3, nk_i l3)] [] S R := by
  intro n
  induction n with
  | zero => intro _ _ _ _ _ _ _ hr; cases hr
  | succ n ih => intro l0 l1 l2 l3 S R t_l0 hr; exact ja_X10_nameShape_b17_ok zs ih l0 l1 l2 l3 S R t_l0 hr
noncomputable def ja_X10_nameShape (l0 : Nat) (l1 : Int) (l2 : Int) (S : nk_S) : Option (Int × nk_S) :=
  if l2 ≤ l1 then
    some (0, S)
  else
    if (nk_w (l2 - l1)) ≤ 24 then
      ja_X10_nameShape_L17 nk_big l0 l1 l2 l1 S
    else
      some (0, S)
theorem ja_X10_nameShape_ok (zs : List Int32) : ∀ (l0 : Nat) (l1 : Int) (l2 : Int) (S : nk_S) (R : Int × nk_S), nk_cl ja_Tt l0 = some 10 → ja_X10_nameShape l0 l1 l2 S = some R → nk_K ja_Tt mi_Γ (mi_ev zs) 1 43 0 [(0, nk_r l0), (1, nk_i l1), (2, nk_i l2)] [] S R := by
  intro l0 l1 l2 S R t_l0 hr
  unfold ja_X10_nameShape at hr
  refine nk_p (i := .iload_n 2) (len := 1) (pc' := 1) mJ_43 (by decide +kernel) (ns_iload_n 2 rfl rfl) rfl ?_
  refine nk_p (i := .iload_n 1) (len := 1) (pc' := 2) mJ_43 (by decide +kernel) (ns_iload_n 1 rfl rfl) rfl ?_
  refine nk_icmp (c := .le) (off := 11) (len := 3) (t := 13) (pc' := 5) mJ_43 (by decide +kernel) (by decide +kernel) rfl (fun hc => ?_) (fun hc => ?_)
  · have hr := nk_ifp (c := l2 ≤ l1) hc hr
    refine nk_p (i := .iconst 0) (len := 1) (pc' := 14) mJ_43 (by decide +kernel) (ns_iconst (c := 0) (by decide +kernel)) rfl ?_
    cases hr
    exact nk_iret (ty := .int) (len := 1) mJ_43 (by decide +kernel) rfl (nk_nar_i _)
  · have hr := nk_ifn (c := l2 ≤ l1) hc hr
    refine nk_p (i := .iload_n 2) (len := 1) (pc' := 6) mJ_43 (by decide +kernel) (ns_iload_n 2 rfl rfl) rfl ?_
    refine nk_p (i := .iload_n 1) (len := 1) (pc' := 7) mJ_43 (by decide +kernel) (ns_iload_n 1 rfl rfl) rfl ?_
    refine nk_p (i := .isub) (len := 1) (pc' := 8) mJ_43 (by decide +kernel) ns_isub rfl ?_
    refine nk_p (i := .bipush 24) (len := 2) (pc' := 10) mJ_43 (by decide +kernel) (ns_bipush (c := 24) (by decide +kernel)) rfl ?_
    refine nk_icmp (c := .le) (off := 5) (len := 3) (t := 15) (pc' := 13) mJ_43 (by decide +kernel) (by decide +kernel) rfl (fun hc => ?_) (fun hc => ?_)
    · have hr := nk_ifp (c := (nk_w (l2 - l1)) ≤ 24) hc hr
      refine nk_p (i := .iload_n 1) (len := 1) (pc' := 16) mJ_43 (by decide +kernel) (ns_iload_n 1 rfl rfl) rfl ?_
      refine nk_p (i := .istore_n 3) (len := 1) (pc' := 17) mJ_43 (by decide +kernel) (ns_istore_n (L' := [(3, nk_i l1), (0, nk_r l0), (1, nk_i l1), (2, nk_i l2)]) rfl rfl rfl (by decide +kernel)) rfl ?_
      refine nk_sub [1, 2, 3, 0] (L' := [(0, nk_r l0), (1, nk_i l1), (2, nk_i l2), (3, nk_i l1)]) rfl ?_
      exact ja_X10_nameShape_L17_ok zs nk_big _ _ _ _ _ _ t_l0 hr
    · have hr := nk_ifn (c := (nk_w (l2 - l1)) ≤ 24) hc hr
      refine nk_p (i := .iconst 0) (len := 1) (pc' := 14) mJ_43 (by decide +kernel) (ns_iconst (c := 0) (by decide +kernel)) rfl ?_
      cases hr
      exact nk_iret (ty := .int) (len := 1) mJ_43 (by decide +kernel) rfl (nk_nar_i _)
/-! SafeCode$Words numberAt (II)J -/
noncomputable def ja_X10_numberAt_b33 (rec33 : Nat → Int → Int → Int → Int → nk_S → Option (Int × nk_S)) (l0 : Nat) (l2 : Int) (l3 : Int) (l4 : Int) (l6 : Int) (S : nk_S) : Option (Int × nk_S) :=
  if l2 ≤ l6 then
    if l3 = 0 then
      some (l4, S)
    else
      some ((nk_W (-l4)), S)
  else
    if 0 ≤ l6 ∧ l6 < 16512 then
    nk_lt (nk_W ((nk_W (l4 * 10)) + (nk_w ((S.1 (ja_c l0 0) l6.toNat) - 48)))) fun v3 =>
    nk_lt (nk_w (l6 + 1)) fun v5 =>
    rec33 l0 l2 l3 v3 v5 S
    else none
theorem ja_X10_numberAt_b33_ok (zs : List Int32) {rec33 : Nat → Int → Int → Int → Int → nk_S → Option (Int × nk_S)} (hrec33 : ∀ (l0 : Nat) (l2 : Int) (l3 : Int) (l4 : Int) (l6 : Int) (S : nk_S) (R : Int × nk_S), nk_cl ja_Tt l0 = some 10 → rec33 l0 l2 l3 l4 l6 S = some R → nk_K ja_Tt mi_Γ (mi_ev zs) 2 44 33 [(0, nk_r l0), (2, nk_i l2), (3, nk_i l3), (4, nk_l l4), (6, nk_i l6)] [] S R) : ∀ (l0 : Nat) (l2 : Int) (l3 : Int) (l4 : Int) (l6 : Int) (S : nk_S) (R : Int × nk_S), nk_cl ja_Tt l0 = some 10 → ja_X10_numberAt_b33 rec33 l0 l2 l3 l4 l6 S = some R → nk_K ja_Tt mi_Γ (mi_ev zs) 2 44 33 [(0, nk_r l0), (2, nk_i l2), (3, nk_i l3), (4, nk_l l4), (6, nk_i l6)] [] S R := by
  intro l0 l2 l3 l4 l6 S R t_l0 hr
  unfold ja_X10_numberAt_b33 at hr
  refine nk_p (i := .iload 6) (len := 2) (pc' := 35) mJ_44 (by decide +kernel) (ns_iload 4 rfl) rfl ?_
  refine nk_p (i := .iload_n 2) (len := 1) (pc' := 36) mJ_44 (by decide +kernel) (ns_iload_n 1 rfl rfl) rfl ?_
  refine nk_icmp (c := .ge) (off := 29) (len := 3) (t := 65) (pc' := 39) mJ_44 (by decide +kernel) (by decide +kernel) rfl (fun hc => ?_) (fun hc => ?_)
  · have hr := nk_ifp (c := l2 ≤ l6) hc hr
    refine nk_p (i := .iload_n 3) (len := 1) (pc' := 66) mJ_44 (by decide +kernel) (ns_iload_n 2 rfl rfl) rfl ?_
    refine nk_icond (c := .eq) (off := 9) (len := 3) (t := 75) (pc' := 69) mJ_44 (by decide +kernel) (by decide +kernel) rfl (fun hc => ?_) (fun hc => ?_)
    · have hr := nk_ifp (c := l3 = 0) hc hr
      refine nk_p (i := .lload 4) (len := 2) (pc' := 77) mJ_44 (by decide +kernel) (ns_lload 3 rfl) rfl ?_
      cases hr
      exact nk_lret (len := 1) mJ_44 (by decide +kernel) rfl
    · have hr := nk_ifn (c := l3 = 0) hc hr
      refine nk_p (i := .lload 4) (len := 2) (pc' := 71) mJ_44 (by decide +kernel) (ns_lload 3 rfl) rfl ?_
      refine nk_p (i := .lneg) (len := 1) (pc' := 72) mJ_44 (by decide +kernel) ns_lneg rfl ?_
      refine nk_p (i := .goto 5) (len := 3) (pc' := 77) mJ_44 (by decide +kernel) (ns_goto (by decide +kernel)) rfl ?_
      cases hr
      exact nk_lret (len := 1) mJ_44 (by decide +kernel) rfl
  · have hr := nk_ifn (c := l2 ≤ l6) hc hr
    refine nk_p (i := .lload 4) (len := 2) (pc' := 41) mJ_44 (by decide +kernel) (ns_lload 3 rfl) rfl ?_
    refine nk_ldc2 (x := 133) (len := 3) (X := 10) (v := 10) (pc' := 44) mJ_44 (by decide +kernel) (by decide +kernel) (by decide +kernel) rfl ?_
    refine nk_p (i := .lmul) (len := 1) (pc' := 45) mJ_44 (by decide +kernel) ns_lmul rfl ?_
    refine nk_p (i := .aload_n 0) (len := 1) (pc' := 46) mJ_44 (by decide +kernel) (ns_aload_n 0 rfl rfl) rfl ?_
    refine nk_getC (f := (4, 0, 16512)) (x := 9) (len := 3) (ci := 10) (k := 0) (pc' := 49) ja_okT mJ_44 (by decide +kernel) (by decide +kernel) (by decide +kernel) (by decide) t_l0 rfl ?_
    have t1 : nk_ar ja_Tt (ja_c l0 0) = some (0, 16512) := nk_ta ja_okT t_l0 (by decide +kernel)
    refine nk_p (i := .iload 6) (len := 2) (pc' := 51) mJ_44 (by decide +kernel) (ns_iload 4 rfl) rfl ?_
    obtain ⟨h2, hr⟩ := nk_cke hr
    refine nk_bald (t := 0) (len := 1) (N := 16512) (pc' := 52) mJ_44 (by decide +kernel) t1 (by decide) h2.1 h2.2 rfl rfl ?_
    refine nk_p (i := .bipush 48) (len := 2) (pc' := 54) mJ_44 (by decide +kernel) (ns_bipush (c := 48) (by decide +kernel)) rfl ?_
    refine nk_p (i := .isub) (len := 1) (pc' := 55) mJ_44 (by decide +kernel) ns_isub rfl ?_
    refine nk_p (i := .i2l) (len := 1) (pc' := 56) mJ_44 (by decide +kernel) ns_i2l rfl ?_
    refine nk_p (i := .ladd) (len := 1) (pc' := 57) mJ_44 (by decide +kernel) ns_ladd rfl ?_
    obtain ⟨v3, h4, hr⟩ := nk_lte hr
    refine nk_p (i := .lstore 4) (len := 2) (pc' := 59) mJ_44 (by decide +kernel) (ns_lstore (L' := [(4, nk_l v3), (0, nk_r l0), (2, nk_i l2), (3, nk_i l3), (6, nk_i l6)]) h4 rfl (by decide +kernel)) rfl ?_
    obtain ⟨v5, h6, hr⟩ := nk_lte hr
    refine nk_p (i := .iinc 6 1) (len := 3) (pc' := 62) mJ_44 (by decide +kernel) (ns_iinc (c := 1) (L' := [(6, nk_i v5), (4, nk_l v3), (0, nk_r l0), (2, nk_i l2), (3, nk_i l3)]) 4 rfl (by decide +kernel) h6 rfl (by decide +kernel)) rfl ?_
    refine nk_p (i := .goto (-29)) (len := 3) (pc' := 33) mJ_44 (by decide +kernel) (ns_goto (by decide +kernel)) rfl ?_
    refine nk_sub [2, 3, 4, 1, 0] (L' := [(0, nk_r l0), (2, nk_i l2), (3, nk_i l3), (4, nk_l v3), (6, nk_i v5)]) rfl ?_
    exact hrec33 _ _ _ _ _ _ _ t_l0 hr
noncomputable def ja_X10_numberAt_L33 : Nat → Nat → Int → Int → Int → Int → nk_S → Option (Int × nk_S)
  | 0, _, _, _, _, _, _ => none
  | n + 1, l0, l2, l3, l4, l6, S => ja_X10_numberAt_b33 (ja_X10_numberAt_L33 n) l0 l2 l3 l4 l6 S
theorem ja_X10_numberAt_L33_ok (zs : List Int32) : ∀ n : Nat, ∀ (l0 : Nat) (l2 : Int) (l3 : Int) (l4 : Int) (l6 : Int) (S : nk_S) (R : Int × nk_S), nk_cl ja_Tt l0 = some 10 → ja_X10_numberAt_L33 n l0 l2 l3 l4 l6 S = some R → nk_K ja_Tt mi_Γ (mi_ev zs) 2 44 33 [(0, nk_r l0), (2, nk_i l2), (3, nk_i l3), (4, nk_l l4), (6, nk_i l6)] [] S R := by
  intro n
  induction n with
  | zero => intro _ _ _ _ _ _ _ _ hr; cases hr
  | succ n ih => intro l0 l2 l3 l4 l6 S R t_l0 hr; exact ja_X10_numberAt_b33_ok zs ih l0 l2 l3 l4 l6 S R t_l0 hr
noncomputable def ja_X10_numberAt_b16 (l0 : Nat) (l1 : Int) (l2 : Int) (s0 : Int) (S : nk_S) : Option (Int × nk_S) :=
  if s0 = 0 then
    ja_X10_numberAt_L33 nk_big l0 l2 s0 0 l1 S
  else
    nk_lt (nk_w (l1 + 1)) fun v1 =>
    ja_X10_numberAt_L33 nk_big l0 l2 s0 0 v1 S
theorem ja_X10_numberAt_b16_ok (zs : List Int32) : ∀ (l0 : Nat) (l1 : Int) (l2 : Int) (s0 : Int) (S : nk_S) (R : Int × nk_S), nk_cl ja_Tt l0 = some 10 → ja_X10_numberAt_b16 l0 l1 l2 s0 S = some R → nk_K ja_Tt mi_Γ (mi_ev zs) 2 44 16 [(0, nk_r l0), (1, nk_i l1), (2, nk_i l2)] [nk_i s0] S R := by
  intro l0 l1 l2 s0 S R t_l0 hr
  unfold ja_X10_numberAt_b16 at hr
  refine nk_p (i := .istore_n 3) (len := 1) (pc' := 17) mJ_44 (by decide +kernel) (ns_istore_n (L' := [(3, nk_i s0), (0, nk_r l0), (1, nk_i l1), (2, nk_i l2)]) rfl rfl rfl (by decide +kernel)) rfl ?_
  refine nk_p (i := .lconst 0) (len := 1) (pc' := 18) mJ_44 (by decide +kernel) (ns_lconst (c := 0) (by decide +kernel)) rfl ?_
  refine nk_p (i := .lstore 4) (len := 2) (pc' := 20) mJ_44 (by decide +kernel) (ns_lstore (L' := [(4, nk_l 0), (3, nk_i s0), (0, nk_r l0), (1, nk_i l1), (2, nk_i l2)]) rfl rfl (by decide +kernel)) rfl ?_
  refine nk_p (i := .iload_n 3) (len := 1) (pc' := 21) mJ_44 (by decide +kernel) (ns_iload_n 1 rfl rfl) rfl ?_
  refine nk_icond (c := .eq) (off := 9) (len := 3) (t := 30) (pc' := 24) mJ_44 (by decide +kernel) (by decide +kernel) rfl (fun hc => ?_) (fun hc => ?_)
  · have hr := nk_ifp (c := s0 = 0) hc hr
    refine nk_p (i := .iload_n 1) (len := 1) (pc' := 31) mJ_44 (by decide +kernel) (ns_iload_n 3 rfl rfl) rfl ?_
    refine nk_p (i := .istore 6) (len := 2) (pc' := 33) mJ_44 (by decide +kernel) (ns_istore (L' := [(6, nk_i l1), (4, nk_l 0), (3, nk_i s0), (0, nk_r l0), (1, nk_i l1), (2, nk_i l2)]) rfl rfl (by decide +kernel)) rfl ?_
    refine nk_sub [3, 5, 2, 1, 0] (L' := [(0, nk_r l0), (2, nk_i l2), (3, nk_i s0), (4, nk_l 0), (6, nk_i l1)]) rfl ?_
    exact ja_X10_numberAt_L33_ok zs nk_big _ _ _ _ _ _ _ t_l0 hr
  · have hr := nk_ifn (c := s0 = 0) hc hr
    refine nk_p (i := .iload_n 1) (len := 1) (pc' := 25) mJ_44 (by decide +kernel) (ns_iload_n 3 rfl rfl) rfl ?_
    refine nk_p (i := .iconst 1) (len := 1) (pc' := 26) mJ_44 (by decide +kernel) (ns_iconst (c := 1) (by decide +kernel)) rfl ?_
    refine nk_p (i := .iadd) (len := 1) (pc' := 27) mJ_44 (by decide +kernel) ns_iadd rfl ?_
    refine nk_p (i := .goto 4) (len := 3) (pc' := 31) mJ_44 (by decide +kernel) (ns_goto (by decide +kernel)) rfl ?_
    obtain ⟨v1, h2, hr⟩ := nk_lte hr
    refine nk_p (i := .istore 6) (len := 2) (pc' := 33) mJ_44 (by decide +kernel) (ns_istore (L' := [(6, nk_i v1), (4, nk_l 0), (3, nk_i s0), (0, nk_r l0), (1, nk_i l1), (2, nk_i l2)]) h2 rfl (by decide +kernel)) rfl ?_
    refine nk_sub [3, 5, 2, 1, 0] (L' := [(0, nk_r l0), (2, nk_i l2), (3, nk_i s0), (4, nk_l 0), (6, nk_i v1)]) rfl ?_
    exact ja_X10_numberAt_L33_ok zs nk_big _ _ _ _ _ _ _ t_l0 hr
noncomputable def ja_X10_numberAt (l0 : Nat) (l1 : Int) (l2 : Int) (S : nk_S) : Option (Int × nk_S) :=
  if 0 ≤ l1 ∧ l1 < 16512 then
  if (S.1 (ja_c l0 0) l1.toNat) = 45 then
    ja_X10_numberAt_b16 l0 l1 l2 1 S
  else
    ja_X10_numberAt_b16 l0 l1 l2 0 S
  else none
theorem ja_X10_numberAt_ok (zs : List Int32) : ∀ (l0 : Nat) (l1 : Int) (l2 : Int) (S : nk_S) (R : Int × nk_S), nk_cl ja_Tt l0 = some 10 → ja_X10_numberAt l0 l1 l2 S = some R → nk_K ja_Tt mi_Γ (mi_ev zs) 2 44 0 [(0, nk_r l0), (1, nk_i l1), (2, nk_i l2)] [] S R := by
  intro l0 l1 l2 S R t_l0 hr
  unfold ja_X10_numberAt at hr
  refine nk_p (i := .aload_n 0) (len := 1) (pc' := 1) mJ_44 (by decide +kernel) (ns_aload_n 0 rfl rfl) rfl ?_
  refine nk_getC (f := (4, 0, 16512)) (x := 9) (len := 3) (ci := 10) (k := 0) (pc' := 4) ja_okT mJ_44 (by decide +kernel) (by decide +kernel) (by decide +kernel) (by decide) t_l0 rfl ?_
  have t1 : nk_ar ja_Tt (ja_c l0 0) = some (0, 16512) := nk_ta ja_okT t_l0 (by decide +kernel)
  refine nk_p (i := .iload_n 1) (len := 1) (pc' := 5) mJ_44 (by decide +kernel) (ns_iload_n 1 rfl rfl) rfl ?_
  obtain ⟨h2, hr⟩ := nk_cke hr
  refine nk_bald (t := 0) (len := 1) (N := 16512) (pc' := 6) mJ_44 (by decide +kernel) t1 (by decide) h2.1 h2.2 rfl rfl ?_
  refine nk_p (i := .bipush 45) (len := 2) (pc' := 8) mJ_44 (by decide +kernel) (ns_bipush (c := 45) (by decide +kernel)) rfl ?_
  refine nk_icmp (c := .ne) (off := 7) (len := 3) (t := 15) (pc' := 11) mJ_44 (by decide +kernel) (by decide +kernel) rfl (fun hc => ?_) (fun hc => ?_)
  · have hr := nk_ifn (c := (S.1 (ja_c l0 0) l1.toNat) = 45) hc hr
    refine nk_p (i := .iconst 0) (len := 1) (pc' := 16) mJ_44 (by decide +kernel) (ns_iconst (c := 0) (by decide +kernel)) rfl ?_
    exact ja_X10_numberAt_b16_ok zs _ _ _ _ _ _ t_l0 hr
  · have hr := nk_ifp (c := (S.1 (ja_c l0 0) l1.toNat) = 45) (Decidable.of_not_not hc) hr
    refine nk_p (i := .iconst 1) (len := 1) (pc' := 12) mJ_44 (by decide +kernel) (ns_iconst (c := 1) (by decide +kernel)) rfl ?_
    refine nk_p (i := .goto 4) (len := 3) (pc' := 16) mJ_44 (by decide +kernel) (ns_goto (by decide +kernel)) rfl ?_
    exact ja_X10_numberAt_b16_ok zs _ _ _ _ _ _ t_l0 hr
/-! SafeCode$Words isNumber (II)Z -/
noncomputable def ja_X10_isNumber_b39 (rec39 : Nat → Int → Int → Int → nk_S → Option (Int × nk_S)) (l0 : Nat) (l1 : Int) (l2 : Int) (l4 : Int) (S : nk_S) : Option (Int × nk_S) :=
  if l2 ≤ l4 then
    nk_bd (ja_X10_numberAt l0 l1 l2 S) fun r1 S2 =>
    if r1 = (nk_w r1) then
      some (1, S2)
    else
      some (0, S2)
  else
    if 0 ≤ l4 ∧ l4 < 16512 then
    if (S.1 (ja_c l0 0) l4.toNat) < 48 then
      some (0, S)
    else
      if (S.1 (ja_c l0 0) l4.toNat) ≤ 57 then
        nk_lt (nk_w (l4 + 1)) fun v6 =>
        rec39 l0 l1 l2 v6 S
      else
        some (0, S)
    else none
theorem ja_X10_isNumber_b39_ok (zs : List Int32) {rec39 : Nat → Int → Int → Int → nk_S → Option (Int × nk_S)} (hrec39 : ∀ (l0 : Nat) (l1 : Int) (l2 : Int) (l4 : Int) (S : nk_S) (R : Int × nk_S), nk_cl ja_Tt l0 = some 10 → rec39 l0 l1 l2 l4 S = some R → nk_K ja_Tt mi_Γ (mi_ev zs) 1 39 39 [(0, nk_r l0), (1, nk_i l1), (2, nk_i l2), (4, nk_i l4)] [] S R) : ∀ (l0 : Nat) (l1 : Int) (l2 : Int) (l4 : Int) (S : nk_S) (R : Int × nk_S), nk_cl ja_Tt l0 = some 10 → ja_X10_isNumber_b39 rec39 l0 l1 l2 l4 S = some R → nk_K ja_Tt mi_Γ (mi_ev zs) 1 39 39 [(0, nk_r l0), (1, nk_i l1), (2, nk_i l2), (4, nk_i l4)] [] S R := by
  intro l0 l1 l2 l4 S R t_l0 hr
  unfold ja_X10_isNumber_b39 at hr
  refine nk_p (i := .iload 4) (len := 2) (pc' := 41) mJ_39 (by decide +kernel) (ns_iload 3 rfl) rfl ?_
  refine nk_p (i := .iload_n 2) (len := 1) (pc' := 42) mJ_39 (by decide +kernel) (ns_iload_n 2 rfl rfl) rfl ?_
  refine nk_icmp (c := .ge) (off := 35) (len := 3) (t := 77) (pc' := 45) mJ_39 (by decide +kernel) (by decide +kernel) rfl (fun hc => ?_) (fun hc => ?_)
  · have hr := nk_ifp (c := l2 ≤ l4) hc hr
    refine nk_p (i := .aload_n 0) (len := 1) (pc' := 78) mJ_39 (by decide +kernel) (ns_aload_n 0 rfl rfl) rfl ?_
    refine nk_p (i := .iload_n 1) (len := 1) (pc' := 79) mJ_39 (by decide +kernel) (ns_iload_n 1 rfl rfl) rfl ?_
    refine nk_p (i := .iload_n 2) (len := 1) (pc' := 80) mJ_39 (by decide +kernel) (ns_iload_n 2 rfl rfl) rfl ?_
    obtain ⟨r1, S2, h3, hr⟩ := nk_bde hr
    refine nk_callV (ci := 10) (n := 2) (x := 129) (len := 3) (j' := 44) (q' := 2) (r := r1) (S' := S2) (L2 := [(0, nk_r l0), (1, nk_i l1), (2, nk_i l2)]) (rest := []) (st' := [nk_l r1]) (pc' := 83) mJ_39 (by decide +kernel) (by decide +kernel) rfl rfl t_l0 (Nat.le_of_ble_eq_true rfl) mJ_44 (Nat.le_of_ble_eq_true rfl) rfl (ja_X10_numberAt_ok zs _ _ _ _ _ t_l0 h3) rfl ?_
    refine nk_p (i := .lstore 4) (len := 2) (pc' := 85) mJ_39 (by decide +kernel) (ns_lstore (L' := [(4, nk_l r1), (0, nk_r l0), (1, nk_i l1), (2, nk_i l2)]) rfl rfl (by decide +kernel)) rfl ?_
    refine nk_p (i := .lload 4) (len := 2) (pc' := 87) mJ_39 (by decide +kernel) (ns_lload 0 rfl) rfl ?_
    refine nk_p (i := .lload 4) (len := 2) (pc' := 89) mJ_39 (by decide +kernel) (ns_lload 0 rfl) rfl ?_
    refine nk_p (i := .l2i) (len := 1) (pc' := 90) mJ_39 (by decide +kernel) ns_l2i rfl ?_
    refine nk_p (i := .i2l) (len := 1) (pc' := 91) mJ_39 (by decide +kernel) ns_i2l rfl ?_
    refine nk_p (i := .lcmp) (len := 1) (pc' := 92) mJ_39 (by decide +kernel) ns_lcmp rfl ?_
    refine nk_lcond (c := .ne) (off := 7) (len := 3) (t := 99) (pc' := 95) mJ_39 (by decide +kernel) (by decide +kernel) rfl (fun hc => ?_) (fun hc => ?_)
    · have hr := nk_ifn (c := r1 = (nk_w r1)) hc hr
      refine nk_p (i := .iconst 0) (len := 1) (pc' := 100) mJ_39 (by decide +kernel) (ns_iconst (c := 0) (by decide +kernel)) rfl ?_
      cases hr
      exact nk_iret (ty := .boolean) (len := 1) mJ_39 (by decide +kernel) rfl (nk_nar_z (by decide))
    · have hr := nk_ifp (c := r1 = (nk_w r1)) (Decidable.of_not_not hc) hr
      refine nk_p (i := .iconst 1) (len := 1) (pc' := 96) mJ_39 (by decide +kernel) (ns_iconst (c := 1) (by decide +kernel)) rfl ?_
      refine nk_p (i := .goto 4) (len := 3) (pc' := 100) mJ_39 (by decide +kernel) (ns_goto (by decide +kernel)) rfl ?_
      cases hr
      exact nk_iret (ty := .boolean) (len := 1) mJ_39 (by decide +kernel) rfl (nk_nar_z (by decide))
  · have hr := nk_ifn (c := l2 ≤ l4) hc hr
    refine nk_p (i := .aload_n 0) (len := 1) (pc' := 46) mJ_39 (by decide +kernel) (ns_aload_n 0 rfl rfl) rfl ?_
    refine nk_getC (f := (4, 0, 16512)) (x := 9) (len := 3) (ci := 10) (k := 0) (pc' := 49) ja_okT mJ_39 (by decide +kernel) (by decide +kernel) (by decide +kernel) (by decide) t_l0 rfl ?_
    have t4 : nk_ar ja_Tt (ja_c l0 0) = some (0, 16512) := nk_ta ja_okT t_l0 (by decide +kernel)
    refine nk_p (i := .iload 4) (len := 2) (pc' := 51) mJ_39 (by decide +kernel) (ns_iload 3 rfl) rfl ?_
    obtain ⟨h5, hr⟩ := nk_cke hr
    refine nk_bald (t := 0) (len := 1) (N := 16512) (pc' := 52) mJ_39 (by decide +kernel) t4 (by decide) h5.1 h5.2 rfl rfl ?_
    refine nk_p (i := .bipush 48) (len := 2) (pc' := 54) mJ_39 (by decide +kernel) (ns_bipush (c := 48) (by decide +kernel)) rfl ?_
    refine nk_icmp (c := .lt) (off := 15) (len := 3) (t := 69) (pc' := 57) mJ_39 (by decide +kernel) (by decide +kernel) rfl (fun hc => ?_) (fun hc => ?_)
    · have hr := nk_ifp (c := (S.1 (ja_c l0 0) l4.toNat) < 48) hc hr
      refine nk_p (i := .iconst 0) (len := 1) (pc' := 70) mJ_39 (by decide +kernel) (ns_iconst (c := 0) (by decide +kernel)) rfl ?_
      cases hr
      exact nk_iret (ty := .boolean) (len := 1) mJ_39 (by decide +kernel) rfl (nk_nar_z (by decide))
    · have hr := nk_ifn (c := (S.1 (ja_c l0 0) l4.toNat) < 48) hc hr
      refine nk_p (i := .aload_n 0) (len := 1) (pc' := 58) mJ_39 (by decide +kernel) (ns_aload_n 0 rfl rfl) rfl ?_
      refine nk_getC (f := (4, 0, 16512)) (x := 9) (len := 3) (ci := 10) (k := 0) (pc' := 61) ja_okT mJ_39 (by decide +kernel) (by decide +kernel) (by decide +kernel) (by decide) t_l0 rfl ?_
      refine nk_p (i := .iload 4) (len := 2) (pc' := 63) mJ_39 (by decide +kernel) (ns_iload 3 rfl) rfl ?_
      refine nk_bald (t := 0) (len := 1) (N := 16512) (pc' := 64) mJ_39 (by decide +kernel) t4 (by decide) h5.1 h5.2 rfl rfl ?_
      refine nk_p (i := .bipush 57) (len := 2) (pc' := 66) mJ_39 (by decide +kernel) (ns_bipush (c := 57) (by decide +kernel)) rfl ?_
      refine nk_icmp (c := .le) (off := 5) (len := 3) (t := 71) (pc' := 69) mJ_39 (by decide +kernel) (by decide +kernel) rfl (fun hc => ?_) (fun hc => ?_)
      · have hr := nk_ifp (c := (S.1 (ja_c l0 0) l4.toNat) ≤ 57) hc hr
        obtain ⟨v6, h7, hr⟩ := nk_lte hr
        refine nk_p (i := .iinc 4 1) (len := 3) (pc' := 74) mJ_39 (by decide +kernel) (ns_iinc (c := 1) (L' := [(4, nk_i v6), (0, nk_r l0), (1, nk_i l1), (2, nk_i l2)]) 3 rfl (by decide +kernel) h7 rfl (by decide +kernel)) rfl ?_
        refine nk_p (i := .goto (-35)) (len := 3) (pc' := 39) mJ_39 (by decide +kernel) (ns_goto (by decide +kernel)) rfl ?_
        refine nk_sub [1, 2, 3, 0] (L' := [(0, nk_r l0), (1, nk_i l1), (2, nk_i l2), (4, nk_i v6)]) rfl ?_
        exact hrec39 _ _ _ _ _ _ t_l0 hr
      · have hr := nk_ifn (c := (S.1 (ja_c l0 0) l4.toNat) ≤ 57) hc hr
        refine nk_p (i := .iconst 0) (len := 1) (pc' := 70) mJ_39 (by decide +kernel) (ns_iconst (c := 0) (by decide +kernel)) rfl ?_
        cases hr
        exact nk_iret (ty := .boolean) (len := 1) mJ_39 (by decide +kernel) rfl (nk_nar_z (by decide))
noncomputable def ja_X10_isNumber_L39 : Nat → Nat → Int → Int → Int → nk_S → Option (Int × nk_S)
  | 0, _, _, _, _, _ => none
  | n + 1, l0, l1, l2, l4, S => ja_X10_isNumber_b39 (ja_X10_isNumber_L39 n) l0 l1 l2 l4 S
theorem ja_X10_isNumber_L39_ok (zs : List Int32) : ∀ n : Nat, ∀ (l0 : Nat) (l1 : Int) (l2 : Int) (l4 : Int) (S : nk_S) (R : Int × nk_S), nk_cl ja_Tt l0 = some 10 → ja_X10_isNumber_L39 n l0 l1 l2 l4 S = some R → nk_K ja_Tt mi_Γ (mi_ev zs) 1 39 39 [(0, nk_r l0), (1, nk_i l1), (2, nk_i l2), (4, nk_i l4)] [] S R := by
  intro n
  induction n with
  | zero => intro _ _ _ _ _ _ _ hr; cases hr
  | succ n ih => intro l0 l1 l2 l4 S R t_l0 hr; exact ja_X10_isNumber_b39_ok zs ih l0 l1 l2 l4 S R t_l0 hr
noncomputable def ja_X10_isNumber_b18 (l0 : Nat) (l1 : Int) (l2 : Int) (s0 : Int) (S : nk_S) : Option (Int × nk_S) :=
  if (nk_w (l2 - s0)) < 1 then
    some (0, S)
  else
    if (nk_w (l2 - s0)) ≤ 10 then
      ja_X10_isNumber_L39 nk_big l0 l1 l2 s0 S
    else
      some (0, S)
theorem ja_X10_isNumber_b18_ok (zs : List Int32) : ∀ (l0 : Nat) (l1 : Int) (l2 : Int) (s0 : Int) (S : nk_S) (R : Int × nk_S), nk_cl ja_Tt l0 = some 10 → ja_X10_isNumber_b18 l0 l1 l2 s0 S = some R → nk_K ja_Tt mi_Γ (mi_ev zs) 1 39 18 [(0, nk_r l0), (1, nk_i l1), (2, nk_i l2)] [nk_i s0] S R := by
  intro l0 l1 l2 s0 S R t_l0 hr
  unfold ja_X10_isNumber_b18 at hr
  refine nk_p (i := .istore_n 3) (len := 1) (pc' := 19) mJ_39 (by decide +kernel) (ns_istore_n (L' := [(3, nk_i s0), (0, nk_r l0), (1, nk_i l1), (2, nk_i l2)]) rfl rfl rfl (by decide +kernel)) rfl ?_
  refine nk_p (i := .iload_n 2) (len := 1) (pc' := 20) mJ_39 (by decide +kernel) (ns_iload_n 3 rfl rfl) rfl ?_
  refine nk_p (i := .iload_n 3) (len := 1) (pc' := 21) mJ_39 (by decide +kernel) (ns_iload_n 0 rfl rfl) rfl ?_
  refine nk_p (i := .isub) (len := 1) (pc' := 22) mJ_39 (by decide +kernel) ns_isub rfl ?_
  refine nk_p (i := .iconst 1) (len := 1) (pc' := 23) mJ_39 (by decide +kernel) (ns_iconst (c := 1) (by decide +kernel)) rfl ?_
  refine nk_icmp (c := .lt) (off := 11) (len := 3) (t := 34) (pc' := 26) mJ_39 (by decide +kernel) (by decide +kernel) rfl (fun hc => ?_) (fun hc => ?_)
  · have hr := nk_ifp (c := (nk_w (l2 - s0)) < 1) hc hr
    refine nk_p (i := .iconst 0) (len := 1) (pc' := 35) mJ_39 (by decide +kernel) (ns_iconst (c := 0) (by decide +kernel)) rfl ?_
    cases hr
    exact nk_iret (ty := .boolean) (len := 1) mJ_39 (by decide +kernel) rfl (nk_nar_z (by decide))
  · have hr := nk_ifn (c := (nk_w (l2 - s0)) < 1) hc hr
    refine nk_p (i := .iload_n 2) (len := 1) (pc' := 27) mJ_39 (by decide +kernel) (ns_iload_n 3 rfl rfl) rfl ?_
    refine nk_p (i := .iload_n 3) (len := 1) (pc' := 28) mJ_39 (by decide +kernel) (ns_iload_n 0 rfl rfl) rfl ?_
    refine nk_p (i := .isub) (len := 1) (pc' := 29) mJ_39 (by decide +kernel) ns_isub rfl ?_
    refine nk_p (i := .bipush 10) (len := 2) (pc' := 31) mJ_39 (by decide +kernel) (ns_bipush (c := 10) (by decide +kernel)) rfl ?_
    refine nk_icmp (c := .le) (off := 5) (len := 3) (t := 36) (pc' := 34) mJ_39 (by decide +kernel) (by decide +kernel) rfl (fun hc => ?_) (fun hc => ?_)
    · have hr := nk_ifp (c := (nk_w (l2 - s0)) ≤ 10) hc hr
      refine nk_p (i := .iload_n 3) (len := 1) (pc' := 37) mJ_39 (by decide +kernel) (ns_iload_n 0 rfl rfl) rfl ?_
      refine nk_p (i := .istore 4) (len := 2) (pc' := 39) mJ_39 (by decide +kernel) (ns_istore (L' := [(4, nk_i s0), (3, nk_i s0), (0, nk_r l0), (1, nk_i l1), (2, nk_i l2)]) rfl rfl (by decide +kernel)) rfl ?_
      refine nk_sub [2, 3, 4, 0] (L' := [(0, nk_r l0), (1, nk_i l1), (2, nk_i l2), (4, nk_i s0)]) rfl ?_
      exact ja_X10_isNumber_L39_ok zs nk_big _ _ _ _ _ _ t_l0 hr
    · have hr := nk_ifn (c := (nk_w (l2 - s0)) ≤ 10) hc hr
      refine nk_p (i := .iconst 0) (len := 1) (pc' := 35) mJ_39 (by decide +kernel) (ns_iconst (c := 0) (by decide +kernel)) rfl ?_
      cases hr
      exact nk_iret (ty := .boolean) (len := 1) mJ_39 (by decide +kernel) rfl (nk_nar_z (by decide))
noncomputable def ja_X10_isNumber (l0 : Nat) (l1 : Int) (l2 : Int) (S : nk_S) : Option (Int × nk_S) :=
  if 0 ≤ l1 ∧ l1 < 16512 then
  if (S.1 (ja_c l0 0) l1.toNat) = 45 then
    ja_X10_isNumber_b18 l0 l1 l2 (nk_w (l1 + 1)) S
  else
    ja_X10_isNumber_b18 l0 l1 l2 l1 S
  else none
theorem ja_X10_isNumber_ok (zs : List Int32) : ∀ (l0 : Nat) (l1 : Int) (l2 : Int) (S : nk_S) (R : Int × nk_S), nk_cl ja_Tt l0 = some 10 → ja_X10_isNumber l0 l1 l2 S = some R → nk_K ja_Tt mi_Γ (mi_ev zs) 1 39 0 [(0, nk_r l0), (1, nk_i l1), (2, nk_i l2)] [] S R := by
  intro l0 l1 l2 S R t_l0 hr
  unfold ja_X10_isNumber at hr
  refine nk_p (i := .aload_n 0) (len := 1) (pc' := 1) mJ_39 (by decide +kernel) (ns_aload_n 0 rfl rfl) rfl ?_
  refine nk_getC (f := (4, 0, 16512)) (x := 9) (len := 3) (ci := 10) (k := 0) (pc' := 4) ja_okT mJ_39 (by decide +kernel) (by decide +kernel) (by decide +kernel) (by decide) t_l0 rfl ?_
  have t1 : nk_ar ja_Tt (ja_c l0 0) = some (0, 16512) := nk_ta ja_okT t_l0 (by decide +kernel)
  refine nk_p (i := .iload_n 1) (len := 1) (pc' := 5) mJ_39 (by decide +kernel) (ns_iload_n 1 rfl rfl) rfl ?_
  obtain ⟨h2, hr⟩ := nk_cke hr
  refine nk_bald (t := 0) (len := 1) (N := 16512) (pc' := 6) mJ_39 (by decide +kernel) t1 (by decide) h2.1 h2.2 rfl rfl ?_
  refine nk_p (i := .bipush 45) (len := 2) (pc' := 8) mJ_39 (by decide +kernel) (ns_bipush (c := 45) (by decide +kernel)) rfl ?_
  refine nk_icmp (c := .ne) (off := 9) (len := 3) (t := 17) (pc' := 11) mJ_39 (by decide +kernel) (by decide +kernel) rfl (fun hc => ?_) (fun hc => ?_)
  · have hr := nk_ifn (c := (S.1 (ja_c l0 0) l1.toNat) = 45) hc hr
    refine nk_p (i := .iload_n 1) (len := 1) (pc' := 18) mJ_39 (by decide +kernel) (ns_iload_n 1 rfl rfl) rfl ?_
    exact ja_X10_isNumber_b18_ok zs _ _ _ _ _ _ t_l0 hr
  · have hr := nk_ifp (c := (S.1 (ja_c l0 0) l1.toNat) = 45) (Decidable.of_not_not hc) hr
    refine nk_p (i := .iload_n 1) (len := 1) (pc' := 12) mJ_39 (by decide +kernel) (ns_iload_n 1 rfl rfl) rfl ?_
    refine nk_p (i := .iconst 1) (len := 1) (pc' := 13) mJ_39 (by decide +kernel) (ns_iconst (c := 1) (by decide +kernel)) rfl ?_
    refine nk_p (i := .iadd) (len := 1) (pc' := 14) mJ_39 (by decide +kernel) ns_iadd rfl ?_
    refine nk_p (i := .goto 4) (len := 3) (pc' := 18) mJ_39 (by decide +kernel) (ns_goto (by decide +kernel)) rfl ?_
    exact ja_X10_isNumber_b18_ok zs _ _ _ _ _ _ t_l0 hr
/-! SafeCode$Words shapeOf (I)I -/
noncomputable def ja_X10_shapeOf_b142 (l0 : Nat) (l1 : Int) (l2 : Int) (l3 : Int) (l5 : Int) (S : nk_S) : Option (Int × nk_S) :=
  nk_bd (ja_X10_nameShape l0 l2 l5 S) fun r1 S2 =>
  if r1 = 2 then
    nk_bd (ja_X10_nameShape l0 (nk_w (l5 + 1)) l3 S2) fun r4 S5 =>
    if r4 = 1 then
      nk_bd (ja_X10_keep l0 l2 l5 S5) fun r8 S9 =>
      if 0 ≤ l1 ∧ l1 < 12288 then
      nk_lt (nk_wi S9 (ja_c l0 13) l1.toNat r8) fun S12 =>
      nk_bd (ja_X10_keep l0 (nk_w (l5 + 1)) l3 S12) fun r15 S16 =>
      nk_lt (nk_wi S16 (ja_c l0 14) l1.toNat r15) fun S18 =>
      some (5, S18)
      else none
    else
      some (0, S5)
  else
    some (0, S2)
theorem ja_X10_shapeOf_b142_ok (zs : List Int32) : ∀ (l0 : Nat) (l1 : Int) (l2 : Int) (l3 : Int) (l5 : Int) (S : nk_S) (R : Int × nk_S), nk_cl ja_Tt l0 = some 10 → ja_X10_shapeOf_b142 l0 l1 l2 l3 l5 S = some R → nk_K ja_Tt mi_Γ (mi_ev zs) 1 49 142 [(0, nk_r l0), (1, nk_i l1), (2, nk_i l2), (3, nk_i l3), (5, nk_i l5)] [] S R := by
  intro l0 l1 l2 l3 l5 S R t_l0 hr
  unfold ja_X10_shapeOf_b142 at hr
  refine nk_p (i := .aload_n 0) (len := 1) (pc' := 143) mJ_49 (by decide +kernel) (ns_aload_n 0 rfl rfl) rfl ?_
  refine nk_p (i := .iload_n 2) (len := 1) (pc' := 144) mJ_49 (by decide +kernel) (ns_iload_n 2 rfl rfl) rfl ?_
  refine nk_p (i := .iload 5) (len := 2) (pc' := 146) mJ_49 (by decide +kernel) (ns_iload 4 rfl) rfl ?_
  obtain ⟨r1, S2, h3, hr⟩ := nk_bde hr
  refine nk_callV (ci := 10) (n := 2) (x := 123) (len := 3) (j' := 43) (q' := 1) (r := r1) (S' := S2) (L2 := [(0, nk_r l0), (1, nk_i l2), (2, nk_i l5)]) (rest := []) (st' := [nk_i r1]) (pc' := 149) mJ_49 (by decide +kernel) (by decide +kernel) rfl rfl t_l0 (Nat.le_of_ble_eq_true rfl) mJ_43 (Nat.le_of_ble_eq_true rfl) rfl (ja_X10_nameShape_ok zs _ _ _ _ _ t_l0 h3) rfl ?_
  refine nk_p (i := .iconst 2) (len := 1) (pc' := 150) mJ_49 (by decide +kernel) (ns_iconst (c := 2) (by decide +kernel)) rfl ?_
  refine nk_icmp (c := .ne) (off := 46) (len := 3) (t := 196) (pc' := 153) mJ_49 (by decide +kernel) (by decide +kernel) rfl (fun hc => ?_) (fun hc => ?_)
  · have hr := nk_ifn (c := r1 = 2) hc hr
    refine nk_p (i := .iconst 0) (len := 1) (pc' := 197) mJ_49 (by decide +kernel) (ns_iconst (c := 0) (by decide +kernel)) rfl ?_
    cases hr
    exact nk_iret (ty := .int) (len := 1) mJ_49 (by decide +kernel) rfl (nk_nar_i _)
  · have hr := nk_ifp (c := r1 = 2) (Decidable.of_not_not hc) hr
    refine nk_p (i := .aload_n 0) (len := 1) (pc' := 154) mJ_49 (by decide +kernel) (ns_aload_n 0 rfl rfl) rfl ?_
    refine nk_p (i := .iload 5) (len := 2) (pc' := 156) mJ_49 (by decide +kernel) (ns_iload 4 rfl) rfl ?_
    refine nk_p (i := .iconst 1) (len := 1) (pc' := 157) mJ_49 (by decide +kernel) (ns_iconst (c := 1) (by decide +kernel)) rfl ?_
    refine nk_p (i := .iadd) (len := 1) (pc' := 158) mJ_49 (by decide +kernel) ns_iadd rfl ?_
    refine nk_p (i := .iload_n 3) (len := 1) (pc' := 159) mJ_49 (by decide +kernel) (ns_iload_n 3 rfl rfl) rfl ?_
    obtain ⟨r4, S5, h6, hr⟩ := nk_bde hr
    refine nk_callV (ci := 10) (n := 2) (x := 123) (len := 3) (j' := 43) (q' := 1) (r := r4) (S' := S5) (L2 := [(0, nk_r l0), (1, nk_i (nk_w (l5 + 1))), (2, nk_i l3)]) (rest := []) (st' := [nk_i r4]) (pc' := 162) mJ_49 (by decide +kernel) (by decide +kernel) rfl rfl t_l0 (Nat.le_of_ble_eq_true rfl) mJ_43 (Nat.le_of_ble_eq_true rfl) rfl (ja_X10_nameShape_ok zs _ _ _ _ _ t_l0 h6) rfl ?_
    refine nk_p (i := .iconst 1) (len := 1) (pc' := 163) mJ_49 (by decide +kernel) (ns_iconst (c := 1) (by decide +kernel)) rfl ?_
    refine nk_icmp (c := .ne) (off := 33) (len := 3) (t := 196) (pc' := 166) mJ_49 (by decide +kernel) (by decide +kernel) rfl (fun hc => ?_) (fun hc => ?_)
    · have hr := nk_ifn (c := r4 = 1) hc hr
      refine nk_p (i := .iconst 0) (len := 1) (pc' := 197) mJ_49 (by decide +kernel) (ns_iconst (c := 0) (by decide +kernel)) rfl ?_
      cases hr
      exact nk_iret (ty := .int) (len := 1) mJ_49 (by decide +kernel) rfl (nk_nar_i _)
    · have hr := nk_ifp (c := r4 = 1) (Decidable.of_not_not hc) hr
      refine nk_p (i := .aload_n 0) (len := 1) (pc' := 167) mJ_49 (by decide +kernel) (ns_aload_n 0 rfl rfl) rfl ?_
      refine nk_getC (f := (4, 1, 12288)) (x := 34) (len := 3) (ci := 10) (k := 13) (pc' := 170) ja_okT mJ_49 (by decide +kernel) (by decide +kernel) (by decide +kernel) (by decide) t_l0 rfl ?_
      have t7 : nk_ar ja_Tt (ja_c l0 13) = some (1, 12288) := nk_ta ja_okT t_l0 (by decide +kernel)
      refine nk_p (i := .iload_n 1) (len := 1) (pc' := 171) mJ_49 (by decide +kernel) (ns_iload_n 1 rfl rfl) rfl ?_
      refine nk_p (i := .aload_n 0) (len := 1) (pc' := 172) mJ_49 (by decide +kernel) (ns_aload_n 0 rfl rfl) rfl ?_
      refine nk_p (i := .iload_n 2) (len := 1) (pc' := 173) mJ_49 (by decide +kernel) (ns_iload_n 2 rfl rfl) rfl ?_
      refine nk_p (i := .iload 5) (len := 2) (pc' := 175) mJ_49 (by decide +kernel) (ns_iload 4 rfl) rfl ?_
      obtain ⟨r8, S9, h10, hr⟩ := nk_bde hr
      refine nk_callV (ci := 10) (n := 2) (x := 111) (len := 3) (j' := 42) (q' := 1) (r := r8) (S' := S9) (L2 := [(0, nk_r l0), (1, nk_i l2), (2, nk_i l5)]) (rest := [nk_i l1, nk_r (ja_c l0 13)]) (st' := [nk_i r8, nk_i l1, nk_r (ja_c l0 13)]) (pc' := 178) mJ_49 (by decide +kernel) (by decide +kernel) rfl rfl t_l0 (Nat.le_of_ble_eq_true rfl) mJ_42 (Nat.le_of_ble_eq_true rfl) rfl (ja_X10_keep_ok zs _ _ _ _ _ t_l0 h10) rfl ?_
      obtain ⟨h11, hr⟩ := nk_cke hr
      obtain ⟨S12, h13, hr⟩ := nk_lte hr
      refine nk_iast (len := 1) (N := 12288) (pc' := 179) mJ_49 (by decide +kernel) t7 h11.1 h11.2 rfl rfl h13 ?_
      refine nk_p (i := .aload_n 0) (len := 1) (pc' := 180) mJ_49 (by decide +kernel) (ns_aload_n 0 rfl rfl) rfl ?_
      refine nk_getC (f := (4, 1, 12288)) (x := 37) (len := 3) (ci := 10) (k := 14) (pc' := 183) ja_okT mJ_49 (by decide +kernel) (by decide +kernel) (by decide +kernel) (by decide) t_l0 rfl ?_
      have t14 : nk_ar ja_Tt (ja_c l0 14) = some (1, 12288) := nk_ta ja_okT t_l0 (by decide +kernel)
      refine nk_p (i := .iload_n 1) (len := 1) (pc' := 184) mJ_49 (by decide +kernel) (ns_iload_n 1 rfl rfl) rfl ?_
      refine nk_p (i := .aload_n 0) (len := 1) (pc' := 185) mJ_49 (by decide +kernel) (ns_aload_n 0 rfl rfl) rfl ?_
      refine nk_p (i := .iload 5) (len := 2) (pc' := 187) mJ_49 (by decide +kernel) (ns_iload 4 rfl) rfl ?_
      refine nk_p (i := .iconst 1) (len := 1) (pc' := 188) mJ_49 (by decide +kernel) (ns_iconst (c := 1) (by decide +kernel)) rfl ?_
      refine nk_p (i := .iadd) (len := 1) (pc' := 189) mJ_49 (by decide +kernel) ns_iadd rfl ?_
      refine nk_p (i := .iload_n 3) (len := 1) (pc' := 190) mJ_49 (by decide +kernel) (ns_iload_n 3 rfl rfl) rfl ?_
      obtain ⟨r15, S16, h17, hr⟩ := nk_bde hr
      refine nk_callV (ci := 10) (n := 2) (x := 111) (len := 3) (j' := 42) (q' := 1) (r := r15) (S' := S16) (L2 := [(0, nk_r l0), (1, nk_i (nk_w (l5 + 1))), (2, nk_i l3)]) (rest := [nk_i l1, nk_r (ja_c l0 14)]) (st' := [nk_i r15, nk_i l1, nk_r (ja_c l0 14)]) (pc' := 193) mJ_49 (by decide +kernel) (by decide +kernel) rfl rfl t_l0 (Nat.le_of_ble_eq_true rfl) mJ_42 (Nat.le_of_ble_eq_true rfl) rfl (ja_X10_keep_ok zs _ _ _ _ _ t_l0 h17) rfl ?_
      obtain ⟨S18, h19, hr⟩ := nk_lte hr
      refine nk_iast (len := 1) (N := 12288) (pc' := 194) mJ_49 (by decide +kernel) t14 h11.1 h11.2 rfl rfl h19 ?_
      refine nk_p (i := .iconst 5) (len := 1) (pc' := 195) mJ_49 (by decide +kernel) (ns_iconst (c := 5) (by decide +kernel)) rfl ?_
      cases hr
      exact nk_iret (ty := .int) (len := 1) mJ_49 (by decide +kernel) rfl (nk_nar_i _)
noncomputable def ja_X10_shapeOf_b118 (rec118 : Nat → Int → Int → Int → Int → nk_S → Option (Int × nk_S)) (l0 : Nat) (l1 : Int) (l2 : Int) (l3 : Int) (l5 : Int) (S : nk_S) : Option (Int × nk_S) :=
  if l3 ≤ l5 then
    ja_X10_shapeOf_b142 l0 l1 l2 l3 l5 S
  else
    if 0 ≤ l5 ∧ l5 < 16512 then
    if (S.1 (ja_c l0 0) l5.toNat) = 46 then
      ja_X10_shapeOf_b142 l0 l1 l2 l3 l5 S
    else
      nk_lt (nk_w (l5 + 1)) fun v3 =>
      rec118 l0 l1 l2 l3 v3 S
    else none
theorem ja_X10_shapeOf_b118_ok (zs : List Int32) {rec118 : Nat → Int → Int → Int → Int → nk_S → Option (Int × nk_S)} (hrec118 : ∀ (l0 : Nat) (l1 : Int) (l2 : Int) (l3 : Int) (l5 : Int) (S : nk_S) (R : Int × nk_S), nk_cl ja_Tt l0 = some 10 → rec118 l0 l1 l2 l3 l5 S = some R → nk_K ja_Tt mi_Γ (mi_ev zs) 1 49 118 [(0, nk_r l0), (1, nk_i l1), (2, nk_i l2), (3, nk_i l3), (5, nk_i l5)] [] S R) : ∀ (l0 : Nat) (l1 : Int) (l2 : Int) (l3 : Int) (l5 : Int) (S : nk_S) (R : Int × nk_S), nk_cl ja_Tt l0 = some 10 → ja_X10_shapeOf_b118 rec118 l0 l1 l2 l3 l5 S = some R → nk_K ja_Tt mi_Γ (mi_ev zs) 1 49 118 [(0, nk_r l0), (1, nk_i l1), (2, nk_i l2), (3, nk_i l3), (5, nk_i l5)] [] S R := by
  intro l0 l1 l2 l3 l5 S R t_l0 hr
  unfold ja_X10_shapeOf_b118 at hr
  refine nk_p (i := .iload 5) (len := 2) (pc' := 120) mJ_49 (by decide +kernel) (ns_iload 4 rfl) rfl ?_
  refine nk_p (i := .iload_n 3) (len := 1) (pc' := 121) mJ_49 (by decide +kernel) (ns_iload_n 3 rfl rfl) rfl ?_
  refine nk_icmp (c := .ge) (off := 21) (len := 3) (t := 142) (pc' := 124) mJ_49 (by decide +kernel) (by decide +kernel) rfl (fun hc => ?_) (fun hc => ?_)
  · have hr := nk_ifp (c := l3 ≤ l5) hc hr
    exact ja_X10_shapeOf_b142_ok zs _ _ _ _ _ _ _ t_l0 hr
  · have hr := nk_ifn (c := l3 ≤ l5) hc hr
    refine nk_p (i := .aload_n 0) (len := 1) (pc' := 125) mJ_49 (by decide +kernel) (ns_aload_n 0 rfl rfl) rfl ?_
    refine nk_getC (f := (4, 0, 16512)) (x := 9) (len := 3) (ci := 10) (k := 0) (pc' := 128) ja_okT mJ_49 (by decide +kernel) (by decide +kernel) (by decide +kernel) (by decide) t_l0 rfl ?_
    have t1 : nk_ar ja_Tt (ja_c l0 0) = some (0, 16512) := nk_ta ja_okT t_l0 (by decide +kernel)
    refine nk_p (i := .iload 5) (len := 2) (pc' := 130) mJ_49 (by decide +kernel) (ns_iload 4 rfl) rfl ?_
    obtain ⟨h2, hr⟩ := nk_cke hr
    refine nk_bald (t := 0) (len := 1) (N := 16512) (pc' := 131) mJ_49 (by decide +kernel) t1 (by decide) h2.1 h2.2 rfl rfl ?_
    refine nk_p (i := .bipush 46) (len := 2) (pc' := 133) mJ_49 (by decide +kernel) (ns_bipush (c := 46) (by decide +kernel)) rfl ?_
    refine nk_icmp (c := .eq) (off := 9) (len := 3) (t := 142) (pc' := 136) mJ_49 (by decide +kernel) (by decide +kernel) rfl (fun hc => ?_) (fun hc => ?_)
    · have hr := nk_ifp (c := (S.1 (ja_c l0 0) l5.toNat) = 46) hc hr
      exact ja_X10_shapeOf_b142_ok zs _ _ _ _ _ _ _ t_l0 hr
    · have hr := nk_ifn (c := (S.1 (ja_c l0 0) l5.toNat) = 46) hc hr
      obtain ⟨v3, h4, hr⟩ := nk_lte hr
      refine nk_p (i := .iinc 5 1) (len := 3) (pc' := 139) mJ_49 (by decide +kernel) (ns_iinc (c := 1) (L' := [(5, nk_i v3), (0, nk_r l0), (1, nk_i l1), (2, nk_i l2), (3, nk_i l3)]) 4 rfl (by decide +kernel) h4 rfl (by decide +kernel)) rfl ?_
      refine nk_p (i := .goto (-21)) (len := 3) (pc' := 118) mJ_49 (by decide +kernel) (ns_goto (by decide +kernel)) rfl ?_
      refine nk_sub [1, 2, 3, 4, 0] (L' := [(0, nk_r l0), (1, nk_i l1), (2, nk_i l2), (3, nk_i l3), (5, nk_i v3)]) rfl ?_
      exact hrec118 _ _ _ _ _ _ _ t_l0 hr
noncomputable def ja_X10_shapeOf_L118 : Nat → Nat → Int → Int → Int → Int → nk_S → Option (Int × nk_S)
  | 0, _, _, _, _, _, _ => none
  | n + 1, l0, l1, l2, l3, l5, S => ja_X10_shapeOf_b118 (ja_X10_shapeOf_L118 n) l0 l1 l2 l3 l5 S
theorem ja_X10_shapeOf_L118_ok (zs : List Int32) : ∀ n : Nat, ∀ (l0 : Nat) (l1 : Int) (l2 : Int) (l3 : Int) (l5 : Int) (S : nk_S) (R : Int × nk_S), nk_cl ja_Tt l0 = some 10 → ja_X10_shapeOf_L118 n l0 l1 l2 l3 l5 S = some R → nk_K ja_Tt mi_Γ (mi_ev zs) 1 49 118 [(0, nk_r l0), (1, nk_i l1), (2, nk_i l2), (3, nk_i l3), (5, nk_i l5)] [] S R := by
  intro n
  induction n with
  | zero => intro _ _ _ _ _ _ _ _ hr; cases hr
  | succ n ih => intro l0 l1 l2 l3 l5 S R t_l0 hr; exact ja_X10_shapeOf_b118_ok zs ih l0 l1 l2 l3 l5 S R t_l0 hr
noncomputable def ja_X10_shapeOf (l0 : Nat) (l1 : Int) (S : nk_S) : Option (Int × nk_S) :=
  if 0 ≤ l1 ∧ l1 < 12288 then
  nk_lt (S.1 (ja_c l0 6) l1.toNat) fun v3 =>
  nk_lt (S.1 (ja_c l0 7) l1.toNat) fun v6 =>
  nk_bd (ja_X10_nameShape l0 v3 v6 S) fun r8 S9 =>
  if r8 = 0 then
    nk_bd (ja_X10_isNumber l0 v3 v6 S9) fun r11 S12 =>
    if r11 = 0 then
      if (nk_w (v6 - v3)) ≤ 2 then
        ja_X10_shapeOf_L118 nk_big l0 l1 v3 v6 v3 S12
      else
        if 0 ≤ (nk_w (v6 - 2)) ∧ (nk_w (v6 - 2)) < 16512 then
        if (S12.1 (ja_c l0 0) (nk_w (v6 - 2)).toNat) = 91 then
          if 0 ≤ (nk_w (v6 - 1)) ∧ (nk_w (v6 - 1)) < 16512 then
          if (S12.1 (ja_c l0 0) (nk_w (v6 - 1)).toNat) = 93 then
            nk_bd (ja_X10_nameShape l0 v3 (nk_w (v6 - 2)) S12) fun r17 S18 =>
            if r17 = 2 then
              nk_bd (ja_X10_keep l0 v3 (nk_w (v6 - 2)) S18) fun r21 S22 =>
              nk_lt (nk_wi S22 (ja_c l0 13) l1.toNat r21) fun S24 =>
              some (4, S24)
            else
              ja_X10_shapeOf_L118 nk_big l0 l1 v3 v6 v3 S18
          else
            ja_X10_shapeOf_L118 nk_big l0 l1 v3 v6 v3 S12
          else none
        else
          ja_X10_shapeOf_L118 nk_big l0 l1 v3 v6 v3 S12
        else none
    else
      nk_bd (ja_X10_numberAt l0 v3 v6 S12) fun r27 S28 =>
      nk_lt (nk_wi S28 (ja_c l0 13) l1.toNat (nk_w r27)) fun S30 =>
      some (3, S30)
  else
    some (r8, S9)
  else none
theorem ja_X10_shapeOf_ok (zs : List Int32) : ∀ (l0 : Nat) (l1 : Int) (S : nk_S) (R : Int × nk_S), nk_cl ja_Tt l0 = some 10 → ja_X10_shapeOf l0 l1 S = some R → nk_K ja_Tt mi_Γ (mi_ev zs) 1 49 0 [(0, nk_r l0), (1, nk_i l1)] [] S R := by
  intro l0 l1 S R t_l0 hr
  unfold ja_X10_shapeOf at hr
  refine nk_p (i := .aload_n 0) (len := 1) (pc' := 1) mJ_49 (by decide +kernel) (ns_aload_n 0 rfl rfl) rfl ?_
  refine nk_getC (f := (4, 1, 12288)) (x := 19) (len := 3) (ci := 10) (k := 6) (pc' := 4) ja_okT mJ_49 (by decide +kernel) (by decide +kernel) (by decide +kernel) (by decide) t_l0 rfl ?_
  have t1 : nk_ar ja_Tt (ja_c l0 6) = some (1, 12288) := nk_ta ja_okT t_l0 (by decide +kernel)
  refine nk_p (i := .iload_n 1) (len := 1) (pc' := 5) mJ_49 (by decide +kernel) (ns_iload_n 1 rfl rfl) rfl ?_
  obtain ⟨h2, hr⟩ := nk_cke hr
  refine nk_iald (len := 1) (N := 12288) (pc' := 6) mJ_49 (by decide +kernel) t1 h2.1 h2.2 rfl rfl ?_
  obtain ⟨v3, h4, hr⟩ := nk_lte hr
  refine nk_p (i := .istore_n 2) (len := 1) (pc' := 7) mJ_49 (by decide +kernel) (ns_istore_n (L' := [(2, nk_i v3), (0, nk_r l0), (1, nk_i l1)]) h4 rfl rfl (by decide +kernel)) rfl ?_
  refine nk_p (i := .aload_n 0) (len := 1) (pc' := 8) mJ_49 (by decide +kernel) (ns_aload_n 1 rfl rfl) rfl ?_
  refine nk_getC (f := (4, 1, 12288)) (x := 22) (len := 3) (ci := 10) (k := 7) (pc' := 11) ja_okT mJ_49 (by decide +kernel) (by decide +kernel) (by decide +kernel) (by decide) t_l0 rfl ?_
  have t5 : nk_ar ja_Tt (ja_c l0 7) = some (1, 12288) := nk_ta ja_okT t_l0 (by decide +kernel)
  refine nk_p (i := .iload_n 1) (len := 1) (pc' := 12) mJ_49 (by decide +kernel) (ns_iload_n 2 rfl rfl) rfl ?_
  refine nk_iald (len := 1) (N := 12288) (pc' := 13) mJ_49 (by decide +kernel) t5 h2.1 h2.2 rfl rfl ?_
  obtain ⟨v6, h7, hr⟩ := nk_lte hr
  refine nk_p (i := .istore_n 3) (len := 1) (pc' := 14) mJ_49 (by decide +kernel) (ns_istore_n (L' := [(3, nk_i v6), (2, nk_i v3), (0, nk_r l0), (1, nk_i l1)]) h7 rfl rfl (by decide +kernel)) rfl ?_
  refine nk_p (i := .aload_n 0) (len := 1) (pc' := 15) mJ_49 (by decide +kernel) (ns_aload_n 2 rfl rfl) rfl ?_
  refine nk_p (i := .iload_n 2) (len := 1) (pc' := 16) mJ_49 (by decide +kernel) (ns_iload_n 1 rfl rfl) rfl ?_
  refine nk_p (i := .iload_n 3) (len := 1) (pc' := 17) mJ_49 (by decide +kernel) (ns_iload_n 0 rfl rfl) rfl ?_
  obtain ⟨r8, S9, h10, hr⟩ := nk_bde hr
  refine nk_callV (ci := 10) (n := 2) (x := 123) (len := 3) (j' := 43) (q' := 1) (r := r8) (S' := S9) (L2 := [(0, nk_r l0), (1, nk_i v3), (2, nk_i v6)]) (rest := []) (st' := [nk_i r8]) (pc' := 20) mJ_49 (by decide +kernel) (by decide +kernel) rfl rfl t_l0 (Nat.le_of_ble_eq_true rfl) mJ_43 (Nat.le_of_ble_eq_true rfl) rfl (ja_X10_nameShape_ok zs _ _ _ _ _ t_l0 h10) rfl ?_
  refine nk_p (i := .istore 4) (len := 2) (pc' := 22) mJ_49 (by decide +kernel) (ns_istore (L' := [(4, nk_i r8), (3, nk_i v6), (2, nk_i v3), (0, nk_r l0), (1, nk_i l1)]) rfl rfl (by decide +kernel)) rfl ?_
  refine nk_p (i := .iload 4) (len := 2) (pc' := 24) mJ_49 (by decide +kernel) (ns_iload 0 rfl) rfl ?_
  refine nk_icond (c := .eq) (off := 6) (len := 3) (t := 30) (pc' := 27) mJ_49 (by decide +kernel) (by decide +kernel) rfl (fun hc => ?_) (fun hc => ?_)
  · have hr := nk_ifp (c := r8 = 0) hc hr
    refine nk_p (i := .aload_n 0) (len := 1) (pc' := 31) mJ_49 (by decide +kernel) (ns_aload_n 3 rfl rfl) rfl ?_
    refine nk_p (i := .iload_n 2) (len := 1) (pc' := 32) mJ_49 (by decide +kernel) (ns_iload_n 2 rfl rfl) rfl ?_
    refine nk_p (i := .iload_n 3) (len := 1) (pc' := 33) mJ_49 (by decide +kernel) (ns_iload_n 1 rfl rfl) rfl ?_
    obtain ⟨r11, S12, h13, hr⟩ := nk_bde hr
    refine nk_callV (ci := 10) (n := 2) (x := 126) (len := 3) (j' := 39) (q' := 1) (r := r11) (S' := S12) (L2 := [(0, nk_r l0), (1, nk_i v3), (2, nk_i v6)]) (rest := []) (st' := [nk_i r11]) (pc' := 36) mJ_49 (by decide +kernel) (by decide +kernel) rfl rfl t_l0 (Nat.le_of_ble_eq_true rfl) mJ_39 (Nat.le_of_ble_eq_true rfl) rfl (ja_X10_isNumber_ok zs _ _ _ _ _ t_l0 h13) rfl ?_
    refine nk_icond (c := .eq) (off := 18) (len := 3) (t := 54) (pc' := 39) mJ_49 (by decide +kernel) (by decide +kernel) rfl (fun hc => ?_) (fun hc => ?_)
    · have hr := nk_ifp (c := r11 = 0) hc hr
      refine nk_p (i := .iload_n 3) (len := 1) (pc' := 55) mJ_49 (by decide +kernel) (ns_iload_n 1 rfl rfl) rfl ?_
      refine nk_p (i := .iload_n 2) (len := 1) (pc' := 56) mJ_49 (by decide +kernel) (ns_iload_n 2 rfl rfl) rfl ?_
      refine nk_p (i := .isub) (len := 1) (pc' := 57) mJ_49 (by decide +kernel) ns_isub rfl ?_
      refine nk_p (i := .iconst 2) (len := 1) (pc' := 58) mJ_49 (by decide +kernel) (ns_iconst (c := 2) (by decide +kernel)) rfl ?_
      refine nk_icmp (c := .le) (off := 57) (len := 3) (t := 115) (pc' := 61) mJ_49 (by decide +kernel) (by decide +kernel) rfl (fun hc => ?_) (fun hc => ?_)
      · have hr := nk_ifp (c := (nk_w (v6 - v3)) ≤ 2) hc hr
        refine nk_p (i := .iload_n 2) (len := 1) (pc' := 116) mJ_49 (by decide +kernel) (ns_iload_n 2 rfl rfl) rfl ?_
        refine nk_p (i := .istore 5) (len := 2) (pc' := 118) mJ_49 (by decide +kernel) (ns_istore (L' := [(5, nk_i v3), (4, nk_i r8), (3, nk_i v6), (2, nk_i v3), (0, nk_r l0), (1, nk_i l1)]) rfl rfl (by decide +kernel)) rfl ?_
        refine nk_sub [4, 5, 3, 2, 0] (L' := [(0, nk_r l0), (1, nk_i l1), (2, nk_i v3), (3, nk_i v6), (5, nk_i v3)]) rfl ?_
        exact ja_X10_shapeOf_L118_ok zs nk_big _ _ _ _ _ _ _ t_l0 hr
      · have hr := nk_ifn (c := (nk_w (v6 - v3)) ≤ 2) hc hr
        refine nk_p (i := .aload_n 0) (len := 1) (pc' := 62) mJ_49 (by decide +kernel) (ns_aload_n 3 rfl rfl) rfl ?_
        refine nk_getC (f := (4, 0, 16512)) (x := 9) (len := 3) (ci := 10) (k := 0) (pc' := 65) ja_okT mJ_49 (by decide +kernel) (by decide +kernel) (by decide +kernel) (by decide) t_l0 rfl ?_
        have t14 : nk_ar ja_Tt (ja_c l0 0) = some (0, 16512) := nk_ta ja_okT t_l0 (by decide +kernel)
        refine nk_p (i := .iload_n 3) (len := 1) (pc' := 66) mJ_49 (by decide +kernel) (ns_iload_n 1 rfl rfl) rfl ?_
        refine nk_p (i := .iconst 2) (len := 1) (pc' := 67) mJ_49 (by decide +kernel) (ns_iconst (c := 2) (by decide +kernel)) rfl ?_
        refine nk_p (i := .isub) (len := 1) (pc' := 68) mJ_49 (by decide +kernel) ns_isub rfl ?_
        obtain ⟨h15, hr⟩ := nk_cke hr
        refine nk_bald (t := 0) (len := 1) (N := 16512) (pc' := 69) mJ_49 (by decide +kernel) t14 (by decide) h15.1 h15.2 rfl rfl ?_
        refine nk_p (i := .bipush 91) (len := 2) (pc' := 71) mJ_49 (by decide +kernel) (ns_bipush (c := 91) (by decide +kernel)) rfl ?_
        refine nk_icmp (c := .ne) (off := 44) (len := 3) (t := 115) (pc' := 74) mJ_49 (by decide +kernel) (by decide +kernel) rfl (fun hc => ?_) (fun hc => ?_)
        · have hr := nk_ifn (c := (S12.1 (ja_c l0 0) (nk_w (v6 - 2)).toNat) = 91) hc hr
          refine nk_p (i := .iload_n 2) (len := 1) (pc' := 116) mJ_49 (by decide +kernel) (ns_iload_n 2 rfl rfl) rfl ?_
          refine nk_p (i := .istore 5) (len := 2) (pc' := 118) mJ_49 (by decide +kernel) (ns_istore (L' := [(5, nk_i v3), (4, nk_i r8), (3, nk_i v6), (2, nk_i v3), (0, nk_r l0), (1, nk_i l1)]) rfl rfl (by decide +kernel)) rfl ?_
          refine nk_sub [4, 5, 3, 2, 0] (L' := [(0, nk_r l0), (1, nk_i l1), (2, nk_i v3), (3, nk_i v6), (5, nk_i v3)]) rfl ?_
          exact ja_X10_shapeOf_L118_ok zs nk_big _ _ _ _ _ _ _ t_l0 hr
        · have hr := nk_ifp (c := (S12.1 (ja_c l0 0) (nk_w (v6 - 2)).toNat) = 91) (Decidable.of_not_not hc) hr
          refine nk_p (i := .aload_n 0) (len := 1) (pc' := 75) mJ_49 (by decide +kernel) (ns_aload_n 3 rfl rfl) rfl ?_
          refine nk_getC (f := (4, 0, 16512)) (x := 9) (len := 3) (ci := 10) (k := 0) (pc' := 78) ja_okT mJ_49 (by decide +kernel) (by decide +kernel) (by decide +kernel) (by decide) t_l0 rfl ?_
          refine nk_p (i := .iload_n 3) (len := 1) (pc' := 79) mJ_49 (by decide +kernel) (ns_iload_n 1 rfl rfl) rfl ?_
          refine nk_p (i := .iconst 1) (len := 1) (pc' := 80) mJ_49 (by decide +kernel) (ns_iconst (c := 1) (by decide +kernel)) rfl ?_
          refine nk_p (i := .isub) (len := 1) (pc' := 81) mJ_49 (by decide +kernel) ns_isub rfl ?_
          obtain ⟨h16, hr⟩ := nk_cke hr
          refine nk_bald (t := 0) (len := 1) (N := 16512) (pc' := 82) mJ_49 (by decide +kernel) t14 (by decide) h16.1 h16.2 rfl rfl ?_
          refine nk_p (i := .bipush 93) (len := 2) (pc' := 84) mJ_49 (by decide +kernel) (ns_bipush (c := 93) (by decide +kernel)) rfl ?_
          refine nk_icmp (c := .ne) (off := 31) (len := 3) (t := 115) (pc' := 87) mJ_49 (by decide +kernel) (by decide +kernel) rfl (fun hc => ?_) (fun hc => ?_)
          · have hr := nk_ifn (c := (S12.1 (ja_c l0 0) (nk_w (v6 - 1)).toNat) = 93) hc hr
            refine nk_p (i := .iload_n 2) (len := 1) (pc' := 116) mJ_49 (by decide +kernel) (ns_iload_n 2 rfl rfl) rfl ?_
            refine nk_p (i := .istore 5) (len := 2) (pc' := 118) mJ_49 (by decide +kernel) (ns_istore (L' := [(5, nk_i v3), (4, nk_i r8), (3, nk_i v6), (2, nk_i v3), (0, nk_r l0), (1, nk_i l1)]) rfl rfl (by decide +kernel)) rfl ?_
            refine nk_sub [4, 5, 3, 2, 0] (L' := [(0, nk_r l0), (1, nk_i l1), (2, nk_i v3), (3, nk_i v6), (5, nk_i v3)]) rfl ?_
            exact ja_X10_shapeOf_L118_ok zs nk_big _ _ _ _ _ _ _ t_l0 hr
          · have hr := nk_ifp (c := (S12.1 (ja_c l0 0) (nk_w (v6 - 1)).toNat) = 93) (Decidable.of_not_not hc) hr
            refine nk_p (i := .aload_n 0) (len := 1) (pc' := 88) mJ_49 (by decide +kernel) (ns_aload_n 3 rfl rfl) rfl ?_
            refine nk_p (i := .iload_n 2) (len := 1) (pc' := 89) mJ_49 (by decide +kernel) (ns_iload_n 2 rfl rfl) rfl ?_
            refine nk_p (i := .iload_n 3) (len := 1) (pc' := 90) mJ_49 (by decide +kernel) (ns_iload_n 1 rfl rfl) rfl ?_
            refine nk_p (i := .iconst 2) (len := 1) (pc' := 91) mJ_49 (by decide +kernel) (ns_iconst (c := 2) (by decide +kernel)) rfl ?_
            refine nk_p (i := .isub) (len := 1) (pc' := 92) mJ_49 (by decide +kernel) ns_isub rfl ?_
            obtain ⟨r17, S18, h19, hr⟩ := nk_bde hr
            refine nk_callV (ci := 10) (n := 2) (x := 123) (len := 3) (j' := 43) (q' := 1) (r := r17) (S' := S18) (L2 := [(0, nk_r l0), (1, nk_i v3), (2, nk_i (nk_w (v6 - 2)))]) (rest := []) (st' := [nk_i r17]) (pc' := 95) mJ_49 (by decide +kernel) (by decide +kernel) rfl rfl t_l0 (Nat.le_of_ble_eq_true rfl) mJ_43 (Nat.le_of_ble_eq_true rfl) rfl (ja_X10_nameShape_ok zs _ _ _ _ _ t_l0 h19) rfl ?_
            refine nk_p (i := .iconst 2) (len := 1) (pc' := 96) mJ_49 (by decide +kernel) (ns_iconst (c := 2) (by decide +kernel)) rfl ?_
            refine nk_icmp (c := .ne) (off := 19) (len := 3) (t := 115) (pc' := 99) mJ_49 (by decide +kernel) (by decide +kernel) rfl (fun hc => ?_) (fun hc => ?_)
            · have hr := nk_ifn (c := r17 = 2) hc hr
              refine nk_p (i := .iload_n 2) (len := 1) (pc' := 116) mJ_49 (by decide +kernel) (ns_iload_n 2 rfl rfl) rfl ?_
              refine nk_p (i := .istore 5) (len := 2) (pc' := 118) mJ_49 (by decide +kernel) (ns_istore (L' := [(5, nk_i v3), (4, nk_i r8), (3, nk_i v6), (2, nk_i v3), (0, nk_r l0), (1, nk_i l1)]) rfl rfl (by decide +kernel)) rfl ?_
              refine nk_sub [4, 5, 3, 2, 0] (L' := [(0, nk_r l0), (1, nk_i l1), (2, nk_i v3), (3, nk_i v6), (5, nk_i v3)]) rfl ?_
              exact ja_X10_shapeOf_L118_ok zs nk_big _ _ _ _ _ _ _ t_l0 hr
            · have hr := nk_ifp (c := r17 = 2) (Decidable.of_not_not hc) hr
              refine nk_p (i := .aload_n 0) (len := 1) (pc' := 100) mJ_49 (by decide +kernel) (ns_aload_n 3 rfl rfl) rfl ?_
              refine nk_getC (f := (4, 1, 12288)) (x := 34) (len := 3) (ci := 10) (k := 13) (pc' := 103) ja_okT mJ_49 (by decide +kernel) (by decide +kernel) (by decide +kernel) (by decide) t_l0 rfl ?_
              have t20 : nk_ar ja_Tt (ja_c l0 13) = some (1, 12288) := nk_ta ja_okT t_l0 (by decide +kernel)
              refine nk_p (i := .iload_n 1) (len := 1) (pc' := 104) mJ_49 (by decide +kernel) (ns_iload_n 4 rfl rfl) rfl ?_
              refine nk_p (i := .aload_n 0) (len := 1) (pc' := 105) mJ_49 (by decide +kernel) (ns_aload_n 3 rfl rfl) rfl ?_
              refine nk_p (i := .iload_n 2) (len := 1) (pc' := 106) mJ_49 (by decide +kernel) (ns_iload_n 2 rfl rfl) rfl ?_
              refine nk_p (i := .iload_n 3) (len := 1) (pc' := 107) mJ_49 (by decide +kernel) (ns_iload_n 1 rfl rfl) rfl ?_
              refine nk_p (i := .iconst 2) (len := 1) (pc' := 108) mJ_49 (by decide +kernel) (ns_iconst (c := 2) (by decide +kernel)) rfl ?_
              refine nk_p (i := .isub) (len := 1) (pc' := 109) mJ_49 (by decide +kernel) ns_isub rfl ?_
              obtain ⟨r21, S22, h23, hr⟩ := nk_bde hr
              refine nk_callV (ci := 10) (n := 2) (x := 111) (len := 3) (j' := 42) (q' := 1) (r := r21) (S' := S22) (L2 := [(0, nk_r l0), (1, nk_i v3), (2, nk_i (nk_w (v6 - 2)))]) (rest := [nk_i l1, nk_r (ja_c l0 13)]) (st' := [nk_i r21, nk_i l1, nk_r (ja_c l0 13)]) (pc' := 112) mJ_49 (by decide +kernel) (by decide +kernel) rfl rfl t_l0 (Nat.le_of_ble_eq_true rfl) mJ_42 (Nat.le_of_ble_eq_true rfl) rfl (ja_X10_keep_ok zs _ _ _ _ _ t_l0 h23) rfl ?_
              obtain ⟨S24, h25, hr⟩ := nk_lte hr
              refine nk_iast (len := 1) (N := 12288) (pc' := 113) mJ_49 (by decide +kernel) t20 h2.1 h2.2 rfl rfl h25 ?_
              refine nk_p (i := .iconst 4) (len := 1) (pc' := 114) mJ_49 (by decide +kernel) (ns_iconst (c := 4) (by decide +kernel)) rfl ?_
              cases hr
              exact nk_iret (ty := .int) (len := 1) mJ_49 (by decide +kernel) rfl (nk_nar_i _)
    · have hr := nk_ifn (c := r11 = 0) hc hr
      refine nk_p (i := .aload_n 0) (len := 1) (pc' := 40) mJ_49 (by decide +kernel) (ns_aload_n 3 rfl rfl) rfl ?_
      refine nk_getC (f := (4, 1, 12288)) (x := 34) (len := 3) (ci := 10) (k := 13) (pc' := 43) ja_okT mJ_49 (by decide +kernel) (by decide +kernel) (by decide +kernel) (by decide) t_l0 rfl ?_
      have t26 : nk_ar ja_Tt (ja_c l0 13) = some (1, 12288) := nk_ta ja_okT t_l0 (by decide +kernel)
      refine nk_p (i := .iload_n 1) (len := 1) (pc' := 44) mJ_49 (by decide +kernel) (ns_iload_n 4 rfl rfl) rfl ?_
      refine nk_p (i := .aload_n 0) (len := 1) (pc' := 45) mJ_49 (by decide +kernel) (ns_aload_n 3 rfl rfl) rfl ?_
      refine nk_p (i := .iload_n 2) (len := 1) (pc' := 46) mJ_49 (by decide +kernel) (ns_iload_n 2 rfl rfl) rfl ?_
      refine nk_p (i := .iload_n 3) (len := 1) (pc' := 47) mJ_49 (by decide +kernel) (ns_iload_n 1 rfl rfl) rfl ?_
      obtain ⟨r27, S28, h29, hr⟩ := nk_bde hr
      refine nk_callV (ci := 10) (n := 2) (x := 129) (len := 3) (j' := 44) (q' := 2) (r := r27) (S' := S28) (L2 := [(0, nk_r l0), (1, nk_i v3), (2, nk_i v6)]) (rest := [nk_i l1, nk_r (ja_c l0 13)]) (st' := [nk_l r27, nk_i l1, nk_r (ja_c l0 13)]) (pc' := 50) mJ_49 (by decide +kernel) (by decide +kernel) rfl rfl t_l0 (Nat.le_of_ble_eq_true rfl) mJ_44 (Nat.le_of_ble_eq_true rfl) rfl (ja_X10_numberAt_ok zs _ _ _ _ _ t_l0 h29) rfl ?_
      refine nk_p (i := .l2i) (len := 1) (pc' := 51) mJ_49 (by decide +kernel) ns_l2i rfl ?_
      obtain ⟨S30, h31, hr⟩ := nk_lte hr
      refine nk_iast (len := 1) (N := 12288) (pc' := 52) mJ_49 (by decide +kernel) t26 h2.1 h2.2 rfl rfl h31 ?_
      refine nk_p (i := .iconst 3) (len := 1) (pc' := 53) mJ_49 (by decide +kernel) (ns_iconst (c := 3) (by decide +kernel)) rfl ?_
      cases hr
      exact nk_iret (ty := .int) (len := 1) mJ_49 (by decide +kernel) rfl (nk_nar_i _)
  · have hr := nk_ifn (c := r8 = 0) hc hr
    refine nk_p (i := .iload 4) (len := 2) (pc' := 29) mJ_49 (by decide +kernel) (ns_iload 0 rfl) rfl ?_
    cases hr
    exact nk_iret (ty := .int) (len := 1) mJ_49 (by decide +kernel) rfl (nk_nar_i _)
/-! SafeCode$Words shapeWords (I)V -/
noncomputable def ja_X10_shapeWords_b2 (rec2 : Nat → Int → nk_S → Option (Int × nk_S)) (l0 : Nat) (l2 : Int) (S : nk_S) : Option (Int × nk_S) :=
  if 12288 ≤ l2 then
    some (0, S)
  else
    if (S.1 l0 5) ≤ l2 then
      some (0, S)
    else
      if 0 ≤ l2 ∧ l2 < 12288 then
      nk_lt (nk_wi S (ja_c l0 13) l2.toNat (-1)) fun S3 =>
      nk_lt (nk_wi S3 (ja_c l0 14) l2.toNat (-1)) fun S6 =>
      nk_bd (ja_X10_shapeOf l0 l2 S6) fun r9 S10 =>
      nk_lt (nk_wi S10 (ja_c l0 12) l2.toNat (nk_i2b (nk_i2b r9))) fun S12 =>
      nk_lt (nk_w (l2 + 1)) fun v14 =>
      rec2 l0 v14 S12
      else none
theorem ja_X10_shapeWords_b2_ok (zs : List Int32) {rec2 : Nat → Int → nk_S → Option (Int × nk_S)} (hrec2 : ∀ (l0 : Nat) (l2 : Int) (S : nk_S) (R : Int × nk_S), nk_cl ja_Tt l0 = some 10 → rec2 l0 l2 S = some R → nk_K ja_Tt mi_Γ (mi_ev zs) 0 50 2 [(0, nk_r l0), (2, nk_i l2)] [] S R) : ∀ (l0 : Nat) (l2 : Int) (S : nk_S) (R : Int × nk_S), nk_cl ja_Tt l0 = some 10 → ja_X10_shapeWords_b2 rec2 l0 l2 S = some R → nk_K ja_Tt mi_Γ (mi_ev zs) 0 50 2 [(0, nk_r l0), (2, nk_i l2)] [] S R := by
  intro l0 l2 S R t_l0 hr
  unfold ja_X10_shapeWords_b2 at hr
  refine nk_p (i := .iload_n 2) (len := 1) (pc' := 3) mJ_50 (by decide +kernel) (ns_iload_n 1 rfl rfl) rfl ?_
  refine nk_p (i := .sipush 12288) (len := 3) (pc' := 6) mJ_50 (by decide +kernel) (ns_sipush (c := 12288) (by decide +kernel)) rfl ?_
  refine nk_icmp (c := .ge) (off := 43) (len := 3) (t := 49) (pc' := 9) mJ_50 (by decide +kernel) (by decide +kernel) rfl (fun hc => ?_) (fun hc => ?_)
  · have hr := nk_ifp (c := 12288 ≤ l2) hc hr
    cases hr
    exact nk_vret (len := 1) mJ_50 (by decide +kernel) rfl
  · have hr := nk_ifn (c := 12288 ≤ l2) hc hr
    refine nk_p (i := .iload_n 2) (len := 1) (pc' := 10) mJ_50 (by decide +kernel) (ns_iload_n 1 rfl rfl) rfl ?_
    refine nk_p (i := .aload_n 0) (len := 1) (pc' := 11) mJ_50 (by decide +kernel) (ns_aload_n 0 rfl rfl) rfl ?_
    refine nk_getI (y := (0, 0)) (x := 71) (len := 3) (ci := 10) (k := 5) (pc' := 14) ja_okT mJ_50 (by decide +kernel) (by decide +kernel) (by decide +kernel) t_l0 rfl ?_
    refine nk_icmp (c := .ge) (off := 35) (len := 3) (t := 49) (pc' := 17) mJ_50 (by decide +kernel) (by decide +kernel) rfl (fun hc => ?_) (fun hc => ?_)
    · have hr := nk_ifp (c := (S.1 l0 5) ≤ l2) hc hr
      cases hr
      exact nk_vret (len := 1) mJ_50 (by decide +kernel) rfl
    · have hr := nk_ifn (c := (S.1 l0 5) ≤ l2) hc hr
      refine nk_p (i := .aload_n 0) (len := 1) (pc' := 18) mJ_50 (by decide +kernel) (ns_aload_n 0 rfl rfl) rfl ?_
      refine nk_getC (f := (4, 1, 12288)) (x := 34) (len := 3) (ci := 10) (k := 13) (pc' := 21) ja_okT mJ_50 (by decide +kernel) (by decide +kernel) (by decide +kernel) (by decide) t_l0 rfl ?_
      have t1 : nk_ar ja_Tt (ja_c l0 13) = some (1, 12288) := nk_ta ja_okT t_l0 (by decide +kernel)
      refine nk_p (i := .iload_n 2) (len := 1) (pc' := 22) mJ_50 (by decide +kernel) (ns_iload_n 1 rfl rfl) rfl ?_
      refine nk_p (i := .iconst (-1)) (len := 1) (pc' := 23) mJ_50 (by decide +kernel) (ns_iconst (c := (-1)) (by decide +kernel)) rfl ?_
      obtain ⟨h2, hr⟩ := nk_cke hr
      obtain ⟨S3, h4, hr⟩ := nk_lte hr
      refine nk_iast (len := 1) (N := 12288) (pc' := 24) mJ_50 (by decide +kernel) t1 h2.1 h2.2 rfl rfl h4 ?_
      refine nk_p (i := .aload_n 0) (len := 1) (pc' := 25) mJ_50 (by decide +kernel) (ns_aload_n 0 rfl rfl) rfl ?_
      refine nk_getC (f := (4, 1, 12288)) (x := 37) (len := 3) (ci := 10) (k := 14) (pc' := 28) ja_okT mJ_50 (by decide +kernel) (by decide +kernel) (by decide +kernel) (by decide) t_l0 rfl ?_
      have t5 : nk_ar ja_Tt (ja_c l0 14) = some (1, 12288) := nk_ta ja_okT t_l0 (by decide +kernel)
      refine nk_p (i := .iload_n 2) (len := 1) (pc' := 29) mJ_50 (by decide +kernel) (ns_iload_n 1 rfl rfl) rfl ?_
      refine nk_p (i := .iconst (-1)) (len := 1) (pc' := 30) mJ_50 (by decide +kernel) (ns_iconst (c := (-1)) (by decide +kernel)) rfl ?_
      obtain ⟨S6, h7, hr⟩ := nk_lte hr
      refine nk_iast (len := 1) (N := 12288) (pc' := 31) mJ_50 (by decide +kernel) t5 h2.1 h2.2 rfl rfl h7 ?_
      refine nk_p (i := .aload_n 0) (len := 1) (pc' := 32) mJ_50 (by decide +kernel) (ns_aload_n 0 rfl rfl) rfl ?_
      refine nk_getC (f := (4, 0, 12288)) (x := 31) (len := 3) (ci := 10) (k := 12) (pc' := 35) ja_okT mJ_50 (by decide +kernel) (by decide +kernel) (by decide +kernel) (by decide) t_l0 rfl ?_
      have t8 : nk_ar ja_Tt (ja_c l0 12) = some (0, 12288) := nk_ta ja_okT t_l0 (by decide +kernel)
      refine nk_p (i := .iload_n 2) (len := 1) (pc' := 36) mJ_50 (by decide +kernel) (ns_iload_n 1 rfl rfl) rfl ?_
      refine nk_p (i := .aload_n 0) (len := 1) (pc' := 37) mJ_50 (by decide +kernel) (ns_aload_n 0 rfl rfl) rfl ?_
      refine nk_p (i := .iload_n 2) (len := 1) (pc' := 38) mJ_50 (by decide +kernel) (ns_iload_n 1 rfl rfl) rfl ?_
      obtain ⟨r9, S10, h11, hr⟩ := nk_bde hr
      refine nk_callV (ci := 10) (n := 1) (x := 119) (len := 3) (j' := 49) (q' := 1) (r := r9) (S' := S10) (L2 := [(0, nk_r l0), (1, nk_i l2)]) (rest := [nk_i l2, nk_r (ja_c l0 12)]) (st' := [nk_i r9, nk_i l2, nk_r (ja_c l0 12)]) (pc' := 41) mJ_50 (by decide +kernel) (by decide +kernel) rfl rfl t_l0 (Nat.le_of_ble_eq_true rfl) mJ_49 (Nat.le_of_ble_eq_true rfl) rfl (ja_X10_shapeOf_ok zs _ _ _ _ t_l0 h11) rfl ?_
      refine nk_p (i := .i2b) (len := 1) (pc' := 42) mJ_50 (by decide +kernel) ns_i2b rfl ?_
      obtain ⟨S12, h13, hr⟩ := nk_lte hr
      refine nk_bast (len := 1) (N := 12288) (pc' := 43) mJ_50 (by decide +kernel) t8 h2.1 h2.2 rfl rfl h13 ?_
      obtain ⟨v14, h15, hr⟩ := nk_lte hr
      refine nk_p (i := .iinc 2 1) (len := 3) (pc' := 46) mJ_50 (by decide +kernel) (ns_iinc (c := 1) (L' := [(2, nk_i v14), (0, nk_r l0)]) 1 rfl (by decide +kernel) h15 rfl (by decide +kernel)) rfl ?_
      refine nk_p (i := .goto (-44)) (len := 3) (pc' := 2) mJ_50 (by decide +kernel) (ns_goto (by decide +kernel)) rfl ?_
      refine nk_sub [1, 0] (L' := [(0, nk_r l0), (2, nk_i v14)]) rfl ?_
      exact hrec2 _ _ _ _ t_l0 hr
noncomputable def ja_X10_shapeWords_L2 : Nat → Nat → Int → nk_S → Option (Int × nk_S)
  | 0, _, _, _ => none
  | n + 1, l0, l2, S => ja_X10_shapeWords_b2 (ja_X10_shapeWords_L2 n) l0 l2 S
theorem ja_X10_shapeWords_L2_ok (zs : List Int32) : ∀ n : Nat, ∀ (l0 : Nat) (l2 : Int) (S : nk_S) (R : Int × nk_S), nk_cl ja_Tt l0 = some 10 → ja_X10_shapeWords_L2 n l0 l2 S = some R → nk_K ja_Tt mi_Γ (mi_ev zs) 0 50 2 [(0, nk_r l0), (2, nk_i l2)] [] S R := by
  intro n
  induction n with
  | zero => intro _ _ _ _ _ hr; cases hr
  | succ n ih => intro l0 l2 S R t_l0 hr; exact ja_X10_shapeWords_b2_ok zs ih l0 l2 S R t_l0 hr
noncomputable def ja_X10_shapeWords (l0 : Nat) (l1 : Int) (S : nk_S) : Option (Int × nk_S) :=
  ja_X10_shapeWords_L2 nk_big l0 l1 S
theorem ja_X10_shapeWords_ok (zs : List Int32) : ∀ (l0 : Nat) (l1 : Int) (S : nk_S) (R : Int × nk_S), nk_cl ja_Tt l0 = some 10 → ja_X10_shapeWords l0 l1 S = some R → nk_K ja_Tt mi_Γ (mi_ev zs) 0 50 0 [(0, nk_r l0), (1, nk_i l1)] [] S R := by
  intro l0 l1 S R t_l0 hr
  unfold ja_X10_shapeWords at hr
  refine nk_p (i := .iload_n 1) (len := 1) (pc' := 1) mJ_50 (by decide +kernel) (ns_iload_n 1 rfl rfl) rfl ?_
  refine nk_p (i := .istore_n 2) (len := 1) (pc' := 2) mJ_50 (by decide +kernel) (ns_istore_n (L' := [(2, nk_i l1), (0, nk_r l0), (1, nk_i l1)]) rfl rfl rfl (by decide +kernel)) rfl ?_
  refine nk_sub [1, 0] (L' := [(0, nk_r l0), (2, nk_i l1)]) rfl ?_
  exact ja_X10_shapeWords_L2_ok zs nk_big _ _ _ _ t_l0 hr
/-! SafeCode$Words cutText ()Z -/
noncomputable def ja_X10_cutText (l0 : Nat) (S : nk_S) : Option (Int × nk_S) :=
  if 0 ≤ (0 : Int) ∧ 0 ≤ (0 : Int) ∧ 0 ≤ (1024 : Int) ∧ (0 : Int) + (1024 : Int) ≤ 1024 ∧ (0 : Int) + (1024 : Int) ≤ 1024 then
  nk_lt (nk_cp S (ja_c l0 11) 0 (ja_c l0 9) 0 1024) fun S4 =>
  nk_lt (nk_wi S4 l0 5 (S4.1 l0 10)) fun S6 =>
  nk_lt (nk_wi S6 l0 4 0) fun S8 =>
  nk_bd (ja_X10_cut l0 (S8.1 l0 1) (S8.1 l0 2) S8) fun r10 S11 =>
  nk_lt (nk_wi S11 l0 2 (S11.1 l0 1)) fun S13 =>
  if r10 = 0 then
    if r10 = 0 ∨ r10 = 1 then
    some (r10, S13)
    else none
  else
    nk_bd (ja_X10_forgetMeanings l0 S13) fun r16 S17 =>
    nk_bd (ja_X10_shapeWords l0 (S17.1 l0 10) S17) fun r19 S20 =>
    if r10 = 0 ∨ r10 = 1 then
    some (r10, S20)
    else none
  else none
theorem ja_X10_cutText_ok (zs : List Int32) : ∀ (l0 : Nat) (S : nk_S) (R : Int × nk_S), nk_cl ja_Tt l0 = some 10 → ja_X10_cutText l0 S = some R → nk_K ja_Tt mi_Γ (mi_ev zs) 1 34 0 [(0, nk_r l0)] [] S R := by
  intro l0 S R t_l0 hr
  unfold ja_X10_cutText at hr
  refine nk_p (i := .aload_n 0) (len := 1) (pc' := 1) mJ_34 (by decide +kernel) (ns_aload_n 0 rfl rfl) rfl ?_
  refine nk_getC (f := (4, 1, 1024)) (x := 82) (len := 3) (ci := 10) (k := 11) (pc' := 4) ja_okT mJ_34 (by decide +kernel) (by decide +kernel) (by decide +kernel) (by decide) t_l0 rfl ?_
  have t1 : nk_ar ja_Tt (ja_c l0 11) = some (1, 1024) := nk_ta ja_okT t_l0 (by decide +kernel)
  refine nk_p (i := .iconst 0) (len := 1) (pc' := 5) mJ_34 (by decide +kernel) (ns_iconst (c := 0) (by decide +kernel)) rfl ?_
  refine nk_p (i := .aload_n 0) (len := 1) (pc' := 6) mJ_34 (by decide +kernel) (ns_aload_n 0 rfl rfl) rfl ?_
  refine nk_getC (f := (4, 1, 1024)) (x := 28) (len := 3) (ci := 10) (k := 9) (pc' := 9) ja_okT mJ_34 (by decide +kernel) (by decide +kernel) (by decide +kernel) (by decide) t_l0 rfl ?_
  have t2 : nk_ar ja_Tt (ja_c l0 9) = some (1, 1024) := nk_ta ja_okT t_l0 (by decide +kernel)
  refine nk_p (i := .iconst 0) (len := 1) (pc' := 10) mJ_34 (by decide +kernel) (ns_iconst (c := 0) (by decide +kernel)) rfl ?_
  refine nk_p (i := .sipush 1024) (len := 3) (pc' := 13) mJ_34 (by decide +kernel) (ns_sipush (c := 1024) (by decide +kernel)) rfl ?_
  obtain ⟨h3, hr⟩ := nk_cke hr
  obtain ⟨S4, h5, hr⟩ := nk_lte hr
  refine nk_copy (x := 95) (len := 3) (t := 1) (N0 := 1024) (N1 := 1024) (q1 := 9999) (q2 := 0) (q3 := 0) (pc' := 16) mJ_34 (by decide +kernel) (by decide +kernel) t1 t2 h3.1 h3.2.1 h3.2.2.1 h3.2.2.2.1 h3.2.2.2.2 rfl rfl (Nat.le_of_ble_eq_true rfl) rfl h5 ?_
  refine nk_p (i := .aload_n 0) (len := 1) (pc' := 17) mJ_34 (by decide +kernel) (ns_aload_n 0 rfl rfl) rfl ?_
  refine nk_p (i := .aload_n 0) (len := 1) (pc' := 18) mJ_34 (by decide +kernel) (ns_aload_n 0 rfl rfl) rfl ?_
  refine nk_getI (y := (0, 0)) (x := 74) (len := 3) (ci := 10) (k := 10) (pc' := 21) ja_okT mJ_34 (by decide +kernel) (by decide +kernel) (by decide +kernel) t_l0 rfl ?_
  obtain ⟨S6, h7, hr⟩ := nk_lte hr
  refine nk_putI (y := (0, 0)) (ty := .int) (x := 71) (len := 3) (ci := 10) (k := 5) (pc' := 24) ja_okT mJ_34 (by decide +kernel) (by decide +kernel) (by decide +kernel) t_l0 (Or.inl rfl) rfl h7 ?_
  refine nk_p (i := .aload_n 0) (len := 1) (pc' := 25) mJ_34 (by decide +kernel) (ns_aload_n 0 rfl rfl) rfl ?_
  refine nk_p (i := .iconst 0) (len := 1) (pc' := 26) mJ_34 (by decide +kernel) (ns_iconst (c := 0) (by decide +kernel)) rfl ?_
  obtain ⟨S8, h9, hr⟩ := nk_lte hr
  refine nk_putI (y := (0, 0)) (ty := .int) (x := 101) (len := 3) (ci := 10) (k := 4) (pc' := 29) ja_okT mJ_34 (by decide +kernel) (by decide +kernel) (by decide +kernel) t_l0 (Or.inl rfl) rfl h9 ?_
  refine nk_p (i := .aload_n 0) (len := 1) (pc' := 30) mJ_34 (by decide +kernel) (ns_aload_n 0 rfl rfl) rfl ?_
  refine nk_p (i := .aload_n 0) (len := 1) (pc' := 31) mJ_34 (by decide +kernel) (ns_aload_n 0 rfl rfl) rfl ?_
  refine nk_getI (y := (0, 0)) (x := 50) (len := 3) (ci := 10) (k := 1) (pc' := 34) ja_okT mJ_34 (by decide +kernel) (by decide +kernel) (by decide +kernel) t_l0 rfl ?_
  refine nk_p (i := .aload_n 0) (len := 1) (pc' := 35) mJ_34 (by decide +kernel) (ns_aload_n 0 rfl rfl) rfl ?_
  refine nk_getI (y := (0, 0)) (x := 54) (len := 3) (ci := 10) (k := 2) (pc' := 38) ja_okT mJ_34 (by decide +kernel) (by decide +kernel) (by decide +kernel) t_l0 rfl ?_
  obtain ⟨r10, S11, h12, hr⟩ := nk_bde hr
  refine nk_callV (ci := 10) (n := 2) (x := 63) (len := 3) (j' := 33) (q' := 1) (r := r10) (S' := S11) (L2 := [(0, nk_r l0), (1, nk_i (S8.1 l0 1)), (2, nk_i (S8.1 l0 2))]) (rest := []) (st' := [nk_i r10]) (pc' := 41) mJ_34 (by decide +kernel) (by decide +kernel) rfl rfl t_l0 (Nat.le_of_ble_eq_true rfl) mJ_33 (Nat.le_of_ble_eq_true rfl) rfl (ja_X10_cut_ok zs _ _ _ _ _ t_l0 h12) rfl ?_
  refine nk_p (i := .istore_n 1) (len := 1) (pc' := 42) mJ_34 (by decide +kernel) (ns_istore_n (L' := [(1, nk_i r10), (0, nk_r l0)]) rfl rfl rfl (by decide +kernel)) rfl ?_
  refine nk_p (i := .aload_n 0) (len := 1) (pc' := 43) mJ_34 (by decide +kernel) (ns_aload_n 1 rfl rfl) rfl ?_
  refine nk_p (i := .aload_n 0) (len := 1) (pc' := 44) mJ_34 (by decide +kernel) (ns_aload_n 1 rfl rfl) rfl ?_
  refine nk_getI (y := (0, 0)) (x := 50) (len := 3) (ci := 10) (k := 1) (pc' := 47) ja_okT mJ_34 (by decide +kernel) (by decide +kernel) (by decide +kernel) t_l0 rfl ?_
  obtain ⟨S13, h14, hr⟩ := nk_lte hr
  refine nk_putI (y := (0, 0)) (ty := .int) (x := 54) (len := 3) (ci := 10) (k := 2) (pc' := 50) ja_okT mJ_34 (by decide +kernel) (by decide +kernel) (by decide +kernel) t_l0 (Or.inl rfl) rfl h14 ?_
  refine nk_p (i := .iload_n 1) (len := 1) (pc' := 51) mJ_34 (by decide +kernel) (ns_iload_n 0 rfl rfl) rfl ?_
  refine nk_icond (c := .eq) (off := 15) (len := 3) (t := 66) (pc' := 54) mJ_34 (by decide +kernel) (by decide +kernel) rfl (fun hc => ?_) (fun hc => ?_)
  · have hr := nk_ifp (c := r10 = 0) hc hr
    refine nk_p (i := .iload_n 1) (len := 1) (pc' := 67) mJ_34 (by decide +kernel) (ns_iload_n 0 rfl rfl) rfl ?_
    obtain ⟨h15, hr⟩ := nk_cke hr
    cases hr
    exact nk_iret (ty := .boolean) (len := 1) mJ_34 (by decide +kernel) rfl (nk_nar_z h15)
  · have hr := nk_ifn (c := r10 = 0) hc hr
    refine nk_p (i := .aload_n 0) (len := 1) (pc' := 55) mJ_34 (by decide +kernel) (ns_aload_n 1 rfl rfl) rfl ?_
    obtain ⟨r16, S17, h18, hr⟩ := nk_bde hr
    refine nk_callV (ci := 10) (n := 0) (x := 104) (len := 3) (j' := 36) (q' := 0) (r := r16) (S' := S17) (L2 := [(0, nk_r l0)]) (rest := []) (st' := []) (pc' := 58) mJ_34 (by decide +kernel) (by decide +kernel) rfl rfl t_l0 (Nat.le_of_ble_eq_true rfl) mJ_36 (Nat.le_of_ble_eq_true rfl) rfl (ja_X10_forgetMeanings_ok zs _ _ _ t_l0 h18) rfl ?_
    refine nk_p (i := .aload_n 0) (len := 1) (pc' := 59) mJ_34 (by decide +kernel) (ns_aload_n 1 rfl rfl) rfl ?_
    refine nk_p (i := .aload_n 0) (len := 1) (pc' := 60) mJ_34 (by decide +kernel) (ns_aload_n 1 rfl rfl) rfl ?_
    refine nk_getI (y := (0, 0)) (x := 74) (len := 3) (ci := 10) (k := 10) (pc' := 63) ja_okT mJ_34 (by decide +kernel) (by decide +kernel) (by decide +kernel) t_l0 rfl ?_
    obtain ⟨r19, S20, h21, hr⟩ := nk_bde hr
    refine nk_callV (ci := 10) (n := 1) (x := 67) (len := 3) (j' := 50) (q' := 0) (r := r19) (S' := S20) (L2 := [(0, nk_r l0), (1, nk_i (S17.1 l0 10))]) (rest := []) (st' := []) (pc' := 66) mJ_34 (by decide +kernel) (by decide +kernel) rfl rfl t_l0 (Nat.le_of_ble_eq_true rfl) mJ_50 (Nat.le_of_ble_eq_true rfl) rfl (ja_X10_shapeWords_ok zs _ _ _ _ t_l0 h21) rfl ?_
    refine nk_p (i := .iload_n 1) (len := 1) (pc' := 67) mJ_34 (by decide +kernel) (ns_iload_n 0 rfl rfl) rfl ?_
    obtain ⟨h22, hr⟩ := nk_cke hr
    cases hr
    exact nk_iret (ty := .boolean) (len := 1) mJ_34 (by decide +kernel) rfl (nk_nar_z h22)
/-! SafeCode$Words firstOf (I)I -/
noncomputable def ja_X10_firstOf (l0 : Nat) (l1 : Int) (S : nk_S) : Option (Int × nk_S) :=
  if l1 < 0 then
    some ((-1), S)
  else
    if (S.1 l0 5) ≤ l1 then
      some ((-1), S)
    else
      if 0 ≤ l1 ∧ l1 < 12288 then
      some ((S.1 (ja_c l0 13) l1.toNat), S)
      else none
theorem ja_X10_firstOf_ok (zs : List Int32) : ∀ (l0 : Nat) (l1 : Int) (S : nk_S) (R : Int × nk_S), nk_cl ja_Tt l0 = some 10 → ja_X10_firstOf l0 l1 S = some R → nk_K ja_Tt mi_Γ (mi_ev zs) 1 35 0 [(0, nk_r l0), (1, nk_i l1)] [] S R := by
  intro l0 l1 S R t_l0 hr
  unfold ja_X10_firstOf at hr
  refine nk_p (i := .iload_n 1) (len := 1) (pc' := 1) mJ_35 (by decide +kernel) (ns_iload_n 1 rfl rfl) rfl ?_
  refine nk_icond (c := .lt) (off := 20) (len := 3) (t := 21) (pc' := 4) mJ_35 (by decide +kernel) (by decide +kernel) rfl (fun hc => ?_) (fun hc => ?_)
  · have hr := nk_ifp (c := l1 < 0) hc hr
    refine nk_p (i := .iconst (-1)) (len := 1) (pc' := 22) mJ_35 (by decide +kernel) (ns_iconst (c := (-1)) (by decide +kernel)) rfl ?_
    cases hr
    exact nk_iret (ty := .int) (len := 1) mJ_35 (by decide +kernel) rfl (nk_nar_i _)
  · have hr := nk_ifn (c := l1 < 0) hc hr
    refine nk_p (i := .iload_n 1) (len := 1) (pc' := 5) mJ_35 (by decide +kernel) (ns_iload_n 1 rfl rfl) rfl ?_
    refine nk_p (i := .aload_n 0) (len := 1) (pc' := 6) mJ_35 (by decide +kernel) (ns_aload_n 0 rfl rfl) rfl ?_
    refine nk_getI (y := (0, 0)) (x := 71) (len := 3) (ci := 10) (k := 5) (pc' := 9) ja_okT mJ_35 (by decide +kernel) (by decide +kernel) (by decide +kernel) t_l0 rfl ?_
    refine nk_icmp (c := .ge) (off := 12) (len := 3) (t := 21) (pc' := 12) mJ_35 (by decide +kernel) (by decide +kernel) rfl (fun hc => ?_) (fun hc => ?_)
    · have hr := nk_ifp (c := (S.1 l0 5) ≤ l1) hc hr
      refine nk_p (i := .iconst (-1)) (len := 1) (pc' := 22) mJ_35 (by decide +kernel) (ns_iconst (c := (-1)) (by decide +kernel)) rfl ?_
      cases hr
      exact nk_iret (ty := .int) (len := 1) mJ_35 (by decide +kernel) rfl (nk_nar_i _)
    · have hr := nk_ifn (c := (S.1 l0 5) ≤ l1) hc hr
      refine nk_p (i := .aload_n 0) (len := 1) (pc' := 13) mJ_35 (by decide +kernel) (ns_aload_n 0 rfl rfl) rfl ?_
      refine nk_getC (f := (4, 1, 12288)) (x := 34) (len := 3) (ci := 10) (k := 13) (pc' := 16) ja_okT mJ_35 (by decide +kernel) (by decide +kernel) (by decide +kernel) (by decide) t_l0 rfl ?_
      have t1 : nk_ar ja_Tt (ja_c l0 13) = some (1, 12288) := nk_ta ja_okT t_l0 (by decide +kernel)
      refine nk_p (i := .iload_n 1) (len := 1) (pc' := 17) mJ_35 (by decide +kernel) (ns_iload_n 1 rfl rfl) rfl ?_
      obtain ⟨h2, hr⟩ := nk_cke hr
      refine nk_iald (len := 1) (N := 12288) (pc' := 18) mJ_35 (by decide +kernel) t1 h2.1 h2.2 rfl rfl ?_
      refine nk_p (i := .goto 4) (len := 3) (pc' := 22) mJ_35 (by decide +kernel) (ns_goto (by decide +kernel)) rfl ?_
      cases hr
      exact nk_iret (ty := .int) (len := 1) mJ_35 (by decide +kernel) rfl (nk_nar_i _)
/-! SafeCode$Words hasShape (II)Z -/
noncomputable def ja_X10_hasShape (l0 : Nat) (l1 : Int) (l2 : Int) (S : nk_S) : Option (Int × nk_S) :=
  if l1 < 0 then
    some (0, S)
  else
    if (S.1 l0 5) ≤ l1 then
      some (0, S)
    else
      if 0 ≤ l1 ∧ l1 < 12288 then
      if (S.1 (ja_c l0 12) l1.toNat) = l2 then
        some (1, S)
      else
        some (0, S)
      else none
theorem ja_X10_hasShape_ok (zs : List Int32) : ∀ (l0 : Nat) (l1 : Int) (l2 : Int) (S : nk_S) (R : Int × nk_S), nk_cl ja_Tt l0 = some 10 → ja_X10_hasShape l0 l1 l2 S = some R → nk_K ja_Tt mi_Γ (mi_ev zs) 1 37 0 [(0, nk_r l0), (1, nk_i l1), (2, nk_i l2)] [] S R := by
  intro l0 l1 l2 S R t_l0 hr
  unfold ja_X10_hasShape at hr
  refine nk_p (i := .iload_n 1) (len := 1) (pc' := 1) mJ_37 (by decide +kernel) (ns_iload_n 1 rfl rfl) rfl ?_
  refine nk_icond (c := .lt) (off := 25) (len := 3) (t := 26) (pc' := 4) mJ_37 (by decide +kernel) (by decide +kernel) rfl (fun hc => ?_) (fun hc => ?_)
  · have hr := nk_ifp (c := l1 < 0) hc hr
    refine nk_p (i := .iconst 0) (len := 1) (pc' := 27) mJ_37 (by decide +kernel) (ns_iconst (c := 0) (by decide +kernel)) rfl ?_
    cases hr
    exact nk_iret (ty := .boolean) (len := 1) mJ_37 (by decide +kernel) rfl (nk_nar_z (by decide))
  · have hr := nk_ifn (c := l1 < 0) hc hr
    refine nk_p (i := .iload_n 1) (len := 1) (pc' := 5) mJ_37 (by decide +kernel) (ns_iload_n 1 rfl rfl) rfl ?_
    refine nk_p (i := .aload_n 0) (len := 1) (pc' := 6) mJ_37 (by decide +kernel) (ns_aload_n 0 rfl rfl) rfl ?_
    refine nk_getI (y := (0, 0)) (x := 71) (len := 3) (ci := 10) (k := 5) (pc' := 9) ja_okT mJ_37 (by decide +kernel) (by decide +kernel) (by decide +kernel) t_l0 rfl ?_
    refine nk_icmp (c := .ge) (off := 17) (len := 3) (t := 26) (pc' := 12) mJ_37 (by decide +kernel) (by decide +kernel) rfl (fun hc => ?_) (fun hc => ?_)
    · have hr := nk_ifp (c := (S.1 l0 5) ≤ l1) hc hr
      refine nk_p (i := .iconst 0) (len := 1) (pc' := 27) mJ_37 (by decide +kernel) (ns_iconst (c := 0) (by decide +kernel)) rfl ?_
      cases hr
      exact nk_iret (ty := .boolean) (len := 1) mJ_37 (by decide +kernel) rfl (nk_nar_z (by decide))
    · have hr := nk_ifn (c := (S.1 l0 5) ≤ l1) hc hr
      refine nk_p (i := .aload_n 0) (len := 1) (pc' := 13) mJ_37 (by decide +kernel) (ns_aload_n 0 rfl rfl) rfl ?_
      refine nk_getC (f := (4, 0, 12288)) (x := 31) (len := 3) (ci := 10) (k := 12) (pc' := 16) ja_okT mJ_37 (by decide +kernel) (by decide +kernel) (by decide +kernel) (by decide) t_l0 rfl ?_
      have t1 : nk_ar ja_Tt (ja_c l0 12) = some (0, 12288) := nk_ta ja_okT t_l0 (by decide +kernel)
      refine nk_p (i := .iload_n 1) (len := 1) (pc' := 17) mJ_37 (by decide +kernel) (ns_iload_n 1 rfl rfl) rfl ?_
      obtain ⟨h2, hr⟩ := nk_cke hr
      refine nk_bald (t := 0) (len := 1) (N := 12288) (pc' := 18) mJ_37 (by decide +kernel) t1 (by decide) h2.1 h2.2 rfl rfl ?_
      refine nk_p (i := .iload_n 2) (len := 1) (pc' := 19) mJ_37 (by decide +kernel) (ns_iload_n 2 rfl rfl) rfl ?_
      refine nk_icmp (c := .ne) (off := 7) (len := 3) (t := 26) (pc' := 22) mJ_37 (by decide +kernel) (by decide +kernel) rfl (fun hc => ?_) (fun hc => ?_)
      · have hr := nk_ifn (c := (S.1 (ja_c l0 12) l1.toNat) = l2) hc hr
        refine nk_p (i := .iconst 0) (len := 1) (pc' := 27) mJ_37 (by decide +kernel) (ns_iconst (c := 0) (by decide +kernel)) rfl ?_
        cases hr
        exact nk_iret (ty := .boolean) (len := 1) mJ_37 (by decide +kernel) rfl (nk_nar_z (by decide))
      · have hr := nk_ifp (c := (S.1 (ja_c l0 12) l1.toNat) = l2) (Decidable.of_not_not hc) hr
        refine nk_p (i := .iconst 1) (len := 1) (pc' := 23) mJ_37 (by decide +kernel) (ns_iconst (c := 1) (by decide +kernel)) rfl ?_
        refine nk_p (i := .goto 4) (len := 3) (pc' := 27) mJ_37 (by decide +kernel) (ns_goto (by decide +kernel)) rfl ?_
        cases hr
        exact nk_iret (ty := .boolean) (len := 1) mJ_37 (by decide +kernel) rfl (nk_nar_z (by decide))
/-! SafeCode$Words isType (I)Z -/
noncomputable def ja_X10_isType (l0 : Nat) (l1 : Int) (S : nk_S) : Option (Int × nk_S) :=
  if l1 = 52 then
    some (1, S)
  else
    if l1 = 54 then
      some (1, S)
    else
      nk_bd (ja_X10_hasShape l0 l1 2 S) fun r1 S2 =>
      if r1 = 0 then
        nk_bd (ja_X10_hasShape l0 l1 4 S2) fun r4 S5 =>
        if r4 = 0 then
          some (0, S5)
        else
          some (1, S5)
      else
        some (1, S2)
theorem ja_X10_isType_ok (zs : List Int32) : ∀ (l0 : Nat) (l1 : Int) (S : nk_S) (R : Int × nk_S), nk_cl ja_Tt l0 = some 10 → ja_X10_isType l0 l1 S = some R → nk_K ja_Tt mi_Γ (mi_ev zs) 1 40 0 [(0, nk_r l0), (1, nk_i l1)] [] S R := by
  intro l0 l1 S R t_l0 hr
  unfold ja_X10_isType at hr
  refine nk_p (i := .iload_n 1) (len := 1) (pc' := 1) mJ_40 (by decide +kernel) (ns_iload_n 1 rfl rfl) rfl ?_
  refine nk_p (i := .bipush 52) (len := 2) (pc' := 3) mJ_40 (by decide +kernel) (ns_bipush (c := 52) (by decide +kernel)) rfl ?_
  refine nk_icmp (c := .eq) (off := 27) (len := 3) (t := 30) (pc' := 6) mJ_40 (by decide +kernel) (by decide +kernel) rfl (fun hc => ?_) (fun hc => ?_)
  · have hr := nk_ifp (c := l1 = 52) hc hr
    refine nk_p (i := .iconst 1) (len := 1) (pc' := 31) mJ_40 (by decide +kernel) (ns_iconst (c := 1) (by decide +kernel)) rfl ?_
    refine nk_p (i := .goto 4) (len := 3) (pc' := 35) mJ_40 (by decide +kernel) (ns_goto (by decide +kernel)) rfl ?_
    cases hr
    exact nk_iret (ty := .boolean) (len := 1) mJ_40 (by decide +kernel) rfl (nk_nar_z (by decide))
  · have hr := nk_ifn (c := l1 = 52) hc hr
    refine nk_p (i := .iload_n 1) (len := 1) (pc' := 7) mJ_40 (by decide +kernel) (ns_iload_n 1 rfl rfl) rfl ?_
    refine nk_p (i := .bipush 54) (len := 2) (pc' := 9) mJ_40 (by decide +kernel) (ns_bipush (c := 54) (by decide +kernel)) rfl ?_
    refine nk_icmp (c := .eq) (off := 21) (len := 3) (t := 30) (pc' := 12) mJ_40 (by decide +kernel) (by decide +kernel) rfl (fun hc => ?_) (fun hc => ?_)
    · have hr := nk_ifp (c := l1 = 54) hc hr
      refine nk_p (i := .iconst 1) (len := 1) (pc' := 31) mJ_40 (by decide +kernel) (ns_iconst (c := 1) (by decide +kernel)) rfl ?_
      refine nk_p (i := .goto 4) (len := 3) (pc' := 35) mJ_40 (by decide +kernel) (ns_goto (by decide +kernel)) rfl ?_
      cases hr
      exact nk_iret (ty := .boolean) (len := 1) mJ_40 (by decide +kernel) rfl (nk_nar_z (by decide))
    · have hr := nk_ifn (c := l1 = 54) hc hr
      refine nk_p (i := .aload_n 0) (len := 1) (pc' := 13) mJ_40 (by decide +kernel) (ns_aload_n 0 rfl rfl) rfl ?_
      refine nk_p (i := .iload_n 1) (len := 1) (pc' := 14) mJ_40 (by decide +kernel) (ns_iload_n 1 rfl rfl) rfl ?_
      refine nk_p (i := .iconst 2) (len := 1) (pc' := 15) mJ_40 (by decide +kernel) (ns_iconst (c := 2) (by decide +kernel)) rfl ?_
      obtain ⟨r1, S2, h3, hr⟩ := nk_bde hr
      refine nk_callV (ci := 10) (n := 2) (x := 135) (len := 3) (j' := 37) (q' := 1) (r := r1) (S' := S2) (L2 := [(0, nk_r l0), (1, nk_i l1), (2, nk_i 2)]) (rest := []) (st' := [nk_i r1]) (pc' := 18) mJ_40 (by decide +kernel) (by decide +kernel) rfl rfl t_l0 (Nat.le_of_ble_eq_true rfl) mJ_37 (Nat.le_of_ble_eq_true rfl) rfl (ja_X10_hasShape_ok zs _ _ _ _ _ t_l0 h3) rfl ?_
      refine nk_icond (c := .ne) (off := 12) (len := 3) (t := 30) (pc' := 21) mJ_40 (by decide +kernel) (by decide +kernel) rfl (fun hc => ?_) (fun hc => ?_)
      · have hr := nk_ifn (c := r1 = 0) hc hr
        refine nk_p (i := .iconst 1) (len := 1) (pc' := 31) mJ_40 (by decide +kernel) (ns_iconst (c := 1) (by decide +kernel)) rfl ?_
        refine nk_p (i := .goto 4) (len := 3) (pc' := 35) mJ_40 (by decide +kernel) (ns_goto (by decide +kernel)) rfl ?_
        cases hr
        exact nk_iret (ty := .boolean) (len := 1) mJ_40 (by decide +kernel) rfl (nk_nar_z (by decide))
      · have hr := nk_ifp (c := r1 = 0) (Decidable.of_not_not hc) hr
        refine nk_p (i := .aload_n 0) (len := 1) (pc' := 22) mJ_40 (by decide +kernel) (ns_aload_n 0 rfl rfl) rfl ?_
        refine nk_p (i := .iload_n 1) (len := 1) (pc' := 23) mJ_40 (by decide +kernel) (ns_iload_n 1 rfl rfl) rfl ?_
        refine nk_p (i := .iconst 4) (len := 1) (pc' := 24) mJ_40 (by decide +kernel) (ns_iconst (c := 4) (by decide +kernel)) rfl ?_
        obtain ⟨r4, S5, h6, hr⟩ := nk_bde hr
        refine nk_callV (ci := 10) (n := 2) (x := 135) (len := 3) (j' := 37) (q' := 1) (r := r4) (S' := S5) (L2 := [(0, nk_r l0), (1, nk_i l1), (2, nk_i 4)]) (rest := []) (st' := [nk_i r4]) (pc' := 27) mJ_40 (by decide +kernel) (by decide +kernel) rfl rfl t_l0 (Nat.le_of_ble_eq_true rfl) mJ_37 (Nat.le_of_ble_eq_true rfl) rfl (ja_X10_hasShape_ok zs _ _ _ _ _ t_l0 h6) rfl ?_
        refine nk_icond (c := .eq) (off := 7) (len := 3) (t := 34) (pc' := 30) mJ_40 (by decide +kernel) (by decide +kernel) rfl (fun hc => ?_) (fun hc => ?_)
        · have hr := nk_ifp (c := r4 = 0) hc hr
          refine nk_p (i := .iconst 0) (len := 1) (pc' := 35) mJ_40 (by decide +kernel) (ns_iconst (c := 0) (by decide +kernel)) rfl ?_
          cases hr
          exact nk_iret (ty := .boolean) (len := 1) mJ_40 (by decide +kernel) rfl (nk_nar_z (by decide))
        · have hr := nk_ifn (c := r4 = 0) hc hr
          refine nk_p (i := .iconst 1) (len := 1) (pc' := 31) mJ_40 (by decide +kernel) (ns_iconst (c := 1) (by decide +kernel)) rfl ?_
          refine nk_p (i := .goto 4) (len := 3) (pc' := 35) mJ_40 (by decide +kernel) (ns_goto (by decide +kernel)) rfl ?_
          cases hr
          exact nk_iret (ty := .boolean) (len := 1) mJ_40 (by decide +kernel) rfl (nk_nar_z (by decide))
/-! SafeCode$Words putFixed (Ljava/lang/String;I)I -/
noncomputable def ja_X10_putFixed_b39 (l0 : Nat) (l1 : Nat) (l2 : Int) (S : nk_S) : Option (Int × nk_S) :=
  nk_bd (ja_J0_length_8abf5 l1 S) fun r1 S2 =>
  nk_lt (nk_w (l2 + r1)) fun v4 =>
  if 16512 ≤ v4 then
    some ((nk_w (v4 + 1)), S2)
  else
    if 0 ≤ v4 ∧ v4 < 16512 then
    nk_lt (nk_wi S2 (ja_c l0 0) v4.toNat (nk_i2b 32)) fun S8 =>
    some ((nk_w (v4 + 1)), S8)
    else none
theorem ja_X10_putFixed_b39_ok (zs : List Int32) : ∀ (l0 : Nat) (l1 : Nat) (l2 : Int) (S : nk_S) (R : Int × nk_S), nk_cl ja_Tt l0 = some 10 → ja_tx zs l1 → ja_X10_putFixed_b39 l0 l1 l2 S = some R → nk_K ja_Tt mi_Γ (mi_ev zs) 1 45 39 [(0, nk_r l0), (1, nk_o l1), (2, nk_i l2)] [] S R := by
  intro l0 l1 l2 S R t_l0 t_l1 hr
  unfold ja_X10_putFixed_b39 at hr
  refine nk_p (i := .iload_n 2) (len := 1) (pc' := 40) mJ_45 (by decide +kernel) (ns_iload_n 2 rfl rfl) rfl ?_
  refine nk_p (i := .aload_n 1) (len := 1) (pc' := 41) mJ_45 (by decide +kernel) (ns_oload_n 1 rfl rfl) rfl ?_
  obtain ⟨r1, S2, h3, hr⟩ := nk_bde hr
  refine nk_callT (ci := 0) (n := 0) (x := 85) (len := 3) (j' := 5) (q' := 1) (r := r1) (S' := S2) (L2 := [(0, nk_o l1)]) (rest := [nk_i l2]) (st' := [nk_i r1, nk_i l2]) (pc' := 44) mJ_45 (by decide +kernel) (by decide +kernel) rfl rfl t_l1.1 (Nat.le_of_ble_eq_true rfl) mJ_5 (Nat.le_of_ble_eq_true rfl) ja_Tpos rfl (ja_J0_length_8abf5_ok zs _ _ _ t_l1 h3) rfl ?_
  refine nk_p (i := .iadd) (len := 1) (pc' := 45) mJ_45 (by decide +kernel) ns_iadd rfl ?_
  obtain ⟨v4, h5, hr⟩ := nk_lte hr
  refine nk_p (i := .istore_n 3) (len := 1) (pc' := 46) mJ_45 (by decide +kernel) (ns_istore_n (L' := [(3, nk_i v4), (0, nk_r l0), (1, nk_o l1), (2, nk_i l2)]) h5 rfl rfl (by decide +kernel)) rfl ?_
  refine nk_p (i := .iload_n 3) (len := 1) (pc' := 47) mJ_45 (by decide +kernel) (ns_iload_n 0 rfl rfl) rfl ?_
  refine nk_p (i := .sipush 16512) (len := 3) (pc' := 50) mJ_45 (by decide +kernel) (ns_sipush (c := 16512) (by decide +kernel)) rfl ?_
  refine nk_icmp (c := .ge) (off := 11) (len := 3) (t := 61) (pc' := 53) mJ_45 (by decide +kernel) (by decide +kernel) rfl (fun hc => ?_) (fun hc => ?_)
  · have hr := nk_ifp (c := 16512 ≤ v4) hc hr
    refine nk_p (i := .iload_n 3) (len := 1) (pc' := 62) mJ_45 (by decide +kernel) (ns_iload_n 0 rfl rfl) rfl ?_
    refine nk_p (i := .iconst 1) (len := 1) (pc' := 63) mJ_45 (by decide +kernel) (ns_iconst (c := 1) (by decide +kernel)) rfl ?_
    refine nk_p (i := .iadd) (len := 1) (pc' := 64) mJ_45 (by decide +kernel) ns_iadd rfl ?_
    cases hr
    exact nk_iret (ty := .int) (len := 1) mJ_45 (by decide +kernel) rfl (nk_nar_i _)
  · have hr := nk_ifn (c := 16512 ≤ v4) hc hr
    refine nk_p (i := .aload_n 0) (len := 1) (pc' := 54) mJ_45 (by decide +kernel) (ns_aload_n 1 rfl rfl) rfl ?_
    refine nk_getC (f := (4, 0, 16512)) (x := 9) (len := 3) (ci := 10) (k := 0) (pc' := 57) ja_okT mJ_45 (by decide +kernel) (by decide +kernel) (by decide +kernel) (by decide) t_l0 rfl ?_
    have t6 : nk_ar ja_Tt (ja_c l0 0) = some (0, 16512) := nk_ta ja_okT t_l0 (by decide +kernel)
    refine nk_p (i := .iload_n 3) (len := 1) (pc' := 58) mJ_45 (by decide +kernel) (ns_iload_n 0 rfl rfl) rfl ?_
    refine nk_p (i := .bipush 32) (len := 2) (pc' := 60) mJ_45 (by decide +kernel) (ns_bipush (c := 32) (by decide +kernel)) rfl ?_
    obtain ⟨h7, hr⟩ := nk_cke hr
    obtain ⟨S8, h9, hr⟩ := nk_lte hr
    refine nk_bast (len := 1) (N := 16512) (pc' := 61) mJ_45 (by decide +kernel) t6 h7.1 h7.2 rfl rfl h9 ?_
    refine nk_p (i := .iload_n 3) (len := 1) (pc' := 62) mJ_45 (by decide +kernel) (ns_iload_n 0 rfl rfl) rfl ?_
    refine nk_p (i := .iconst 1) (len := 1) (pc' := 63) mJ_45 (by decide +kernel) (ns_iconst (c := 1) (by decide +kernel)) rfl ?_
    refine nk_p (i := .iadd) (len := 1) (pc' := 64) mJ_45 (by decide +kernel) ns_iadd rfl ?_
    cases hr
    exact nk_iret (ty := .int) (len := 1) mJ_45 (by decide +kernel) rfl (nk_nar_i _)
noncomputable def ja_X10_putFixed_b2 (rec2 : Nat → Nat → Int → Int → nk_S → Option (Int × nk_S)) (l0 : Nat) (l1 : Nat) (l2 : Int) (l3 : Int) (S : nk_S) : Option (Int × nk_S) :=
  nk_bd (ja_J0_length_8abf5 l1 S) fun r1 S2 =>
  if r1 ≤ l3 then
    ja_X10_putFixed_b39 l0 l1 l2 S2
  else
    if 16512 ≤ (nk_w (l2 + l3)) then
      ja_X10_putFixed_b39 l0 l1 l2 S2
    else
      nk_bd (ja_J0_charAt_5068e l1 l3 S2) fun r5 S6 =>
      if 0 ≤ (nk_w (l2 + l3)) ∧ (nk_w (l2 + l3)) < 16512 then
      nk_lt (nk_wi S6 (ja_c l0 0) (nk_w (l2 + l3)).toNat (nk_i2b (nk_i2b r5))) fun S9 =>
      nk_lt (nk_w (l3 + 1)) fun v11 =>
      rec2 l0 l1 l2 v11 S9
      else none
theorem ja_X10_putFixed_b2_ok (zs : List Int32) {rec2 : Nat → Nat → Int → Int → nk_S → Option (Int × nk_S)} (hrec2 : ∀ (l0 : Nat) (l1 : Nat) (l2 : Int) (l3 : Int) (S : nk_S) (R : Int × nk_S), nk_cl ja_Tt l0 = some 10 → ja_tx zs l1 → rec2 l0 l1 l2 l3 S = some R → nk_K ja_Tt mi_Γ (mi_ev zs) 1 45 2 [(0, nk_r l0), (1, nk_o l1), (2, nk_i l2), (3, nk_i l3)] [] S R) : ∀ (l0 : Nat) (l1 : Nat) (l2 : Int) (l3 : Int) (S : nk_S) (R : Int × nk_S), nk_cl ja_Tt l0 = some 10 → ja_tx zs l1 → ja_X10_putFixed_b2 rec2 l0 l1 l2 l3 S = some R → nk_K ja_Tt mi_Γ (mi_ev zs) 1 45 2 [(0, nk_r l0), (1, nk_o l1), (2, nk_i l2), (3, nk_i l3)] [] S R := by
  intro l0 l1 l2 l3 S R t_l0 t_l1 hr
  unfold ja_X10_putFixed_b2 at hr
  refine nk_p (i := .iload_n 3) (len := 1) (pc' := 3) mJ_45 (by decide +kernel) (ns_iload_n 3 rfl rfl) rfl ?_
  refine nk_p (i := .aload_n 1) (len := 1) (pc' := 4) mJ_45 (by decide +kernel) (ns_oload_n 1 rfl rfl) rfl ?_
  obtain ⟨r1, S2, h3, hr⟩ := nk_bde hr
  refine nk_callT (ci := 0) (n := 0) (x := 85) (len := 3) (j' := 5) (q' := 1) (r := r1) (S' := S2) (L2 := [(0, nk_o l1)]) (rest := [nk_i l3]) (st' := [nk_i r1, nk_i l3]) (pc' := 7) mJ_45 (by decide +kernel) (by decide +kernel) rfl rfl t_l1.1 (Nat.le_of_ble_eq_true rfl) mJ_5 (Nat.le_of_ble_eq_true rfl) ja_Tpos rfl (ja_J0_length_8abf5_ok zs _ _ _ t_l1 h3) rfl ?_
  refine nk_icmp (c := .ge) (off := 32) (len := 3) (t := 39) (pc' := 10) mJ_45 (by decide +kernel) (by decide +kernel) rfl (fun hc => ?_) (fun hc => ?_)
  · have hr := nk_ifp (c := r1 ≤ l3) hc hr
    refine nk_sub [0, 1, 2] (L' := [(0, nk_r l0), (1, nk_o l1), (2, nk_i l2)]) rfl ?_
    exact ja_X10_putFixed_b39_ok zs _ _ _ _ _ t_l0 t_l1 hr
  · have hr := nk_ifn (c := r1 ≤ l3) hc hr
    refine nk_p (i := .iload_n 2) (len := 1) (pc' := 11) mJ_45 (by decide +kernel) (ns_iload_n 2 rfl rfl) rfl ?_
    refine nk_p (i := .iload_n 3) (len := 1) (pc' := 12) mJ_45 (by decide +kernel) (ns_iload_n 3 rfl rfl) rfl ?_
    refine nk_p (i := .iadd) (len := 1) (pc' := 13) mJ_45 (by decide +kernel) ns_iadd rfl ?_
    refine nk_p (i := .sipush 16512) (len := 3) (pc' := 16) mJ_45 (by decide +kernel) (ns_sipush (c := 16512) (by decide +kernel)) rfl ?_
    refine nk_icmp (c := .ge) (off := 23) (len := 3) (t := 39) (pc' := 19) mJ_45 (by decide +kernel) (by decide +kernel) rfl (fun hc => ?_) (fun hc => ?_)
    · have hr := nk_ifp (c := 16512 ≤ (nk_w (l2 + l3))) hc hr
      refine nk_sub [0, 1, 2] (L' := [(0, nk_r l0), (1, nk_o l1), (2, nk_i l2)]) rfl ?_
      exact ja_X10_putFixed_b39_ok zs _ _ _ _ _ t_l0 t_l1 hr
    · have hr := nk_ifn (c := 16512 ≤ (nk_w (l2 + l3))) hc hr
      refine nk_p (i := .aload_n 0) (len := 1) (pc' := 20) mJ_45 (by decide +kernel) (ns_aload_n 0 rfl rfl) rfl ?_
      refine nk_getC (f := (4, 0, 16512)) (x := 9) (len := 3) (ci := 10) (k := 0) (pc' := 23) ja_okT mJ_45 (by decide +kernel) (by decide +kernel) (by decide +kernel) (by decide) t_l0 rfl ?_
      have t4 : nk_ar ja_Tt (ja_c l0 0) = some (0, 16512) := nk_ta ja_okT t_l0 (by decide +kernel)
      refine nk_p (i := .iload_n 2) (len := 1) (pc' := 24) mJ_45 (by decide +kernel) (ns_iload_n 2 rfl rfl) rfl ?_
      refine nk_p (i := .iload_n 3) (len := 1) (pc' := 25) mJ_45 (by decide +kernel) (ns_iload_n 3 rfl rfl) rfl ?_
      refine nk_p (i := .iadd) (len := 1) (pc' := 26) mJ_45 (by decide +kernel) ns_iadd rfl ?_
      refine nk_p (i := .aload_n 1) (len := 1) (pc' := 27) mJ_45 (by decide +kernel) (ns_oload_n 1 rfl rfl) rfl ?_
      refine nk_p (i := .iload_n 3) (len := 1) (pc' := 28) mJ_45 (by decide +kernel) (ns_iload_n 3 rfl rfl) rfl ?_
      obtain ⟨r5, S6, h7, hr⟩ := nk_bde hr
      refine nk_callT (ci := 0) (n := 1) (x := 91) (len := 3) (j' := 1) (q' := 1) (r := r5) (S' := S6) (L2 := [(0, nk_o l1), (1, nk_i l3)]) (rest := [nk_i (nk_w (l2 + l3)), nk_r (ja_c l0 0)]) (st' := [nk_i r5, nk_i (nk_w (l2 + l3)), nk_r (ja_c l0 0)]) (pc' := 31) mJ_45 (by decide +kernel) (by decide +kernel) rfl rfl t_l1.1 (Nat.le_of_ble_eq_true rfl) mJ_1 (Nat.le_of_ble_eq_true rfl) ja_Tpos rfl (ja_J0_charAt_5068e_ok zs _ _ _ _ t_l1 h7) rfl ?_
      refine nk_p (i := .i2b) (len := 1) (pc' := 32) mJ_45 (by decide +kernel) ns_i2b rfl ?_
      obtain ⟨h8, hr⟩ := nk_cke hr
      obtain ⟨S9, h10, hr⟩ := nk_lte hr
      refine nk_bast (len := 1) (N := 16512) (pc' := 33) mJ_45 (by decide +kernel) t4 h8.1 h8.2 rfl rfl h10 ?_
      obtain ⟨v11, h12, hr⟩ := nk_lte hr
      refine nk_p (i := .iinc 3 1) (len := 3) (pc' := 36) mJ_45 (by decide +kernel) (ns_iinc (c := 1) (L' := [(3, nk_i v11), (0, nk_r l0), (1, nk_o l1), (2, nk_i l2)]) 3 rfl (by decide +kernel) h12 rfl (by decide +kernel)) rfl ?_
      refine nk_p (i := .goto (-34)) (len := 3) (pc' := 2) mJ_45 (by decide +kernel) (ns_goto (by decide +kernel)) rfl ?_
      refine nk_sub [1, 2, 3, 0] (L' := [(0, nk_r l0), (1, nk_o l1), (2, nk_i l2), (3, nk_i v11)]) rfl ?_
      exact hrec2 _ _ _ _ _ _ t_l0 t_l1 hr
noncomputable def ja_X10_putFixed_L2 : Nat → Nat → Nat → Int → Int → nk_S → Option (Int × nk_S)
  | 0, _, _, _, _, _ => none
  | n + 1, l0, l1, l2, l3, S => ja_X10_putFixed_b2 (ja_X10_putFixed_L2 n) l0 l1 l2 l3 S
theorem ja_X10_putFixed_L2_ok (zs : List Int32) : ∀ n : Nat, ∀ (l0 : Nat) (l1 : Nat) (l2 : Int) (l3 : Int) (S : nk_S) (R : Int × nk_S), nk_cl ja_Tt l0 = some 10 → ja_tx zs l1 → ja_X10_putFixed_L2 n l0 l1 l2 l3 S = some R → nk_K ja_Tt mi_Γ (mi_ev zs) 1 45 2 [(0, nk_r l0), (1, nk_o l1), (2, nk_i l2), (3, nk_i l3)] [] S R := by
  intro n
  induction n with
  | zero => intro _ _ _ _ _ _ _ _ hr; cases hr
  | succ n ih => intro l0 l1 l2 l3 S R t_l0 t_l1 hr; exact ja_X10_putFixed_b2_ok zs ih l0 l1 l2 l3 S R t_l0 t_l1 hr
noncomputable def ja_X10_putFixed (l0 : Nat) (l1 : Nat) (l2 : Int) (S : nk_S) : Option (Int × nk_S) :=
  ja_X10_putFixed_L2 nk_big l0 l1 l2 0 S
theorem ja_X10_putFixed_ok (zs : List Int32) : ∀ (l0 : Nat) (l1 : Nat) (l2 : Int) (S : nk_S) (R : Int × nk_S), nk_cl ja_Tt l0 = some 10 → ja_tx zs l1 → ja_X10_putFixed l0 l1 l2 S = some R → nk_K ja_Tt mi_Γ (mi_ev zs) 1 45 0 [(0, nk_r l0), (1, nk_o l1), (2, nk_i l2)] [] S R := by
  intro l0 l1 l2 S R t_l0 t_l1 hr
  unfold ja_X10_putFixed at hr
  refine nk_p (i := .iconst 0) (len := 1) (pc' := 1) mJ_45 (by decide +kernel) (ns_iconst (c := 0) (by decide +kernel)) rfl ?_
  refine nk_p (i := .istore_n 3) (len := 1) (pc' := 2) mJ_45 (by decide +kernel) (ns_istore_n (L' := [(3, nk_i 0), (0, nk_r l0), (1, nk_o l1), (2, nk_i l2)]) rfl rfl rfl (by decide +kernel)) rfl ?_
  refine nk_sub [1, 2, 3, 0] (L' := [(0, nk_r l0), (1, nk_o l1), (2, nk_i l2), (3, nk_i 0)]) rfl ?_
  exact ja_X10_putFixed_L2_ok zs nk_big _ _ _ _ _ _ t_l0 t_l1 hr
/-! SafeCode$Words secondOf (I)I -/
noncomputable def ja_X10_secondOf (l0 : Nat) (l1 : Int) (S : nk_S) : Option (Int × nk_S) :=
  if l1 < 0 then
    some ((-1), S)
  else
    if (S.1 l0 5) ≤ l1 then
      some ((-1), S)
    else
      if 0 ≤ l1 ∧ l1 < 12288 then
      some ((S.1 (ja_c l0 14) l1.toNat), S)
      else none
theorem ja_X10_secondOf_ok (zs : List Int32) : ∀ (l0 : Nat) (l1 : Int) (S : nk_S) (R : Int × nk_S), nk_cl ja_Tt l0 = some 10 → ja_X10_secondOf l0 l1 S = some R → nk_K ja_Tt mi_Γ (mi_ev zs) 1 46 0 [(0, nk_r l0), (1, nk_i l1)] [] S R := by
  intro l0 l1 S R t_l0 hr
  unfold ja_X10_secondOf at hr
  refine nk_p (i := .iload_n 1) (len := 1) (pc' := 1) mJ_46 (by decide +kernel) (ns_iload_n 1 rfl rfl) rfl ?_
  refine nk_icond (c := .lt) (off := 20) (len := 3) (t := 21) (pc' := 4) mJ_46 (by decide +kernel) (by decide +kernel) rfl (fun hc => ?_) (fun hc => ?_)
  · have hr := nk_ifp (c := l1 < 0) hc hr
    refine nk_p (i := .iconst (-1)) (len := 1) (pc' := 22) mJ_46 (by decide +kernel) (ns_iconst (c := (-1)) (by decide +kernel)) rfl ?_
    cases hr
    exact nk_iret (ty := .int) (len := 1) mJ_46 (by decide +kernel) rfl (nk_nar_i _)
  · have hr := nk_ifn (c := l1 < 0) hc hr
    refine nk_p (i := .iload_n 1) (len := 1) (pc' := 5) mJ_46 (by decide +kernel) (ns_iload_n 1 rfl rfl) rfl ?_
    refine nk_p (i := .aload_n 0) (len := 1) (pc' := 6) mJ_46 (by decide +kernel) (ns_aload_n 0 rfl rfl) rfl ?_
    refine nk_getI (y := (0, 0)) (x := 71) (len := 3) (ci := 10) (k := 5) (pc' := 9) ja_okT mJ_46 (by decide +kernel) (by decide +kernel) (by decide +kernel) t_l0 rfl ?_
    refine nk_icmp (c := .ge) (off := 12) (len := 3) (t := 21) (pc' := 12) mJ_46 (by decide +kernel) (by decide +kernel) rfl (fun hc => ?_) (fun hc => ?_)
    · have hr := nk_ifp (c := (S.1 l0 5) ≤ l1) hc hr
      refine nk_p (i := .iconst (-1)) (len := 1) (pc' := 22) mJ_46 (by decide +kernel) (ns_iconst (c := (-1)) (by decide +kernel)) rfl ?_
      cases hr
      exact nk_iret (ty := .int) (len := 1) mJ_46 (by decide +kernel) rfl (nk_nar_i _)
    · have hr := nk_ifn (c := (S.1 l0 5) ≤ l1) hc hr
      refine nk_p (i := .aload_n 0) (len := 1) (pc' := 13) mJ_46 (by decide +kernel) (ns_aload_n 0 rfl rfl) rfl ?_
      refine nk_getC (f := (4, 1, 12288)) (x := 37) (len := 3) (ci := 10) (k := 14) (pc' := 16) ja_okT mJ_46 (by decide +kernel) (by decide +kernel) (by decide +kernel) (by decide) t_l0 rfl ?_
      have t1 : nk_ar ja_Tt (ja_c l0 14) = some (1, 12288) := nk_ta ja_okT t_l0 (by decide +kernel)
      refine nk_p (i := .iload_n 1) (len := 1) (pc' := 17) mJ_46 (by decide +kernel) (ns_iload_n 1 rfl rfl) rfl ?_
      obtain ⟨h2, hr⟩ := nk_cke hr
      refine nk_iald (len := 1) (N := 12288) (pc' := 18) mJ_46 (by decide +kernel) t1 h2.1 h2.2 rfl rfl ?_
      refine nk_p (i := .goto 4) (len := 3) (pc' := 22) mJ_46 (by decide +kernel) (ns_goto (by decide +kernel)) rfl ?_
      cases hr
      exact nk_iret (ty := .int) (len := 1) mJ_46 (by decide +kernel) rfl (nk_nar_i _)
/-! SafeCode$Words setMeaning (III)V -/
noncomputable def ja_X10_setMeaning (l0 : Nat) (l1 : Int) (l2 : Int) (l3 : Int) (S : nk_S) : Option (Int × nk_S) :=
  if l1 < 0 then
    some (0, S)
  else
    if (S.1 l0 5) ≤ l1 then
      some (0, S)
    else
      if 0 ≤ l1 ∧ l1 < 12288 then
      nk_lt (nk_wi S (ja_c l0 13) l1.toNat l2) fun S3 =>
      nk_lt (nk_wi S3 (ja_c l0 14) l1.toNat l3) fun S6 =>
      some (0, S6)
      else none
theorem ja_X10_setMeaning_ok (zs : List Int32) : ∀ (l0 : Nat) (l1 : Int) (l2 : Int) (l3 : Int) (S : nk_S) (R : Int × nk_S), nk_cl ja_Tt l0 = some 10 → ja_X10_setMeaning l0 l1 l2 l3 S = some R → nk_K ja_Tt mi_Γ (mi_ev zs) 0 47 0 [(0, nk_r l0), (1, nk_i l1), (2, nk_i l2), (3, nk_i l3)] [] S R := by
  intro l0 l1 l2 l3 S R t_l0 hr
  unfold ja_X10_setMeaning at hr
  refine nk_p (i := .iload_n 1) (len := 1) (pc' := 1) mJ_47 (by decide +kernel) (ns_iload_n 1 rfl rfl) rfl ?_
  refine nk_icond (c := .lt) (off := 25) (len := 3) (t := 26) (pc' := 4) mJ_47 (by decide +kernel) (by decide +kernel) rfl (fun hc => ?_) (fun hc => ?_)
  · have hr := nk_ifp (c := l1 < 0) hc hr
    cases hr
    exact nk_vret (len := 1) mJ_47 (by decide +kernel) rfl
  · have hr := nk_ifn (c := l1 < 0) hc hr
    refine nk_p (i := .iload_n 1) (len := 1) (pc' := 5) mJ_47 (by decide +kernel) (ns_iload_n 1 rfl rfl) rfl ?_
    refine nk_p (i := .aload_n 0) (len := 1) (pc' := 6) mJ_47 (by decide +kernel) (ns_aload_n 0 rfl rfl) rfl ?_
    refine nk_getI (y := (0, 0)) (x := 71) (len := 3) (ci := 10) (k := 5) (pc' := 9) ja_okT mJ_47 (by decide +kernel) (by decide +kernel) (by decide +kernel) t_l0 rfl ?_
    refine nk_icmp (c := .ge) (off := 17) (len := 3) (t := 26) (pc' := 12) mJ_47 (by decide +kernel) (by decide +kernel) rfl (fun hc => ?_) (fun hc => ?_)
    · have hr := nk_ifp (c := (S.1 l0 5) ≤ l1) hc hr
      cases hr
      exact nk_vret (len := 1) mJ_47 (by decide +kernel) rfl
    · have hr := nk_ifn (c := (S.1 l0 5) ≤ l1) hc hr
      refine nk_p (i := .aload_n 0) (len := 1) (pc' := 13) mJ_47 (by decide +kernel) (ns_aload_n 0 rfl rfl) rfl ?_
      refine nk_getC (f := (4, 1, 12288)) (x := 34) (len := 3) (ci := 10) (k := 13) (pc' := 16) ja_okT mJ_47 (by decide +kernel) (by decide +kernel) (by decide +kernel) (by decide) t_l0 rfl ?_
      have t1 : nk_ar ja_Tt (ja_c l0 13) = some (1, 12288) := nk_ta ja_okT t_l0 (by decide +kernel)
      refine nk_p (i := .iload_n 1) (len := 1) (pc' := 17) mJ_47 (by decide +kernel) (ns_iload_n 1 rfl rfl) rfl ?_
      refine nk_p (i := .iload_n 2) (len := 1) (pc' := 18) mJ_47 (by decide +kernel) (ns_iload_n 2 rfl rfl) rfl ?_
      obtain ⟨h2, hr⟩ := nk_cke hr
      obtain ⟨S3, h4, hr⟩ := nk_lte hr
      refine nk_iast (len := 1) (N := 12288) (pc' := 19) mJ_47 (by decide +kernel) t1 h2.1 h2.2 rfl rfl h4 ?_
      refine nk_p (i := .aload_n 0) (len := 1) (pc' := 20) mJ_47 (by decide +kernel) (ns_aload_n 0 rfl rfl) rfl ?_
      refine nk_getC (f := (4, 1, 12288)) (x := 37) (len := 3) (ci := 10) (k := 14) (pc' := 23) ja_okT mJ_47 (by decide +kernel) (by decide +kernel) (by decide +kernel) (by decide) t_l0 rfl ?_
      have t5 : nk_ar ja_Tt (ja_c l0 14) = some (1, 12288) := nk_ta ja_okT t_l0 (by decide +kernel)
      refine nk_p (i := .iload_n 1) (len := 1) (pc' := 24) mJ_47 (by decide +kernel) (ns_iload_n 1 rfl rfl) rfl ?_
      refine nk_p (i := .iload_n 3) (len := 1) (pc' := 25) mJ_47 (by decide +kernel) (ns_iload_n 3 rfl rfl) rfl ?_
      obtain ⟨S6, h7, hr⟩ := nk_lte hr
      refine nk_iast (len := 1) (N := 12288) (pc' := 26) mJ_47 (by decide +kernel) t5 h2.1 h2.2 rfl rfl h7 ?_
      cases hr
      exact nk_vret (len := 1) mJ_47 (by decide +kernel) rfl
/-! SafeCode$Words setText ([BI)V -/
noncomputable def ja_X10_setText (l0 : Nat) (l1 : Nat) (n1 : Nat) (l2 : Int) (S : nk_S) : Option (Int × nk_S) :=
  if l2 < 0 then
    some (0, S)
  else
    if (n1 : Int) < l2 then
      some (0, S)
    else
      if 16000 < l2 then
        some (0, S)
      else
        if 0 ≤ (0 : Int) ∧ 0 ≤ (S.1 l0 1) ∧ 0 ≤ l2 ∧ (0 : Int) + l2 ≤ (n1 : Int) ∧ (S.1 l0 1) + l2 ≤ 16512 then
        nk_lt (nk_cp S l1 0 (ja_c l0 0) (S.1 l0 1).toNat l2.toNat) fun S3 =>
        nk_lt (nk_wi S3 l0 2 (nk_w ((S3.1 l0 1) + l2))) fun S5 =>
        some (0, S5)
        else none
theorem ja_X10_setText_ok (zs : List Int32) : ∀ (l0 : Nat) (l1 : Nat) (n1 : Nat) (l2 : Int) (S : nk_S) (R : Int × nk_S), nk_cl ja_Tt l0 = some 10 → nk_ar ja_Tt l1 = some (0, n1) → ja_X10_setText l0 l1 n1 l2 S = some R → nk_K ja_Tt mi_Γ (mi_ev zs) 0 48 0 [(0, nk_r l0), (1, nk_r l1), (2, nk_i l2)] [] S R := by
  intro l0 l1 n1 l2 S R t_l0 t_l1 hr
  unfold ja_X10_setText at hr
  refine nk_p (i := .iload_n 2) (len := 1) (pc' := 1) mJ_48 (by decide +kernel) (ns_iload_n 2 rfl rfl) rfl ?_
  refine nk_icond (c := .lt) (off := 40) (len := 3) (t := 41) (pc' := 4) mJ_48 (by decide +kernel) (by decide +kernel) rfl (fun hc => ?_) (fun hc => ?_)
  · have hr := nk_ifp (c := l2 < 0) hc hr
    cases hr
    exact nk_vret (len := 1) mJ_48 (by decide +kernel) rfl
  · have hr := nk_ifn (c := l2 < 0) hc hr
    refine nk_p (i := .iload_n 2) (len := 1) (pc' := 5) mJ_48 (by decide +kernel) (ns_iload_n 2 rfl rfl) rfl ?_
    refine nk_p (i := .aload_n 1) (len := 1) (pc' := 6) mJ_48 (by decide +kernel) (ns_aload_n 1 rfl rfl) rfl ?_
    refine nk_alen (len := 1) (N := (n1 : Int)) (pc' := 7) mJ_48 (by decide +kernel) t_l1 rfl rfl ?_
    refine nk_icmp (c := .gt) (off := 34) (len := 3) (t := 41) (pc' := 10) mJ_48 (by decide +kernel) (by decide +kernel) rfl (fun hc => ?_) (fun hc => ?_)
    · have hr := nk_ifp (c := (n1 : Int) < l2) hc hr
      cases hr
      exact nk_vret (len := 1) mJ_48 (by decide +kernel) rfl
    · have hr := nk_ifn (c := (n1 : Int) < l2) hc hr
      refine nk_p (i := .iload_n 2) (len := 1) (pc' := 11) mJ_48 (by decide +kernel) (ns_iload_n 2 rfl rfl) rfl ?_
      refine nk_p (i := .sipush 16000) (len := 3) (pc' := 14) mJ_48 (by decide +kernel) (ns_sipush (c := 16000) (by decide +kernel)) rfl ?_
      refine nk_icmp (c := .gt) (off := 27) (len := 3) (t := 41) (pc' := 17) mJ_48 (by decide +kernel) (by decide +kernel) rfl (fun hc => ?_) (fun hc => ?_)
      · have hr := nk_ifp (c := 16000 < l2) hc hr
        cases hr
        exact nk_vret (len := 1) mJ_48 (by decide +kernel) rfl
      · have hr := nk_ifn (c := 16000 < l2) hc hr
        refine nk_p (i := .aload_n 1) (len := 1) (pc' := 18) mJ_48 (by decide +kernel) (ns_aload_n 1 rfl rfl) rfl ?_
        refine nk_p (i := .iconst 0) (len := 1) (pc' := 19) mJ_48 (by decide +kernel) (ns_iconst (c := 0) (by decide +kernel)) rfl ?_
        refine nk_p (i := .aload_n 0) (len := 1) (pc' := 20) mJ_48 (by decide +kernel) (ns_aload_n 0 rfl rfl) rfl ?_
        refine nk_getC (f := (4, 0, 16512)) (x := 9) (len := 3) (ci := 10) (k := 0) (pc' := 23) ja_okT mJ_48 (by decide +kernel) (by decide +kernel) (by decide +kernel) (by decide) t_l0 rfl ?_
        have t1 : nk_ar ja_Tt (ja_c l0 0) = some (0, 16512) := nk_ta ja_okT t_l0 (by decide +kernel)
        refine nk_p (i := .aload_n 0) (len := 1) (pc' := 24) mJ_48 (by decide +kernel) (ns_aload_n 0 rfl rfl) rfl ?_
        refine nk_getI (y := (0, 0)) (x := 50) (len := 3) (ci := 10) (k := 1) (pc' := 27) ja_okT mJ_48 (by decide +kernel) (by decide +kernel) (by decide +kernel) t_l0 rfl ?_
        refine nk_p (i := .iload_n 2) (len := 1) (pc' := 28) mJ_48 (by decide +kernel) (ns_iload_n 2 rfl rfl) rfl ?_
        obtain ⟨h2, hr⟩ := nk_cke hr
        obtain ⟨S3, h4, hr⟩ := nk_lte hr
        refine nk_copy (x := 95) (len := 3) (t := 0) (N0 := (n1 : Int)) (N1 := 16512) (q1 := 9999) (q2 := 0) (q3 := 0) (pc' := 31) mJ_48 (by decide +kernel) (by decide +kernel) t_l1 t1 h2.1 h2.2.1 h2.2.2.1 h2.2.2.2.1 h2.2.2.2.2 rfl rfl (Nat.le_of_ble_eq_true rfl) rfl h4 ?_
        refine nk_p (i := .aload_n 0) (len := 1) (pc' := 32) mJ_48 (by decide +kernel) (ns_aload_n 0 rfl rfl) rfl ?_
        refine nk_p (i := .aload_n 0) (len := 1) (pc' := 33) mJ_48 (by decide +kernel) (ns_aload_n 0 rfl rfl) rfl ?_
        refine nk_getI (y := (0, 0)) (x := 50) (len := 3) (ci := 10) (k := 1) (pc' := 36) ja_okT mJ_48 (by decide +kernel) (by decide +kernel) (by decide +kernel) t_l0 rfl ?_
        refine nk_p (i := .iload_n 2) (len := 1) (pc' := 37) mJ_48 (by decide +kernel) (ns_iload_n 2 rfl rfl) rfl ?_
        refine nk_p (i := .iadd) (len := 1) (pc' := 38) mJ_48 (by decide +kernel) ns_iadd rfl ?_
        obtain ⟨S5, h6, hr⟩ := nk_lte hr
        refine nk_putI (y := (0, 0)) (ty := .int) (x := 54) (len := 3) (ci := 10) (k := 2) (pc' := 41) ja_okT mJ_48 (by decide +kernel) (by decide +kernel) (by decide +kernel) t_l0 (Or.inl rfl) rfl h6 ?_
        cases hr
        exact nk_vret (len := 1) mJ_48 (by decide +kernel) rfl
/-! SafeCode$Words typeOf (I)I -/
noncomputable def ja_X10_typeOf_b45 (l2 : Int) (s0 : Nat) (s1 : Int) (S : nk_S) : Option (Int × nk_S) :=
  nk_bd (ja_X10_firstOf s0 s1 S) fun r1 S2 =>
  if 0 ≤ r1 then
    if l2 = 0 then
      some ((nk_w ((nk_w (4 + (nk_w (2 * r1)))) + 0)), S2)
    else
      some ((nk_w ((nk_w (4 + (nk_w (2 * r1)))) + 1)), S2)
  else
    some ((-2), S2)
theorem ja_X10_typeOf_b45_ok (zs : List Int32) : ∀ (l2 : Int) (s0 : Nat) (s1 : Int) (S : nk_S) (R : Int × nk_S), nk_cl ja_Tt s0 = some 10 → ja_X10_typeOf_b45 l2 s0 s1 S = some R → nk_K ja_Tt mi_Γ (mi_ev zs) 1 51 45 [(2, nk_i l2)] [nk_i s1, nk_r s0] S R := by
  intro l2 s0 s1 S R t_s0 hr
  unfold ja_X10_typeOf_b45 at hr
  obtain ⟨r1, S2, h3, hr⟩ := nk_bde hr
  refine nk_callV (ci := 10) (n := 1) (x := 138) (len := 3) (j' := 35) (q' := 1) (r := r1) (S' := S2) (L2 := [(0, nk_r s0), (1, nk_i s1)]) (rest := []) (st' := [nk_i r1]) (pc' := 48) mJ_51 (by decide +kernel) (by decide +kernel) rfl rfl t_s0 (Nat.le_of_ble_eq_true rfl) mJ_35 (Nat.le_of_ble_eq_true rfl) rfl (ja_X10_firstOf_ok zs _ _ _ _ t_s0 h3) rfl ?_
  refine nk_p (i := .istore_n 3) (len := 1) (pc' := 49) mJ_51 (by decide +kernel) (ns_istore_n (L' := [(3, nk_i r1), (2, nk_i l2)]) rfl rfl rfl (by decide +kernel)) rfl ?_
  refine nk_p (i := .iload_n 3) (len := 1) (pc' := 50) mJ_51 (by decide +kernel) (ns_iload_n 0 rfl rfl) rfl ?_
  refine nk_icond (c := .ge) (off := 8) (len := 3) (t := 58) (pc' := 53) mJ_51 (by decide +kernel) (by decide +kernel) rfl (fun hc => ?_) (fun hc => ?_)
  · have hr := nk_ifp (c := 0 ≤ r1) hc hr
    refine nk_p (i := .iconst 4) (len := 1) (pc' := 59) mJ_51 (by decide +kernel) (ns_iconst (c := 4) (by decide +kernel)) rfl ?_
    refine nk_p (i := .iconst 2) (len := 1) (pc' := 60) mJ_51 (by decide +kernel) (ns_iconst (c := 2) (by decide +kernel)) rfl ?_
    refine nk_p (i := .iload_n 3) (len := 1) (pc' := 61) mJ_51 (by decide +kernel) (ns_iload_n 0 rfl rfl) rfl ?_
    refine nk_p (i := .imul) (len := 1) (pc' := 62) mJ_51 (by decide +kernel) ns_imul rfl ?_
    refine nk_p (i := .iadd) (len := 1) (pc' := 63) mJ_51 (by decide +kernel) ns_iadd rfl ?_
    refine nk_p (i := .iload_n 2) (len := 1) (pc' := 64) mJ_51 (by decide +kernel) (ns_iload_n 1 rfl rfl) rfl ?_
    refine nk_icond (c := .eq) (off := 7) (len := 3) (t := 71) (pc' := 67) mJ_51 (by decide +kernel) (by decide +kernel) rfl (fun hc => ?_) (fun hc => ?_)
    · have hr := nk_ifp (c := l2 = 0) hc hr
      refine nk_p (i := .iconst 0) (len := 1) (pc' := 72) mJ_51 (by decide +kernel) (ns_iconst (c := 0) (by decide +kernel)) rfl ?_
      refine nk_p (i := .iadd) (len := 1) (pc' := 73) mJ_51 (by decide +kernel) ns_iadd rfl ?_
      cases hr
      exact nk_iret (ty := .int) (len := 1) mJ_51 (by decide +kernel) rfl (nk_nar_i _)
    · have hr := nk_ifn (c := l2 = 0) hc hr
      refine nk_p (i := .iconst 1) (len := 1) (pc' := 68) mJ_51 (by decide +kernel) (ns_iconst (c := 1) (by decide +kernel)) rfl ?_
      refine nk_p (i := .goto 4) (len := 3) (pc' := 72) mJ_51 (by decide +kernel) (ns_goto (by decide +kernel)) rfl ?_
      refine nk_p (i := .iadd) (len := 1) (pc' := 73) mJ_51 (by decide +kernel) ns_iadd rfl ?_
      cases hr
      exact nk_iret (ty := .int) (len := 1) mJ_51 (by decide +kernel) rfl (nk_nar_i _)
  · have hr := nk_ifn (c := 0 ≤ r1) hc hr
    refine nk_p (i := .bipush (-2)) (len := 2) (pc' := 55) mJ_51 (by decide +kernel) (ns_bipush (c := (-2)) (by decide +kernel)) rfl ?_
    refine nk_p (i := .goto 18) (len := 3) (pc' := 73) mJ_51 (by decide +kernel) (ns_goto (by decide +kernel)) rfl ?_
    cases hr
    exact nk_iret (ty := .int) (len := 1) mJ_51 (by decide +kernel) rfl (nk_nar_i _)
noncomputable def ja_X10_typeOf (l0 : Nat) (l1 : Int) (S : nk_S) : Option (Int × nk_S) :=
  if l1 = 52 then
    some (1, S)
  else
    if l1 = 54 then
      some (3, S)
    else
      if l1 = 53 then
        some ((-1), S)
      else
        nk_bd (ja_X10_hasShape l0 l1 4 S) fun r1 S2 =>
        if r1 = 0 then
          ja_X10_typeOf_b45 r1 l0 l1 S2
        else
          nk_bd (ja_X10_firstOf l0 l1 S2) fun r4 S5 =>
          ja_X10_typeOf_b45 r1 l0 r4 S5
theorem ja_X10_typeOf_ok (zs : List Int32) : ∀ (l0 : Nat) (l1 : Int) (S : nk_S) (R : Int × nk_S), nk_cl ja_Tt l0 = some 10 → ja_X10_typeOf l0 l1 S = some R → nk_K ja_Tt mi_Γ (mi_ev zs) 1 51 0 [(0, nk_r l0), (1, nk_i l1)] [] S R := by
  intro l0 l1 S R t_l0 hr
  unfold ja_X10_typeOf at hr
  refine nk_p (i := .iload_n 1) (len := 1) (pc' := 1) mJ_51 (by decide +kernel) (ns_iload_n 1 rfl rfl) rfl ?_
  refine nk_p (i := .bipush 52) (len := 2) (pc' := 3) mJ_51 (by decide +kernel) (ns_bipush (c := 52) (by decide +kernel)) rfl ?_
  refine nk_icmp (c := .ne) (off := 5) (len := 3) (t := 8) (pc' := 6) mJ_51 (by decide +kernel) (by decide +kernel) rfl (fun hc => ?_) (fun hc => ?_)
  · have hr := nk_ifn (c := l1 = 52) hc hr
    refine nk_p (i := .iload_n 1) (len := 1) (pc' := 9) mJ_51 (by decide +kernel) (ns_iload_n 1 rfl rfl) rfl ?_
    refine nk_p (i := .bipush 54) (len := 2) (pc' := 11) mJ_51 (by decide +kernel) (ns_bipush (c := 54) (by decide +kernel)) rfl ?_
    refine nk_icmp (c := .ne) (off := 5) (len := 3) (t := 16) (pc' := 14) mJ_51 (by decide +kernel) (by decide +kernel) rfl (fun hc => ?_) (fun hc => ?_)
    · have hr := nk_ifn (c := l1 = 54) hc hr
      refine nk_p (i := .iload_n 1) (len := 1) (pc' := 17) mJ_51 (by decide +kernel) (ns_iload_n 1 rfl rfl) rfl ?_
      refine nk_p (i := .bipush 53) (len := 2) (pc' := 19) mJ_51 (by decide +kernel) (ns_bipush (c := 53) (by decide +kernel)) rfl ?_
      refine nk_icmp (c := .ne) (off := 5) (len := 3) (t := 24) (pc' := 22) mJ_51 (by decide +kernel) (by decide +kernel) rfl (fun hc => ?_) (fun hc => ?_)
      · have hr := nk_ifn (c := l1 = 53) hc hr
        refine nk_p (i := .aload_n 0) (len := 1) (pc' := 25) mJ_51 (by decide +kernel) (ns_aload_n 0 rfl rfl) rfl ?_
        refine nk_p (i := .iload_n 1) (len := 1) (pc' := 26) mJ_51 (by decide +kernel) (ns_iload_n 1 rfl rfl) rfl ?_
        refine nk_p (i := .iconst 4) (len := 1) (pc' := 27) mJ_51 (by decide +kernel) (ns_iconst (c := 4) (by decide +kernel)) rfl ?_
        obtain ⟨r1, S2, h3, hr⟩ := nk_bde hr
        refine nk_callV (ci := 10) (n := 2) (x := 135) (len := 3) (j' := 37) (q' := 1) (r := r1) (S' := S2) (L2 := [(0, nk_r l0), (1, nk_i l1), (2, nk_i 4)]) (rest := []) (st' := [nk_i r1]) (pc' := 30) mJ_51 (by decide +kernel) (by decide +kernel) rfl rfl t_l0 (Nat.le_of_ble_eq_true rfl) mJ_37 (Nat.le_of_ble_eq_true rfl) rfl (ja_X10_hasShape_ok zs _ _ _ _ _ t_l0 h3) rfl ?_
        refine nk_p (i := .istore_n 2) (len := 1) (pc' := 31) mJ_51 (by decide +kernel) (ns_istore_n (L' := [(2, nk_i r1), (0, nk_r l0), (1, nk_i l1)]) rfl rfl rfl (by decide +kernel)) rfl ?_
        refine nk_p (i := .aload_n 0) (len := 1) (pc' := 32) mJ_51 (by decide +kernel) (ns_aload_n 1 rfl rfl) rfl ?_
        refine nk_p (i := .iload_n 2) (len := 1) (pc' := 33) mJ_51 (by decide +kernel) (ns_iload_n 0 rfl rfl) rfl ?_
        refine nk_icond (c := .eq) (off := 11) (len := 3) (t := 44) (pc' := 36) mJ_51 (by decide +kernel) (by decide +kernel) rfl (fun hc => ?_) (fun hc => ?_)
        · have hr := nk_ifp (c := r1 = 0) hc hr
          refine nk_p (i := .iload_n 1) (len := 1) (pc' := 45) mJ_51 (by decide +kernel) (ns_iload_n 2 rfl rfl) rfl ?_
          refine nk_sub [0] (L' := [(2, nk_i r1)]) rfl ?_
          exact ja_X10_typeOf_b45_ok zs _ _ _ _ _ t_l0 hr
        · have hr := nk_ifn (c := r1 = 0) hc hr
          refine nk_p (i := .aload_n 0) (len := 1) (pc' := 37) mJ_51 (by decide +kernel) (ns_aload_n 1 rfl rfl) rfl ?_
          refine nk_p (i := .iload_n 1) (len := 1) (pc' := 38) mJ_51 (by decide +kernel) (ns_iload_n 2 rfl rfl) rfl ?_
          obtain ⟨r4, S5, h6, hr⟩ := nk_bde hr
          refine nk_callV (ci := 10) (n := 1) (x := 138) (len := 3) (j' := 35) (q' := 1) (r := r4) (S' := S5) (L2 := [(0, nk_r l0), (1, nk_i l1)]) (rest := [nk_r l0]) (st' := [nk_i r4, nk_r l0]) (pc' := 41) mJ_51 (by decide +kernel) (by decide +kernel) rfl rfl t_l0 (Nat.le_of_ble_eq_true rfl) mJ_35 (Nat.le_of_ble_eq_true rfl) rfl (ja_X10_firstOf_ok zs _ _ _ _ t_l0 h6) rfl ?_
          refine nk_p (i := .goto 4) (len := 3) (pc' := 45) mJ_51 (by decide +kernel) (ns_goto (by decide +kernel)) rfl ?_
          refine nk_sub [0] (L' := [(2, nk_i r1)]) rfl ?_
          exact ja_X10_typeOf_b45_ok zs _ _ _ _ _ t_l0 hr
      · have hr := nk_ifp (c := l1 = 53) (Decidable.of_not_not hc) hr
        refine nk_p (i := .iconst (-1)) (len := 1) (pc' := 23) mJ_51 (by decide +kernel) (ns_iconst (c := (-1)) (by decide +kernel)) rfl ?_
        cases hr
        exact nk_iret (ty := .int) (len := 1) mJ_51 (by decide +kernel) rfl (nk_nar_i _)
    · have hr := nk_ifp (c := l1 = 54) (Decidable.of_not_not hc) hr
      refine nk_p (i := .iconst 3) (len := 1) (pc' := 15) mJ_51 (by decide +kernel) (ns_iconst (c := 3) (by decide +kernel)) rfl ?_
      cases hr
      exact nk_iret (ty := .int) (len := 1) mJ_51 (by decide +kernel) rfl (nk_nar_i _)
  · have hr := nk_ifp (c := l1 = 52) (Decidable.of_not_not hc) hr
    refine nk_p (i := .iconst 1) (len := 1) (pc' := 7) mJ_51 (by decide +kernel) (ns_iconst (c := 1) (by decide +kernel)) rfl ?_
    cases hr
    exact nk_iret (ty := .int) (len := 1) mJ_51 (by decide +kernel) rfl (nk_nar_i _)
/-! SafeCode end (I)Z -/
noncomputable def ja_X11_end (l0 : Nat) (l1 : Int) (S : nk_S) : Option (Int × nk_S) :=
  if l1 < 0 then
    some (0, S)
  else
    if l1 ≤ (S.1 l0 1) then
      nk_bd (ja_X10_setText (ja_c l0 3) (ja_c l0 0) 16000 l1 S) fun r3 S4 =>
      nk_lt (nk_wi S4 l0 1 0) fun S6 =>
      some (1, S6)
    else
      some (0, S)
theorem ja_X11_end_ok (zs : List Int32) : ∀ (l0 : Nat) (l1 : Int) (S : nk_S) (R : Int × nk_S), nk_cl ja_Tt l0 = some 11 → ja_X11_end l0 l1 S = some R → nk_K ja_Tt mi_Γ (mi_ev zs) 1 52 0 [(0, nk_r l0), (1, nk_i l1)] [] S R := by
  intro l0 l1 S R t_l0 hr
  unfold ja_X11_end at hr
  refine nk_p (i := .iload_n 1) (len := 1) (pc' := 1) mJ_52 (by decide +kernel) (ns_iload_n 1 rfl rfl) rfl ?_
  refine nk_icond (c := .lt) (off := 11) (len := 3) (t := 12) (pc' := 4) mJ_52 (by decide +kernel) (by decide +kernel) rfl (fun hc => ?_) (fun hc => ?_)
  · have hr := nk_ifp (c := l1 < 0) hc hr
    refine nk_p (i := .iconst 0) (len := 1) (pc' := 13) mJ_52 (by decide +kernel) (ns_iconst (c := 0) (by decide +kernel)) rfl ?_
    cases hr
    exact nk_iret (ty := .boolean) (len := 1) mJ_52 (by decide +kernel) rfl (nk_nar_z (by decide))
  · have hr := nk_ifn (c := l1 < 0) hc hr
    refine nk_p (i := .iload_n 1) (len := 1) (pc' := 5) mJ_52 (by decide +kernel) (ns_iload_n 1 rfl rfl) rfl ?_
    refine nk_p (i := .aload_n 0) (len := 1) (pc' := 6) mJ_52 (by decide +kernel) (ns_aload_n 0 rfl rfl) rfl ?_
    refine nk_getI (y := (0, 0)) (x := 72) (len := 3) (ci := 11) (k := 1) (pc' := 9) ja_okT mJ_52 (by decide +kernel) (by decide +kernel) (by decide +kernel) t_l0 rfl ?_
    refine nk_icmp (c := .le) (off := 5) (len := 3) (t := 14) (pc' := 12) mJ_52 (by decide +kernel) (by decide +kernel) rfl (fun hc => ?_) (fun hc => ?_)
    · have hr := nk_ifp (c := l1 ≤ (S.1 l0 1)) hc hr
      refine nk_p (i := .aload_n 0) (len := 1) (pc' := 15) mJ_52 (by decide +kernel) (ns_aload_n 0 rfl rfl) rfl ?_
      refine nk_getC (f := (2, 10, 0)) (x := 16) (len := 3) (ci := 11) (k := 3) (pc' := 18) ja_okT mJ_52 (by decide +kernel) (by decide +kernel) (by decide +kernel) (by decide) t_l0 rfl ?_
      have t1 : nk_cl ja_Tt (ja_c l0 3) = some 10 := nk_tc (y := 0) ja_okT t_l0 (by decide +kernel)
      refine nk_p (i := .aload_n 0) (len := 1) (pc' := 19) mJ_52 (by decide +kernel) (ns_aload_n 0 rfl rfl) rfl ?_
      refine nk_getC (f := (4, 0, 16000)) (x := 9) (len := 3) (ci := 11) (k := 0) (pc' := 22) ja_okT mJ_52 (by decide +kernel) (by decide +kernel) (by decide +kernel) (by decide) t_l0 rfl ?_
      have t2 : nk_ar ja_Tt (ja_c l0 0) = some (0, 16000) := nk_ta ja_okT t_l0 (by decide +kernel)
      refine nk_p (i := .iload_n 1) (len := 1) (pc' := 23) mJ_52 (by decide +kernel) (ns_iload_n 1 rfl rfl) rfl ?_
      obtain ⟨r3, S4, h5, hr⟩ := nk_bde hr
      refine nk_callV (ci := 10) (n := 2) (x := 83) (len := 3) (j' := 48) (q' := 0) (r := r3) (S' := S4) (L2 := [(0, nk_r (ja_c l0 3)), (1, nk_r (ja_c l0 0)), (2, nk_i l1)]) (rest := []) (st' := []) (pc' := 26) mJ_52 (by decide +kernel) (by decide +kernel) rfl rfl t1 (Nat.le_of_ble_eq_true rfl) mJ_48 (Nat.le_of_ble_eq_true rfl) rfl (ja_X10_setText_ok zs _ _ _ _ _ _ t1 t2 h5) rfl ?_
      refine nk_p (i := .aload_n 0) (len := 1) (pc' := 27) mJ_52 (by decide +kernel) (ns_aload_n 0 rfl rfl) rfl ?_
      refine nk_p (i := .iconst 0) (len := 1) (pc' := 28) mJ_52 (by decide +kernel) (ns_iconst (c := 0) (by decide +kernel)) rfl ?_
      obtain ⟨S6, h7, hr⟩ := nk_lte hr
      refine nk_putI (y := (0, 0)) (ty := .int) (x := 72) (len := 3) (ci := 11) (k := 1) (pc' := 31) ja_okT mJ_52 (by decide +kernel) (by decide +kernel) (by decide +kernel) t_l0 (Or.inl rfl) rfl h7 ?_
      refine nk_p (i := .iconst 1) (len := 1) (pc' := 32) mJ_52 (by decide +kernel) (ns_iconst (c := 1) (by decide +kernel)) rfl ?_
      cases hr
      exact nk_iret (ty := .boolean) (len := 1) mJ_52 (by decide +kernel) rfl (nk_nar_z (by decide))
    · have hr := nk_ifn (c := l1 ≤ (S.1 l0 1)) hc hr
      refine nk_p (i := .iconst 0) (len := 1) (pc' := 13) mJ_52 (by decide +kernel) (ns_iconst (c := 0) (by decide +kernel)) rfl ?_
      cases hr
      exact nk_iret (ty := .boolean) (len := 1) mJ_52 (by decide +kernel) rfl (nk_nar_z (by decide))
/-! SafeCode ends ()J -/
noncomputable def ja_X11_ends (l0 : Nat) (S : nk_S) : Option (Int × nk_S) :=
  if (S.1 l0 6) = 0 then
    some (0, S)
  else
    if 0 ≤ (S.1 (ja_c (S.2 l0 4) 1) 1) ∧ (S.1 (ja_c (S.2 l0 4) 1) 1) < 48 then
    some ((S.1 (ja_c (ja_c (ja_c l0 10) 3) 5) (S.1 (ja_c (S.2 l0 4) 1) 1).toNat), S)
    else none
theorem ja_X11_ends_ok (zs : List Int32) : ∀ (l0 : Nat) (S : nk_S) (R : Int × nk_S), nk_cl ja_Tt l0 = some 11 → ja_X11_ends l0 S = some R → nk_K ja_Tt mi_Γ (mi_ev zs) 2 53 0 [(0, nk_r l0)] [] S R := by
  intro l0 S R t_l0 hr
  unfold ja_X11_ends at hr
  refine nk_p (i := .aload_n 0) (len := 1) (pc' := 1) mJ_53 (by decide +kernel) (ns_aload_n 0 rfl rfl) rfl ?_
  refine nk_getI (y := (0, 0)) (x := 108) (len := 3) (ci := 11) (k := 6) (pc' := 4) ja_okT mJ_53 (by decide +kernel) (by decide +kernel) (by decide +kernel) t_l0 rfl ?_
  refine nk_icond (c := .eq) (off := 27) (len := 3) (t := 31) (pc' := 7) mJ_53 (by decide +kernel) (by decide +kernel) rfl (fun hc => ?_) (fun hc => ?_)
  · have hr := nk_ifp (c := (S.1 l0 6) = 0) hc hr
    refine nk_p (i := .lconst 0) (len := 1) (pc' := 32) mJ_53 (by decide +kernel) (ns_lconst (c := 0) (by decide +kernel)) rfl ?_
    cases hr
    exact nk_lret (len := 1) mJ_53 (by decide +kernel) rfl
  · have hr := nk_ifn (c := (S.1 l0 6) = 0) hc hr
    refine nk_p (i := .aload_n 0) (len := 1) (pc' := 8) mJ_53 (by decide +kernel) (ns_aload_n 0 rfl rfl) rfl ?_
    refine nk_getC (f := (2, 4, 0)) (x := 55) (len := 3) (ci := 11) (k := 10) (pc' := 11) ja_okT mJ_53 (by decide +kernel) (by decide +kernel) (by decide +kernel) (by decide) t_l0 rfl ?_
    have t1 : nk_cl ja_Tt (ja_c l0 10) = some 4 := nk_tc (y := 0) ja_okT t_l0 (by decide +kernel)
    refine nk_getC (f := (2, 8, 0)) (x := 153) (len := 3) (ci := 4) (k := 3) (pc' := 14) ja_okT mJ_53 (by decide +kernel) (by decide +kernel) (by decide +kernel) (by decide) t1 rfl ?_
    have t2 : nk_cl ja_Tt (ja_c (ja_c l0 10) 3) = some 8 := nk_tc (y := 0) ja_okT t1 (by decide +kernel)
    refine nk_getC (f := (4, 2, 48)) (x := 157) (len := 3) (ci := 8) (k := 5) (pc' := 17) ja_okT mJ_53 (by decide +kernel) (by decide +kernel) (by decide +kernel) (by decide) t2 rfl ?_
    have t3 : nk_ar ja_Tt (ja_c (ja_c (ja_c l0 10) 3) 5) = some (2, 48) := nk_ta ja_okT t2 (by decide +kernel)
    refine nk_p (i := .aload_n 0) (len := 1) (pc' := 18) mJ_53 (by decide +kernel) (ns_aload_n 0 rfl rfl) rfl ?_
    refine nk_getM (cj := 3) (z := 0) (x := 23) (len := 3) (ci := 11) (k := 4) (pc' := 21) ja_okT mJ_53 (by decide +kernel) (by decide +kernel) (by decide +kernel) t_l0 rfl (fun t4 => ?_)
    refine nk_getC (f := (2, 0, 0)) (x := 121) (len := 3) (ci := 3) (k := 1) (pc' := 24) ja_okT mJ_53 (by decide +kernel) (by decide +kernel) (by decide +kernel) (by decide) t4 rfl ?_
    have t5 : nk_cl ja_Tt (ja_c (S.2 l0 4) 1) = some 0 := nk_tc (y := 0) ja_okT t4 (by decide +kernel)
    refine nk_getI (y := (0, 0)) (x := 162) (len := 3) (ci := 0) (k := 1) (pc' := 27) ja_okT mJ_53 (by decide +kernel) (by decide +kernel) (by decide +kernel) t5 rfl ?_
    obtain ⟨h6, hr⟩ := nk_cke hr
    refine nk_lald (len := 1) (N := 48) (pc' := 28) mJ_53 (by decide +kernel) t3 h6.1 h6.2 rfl rfl ?_
    refine nk_p (i := .goto 4) (len := 3) (pc' := 32) mJ_53 (by decide +kernel) (ns_goto (by decide +kernel)) rfl ?_
    cases hr
    exact nk_lret (len := 1) mJ_53 (by decide +kernel) rfl
/-! SafeCode isInstruction (I)Z -/
noncomputable def ja_X11_isInstruction (l0 : Nat) (l1 : Int) (S : nk_S) : Option (Int × nk_S) :=
  if (S.1 l0 6) = 0 then
    some (0, S)
  else
    if l1 < 0 then
      some (0, S)
    else
      if (S.1 (S.2 l0 4) 3) ≤ l1 then
        some (0, S)
      else
        some (1, S)
theorem ja_X11_isInstruction_ok (zs : List Int32) : ∀ (l0 : Nat) (l1 : Int) (S : nk_S) (R : Int × nk_S), nk_cl ja_Tt l0 = some 11 → ja_X11_isInstruction l0 l1 S = some R → nk_K ja_Tt mi_Γ (mi_ev zs) 1 64 0 [(0, nk_r l0), (1, nk_i l1)] [] S R := by
  intro l0 l1 S R t_l0 hr
  unfold ja_X11_isInstruction at hr
  refine nk_p (i := .aload_n 0) (len := 1) (pc' := 1) mJ_64 (by decide +kernel) (ns_aload_n 0 rfl rfl) rfl ?_
  refine nk_getI (y := (0, 0)) (x := 108) (len := 3) (ci := 11) (k := 6) (pc' := 4) ja_okT mJ_64 (by decide +kernel) (by decide +kernel) (by decide +kernel) t_l0 rfl ?_
  refine nk_icond (c := .eq) (off := 22) (len := 3) (t := 26) (pc' := 7) mJ_64 (by decide +kernel) (by decide +kernel) rfl (fun hc => ?_) (fun hc => ?_)
  · have hr := nk_ifp (c := (S.1 l0 6) = 0) hc hr
    refine nk_p (i := .iconst 0) (len := 1) (pc' := 27) mJ_64 (by decide +kernel) (ns_iconst (c := 0) (by decide +kernel)) rfl ?_
    cases hr
    exact nk_iret (ty := .boolean) (len := 1) mJ_64 (by decide +kernel) rfl (nk_nar_z (by decide))
  · have hr := nk_ifn (c := (S.1 l0 6) = 0) hc hr
    refine nk_p (i := .iload_n 1) (len := 1) (pc' := 8) mJ_64 (by decide +kernel) (ns_iload_n 1 rfl rfl) rfl ?_
    refine nk_icond (c := .lt) (off := 18) (len := 3) (t := 26) (pc' := 11) mJ_64 (by decide +kernel) (by decide +kernel) rfl (fun hc => ?_) (fun hc => ?_)
    · have hr := nk_ifp (c := l1 < 0) hc hr
      refine nk_p (i := .iconst 0) (len := 1) (pc' := 27) mJ_64 (by decide +kernel) (ns_iconst (c := 0) (by decide +kernel)) rfl ?_
      cases hr
      exact nk_iret (ty := .boolean) (len := 1) mJ_64 (by decide +kernel) rfl (nk_nar_z (by decide))
    · have hr := nk_ifn (c := l1 < 0) hc hr
      refine nk_p (i := .iload_n 1) (len := 1) (pc' := 12) mJ_64 (by decide +kernel) (ns_iload_n 1 rfl rfl) rfl ?_
      refine nk_p (i := .aload_n 0) (len := 1) (pc' := 13) mJ_64 (by decide +kernel) (ns_aload_n 0 rfl rfl) rfl ?_
      refine nk_getM (cj := 3) (z := 0) (x := 23) (len := 3) (ci := 11) (k := 4) (pc' := 16) ja_okT mJ_64 (by decide +kernel) (by decide +kernel) (by decide +kernel) t_l0 rfl (fun t1 => ?_)
      refine nk_getI (y := (0, 0)) (x := 115) (len := 3) (ci := 3) (k := 3) (pc' := 19) ja_okT mJ_64 (by decide +kernel) (by decide +kernel) (by decide +kernel) t1 rfl ?_
      refine nk_icmp (c := .ge) (off := 7) (len := 3) (t := 26) (pc' := 22) mJ_64 (by decide +kernel) (by decide +kernel) rfl (fun hc => ?_) (fun hc => ?_)
      · have hr := nk_ifp (c := (S.1 (S.2 l0 4) 3) ≤ l1) hc hr
        refine nk_p (i := .iconst 0) (len := 1) (pc' := 27) mJ_64 (by decide +kernel) (ns_iconst (c := 0) (by decide +kernel)) rfl ?_
        cases hr
        exact nk_iret (ty := .boolean) (len := 1) mJ_64 (by decide +kernel) rfl (nk_nar_z (by decide))
      · have hr := nk_ifn (c := (S.1 (S.2 l0 4) 3) ≤ l1) hc hr
        refine nk_p (i := .iconst 1) (len := 1) (pc' := 23) mJ_64 (by decide +kernel) (ns_iconst (c := 1) (by decide +kernel)) rfl ?_
        refine nk_p (i := .goto 4) (len := 3) (pc' := 27) mJ_64 (by decide +kernel) (ns_goto (by decide +kernel)) rfl ?_
        cases hr
        exact nk_iret (ty := .boolean) (len := 1) mJ_64 (by decide +kernel) rfl (nk_nar_z (by decide))
/-! SafeCode errors (I)I -/
noncomputable def ja_X11_errors (l0 : Nat) (l1 : Int) (S : nk_S) : Option (Int × nk_S) :=
  nk_bd (ja_X11_isInstruction l0 l1 S) fun r1 S2 =>
  if r1 = 0 then
    some ((-1), S2)
  else
    if 0 ≤ l1 ∧ l1 < 1024 then
    some ((S2.1 (ja_c (ja_c l0 10) 4) l1.toNat), S2)
    else none
theorem ja_X11_errors_ok (zs : List Int32) : ∀ (l0 : Nat) (l1 : Int) (S : nk_S) (R : Int × nk_S), nk_cl ja_Tt l0 = some 11 → ja_X11_errors l0 l1 S = some R → nk_K ja_Tt mi_Γ (mi_ev zs) 1 54 0 [(0, nk_r l0), (1, nk_i l1)] [] S R := by
  intro l0 l1 S R t_l0 hr
  unfold ja_X11_errors at hr
  refine nk_p (i := .aload_n 0) (len := 1) (pc' := 1) mJ_54 (by decide +kernel) (ns_aload_n 0 rfl rfl) rfl ?_
  refine nk_p (i := .iload_n 1) (len := 1) (pc' := 2) mJ_54 (by decide +kernel) (ns_iload_n 1 rfl rfl) rfl ?_
  obtain ⟨r1, S2, h3, hr⟩ := nk_bde hr
  refine nk_callV (ci := 11) (n := 1) (x := 142) (len := 3) (j' := 64) (q' := 1) (r := r1) (S' := S2) (L2 := [(0, nk_r l0), (1, nk_i l1)]) (rest := []) (st' := [nk_i r1]) (pc' := 5) mJ_54 (by decide +kernel) (by decide +kernel) rfl rfl t_l0 (Nat.le_of_ble_eq_true rfl) mJ_64 (Nat.le_of_ble_eq_true rfl) rfl (ja_X11_isInstruction_ok zs _ _ _ _ t_l0 h3) rfl ?_
  refine nk_icond (c := .eq) (off := 15) (len := 3) (t := 20) (pc' := 8) mJ_54 (by decide +kernel) (by decide +kernel) rfl (fun hc => ?_) (fun hc => ?_)
  · have hr := nk_ifp (c := r1 = 0) hc hr
    refine nk_p (i := .iconst (-1)) (len := 1) (pc' := 21) mJ_54 (by decide +kernel) (ns_iconst (c := (-1)) (by decide +kernel)) rfl ?_
    cases hr
    exact nk_iret (ty := .int) (len := 1) mJ_54 (by decide +kernel) rfl (nk_nar_i _)
  · have hr := nk_ifn (c := r1 = 0) hc hr
    refine nk_p (i := .aload_n 0) (len := 1) (pc' := 9) mJ_54 (by decide +kernel) (ns_aload_n 0 rfl rfl) rfl ?_
    refine nk_getC (f := (2, 4, 0)) (x := 55) (len := 3) (ci := 11) (k := 10) (pc' := 12) ja_okT mJ_54 (by decide +kernel) (by decide +kernel) (by decide +kernel) (by decide) t_l0 rfl ?_
    have t4 : nk_cl ja_Tt (ja_c l0 10) = some 4 := nk_tc (y := 0) ja_okT t_l0 (by decide +kernel)
    refine nk_getC (f := (4, 1, 1024)) (x := 146) (len := 3) (ci := 4) (k := 4) (pc' := 15) ja_okT mJ_54 (by decide +kernel) (by decide +kernel) (by decide +kernel) (by decide) t4 rfl ?_
    have t5 : nk_ar ja_Tt (ja_c (ja_c l0 10) 4) = some (1, 1024) := nk_ta ja_okT t4 (by decide +kernel)
    refine nk_p (i := .iload_n 1) (len := 1) (pc' := 16) mJ_54 (by decide +kernel) (ns_iload_n 1 rfl rfl) rfl ?_
    obtain ⟨h6, hr⟩ := nk_cke hr
    refine nk_iald (len := 1) (N := 1024) (pc' := 17) mJ_54 (by decide +kernel) t5 h6.1 h6.2 rfl rfl ?_
    refine nk_p (i := .goto 4) (len := 3) (pc' := 21) mJ_54 (by decide +kernel) (ns_goto (by decide +kernel)) rfl ?_
    cases hr
    exact nk_iret (ty := .int) (len := 1) mJ_54 (by decide +kernel) rfl (nk_nar_i _)
/-! SafeCode escapes (I)J -/
noncomputable def ja_X11_escapes (l0 : Nat) (l1 : Int) (S : nk_S) : Option (Int × nk_S) :=
  nk_bd (ja_X11_isInstruction l0 l1 S) fun r1 S2 =>
  if r1 = 0 then
    some (0, S2)
  else
    if 0 ≤ l1 ∧ l1 < 1024 then
    some ((S2.1 (ja_c (ja_c l0 10) 5) l1.toNat), S2)
    else none
theorem ja_X11_escapes_ok (zs : List Int32) : ∀ (l0 : Nat) (l1 : Int) (S : nk_S) (R : Int × nk_S), nk_cl ja_Tt l0 = some 11 → ja_X11_escapes l0 l1 S = some R → nk_K ja_Tt mi_Γ (mi_ev zs) 2 55 0 [(0, nk_r l0), (1, nk_i l1)] [] S R := by
  intro l0 l1 S R t_l0 hr
  unfold ja_X11_escapes at hr
  refine nk_p (i := .aload_n 0) (len := 1) (pc' := 1) mJ_55 (by decide +kernel) (ns_aload_n 0 rfl rfl) rfl ?_
  refine nk_p (i := .iload_n 1) (len := 1) (pc' := 2) mJ_55 (by decide +kernel) (ns_iload_n 1 rfl rfl) rfl ?_
  obtain ⟨r1, S2, h3, hr⟩ := nk_bde hr
  refine nk_callV (ci := 11) (n := 1) (x := 142) (len := 3) (j' := 64) (q' := 1) (r := r1) (S' := S2) (L2 := [(0, nk_r l0), (1, nk_i l1)]) (rest := []) (st' := [nk_i r1]) (pc' := 5) mJ_55 (by decide +kernel) (by decide +kernel) rfl rfl t_l0 (Nat.le_of_ble_eq_true rfl) mJ_64 (Nat.le_of_ble_eq_true rfl) rfl (ja_X11_isInstruction_ok zs _ _ _ _ t_l0 h3) rfl ?_
  refine nk_icond (c := .eq) (off := 15) (len := 3) (t := 20) (pc' := 8) mJ_55 (by decide +kernel) (by decide +kernel) rfl (fun hc => ?_) (fun hc => ?_)
  · have hr := nk_ifp (c := r1 = 0) hc hr
    refine nk_p (i := .lconst 0) (len := 1) (pc' := 21) mJ_55 (by decide +kernel) (ns_lconst (c := 0) (by decide +kernel)) rfl ?_
    cases hr
    exact nk_lret (len := 1) mJ_55 (by decide +kernel) rfl
  · have hr := nk_ifn (c := r1 = 0) hc hr
    refine nk_p (i := .aload_n 0) (len := 1) (pc' := 9) mJ_55 (by decide +kernel) (ns_aload_n 0 rfl rfl) rfl ?_
    refine nk_getC (f := (2, 4, 0)) (x := 55) (len := 3) (ci := 11) (k := 10) (pc' := 12) ja_okT mJ_55 (by decide +kernel) (by decide +kernel) (by decide +kernel) (by decide) t_l0 rfl ?_
    have t4 : nk_cl ja_Tt (ja_c l0 10) = some 4 := nk_tc (y := 0) ja_okT t_l0 (by decide +kernel)
    refine nk_getC (f := (4, 2, 1024)) (x := 149) (len := 3) (ci := 4) (k := 5) (pc' := 15) ja_okT mJ_55 (by decide +kernel) (by decide +kernel) (by decide +kernel) (by decide) t4 rfl ?_
    have t5 : nk_ar ja_Tt (ja_c (ja_c l0 10) 5) = some (2, 1024) := nk_ta ja_okT t4 (by decide +kernel)
    refine nk_p (i := .iload_n 1) (len := 1) (pc' := 16) mJ_55 (by decide +kernel) (ns_iload_n 1 rfl rfl) rfl ?_
    obtain ⟨h6, hr⟩ := nk_cke hr
    refine nk_lald (len := 1) (N := 1024) (pc' := 17) mJ_55 (by decide +kernel) t5 h6.1 h6.2 rfl rfl ?_
    refine nk_p (i := .goto 4) (len := 3) (pc' := 21) mJ_55 (by decide +kernel) (ns_goto (by decide +kernel)) rfl ?_
    cases hr
    exact nk_lret (len := 1) mJ_55 (by decide +kernel) rfl
/-! SafeCode slotAt (II)I -/
noncomputable def ja_X11_slotAt_b94 (l1 : Int) (l2 : Int) (s0 : Int) (S : nk_S) : Option (Int × nk_S) :=
  if s0 = 0 then
    some ((-1), S)
  else
    some ((nk_w ((nk_w (l1 * 20)) + l2)), S)
theorem ja_X11_slotAt_b94_ok (zs : List Int32) : ∀ (l1 : Int) (l2 : Int) (s0 : Int) (S : nk_S) (R : Int × nk_S), ja_X11_slotAt_b94 l1 l2 s0 S = some R → nk_K ja_Tt mi_Γ (mi_ev zs) 1 74 94 [(1, nk_i l1), (2, nk_i l2)] [nk_i s0] S R := by
  intro l1 l2 s0 S R hr
  unfold ja_X11_slotAt_b94 at hr
  refine nk_p (i := .istore_n 3) (len := 1) (pc' := 95) mJ_74 (by decide +kernel) (ns_istore_n (L' := [(3, nk_i s0), (1, nk_i l1), (2, nk_i l2)]) rfl rfl rfl (by decide +kernel)) rfl ?_
  refine nk_p (i := .iload_n 3) (len := 1) (pc' := 96) mJ_74 (by decide +kernel) (ns_iload_n 0 rfl rfl) rfl ?_
  refine nk_icond (c := .eq) (off := 12) (len := 3) (t := 108) (pc' := 99) mJ_74 (by decide +kernel) (by decide +kernel) rfl (fun hc => ?_) (fun hc => ?_)
  · have hr := nk_ifp (c := s0 = 0) hc hr
    refine nk_p (i := .iconst (-1)) (len := 1) (pc' := 109) mJ_74 (by decide +kernel) (ns_iconst (c := (-1)) (by decide +kernel)) rfl ?_
    cases hr
    exact nk_iret (ty := .int) (len := 1) mJ_74 (by decide +kernel) rfl (nk_nar_i _)
  · have hr := nk_ifn (c := s0 = 0) hc hr
    refine nk_p (i := .iload_n 1) (len := 1) (pc' := 100) mJ_74 (by decide +kernel) (ns_iload_n 1 rfl rfl) rfl ?_
    refine nk_p (i := .bipush 20) (len := 2) (pc' := 102) mJ_74 (by decide +kernel) (ns_bipush (c := 20) (by decide +kernel)) rfl ?_
    refine nk_p (i := .imul) (len := 1) (pc' := 103) mJ_74 (by decide +kernel) ns_imul rfl ?_
    refine nk_p (i := .iload_n 2) (len := 1) (pc' := 104) mJ_74 (by decide +kernel) (ns_iload_n 2 rfl rfl) rfl ?_
    refine nk_p (i := .iadd) (len := 1) (pc' := 105) mJ_74 (by decide +kernel) ns_iadd rfl ?_
    refine nk_p (i := .goto 4) (len := 3) (pc' := 109) mJ_74 (by decide +kernel) (ns_goto (by decide +kernel)) rfl ?_
    cases hr
    exact nk_iret (ty := .int) (len := 1) mJ_74 (by decide +kernel) rfl (nk_nar_i _)
noncomputable def ja_X11_slotAt (l0 : Nat) (l1 : Int) (l2 : Int) (S : nk_S) : Option (Int × nk_S) :=
  nk_bd (ja_X11_isInstruction l0 l1 S) fun r1 S2 =>
  if r1 = 0 then
    some ((-1), S2)
  else
    if l2 < 0 then
      some ((-1), S2)
    else
      if 20 ≤ l2 then
        some ((-1), S2)
      else
        if 0 ≤ l1 ∧ l1 < 1024 then
        if (S2.1 (ja_c (ja_c (ja_c l0 10) 2) 2) l1.toNat) = 0 then
          some ((-1), S2)
        else
          if 12 ≤ l2 then
            if (S2.1 (ja_c (S2.2 l0 4) 9) l1.toNat) ≤ (nk_w (l2 - 12)) then
              ja_X11_slotAt_b94 l1 l2 0 S2
            else
              ja_X11_slotAt_b94 l1 l2 1 S2
          else
            if 0 ≤ (S2.1 (ja_c (S2.2 l0 4) 8) l1.toNat) ∧ (S2.1 (ja_c (S2.2 l0 4) 8) l1.toNat) < 48 then
            if (S2.1 (ja_c (ja_c (S2.2 l0 4) 1) 8) (S2.1 (ja_c (S2.2 l0 4) 8) l1.toNat).toNat) ≤ l2 then
              ja_X11_slotAt_b94 l1 l2 0 S2
            else
              ja_X11_slotAt_b94 l1 l2 1 S2
            else none
        else none
theorem ja_X11_slotAt_ok (zs : List Int32) : ∀ (l0 : Nat) (l1 : Int) (l2 : Int) (S : nk_S) (R : Int × nk_S), nk_cl ja_Tt l0 = some 11 → ja_X11_slotAt l0 l1 l2 S = some R → nk_K ja_Tt mi_Γ (mi_ev zs) 1 74 0 [(0, nk_r l0), (1, nk_i l1), (2, nk_i l2)] [] S R := by
  intro l0 l1 l2 S R t_l0 hr
  unfold ja_X11_slotAt at hr
  refine nk_p (i := .aload_n 0) (len := 1) (pc' := 1) mJ_74 (by decide +kernel) (ns_aload_n 0 rfl rfl) rfl ?_
  refine nk_p (i := .iload_n 1) (len := 1) (pc' := 2) mJ_74 (by decide +kernel) (ns_iload_n 1 rfl rfl) rfl ?_
  obtain ⟨r1, S2, h3, hr⟩ := nk_bde hr
  refine nk_callV (ci := 11) (n := 1) (x := 142) (len := 3) (j' := 64) (q' := 1) (r := r1) (S' := S2) (L2 := [(0, nk_r l0), (1, nk_i l1)]) (rest := []) (st' := [nk_i r1]) (pc' := 5) mJ_74 (by decide +kernel) (by decide +kernel) rfl rfl t_l0 (Nat.le_of_ble_eq_true rfl) mJ_64 (Nat.le_of_ble_eq_true rfl) rfl (ja_X11_isInstruction_ok zs _ _ _ _ t_l0 h3) rfl ?_
  refine nk_icond (c := .eq) (off := 28) (len := 3) (t := 33) (pc' := 8) mJ_74 (by decide +kernel) (by decide +kernel) rfl (fun hc => ?_) (fun hc => ?_)
  · have hr := nk_ifp (c := r1 = 0) hc hr
    refine nk_p (i := .iconst (-1)) (len := 1) (pc' := 34) mJ_74 (by decide +kernel) (ns_iconst (c := (-1)) (by decide +kernel)) rfl ?_
    cases hr
    exact nk_iret (ty := .int) (len := 1) mJ_74 (by decide +kernel) rfl (nk_nar_i _)
  · have hr := nk_ifn (c := r1 = 0) hc hr
    refine nk_p (i := .iload_n 2) (len := 1) (pc' := 9) mJ_74 (by decide +kernel) (ns_iload_n 2 rfl rfl) rfl ?_
    refine nk_icond (c := .lt) (off := 24) (len := 3) (t := 33) (pc' := 12) mJ_74 (by decide +kernel) (by decide +kernel) rfl (fun hc => ?_) (fun hc => ?_)
    · have hr := nk_ifp (c := l2 < 0) hc hr
      refine nk_p (i := .iconst (-1)) (len := 1) (pc' := 34) mJ_74 (by decide +kernel) (ns_iconst (c := (-1)) (by decide +kernel)) rfl ?_
      cases hr
      exact nk_iret (ty := .int) (len := 1) mJ_74 (by decide +kernel) rfl (nk_nar_i _)
    · have hr := nk_ifn (c := l2 < 0) hc hr
      refine nk_p (i := .iload_n 2) (len := 1) (pc' := 13) mJ_74 (by decide +kernel) (ns_iload_n 2 rfl rfl) rfl ?_
      refine nk_p (i := .bipush 20) (len := 2) (pc' := 15) mJ_74 (by decide +kernel) (ns_bipush (c := 20) (by decide +kernel)) rfl ?_
      refine nk_icmp (c := .ge) (off := 18) (len := 3) (t := 33) (pc' := 18) mJ_74 (by decide +kernel) (by decide +kernel) rfl (fun hc => ?_) (fun hc => ?_)
      · have hr := nk_ifp (c := 20 ≤ l2) hc hr
        refine nk_p (i := .iconst (-1)) (len := 1) (pc' := 34) mJ_74 (by decide +kernel) (ns_iconst (c := (-1)) (by decide +kernel)) rfl ?_
        cases hr
        exact nk_iret (ty := .int) (len := 1) mJ_74 (by decide +kernel) rfl (nk_nar_i _)
      · have hr := nk_ifn (c := 20 ≤ l2) hc hr
        refine nk_p (i := .aload_n 0) (len := 1) (pc' := 19) mJ_74 (by decide +kernel) (ns_aload_n 0 rfl rfl) rfl ?_
        refine nk_getC (f := (2, 4, 0)) (x := 55) (len := 3) (ci := 11) (k := 10) (pc' := 22) ja_okT mJ_74 (by decide +kernel) (by decide +kernel) (by decide +kernel) (by decide) t_l0 rfl ?_
        have t4 : nk_cl ja_Tt (ja_c l0 10) = some 4 := nk_tc (y := 0) ja_okT t_l0 (by decide +kernel)
        refine nk_getC (f := (2, 7, 0)) (x := 165) (len := 3) (ci := 4) (k := 2) (pc' := 25) ja_okT mJ_74 (by decide +kernel) (by decide +kernel) (by decide +kernel) (by decide) t4 rfl ?_
        have t5 : nk_cl ja_Tt (ja_c (ja_c l0 10) 2) = some 7 := nk_tc (y := 0) ja_okT t4 (by decide +kernel)
        refine nk_getC (f := (4, 3, 1024)) (x := 169) (len := 3) (ci := 7) (k := 2) (pc' := 28) ja_okT mJ_74 (by decide +kernel) (by decide +kernel) (by decide +kernel) (by decide) t5 rfl ?_
        have t6 : nk_ar ja_Tt (ja_c (ja_c (ja_c l0 10) 2) 2) = some (3, 1024) := nk_ta ja_okT t5 (by decide +kernel)
        refine nk_p (i := .iload_n 1) (len := 1) (pc' := 29) mJ_74 (by decide +kernel) (ns_iload_n 1 rfl rfl) rfl ?_
        obtain ⟨h7, hr⟩ := nk_cke hr
        refine nk_bald (t := 3) (len := 1) (N := 1024) (pc' := 30) mJ_74 (by decide +kernel) t6 (by decide) h7.1 h7.2 rfl rfl ?_
        refine nk_icond (c := .ne) (off := 5) (len := 3) (t := 35) (pc' := 33) mJ_74 (by decide +kernel) (by decide +kernel) rfl (fun hc => ?_) (fun hc => ?_)
        · have hr := nk_ifn (c := (S2.1 (ja_c (ja_c (ja_c l0 10) 2) 2) l1.toNat) = 0) hc hr
          refine nk_p (i := .iload_n 2) (len := 1) (pc' := 36) mJ_74 (by decide +kernel) (ns_iload_n 2 rfl rfl) rfl ?_
          refine nk_p (i := .bipush 12) (len := 2) (pc' := 38) mJ_74 (by decide +kernel) (ns_bipush (c := 12) (by decide +kernel)) rfl ?_
          refine nk_icmp (c := .ge) (off := 35) (len := 3) (t := 73) (pc' := 41) mJ_74 (by decide +kernel) (by decide +kernel) rfl (fun hc => ?_) (fun hc => ?_)
          · have hr := nk_ifp (c := 12 ≤ l2) hc hr
            refine nk_p (i := .iload_n 2) (len := 1) (pc' := 74) mJ_74 (by decide +kernel) (ns_iload_n 2 rfl rfl) rfl ?_
            refine nk_p (i := .bipush 12) (len := 2) (pc' := 76) mJ_74 (by decide +kernel) (ns_bipush (c := 12) (by decide +kernel)) rfl ?_
            refine nk_p (i := .isub) (len := 1) (pc' := 77) mJ_74 (by decide +kernel) ns_isub rfl ?_
            refine nk_p (i := .aload_n 0) (len := 1) (pc' := 78) mJ_74 (by decide +kernel) (ns_aload_n 0 rfl rfl) rfl ?_
            refine nk_getM (cj := 3) (z := 0) (x := 23) (len := 3) (ci := 11) (k := 4) (pc' := 81) ja_okT mJ_74 (by decide +kernel) (by decide +kernel) (by decide +kernel) t_l0 rfl (fun t8 => ?_)
            refine nk_getC (f := (4, 1, 1024)) (x := 181) (len := 3) (ci := 3) (k := 9) (pc' := 84) ja_okT mJ_74 (by decide +kernel) (by decide +kernel) (by decide +kernel) (by decide) t8 rfl ?_
            have t9 : nk_ar ja_Tt (ja_c (S2.2 l0 4) 9) = some (1, 1024) := nk_ta ja_okT t8 (by decide +kernel)
            refine nk_p (i := .iload_n 1) (len := 1) (pc' := 85) mJ_74 (by decide +kernel) (ns_iload_n 1 rfl rfl) rfl ?_
            refine nk_iald (len := 1) (N := 1024) (pc' := 86) mJ_74 (by decide +kernel) t9 h7.1 h7.2 rfl rfl ?_
            refine nk_icmp (c := .ge) (off := 7) (len := 3) (t := 93) (pc' := 89) mJ_74 (by decide +kernel) (by decide +kernel) rfl (fun hc => ?_) (fun hc => ?_)
            · have hr := nk_ifp (c := (S2.1 (ja_c (S2.2 l0 4) 9) l1.toNat) ≤ (nk_w (l2 - 12))) hc hr
              refine nk_p (i := .iconst 0) (len := 1) (pc' := 94) mJ_74 (by decide +kernel) (ns_iconst (c := 0) (by decide +kernel)) rfl ?_
              refine nk_sub [1, 2] (L' := [(1, nk_i l1), (2, nk_i l2)]) rfl ?_
              exact ja_X11_slotAt_b94_ok zs _ _ _ _ _ hr
            · have hr := nk_ifn (c := (S2.1 (ja_c (S2.2 l0 4) 9) l1.toNat) ≤ (nk_w (l2 - 12))) hc hr
              refine nk_p (i := .iconst 1) (len := 1) (pc' := 90) mJ_74 (by decide +kernel) (ns_iconst (c := 1) (by decide +kernel)) rfl ?_
              refine nk_p (i := .goto 4) (len := 3) (pc' := 94) mJ_74 (by decide +kernel) (ns_goto (by decide +kernel)) rfl ?_
              refine nk_sub [1, 2] (L' := [(1, nk_i l1), (2, nk_i l2)]) rfl ?_
              exact ja_X11_slotAt_b94_ok zs _ _ _ _ _ hr
          · have hr := nk_ifn (c := 12 ≤ l2) hc hr
            refine nk_p (i := .iload_n 2) (len := 1) (pc' := 42) mJ_74 (by decide +kernel) (ns_iload_n 2 rfl rfl) rfl ?_
            refine nk_p (i := .aload_n 0) (len := 1) (pc' := 43) mJ_74 (by decide +kernel) (ns_aload_n 0 rfl rfl) rfl ?_
            refine nk_getM (cj := 3) (z := 0) (x := 23) (len := 3) (ci := 11) (k := 4) (pc' := 46) ja_okT mJ_74 (by decide +kernel) (by decide +kernel) (by decide +kernel) t_l0 rfl (fun t10 => ?_)
            refine nk_getC (f := (2, 0, 0)) (x := 121) (len := 3) (ci := 3) (k := 1) (pc' := 49) ja_okT mJ_74 (by decide +kernel) (by decide +kernel) (by decide +kernel) (by decide) t10 rfl ?_
            have t11 : nk_cl ja_Tt (ja_c (S2.2 l0 4) 1) = some 0 := nk_tc (y := 0) ja_okT t10 (by decide +kernel)
            refine nk_getC (f := (4, 1, 48)) (x := 175) (len := 3) (ci := 0) (k := 8) (pc' := 52) ja_okT mJ_74 (by decide +kernel) (by decide +kernel) (by decide +kernel) (by decide) t11 rfl ?_
            have t12 : nk_ar ja_Tt (ja_c (ja_c (S2.2 l0 4) 1) 8) = some (1, 48) := nk_ta ja_okT t11 (by decide +kernel)
            refine nk_p (i := .aload_n 0) (len := 1) (pc' := 53) mJ_74 (by decide +kernel) (ns_aload_n 0 rfl rfl) rfl ?_
            refine nk_getM (cj := 3) (z := 0) (x := 23) (len := 3) (ci := 11) (k := 4) (pc' := 56) ja_okT mJ_74 (by decide +kernel) (by decide +kernel) (by decide +kernel) t_l0 rfl (fun t13 => ?_)
            refine nk_getC (f := (4, 1, 1024)) (x := 178) (len := 3) (ci := 3) (k := 8) (pc' := 59) ja_okT mJ_74 (by decide +kernel) (by decide +kernel) (by decide +kernel) (by decide) t13 rfl ?_
            have t14 : nk_ar ja_Tt (ja_c (S2.2 l0 4) 8) = some (1, 1024) := nk_ta ja_okT t13 (by decide +kernel)
            refine nk_p (i := .iload_n 1) (len := 1) (pc' := 60) mJ_74 (by decide +kernel) (ns_iload_n 1 rfl rfl) rfl ?_
            refine nk_iald (len := 1) (N := 1024) (pc' := 61) mJ_74 (by decide +kernel) t14 h7.1 h7.2 rfl rfl ?_
            obtain ⟨h15, hr⟩ := nk_cke hr
            refine nk_iald (len := 1) (N := 48) (pc' := 62) mJ_74 (by decide +kernel) t12 h15.1 h15.2 rfl rfl ?_
            refine nk_icmp (c := .ge) (off := 7) (len := 3) (t := 69) (pc' := 65) mJ_74 (by decide +kernel) (by decide +kernel) rfl (fun hc => ?_) (fun hc => ?_)
            · have hr := nk_ifp (c := (S2.1 (ja_c (ja_c (S2.2 l0 4) 1) 8) (S2.1 (ja_c (S2.2 l0 4) 8) l1.toNat).toNat) ≤ l2) hc hr
              refine nk_p (i := .iconst 0) (len := 1) (pc' := 70) mJ_74 (by decide +kernel) (ns_iconst (c := 0) (by decide +kernel)) rfl ?_
              refine nk_p (i := .goto 24) (len := 3) (pc' := 94) mJ_74 (by decide +kernel) (ns_goto (by decide +kernel)) rfl ?_
              refine nk_sub [1, 2] (L' := [(1, nk_i l1), (2, nk_i l2)]) rfl ?_
              exact ja_X11_slotAt_b94_ok zs _ _ _ _ _ hr
            · have hr := nk_ifn (c := (S2.1 (ja_c (ja_c (S2.2 l0 4) 1) 8) (S2.1 (ja_c (S2.2 l0 4) 8) l1.toNat).toNat) ≤ l2) hc hr
              refine nk_p (i := .iconst 1) (len := 1) (pc' := 66) mJ_74 (by decide +kernel) (ns_iconst (c := 1) (by decide +kernel)) rfl ?_
              refine nk_p (i := .goto 28) (len := 3) (pc' := 94) mJ_74 (by decide +kernel) (ns_goto (by decide +kernel)) rfl ?_
              refine nk_sub [1, 2] (L' := [(1, nk_i l1), (2, nk_i l2)]) rfl ?_
              exact ja_X11_slotAt_b94_ok zs _ _ _ _ _ hr
        · have hr := nk_ifp (c := (S2.1 (ja_c (ja_c (ja_c l0 10) 2) 2) l1.toNat) = 0) (Decidable.of_not_not hc) hr
          refine nk_p (i := .iconst (-1)) (len := 1) (pc' := 34) mJ_74 (by decide +kernel) (ns_iconst (c := (-1)) (by decide +kernel)) rfl ?_
          cases hr
          exact nk_iret (ty := .int) (len := 1) mJ_74 (by decide +kernel) rfl (nk_nar_i _)
/-! SafeCode factsAt (II)J -/
noncomputable def ja_X11_factsAt (l0 : Nat) (l1 : Int) (l2 : Int) (S : nk_S) : Option (Int × nk_S) :=
  nk_bd (ja_X11_slotAt l0 l1 l2 S) fun r1 S2 =>
  if 0 ≤ r1 then
    if 0 ≤ r1 ∧ r1 < 20480 then
    some ((S2.1 (ja_c (ja_c (ja_c l0 10) 2) 1) r1.toNat), S2)
    else none
  else
    some (0, S2)
theorem ja_X11_factsAt_ok (zs : List Int32) : ∀ (l0 : Nat) (l1 : Int) (l2 : Int) (S : nk_S) (R : Int × nk_S), nk_cl ja_Tt l0 = some 11 → ja_X11_factsAt l0 l1 l2 S = some R → nk_K ja_Tt mi_Γ (mi_ev zs) 2 57 0 [(0, nk_r l0), (1, nk_i l1), (2, nk_i l2)] [] S R := by
  intro l0 l1 l2 S R t_l0 hr
  unfold ja_X11_factsAt at hr
  refine nk_p (i := .aload_n 0) (len := 1) (pc' := 1) mJ_57 (by decide +kernel) (ns_aload_n 0 rfl rfl) rfl ?_
  refine nk_p (i := .iload_n 1) (len := 1) (pc' := 2) mJ_57 (by decide +kernel) (ns_iload_n 1 rfl rfl) rfl ?_
  refine nk_p (i := .iload_n 2) (len := 1) (pc' := 3) mJ_57 (by decide +kernel) (ns_iload_n 2 rfl rfl) rfl ?_
  obtain ⟨r1, S2, h3, hr⟩ := nk_bde hr
  refine nk_callV (ci := 11) (n := 2) (x := 184) (len := 3) (j' := 74) (q' := 1) (r := r1) (S' := S2) (L2 := [(0, nk_r l0), (1, nk_i l1), (2, nk_i l2)]) (rest := []) (st' := [nk_i r1]) (pc' := 6) mJ_57 (by decide +kernel) (by decide +kernel) rfl rfl t_l0 (Nat.le_of_ble_eq_true rfl) mJ_74 (Nat.le_of_ble_eq_true rfl) rfl (ja_X11_slotAt_ok zs _ _ _ _ _ t_l0 h3) rfl ?_
  refine nk_p (i := .istore_n 3) (len := 1) (pc' := 7) mJ_57 (by decide +kernel) (ns_istore_n (L' := [(3, nk_i r1), (0, nk_r l0), (1, nk_i l1), (2, nk_i l2)]) rfl rfl rfl (by decide +kernel)) rfl ?_
  refine nk_p (i := .iload_n 3) (len := 1) (pc' := 8) mJ_57 (by decide +kernel) (ns_iload_n 0 rfl rfl) rfl ?_
  refine nk_icond (c := .ge) (off := 7) (len := 3) (t := 15) (pc' := 11) mJ_57 (by decide +kernel) (by decide +kernel) rfl (fun hc => ?_) (fun hc => ?_)
  · have hr := nk_ifp (c := 0 ≤ r1) hc hr
    refine nk_p (i := .aload_n 0) (len := 1) (pc' := 16) mJ_57 (by decide +kernel) (ns_aload_n 1 rfl rfl) rfl ?_
    refine nk_getC (f := (2, 4, 0)) (x := 55) (len := 3) (ci := 11) (k := 10) (pc' := 19) ja_okT mJ_57 (by decide +kernel) (by decide +kernel) (by decide +kernel) (by decide) t_l0 rfl ?_
    have t4 : nk_cl ja_Tt (ja_c l0 10) = some 4 := nk_tc (y := 0) ja_okT t_l0 (by decide +kernel)
    refine nk_getC (f := (2, 7, 0)) (x := 165) (len := 3) (ci := 4) (k := 2) (pc' := 22) ja_okT mJ_57 (by decide +kernel) (by decide +kernel) (by decide +kernel) (by decide) t4 rfl ?_
    have t5 : nk_cl ja_Tt (ja_c (ja_c l0 10) 2) = some 7 := nk_tc (y := 0) ja_okT t4 (by decide +kernel)
    refine nk_getC (f := (4, 2, 20480)) (x := 188) (len := 3) (ci := 7) (k := 1) (pc' := 25) ja_okT mJ_57 (by decide +kernel) (by decide +kernel) (by decide +kernel) (by decide) t5 rfl ?_
    have t6 : nk_ar ja_Tt (ja_c (ja_c (ja_c l0 10) 2) 1) = some (2, 20480) := nk_ta ja_okT t5 (by decide +kernel)
    refine nk_p (i := .iload_n 3) (len := 1) (pc' := 26) mJ_57 (by decide +kernel) (ns_iload_n 0 rfl rfl) rfl ?_
    obtain ⟨h7, hr⟩ := nk_cke hr
    refine nk_lald (len := 1) (N := 20480) (pc' := 27) mJ_57 (by decide +kernel) t6 h7.1 h7.2 rfl rfl ?_
    cases hr
    exact nk_lret (len := 1) mJ_57 (by decide +kernel) rfl
  · have hr := nk_ifn (c := 0 ≤ r1) hc hr
    refine nk_p (i := .lconst 0) (len := 1) (pc' := 12) mJ_57 (by decide +kernel) (ns_lconst (c := 0) (by decide +kernel)) rfl ?_
    refine nk_p (i := .goto 15) (len := 3) (pc' := 27) mJ_57 (by decide +kernel) (ns_goto (by decide +kernel)) rfl ?_
    cases hr
    exact nk_lret (len := 1) mJ_57 (by decide +kernel) rfl
/-! SafeCode$States copyOf (J)I -/
noncomputable def ja_X7_copyOf (l0 : Int) (S : nk_S) : Option (Int × nk_S) :=
  some ((nk_w ((nk_w (nk_land (nk_lushr l0 48) 15)) - 1)), S)
theorem ja_X7_copyOf_ok (zs : List Int32) : ∀ (l0 : Int) (S : nk_S) (R : Int × nk_S), ja_X7_copyOf l0 S = some R → nk_K ja_Tt mi_Γ (mi_ev zs) 1 400 0 [(0, nk_l l0)] [] S R := by
  intro l0 S R hr
  unfold ja_X7_copyOf at hr
  refine nk_p (i := .lload_n 0) (len := 1) (pc' := 1) mJ_400 (by decide +kernel) (ns_lload_n 0 rfl rfl) rfl ?_
  refine nk_p (i := .bipush 48) (len := 2) (pc' := 3) mJ_400 (by decide +kernel) (ns_bipush (c := 48) (by decide +kernel)) rfl ?_
  refine nk_p (i := .lushr) (len := 1) (pc' := 4) mJ_400 (by decide +kernel) ns_lushr rfl ?_
  refine nk_ldc2 (x := 31) (len := 3) (X := 15) (v := 15) (pc' := 7) mJ_400 (by decide +kernel) (by decide +kernel) (by decide +kernel) rfl ?_
  refine nk_p (i := .land) (len := 1) (pc' := 8) mJ_400 (by decide +kernel) ns_land rfl ?_
  refine nk_p (i := .l2i) (len := 1) (pc' := 9) mJ_400 (by decide +kernel) ns_l2i rfl ?_
  refine nk_p (i := .iconst 1) (len := 1) (pc' := 10) mJ_400 (by decide +kernel) (ns_iconst (c := 1) (by decide +kernel)) rfl ?_
  refine nk_p (i := .isub) (len := 1) (pc' := 11) mJ_400 (by decide +kernel) ns_isub rfl ?_
  cases hr
  exact nk_iret (ty := .int) (len := 1) mJ_400 (by decide +kernel) rfl (nk_nar_i _)
/-! SafeCode fact (III)I -/
noncomputable def ja_X11_fact (l0 : Nat) (l1 : Int) (l2 : Int) (l3 : Int) (S : nk_S) : Option (Int × nk_S) :=
  nk_bd (ja_X11_factsAt l0 l1 l2 S) fun r1 S2 =>
  if l3 = 0 then
    nk_bd (ja_X7_copyOf r1 S2) fun r4 S5 =>
    some (r4, S5)
  else
  if l3 = 1 then
    some ((nk_w (nk_land r1 4095)), S2)
  else
  if l3 = 2 then
    some ((nk_w (nk_land (nk_lushr r1 12) 4095)), S2)
  else
  if l3 = 3 then
    some ((nk_w (nk_land (nk_lushr r1 24) 4095)), S2)
  else
  if l3 = 4 then
    some ((nk_w (nk_land (nk_lushr r1 36) 4095)), S2)
  else
  some (0, S2)
theorem ja_X11_fact_ok (zs : List Int32) : ∀ (l0 : Nat) (l1 : Int) (l2 : Int) (l3 : Int) (S : nk_S) (R : Int × nk_S), nk_cl ja_Tt l0 = some 11 → ja_X11_fact l0 l1 l2 l3 S = some R → nk_K ja_Tt mi_Γ (mi_ev zs) 1 56 0 [(0, nk_r l0), (1, nk_i l1), (2, nk_i l2), (3, nk_i l3)] [] S R := by
  intro l0 l1 l2 l3 S R t_l0 hr
  unfold ja_X11_fact at hr
  refine nk_p (i := .aload_n 0) (len := 1) (pc' := 1) mJ_56 (by decide +kernel) (ns_aload_n 0 rfl rfl) rfl ?_
  refine nk_p (i := .iload_n 1) (len := 1) (pc' := 2) mJ_56 (by decide +kernel) (ns_iload_n 1 rfl rfl) rfl ?_
  refine nk_p (i := .iload_n 2) (len := 1) (pc' := 3) mJ_56 (by decide +kernel) (ns_iload_n 2 rfl rfl) rfl ?_
  obtain ⟨r1, S2, h3, hr⟩ := nk_bde hr
  refine nk_callV (ci := 11) (n := 2) (x := 194) (len := 3) (j' := 57) (q' := 2) (r := r1) (S' := S2) (L2 := [(0, nk_r l0), (1, nk_i l1), (2, nk_i l2)]) (rest := []) (st' := [nk_l r1]) (pc' := 6) mJ_56 (by decide +kernel) (by decide +kernel) rfl rfl t_l0 (Nat.le_of_ble_eq_true rfl) mJ_57 (Nat.le_of_ble_eq_true rfl) rfl (ja_X11_factsAt_ok zs _ _ _ _ _ t_l0 h3) rfl ?_
  refine nk_p (i := .lstore 4) (len := 2) (pc' := 8) mJ_56 (by decide +kernel) (ns_lstore (L' := [(4, nk_l r1), (0, nk_r l0), (1, nk_i l1), (2, nk_i l2), (3, nk_i l3)]) rfl rfl (by decide +kernel)) rfl ?_
  refine nk_p (i := .iload_n 3) (len := 1) (pc' := 9) mJ_56 (by decide +kernel) (ns_iload_n 4 rfl rfl) rfl ?_
  by_cases hc0 : l3 = 0
  · have hr := nk_ifp hc0 hr
    refine nk_p (i := .tableswitch 82 0 4 #[35, 41, 49, 60, 71]) (len := 35) (pc' := 44) mJ_56 (by decide +kernel) (ns_tsw (V := 0) hc0 (by decide +kernel)) rfl ?_
    refine nk_p (i := .lload 4) (len := 2) (pc' := 46) mJ_56 (by decide +kernel) (ns_lload 0 rfl) rfl ?_
    obtain ⟨r4, S5, h6, hr⟩ := nk_bde hr
    refine nk_callS (ci := 0) (n := 1) (x := 212) (len := 3) (j' := 400) (q' := 1) (r := r4) (S' := S5) (L2 := [(0, nk_l r1)]) (rest := []) (st' := [nk_i r4]) (pc' := 49) mJ_56 (by decide +kernel) (by decide +kernel) (Nat.le_of_ble_eq_true rfl) rfl rfl (Nat.le_of_ble_eq_true rfl) mJ_400 (Nat.le_of_ble_eq_true rfl) ja_Tpos rfl (ja_X7_copyOf_ok zs _ _ _ h6) rfl ?_
    cases hr
    exact nk_iret (ty := .int) (len := 1) mJ_56 (by decide +kernel) rfl (nk_nar_i _)
  have hr := nk_ifn hc0 hr
  by_cases hc1 : l3 = 1
  · have hr := nk_ifp hc1 hr
    refine nk_p (i := .tableswitch 82 0 4 #[35, 41, 49, 60, 71]) (len := 35) (pc' := 50) mJ_56 (by decide +kernel) (ns_tsw (V := 1) hc1 (by decide +kernel)) rfl ?_
    refine nk_p (i := .lload 4) (len := 2) (pc' := 52) mJ_56 (by decide +kernel) (ns_lload 0 rfl) rfl ?_
    refine nk_ldc2 (x := 215) (len := 3) (X := 4095) (v := 4095) (pc' := 55) mJ_56 (by decide +kernel) (by decide +kernel) (by decide +kernel) rfl ?_
    refine nk_p (i := .land) (len := 1) (pc' := 56) mJ_56 (by decide +kernel) ns_land rfl ?_
    refine nk_p (i := .l2i) (len := 1) (pc' := 57) mJ_56 (by decide +kernel) ns_l2i rfl ?_
    cases hr
    exact nk_iret (ty := .int) (len := 1) mJ_56 (by decide +kernel) rfl (nk_nar_i _)
  have hr := nk_ifn hc1 hr
  by_cases hc2 : l3 = 2
  · have hr := nk_ifp hc2 hr
    refine nk_p (i := .tableswitch 82 0 4 #[35, 41, 49, 60, 71]) (len := 35) (pc' := 58) mJ_56 (by decide +kernel) (ns_tsw (V := 2) hc2 (by decide +kernel)) rfl ?_
    refine nk_p (i := .lload 4) (len := 2) (pc' := 60) mJ_56 (by decide +kernel) (ns_lload 0 rfl) rfl ?_
    refine nk_p (i := .bipush 12) (len := 2) (pc' := 62) mJ_56 (by decide +kernel) (ns_bipush (c := 12) (by decide +kernel)) rfl ?_
    refine nk_p (i := .lushr) (len := 1) (pc' := 63) mJ_56 (by decide +kernel) ns_lushr rfl ?_
    refine nk_ldc2 (x := 215) (len := 3) (X := 4095) (v := 4095) (pc' := 66) mJ_56 (by decide +kernel) (by decide +kernel) (by decide +kernel) rfl ?_
    refine nk_p (i := .land) (len := 1) (pc' := 67) mJ_56 (by decide +kernel) ns_land rfl ?_
    refine nk_p (i := .l2i) (len := 1) (pc' := 68) mJ_56 (by decide +kernel) ns_l2i rfl ?_
    cases hr
    exact nk_iret (ty := .int) (len := 1) mJ_56 (by decide +kernel) rfl (nk_nar_i _)
  have hr := nk_ifn hc2 hr
  by_cases hc3 : l3 = 3
  · have hr := nk_ifp hc3 hr
    refine nk_p (i := .tableswitch 82 0 4 #[35, 41, 49, 60, 71]) (len := 35) (pc' := 69) mJ_56 (by decide +kernel) (ns_tsw (V := 3) hc3 (by decide +kernel)) rfl ?_
    refine nk_p (i := .lload 4) (len := 2) (pc' := 71) mJ_56 (by decide +kernel) (ns_lload 0 rfl) rfl ?_
    refine nk_p (i := .bipush 24) (len := 2) (pc' := 73) mJ_56 (by decide +kernel) (ns_bipush (c := 24) (by decide +kernel)) rfl ?_
    refine nk_p (i := .lushr) (len := 1) (pc' := 74) mJ_56 (by decide +kernel) ns_lushr rfl ?_
    refine nk_ldc2 (x := 215) (len := 3) (X := 4095) (v := 4095) (pc' := 77) mJ_56 (by decide +kernel) (by decide +kernel) (by decide +kernel) rfl ?_
    refine nk_p (i := .land) (len := 1) (pc' := 78) mJ_56 (by decide +kernel) ns_land rfl ?_
    refine nk_p (i := .l2i) (len := 1) (pc' := 79) mJ_56 (by decide +kernel) ns_l2i rfl ?_
    cases hr
    exact nk_iret (ty := .int) (len := 1) mJ_56 (by decide +kernel) rfl (nk_nar_i _)
  have hr := nk_ifn hc3 hr
  by_cases hc4 : l3 = 4
  · have hr := nk_ifp hc4 hr
    refine nk_p (i := .tableswitch 82 0 4 #[35, 41, 49, 60, 71]) (len := 35) (pc' := 80) mJ_56 (by decide +kernel) (ns_tsw (V := 4) hc4 (by decide +kernel)) rfl ?_
    refine nk_p (i := .lload 4) (len := 2) (pc' := 82) mJ_56 (by decide +kernel) (ns_lload 0 rfl) rfl ?_
    refine nk_p (i := .bipush 36) (len := 2) (pc' := 84) mJ_56 (by decide +kernel) (ns_bipush (c := 36) (by decide +kernel)) rfl ?_
    refine nk_p (i := .lushr) (len := 1) (pc' := 85) mJ_56 (by decide +kernel) ns_lushr rfl ?_
    refine nk_ldc2 (x := 215) (len := 3) (X := 4095) (v := 4095) (pc' := 88) mJ_56 (by decide +kernel) (by decide +kernel) (by decide +kernel) rfl ?_
    refine nk_p (i := .land) (len := 1) (pc' := 89) mJ_56 (by decide +kernel) ns_land rfl ?_
    refine nk_p (i := .l2i) (len := 1) (pc' := 90) mJ_56 (by decide +kernel) ns_l2i rfl ?_
    cases hr
    exact nk_iret (ty := .int) (len := 1) mJ_56 (by decide +kernel) rfl (nk_nar_i _)
  have hr := nk_ifn hc4 hr
  refine nk_p (i := .tableswitch 82 0 4 #[35, 41, 49, 60, 71]) (len := 35) (pc' := 91) mJ_56 (by decide +kernel) (ns_tsd (by omega) (by decide +kernel)) rfl ?_
  refine nk_p (i := .iconst 0) (len := 1) (pc' := 92) mJ_56 (by decide +kernel) (ns_iconst (c := 0) (by decide +kernel)) rfl ?_
  cases hr
  exact nk_iret (ty := .int) (len := 1) mJ_56 (by decide +kernel) rfl (nk_nar_i _)
/-! SafeCode faultAt ()I -/
noncomputable def ja_X11_faultAt (l0 : Nat) (S : nk_S) : Option (Int × nk_S) :=
  some ((S.1 l0 7), S)
theorem ja_X11_faultAt_ok (zs : List Int32) : ∀ (l0 : Nat) (S : nk_S) (R : Int × nk_S), nk_cl ja_Tt l0 = some 11 → ja_X11_faultAt l0 S = some R → nk_K ja_Tt mi_Γ (mi_ev zs) 1 58 0 [(0, nk_r l0)] [] S R := by
  intro l0 S R t_l0 hr
  unfold ja_X11_faultAt at hr
  refine nk_p (i := .aload_n 0) (len := 1) (pc' := 1) mJ_58 (by decide +kernel) (ns_aload_n 0 rfl rfl) rfl ?_
  refine nk_getI (y := (0, 0)) (x := 30) (len := 3) (ci := 11) (k := 7) (pc' := 4) ja_okT mJ_58 (by decide +kernel) (by decide +kernel) (by decide +kernel) t_l0 rfl ?_
  cases hr
  exact nk_iret (ty := .int) (len := 1) mJ_58 (by decide +kernel) rfl (nk_nar_i _)
/-! SafeCode feedWord (I)V -/
noncomputable def ja_X11_feedWord_b3 (rec3 : Nat → Int → Int → nk_S → Option (Int × nk_S)) (l0 : Nat) (l1 : Int) (l2 : Int) (S : nk_S) : Option (Int × nk_S) :=
  if l2 < 0 then
    some (0, S)
  else
    if 0 ≤ (S.1 l0 1) ∧ (S.1 l0 1) < 16000 then
    nk_lt (nk_wi S (ja_c l0 0) (S.1 l0 1).toNat (nk_i2b (nk_i2b (nk_iushr l1 l2)))) fun S3 =>
    nk_lt (nk_wi S3 l0 1 (nk_w ((S3.1 l0 1) + 1))) fun S5 =>
    nk_lt (nk_w (l2 + (-8))) fun v7 =>
    rec3 l0 l1 v7 S5
    else none
theorem ja_X11_feedWord_b3_ok (zs : List Int32) {rec3 : Nat → Int → Int → nk_S → Option (Int × nk_S)} (hrec3 : ∀ (l0 : Nat) (l1 : Int) (l2 : Int) (S : nk_S) (R : Int × nk_S), nk_cl ja_Tt l0 = some 11 → rec3 l0 l1 l2 S = some R → nk_K ja_Tt mi_Γ (mi_ev zs) 0 60 3 [(0, nk_r l0), (1, nk_i l1), (2, nk_i l2)] [] S R) : ∀ (l0 : Nat) (l1 : Int) (l2 : Int) (S : nk_S) (R : Int × nk_S), nk_cl ja_Tt l0 = some 11 → ja_X11_feedWord_b3 rec3 l0 l1 l2 S = some R → nk_K ja_Tt mi_Γ (mi_ev zs) 0 60 3 [(0, nk_r l0), (1, nk_i l1), (2, nk_i l2)] [] S R := by
  intro l0 l1 l2 S R t_l0 hr
  unfold ja_X11_feedWord_b3 at hr
  refine nk_p (i := .iload_n 2) (len := 1) (pc' := 4) mJ_60 (by decide +kernel) (ns_iload_n 2 rfl rfl) rfl ?_
  refine nk_icond (c := .lt) (off := 32) (len := 3) (t := 36) (pc' := 7) mJ_60 (by decide +kernel) (by decide +kernel) rfl (fun hc => ?_) (fun hc => ?_)
  · have hr := nk_ifp (c := l2 < 0) hc hr
    cases hr
    exact nk_vret (len := 1) mJ_60 (by decide +kernel) rfl
  · have hr := nk_ifn (c := l2 < 0) hc hr
    refine nk_p (i := .aload_n 0) (len := 1) (pc' := 8) mJ_60 (by decide +kernel) (ns_aload_n 0 rfl rfl) rfl ?_
    refine nk_getC (f := (4, 0, 16000)) (x := 9) (len := 3) (ci := 11) (k := 0) (pc' := 11) ja_okT mJ_60 (by decide +kernel) (by decide +kernel) (by decide +kernel) (by decide) t_l0 rfl ?_
    have t1 : nk_ar ja_Tt (ja_c l0 0) = some (0, 16000) := nk_ta ja_okT t_l0 (by decide +kernel)
    refine nk_p (i := .aload_n 0) (len := 1) (pc' := 12) mJ_60 (by decide +kernel) (ns_aload_n 0 rfl rfl) rfl ?_
    refine nk_getI (y := (0, 0)) (x := 72) (len := 3) (ci := 11) (k := 1) (pc' := 15) ja_okT mJ_60 (by decide +kernel) (by decide +kernel) (by decide +kernel) t_l0 rfl ?_
    refine nk_p (i := .iload_n 1) (len := 1) (pc' := 16) mJ_60 (by decide +kernel) (ns_iload_n 1 rfl rfl) rfl ?_
    refine nk_p (i := .iload_n 2) (len := 1) (pc' := 17) mJ_60 (by decide +kernel) (ns_iload_n 2 rfl rfl) rfl ?_
    refine nk_p (i := .iushr) (len := 1) (pc' := 18) mJ_60 (by decide +kernel) ns_iushr rfl ?_
    refine nk_p (i := .i2b) (len := 1) (pc' := 19) mJ_60 (by decide +kernel) ns_i2b rfl ?_
    obtain ⟨h2, hr⟩ := nk_cke hr
    obtain ⟨S3, h4, hr⟩ := nk_lte hr
    refine nk_bast (len := 1) (N := 16000) (pc' := 20) mJ_60 (by decide +kernel) t1 h2.1 h2.2 rfl rfl h4 ?_
    refine nk_p (i := .aload_n 0) (len := 1) (pc' := 21) mJ_60 (by decide +kernel) (ns_aload_n 0 rfl rfl) rfl ?_
    refine nk_p (i := .dup) (len := 1) (pc' := 22) mJ_60 (by decide +kernel) (ns_dup rfl) rfl ?_
    refine nk_getI (y := (0, 0)) (x := 72) (len := 3) (ci := 11) (k := 1) (pc' := 25) ja_okT mJ_60 (by decide +kernel) (by decide +kernel) (by decide +kernel) t_l0 rfl ?_
    refine nk_p (i := .iconst 1) (len := 1) (pc' := 26) mJ_60 (by decide +kernel) (ns_iconst (c := 1) (by decide +kernel)) rfl ?_
    refine nk_p (i := .iadd) (len := 1) (pc' := 27) mJ_60 (by decide +kernel) ns_iadd rfl ?_
    obtain ⟨S5, h6, hr⟩ := nk_lte hr
    refine nk_putI (y := (0, 0)) (ty := .int) (x := 72) (len := 3) (ci := 11) (k := 1) (pc' := 30) ja_okT mJ_60 (by decide +kernel) (by decide +kernel) (by decide +kernel) t_l0 (Or.inl rfl) rfl h6 ?_
    obtain ⟨v7, h8, hr⟩ := nk_lte hr
    refine nk_p (i := .iinc 2 (-8)) (len := 3) (pc' := 33) mJ_60 (by decide +kernel) (ns_iinc (c := (-8)) (L' := [(2, nk_i v7), (0, nk_r l0), (1, nk_i l1)]) 2 rfl (by decide +kernel) h8 rfl (by decide +kernel)) rfl ?_
    refine nk_p (i := .goto (-30)) (len := 3) (pc' := 3) mJ_60 (by decide +kernel) (ns_goto (by decide +kernel)) rfl ?_
    refine nk_sub [1, 2, 0] (L' := [(0, nk_r l0), (1, nk_i l1), (2, nk_i v7)]) rfl ?_
    exact hrec3 _ _ _ _ _ t_l0 hr
noncomputable def ja_X11_feedWord_L3 : Nat → Nat → Int → Int → nk_S → Option (Int × nk_S)
  | 0, _, _, _, _ => none
  | n + 1, l0, l1, l2, S => ja_X11_feedWord_b3 (ja_X11_feedWord_L3 n) l0 l1 l2 S
theorem ja_X11_feedWord_L3_ok (zs : List Int32) : ∀ n : Nat, ∀ (l0 : Nat) (l1 : Int) (l2 : Int) (S : nk_S) (R : Int × nk_S), nk_cl ja_Tt l0 = some 11 → ja_X11_feedWord_L3 n l0 l1 l2 S = some R → nk_K ja_Tt mi_Γ (mi_ev zs) 0 60 3 [(0, nk_r l0), (1, nk_i l1), (2, nk_i l2)] [] S R := by
  intro n
  induction n with
  | zero => intro _ _ _ _ _ _ hr; cases hr
  | succ n ih => intro l0 l1 l2 S R t_l0 hr; exact ja_X11_feedWord_b3_ok zs ih l0 l1 l2 S R t_l0 hr
noncomputable def ja_X11_feedWord (l0 : Nat) (l1 : Int) (S : nk_S) : Option (Int × nk_S) :=
  ja_X11_feedWord_L3 nk_big l0 l1 24 S
theorem ja_X11_feedWord_ok (zs : List Int32) : ∀ (l0 : Nat) (l1 : Int) (S : nk_S) (R : Int × nk_S), nk_cl ja_Tt l0 = some 11 → ja_X11_feedWord l0 l1 S = some R → nk_K ja_Tt mi_Γ (mi_ev zs) 0 60 0 [(0, nk_r l0), (1, nk_i l1)] [] S R := by
  intro l0 l1 S R t_l0 hr
  unfold ja_X11_feedWord at hr
  refine nk_p (i := .bipush 24) (len := 2) (pc' := 2) mJ_60 (by decide +kernel) (ns_bipush (c := 24) (by decide +kernel)) rfl ?_
  refine nk_p (i := .istore_n 2) (len := 1) (pc' := 3) mJ_60 (by decide +kernel) (ns_istore_n (L' := [(2, nk_i 24), (0, nk_r l0), (1, nk_i l1)]) rfl rfl rfl (by decide +kernel)) rfl ?_
  refine nk_sub [1, 2, 0] (L' := [(0, nk_r l0), (1, nk_i l1), (2, nk_i 24)]) rfl ?_
  exact ja_X11_feedWord_L3_ok zs nk_big _ _ _ _ _ t_l0 hr
/-! SafeCode feed (IIIII)I -/
noncomputable def ja_X11_feed (l0 : Nat) (l1 : Int) (l2 : Int) (l3 : Int) (l4 : Int) (l5 : Int) (S : nk_S) : Option (Int × nk_S) :=
  if 16000 < (nk_w ((S.1 l0 1) + 20)) then
    some ((-1), S)
  else
    if (nk_w ((S.1 l0 2) + 20)) ≤ 65536 then
      nk_bd (ja_X11_feedWord l0 l1 S) fun r1 S2 =>
      nk_bd (ja_X11_feedWord l0 l2 S2) fun r4 S5 =>
      nk_bd (ja_X11_feedWord l0 l3 S5) fun r7 S8 =>
      nk_bd (ja_X11_feedWord l0 l4 S8) fun r10 S11 =>
      nk_bd (ja_X11_feedWord l0 l5 S11) fun r13 S14 =>
      nk_lt (nk_wi S14 l0 2 (nk_w ((S14.1 l0 2) + 20))) fun S16 =>
      some ((S16.1 l0 1), S16)
    else
      some ((-1), S)
theorem ja_X11_feed_ok (zs : List Int32) : ∀ (l0 : Nat) (l1 : Int) (l2 : Int) (l3 : Int) (l4 : Int) (l5 : Int) (S : nk_S) (R : Int × nk_S), nk_cl ja_Tt l0 = some 11 → ja_X11_feed l0 l1 l2 l3 l4 l5 S = some R → nk_K ja_Tt mi_Γ (mi_ev zs) 1 59 0 [(0, nk_r l0), (1, nk_i l1), (2, nk_i l2), (3, nk_i l3), (4, nk_i l4), (5, nk_i l5)] [] S R := by
  intro l0 l1 l2 l3 l4 l5 S R t_l0 hr
  unfold ja_X11_feed at hr
  refine nk_p (i := .aload_n 0) (len := 1) (pc' := 1) mJ_59 (by decide +kernel) (ns_aload_n 0 rfl rfl) rfl ?_
  refine nk_getI (y := (0, 0)) (x := 72) (len := 3) (ci := 11) (k := 1) (pc' := 4) ja_okT mJ_59 (by decide +kernel) (by decide +kernel) (by decide +kernel) t_l0 rfl ?_
  refine nk_p (i := .bipush 20) (len := 2) (pc' := 6) mJ_59 (by decide +kernel) (ns_bipush (c := 20) (by decide +kernel)) rfl ?_
  refine nk_p (i := .iadd) (len := 1) (pc' := 7) mJ_59 (by decide +kernel) ns_iadd rfl ?_
  refine nk_p (i := .sipush 16000) (len := 3) (pc' := 10) mJ_59 (by decide +kernel) (ns_sipush (c := 16000) (by decide +kernel)) rfl ?_
  refine nk_icmp (c := .gt) (off := 15) (len := 3) (t := 25) (pc' := 13) mJ_59 (by decide +kernel) (by decide +kernel) rfl (fun hc => ?_) (fun hc => ?_)
  · have hr := nk_ifp (c := 16000 < (nk_w ((S.1 l0 1) + 20))) hc hr
    refine nk_p (i := .iconst (-1)) (len := 1) (pc' := 26) mJ_59 (by decide +kernel) (ns_iconst (c := (-1)) (by decide +kernel)) rfl ?_
    cases hr
    exact nk_iret (ty := .int) (len := 1) mJ_59 (by decide +kernel) rfl (nk_nar_i _)
  · have hr := nk_ifn (c := 16000 < (nk_w ((S.1 l0 1) + 20))) hc hr
    refine nk_p (i := .aload_n 0) (len := 1) (pc' := 14) mJ_59 (by decide +kernel) (ns_aload_n 0 rfl rfl) rfl ?_
    refine nk_getI (y := (0, 0)) (x := 75) (len := 3) (ci := 11) (k := 2) (pc' := 17) ja_okT mJ_59 (by decide +kernel) (by decide +kernel) (by decide +kernel) t_l0 rfl ?_
    refine nk_p (i := .bipush 20) (len := 2) (pc' := 19) mJ_59 (by decide +kernel) (ns_bipush (c := 20) (by decide +kernel)) rfl ?_
    refine nk_p (i := .iadd) (len := 1) (pc' := 20) mJ_59 (by decide +kernel) ns_iadd rfl ?_
    refine nk_ldci (x := 78) (len := 2) (X := 65536) (v := 65536) (pc' := 22) mJ_59 (by decide +kernel) (by decide +kernel) (by decide +kernel) rfl ?_
    refine nk_icmp (c := .le) (off := 5) (len := 3) (t := 27) (pc' := 25) mJ_59 (by decide +kernel) (by decide +kernel) rfl (fun hc => ?_) (fun hc => ?_)
    · have hr := nk_ifp (c := (nk_w ((S.1 l0 2) + 20)) ≤ 65536) hc hr
      refine nk_p (i := .aload_n 0) (len := 1) (pc' := 28) mJ_59 (by decide +kernel) (ns_aload_n 0 rfl rfl) rfl ?_
      refine nk_p (i := .iload_n 1) (len := 1) (pc' := 29) mJ_59 (by decide +kernel) (ns_iload_n 1 rfl rfl) rfl ?_
      obtain ⟨r1, S2, h3, hr⟩ := nk_bde hr
      refine nk_callV (ci := 11) (n := 1) (x := 79) (len := 3) (j' := 60) (q' := 0) (r := r1) (S' := S2) (L2 := [(0, nk_r l0), (1, nk_i l1)]) (rest := []) (st' := []) (pc' := 32) mJ_59 (by decide +kernel) (by decide +kernel) rfl rfl t_l0 (Nat.le_of_ble_eq_true rfl) mJ_60 (Nat.le_of_ble_eq_true rfl) rfl (ja_X11_feedWord_ok zs _ _ _ _ t_l0 h3) rfl ?_
      refine nk_p (i := .aload_n 0) (len := 1) (pc' := 33) mJ_59 (by decide +kernel) (ns_aload_n 0 rfl rfl) rfl ?_
      refine nk_p (i := .iload_n 2) (len := 1) (pc' := 34) mJ_59 (by decide +kernel) (ns_iload_n 2 rfl rfl) rfl ?_
      obtain ⟨r4, S5, h6, hr⟩ := nk_bde hr
      refine nk_callV (ci := 11) (n := 1) (x := 79) (len := 3) (j' := 60) (q' := 0) (r := r4) (S' := S5) (L2 := [(0, nk_r l0), (1, nk_i l2)]) (rest := []) (st' := []) (pc' := 37) mJ_59 (by decide +kernel) (by decide +kernel) rfl rfl t_l0 (Nat.le_of_ble_eq_true rfl) mJ_60 (Nat.le_of_ble_eq_true rfl) rfl (ja_X11_feedWord_ok zs _ _ _ _ t_l0 h6) rfl ?_
      refine nk_p (i := .aload_n 0) (len := 1) (pc' := 38) mJ_59 (by decide +kernel) (ns_aload_n 0 rfl rfl) rfl ?_
      refine nk_p (i := .iload_n 3) (len := 1) (pc' := 39) mJ_59 (by decide +kernel) (ns_iload_n 3 rfl rfl) rfl ?_
      obtain ⟨r7, S8, h9, hr⟩ := nk_bde hr
      refine nk_callV (ci := 11) (n := 1) (x := 79) (len := 3) (j' := 60) (q' := 0) (r := r7) (S' := S8) (L2 := [(0, nk_r l0), (1, nk_i l3)]) (rest := []) (st' := []) (pc' := 42) mJ_59 (by decide +kernel) (by decide +kernel) rfl rfl t_l0 (Nat.le_of_ble_eq_true rfl) mJ_60 (Nat.le_of_ble_eq_true rfl) rfl (ja_X11_feedWord_ok zs _ _ _ _ t_l0 h9) rfl ?_
      refine nk_p (i := .aload_n 0) (len := 1) (pc' := 43) mJ_59 (by decide +kernel) (ns_aload_n 0 rfl rfl) rfl ?_
      refine nk_p (i := .iload 4) (len := 2) (pc' := 45) mJ_59 (by decide +kernel) (ns_iload 4 rfl) rfl ?_
      obtain ⟨r10, S11, h12, hr⟩ := nk_bde hr
      refine nk_callV (ci := 11) (n := 1) (x := 79) (len := 3) (j' := 60) (q' := 0) (r := r10) (S' := S11) (L2 := [(0, nk_r l0), (1, nk_i l4)]) (rest := []) (st' := []) (pc' := 48) mJ_59 (by decide +kernel) (by decide +kernel) rfl rfl t_l0 (Nat.le_of_ble_eq_true rfl) mJ_60 (Nat.le_of_ble_eq_true rfl) rfl (ja_X11_feedWord_ok zs _ _ _ _ t_l0 h12) rfl ?_
      refine nk_p (i := .aload_n 0) (len := 1) (pc' := 49) mJ_59 (by decide +kernel) (ns_aload_n 0 rfl rfl) rfl ?_
      refine nk_p (i := .iload 5) (len := 2) (pc' := 51) mJ_59 (by decide +kernel) (ns_iload 5 rfl) rfl ?_
      obtain ⟨r13, S14, h15, hr⟩ := nk_bde hr
      refine nk_callV (ci := 11) (n := 1) (x := 79) (len := 3) (j' := 60) (q' := 0) (r := r13) (S' := S14) (L2 := [(0, nk_r l0), (1, nk_i l5)]) (rest := []) (st' := []) (pc' := 54) mJ_59 (by decide +kernel) (by decide +kernel) rfl rfl t_l0 (Nat.le_of_ble_eq_true rfl) mJ_60 (Nat.le_of_ble_eq_true rfl) rfl (ja_X11_feedWord_ok zs _ _ _ _ t_l0 h15) rfl ?_
      refine nk_p (i := .aload_n 0) (len := 1) (pc' := 55) mJ_59 (by decide +kernel) (ns_aload_n 0 rfl rfl) rfl ?_
      refine nk_p (i := .dup) (len := 1) (pc' := 56) mJ_59 (by decide +kernel) (ns_dup rfl) rfl ?_
      refine nk_getI (y := (0, 0)) (x := 75) (len := 3) (ci := 11) (k := 2) (pc' := 59) ja_okT mJ_59 (by decide +kernel) (by decide +kernel) (by decide +kernel) t_l0 rfl ?_
      refine nk_p (i := .bipush 20) (len := 2) (pc' := 61) mJ_59 (by decide +kernel) (ns_bipush (c := 20) (by decide +kernel)) rfl ?_
      refine nk_p (i := .iadd) (len := 1) (pc' := 62) mJ_59 (by decide +kernel) ns_iadd rfl ?_
      obtain ⟨S16, h17, hr⟩ := nk_lte hr
      refine nk_putI (y := (0, 0)) (ty := .int) (x := 75) (len := 3) (ci := 11) (k := 2) (pc' := 65) ja_okT mJ_59 (by decide +kernel) (by decide +kernel) (by decide +kernel) t_l0 (Or.inl rfl) rfl h17 ?_
      refine nk_p (i := .aload_n 0) (len := 1) (pc' := 66) mJ_59 (by decide +kernel) (ns_aload_n 0 rfl rfl) rfl ?_
      refine nk_getI (y := (0, 0)) (x := 72) (len := 3) (ci := 11) (k := 1) (pc' := 69) ja_okT mJ_59 (by decide +kernel) (by decide +kernel) (by decide +kernel) t_l0 rfl ?_
      cases hr
      exact nk_iret (ty := .int) (len := 1) mJ_59 (by decide +kernel) rfl (nk_nar_i _)
    · have hr := nk_ifn (c := (nk_w ((S.1 l0 2) + 20)) ≤ 65536) hc hr
      refine nk_p (i := .iconst (-1)) (len := 1) (pc' := 26) mJ_59 (by decide +kernel) (ns_iconst (c := (-1)) (by decide +kernel)) rfl ?_
      cases hr
      exact nk_iret (ty := .int) (len := 1) mJ_59 (by decide +kernel) rfl (nk_nar_i _)
/-! SafeCode valueAt (II)J -/
noncomputable def ja_X11_valueAt (l0 : Nat) (l1 : Int) (l2 : Int) (S : nk_S) : Option (Int × nk_S) :=
  nk_bd (ja_X11_slotAt l0 l1 l2 S) fun r1 S2 =>
  if 0 ≤ r1 then
    if 0 ≤ r1 ∧ r1 < 20480 then
    some ((S2.1 (ja_c (ja_c (ja_c l0 10) 2) 0) r1.toNat), S2)
    else none
  else
    some (0, S2)
theorem ja_X11_valueAt_ok (zs : List Int32) : ∀ (l0 : Nat) (l1 : Int) (l2 : Int) (S : nk_S) (R : Int × nk_S), nk_cl ja_Tt l0 = some 11 → ja_X11_valueAt l0 l1 l2 S = some R → nk_K ja_Tt mi_Γ (mi_ev zs) 2 78 0 [(0, nk_r l0), (1, nk_i l1), (2, nk_i l2)] [] S R := by
  intro l0 l1 l2 S R t_l0 hr
  unfold ja_X11_valueAt at hr
  refine nk_p (i := .aload_n 0) (len := 1) (pc' := 1) mJ_78 (by decide +kernel) (ns_aload_n 0 rfl rfl) rfl ?_
  refine nk_p (i := .iload_n 1) (len := 1) (pc' := 2) mJ_78 (by decide +kernel) (ns_iload_n 1 rfl rfl) rfl ?_
  refine nk_p (i := .iload_n 2) (len := 1) (pc' := 3) mJ_78 (by decide +kernel) (ns_iload_n 2 rfl rfl) rfl ?_
  obtain ⟨r1, S2, h3, hr⟩ := nk_bde hr
  refine nk_callV (ci := 11) (n := 2) (x := 184) (len := 3) (j' := 74) (q' := 1) (r := r1) (S' := S2) (L2 := [(0, nk_r l0), (1, nk_i l1), (2, nk_i l2)]) (rest := []) (st' := [nk_i r1]) (pc' := 6) mJ_78 (by decide +kernel) (by decide +kernel) rfl rfl t_l0 (Nat.le_of_ble_eq_true rfl) mJ_74 (Nat.le_of_ble_eq_true rfl) rfl (ja_X11_slotAt_ok zs _ _ _ _ _ t_l0 h3) rfl ?_
  refine nk_p (i := .istore_n 3) (len := 1) (pc' := 7) mJ_78 (by decide +kernel) (ns_istore_n (L' := [(3, nk_i r1), (0, nk_r l0), (1, nk_i l1), (2, nk_i l2)]) rfl rfl rfl (by decide +kernel)) rfl ?_
  refine nk_p (i := .iload_n 3) (len := 1) (pc' := 8) mJ_78 (by decide +kernel) (ns_iload_n 0 rfl rfl) rfl ?_
  refine nk_icond (c := .ge) (off := 7) (len := 3) (t := 15) (pc' := 11) mJ_78 (by decide +kernel) (by decide +kernel) rfl (fun hc => ?_) (fun hc => ?_)
  · have hr := nk_ifp (c := 0 ≤ r1) hc hr
    refine nk_p (i := .aload_n 0) (len := 1) (pc' := 16) mJ_78 (by decide +kernel) (ns_aload_n 1 rfl rfl) rfl ?_
    refine nk_getC (f := (2, 4, 0)) (x := 55) (len := 3) (ci := 11) (k := 10) (pc' := 19) ja_okT mJ_78 (by decide +kernel) (by decide +kernel) (by decide +kernel) (by decide) t_l0 rfl ?_
    have t4 : nk_cl ja_Tt (ja_c l0 10) = some 4 := nk_tc (y := 0) ja_okT t_l0 (by decide +kernel)
    refine nk_getC (f := (2, 7, 0)) (x := 165) (len := 3) (ci := 4) (k := 2) (pc' := 22) ja_okT mJ_78 (by decide +kernel) (by decide +kernel) (by decide +kernel) (by decide) t4 rfl ?_
    have t5 : nk_cl ja_Tt (ja_c (ja_c l0 10) 2) = some 7 := nk_tc (y := 0) ja_okT t4 (by decide +kernel)
    refine nk_getC (f := (4, 2, 20480)) (x := 191) (len := 3) (ci := 7) (k := 0) (pc' := 25) ja_okT mJ_78 (by decide +kernel) (by decide +kernel) (by decide +kernel) (by decide) t5 rfl ?_
    have t6 : nk_ar ja_Tt (ja_c (ja_c (ja_c l0 10) 2) 0) = some (2, 20480) := nk_ta ja_okT t5 (by decide +kernel)
    refine nk_p (i := .iload_n 3) (len := 1) (pc' := 26) mJ_78 (by decide +kernel) (ns_iload_n 0 rfl rfl) rfl ?_
    obtain ⟨h7, hr⟩ := nk_cke hr
    refine nk_lald (len := 1) (N := 20480) (pc' := 27) mJ_78 (by decide +kernel) t6 h7.1 h7.2 rfl rfl ?_
    cases hr
    exact nk_lret (len := 1) mJ_78 (by decide +kernel) rfl
  · have hr := nk_ifn (c := 0 ≤ r1) hc hr
    refine nk_p (i := .lconst 0) (len := 1) (pc' := 12) mJ_78 (by decide +kernel) (ns_lconst (c := 0) (by decide +kernel)) rfl ?_
    refine nk_p (i := .goto 15) (len := 3) (pc' := 27) mJ_78 (by decide +kernel) (ns_goto (by decide +kernel)) rfl ?_
    cases hr
    exact nk_lret (len := 1) mJ_78 (by decide +kernel) rfl
/-! SafeCode$Ranges highest (J)I -/
noncomputable def ja_X5_highest (l0 : Int) (S : nk_S) : Option (Int × nk_S) :=
  some ((nk_w l0), S)
theorem ja_X5_highest_ok (zs : List Int32) : ∀ (l0 : Int) (S : nk_S) (R : Int × nk_S), ja_X5_highest l0 S = some R → nk_K ja_Tt mi_Γ (mi_ev zs) 1 356 0 [(0, nk_l l0)] [] S R := by
  intro l0 S R hr
  unfold ja_X5_highest at hr
  refine nk_p (i := .lload_n 0) (len := 1) (pc' := 1) mJ_356 (by decide +kernel) (ns_lload_n 0 rfl rfl) rfl ?_
  refine nk_p (i := .l2i) (len := 1) (pc' := 2) mJ_356 (by decide +kernel) ns_l2i rfl ?_
  cases hr
  exact nk_iret (ty := .int) (len := 1) mJ_356 (by decide +kernel) rfl (nk_nar_i _)
/-! SafeCode high (II)I -/
noncomputable def ja_X11_high (l0 : Nat) (l1 : Int) (l2 : Int) (S : nk_S) : Option (Int × nk_S) :=
  nk_bd (ja_X11_factsAt l0 l1 l2 S) fun r1 S2 =>
  if (nk_land r1 4503599627370496) = 0 then
    some (0, S2)
  else
    nk_bd (ja_X11_valueAt l0 l1 l2 S2) fun r4 S5 =>
    nk_bd (ja_X5_highest r4 S5) fun r7 S8 =>
    some (r7, S8)
theorem ja_X11_high_ok (zs : List Int32) : ∀ (l0 : Nat) (l1 : Int) (l2 : Int) (S : nk_S) (R : Int × nk_S), nk_cl ja_Tt l0 = some 11 → ja_X11_high l0 l1 l2 S = some R → nk_K ja_Tt mi_Γ (mi_ev zs) 1 61 0 [(0, nk_r l0), (1, nk_i l1), (2, nk_i l2)] [] S R := by
  intro l0 l1 l2 S R t_l0 hr
  unfold ja_X11_high at hr
  refine nk_p (i := .aload_n 0) (len := 1) (pc' := 1) mJ_61 (by decide +kernel) (ns_aload_n 0 rfl rfl) rfl ?_
  refine nk_p (i := .iload_n 1) (len := 1) (pc' := 2) mJ_61 (by decide +kernel) (ns_iload_n 1 rfl rfl) rfl ?_
  refine nk_p (i := .iload_n 2) (len := 1) (pc' := 3) mJ_61 (by decide +kernel) (ns_iload_n 2 rfl rfl) rfl ?_
  obtain ⟨r1, S2, h3, hr⟩ := nk_bde hr
  refine nk_callV (ci := 11) (n := 2) (x := 194) (len := 3) (j' := 57) (q' := 2) (r := r1) (S' := S2) (L2 := [(0, nk_r l0), (1, nk_i l1), (2, nk_i l2)]) (rest := []) (st' := [nk_l r1]) (pc' := 6) mJ_61 (by decide +kernel) (by decide +kernel) rfl rfl t_l0 (Nat.le_of_ble_eq_true rfl) mJ_57 (Nat.le_of_ble_eq_true rfl) rfl (ja_X11_factsAt_ok zs _ _ _ _ _ t_l0 h3) rfl ?_
  refine nk_ldc2 (x := 198) (len := 3) (X := 4503599627370496) (v := 4503599627370496) (pc' := 9) mJ_61 (by decide +kernel) (by decide +kernel) (by decide +kernel) rfl ?_
  refine nk_p (i := .land) (len := 1) (pc' := 10) mJ_61 (by decide +kernel) ns_land rfl ?_
  refine nk_p (i := .lconst 0) (len := 1) (pc' := 11) mJ_61 (by decide +kernel) (ns_lconst (c := 0) (by decide +kernel)) rfl ?_
  refine nk_p (i := .lcmp) (len := 1) (pc' := 12) mJ_61 (by decide +kernel) ns_lcmp rfl ?_
  refine nk_lcond (c := .ne) (off := 7) (len := 3) (t := 19) (pc' := 15) mJ_61 (by decide +kernel) (by decide +kernel) rfl (fun hc => ?_) (fun hc => ?_)
  · have hr := nk_ifn (c := (nk_land r1 4503599627370496) = 0) hc hr
    refine nk_p (i := .aload_n 0) (len := 1) (pc' := 20) mJ_61 (by decide +kernel) (ns_aload_n 0 rfl rfl) rfl ?_
    refine nk_p (i := .iload_n 1) (len := 1) (pc' := 21) mJ_61 (by decide +kernel) (ns_iload_n 1 rfl rfl) rfl ?_
    refine nk_p (i := .iload_n 2) (len := 1) (pc' := 22) mJ_61 (by decide +kernel) (ns_iload_n 2 rfl rfl) rfl ?_
    obtain ⟨r4, S5, h6, hr⟩ := nk_bde hr
    refine nk_callV (ci := 11) (n := 2) (x := 200) (len := 3) (j' := 78) (q' := 2) (r := r4) (S' := S5) (L2 := [(0, nk_r l0), (1, nk_i l1), (2, nk_i l2)]) (rest := []) (st' := [nk_l r4]) (pc' := 25) mJ_61 (by decide +kernel) (by decide +kernel) rfl rfl t_l0 (Nat.le_of_ble_eq_true rfl) mJ_78 (Nat.le_of_ble_eq_true rfl) rfl (ja_X11_valueAt_ok zs _ _ _ _ _ t_l0 h6) rfl ?_
    obtain ⟨r7, S8, h9, hr⟩ := nk_bde hr
    refine nk_callS (ci := 0) (n := 1) (x := 207) (len := 3) (j' := 356) (q' := 1) (r := r7) (S' := S8) (L2 := [(0, nk_l r4)]) (rest := []) (st' := [nk_i r7]) (pc' := 28) mJ_61 (by decide +kernel) (by decide +kernel) (Nat.le_of_ble_eq_true rfl) rfl rfl (Nat.le_of_ble_eq_true rfl) mJ_356 (Nat.le_of_ble_eq_true rfl) ja_Tpos rfl (ja_X5_highest_ok zs _ _ _ h9) rfl ?_
    cases hr
    exact nk_iret (ty := .int) (len := 1) mJ_61 (by decide +kernel) rfl (nk_nar_i _)
  · have hr := nk_ifp (c := (nk_land r1 4503599627370496) = 0) (Decidable.of_not_not hc) hr
    refine nk_p (i := .iconst 0) (len := 1) (pc' := 16) mJ_61 (by decide +kernel) (ns_iconst (c := 0) (by decide +kernel)) rfl ?_
    refine nk_p (i := .goto 12) (len := 3) (pc' := 28) mJ_61 (by decide +kernel) (ns_goto (by decide +kernel)) rfl ?_
    cases hr
    exact nk_iret (ty := .int) (len := 1) mJ_61 (by decide +kernel) rfl (nk_nar_i _)
/-! SafeCode input (I)Z -/
noncomputable def ja_X11_input (l0 : Nat) (l1 : Int) (S : nk_S) : Option (Int × nk_S) :=
  if (S.1 l0 12) < 256 then
    if 0 ≤ (S.1 l0 12) ∧ (S.1 l0 12) < 256 then
    nk_lt (nk_wi S (ja_c l0 11) (S.1 l0 12).toNat l1) fun S3 =>
    nk_lt (nk_wi S3 l0 12 (nk_w ((S3.1 l0 12) + 1))) fun S5 =>
    some (1, S5)
    else none
  else
    some (0, S)
theorem ja_X11_input_ok (zs : List Int32) : ∀ (l0 : Nat) (l1 : Int) (S : nk_S) (R : Int × nk_S), nk_cl ja_Tt l0 = some 11 → ja_X11_input l0 l1 S = some R → nk_K ja_Tt mi_Γ (mi_ev zs) 1 63 0 [(0, nk_r l0), (1, nk_i l1)] [] S R := by
  intro l0 l1 S R t_l0 hr
  unfold ja_X11_input at hr
  refine nk_p (i := .aload_n 0) (len := 1) (pc' := 1) mJ_63 (by decide +kernel) (ns_aload_n 0 rfl rfl) rfl ?_
  refine nk_getI (y := (0, 0)) (x := 224) (len := 3) (ci := 11) (k := 12) (pc' := 4) ja_okT mJ_63 (by decide +kernel) (by decide +kernel) (by decide +kernel) t_l0 rfl ?_
  refine nk_p (i := .sipush 256) (len := 3) (pc' := 7) mJ_63 (by decide +kernel) (ns_sipush (c := 256) (by decide +kernel)) rfl ?_
  refine nk_icmp (c := .lt) (off := 5) (len := 3) (t := 12) (pc' := 10) mJ_63 (by decide +kernel) (by decide +kernel) rfl (fun hc => ?_) (fun hc => ?_)
  · have hr := nk_ifp (c := (S.1 l0 12) < 256) hc hr
    refine nk_p (i := .aload_n 0) (len := 1) (pc' := 13) mJ_63 (by decide +kernel) (ns_aload_n 0 rfl rfl) rfl ?_
    refine nk_getC (f := (4, 1, 256)) (x := 59) (len := 3) (ci := 11) (k := 11) (pc' := 16) ja_okT mJ_63 (by decide +kernel) (by decide +kernel) (by decide +kernel) (by decide) t_l0 rfl ?_
    have t1 : nk_ar ja_Tt (ja_c l0 11) = some (1, 256) := nk_ta ja_okT t_l0 (by decide +kernel)
    refine nk_p (i := .aload_n 0) (len := 1) (pc' := 17) mJ_63 (by decide +kernel) (ns_aload_n 0 rfl rfl) rfl ?_
    refine nk_getI (y := (0, 0)) (x := 224) (len := 3) (ci := 11) (k := 12) (pc' := 20) ja_okT mJ_63 (by decide +kernel) (by decide +kernel) (by decide +kernel) t_l0 rfl ?_
    refine nk_p (i := .iload_n 1) (len := 1) (pc' := 21) mJ_63 (by decide +kernel) (ns_iload_n 1 rfl rfl) rfl ?_
    obtain ⟨h2, hr⟩ := nk_cke hr
    obtain ⟨S3, h4, hr⟩ := nk_lte hr
    refine nk_iast (len := 1) (N := 256) (pc' := 22) mJ_63 (by decide +kernel) t1 h2.1 h2.2 rfl rfl h4 ?_
    refine nk_p (i := .aload_n 0) (len := 1) (pc' := 23) mJ_63 (by decide +kernel) (ns_aload_n 0 rfl rfl) rfl ?_
    refine nk_p (i := .dup) (len := 1) (pc' := 24) mJ_63 (by decide +kernel) (ns_dup rfl) rfl ?_
    refine nk_getI (y := (0, 0)) (x := 224) (len := 3) (ci := 11) (k := 12) (pc' := 27) ja_okT mJ_63 (by decide +kernel) (by decide +kernel) (by decide +kernel) t_l0 rfl ?_
    refine nk_p (i := .iconst 1) (len := 1) (pc' := 28) mJ_63 (by decide +kernel) (ns_iconst (c := 1) (by decide +kernel)) rfl ?_
    refine nk_p (i := .iadd) (len := 1) (pc' := 29) mJ_63 (by decide +kernel) ns_iadd rfl ?_
    obtain ⟨S5, h6, hr⟩ := nk_lte hr
    refine nk_putI (y := (0, 0)) (ty := .int) (x := 224) (len := 3) (ci := 11) (k := 12) (pc' := 32) ja_okT mJ_63 (by decide +kernel) (by decide +kernel) (by decide +kernel) t_l0 (Or.inl rfl) rfl h6 ?_
    refine nk_p (i := .iconst 1) (len := 1) (pc' := 33) mJ_63 (by decide +kernel) (ns_iconst (c := 1) (by decide +kernel)) rfl ?_
    cases hr
    exact nk_iret (ty := .boolean) (len := 1) mJ_63 (by decide +kernel) rfl (nk_nar_z (by decide))
  · have hr := nk_ifn (c := (S.1 l0 12) < 256) hc hr
    refine nk_p (i := .iconst 0) (len := 1) (pc' := 11) mJ_63 (by decide +kernel) (ns_iconst (c := 0) (by decide +kernel)) rfl ?_
    cases hr
    exact nk_iret (ty := .boolean) (len := 1) mJ_63 (by decide +kernel) rfl (nk_nar_z (by decide))
/-! SafeCode kind (II)I -/
noncomputable def ja_X11_kind (l0 : Nat) (l1 : Int) (l2 : Int) (S : nk_S) : Option (Int × nk_S) :=
  nk_bd (ja_X11_factsAt l0 l1 l2 S) fun r1 S2 =>
  some ((nk_w (nk_lushr r1 52)), S2)
theorem ja_X11_kind_ok (zs : List Int32) : ∀ (l0 : Nat) (l1 : Int) (l2 : Int) (S : nk_S) (R : Int × nk_S), nk_cl ja_Tt l0 = some 11 → ja_X11_kind l0 l1 l2 S = some R → nk_K ja_Tt mi_Γ (mi_ev zs) 1 65 0 [(0, nk_r l0), (1, nk_i l1), (2, nk_i l2)] [] S R := by
  intro l0 l1 l2 S R t_l0 hr
  unfold ja_X11_kind at hr
  refine nk_p (i := .aload_n 0) (len := 1) (pc' := 1) mJ_65 (by decide +kernel) (ns_aload_n 0 rfl rfl) rfl ?_
  refine nk_p (i := .iload_n 1) (len := 1) (pc' := 2) mJ_65 (by decide +kernel) (ns_iload_n 1 rfl rfl) rfl ?_
  refine nk_p (i := .iload_n 2) (len := 1) (pc' := 3) mJ_65 (by decide +kernel) (ns_iload_n 2 rfl rfl) rfl ?_
  obtain ⟨r1, S2, h3, hr⟩ := nk_bde hr
  refine nk_callV (ci := 11) (n := 2) (x := 194) (len := 3) (j' := 57) (q' := 2) (r := r1) (S' := S2) (L2 := [(0, nk_r l0), (1, nk_i l1), (2, nk_i l2)]) (rest := []) (st' := [nk_l r1]) (pc' := 6) mJ_65 (by decide +kernel) (by decide +kernel) rfl rfl t_l0 (Nat.le_of_ble_eq_true rfl) mJ_57 (Nat.le_of_ble_eq_true rfl) rfl (ja_X11_factsAt_ok zs _ _ _ _ _ t_l0 h3) rfl ?_
  refine nk_p (i := .bipush 52) (len := 2) (pc' := 8) mJ_65 (by decide +kernel) (ns_bipush (c := 52) (by decide +kernel)) rfl ?_
  refine nk_p (i := .lushr) (len := 1) (pc' := 9) mJ_65 (by decide +kernel) ns_lushr rfl ?_
  refine nk_p (i := .l2i) (len := 1) (pc' := 10) mJ_65 (by decide +kernel) ns_l2i rfl ?_
  cases hr
  exact nk_iret (ty := .int) (len := 1) mJ_65 (by decide +kernel) rfl (nk_nar_i _)
/-! SafeCode$Ranges isNothing (J)Z -/
noncomputable def ja_X5_isNothing (l0 : Int) (S : nk_S) : Option (Int × nk_S) :=
  if (nk_w (nk_lshr l0 32)) ≤ (nk_w l0) then
    some (0, S)
  else
    some (1, S)
theorem ja_X5_isNothing_ok (zs : List Int32) : ∀ (l0 : Int) (S : nk_S) (R : Int × nk_S), ja_X5_isNothing l0 S = some R → nk_K ja_Tt mi_Γ (mi_ev zs) 1 360 0 [(0, nk_l l0)] [] S R := by
  intro l0 S R hr
  unfold ja_X5_isNothing at hr
  refine nk_p (i := .lload_n 0) (len := 1) (pc' := 1) mJ_360 (by decide +kernel) (ns_lload_n 0 rfl rfl) rfl ?_
  refine nk_p (i := .bipush 32) (len := 2) (pc' := 3) mJ_360 (by decide +kernel) (ns_bipush (c := 32) (by decide +kernel)) rfl ?_
  refine nk_p (i := .lshr) (len := 1) (pc' := 4) mJ_360 (by decide +kernel) ns_lshr rfl ?_
  refine nk_p (i := .l2i) (len := 1) (pc' := 5) mJ_360 (by decide +kernel) ns_l2i rfl ?_
  refine nk_p (i := .lload_n 0) (len := 1) (pc' := 6) mJ_360 (by decide +kernel) (ns_lload_n 0 rfl rfl) rfl ?_
  refine nk_p (i := .l2i) (len := 1) (pc' := 7) mJ_360 (by decide +kernel) ns_l2i rfl ?_
  refine nk_icmp (c := .le) (off := 7) (len := 3) (t := 14) (pc' := 10) mJ_360 (by decide +kernel) (by decide +kernel) rfl (fun hc => ?_) (fun hc => ?_)
  · have hr := nk_ifp (c := (nk_w (nk_lshr l0 32)) ≤ (nk_w l0)) hc hr
    refine nk_p (i := .iconst 0) (len := 1) (pc' := 15) mJ_360 (by decide +kernel) (ns_iconst (c := 0) (by decide +kernel)) rfl ?_
    cases hr
    exact nk_iret (ty := .boolean) (len := 1) mJ_360 (by decide +kernel) rfl (nk_nar_z (by decide))
  · have hr := nk_ifn (c := (nk_w (nk_lshr l0 32)) ≤ (nk_w l0)) hc hr
    refine nk_p (i := .iconst 1) (len := 1) (pc' := 11) mJ_360 (by decide +kernel) (ns_iconst (c := 1) (by decide +kernel)) rfl ?_
    refine nk_p (i := .goto 4) (len := 3) (pc' := 15) mJ_360 (by decide +kernel) (ns_goto (by decide +kernel)) rfl ?_
    cases hr
    exact nk_iret (ty := .boolean) (len := 1) mJ_360 (by decide +kernel) rfl (nk_nar_z (by decide))
