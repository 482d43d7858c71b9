/-! SafeCodeModel typesTo (LSafeCodeModel$Program;I)Z -/
noncomputable def ja_X13_typesTo_b101 (rec18 : Nat → Nat → Int → Int → Int → nk_S → Option (Int × nk_S)) (l0 : Nat) (l1 : Nat) (l2 : Int) (l4 : Int) (l5 : Int) (l6 : Int) (s0 : Int) (S : nk_S) : Option (Int × nk_S) :=
  if 0 ≤ l5 ∧ l5 < 20480 then
  nk_lt (nk_wi S (ja_c l0 23) l5.toNat l6) fun S3 =>
  nk_lt (nk_w (l4 + 1)) fun v5 =>
  rec18 l0 l1 l2 s0 v5 S3
  else none
theorem ja_X13_typesTo_b101_ok (zs : List Int32) {rec18 : Nat → Nat → Int → Int → Int → nk_S → Option (Int × nk_S)} (hrec18 : ∀ (l0 : Nat) (l1 : Nat) (l2 : Int) (l3 : Int) (l4 : Int) (S : nk_S) (R : Int × nk_S), nk_cl ja_Tt l0 = some 13 → nk_cl ja_Tt l1 = some 12 → rec18 l0 l1 l2 l3 l4 S = some R → nk_K ja_Tt mi_Γ (mi_ev zs) 1 241 18 [(0, nk_r l0), (1, nk_r l1), (2, nk_i l2), (3, nk_i l3), (4, nk_i l4)] [] S R) : ∀ (l0 : Nat) (l1 : Nat) (l2 : Int) (l4 : Int) (l5 : Int) (l6 : Int) (s0 : Int) (S : nk_S) (R : Int × nk_S), nk_cl ja_Tt l0 = some 13 → nk_cl ja_Tt l1 = some 12 → ja_X13_typesTo_b101 rec18 l0 l1 l2 l4 l5 l6 s0 S = some R → nk_K ja_Tt mi_Γ (mi_ev zs) 1 241 101 [(0, nk_r l0), (1, nk_r l1), (2, nk_i l2), (4, nk_i l4), (5, nk_i l5), (6, nk_i l6)] [nk_i s0] S R := by
  intro l0 l1 l2 l4 l5 l6 s0 S R t_l0 t_l1 hr
  unfold ja_X13_typesTo_b101 at hr
  refine nk_p (i := .istore_n 3) (len := 1) (pc' := 102) mJ_241 (by decide +kernel) (ns_istore_n (L' := [(3, nk_i s0), (0, nk_r l0), (1, nk_r l1), (2, nk_i l2), (4, nk_i l4), (5, nk_i l5), (6, nk_i l6)]) rfl rfl rfl (by decide +kernel)) rfl ?_
  refine nk_p (i := .aload_n 0) (len := 1) (pc' := 103) mJ_241 (by decide +kernel) (ns_aload_n 1 rfl rfl) rfl ?_
  refine nk_getC (f := (4, 1, 20480)) (x := 65) (len := 3) (ci := 13) (k := 23) (pc' := 106) ja_okT mJ_241 (by decide +kernel) (by decide +kernel) (by decide +kernel) (by decide) t_l0 rfl ?_
  have t1 : nk_ar ja_Tt (ja_c l0 23) = some (1, 20480) := nk_ta ja_okT t_l0 (by decide +kernel)
  refine nk_p (i := .iload 5) (len := 2) (pc' := 108) mJ_241 (by decide +kernel) (ns_iload 5 rfl) rfl ?_
  refine nk_p (i := .iload 6) (len := 2) (pc' := 110) mJ_241 (by decide +kernel) (ns_iload 6 rfl) rfl ?_
  obtain ⟨h2, hr⟩ := nk_cke hr
  obtain ⟨S3, h4, hr⟩ := nk_lte hr
  refine nk_iast (len := 1) (N := 20480) (pc' := 111) mJ_241 (by decide +kernel) t1 h2.1 h2.2 rfl rfl h4 ?_
  obtain ⟨v5, h6, hr⟩ := nk_lte hr
  refine nk_p (i := .iinc 4 1) (len := 3) (pc' := 114) mJ_241 (by decide +kernel) (ns_iinc (c := 1) (L' := [(4, nk_i v5), (3, nk_i s0), (0, nk_r l0), (1, nk_r l1), (2, nk_i l2), (5, nk_i l5), (6, nk_i l6)]) 4 rfl (by decide +kernel) h6 rfl (by decide +kernel)) rfl ?_
  refine nk_p (i := .goto (-96)) (len := 3) (pc' := 18) mJ_241 (by decide +kernel) (ns_goto (by decide +kernel)) rfl ?_
  refine nk_sub [2, 3, 4, 1, 0] (L' := [(0, nk_r l0), (1, nk_r l1), (2, nk_i l2), (3, nk_i s0), (4, nk_i v5)]) rfl ?_
  exact hrec18 _ _ _ _ _ _ _ t_l0 t_l1 hr
noncomputable def ja_X13_typesTo_b96 (rec18 : Nat → Nat → Int → Int → Int → nk_S → Option (Int × nk_S)) (l0 : Nat) (l1 : Nat) (l2 : Int) (l4 : Int) (l5 : Int) (l6 : Int) (S : nk_S) : Option (Int × nk_S) :=
  ja_X13_typesTo_b101 rec18 l0 l1 l2 l4 l5 l6 1 S
theorem ja_X13_typesTo_b96_ok (zs : List Int32) {rec18 : Nat → Nat → Int → Int → Int → nk_S → Option (Int × nk_S)} (hrec18 : ∀ (l0 : Nat) (l1 : Nat) (l2 : Int) (l3 : Int) (l4 : Int) (S : nk_S) (R : Int × nk_S), nk_cl ja_Tt l0 = some 13 → nk_cl ja_Tt l1 = some 12 → rec18 l0 l1 l2 l3 l4 S = some R → nk_K ja_Tt mi_Γ (mi_ev zs) 1 241 18 [(0, nk_r l0), (1, nk_r l1), (2, nk_i l2), (3, nk_i l3), (4, nk_i l4)] [] S R) : ∀ (l0 : Nat) (l1 : Nat) (l2 : Int) (l4 : Int) (l5 : Int) (l6 : Int) (S : nk_S) (R : Int × nk_S), nk_cl ja_Tt l0 = some 13 → nk_cl ja_Tt l1 = some 12 → ja_X13_typesTo_b96 rec18 l0 l1 l2 l4 l5 l6 S = some R → nk_K ja_Tt mi_Γ (mi_ev zs) 1 241 96 [(0, nk_r l0), (1, nk_r l1), (2, nk_i l2), (4, nk_i l4), (5, nk_i l5), (6, nk_i l6)] [] S R := by
  intro l0 l1 l2 l4 l5 l6 S R t_l0 t_l1 hr
  unfold ja_X13_typesTo_b96 at hr
  refine nk_p (i := .iconst 1) (len := 1) (pc' := 97) mJ_241 (by decide +kernel) (ns_iconst (c := 1) (by decide +kernel)) rfl ?_
  refine nk_p (i := .goto 4) (len := 3) (pc' := 101) mJ_241 (by decide +kernel) (ns_goto (by decide +kernel)) rfl ?_
  exact ja_X13_typesTo_b101_ok zs hrec18 _ _ _ _ _ _ _ _ _ t_l0 t_l1 hr
noncomputable def ja_X13_typesTo_b78 (rec18 : Nat → Nat → Int → Int → Int → nk_S → Option (Int × nk_S)) (l0 : Nat) (l1 : Nat) (l2 : Int) (l3 : Int) (l4 : Int) (l5 : Int) (s0 : Int) (S : nk_S) : Option (Int × nk_S) :=
  if l3 = 0 then
    if 0 ≤ l5 ∧ l5 < 20480 then
    if s0 = (S.1 (ja_c l0 23) l5.toNat) then
      ja_X13_typesTo_b101 rec18 l0 l1 l2 l4 l5 s0 0 S
    else
      ja_X13_typesTo_b96 rec18 l0 l1 l2 l4 l5 s0 S
    else none
  else
    ja_X13_typesTo_b96 rec18 l0 l1 l2 l4 l5 s0 S
theorem ja_X13_typesTo_b78_ok (zs : List Int32) {rec18 : Nat → Nat → Int → Int → Int → nk_S → Option (Int × nk_S)} (hrec18 : ∀ (l0 : Nat) (l1 : Nat) (l2 : Int) (l3 : Int) (l4 : Int) (S : nk_S) (R : Int × nk_S), nk_cl ja_Tt l0 = some 13 → nk_cl ja_Tt l1 = some 12 → rec18 l0 l1 l2 l3 l4 S = some R → nk_K ja_Tt mi_Γ (mi_ev zs) 1 241 18 [(0, nk_r l0), (1, nk_r l1), (2, nk_i l2), (3, nk_i l3), (4, nk_i l4)] [] S R) : ∀ (l0 : Nat) (l1 : Nat) (l2 : Int) (l3 : Int) (l4 : Int) (l5 : Int) (s0 : Int) (S : nk_S) (R : Int × nk_S), nk_cl ja_Tt l0 = some 13 → nk_cl ja_Tt l1 = some 12 → ja_X13_typesTo_b78 rec18 l0 l1 l2 l3 l4 l5 s0 S = some R → nk_K ja_Tt mi_Γ (mi_ev zs) 1 241 78 [(0, nk_r l0), (1, nk_r l1), (2, nk_i l2), (3, nk_i l3), (4, nk_i l4), (5, nk_i l5)] [nk_i s0] S R := by
  intro l0 l1 l2 l3 l4 l5 s0 S R t_l0 t_l1 hr
  unfold ja_X13_typesTo_b78 at hr
  refine nk_p (i := .istore 6) (len := 2) (pc' := 80) mJ_241 (by decide +kernel) (ns_istore (L' := [(6, nk_i s0), (0, nk_r l0), (1, nk_r l1), (2, nk_i l2), (3, nk_i l3), (4, nk_i l4), (5, nk_i l5)]) rfl rfl (by decide +kernel)) rfl ?_
  refine nk_p (i := .iload_n 3) (len := 1) (pc' := 81) mJ_241 (by decide +kernel) (ns_iload_n 4 rfl rfl) rfl ?_
  refine nk_icond (c := .ne) (off := 15) (len := 3) (t := 96) (pc' := 84) mJ_241 (by decide +kernel) (by decide +kernel) rfl (fun hc => ?_) (fun hc => ?_)
  · have hr := nk_ifn (c := l3 = 0) hc hr
    refine nk_sub [1, 2, 3, 5, 6, 0] (L' := [(0, nk_r l0), (1, nk_r l1), (2, nk_i l2), (4, nk_i l4), (5, nk_i l5), (6, nk_i s0)]) rfl ?_
    exact ja_X13_typesTo_b96_ok zs hrec18 _ _ _ _ _ _ _ _ t_l0 t_l1 hr
  · have hr := nk_ifp (c := l3 = 0) (Decidable.of_not_not hc) hr
    refine nk_p (i := .iload 6) (len := 2) (pc' := 86) mJ_241 (by decide +kernel) (ns_iload 0 rfl) rfl ?_
    refine nk_p (i := .aload_n 0) (len := 1) (pc' := 87) mJ_241 (by decide +kernel) (ns_aload_n 1 rfl rfl) rfl ?_
    refine nk_getC (f := (4, 1, 20480)) (x := 65) (len := 3) (ci := 13) (k := 23) (pc' := 90) ja_okT mJ_241 (by decide +kernel) (by decide +kernel) (by decide +kernel) (by decide) t_l0 rfl ?_
    have t1 : nk_ar ja_Tt (ja_c l0 23) = some (1, 20480) := nk_ta ja_okT t_l0 (by decide +kernel)
    refine nk_p (i := .iload 5) (len := 2) (pc' := 92) mJ_241 (by decide +kernel) (ns_iload 6 rfl) rfl ?_
    obtain ⟨h2, hr⟩ := nk_cke hr
    refine nk_iald (len := 1) (N := 20480) (pc' := 93) mJ_241 (by decide +kernel) t1 h2.1 h2.2 rfl rfl ?_
    refine nk_icmp (c := .eq) (off := 7) (len := 3) (t := 100) (pc' := 96) mJ_241 (by decide +kernel) (by decide +kernel) rfl (fun hc => ?_) (fun hc => ?_)
    · have hr := nk_ifp (c := s0 = (S.1 (ja_c l0 23) l5.toNat)) hc hr
      refine nk_p (i := .iconst 0) (len := 1) (pc' := 101) mJ_241 (by decide +kernel) (ns_iconst (c := 0) (by decide +kernel)) rfl ?_
      refine nk_sub [1, 2, 3, 5, 6, 0] (L' := [(0, nk_r l0), (1, nk_r l1), (2, nk_i l2), (4, nk_i l4), (5, nk_i l5), (6, nk_i s0)]) rfl ?_
      exact ja_X13_typesTo_b101_ok zs hrec18 _ _ _ _ _ _ _ _ _ t_l0 t_l1 hr
    · have hr := nk_ifn (c := s0 = (S.1 (ja_c l0 23) l5.toNat)) hc hr
      refine nk_sub [1, 2, 3, 5, 6, 0] (L' := [(0, nk_r l0), (1, nk_r l1), (2, nk_i l2), (4, nk_i l4), (5, nk_i l5), (6, nk_i s0)]) rfl ?_
      exact ja_X13_typesTo_b96_ok zs hrec18 _ _ _ _ _ _ _ _ t_l0 t_l1 hr
noncomputable def ja_X13_typesTo_b18 (rec18 : Nat → Nat → Int → Int → Int → nk_S → Option (Int × nk_S)) (l0 : Nat) (l1 : Nat) (l2 : Int) (l3 : Int) (l4 : Int) (S : nk_S) : Option (Int × nk_S) :=
  if 0 ≤ l2 ∧ l2 < 1024 then
  if (nk_w (12 + (S.1 (ja_c l1 26) l2.toNat))) ≤ l4 then
    nk_lt (nk_wi S (ja_c l0 22) l2.toNat 1) fun S4 =>
    if l3 = 0 ∨ l3 = 1 then
    some (l3, S4)
    else none
  else
    nk_lt (nk_w ((nk_w (l2 * 20)) + l4)) fun v7 =>
    if (S.1 (ja_c l0 22) l2.toNat) = 0 then
      if 0 ≤ l4 ∧ l4 < 24 then
      ja_X13_typesTo_b78 rec18 l0 l1 l2 l3 l4 v7 (S.1 (ja_c l0 24) l4.toNat) S
      else none
    else
      if 0 ≤ v7 ∧ v7 < 20480 then
      if 0 ≤ l4 ∧ l4 < 24 then
      nk_bd (ja_X13_joined l1 (S.1 (ja_c l0 23) v7.toNat) (S.1 (ja_c l0 24) l4.toNat) S) fun r16 S17 =>
      ja_X13_typesTo_b78 rec18 l0 l1 l2 l3 l4 v7 r16 S17
      else none
      else none
  else none
theorem ja_X13_typesTo_b18_ok (zs : List Int32) {rec18 : Nat → Nat → Int → Int → Int → nk_S → Option (Int × nk_S)} (hrec18 : ∀ (l0 : Nat) (l1 : Nat) (l2 : Int) (l3 : Int) (l4 : Int) (S : nk_S) (R : Int × nk_S), nk_cl ja_Tt l0 = some 13 → nk_cl ja_Tt l1 = some 12 → rec18 l0 l1 l2 l3 l4 S = some R → nk_K ja_Tt mi_Γ (mi_ev zs) 1 241 18 [(0, nk_r l0), (1, nk_r l1), (2, nk_i l2), (3, nk_i l3), (4, nk_i l4)] [] S R) : ∀ (l0 : Nat) (l1 : Nat) (l2 : Int) (l3 : Int) (l4 : Int) (S : nk_S) (R : Int × nk_S), nk_cl ja_Tt l0 = some 13 → nk_cl ja_Tt l1 = some 12 → ja_X13_typesTo_b18 rec18 l0 l1 l2 l3 l4 S = some R → nk_K ja_Tt mi_Γ (mi_ev zs) 1 241 18 [(0, nk_r l0), (1, nk_r l1), (2, nk_i l2), (3, nk_i l3), (4, nk_i l4)] [] S R := by
  intro l0 l1 l2 l3 l4 S R t_l0 t_l1 hr
  unfold ja_X13_typesTo_b18 at hr
  refine nk_p (i := .iload 4) (len := 2) (pc' := 20) mJ_241 (by decide +kernel) (ns_iload 4 rfl) rfl ?_
  refine nk_p (i := .bipush 12) (len := 2) (pc' := 22) mJ_241 (by decide +kernel) (ns_bipush (c := 12) (by decide +kernel)) rfl ?_
  refine nk_p (i := .aload_n 1) (len := 1) (pc' := 23) mJ_241 (by decide +kernel) (ns_aload_n 1 rfl rfl) rfl ?_
  refine nk_getC (f := (4, 1, 1024)) (x := 474) (len := 3) (ci := 12) (k := 26) (pc' := 26) ja_okT mJ_241 (by decide +kernel) (by decide +kernel) (by decide +kernel) (by decide) t_l1 rfl ?_
  have t1 : nk_ar ja_Tt (ja_c l1 26) = some (1, 1024) := nk_ta ja_okT t_l1 (by decide +kernel)
  refine nk_p (i := .iload_n 2) (len := 1) (pc' := 27) mJ_241 (by decide +kernel) (ns_iload_n 2 rfl rfl) rfl ?_
  obtain ⟨h2, hr⟩ := nk_cke hr
  refine nk_iald (len := 1) (N := 1024) (pc' := 28) mJ_241 (by decide +kernel) t1 h2.1 h2.2 rfl rfl ?_
  refine nk_p (i := .iadd) (len := 1) (pc' := 29) mJ_241 (by decide +kernel) ns_iadd rfl ?_
  refine nk_icmp (c := .ge) (off := 88) (len := 3) (t := 117) (pc' := 32) mJ_241 (by decide +kernel) (by decide +kernel) rfl (fun hc => ?_) (fun hc => ?_)
  · have hr := nk_ifp (c := (nk_w (12 + (S.1 (ja_c l1 26) l2.toNat))) ≤ l4) hc hr
    refine nk_p (i := .aload_n 0) (len := 1) (pc' := 118) mJ_241 (by decide +kernel) (ns_aload_n 0 rfl rfl) rfl ?_
    refine nk_getC (f := (4, 3, 1024)) (x := 61) (len := 3) (ci := 13) (k := 22) (pc' := 121) ja_okT mJ_241 (by decide +kernel) (by decide +kernel) (by decide +kernel) (by decide) t_l0 rfl ?_
    have t3 : nk_ar ja_Tt (ja_c l0 22) = some (3, 1024) := nk_ta ja_okT t_l0 (by decide +kernel)
    refine nk_p (i := .iload_n 2) (len := 1) (pc' := 122) mJ_241 (by decide +kernel) (ns_iload_n 2 rfl rfl) rfl ?_
    refine nk_p (i := .iconst 1) (len := 1) (pc' := 123) mJ_241 (by decide +kernel) (ns_iconst (c := 1) (by decide +kernel)) rfl ?_
    obtain ⟨S4, h5, hr⟩ := nk_lte hr
    refine nk_zast (len := 1) (N := 1024) (pc' := 124) mJ_241 (by decide +kernel) t3 h2.1 h2.2 (by decide) rfl rfl h5 ?_
    refine nk_p (i := .iload_n 3) (len := 1) (pc' := 125) mJ_241 (by decide +kernel) (ns_iload_n 3 rfl rfl) rfl ?_
    obtain ⟨h6, hr⟩ := nk_cke hr
    cases hr
    exact nk_iret (ty := .boolean) (len := 1) mJ_241 (by decide +kernel) rfl (nk_nar_z h6)
  · have hr := nk_ifn (c := (nk_w (12 + (S.1 (ja_c l1 26) l2.toNat))) ≤ l4) hc hr
    refine nk_p (i := .iload_n 2) (len := 1) (pc' := 33) mJ_241 (by decide +kernel) (ns_iload_n 2 rfl rfl) rfl ?_
    refine nk_p (i := .bipush 20) (len := 2) (pc' := 35) mJ_241 (by decide +kernel) (ns_bipush (c := 20) (by decide +kernel)) rfl ?_
    refine nk_p (i := .imul) (len := 1) (pc' := 36) mJ_241 (by decide +kernel) ns_imul rfl ?_
    refine nk_p (i := .iload 4) (len := 2) (pc' := 38) mJ_241 (by decide +kernel) (ns_iload 4 rfl) rfl ?_
    refine nk_p (i := .iadd) (len := 1) (pc' := 39) mJ_241 (by decide +kernel) ns_iadd rfl ?_
    obtain ⟨v7, h8, hr⟩ := nk_lte hr
    refine nk_p (i := .istore 5) (len := 2) (pc' := 41) mJ_241 (by decide +kernel) (ns_istore (L' := [(5, nk_i v7), (0, nk_r l0), (1, nk_r l1), (2, nk_i l2), (3, nk_i l3), (4, nk_i l4)]) h8 rfl (by decide +kernel)) rfl ?_
    refine nk_p (i := .aload_n 0) (len := 1) (pc' := 42) mJ_241 (by decide +kernel) (ns_aload_n 1 rfl rfl) rfl ?_
    refine nk_getC (f := (4, 3, 1024)) (x := 61) (len := 3) (ci := 13) (k := 22) (pc' := 45) ja_okT mJ_241 (by decide +kernel) (by decide +kernel) (by decide +kernel) (by decide) t_l0 rfl ?_
    have t9 : nk_ar ja_Tt (ja_c l0 22) = some (3, 1024) := nk_ta ja_okT t_l0 (by decide +kernel)
    refine nk_p (i := .iload_n 2) (len := 1) (pc' := 46) mJ_241 (by decide +kernel) (ns_iload_n 3 rfl rfl) rfl ?_
    refine nk_bald (t := 3) (len := 1) (N := 1024) (pc' := 47) mJ_241 (by decide +kernel) t9 (by decide) h2.1 h2.2 rfl rfl ?_
    refine nk_icond (c := .eq) (off := 24) (len := 3) (t := 71) (pc' := 50) mJ_241 (by decide +kernel) (by decide +kernel) rfl (fun hc => ?_) (fun hc => ?_)
    · have hr := nk_ifp (c := (S.1 (ja_c l0 22) l2.toNat) = 0) hc hr
      refine nk_p (i := .aload_n 0) (len := 1) (pc' := 72) mJ_241 (by decide +kernel) (ns_aload_n 1 rfl rfl) rfl ?_
      refine nk_getC (f := (4, 1, 24)) (x := 68) (len := 3) (ci := 13) (k := 24) (pc' := 75) ja_okT mJ_241 (by decide +kernel) (by decide +kernel) (by decide +kernel) (by decide) t_l0 rfl ?_
      have t10 : nk_ar ja_Tt (ja_c l0 24) = some (1, 24) := nk_ta ja_okT t_l0 (by decide +kernel)
      refine nk_p (i := .iload 4) (len := 2) (pc' := 77) mJ_241 (by decide +kernel) (ns_iload 5 rfl) rfl ?_
      obtain ⟨h11, hr⟩ := nk_cke hr
      refine nk_iald (len := 1) (N := 24) (pc' := 78) mJ_241 (by decide +kernel) t10 h11.1 h11.2 rfl rfl ?_
      refine nk_sub [1, 2, 3, 4, 5, 0] (L' := [(0, nk_r l0), (1, nk_r l1), (2, nk_i l2), (3, nk_i l3), (4, nk_i l4), (5, nk_i v7)]) rfl ?_
      exact ja_X13_typesTo_b78_ok zs hrec18 _ _ _ _ _ _ _ _ _ t_l0 t_l1 hr
    · have hr := nk_ifn (c := (S.1 (ja_c l0 22) l2.toNat) = 0) hc hr
      refine nk_p (i := .aload_n 1) (len := 1) (pc' := 51) mJ_241 (by decide +kernel) (ns_aload_n 2 rfl rfl) rfl ?_
      refine nk_p (i := .aload_n 0) (len := 1) (pc' := 52) mJ_241 (by decide +kernel) (ns_aload_n 1 rfl rfl) rfl ?_
      refine nk_getC (f := (4, 1, 20480)) (x := 65) (len := 3) (ci := 13) (k := 23) (pc' := 55) ja_okT mJ_241 (by decide +kernel) (by decide +kernel) (by decide +kernel) (by decide) t_l0 rfl ?_
      have t12 : nk_ar ja_Tt (ja_c l0 23) = some (1, 20480) := nk_ta ja_okT t_l0 (by decide +kernel)
      refine nk_p (i := .iload 5) (len := 2) (pc' := 57) mJ_241 (by decide +kernel) (ns_iload 0 rfl) rfl ?_
      obtain ⟨h13, hr⟩ := nk_cke hr
      refine nk_iald (len := 1) (N := 20480) (pc' := 58) mJ_241 (by decide +kernel) t12 h13.1 h13.2 rfl rfl ?_
      refine nk_p (i := .aload_n 0) (len := 1) (pc' := 59) mJ_241 (by decide +kernel) (ns_aload_n 1 rfl rfl) rfl ?_
      refine nk_getC (f := (4, 1, 24)) (x := 68) (len := 3) (ci := 13) (k := 24) (pc' := 62) ja_okT mJ_241 (by decide +kernel) (by decide +kernel) (by decide +kernel) (by decide) t_l0 rfl ?_
      have t14 : nk_ar ja_Tt (ja_c l0 24) = some (1, 24) := nk_ta ja_okT t_l0 (by decide +kernel)
      refine nk_p (i := .iload 4) (len := 2) (pc' := 64) mJ_241 (by decide +kernel) (ns_iload 5 rfl) rfl ?_
      obtain ⟨h15, hr⟩ := nk_cke hr
      refine nk_iald (len := 1) (N := 24) (pc' := 65) mJ_241 (by decide +kernel) t14 h15.1 h15.2 rfl rfl ?_
      obtain ⟨r16, S17, h18, hr⟩ := nk_bde hr
      refine nk_callS (ci := 0) (n := 3) (x := 508) (len := 3) (j' := 169) (q' := 1) (r := r16) (S' := S17) (L2 := [(0, nk_r l1), (1, nk_i (S.1 (ja_c l0 23) v7.toNat)), (2, nk_i (S.1 (ja_c l0 24) l4.toNat))]) (rest := []) (st' := [nk_i r16]) (pc' := 68) mJ_241 (by decide +kernel) (by decide +kernel) (Nat.le_of_ble_eq_true rfl) rfl rfl (Nat.le_of_ble_eq_true rfl) mJ_169 (Nat.le_of_ble_eq_true rfl) ja_Tpos rfl (ja_X13_joined_ok zs _ _ _ _ _ t_l1 h18) rfl ?_
      refine nk_p (i := .goto 10) (len := 3) (pc' := 78) mJ_241 (by decide +kernel) (ns_goto (by decide +kernel)) rfl ?_
      refine nk_sub [1, 2, 3, 4, 5, 0] (L' := [(0, nk_r l0), (1, nk_r l1), (2, nk_i l2), (3, nk_i l3), (4, nk_i l4), (5, nk_i v7)]) rfl ?_
      exact ja_X13_typesTo_b78_ok zs hrec18 _ _ _ _ _ _ _ _ _ t_l0 t_l1 hr
noncomputable def ja_X13_typesTo_L18 : Nat → Nat → Nat → Int → Int → Int → nk_S → Option (Int × nk_S)
  | 0, _, _, _, _, _, _ => none
  | n + 1, l0, l1, l2, l3, l4, S => ja_X13_typesTo_b18 (ja_X13_typesTo_L18 n) l0 l1 l2 l3 l4 S
theorem ja_X13_typesTo_L18_ok (zs : List Int32) : ∀ n : Nat, ∀ (l0 : Nat) (l1 : Nat) (l2 : Int) (l3 : Int) (l4 : Int) (S : nk_S) (R : Int × nk_S), nk_cl ja_Tt l0 = some 13 → nk_cl ja_Tt l1 = some 12 → ja_X13_typesTo_L18 n l0 l1 l2 l3 l4 S = some R → nk_K ja_Tt mi_Γ (mi_ev zs) 1 241 18 [(0, nk_r l0), (1, nk_r l1), (2, nk_i l2), (3, nk_i l3), (4, nk_i l4)] [] S R := by
  intro n
  induction n with
  | zero => intro _ _ _ _ _ _ _ _ _ hr; cases hr
  | succ n ih => intro l0 l1 l2 l3 l4 S R t_l0 t_l1 hr; exact ja_X13_typesTo_b18_ok zs ih l0 l1 l2 l3 l4 S R t_l0 t_l1 hr
noncomputable def ja_X13_typesTo (l0 : Nat) (l1 : Nat) (l2 : Int) (S : nk_S) : Option (Int × nk_S) :=
  if 0 ≤ l2 ∧ l2 < 1024 then
  if (S.1 (ja_c l0 22) l2.toNat) = 0 then
    ja_X13_typesTo_L18 nk_big l0 l1 l2 1 0 S
  else
    ja_X13_typesTo_L18 nk_big l0 l1 l2 0 0 S
  else none
theorem ja_X13_typesTo_ok (zs : List Int32) : ∀ (l0 : Nat) (l1 : Nat) (l2 : Int) (S : nk_S) (R : Int × nk_S), nk_cl ja_Tt l0 = some 13 → nk_cl ja_Tt l1 = some 12 → ja_X13_typesTo l0 l1 l2 S = some R → nk_K ja_Tt mi_Γ (mi_ev zs) 1 241 0 [(0, nk_r l0), (1, nk_r l1), (2, nk_i l2)] [] S R := by
  intro l0 l1 l2 S R t_l0 t_l1 hr
  unfold ja_X13_typesTo at hr
  refine nk_p (i := .aload_n 0) (len := 1) (pc' := 1) mJ_241 (by decide +kernel) (ns_aload_n 0 rfl rfl) rfl ?_
  refine nk_getC (f := (4, 3, 1024)) (x := 61) (len := 3) (ci := 13) (k := 22) (pc' := 4) ja_okT mJ_241 (by decide +kernel) (by decide +kernel) (by decide +kernel) (by decide) t_l0 rfl ?_
  have t1 : nk_ar ja_Tt (ja_c l0 22) = some (3, 1024) := nk_ta ja_okT t_l0 (by decide +kernel)
  refine nk_p (i := .iload_n 2) (len := 1) (pc' := 5) mJ_241 (by decide +kernel) (ns_iload_n 2 rfl rfl) rfl ?_
  obtain ⟨h2, hr⟩ := nk_cke hr
  refine nk_bald (t := 3) (len := 1) (N := 1024) (pc' := 6) mJ_241 (by decide +kernel) t1 (by decide) h2.1 h2.2 rfl rfl ?_
  refine nk_icond (c := .ne) (off := 7) (len := 3) (t := 13) (pc' := 9) mJ_241 (by decide +kernel) (by decide +kernel) rfl (fun hc => ?_) (fun hc => ?_)
  · have hr := nk_ifn (c := (S.1 (ja_c l0 22) l2.toNat) = 0) hc hr
    refine nk_p (i := .iconst 0) (len := 1) (pc' := 14) mJ_241 (by decide +kernel) (ns_iconst (c := 0) (by decide +kernel)) rfl ?_
    refine nk_p (i := .istore_n 3) (len := 1) (pc' := 15) mJ_241 (by decide +kernel) (ns_istore_n (L' := [(3, nk_i 0), (0, nk_r l0), (1, nk_r l1), (2, nk_i l2)]) rfl rfl rfl (by decide +kernel)) rfl ?_
    refine nk_p (i := .iconst 0) (len := 1) (pc' := 16) mJ_241 (by decide +kernel) (ns_iconst (c := 0) (by decide +kernel)) rfl ?_
    refine nk_p (i := .istore 4) (len := 2) (pc' := 18) mJ_241 (by decide +kernel) (ns_istore (L' := [(4, nk_i 0), (3, nk_i 0), (0, nk_r l0), (1, nk_r l1), (2, nk_i l2)]) rfl rfl (by decide +kernel)) rfl ?_
    refine nk_sub [2, 3, 4, 1, 0] (L' := [(0, nk_r l0), (1, nk_r l1), (2, nk_i l2), (3, nk_i 0), (4, nk_i 0)]) rfl ?_
    exact ja_X13_typesTo_L18_ok zs nk_big _ _ _ _ _ _ _ t_l0 t_l1 hr
  · have hr := nk_ifp (c := (S.1 (ja_c l0 22) l2.toNat) = 0) (Decidable.of_not_not hc) hr
    refine nk_p (i := .iconst 1) (len := 1) (pc' := 10) mJ_241 (by decide +kernel) (ns_iconst (c := 1) (by decide +kernel)) rfl ?_
    refine nk_p (i := .goto 4) (len := 3) (pc' := 14) mJ_241 (by decide +kernel) (ns_goto (by decide +kernel)) rfl ?_
    refine nk_p (i := .istore_n 3) (len := 1) (pc' := 15) mJ_241 (by decide +kernel) (ns_istore_n (L' := [(3, nk_i 1), (0, nk_r l0), (1, nk_r l1), (2, nk_i l2)]) rfl rfl rfl (by decide +kernel)) rfl ?_
    refine nk_p (i := .iconst 0) (len := 1) (pc' := 16) mJ_241 (by decide +kernel) (ns_iconst (c := 0) (by decide +kernel)) rfl ?_
    refine nk_p (i := .istore 4) (len := 2) (pc' := 18) mJ_241 (by decide +kernel) (ns_istore (L' := [(4, nk_i 0), (3, nk_i 1), (0, nk_r l0), (1, nk_r l1), (2, nk_i l2)]) rfl rfl (by decide +kernel)) rfl ?_
    refine nk_sub [2, 3, 4, 1, 0] (L' := [(0, nk_r l0), (1, nk_r l1), (2, nk_i l2), (3, nk_i 1), (4, nk_i 0)]) rfl ?_
    exact ja_X13_typesTo_L18_ok zs nk_big _ _ _ _ _ _ _ t_l0 t_l1 hr
/-! SafeCodeModel leave (I)V -/
noncomputable def ja_X13_leave (l0 : Nat) (l1 : Int) (S : nk_S) : Option (Int × nk_S) :=
  if 0 ≤ (S.1 l0 25) ∧ (S.1 l0 25) < 24 then
  nk_lt (nk_wi S (ja_c l0 24) (S.1 l0 25).toNat l1) fun S3 =>
  nk_lt (nk_wi S3 l0 25 (nk_w ((S3.1 l0 25) + 1))) fun S5 =>
  some (0, S5)
  else none
theorem ja_X13_leave_ok (zs : List Int32) : ∀ (l0 : Nat) (l1 : Int) (S : nk_S) (R : Int × nk_S), nk_cl ja_Tt l0 = some 13 → ja_X13_leave l0 l1 S = some R → nk_K ja_Tt mi_Γ (mi_ev zs) 0 174 0 [(0, nk_r l0), (1, nk_i l1)] [] S R := by
  intro l0 l1 S R t_l0 hr
  unfold ja_X13_leave at hr
  refine nk_p (i := .aload_n 0) (len := 1) (pc' := 1) mJ_174 (by decide +kernel) (ns_aload_n 0 rfl rfl) rfl ?_
  refine nk_getC (f := (4, 1, 24)) (x := 68) (len := 3) (ci := 13) (k := 24) (pc' := 4) ja_okT mJ_174 (by decide +kernel) (by decide +kernel) (by decide +kernel) (by decide) t_l0 rfl ?_
  have t1 : nk_ar ja_Tt (ja_c l0 24) = some (1, 24) := nk_ta ja_okT t_l0 (by decide +kernel)
  refine nk_p (i := .aload_n 0) (len := 1) (pc' := 5) mJ_174 (by decide +kernel) (ns_aload_n 0 rfl rfl) rfl ?_
  refine nk_getI (y := (0, 0)) (x := 495) (len := 3) (ci := 13) (k := 25) (pc' := 8) ja_okT mJ_174 (by decide +kernel) (by decide +kernel) (by decide +kernel) t_l0 rfl ?_
  refine nk_p (i := .iload_n 1) (len := 1) (pc' := 9) mJ_174 (by decide +kernel) (ns_iload_n 1 rfl rfl) rfl ?_
  obtain ⟨h2, hr⟩ := nk_cke hr
  obtain ⟨S3, h4, hr⟩ := nk_lte hr
  refine nk_iast (len := 1) (N := 24) (pc' := 10) mJ_174 (by decide +kernel) t1 h2.1 h2.2 rfl rfl h4 ?_
  refine nk_p (i := .aload_n 0) (len := 1) (pc' := 11) mJ_174 (by decide +kernel) (ns_aload_n 0 rfl rfl) rfl ?_
  refine nk_p (i := .dup) (len := 1) (pc' := 12) mJ_174 (by decide +kernel) (ns_dup rfl) rfl ?_
  refine nk_getI (y := (0, 0)) (x := 495) (len := 3) (ci := 13) (k := 25) (pc' := 15) ja_okT mJ_174 (by decide +kernel) (by decide +kernel) (by decide +kernel) t_l0 rfl ?_
  refine nk_p (i := .iconst 1) (len := 1) (pc' := 16) mJ_174 (by decide +kernel) (ns_iconst (c := 1) (by decide +kernel)) rfl ?_
  refine nk_p (i := .iadd) (len := 1) (pc' := 17) mJ_174 (by decide +kernel) ns_iadd rfl ?_
  obtain ⟨S5, h6, hr⟩ := nk_lte hr
  refine nk_putI (y := (0, 0)) (ty := .int) (x := 495) (len := 3) (ci := 13) (k := 25) (pc' := 20) ja_okT mJ_174 (by decide +kernel) (by decide +kernel) (by decide +kernel) t_l0 (Or.inl rfl) rfl h6 ?_
  cases hr
  exact nk_vret (len := 1) mJ_174 (by decide +kernel) rfl
/-! SafeCodeModel typesBehind (LSafeCodeModel$Program;I)V -/
noncomputable def ja_X13_typesBehind_b394 (l0 : Nat) (l1 : Nat) (l2 : Int) (S : nk_S) : Option (Int × nk_S) :=
  nk_bd (ja_X13_leaves l1 l2 S) fun r1 S2 =>
  if r1 = 1 then
    nk_bd (ja_X13_leave l0 0 S2) fun r4 S5 =>
    some (0, S5)
  else
    some (0, S2)
theorem ja_X13_typesBehind_b394_ok (zs : List Int32) : ∀ (l0 : Nat) (l1 : Nat) (l2 : Int) (S : nk_S) (R : Int × nk_S), nk_cl ja_Tt l0 = some 13 → nk_cl ja_Tt l1 = some 12 → ja_X13_typesBehind_b394 l0 l1 l2 S = some R → nk_K ja_Tt mi_Γ (mi_ev zs) 0 239 394 [(0, nk_r l0), (1, nk_r l1), (2, nk_i l2)] [] S R := by
  intro l0 l1 l2 S R t_l0 t_l1 hr
  unfold ja_X13_typesBehind_b394 at hr
  refine nk_p (i := .aload_n 1) (len := 1) (pc' := 395) mJ_239 (by decide +kernel) (ns_aload_n 1 rfl rfl) rfl ?_
  refine nk_p (i := .iload_n 2) (len := 1) (pc' := 396) mJ_239 (by decide +kernel) (ns_iload_n 2 rfl rfl) rfl ?_
  obtain ⟨r1, S2, h3, hr⟩ := nk_bde hr
  refine nk_callS (ci := 0) (n := 2) (x := 480) (len := 3) (j' := 178) (q' := 1) (r := r1) (S' := S2) (L2 := [(0, nk_r l1), (1, nk_i l2)]) (rest := []) (st' := [nk_i r1]) (pc' := 399) mJ_239 (by decide +kernel) (by decide +kernel) (Nat.le_of_ble_eq_true rfl) rfl rfl (Nat.le_of_ble_eq_true rfl) mJ_178 (Nat.le_of_ble_eq_true rfl) ja_Tpos rfl (ja_X13_leaves_ok zs _ _ _ _ t_l1 h3) rfl ?_
  refine nk_p (i := .iconst 1) (len := 1) (pc' := 400) mJ_239 (by decide +kernel) (ns_iconst (c := 1) (by decide +kernel)) rfl ?_
  refine nk_icmp (c := .ne) (off := 8) (len := 3) (t := 408) (pc' := 403) mJ_239 (by decide +kernel) (by decide +kernel) rfl (fun hc => ?_) (fun hc => ?_)
  · have hr := nk_ifn (c := r1 = 1) hc hr
    cases hr
    exact nk_vret (len := 1) mJ_239 (by decide +kernel) rfl
  · have hr := nk_ifp (c := r1 = 1) (Decidable.of_not_not hc) hr
    refine nk_p (i := .aload_n 0) (len := 1) (pc' := 404) mJ_239 (by decide +kernel) (ns_aload_n 0 rfl rfl) rfl ?_
    refine nk_p (i := .iconst 0) (len := 1) (pc' := 405) mJ_239 (by decide +kernel) (ns_iconst (c := 0) (by decide +kernel)) rfl ?_
    obtain ⟨r4, S5, h6, hr⟩ := nk_bde hr
    refine nk_callV (ci := 13) (n := 1) (x := 511) (len := 3) (j' := 174) (q' := 0) (r := r4) (S' := S5) (L2 := [(0, nk_r l0), (1, nk_i 0)]) (rest := []) (st' := []) (pc' := 408) mJ_239 (by decide +kernel) (by decide +kernel) rfl rfl t_l0 (Nat.le_of_ble_eq_true rfl) mJ_174 (Nat.le_of_ble_eq_true rfl) rfl (ja_X13_leave_ok zs _ _ _ _ t_l0 h6) rfl ?_
    cases hr
    exact nk_vret (len := 1) mJ_239 (by decide +kernel) rfl
noncomputable def ja_X13_typesBehind_b320 (l0 : Nat) (l1 : Nat) (l4 : Int) (S : nk_S) : Option (Int × nk_S) :=
  if 0 ≤ l4 ∧ l4 < 54 then
  nk_bd (ja_X13_leave l0 (S.1 (ja_c l1 27) l4.toNat) S) fun r3 S4 =>
  some (0, S4)
  else none
theorem ja_X13_typesBehind_b320_ok (zs : List Int32) : ∀ (l0 : Nat) (l1 : Nat) (l4 : Int) (S : nk_S) (R : Int × nk_S), nk_cl ja_Tt l0 = some 13 → nk_cl ja_Tt l1 = some 12 → ja_X13_typesBehind_b320 l0 l1 l4 S = some R → nk_K ja_Tt mi_Γ (mi_ev zs) 0 239 320 [(0, nk_r l0), (1, nk_r l1), (4, nk_i l4)] [] S R := by
  intro l0 l1 l4 S R t_l0 t_l1 hr
  unfold ja_X13_typesBehind_b320 at hr
  refine nk_p (i := .aload_n 0) (len := 1) (pc' := 321) mJ_239 (by decide +kernel) (ns_aload_n 0 rfl rfl) rfl ?_
  refine nk_p (i := .aload_n 1) (len := 1) (pc' := 322) mJ_239 (by decide +kernel) (ns_aload_n 1 rfl rfl) rfl ?_
  refine nk_getC (f := (4, 1, 54)) (x := 432) (len := 3) (ci := 12) (k := 27) (pc' := 325) ja_okT mJ_239 (by decide +kernel) (by decide +kernel) (by decide +kernel) (by decide) t_l1 rfl ?_
  have t1 : nk_ar ja_Tt (ja_c l1 27) = some (1, 54) := nk_ta ja_okT t_l1 (by decide +kernel)
  refine nk_p (i := .iload 4) (len := 2) (pc' := 327) mJ_239 (by decide +kernel) (ns_iload 2 rfl) rfl ?_
  obtain ⟨h2, hr⟩ := nk_cke hr
  refine nk_iald (len := 1) (N := 54) (pc' := 328) mJ_239 (by decide +kernel) t1 h2.1 h2.2 rfl rfl ?_
  obtain ⟨r3, S4, h5, hr⟩ := nk_bde hr
  refine nk_callV (ci := 13) (n := 1) (x := 511) (len := 3) (j' := 174) (q' := 0) (r := r3) (S' := S4) (L2 := [(0, nk_r l0), (1, nk_i (S.1 (ja_c l1 27) l4.toNat))]) (rest := []) (st' := []) (pc' := 331) mJ_239 (by decide +kernel) (by decide +kernel) rfl rfl t_l0 (Nat.le_of_ble_eq_true rfl) mJ_174 (Nat.le_of_ble_eq_true rfl) rfl (ja_X13_leave_ok zs _ _ _ _ t_l0 h5) rfl ?_
  refine nk_p (i := .goto 77) (len := 3) (pc' := 408) mJ_239 (by decide +kernel) (ns_goto (by decide +kernel)) rfl ?_
  cases hr
  exact nk_vret (len := 1) mJ_239 (by decide +kernel) rfl
noncomputable def ja_X13_typesBehind_b369 (l0 : Nat) (l1 : Nat) (l4 : Int) (S : nk_S) : Option (Int × nk_S) :=
  if 0 ≤ l4 ∧ l4 < 48 then
  if (S.1 (ja_c l1 17) l4.toNat) = (-1) then
    some (0, S)
  else
    nk_bd (ja_X13_leave l0 (S.1 (ja_c l1 17) l4.toNat) S) fun r3 S4 =>
    some (0, S4)
  else none
theorem ja_X13_typesBehind_b369_ok (zs : List Int32) : ∀ (l0 : Nat) (l1 : Nat) (l4 : Int) (S : nk_S) (R : Int × nk_S), nk_cl ja_Tt l0 = some 13 → nk_cl ja_Tt l1 = some 12 → ja_X13_typesBehind_b369 l0 l1 l4 S = some R → nk_K ja_Tt mi_Γ (mi_ev zs) 0 239 369 [(0, nk_r l0), (1, nk_r l1), (4, nk_i l4)] [] S R := by
  intro l0 l1 l4 S R t_l0 t_l1 hr
  unfold ja_X13_typesBehind_b369 at hr
  refine nk_p (i := .aload_n 1) (len := 1) (pc' := 370) mJ_239 (by decide +kernel) (ns_aload_n 1 rfl rfl) rfl ?_
  refine nk_getC (f := (4, 1, 48)) (x := 343) (len := 3) (ci := 12) (k := 17) (pc' := 373) ja_okT mJ_239 (by decide +kernel) (by decide +kernel) (by decide +kernel) (by decide) t_l1 rfl ?_
  have t1 : nk_ar ja_Tt (ja_c l1 17) = some (1, 48) := nk_ta ja_okT t_l1 (by decide +kernel)
  refine nk_p (i := .iload 4) (len := 2) (pc' := 375) mJ_239 (by decide +kernel) (ns_iload 2 rfl) rfl ?_
  obtain ⟨h2, hr⟩ := nk_cke hr
  refine nk_iald (len := 1) (N := 48) (pc' := 376) mJ_239 (by decide +kernel) t1 h2.1 h2.2 rfl rfl ?_
  refine nk_p (i := .iconst (-1)) (len := 1) (pc' := 377) mJ_239 (by decide +kernel) (ns_iconst (c := (-1)) (by decide +kernel)) rfl ?_
  refine nk_icmp (c := .eq) (off := 31) (len := 3) (t := 408) (pc' := 380) mJ_239 (by decide +kernel) (by decide +kernel) rfl (fun hc => ?_) (fun hc => ?_)
  · have hr := nk_ifp (c := (S.1 (ja_c l1 17) l4.toNat) = (-1)) hc hr
    cases hr
    exact nk_vret (len := 1) mJ_239 (by decide +kernel) rfl
  · have hr := nk_ifn (c := (S.1 (ja_c l1 17) l4.toNat) = (-1)) hc hr
    refine nk_p (i := .aload_n 0) (len := 1) (pc' := 381) mJ_239 (by decide +kernel) (ns_aload_n 0 rfl rfl) rfl ?_
    refine nk_p (i := .aload_n 1) (len := 1) (pc' := 382) mJ_239 (by decide +kernel) (ns_aload_n 1 rfl rfl) rfl ?_
    refine nk_getC (f := (4, 1, 48)) (x := 343) (len := 3) (ci := 12) (k := 17) (pc' := 385) ja_okT mJ_239 (by decide +kernel) (by decide +kernel) (by decide +kernel) (by decide) t_l1 rfl ?_
    refine nk_p (i := .iload 4) (len := 2) (pc' := 387) mJ_239 (by decide +kernel) (ns_iload 2 rfl) rfl ?_
    refine nk_iald (len := 1) (N := 48) (pc' := 388) mJ_239 (by decide +kernel) t1 h2.1 h2.2 rfl rfl ?_
    obtain ⟨r3, S4, h5, hr⟩ := nk_bde hr
    refine nk_callV (ci := 13) (n := 1) (x := 511) (len := 3) (j' := 174) (q' := 0) (r := r3) (S' := S4) (L2 := [(0, nk_r l0), (1, nk_i (S.1 (ja_c l1 17) l4.toNat))]) (rest := []) (st' := []) (pc' := 391) mJ_239 (by decide +kernel) (by decide +kernel) rfl rfl t_l0 (Nat.le_of_ble_eq_true rfl) mJ_174 (Nat.le_of_ble_eq_true rfl) rfl (ja_X13_leave_ok zs _ _ _ _ t_l0 h5) rfl ?_
    refine nk_p (i := .goto 17) (len := 3) (pc' := 408) mJ_239 (by decide +kernel) (ns_goto (by decide +kernel)) rfl ?_
    cases hr
    exact nk_vret (len := 1) mJ_239 (by decide +kernel) rfl
noncomputable def ja_X13_typesBehind_b65 (l0 : Nat) (l1 : Nat) (l2 : Int) (l3 : Int) (l4 : Int) (l5 : Int) (s0 : Int) (S : nk_S) : Option (Int × nk_S) :=
  nk_bd (ja_X13_howMany l1 l2 S) fun r1 S2 =>
  nk_lt (nk_wi S2 l0 25 (nk_w ((S.1 l0 25) - r1))) fun S4 =>
  if l3 = 1 then
    nk_bd (ja_X13_leave l0 1 S4) fun r6 S7 =>
    some (0, S7)
  else
  if l3 = 2 then
    if 0 ≤ l4 ∧ l4 < 24 then
    nk_bd (ja_X13_leave l0 (S4.1 (ja_c l0 24) l4.toNat) S4) fun r11 S12 =>
    some (0, S12)
    else none
  else
  if l3 = 3 then
    if 0 ≤ l4 ∧ l4 < 24 then
    nk_lt (nk_wi S4 (ja_c l0 24) l4.toNat l5) fun S16 =>
    some (0, S16)
    else none
  else
  if l3 = 4 then
    ja_X13_typesBehind_b394 l0 l1 l2 S4
  else
  if l3 = 5 then
    nk_bd (ja_X13_leave l0 l5 S4) fun r18 S19 =>
    nk_bd (ja_X13_leave l0 l5 S19) fun r21 S22 =>
    some (0, S22)
  else
  if l3 = 6 then
    ja_X13_typesBehind_b394 l0 l1 l2 S4
  else
  if l3 = 7 then
    nk_bd (ja_X13_leave l0 l5 S4) fun r24 S25 =>
    nk_bd (ja_X13_leave l0 s0 S25) fun r27 S28 =>
    some (0, S28)
  else
  if l3 = 8 then
    ja_X13_typesBehind_b394 l0 l1 l2 S4
  else
  if l3 = 9 then
    ja_X13_typesBehind_b394 l0 l1 l2 S4
  else
  if l3 = 10 then
    ja_X13_typesBehind_b394 l0 l1 l2 S4
  else
  if l3 = 11 then
    ja_X13_typesBehind_b394 l0 l1 l2 S4
  else
  if l3 = 12 then
    ja_X13_typesBehind_b394 l0 l1 l2 S4
  else
  if l3 = 13 then
    ja_X13_typesBehind_b394 l0 l1 l2 S4
  else
  if l3 = 14 then
    ja_X13_typesBehind_b394 l0 l1 l2 S4
  else
  if l3 = 15 then
    ja_X13_typesBehind_b394 l0 l1 l2 S4
  else
  if l3 = 16 then
    ja_X13_typesBehind_b394 l0 l1 l2 S4
  else
  if l3 = 17 then
    ja_X13_typesBehind_b394 l0 l1 l2 S4
  else
  if l3 = 18 then
    ja_X13_typesBehind_b394 l0 l1 l2 S4
  else
  if l3 = 19 then
    ja_X13_typesBehind_b394 l0 l1 l2 S4
  else
  if l3 = 20 then
    ja_X13_typesBehind_b394 l0 l1 l2 S4
  else
  if l3 = 21 then
    ja_X13_typesBehind_b394 l0 l1 l2 S4
  else
  if l3 = 22 then
    ja_X13_typesBehind_b394 l0 l1 l2 S4
  else
  if l3 = 23 then
    ja_X13_typesBehind_b394 l0 l1 l2 S4
  else
  if l3 = 24 then
    ja_X13_typesBehind_b394 l0 l1 l2 S4
  else
  if l3 = 25 then
    ja_X13_typesBehind_b394 l0 l1 l2 S4
  else
  if l3 = 26 then
    ja_X13_typesBehind_b394 l0 l1 l2 S4
  else
  if l3 = 27 then
    ja_X13_typesBehind_b394 l0 l1 l2 S4
  else
  if l3 = 28 then
    ja_X13_typesBehind_b394 l0 l1 l2 S4
  else
  if l3 = 29 then
    ja_X13_typesBehind_b394 l0 l1 l2 S4
  else
  if l3 = 30 then
    ja_X13_typesBehind_b320 l0 l1 l4 S4
  else
  if l3 = 31 then
    ja_X13_typesBehind_b320 l0 l1 l4 S4
  else
  if l3 = 32 then
    ja_X13_typesBehind_b394 l0 l1 l2 S4
  else
  if l3 = 33 then
    nk_bd (ja_X13_elementOf s0 S4) fun r30 S31 =>
    nk_bd (ja_X13_leave l0 r30 S31) fun r33 S34 =>
    some (0, S34)
  else
  if l3 = 34 then
    ja_X13_typesBehind_b394 l0 l1 l2 S4
  else
  if l3 = 35 then
    if 0 ≤ l4 ∧ l4 < 48 then
    nk_bd (ja_X13_leave l0 (S4.1 (ja_c l1 11) l4.toNat) S4) fun r38 S39 =>
    some (0, S39)
    else none
  else
  if l3 = 36 then
    ja_X13_typesBehind_b394 l0 l1 l2 S4
  else
  if l3 = 37 then
    nk_bd (ja_X13_leave l0 l4 S4) fun r41 S42 =>
    some (0, S42)
  else
  if l3 = 38 then
    ja_X13_typesBehind_b394 l0 l1 l2 S4
  else
  if l3 = 39 then
    ja_X13_typesBehind_b369 l0 l1 l4 S4
  else
  if l3 = 40 then
    ja_X13_typesBehind_b369 l0 l1 l4 S4
  else
  ja_X13_typesBehind_b394 l0 l1 l2 S4
theorem ja_X13_typesBehind_b65_ok (zs : List Int32) : ∀ (l0 : Nat) (l1 : Nat) (l2 : Int) (l3 : Int) (l4 : Int) (l5 : Int) (s0 : Int) (S : nk_S) (R : Int × nk_S), nk_cl ja_Tt l0 = some 13 → nk_cl ja_Tt l1 = some 12 → ja_X13_typesBehind_b65 l0 l1 l2 l3 l4 l5 s0 S = some R → nk_K ja_Tt mi_Γ (mi_ev zs) 0 239 65 [(0, nk_r l0), (1, nk_r l1), (2, nk_i l2), (3, nk_i l3), (4, nk_i l4), (5, nk_i l5)] [nk_i s0] S R := by
  intro l0 l1 l2 l3 l4 l5 s0 S R t_l0 t_l1 hr
  unfold ja_X13_typesBehind_b65 at hr
  refine nk_p (i := .istore 6) (len := 2) (pc' := 67) mJ_239 (by decide +kernel) (ns_istore (L' := [(6, nk_i s0), (0, nk_r l0), (1, nk_r l1), (2, nk_i l2), (3, nk_i l3), (4, nk_i l4), (5, nk_i l5)]) rfl rfl (by decide +kernel)) rfl ?_
  refine nk_p (i := .aload_n 0) (len := 1) (pc' := 68) mJ_239 (by decide +kernel) (ns_aload_n 1 rfl rfl) rfl ?_
  refine nk_p (i := .dup) (len := 1) (pc' := 69) mJ_239 (by decide +kernel) (ns_dup rfl) rfl ?_
  refine nk_getI (y := (0, 0)) (x := 495) (len := 3) (ci := 13) (k := 25) (pc' := 72) ja_okT mJ_239 (by decide +kernel) (by decide +kernel) (by decide +kernel) t_l0 rfl ?_
  refine nk_p (i := .aload_n 1) (len := 1) (pc' := 73) mJ_239 (by decide +kernel) (ns_aload_n 2 rfl rfl) rfl ?_
  refine nk_p (i := .iload_n 2) (len := 1) (pc' := 74) mJ_239 (by decide +kernel) (ns_iload_n 3 rfl rfl) rfl ?_
  obtain ⟨r1, S2, h3, hr⟩ := nk_bde hr
  refine nk_callS (ci := 0) (n := 2) (x := 477) (len := 3) (j' := 134) (q' := 1) (r := r1) (S' := S2) (L2 := [(0, nk_r l1), (1, nk_i l2)]) (rest := [nk_i (S.1 l0 25), nk_r l0]) (st' := [nk_i r1, nk_i (S.1 l0 25), nk_r l0]) (pc' := 77) mJ_239 (by decide +kernel) (by decide +kernel) (Nat.le_of_ble_eq_true rfl) rfl rfl (Nat.le_of_ble_eq_true rfl) mJ_134 (Nat.le_of_ble_eq_true rfl) ja_Tpos rfl (ja_X13_howMany_ok zs _ _ _ _ t_l1 h3) rfl ?_
  refine nk_p (i := .isub) (len := 1) (pc' := 78) mJ_239 (by decide +kernel) ns_isub rfl ?_
  obtain ⟨S4, h5, hr⟩ := nk_lte hr
  refine nk_putI (y := (0, 0)) (ty := .int) (x := 495) (len := 3) (ci := 13) (k := 25) (pc' := 81) ja_okT mJ_239 (by decide +kernel) (by decide +kernel) (by decide +kernel) t_l0 (Or.inl rfl) rfl h5 ?_
  refine nk_p (i := .iload_n 3) (len := 1) (pc' := 82) mJ_239 (by decide +kernel) (ns_iload_n 4 rfl rfl) rfl ?_
  by_cases hc0 : l3 = 1
  · have hr := nk_ifp hc0 hr
    refine nk_p (i := .tableswitch 312 1 40 #[174, 182, 196, 312, 208, 312, 223, 312, 312, 312, 312, 312, 312, 312, 312, 312, 312, 312, 312, 312, 312, 312, 312, 312, 312, 312, 312, 312, 312, 238, 238, 312, 252, 312, 264, 312, 278, 312, 287, 287]) (len := 174) (pc' := 256) mJ_239 (by decide +kernel) (ns_tsw (V := 1) hc0 (by decide +kernel)) rfl ?_
    refine nk_p (i := .aload_n 0) (len := 1) (pc' := 257) mJ_239 (by decide +kernel) (ns_aload_n 1 rfl rfl) rfl ?_
    refine nk_p (i := .iconst 1) (len := 1) (pc' := 258) mJ_239 (by decide +kernel) (ns_iconst (c := 1) (by decide +kernel)) rfl ?_
    obtain ⟨r6, S7, h8, hr⟩ := nk_bde hr
    refine nk_callV (ci := 13) (n := 1) (x := 511) (len := 3) (j' := 174) (q' := 0) (r := r6) (S' := S7) (L2 := [(0, nk_r l0), (1, nk_i 1)]) (rest := []) (st' := []) (pc' := 261) mJ_239 (by decide +kernel) (by decide +kernel) rfl rfl t_l0 (Nat.le_of_ble_eq_true rfl) mJ_174 (Nat.le_of_ble_eq_true rfl) rfl (ja_X13_leave_ok zs _ _ _ _ t_l0 h8) rfl ?_
    refine nk_p (i := .goto 147) (len := 3) (pc' := 408) mJ_239 (by decide +kernel) (ns_goto (by decide +kernel)) rfl ?_
    cases hr
    exact nk_vret (len := 1) mJ_239 (by decide +kernel) rfl
  have hr := nk_ifn hc0 hr
  by_cases hc1 : l3 = 2
  · have hr := nk_ifp hc1 hr
    refine nk_p (i := .tableswitch 312 1 40 #[174, 182, 196, 312, 208, 312, 223, 312, 312, 312, 312, 312, 312, 312, 312, 312, 312, 312, 312, 312, 312, 312, 312, 312, 312, 312, 312, 312, 312, 238, 238, 312, 252, 312, 264, 312, 278, 312, 287, 287]) (len := 174) (pc' := 264) mJ_239 (by decide +kernel) (ns_tsw (V := 2) hc1 (by decide +kernel)) rfl ?_
    refine nk_p (i := .aload_n 0) (len := 1) (pc' := 265) mJ_239 (by decide +kernel) (ns_aload_n 1 rfl rfl) rfl ?_
    refine nk_p (i := .aload_n 0) (len := 1) (pc' := 266) mJ_239 (by decide +kernel) (ns_aload_n 1 rfl rfl) rfl ?_
    refine nk_getC (f := (4, 1, 24)) (x := 68) (len := 3) (ci := 13) (k := 24) (pc' := 269) ja_okT mJ_239 (by decide +kernel) (by decide +kernel) (by decide +kernel) (by decide) t_l0 rfl ?_
    have t9 : nk_ar ja_Tt (ja_c l0 24) = some (1, 24) := nk_ta ja_okT t_l0 (by decide +kernel)
    refine nk_p (i := .iload 4) (len := 2) (pc' := 271) mJ_239 (by decide +kernel) (ns_iload 5 rfl) rfl ?_
    obtain ⟨h10, hr⟩ := nk_cke hr
    refine nk_iald (len := 1) (N := 24) (pc' := 272) mJ_239 (by decide +kernel) t9 h10.1 h10.2 rfl rfl ?_
    obtain ⟨r11, S12, h13, hr⟩ := nk_bde hr
    refine nk_callV (ci := 13) (n := 1) (x := 511) (len := 3) (j' := 174) (q' := 0) (r := r11) (S' := S12) (L2 := [(0, nk_r l0), (1, nk_i (S4.1 (ja_c l0 24) l4.toNat))]) (rest := []) (st' := []) (pc' := 275) mJ_239 (by decide +kernel) (by decide +kernel) rfl rfl t_l0 (Nat.le_of_ble_eq_true rfl) mJ_174 (Nat.le_of_ble_eq_true rfl) rfl (ja_X13_leave_ok zs _ _ _ _ t_l0 h13) rfl ?_
    refine nk_p (i := .goto 133) (len := 3) (pc' := 408) mJ_239 (by decide +kernel) (ns_goto (by decide +kernel)) rfl ?_
    cases hr
    exact nk_vret (len := 1) mJ_239 (by decide +kernel) rfl
  have hr := nk_ifn hc1 hr
  by_cases hc2 : l3 = 3
  · have hr := nk_ifp hc2 hr
    refine nk_p (i := .tableswitch 312 1 40 #[174, 182, 196, 312, 208, 312, 223, 312, 312, 312, 312, 312, 312, 312, 312, 312, 312, 312, 312, 312, 312, 312, 312, 312, 312, 312, 312, 312, 312, 238, 238, 312, 252, 312, 264, 312, 278, 312, 287, 287]) (len := 174) (pc' := 278) mJ_239 (by decide +kernel) (ns_tsw (V := 3) hc2 (by decide +kernel)) rfl ?_
    refine nk_p (i := .aload_n 0) (len := 1) (pc' := 279) mJ_239 (by decide +kernel) (ns_aload_n 1 rfl rfl) rfl ?_
    refine nk_getC (f := (4, 1, 24)) (x := 68) (len := 3) (ci := 13) (k := 24) (pc' := 282) ja_okT mJ_239 (by decide +kernel) (by decide +kernel) (by decide +kernel) (by decide) t_l0 rfl ?_
    have t14 : nk_ar ja_Tt (ja_c l0 24) = some (1, 24) := nk_ta ja_okT t_l0 (by decide +kernel)
    refine nk_p (i := .iload 4) (len := 2) (pc' := 284) mJ_239 (by decide +kernel) (ns_iload 5 rfl) rfl ?_
    refine nk_p (i := .iload 5) (len := 2) (pc' := 286) mJ_239 (by decide +kernel) (ns_iload 6 rfl) rfl ?_
    obtain ⟨h15, hr⟩ := nk_cke hr
    obtain ⟨S16, h17, hr⟩ := nk_lte hr
    refine nk_iast (len := 1) (N := 24) (pc' := 287) mJ_239 (by decide +kernel) t14 h15.1 h15.2 rfl rfl h17 ?_
    refine nk_p (i := .goto 121) (len := 3) (pc' := 408) mJ_239 (by decide +kernel) (ns_goto (by decide +kernel)) rfl ?_
    cases hr
    exact nk_vret (len := 1) mJ_239 (by decide +kernel) rfl
  have hr := nk_ifn hc2 hr
  by_cases hc3 : l3 = 4
  · have hr := nk_ifp hc3 hr
    refine nk_p (i := .tableswitch 312 1 40 #[174, 182, 196, 312, 208, 312, 223, 312, 312, 312, 312, 312, 312, 312, 312, 312, 312, 312, 312, 312, 312, 312, 312, 312, 312, 312, 312, 312, 312, 238, 238, 312, 252, 312, 264, 312, 278, 312, 287, 287]) (len := 174) (pc' := 394) mJ_239 (by decide +kernel) (ns_tsw (V := 4) hc3 (by decide +kernel)) rfl ?_
    refine nk_sub [1, 2, 3] (L' := [(0, nk_r l0), (1, nk_r l1), (2, nk_i l2)]) rfl ?_
    exact ja_X13_typesBehind_b394_ok zs _ _ _ _ _ t_l0 t_l1 hr
  have hr := nk_ifn hc3 hr
  by_cases hc4 : l3 = 5
  · have hr := nk_ifp hc4 hr
    refine nk_p (i := .tableswitch 312 1 40 #[174, 182, 196, 312, 208, 312, 223, 312, 312, 312, 312, 312, 312, 312, 312, 312, 312, 312, 312, 312, 312, 312, 312, 312, 312, 312, 312, 312, 312, 238, 238, 312, 252, 312, 264, 312, 278, 312, 287, 287]) (len := 174) (pc' := 290) mJ_239 (by decide +kernel) (ns_tsw (V := 5) hc4 (by decide +kernel)) rfl ?_
    refine nk_p (i := .aload_n 0) (len := 1) (pc' := 291) mJ_239 (by decide +kernel) (ns_aload_n 1 rfl rfl) rfl ?_
    refine nk_p (i := .iload 5) (len := 2) (pc' := 293) mJ_239 (by decide +kernel) (ns_iload 6 rfl) rfl ?_
    obtain ⟨r18, S19, h20, hr⟩ := nk_bde hr
    refine nk_callV (ci := 13) (n := 1) (x := 511) (len := 3) (j' := 174) (q' := 0) (r := r18) (S' := S19) (L2 := [(0, nk_r l0), (1, nk_i l5)]) (rest := []) (st' := []) (pc' := 296) mJ_239 (by decide +kernel) (by decide +kernel) rfl rfl t_l0 (Nat.le_of_ble_eq_true rfl) mJ_174 (Nat.le_of_ble_eq_true rfl) rfl (ja_X13_leave_ok zs _ _ _ _ t_l0 h20) rfl ?_
    refine nk_p (i := .aload_n 0) (len := 1) (pc' := 297) mJ_239 (by decide +kernel) (ns_aload_n 1 rfl rfl) rfl ?_
    refine nk_p (i := .iload 5) (len := 2) (pc' := 299) mJ_239 (by decide +kernel) (ns_iload 6 rfl) rfl ?_
    obtain ⟨r21, S22, h23, hr⟩ := nk_bde hr
    refine nk_callV (ci := 13) (n := 1) (x := 511) (len := 3) (j' := 174) (q' := 0) (r := r21) (S' := S22) (L2 := [(0, nk_r l0), (1, nk_i l5)]) (rest := []) (st' := []) (pc' := 302) mJ_239 (by decide +kernel) (by decide +kernel) rfl rfl t_l0 (Nat.le_of_ble_eq_true rfl) mJ_174 (Nat.le_of_ble_eq_true rfl) rfl (ja_X13_leave_ok zs _ _ _ _ t_l0 h23) rfl ?_
    refine nk_p (i := .goto 106) (len := 3) (pc' := 408) mJ_239 (by decide +kernel) (ns_goto (by decide +kernel)) rfl ?_
    cases hr
    exact nk_vret (len := 1) mJ_239 (by decide +kernel) rfl
  have hr := nk_ifn hc4 hr
  by_cases hc5 : l3 = 6
  · have hr := nk_ifp hc5 hr
    refine nk_p (i := .tableswitch 312 1 40 #[174, 182, 196, 312, 208, 312, 223, 312, 312, 312, 312, 312, 312, 312, 312, 312, 312, 312, 312, 312, 312, 312, 312, 312, 312, 312, 312, 312, 312, 238, 238, 312, 252, 312, 264, 312, 278, 312, 287, 287]) (len := 174) (pc' := 394) mJ_239 (by decide +kernel) (ns_tsw (V := 6) hc5 (by decide +kernel)) rfl ?_
    refine nk_sub [1, 2, 3] (L' := [(0, nk_r l0), (1, nk_r l1), (2, nk_i l2)]) rfl ?_
    exact ja_X13_typesBehind_b394_ok zs _ _ _ _ _ t_l0 t_l1 hr
  have hr := nk_ifn hc5 hr
  by_cases hc6 : l3 = 7
  · have hr := nk_ifp hc6 hr
    refine nk_p (i := .tableswitch 312 1 40 #[174, 182, 196, 312, 208, 312, 223, 312, 312, 312, 312, 312, 312, 312, 312, 312, 312, 312, 312, 312, 312, 312, 312, 312, 312, 312, 312, 312, 312, 238, 238, 312, 252, 312, 264, 312, 278, 312, 287, 287]) (len := 174) (pc' := 305) mJ_239 (by decide +kernel) (ns_tsw (V := 7) hc6 (by decide +kernel)) rfl ?_
    refine nk_p (i := .aload_n 0) (len := 1) (pc' := 306) mJ_239 (by decide +kernel) (ns_aload_n 1 rfl rfl) rfl ?_
    refine nk_p (i := .iload 5) (len := 2) (pc' := 308) mJ_239 (by decide +kernel) (ns_iload 6 rfl) rfl ?_
    obtain ⟨r24, S25, h26, hr⟩ := nk_bde hr
    refine nk_callV (ci := 13) (n := 1) (x := 511) (len := 3) (j' := 174) (q' := 0) (r := r24) (S' := S25) (L2 := [(0, nk_r l0), (1, nk_i l5)]) (rest := []) (st' := []) (pc' := 311) mJ_239 (by decide +kernel) (by decide +kernel) rfl rfl t_l0 (Nat.le_of_ble_eq_true rfl) mJ_174 (Nat.le_of_ble_eq_true rfl) rfl (ja_X13_leave_ok zs _ _ _ _ t_l0 h26) rfl ?_
    refine nk_p (i := .aload_n 0) (len := 1) (pc' := 312) mJ_239 (by decide +kernel) (ns_aload_n 1 rfl rfl) rfl ?_
    refine nk_p (i := .iload 6) (len := 2) (pc' := 314) mJ_239 (by decide +kernel) (ns_iload 0 rfl) rfl ?_
    obtain ⟨r27, S28, h29, hr⟩ := nk_bde hr
    refine nk_callV (ci := 13) (n := 1) (x := 511) (len := 3) (j' := 174) (q' := 0) (r := r27) (S' := S28) (L2 := [(0, nk_r l0), (1, nk_i s0)]) (rest := []) (st' := []) (pc' := 317) mJ_239 (by decide +kernel) (by decide +kernel) rfl rfl t_l0 (Nat.le_of_ble_eq_true rfl) mJ_174 (Nat.le_of_ble_eq_true rfl) rfl (ja_X13_leave_ok zs _ _ _ _ t_l0 h29) rfl ?_
    refine nk_p (i := .goto 91) (len := 3) (pc' := 408) mJ_239 (by decide +kernel) (ns_goto (by decide +kernel)) rfl ?_
    cases hr
    exact nk_vret (len := 1) mJ_239 (by decide +kernel) rfl
  have hr := nk_ifn hc6 hr
  by_cases hc7 : l3 = 8
  · have hr := nk_ifp hc7 hr
    refine nk_p (i := .tableswitch 312 1 40 #[174, 182, 196, 312, 208, 312, 223, 312, 312, 312, 312, 312, 312, 312, 312, 312, 312, 312, 312, 312, 312, 312, 312, 312, 312, 312, 312, 312, 312, 238, 238, 312, 252, 312, 264, 312, 278, 312, 287, 287]) (len := 174) (pc' := 394) mJ_239 (by decide +kernel) (ns_tsw (V := 8) hc7 (by decide +kernel)) rfl ?_
    refine nk_sub [1, 2, 3] (L' := [(0, nk_r l0), (1, nk_r l1), (2, nk_i l2)]) rfl ?_
    exact ja_X13_typesBehind_b394_ok zs _ _ _ _ _ t_l0 t_l1 hr
  have hr := nk_ifn hc7 hr
  by_cases hc8 : l3 = 9
  · have hr := nk_ifp hc8 hr
    refine nk_p (i := .tableswitch 312 1 40 #[174, 182, 196, 312, 208, 312, 223, 312, 312, 312, 312, 312, 312, 312, 312, 312, 312, 312, 312, 312, 312, 312, 312, 312, 312, 312, 312, 312, 312, 238, 238, 312, 252, 312, 264, 312, 278, 312, 287, 287]) (len := 174) (pc' := 394) mJ_239 (by decide +kernel) (ns_tsw (V := 9) hc8 (by decide +kernel)) rfl ?_
    refine nk_sub [1, 2, 3] (L' := [(0, nk_r l0), (1, nk_r l1), (2, nk_i l2)]) rfl ?_
    exact ja_X13_typesBehind_b394_ok zs _ _ _ _ _ t_l0 t_l1 hr
  have hr := nk_ifn hc8 hr
  by_cases hc9 : l3 = 10
  · have hr := nk_ifp hc9 hr
    refine nk_p (i := .tableswitch 312 1 40 #[174, 182, 196, 312, 208, 312, 223, 312, 312, 312, 312, 312, 312, 312, 312, 312, 312, 312, 312, 312, 312, 312, 312, 312, 312, 312, 312, 312, 312, 238, 238, 312, 252, 312, 264, 312, 278, 312, 287, 287]) (len := 174) (pc' := 394) mJ_239 (by decide +kernel) (ns_tsw (V := 10) hc9 (by decide +kernel)) rfl ?_
    refine nk_sub [1, 2, 3] (L' := [(0, nk_r l0), (1, nk_r l1), (2, nk_i l2)]) rfl ?_
    exact ja_X13_typesBehind_b394_ok zs _ _ _ _ _ t_l0 t_l1 hr
  have hr := nk_ifn hc9 hr
  by_cases hc10 : l3 = 11
  · have hr := nk_ifp hc10 hr
    refine nk_p (i := .tableswitch 312 1 40 #[174, 182, 196, 312, 208, 312, 223, 312, 312, 312, 312, 312, 312, 312, 312, 312, 312, 312, 312, 312, 312, 312, 312, 312, 312, 312, 312, 312, 312, 238, 238, 312, 252, 312, 264, 312, 278, 312, 287, 287]) (len := 174) (pc' := 394) mJ_239 (by decide +kernel) (ns_tsw (V := 11) hc10 (by decide +kernel)) rfl ?_
    refine nk_sub [1, 2, 3] (L' := [(0, nk_r l0), (1, nk_r l1), (2, nk_i l2)]) rfl ?_
    exact ja_X13_typesBehind_b394_ok zs _ _ _ _ _ t_l0 t_l1 hr
  have hr := nk_ifn hc10 hr
  by_cases hc11 : l3 = 12
  · have hr := nk_ifp hc11 hr
    refine nk_p (i := .tableswitch 312 1 40 #[174, 182, 196, 312, 208, 312, 223, 312, 312, 312, 312, 312, 312, 312, 312, 312, 312, 312, 312, 312, 312, 312, 312, 312, 312, 312, 312, 312, 312, 238, 238, 312, 252, 312, 264, 312, 278, 312, 287, 287]) (len := 174) (pc' := 394) mJ_239 (by decide +kernel) (ns_tsw (V := 12) hc11 (by decide +kernel)) rfl ?_
    refine nk_sub [1, 2, 3] (L' := [(0, nk_r l0), (1, nk_r l1), (2, nk_i l2)]) rfl ?_
    exact ja_X13_typesBehind_b394_ok zs _ _ _ _ _ t_l0 t_l1 hr
  have hr := nk_ifn hc11 hr
  by_cases hc12 : l3 = 13
  · have hr := nk_ifp hc12 hr
    refine nk_p (i := .tableswitch 312 1 40 #[174, 182, 196, 312, 208, 312, 223, 312, 312, 312, 312, 312, 312, 312, 312, 312, 312, 312, 312, 312, 312, 312, 312, 312, 312, 312, 312, 312, 312, 238, 238, 312, 252, 312, 264, 312, 278, 312, 287, 287]) (len := 174) (pc' := 394) mJ_239 (by decide +kernel) (ns_tsw (V := 13) hc12 (by decide +kernel)) rfl ?_
    refine nk_sub [1, 2, 3] (L' := [(0, nk_r l0), (1, nk_r l1), (2, nk_i l2)]) rfl ?_
    exact ja_X13_typesBehind_b394_ok zs _ _ _ _ _ t_l0 t_l1 hr
  have hr := nk_ifn hc12 hr
  by_cases hc13 : l3 = 14
  · have hr := nk_ifp hc13 hr
    refine nk_p (i := .tableswitch 312 1 40 #[174, 182, 196, 312, 208, 312, 223, 312, 312, 312, 312, 312, 312, 312, 312, 312, 312, 312, 312, 312, 312, 312, 312, 312, 312, 312, 312, 312, 312, 238, 238, 312, 252, 312, 264, 312, 278, 312, 287, 287]) (len := 174) (pc' := 394) mJ_239 (by decide +kernel) (ns_tsw (V := 14) hc13 (by decide +kernel)) rfl ?_
    refine nk_sub [1, 2, 3] (L' := [(0, nk_r l0), (1, nk_r l1), (2, nk_i l2)]) rfl ?_
    exact ja_X13_typesBehind_b394_ok zs _ _ _ _ _ t_l0 t_l1 hr
  have hr := nk_ifn hc13 hr
  by_cases hc14 : l3 = 15
  · have hr := nk_ifp hc14 hr
    refine nk_p (i := .tableswitch 312 1 40 #[174, 182, 196, 312, 208, 312, 223, 312, 312, 312, 312, 312, 312, 312, 312, 312, 312, 312, 312, 312, 312, 312, 312, 312, 312, 312, 312, 312, 312, 238, 238, 312, 252, 312, 264, 312, 278, 312, 287, 287]) (len := 174) (pc' := 394) mJ_239 (by decide +kernel) (ns_tsw (V := 15) hc14 (by decide +kernel)) rfl ?_
    refine nk_sub [1, 2, 3] (L' := [(0, nk_r l0), (1, nk_r l1), (2, nk_i l2)]) rfl ?_
    exact ja_X13_typesBehind_b394_ok zs _ _ _ _ _ t_l0 t_l1 hr
  have hr := nk_ifn hc14 hr
  by_cases hc15 : l3 = 16
  · have hr := nk_ifp hc15 hr
    refine nk_p (i := .tableswitch 312 1 40 #[174, 182, 196, 312, 208, 312, 223, 312, 312, 312, 312, 312, 312, 312, 312, 312, 312, 312, 312, 312, 312, 312, 312, 312, 312, 312, 312, 312, 312, 238, 238, 312, 252, 312, 264, 312, 278, 312, 287, 287]) (len := 174) (pc' := 394) mJ_239 (by decide +kernel) (ns_tsw (V := 16) hc15 (by decide +kernel)) rfl ?_
    refine nk_sub [1, 2, 3] (L' := [(0, nk_r l0), (1, nk_r l1), (2, nk_i l2)]) rfl ?_
    exact ja_X13_typesBehind_b394_ok zs _ _ _ _ _ t_l0 t_l1 hr
  have hr := nk_ifn hc15 hr
  by_cases hc16 : l3 = 17
  · have hr := nk_ifp hc16 hr
    refine nk_p (i := .tableswitch 312 1 40 #[174, 182, 196, 312, 208, 312, 223, 312, 312, 312, 312, 312, 312, 312, 312, 312, 312, 312, 312, 312, 312, 312, 312, 312, 312, 312, 312, 312, 312, 238, 238, 312, 252, 312, 264, 312, 278, 312, 287, 287]) (len := 174) (pc' := 394) mJ_239 (by decide +kernel) (ns_tsw (V := 17) hc16 (by decide +kernel)) rfl ?_
    refine nk_sub [1, 2, 3] (L' := [(0, nk_r l0), (1, nk_r l1), (2, nk_i l2)]) rfl ?_
    exact ja_X13_typesBehind_b394_ok zs _ _ _ _ _ t_l0 t_l1 hr
  have hr := nk_ifn hc16 hr
  by_cases hc17 : l3 = 18
  · have hr := nk_ifp hc17 hr
    refine nk_p (i := .tableswitch 312 1 40 #[174, 182, 196, 312, 208, 312, 223, 312, 312, 312, 312, 312, 312, 312, 312, 312, 312, 312, 312, 312, 312, 312, 312, 312, 312, 312, 312, 312, 312, 238, 238, 312, 252, 312, 264, 312, 278, 312, 287, 287]) (len := 174) (pc' := 394) mJ_239 (by decide +kernel) (ns_tsw (V := 18) hc17 (by decide +kernel)) rfl ?_
    refine nk_sub [1, 2, 3] (L' := [(0, nk_r l0), (1, nk_r l1), (2, nk_i l2)]) rfl ?_
    exact ja_X13_typesBehind_b394_ok zs _ _ _ _ _ t_l0 t_l1 hr
  have hr := nk_ifn hc17 hr
  by_cases hc18 : l3 = 19
  · have hr := nk_ifp hc18 hr
    refine nk_p (i := .tableswitch 312 1 40 #[174, 182, 196, 312, 208, 312, 223, 312, 312, 312, 312, 312, 312, 312, 312, 312, 312, 312, 312, 312, 312, 312, 312, 312, 312, 312, 312, 312, 312, 238, 238, 312, 252, 312, 264, 312, 278, 312, 287, 287]) (len := 174) (pc' := 394) mJ_239 (by decide +kernel) (ns_tsw (V := 19) hc18 (by decide +kernel)) rfl ?_
    refine nk_sub [1, 2, 3] (L' := [(0, nk_r l0), (1, nk_r l1), (2, nk_i l2)]) rfl ?_
    exact ja_X13_typesBehind_b394_ok zs _ _ _ _ _ t_l0 t_l1 hr
  have hr := nk_ifn hc18 hr
  by_cases hc19 : l3 = 20
  · have hr := nk_ifp hc19 hr
    refine nk_p (i := .tableswitch 312 1 40 #[174, 182, 196, 312, 208, 312, 223, 312, 312, 312, 312, 312, 312, 312, 312, 312, 312, 312, 312, 312, 312, 312, 312, 312, 312, 312, 312, 312, 312, 238, 238, 312, 252, 312, 264, 312, 278, 312, 287, 287]) (len := 174) (pc' := 394) mJ_239 (by decide +kernel) (ns_tsw (V := 20) hc19 (by decide +kernel)) rfl ?_
    refine nk_sub [1, 2, 3] (L' := [(0, nk_r l0), (1, nk_r l1), (2, nk_i l2)]) rfl ?_
    exact ja_X13_typesBehind_b394_ok zs _ _ _ _ _ t_l0 t_l1 hr
  have hr := nk_ifn hc19 hr
  by_cases hc20 : l3 = 21
  · have hr := nk_ifp hc20 hr
    refine nk_p (i := .tableswitch 312 1 40 #[174, 182, 196, 312, 208, 312, 223, 312, 312, 312, 312, 312, 312, 312, 312, 312, 312, 312, 312, 312, 312, 312, 312, 312, 312, 312, 312, 312, 312, 238, 238, 312, 252, 312, 264, 312, 278, 312, 287, 287]) (len := 174) (pc' := 394) mJ_239 (by decide +kernel) (ns_tsw (V := 21) hc20 (by decide +kernel)) rfl ?_
    refine nk_sub [1, 2, 3] (L' := [(0, nk_r l0), (1, nk_r l1), (2, nk_i l2)]) rfl ?_
    exact ja_X13_typesBehind_b394_ok zs _ _ _ _ _ t_l0 t_l1 hr
  have hr := nk_ifn hc20 hr
  by_cases hc21 : l3 = 22
  · have hr := nk_ifp hc21 hr
    refine nk_p (i := .tableswitch 312 1 40 #[174, 182, 196, 312, 208, 312, 223, 312, 312, 312, 312, 312, 312, 312, 312, 312, 312, 312, 312, 312, 312, 312, 312, 312, 312, 312, 312, 312, 312, 238, 238, 312, 252, 312, 264, 312, 278, 312, 287, 287]) (len := 174) (pc' := 394) mJ_239 (by decide +kernel) (ns_tsw (V := 22) hc21 (by decide +kernel)) rfl ?_
    refine nk_sub [1, 2, 3] (L' := [(0, nk_r l0), (1, nk_r l1), (2, nk_i l2)]) rfl ?_
    exact ja_X13_typesBehind_b394_ok zs _ _ _ _ _ t_l0 t_l1 hr
  have hr := nk_ifn hc21 hr
  by_cases hc22 : l3 = 23
  · have hr := nk_ifp hc22 hr
    refine nk_p (i := .tableswitch 312 1 40 #[174, 182, 196, 312, 208, 312, 223, 312, 312, 312, 312, 312, 312, 312, 312, 312, 312, 312, 312, 312, 312, 312, 312, 312, 312, 312, 312, 312, 312, 238, 238, 312, 252, 312, 264, 312, 278, 312, 287, 287]) (len := 174) (pc' := 394) mJ_239 (by decide +kernel) (ns_tsw (V := 23) hc22 (by decide +kernel)) rfl ?_
    refine nk_sub [1, 2, 3] (L' := [(0, nk_r l0), (1, nk_r l1), (2, nk_i l2)]) rfl ?_
    exact ja_X13_typesBehind_b394_ok zs _ _ _ _ _ t_l0 t_l1 hr
  have hr := nk_ifn hc22 hr
  by_cases hc23 : l3 = 24
  · have hr := nk_ifp hc23 hr
    refine nk_p (i := .tableswitch 312 1 40 #[174, 182, 196, 312, 208, 312, 223, 312, 312, 312, 312, 312, 312, 312, 312, 312, 312, 312, 312, 312, 312, 312, 312, 312, 312, 312, 312, 312, 312, 238, 238, 312, 252, 312, 264, 312, 278, 312, 287, 287]) (len := 174) (pc' := 394) mJ_239 (by decide +kernel) (ns_tsw (V := 24) hc23 (by decide +kernel)) rfl ?_
    refine nk_sub [1, 2, 3] (L' := [(0, nk_r l0), (1, nk_r l1), (2, nk_i l2)]) rfl ?_
    exact ja_X13_typesBehind_b394_ok zs _ _ _ _ _ t_l0 t_l1 hr
  have hr := nk_ifn hc23 hr
  by_cases hc24 : l3 = 25
  · have hr := nk_ifp hc24 hr
    refine nk_p (i := .tableswitch 312 1 40 #[174, 182, 196, 312, 208, 312, 223, 312, 312, 312, 312, 312, 312, 312, 312, 312, 312, 312, 312, 312, 312, 312, 312, 312, 312, 312, 312, 312, 312, 238, 238, 312, 252, 312, 264, 312, 278, 312, 287, 287]) (len := 174) (pc' := 394) mJ_239 (by decide +kernel) (ns_tsw (V := 25) hc24 (by decide +kernel)) rfl ?_
    refine nk_sub [1, 2, 3] (L' := [(0, nk_r l0), (1, nk_r l1), (2, nk_i l2)]) rfl ?_
    exact ja_X13_typesBehind_b394_ok zs _ _ _ _ _ t_l0 t_l1 hr
  have hr := nk_ifn hc24 hr
  by_cases hc25 : l3 = 26
  · have hr := nk_ifp hc25 hr
    refine nk_p (i := .tableswitch 312 1 40 #[174, 182, 196, 312, 208, 312, 223, 312, 312, 312, 312, 312, 312, 312, 312, 312, 312, 312, 312, 312, 312, 312, 312, 312, 312, 312, 312, 312, 312, 238, 238, 312, 252, 312, 264, 312, 278, 312, 287, 287]) (len := 174) (pc' := 394) mJ_239 (by decide +kernel) (ns_tsw (V := 26) hc25 (by decide +kernel)) rfl ?_
    refine nk_sub [1, 2, 3] (L' := [(0, nk_r l0), (1, nk_r l1), (2, nk_i l2)]) rfl ?_
    exact ja_X13_typesBehind_b394_ok zs _ _ _ _ _ t_l0 t_l1 hr
  have hr := nk_ifn hc25 hr
  by_cases hc26 : l3 = 27
  · have hr := nk_ifp hc26 hr
    refine nk_p (i := .tableswitch 312 1 40 #[174, 182, 196, 312, 208, 312, 223, 312, 312, 312, 312, 312, 312, 312, 312, 312, 312, 312, 312, 312, 312, 312, 312, 312, 312, 312, 312, 312, 312, 238, 238, 312, 252, 312, 264, 312, 278, 312, 287, 287]) (len := 174) (pc' := 394) mJ_239 (by decide +kernel) (ns_tsw (V := 27) hc26 (by decide +kernel)) rfl ?_
    refine nk_sub [1, 2, 3] (L' := [(0, nk_r l0), (1, nk_r l1), (2, nk_i l2)]) rfl ?_
    exact ja_X13_typesBehind_b394_ok zs _ _ _ _ _ t_l0 t_l1 hr
  have hr := nk_ifn hc26 hr
  by_cases hc27 : l3 = 28
  · have hr := nk_ifp hc27 hr
    refine nk_p (i := .tableswitch 312 1 40 #[174, 182, 196, 312, 208, 312, 223, 312, 312, 312, 312, 312, 312, 312, 312, 312, 312, 312, 312, 312, 312, 312, 312, 312, 312, 312, 312, 312, 312, 238, 238, 312, 252, 312, 264, 312, 278, 312, 287, 287]) (len := 174) (pc' := 394) mJ_239 (by decide +kernel) (ns_tsw (V := 28) hc27 (by decide +kernel)) rfl ?_
    refine nk_sub [1, 2, 3] (L' := [(0, nk_r l0), (1, nk_r l1), (2, nk_i l2)]) rfl ?_
    exact ja_X13_typesBehind_b394_ok zs _ _ _ _ _ t_l0 t_l1 hr
  have hr := nk_ifn hc27 hr
  by_cases hc28 : l3 = 29
  · have hr := nk_ifp hc28 hr
    refine nk_p (i := .tableswitch 312 1 40 #[174, 182, 196, 312, 208, 312, 223, 312, 312, 312, 312, 312, 312, 312, 312, 312, 312, 312, 312, 312, 312, 312, 312, 312, 312, 312, 312, 312, 312, 238, 238, 312, 252, 312, 264, 312, 278, 312, 287, 287]) (len := 174) (pc' := 394) mJ_239 (by decide +kernel) (ns_tsw (V := 29) hc28 (by decide +kernel)) rfl ?_
    refine nk_sub [1, 2, 3] (L' := [(0, nk_r l0), (1, nk_r l1), (2, nk_i l2)]) rfl ?_
    exact ja_X13_typesBehind_b394_ok zs _ _ _ _ _ t_l0 t_l1 hr
  have hr := nk_ifn hc28 hr
  by_cases hc29 : l3 = 30
  · have hr := nk_ifp hc29 hr
    refine nk_p (i := .tableswitch 312 1 40 #[174, 182, 196, 312, 208, 312, 223, 312, 312, 312, 312, 312, 312, 312, 312, 312, 312, 312, 312, 312, 312, 312, 312, 312, 312, 312, 312, 312, 312, 238, 238, 312, 252, 312, 264, 312, 278, 312, 287, 287]) (len := 174) (pc' := 320) mJ_239 (by decide +kernel) (ns_tsw (V := 30) hc29 (by decide +kernel)) rfl ?_
    refine nk_sub [1, 2, 5] (L' := [(0, nk_r l0), (1, nk_r l1), (4, nk_i l4)]) rfl ?_
    exact ja_X13_typesBehind_b320_ok zs _ _ _ _ _ t_l0 t_l1 hr
  have hr := nk_ifn hc29 hr
  by_cases hc30 : l3 = 31
  · have hr := nk_ifp hc30 hr
    refine nk_p (i := .tableswitch 312 1 40 #[174, 182, 196, 312, 208, 312, 223, 312, 312, 312, 312, 312, 312, 312, 312, 312, 312, 312, 312, 312, 312, 312, 312, 312, 312, 312, 312, 312, 312, 238, 238, 312, 252, 312, 264, 312, 278, 312, 287, 287]) (len := 174) (pc' := 320) mJ_239 (by decide +kernel) (ns_tsw (V := 31) hc30 (by decide +kernel)) rfl ?_
    refine nk_sub [1, 2, 5] (L' := [(0, nk_r l0), (1, nk_r l1), (4, nk_i l4)]) rfl ?_
    exact ja_X13_typesBehind_b320_ok zs _ _ _ _ _ t_l0 t_l1 hr
  have hr := nk_ifn hc30 hr
  by_cases hc31 : l3 = 32
  · have hr := nk_ifp hc31 hr
    refine nk_p (i := .tableswitch 312 1 40 #[174, 182, 196, 312, 208, 312, 223, 312, 312, 312, 312, 312, 312, 312, 312, 312, 312, 312, 312, 312, 312, 312, 312, 312, 312, 312, 312, 312, 312, 238, 238, 312, 252, 312, 264, 312, 278, 312, 287, 287]) (len := 174) (pc' := 394) mJ_239 (by decide +kernel) (ns_tsw (V := 32) hc31 (by decide +kernel)) rfl ?_
    refine nk_sub [1, 2, 3] (L' := [(0, nk_r l0), (1, nk_r l1), (2, nk_i l2)]) rfl ?_
    exact ja_X13_typesBehind_b394_ok zs _ _ _ _ _ t_l0 t_l1 hr
  have hr := nk_ifn hc31 hr
  by_cases hc32 : l3 = 33
  · have hr := nk_ifp hc32 hr
    refine nk_p (i := .tableswitch 312 1 40 #[174, 182, 196, 312, 208, 312, 223, 312, 312, 312, 312, 312, 312, 312, 312, 312, 312, 312, 312, 312, 312, 312, 312, 312, 312, 312, 312, 312, 312, 238, 238, 312, 252, 312, 264, 312, 278, 312, 287, 287]) (len := 174) (pc' := 334) mJ_239 (by decide +kernel) (ns_tsw (V := 33) hc32 (by decide +kernel)) rfl ?_
    refine nk_p (i := .aload_n 0) (len := 1) (pc' := 335) mJ_239 (by decide +kernel) (ns_aload_n 1 rfl rfl) rfl ?_
    refine nk_p (i := .iload 6) (len := 2) (pc' := 337) mJ_239 (by decide +kernel) (ns_iload 0 rfl) rfl ?_
    obtain ⟨r30, S31, h32, hr⟩ := nk_bde hr
    refine nk_callS (ci := 0) (n := 1) (x := 514) (len := 3) (j' := 108) (q' := 1) (r := r30) (S' := S31) (L2 := [(0, nk_i s0)]) (rest := [nk_r l0]) (st' := [nk_i r30, nk_r l0]) (pc' := 340) mJ_239 (by decide +kernel) (by decide +kernel) (Nat.le_of_ble_eq_true rfl) rfl rfl (Nat.le_of_ble_eq_true rfl) mJ_108 (Nat.le_of_ble_eq_true rfl) ja_Tpos rfl (ja_X13_elementOf_ok zs _ _ _ h32) rfl ?_
    obtain ⟨r33, S34, h35, hr⟩ := nk_bde hr
    refine nk_callV (ci := 13) (n := 1) (x := 511) (len := 3) (j' := 174) (q' := 0) (r := r33) (S' := S34) (L2 := [(0, nk_r l0), (1, nk_i r30)]) (rest := []) (st' := []) (pc' := 343) mJ_239 (by decide +kernel) (by decide +kernel) rfl rfl t_l0 (Nat.le_of_ble_eq_true rfl) mJ_174 (Nat.le_of_ble_eq_true rfl) rfl (ja_X13_leave_ok zs _ _ _ _ t_l0 h35) rfl ?_
    refine nk_p (i := .goto 65) (len := 3) (pc' := 408) mJ_239 (by decide +kernel) (ns_goto (by decide +kernel)) rfl ?_
    cases hr
    exact nk_vret (len := 1) mJ_239 (by decide +kernel) rfl
  have hr := nk_ifn hc32 hr
  by_cases hc33 : l3 = 34
  · have hr := nk_ifp hc33 hr
    refine nk_p (i := .tableswitch 312 1 40 #[174, 182, 196, 312, 208, 312, 223, 312, 312, 312, 312, 312, 312, 312, 312, 312, 312, 312, 312, 312, 312, 312, 312, 312, 312, 312, 312, 312, 312, 238, 238, 312, 252, 312, 264, 312, 278, 312, 287, 287]) (len := 174) (pc' := 394) mJ_239 (by decide +kernel) (ns_tsw (V := 34) hc33 (by decide +kernel)) rfl ?_
    refine nk_sub [1, 2, 3] (L' := [(0, nk_r l0), (1, nk_r l1), (2, nk_i l2)]) rfl ?_
    exact ja_X13_typesBehind_b394_ok zs _ _ _ _ _ t_l0 t_l1 hr
  have hr := nk_ifn hc33 hr
  by_cases hc34 : l3 = 35
  · have hr := nk_ifp hc34 hr
    refine nk_p (i := .tableswitch 312 1 40 #[174, 182, 196, 312, 208, 312, 223, 312, 312, 312, 312, 312, 312, 312, 312, 312, 312, 312, 312, 312, 312, 312, 312, 312, 312, 312, 312, 312, 312, 238, 238, 312, 252, 312, 264, 312, 278, 312, 287, 287]) (len := 174) (pc' := 346) mJ_239 (by decide +kernel) (ns_tsw (V := 35) hc34 (by decide +kernel)) rfl ?_
    refine nk_p (i := .aload_n 0) (len := 1) (pc' := 347) mJ_239 (by decide +kernel) (ns_aload_n 1 rfl rfl) rfl ?_
    refine nk_p (i := .aload_n 1) (len := 1) (pc' := 348) mJ_239 (by decide +kernel) (ns_aload_n 2 rfl rfl) rfl ?_
    refine nk_getC (f := (4, 1, 48)) (x := 324) (len := 3) (ci := 12) (k := 11) (pc' := 351) ja_okT mJ_239 (by decide +kernel) (by decide +kernel) (by decide +kernel) (by decide) t_l1 rfl ?_
    have t36 : nk_ar ja_Tt (ja_c l1 11) = some (1, 48) := nk_ta ja_okT t_l1 (by decide +kernel)
    refine nk_p (i := .iload 4) (len := 2) (pc' := 353) mJ_239 (by decide +kernel) (ns_iload 5 rfl) rfl ?_
    obtain ⟨h37, hr⟩ := nk_cke hr
    refine nk_iald (len := 1) (N := 48) (pc' := 354) mJ_239 (by decide +kernel) t36 h37.1 h37.2 rfl rfl ?_
    obtain ⟨r38, S39, h40, hr⟩ := nk_bde hr
    refine nk_callV (ci := 13) (n := 1) (x := 511) (len := 3) (j' := 174) (q' := 0) (r := r38) (S' := S39) (L2 := [(0, nk_r l0), (1, nk_i (S4.1 (ja_c l1 11) l4.toNat))]) (rest := []) (st' := []) (pc' := 357) mJ_239 (by decide +kernel) (by decide +kernel) rfl rfl t_l0 (Nat.le_of_ble_eq_true rfl) mJ_174 (Nat.le_of_ble_eq_true rfl) rfl (ja_X13_leave_ok zs _ _ _ _ t_l0 h40) rfl ?_
    refine nk_p (i := .goto 51) (len := 3) (pc' := 408) mJ_239 (by decide +kernel) (ns_goto (by decide +kernel)) rfl ?_
    cases hr
    exact nk_vret (len := 1) mJ_239 (by decide +kernel) rfl
  have hr := nk_ifn hc34 hr
  by_cases hc35 : l3 = 36
  · have hr := nk_ifp hc35 hr
    refine nk_p (i := .tableswitch 312 1 40 #[174, 182, 196, 312, 208, 312, 223, 312, 312, 312, 312, 312, 312, 312, 312, 312, 312, 312, 312, 312, 312, 312, 312, 312, 312, 312, 312, 312, 312, 238, 238, 312, 252, 312, 264, 312, 278, 312, 287, 287]) (len := 174) (pc' := 394) mJ_239 (by decide +kernel) (ns_tsw (V := 36) hc35 (by decide +kernel)) rfl ?_
    refine nk_sub [1, 2, 3] (L' := [(0, nk_r l0), (1, nk_r l1), (2, nk_i l2)]) rfl ?_
    exact ja_X13_typesBehind_b394_ok zs _ _ _ _ _ t_l0 t_l1 hr
  have hr := nk_ifn hc35 hr
  by_cases hc36 : l3 = 37
  · have hr := nk_ifp hc36 hr
    refine nk_p (i := .tableswitch 312 1 40 #[174, 182, 196, 312, 208, 312, 223, 312, 312, 312, 312, 312, 312, 312, 312, 312, 312, 312, 312, 312, 312, 312, 312, 312, 312, 312, 312, 312, 312, 238, 238, 312, 252, 312, 264, 312, 278, 312, 287, 287]) (len := 174) (pc' := 360) mJ_239 (by decide +kernel) (ns_tsw (V := 37) hc36 (by decide +kernel)) rfl ?_
    refine nk_p (i := .aload_n 0) (len := 1) (pc' := 361) mJ_239 (by decide +kernel) (ns_aload_n 1 rfl rfl) rfl ?_
    refine nk_p (i := .iload 4) (len := 2) (pc' := 363) mJ_239 (by decide +kernel) (ns_iload 5 rfl) rfl ?_
    obtain ⟨r41, S42, h43, hr⟩ := nk_bde hr
    refine nk_callV (ci := 13) (n := 1) (x := 511) (len := 3) (j' := 174) (q' := 0) (r := r41) (S' := S42) (L2 := [(0, nk_r l0), (1, nk_i l4)]) (rest := []) (st' := []) (pc' := 366) mJ_239 (by decide +kernel) (by decide +kernel) rfl rfl t_l0 (Nat.le_of_ble_eq_true rfl) mJ_174 (Nat.le_of_ble_eq_true rfl) rfl (ja_X13_leave_ok zs _ _ _ _ t_l0 h43) rfl ?_
    refine nk_p (i := .goto 42) (len := 3) (pc' := 408) mJ_239 (by decide +kernel) (ns_goto (by decide +kernel)) rfl ?_
    cases hr
    exact nk_vret (len := 1) mJ_239 (by decide +kernel) rfl
  have hr := nk_ifn hc36 hr
  by_cases hc37 : l3 = 38
  · have hr := nk_ifp hc37 hr
    refine nk_p (i := .tableswitch 312 1 40 #[174, 182, 196, 312, 208, 312, 223, 312, 312, 312, 312, 312, 312, 312, 312, 312, 312, 312, 312, 312, 312, 312, 312, 312, 312, 312, 312, 312, 312, 238, 238, 312, 252, 312, 264, 312, 278, 312, 287, 287]) (len := 174) (pc' := 394) mJ_239 (by decide +kernel) (ns_tsw (V := 38) hc37 (by decide +kernel)) rfl ?_
    refine nk_sub [1, 2, 3] (L' := [(0, nk_r l0), (1, nk_r l1), (2, nk_i l2)]) rfl ?_
    exact ja_X13_typesBehind_b394_ok zs _ _ _ _ _ t_l0 t_l1 hr
  have hr := nk_ifn hc37 hr
  by_cases hc38 : l3 = 39
  · have hr := nk_ifp hc38 hr
    refine nk_p (i := .tableswitch 312 1 40 #[174, 182, 196, 312, 208, 312, 223, 312, 312, 312, 312, 312, 312, 312, 312, 312, 312, 312, 312, 312, 312, 312, 312, 312, 312, 312, 312, 312, 312, 238, 238, 312, 252, 312, 264, 312, 278, 312, 287, 287]) (len := 174) (pc' := 369) mJ_239 (by decide +kernel) (ns_tsw (V := 39) hc38 (by decide +kernel)) rfl ?_
    refine nk_sub [1, 2, 5] (L' := [(0, nk_r l0), (1, nk_r l1), (4, nk_i l4)]) rfl ?_
    exact ja_X13_typesBehind_b369_ok zs _ _ _ _ _ t_l0 t_l1 hr
  have hr := nk_ifn hc38 hr
  by_cases hc39 : l3 = 40
  · have hr := nk_ifp hc39 hr
    refine nk_p (i := .tableswitch 312 1 40 #[174, 182, 196, 312, 208, 312, 223, 312, 312, 312, 312, 312, 312, 312, 312, 312, 312, 312, 312, 312, 312, 312, 312, 312, 312, 312, 312, 312, 312, 238, 238, 312, 252, 312, 264, 312, 278, 312, 287, 287]) (len := 174) (pc' := 369) mJ_239 (by decide +kernel) (ns_tsw (V := 40) hc39 (by decide +kernel)) rfl ?_
    refine nk_sub [1, 2, 5] (L' := [(0, nk_r l0), (1, nk_r l1), (4, nk_i l4)]) rfl ?_
    exact ja_X13_typesBehind_b369_ok zs _ _ _ _ _ t_l0 t_l1 hr
  have hr := nk_ifn hc39 hr
  refine nk_p (i := .tableswitch 312 1 40 #[174, 182, 196, 312, 208, 312, 223, 312, 312, 312, 312, 312, 312, 312, 312, 312, 312, 312, 312, 312, 312, 312, 312, 312, 312, 312, 312, 312, 312, 238, 238, 312, 252, 312, 264, 312, 278, 312, 287, 287]) (len := 174) (pc' := 394) mJ_239 (by decide +kernel) (ns_tsd (by omega) (by decide +kernel)) rfl ?_
  refine nk_sub [1, 2, 3] (L' := [(0, nk_r l0), (1, nk_r l1), (2, nk_i l2)]) rfl ?_
  exact ja_X13_typesBehind_b394_ok zs _ _ _ _ _ t_l0 t_l1 hr
noncomputable def ja_X13_typesBehind_b39 (l0 : Nat) (l1 : Nat) (l2 : Int) (l3 : Int) (l4 : Int) (s0 : Int) (S : nk_S) : Option (Int × nk_S) :=
  if (S.1 l0 25) ≤ 13 then
    ja_X13_typesBehind_b65 l0 l1 l2 l3 l4 s0 2 S
  else
    if 0 ≤ (nk_w ((S.1 l0 25) - 2)) ∧ (nk_w ((S.1 l0 25) - 2)) < 24 then
    ja_X13_typesBehind_b65 l0 l1 l2 l3 l4 s0 (S.1 (ja_c l0 24) (nk_w ((S.1 l0 25) - 2)).toNat) S
    else none
theorem ja_X13_typesBehind_b39_ok (zs : List Int32) : ∀ (l0 : Nat) (l1 : Nat) (l2 : Int) (l3 : Int) (l4 : Int) (s0 : Int) (S : nk_S) (R : Int × nk_S), nk_cl ja_Tt l0 = some 13 → nk_cl ja_Tt l1 = some 12 → ja_X13_typesBehind_b39 l0 l1 l2 l3 l4 s0 S = some R → nk_K ja_Tt mi_Γ (mi_ev zs) 0 239 39 [(0, nk_r l0), (1, nk_r l1), (2, nk_i l2), (3, nk_i l3), (4, nk_i l4)] [nk_i s0] S R := by
  intro l0 l1 l2 l3 l4 s0 S R t_l0 t_l1 hr
  unfold ja_X13_typesBehind_b39 at hr
  refine nk_p (i := .istore 5) (len := 2) (pc' := 41) mJ_239 (by decide +kernel) (ns_istore (L' := [(5, nk_i s0), (0, nk_r l0), (1, nk_r l1), (2, nk_i l2), (3, nk_i l3), (4, nk_i l4)]) rfl rfl (by decide +kernel)) rfl ?_
  refine nk_p (i := .aload_n 0) (len := 1) (pc' := 42) mJ_239 (by decide +kernel) (ns_aload_n 1 rfl rfl) rfl ?_
  refine nk_getI (y := (0, 0)) (x := 495) (len := 3) (ci := 13) (k := 25) (pc' := 45) ja_okT mJ_239 (by decide +kernel) (by decide +kernel) (by decide +kernel) t_l0 rfl ?_
  refine nk_p (i := .bipush 13) (len := 2) (pc' := 47) mJ_239 (by decide +kernel) (ns_bipush (c := 13) (by decide +kernel)) rfl ?_
  refine nk_icmp (c := .le) (off := 17) (len := 3) (t := 64) (pc' := 50) mJ_239 (by decide +kernel) (by decide +kernel) rfl (fun hc => ?_) (fun hc => ?_)
  · have hr := nk_ifp (c := (S.1 l0 25) ≤ 13) hc hr
    refine nk_p (i := .iconst 2) (len := 1) (pc' := 65) mJ_239 (by decide +kernel) (ns_iconst (c := 2) (by decide +kernel)) rfl ?_
    refine nk_sub [1, 2, 3, 4, 5, 0] (L' := [(0, nk_r l0), (1, nk_r l1), (2, nk_i l2), (3, nk_i l3), (4, nk_i l4), (5, nk_i s0)]) rfl ?_
    exact ja_X13_typesBehind_b65_ok zs _ _ _ _ _ _ _ _ _ t_l0 t_l1 hr
  · have hr := nk_ifn (c := (S.1 l0 25) ≤ 13) hc hr
    refine nk_p (i := .aload_n 0) (len := 1) (pc' := 51) mJ_239 (by decide +kernel) (ns_aload_n 1 rfl rfl) rfl ?_
    refine nk_getC (f := (4, 1, 24)) (x := 68) (len := 3) (ci := 13) (k := 24) (pc' := 54) ja_okT mJ_239 (by decide +kernel) (by decide +kernel) (by decide +kernel) (by decide) t_l0 rfl ?_
    have t1 : nk_ar ja_Tt (ja_c l0 24) = some (1, 24) := nk_ta ja_okT t_l0 (by decide +kernel)
    refine nk_p (i := .aload_n 0) (len := 1) (pc' := 55) mJ_239 (by decide +kernel) (ns_aload_n 1 rfl rfl) rfl ?_
    refine nk_getI (y := (0, 0)) (x := 495) (len := 3) (ci := 13) (k := 25) (pc' := 58) ja_okT mJ_239 (by decide +kernel) (by decide +kernel) (by decide +kernel) t_l0 rfl ?_
    refine nk_p (i := .iconst 2) (len := 1) (pc' := 59) mJ_239 (by decide +kernel) (ns_iconst (c := 2) (by decide +kernel)) rfl ?_
    refine nk_p (i := .isub) (len := 1) (pc' := 60) mJ_239 (by decide +kernel) ns_isub rfl ?_
    obtain ⟨h2, hr⟩ := nk_cke hr
    refine nk_iald (len := 1) (N := 24) (pc' := 61) mJ_239 (by decide +kernel) t1 h2.1 h2.2 rfl rfl ?_
    refine nk_p (i := .goto 4) (len := 3) (pc' := 65) mJ_239 (by decide +kernel) (ns_goto (by decide +kernel)) rfl ?_
    refine nk_sub [1, 2, 3, 4, 5, 0] (L' := [(0, nk_r l0), (1, nk_r l1), (2, nk_i l2), (3, nk_i l3), (4, nk_i l4), (5, nk_i s0)]) rfl ?_
    exact ja_X13_typesBehind_b65_ok zs _ _ _ _ _ _ _ _ _ t_l0 t_l1 hr
noncomputable def ja_X13_typesBehind (l0 : Nat) (l1 : Nat) (l2 : Int) (S : nk_S) : Option (Int × nk_S) :=
  if 0 ≤ l2 ∧ l2 < 1024 then
  nk_lt (S.1 (ja_c l1 22) l2.toNat) fun v3 =>
  nk_lt (S.1 (ja_c l1 23) l2.toNat) fun v6 =>
  if (S.1 l0 25) ≤ 12 then
    ja_X13_typesBehind_b39 l0 l1 l2 v3 v6 2 S
  else
    if 0 ≤ (nk_w ((S.1 l0 25) - 1)) ∧ (nk_w ((S.1 l0 25) - 1)) < 24 then
    ja_X13_typesBehind_b39 l0 l1 l2 v3 v6 (S.1 (ja_c l0 24) (nk_w ((S.1 l0 25) - 1)).toNat) S
    else none
  else none
theorem ja_X13_typesBehind_ok (zs : List Int32) : ∀ (l0 : Nat) (l1 : Nat) (l2 : Int) (S : nk_S) (R : Int × nk_S), nk_cl ja_Tt l0 = some 13 → nk_cl ja_Tt l1 = some 12 → ja_X13_typesBehind l0 l1 l2 S = some R → nk_K ja_Tt mi_Γ (mi_ev zs) 0 239 0 [(0, nk_r l0), (1, nk_r l1), (2, nk_i l2)] [] S R := by
  intro l0 l1 l2 S R t_l0 t_l1 hr
  unfold ja_X13_typesBehind at hr
  refine nk_p (i := .aload_n 1) (len := 1) (pc' := 1) mJ_239 (by decide +kernel) (ns_aload_n 1 rfl rfl) rfl ?_
  refine nk_getC (f := (4, 1, 1024)) (x := 391) (len := 3) (ci := 12) (k := 22) (pc' := 4) ja_okT mJ_239 (by decide +kernel) (by decide +kernel) (by decide +kernel) (by decide) t_l1 rfl ?_
  have t1 : nk_ar ja_Tt (ja_c l1 22) = some (1, 1024) := nk_ta ja_okT t_l1 (by decide +kernel)
  refine nk_p (i := .iload_n 2) (len := 1) (pc' := 5) mJ_239 (by decide +kernel) (ns_iload_n 2 rfl rfl) rfl ?_
  obtain ⟨h2, hr⟩ := nk_cke hr
  refine nk_iald (len := 1) (N := 1024) (pc' := 6) mJ_239 (by decide +kernel) t1 h2.1 h2.2 rfl rfl ?_
  obtain ⟨v3, h4, hr⟩ := nk_lte hr
  refine nk_p (i := .istore_n 3) (len := 1) (pc' := 7) mJ_239 (by decide +kernel) (ns_istore_n (L' := [(3, nk_i v3), (0, nk_r l0), (1, nk_r l1), (2, nk_i l2)]) h4 rfl rfl (by decide +kernel)) rfl ?_
  refine nk_p (i := .aload_n 1) (len := 1) (pc' := 8) mJ_239 (by decide +kernel) (ns_aload_n 2 rfl rfl) rfl ?_
  refine nk_getC (f := (4, 1, 1024)) (x := 414) (len := 3) (ci := 12) (k := 23) (pc' := 11) ja_okT mJ_239 (by decide +kernel) (by decide +kernel) (by decide +kernel) (by decide) t_l1 rfl ?_
  have t5 : nk_ar ja_Tt (ja_c l1 23) = some (1, 1024) := nk_ta ja_okT t_l1 (by decide +kernel)
  refine nk_p (i := .iload_n 2) (len := 1) (pc' := 12) mJ_239 (by decide +kernel) (ns_iload_n 3 rfl rfl) rfl ?_
  refine nk_iald (len := 1) (N := 1024) (pc' := 13) mJ_239 (by decide +kernel) t5 h2.1 h2.2 rfl rfl ?_
  obtain ⟨v6, h7, hr⟩ := nk_lte hr
  refine nk_p (i := .istore 4) (len := 2) (pc' := 15) mJ_239 (by decide +kernel) (ns_istore (L' := [(4, nk_i v6), (3, nk_i v3), (0, nk_r l0), (1, nk_r l1), (2, nk_i l2)]) h7 rfl (by decide +kernel)) rfl ?_
  refine nk_p (i := .aload_n 0) (len := 1) (pc' := 16) mJ_239 (by decide +kernel) (ns_aload_n 2 rfl rfl) rfl ?_
  refine nk_getI (y := (0, 0)) (x := 495) (len := 3) (ci := 13) (k := 25) (pc' := 19) ja_okT mJ_239 (by decide +kernel) (by decide +kernel) (by decide +kernel) t_l0 rfl ?_
  refine nk_p (i := .bipush 12) (len := 2) (pc' := 21) mJ_239 (by decide +kernel) (ns_bipush (c := 12) (by decide +kernel)) rfl ?_
  refine nk_icmp (c := .le) (off := 17) (len := 3) (t := 38) (pc' := 24) mJ_239 (by decide +kernel) (by decide +kernel) rfl (fun hc => ?_) (fun hc => ?_)
  · have hr := nk_ifp (c := (S.1 l0 25) ≤ 12) hc hr
    refine nk_p (i := .iconst 2) (len := 1) (pc' := 39) mJ_239 (by decide +kernel) (ns_iconst (c := 2) (by decide +kernel)) rfl ?_
    refine nk_sub [2, 3, 4, 1, 0] (L' := [(0, nk_r l0), (1, nk_r l1), (2, nk_i l2), (3, nk_i v3), (4, nk_i v6)]) rfl ?_
    exact ja_X13_typesBehind_b39_ok zs _ _ _ _ _ _ _ _ t_l0 t_l1 hr
  · have hr := nk_ifn (c := (S.1 l0 25) ≤ 12) hc hr
    refine nk_p (i := .aload_n 0) (len := 1) (pc' := 25) mJ_239 (by decide +kernel) (ns_aload_n 2 rfl rfl) rfl ?_
    refine nk_getC (f := (4, 1, 24)) (x := 68) (len := 3) (ci := 13) (k := 24) (pc' := 28) ja_okT mJ_239 (by decide +kernel) (by decide +kernel) (by decide +kernel) (by decide) t_l0 rfl ?_
    have t8 : nk_ar ja_Tt (ja_c l0 24) = some (1, 24) := nk_ta ja_okT t_l0 (by decide +kernel)
    refine nk_p (i := .aload_n 0) (len := 1) (pc' := 29) mJ_239 (by decide +kernel) (ns_aload_n 2 rfl rfl) rfl ?_
    refine nk_getI (y := (0, 0)) (x := 495) (len := 3) (ci := 13) (k := 25) (pc' := 32) ja_okT mJ_239 (by decide +kernel) (by decide +kernel) (by decide +kernel) t_l0 rfl ?_
    refine nk_p (i := .iconst 1) (len := 1) (pc' := 33) mJ_239 (by decide +kernel) (ns_iconst (c := 1) (by decide +kernel)) rfl ?_
    refine nk_p (i := .isub) (len := 1) (pc' := 34) mJ_239 (by decide +kernel) ns_isub rfl ?_
    obtain ⟨h9, hr⟩ := nk_cke hr
    refine nk_iald (len := 1) (N := 24) (pc' := 35) mJ_239 (by decide +kernel) t8 h9.1 h9.2 rfl rfl ?_
    refine nk_p (i := .goto 4) (len := 3) (pc' := 39) mJ_239 (by decide +kernel) (ns_goto (by decide +kernel)) rfl ?_
    refine nk_sub [2, 3, 4, 1, 0] (L' := [(0, nk_r l0), (1, nk_r l1), (2, nk_i l2), (3, nk_i v3), (4, nk_i v6)]) rfl ?_
    exact ja_X13_typesBehind_b39_ok zs _ _ _ _ _ _ _ _ t_l0 t_l1 hr
/-! SafeCodeModel typesOn (LSafeCodeModel$Program;I)Z -/
noncomputable def ja_X13_typesOn_b180 (S : nk_S) : Option (Int × nk_S) :=
  some (1, S)
theorem ja_X13_typesOn_b180_ok (zs : List Int32) : ∀ (S : nk_S) (R : Int × nk_S), ja_X13_typesOn_b180 S = some R → nk_K ja_Tt mi_Γ (mi_ev zs) 1 240 180 [] [] S R := by
  intro S R hr
  unfold ja_X13_typesOn_b180 at hr
  refine nk_p (i := .iconst 1) (len := 1) (pc' := 181) mJ_240 (by decide +kernel) (ns_iconst (c := 1) (by decide +kernel)) rfl ?_
  refine nk_p (i := .goto 4) (len := 3) (pc' := 185) mJ_240 (by decide +kernel) (ns_goto (by decide +kernel)) rfl ?_
  refine nk_p (i := .istore_n 3) (len := 1) (pc' := 186) mJ_240 (by decide +kernel) (ns_istore_n (L' := [(3, nk_i 1)]) rfl rfl rfl (by decide +kernel)) rfl ?_
  refine nk_p (i := .iload_n 3) (len := 1) (pc' := 187) mJ_240 (by decide +kernel) (ns_iload_n 0 rfl rfl) rfl ?_
  cases hr
  exact nk_iret (ty := .boolean) (len := 1) mJ_240 (by decide +kernel) rfl (nk_nar_z (by decide))
noncomputable def ja_X13_typesOn_b154 (l0 : Nat) (l1 : Nat) (l2 : Int) (l3 : Int) (l4 : Int) (S : nk_S) : Option (Int × nk_S) :=
  nk_bd (ja_X13_hasLabel l4 S) fun r1 S2 =>
  if r1 = 0 then
    if l3 = 0 ∨ l3 = 1 then
    some (l3, S2)
    else none
  else
    if 0 ≤ l2 ∧ l2 < 1024 then
    nk_bd (ja_X13_typesTo l0 l1 (S2.1 (ja_c l1 23) l2.toNat) S2) fun r7 S8 =>
    if r7 = 0 then
      if l3 = 0 then
        some (0, S8)
      else
        ja_X13_typesOn_b180  S8
    else
      ja_X13_typesOn_b180  S8
    else none
theorem ja_X13_typesOn_b154_ok (zs : List Int32) : ∀ (l0 : Nat) (l1 : Nat) (l2 : Int) (l3 : Int) (l4 : Int) (S : nk_S) (R : Int × nk_S), nk_cl ja_Tt l0 = some 13 → nk_cl ja_Tt l1 = some 12 → ja_X13_typesOn_b154 l0 l1 l2 l3 l4 S = some R → nk_K ja_Tt mi_Γ (mi_ev zs) 1 240 154 [(0, nk_r l0), (1, nk_r l1), (2, nk_i l2), (3, nk_i l3), (4, nk_i l4)] [] S R := by
  intro l0 l1 l2 l3 l4 S R t_l0 t_l1 hr
  unfold ja_X13_typesOn_b154 at hr
  refine nk_p (i := .iload 4) (len := 2) (pc' := 156) mJ_240 (by decide +kernel) (ns_iload 4 rfl) rfl ?_
  obtain ⟨r1, S2, h3, hr⟩ := nk_bde hr
  refine nk_callS (ci := 0) (n := 1) (x := 468) (len := 3) (j' := 129) (q' := 1) (r := r1) (S' := S2) (L2 := [(0, nk_i l4)]) (rest := []) (st' := [nk_i r1]) (pc' := 159) mJ_240 (by decide +kernel) (by decide +kernel) (Nat.le_of_ble_eq_true rfl) rfl rfl (Nat.le_of_ble_eq_true rfl) mJ_129 (Nat.le_of_ble_eq_true rfl) ja_Tpos rfl (ja_X13_hasLabel_ok zs _ _ _ h3) rfl ?_
  refine nk_icond (c := .eq) (off := 27) (len := 3) (t := 186) (pc' := 162) mJ_240 (by decide +kernel) (by decide +kernel) rfl (fun hc => ?_) (fun hc => ?_)
  · have hr := nk_ifp (c := r1 = 0) hc hr
    refine nk_p (i := .iload_n 3) (len := 1) (pc' := 187) mJ_240 (by decide +kernel) (ns_iload_n 3 rfl rfl) rfl ?_
    obtain ⟨h4, hr⟩ := nk_cke hr
    cases hr
    exact nk_iret (ty := .boolean) (len := 1) mJ_240 (by decide +kernel) rfl (nk_nar_z h4)
  · have hr := nk_ifn (c := r1 = 0) hc hr
    refine nk_p (i := .aload_n 0) (len := 1) (pc' := 163) mJ_240 (by decide +kernel) (ns_aload_n 0 rfl rfl) rfl ?_
    refine nk_p (i := .aload_n 1) (len := 1) (pc' := 164) mJ_240 (by decide +kernel) (ns_aload_n 1 rfl rfl) rfl ?_
    refine nk_p (i := .aload_n 1) (len := 1) (pc' := 165) mJ_240 (by decide +kernel) (ns_aload_n 1 rfl rfl) rfl ?_
    refine nk_getC (f := (4, 1, 1024)) (x := 414) (len := 3) (ci := 12) (k := 23) (pc' := 168) ja_okT mJ_240 (by decide +kernel) (by decide +kernel) (by decide +kernel) (by decide) t_l1 rfl ?_
    have t5 : nk_ar ja_Tt (ja_c l1 23) = some (1, 1024) := nk_ta ja_okT t_l1 (by decide +kernel)
    refine nk_p (i := .iload_n 2) (len := 1) (pc' := 169) mJ_240 (by decide +kernel) (ns_iload_n 2 rfl rfl) rfl ?_
    obtain ⟨h6, hr⟩ := nk_cke hr
    refine nk_iald (len := 1) (N := 1024) (pc' := 170) mJ_240 (by decide +kernel) t5 h6.1 h6.2 rfl rfl ?_
    obtain ⟨r7, S8, h9, hr⟩ := nk_bde hr
    refine nk_callV (ci := 13) (n := 2) (x := 502) (len := 3) (j' := 241) (q' := 1) (r := r7) (S' := S8) (L2 := [(0, nk_r l0), (1, nk_r l1), (2, nk_i (S2.1 (ja_c l1 23) l2.toNat))]) (rest := []) (st' := [nk_i r7]) (pc' := 173) mJ_240 (by decide +kernel) (by decide +kernel) rfl rfl t_l0 (Nat.le_of_ble_eq_true rfl) mJ_241 (Nat.le_of_ble_eq_true rfl) rfl (ja_X13_typesTo_ok zs _ _ _ _ _ t_l0 t_l1 h9) rfl ?_
    refine nk_icond (c := .ne) (off := 7) (len := 3) (t := 180) (pc' := 176) mJ_240 (by decide +kernel) (by decide +kernel) rfl (fun hc => ?_) (fun hc => ?_)
    · have hr := nk_ifn (c := r7 = 0) hc hr
      refine nk_sub [] (L' := []) rfl ?_
      exact ja_X13_typesOn_b180_ok zs _ _ hr
    · have hr := nk_ifp (c := r7 = 0) (Decidable.of_not_not hc) hr
      refine nk_p (i := .iload_n 3) (len := 1) (pc' := 177) mJ_240 (by decide +kernel) (ns_iload_n 3 rfl rfl) rfl ?_
      refine nk_icond (c := .eq) (off := 7) (len := 3) (t := 184) (pc' := 180) mJ_240 (by decide +kernel) (by decide +kernel) rfl (fun hc => ?_) (fun hc => ?_)
      · have hr := nk_ifp (c := l3 = 0) hc hr
        refine nk_p (i := .iconst 0) (len := 1) (pc' := 185) mJ_240 (by decide +kernel) (ns_iconst (c := 0) (by decide +kernel)) rfl ?_
        refine nk_p (i := .istore_n 3) (len := 1) (pc' := 186) mJ_240 (by decide +kernel) (ns_istore_n (L' := [(3, nk_i 0), (0, nk_r l0), (1, nk_r l1), (2, nk_i l2), (4, nk_i l4)]) rfl rfl rfl (by decide +kernel)) rfl ?_
        refine nk_p (i := .iload_n 3) (len := 1) (pc' := 187) mJ_240 (by decide +kernel) (ns_iload_n 0 rfl rfl) rfl ?_
        cases hr
        exact nk_iret (ty := .boolean) (len := 1) mJ_240 (by decide +kernel) rfl (nk_nar_z (by decide))
      · have hr := nk_ifn (c := l3 = 0) hc hr
        refine nk_sub [] (L' := []) rfl ?_
        exact ja_X13_typesOn_b180_ok zs _ _ hr
noncomputable def ja_X13_typesOn_b153 (l0 : Nat) (l1 : Nat) (l2 : Int) (l4 : Int) (s0 : Int) (S : nk_S) : Option (Int × nk_S) :=
  ja_X13_typesOn_b154 l0 l1 l2 s0 l4 S
theorem ja_X13_typesOn_b153_ok (zs : List Int32) : ∀ (l0 : Nat) (l1 : Nat) (l2 : Int) (l4 : Int) (s0 : Int) (S : nk_S) (R : Int × nk_S), nk_cl ja_Tt l0 = some 13 → nk_cl ja_Tt l1 = some 12 → ja_X13_typesOn_b153 l0 l1 l2 l4 s0 S = some R → nk_K ja_Tt mi_Γ (mi_ev zs) 1 240 153 [(0, nk_r l0), (1, nk_r l1), (2, nk_i l2), (4, nk_i l4)] [nk_i s0] S R := by
  intro l0 l1 l2 l4 s0 S R t_l0 t_l1 hr
  unfold ja_X13_typesOn_b153 at hr
  refine nk_p (i := .istore_n 3) (len := 1) (pc' := 154) mJ_240 (by decide +kernel) (ns_istore_n (L' := [(3, nk_i s0), (0, nk_r l0), (1, nk_r l1), (2, nk_i l2), (4, nk_i l4)]) rfl rfl rfl (by decide +kernel)) rfl ?_
  refine nk_sub [1, 2, 3, 0, 4] (L' := [(0, nk_r l0), (1, nk_r l1), (2, nk_i l2), (3, nk_i s0), (4, nk_i l4)]) rfl ?_
  exact ja_X13_typesOn_b154_ok zs _ _ _ _ _ _ _ t_l0 t_l1 hr
noncomputable def ja_X13_typesOn_b148 (l0 : Nat) (l1 : Nat) (l2 : Int) (l4 : Int) (S : nk_S) : Option (Int × nk_S) :=
  ja_X13_typesOn_b153 l0 l1 l2 l4 1 S
theorem ja_X13_typesOn_b148_ok (zs : List Int32) : ∀ (l0 : Nat) (l1 : Nat) (l2 : Int) (l4 : Int) (S : nk_S) (R : Int × nk_S), nk_cl ja_Tt l0 = some 13 → nk_cl ja_Tt l1 = some 12 → ja_X13_typesOn_b148 l0 l1 l2 l4 S = some R → nk_K ja_Tt mi_Γ (mi_ev zs) 1 240 148 [(0, nk_r l0), (1, nk_r l1), (2, nk_i l2), (4, nk_i l4)] [] S R := by
  intro l0 l1 l2 l4 S R t_l0 t_l1 hr
  unfold ja_X13_typesOn_b148 at hr
  refine nk_p (i := .iconst 1) (len := 1) (pc' := 149) mJ_240 (by decide +kernel) (ns_iconst (c := 1) (by decide +kernel)) rfl ?_
  refine nk_p (i := .goto 4) (len := 3) (pc' := 153) mJ_240 (by decide +kernel) (ns_goto (by decide +kernel)) rfl ?_
  exact ja_X13_typesOn_b153_ok zs _ _ _ _ _ _ _ t_l0 t_l1 hr
noncomputable def ja_X13_typesOn_b119 (l0 : Nat) (l1 : Nat) (l2 : Int) (l3 : Int) (l4 : Int) (S : nk_S) : Option (Int × nk_S) :=
  nk_bd (ja_X13_typesBehind l0 l1 l2 S) fun r1 S2 =>
  nk_bd (ja_X13_hasNext l4 S2) fun r4 S5 =>
  if r4 = 0 then
    ja_X13_typesOn_b154 l0 l1 l2 l3 l4 S5
  else
    nk_bd (ja_X13_typesTo l0 l1 (nk_w (l2 + 1)) S5) fun r7 S8 =>
    if r7 = 0 then
      if l3 = 0 then
        ja_X13_typesOn_b153 l0 l1 l2 l4 0 S8
      else
        ja_X13_typesOn_b148 l0 l1 l2 l4 S8
    else
      ja_X13_typesOn_b148 l0 l1 l2 l4 S8
theorem ja_X13_typesOn_b119_ok (zs : List Int32) : ∀ (l0 : Nat) (l1 : Nat) (l2 : Int) (l3 : Int) (l4 : Int) (S : nk_S) (R : Int × nk_S), nk_cl ja_Tt l0 = some 13 → nk_cl ja_Tt l1 = some 12 → ja_X13_typesOn_b119 l0 l1 l2 l3 l4 S = some R → nk_K ja_Tt mi_Γ (mi_ev zs) 1 240 119 [(0, nk_r l0), (1, nk_r l1), (2, nk_i l2), (3, nk_i l3), (4, nk_i l4)] [] S R := by
  intro l0 l1 l2 l3 l4 S R t_l0 t_l1 hr
  unfold ja_X13_typesOn_b119 at hr
  refine nk_p (i := .aload_n 0) (len := 1) (pc' := 120) mJ_240 (by decide +kernel) (ns_aload_n 0 rfl rfl) rfl ?_
  refine nk_p (i := .aload_n 1) (len := 1) (pc' := 121) mJ_240 (by decide +kernel) (ns_aload_n 1 rfl rfl) rfl ?_
  refine nk_p (i := .iload_n 2) (len := 1) (pc' := 122) mJ_240 (by decide +kernel) (ns_iload_n 2 rfl rfl) rfl ?_
  obtain ⟨r1, S2, h3, hr⟩ := nk_bde hr
  refine nk_callV (ci := 13) (n := 2) (x := 505) (len := 3) (j' := 239) (q' := 0) (r := r1) (S' := S2) (L2 := [(0, nk_r l0), (1, nk_r l1), (2, nk_i l2)]) (rest := []) (st' := []) (pc' := 125) mJ_240 (by decide +kernel) (by decide +kernel) rfl rfl t_l0 (Nat.le_of_ble_eq_true rfl) mJ_239 (Nat.le_of_ble_eq_true rfl) rfl (ja_X13_typesBehind_ok zs _ _ _ _ _ t_l0 t_l1 h3) rfl ?_
  refine nk_p (i := .iload 4) (len := 2) (pc' := 127) mJ_240 (by decide +kernel) (ns_iload 4 rfl) rfl ?_
  obtain ⟨r4, S5, h6, hr⟩ := nk_bde hr
  refine nk_callS (ci := 0) (n := 1) (x := 462) (len := 3) (j' := 130) (q' := 1) (r := r4) (S' := S5) (L2 := [(0, nk_i l4)]) (rest := []) (st' := [nk_i r4]) (pc' := 130) mJ_240 (by decide +kernel) (by decide +kernel) (Nat.le_of_ble_eq_true rfl) rfl rfl (Nat.le_of_ble_eq_true rfl) mJ_130 (Nat.le_of_ble_eq_true rfl) ja_Tpos rfl (ja_X13_hasNext_ok zs _ _ _ h6) rfl ?_
  refine nk_icond (c := .eq) (off := 24) (len := 3) (t := 154) (pc' := 133) mJ_240 (by decide +kernel) (by decide +kernel) rfl (fun hc => ?_) (fun hc => ?_)
  · have hr := nk_ifp (c := r4 = 0) hc hr
    exact ja_X13_typesOn_b154_ok zs _ _ _ _ _ _ _ t_l0 t_l1 hr
  · have hr := nk_ifn (c := r4 = 0) hc hr
    refine nk_p (i := .aload_n 0) (len := 1) (pc' := 134) mJ_240 (by decide +kernel) (ns_aload_n 0 rfl rfl) rfl ?_
    refine nk_p (i := .aload_n 1) (len := 1) (pc' := 135) mJ_240 (by decide +kernel) (ns_aload_n 1 rfl rfl) rfl ?_
    refine nk_p (i := .iload_n 2) (len := 1) (pc' := 136) mJ_240 (by decide +kernel) (ns_iload_n 2 rfl rfl) rfl ?_
    refine nk_p (i := .iconst 1) (len := 1) (pc' := 137) mJ_240 (by decide +kernel) (ns_iconst (c := 1) (by decide +kernel)) rfl ?_
    refine nk_p (i := .iadd) (len := 1) (pc' := 138) mJ_240 (by decide +kernel) ns_iadd rfl ?_
    obtain ⟨r7, S8, h9, hr⟩ := nk_bde hr
    refine nk_callV (ci := 13) (n := 2) (x := 502) (len := 3) (j' := 241) (q' := 1) (r := r7) (S' := S8) (L2 := [(0, nk_r l0), (1, nk_r l1), (2, nk_i (nk_w (l2 + 1)))]) (rest := []) (st' := [nk_i r7]) (pc' := 141) mJ_240 (by decide +kernel) (by decide +kernel) rfl rfl t_l0 (Nat.le_of_ble_eq_true rfl) mJ_241 (Nat.le_of_ble_eq_true rfl) rfl (ja_X13_typesTo_ok zs _ _ _ _ _ t_l0 t_l1 h9) rfl ?_
    refine nk_icond (c := .ne) (off := 7) (len := 3) (t := 148) (pc' := 144) mJ_240 (by decide +kernel) (by decide +kernel) rfl (fun hc => ?_) (fun hc => ?_)
    · have hr := nk_ifn (c := r7 = 0) hc hr
      refine nk_sub [0, 1, 2, 4] (L' := [(0, nk_r l0), (1, nk_r l1), (2, nk_i l2), (4, nk_i l4)]) rfl ?_
      exact ja_X13_typesOn_b148_ok zs _ _ _ _ _ _ t_l0 t_l1 hr
    · have hr := nk_ifp (c := r7 = 0) (Decidable.of_not_not hc) hr
      refine nk_p (i := .iload_n 3) (len := 1) (pc' := 145) mJ_240 (by decide +kernel) (ns_iload_n 3 rfl rfl) rfl ?_
      refine nk_icond (c := .eq) (off := 7) (len := 3) (t := 152) (pc' := 148) mJ_240 (by decide +kernel) (by decide +kernel) rfl (fun hc => ?_) (fun hc => ?_)
      · have hr := nk_ifp (c := l3 = 0) hc hr
        refine nk_p (i := .iconst 0) (len := 1) (pc' := 153) mJ_240 (by decide +kernel) (ns_iconst (c := 0) (by decide +kernel)) rfl ?_
        refine nk_sub [0, 1, 2, 4] (L' := [(0, nk_r l0), (1, nk_r l1), (2, nk_i l2), (4, nk_i l4)]) rfl ?_
        exact ja_X13_typesOn_b153_ok zs _ _ _ _ _ _ _ t_l0 t_l1 hr
      · have hr := nk_ifn (c := l3 = 0) hc hr
        refine nk_sub [0, 1, 2, 4] (L' := [(0, nk_r l0), (1, nk_r l1), (2, nk_i l2), (4, nk_i l4)]) rfl ?_
        exact ja_X13_typesOn_b148_ok zs _ _ _ _ _ _ t_l0 t_l1 hr
noncomputable def ja_X13_typesOn_b69 (rec5 : Nat → Nat → Int → Int → Int → nk_S → Option (Int × nk_S)) (l0 : Nat) (l1 : Nat) (l2 : Int) (l4 : Int) (S : nk_S) : Option (Int × nk_S) :=
  nk_lt (nk_w (l4 + 1)) fun v1 =>
  rec5 l0 l1 l2 1 v1 S
theorem ja_X13_typesOn_b69_ok (zs : List Int32) {rec5 : Nat → Nat → Int → Int → Int → nk_S → Option (Int × nk_S)} (hrec5 : ∀ (l0 : Nat) (l1 : Nat) (l2 : Int) (l3 : Int) (l4 : Int) (S : nk_S) (R : Int × nk_S), nk_cl ja_Tt l0 = some 13 → nk_cl ja_Tt l1 = some 12 → rec5 l0 l1 l2 l3 l4 S = some R → nk_K ja_Tt mi_Γ (mi_ev zs) 1 240 5 [(0, nk_r l0), (1, nk_r l1), (2, nk_i l2), (3, nk_i l3), (4, nk_i l4)] [] S R) : ∀ (l0 : Nat) (l1 : Nat) (l2 : Int) (l4 : Int) (S : nk_S) (R : Int × nk_S), nk_cl ja_Tt l0 = some 13 → nk_cl ja_Tt l1 = some 12 → ja_X13_typesOn_b69 rec5 l0 l1 l2 l4 S = some R → nk_K ja_Tt mi_Γ (mi_ev zs) 1 240 69 [(0, nk_r l0), (1, nk_r l1), (2, nk_i l2), (4, nk_i l4)] [] S R := by
  intro l0 l1 l2 l4 S R t_l0 t_l1 hr
  unfold ja_X13_typesOn_b69 at hr
  refine nk_p (i := .iconst 1) (len := 1) (pc' := 70) mJ_240 (by decide +kernel) (ns_iconst (c := 1) (by decide +kernel)) rfl ?_
  refine nk_p (i := .goto 4) (len := 3) (pc' := 74) mJ_240 (by decide +kernel) (ns_goto (by decide +kernel)) rfl ?_
  refine nk_p (i := .istore_n 3) (len := 1) (pc' := 75) mJ_240 (by decide +kernel) (ns_istore_n (L' := [(3, nk_i 1), (0, nk_r l0), (1, nk_r l1), (2, nk_i l2), (4, nk_i l4)]) rfl rfl rfl (by decide +kernel)) rfl ?_
  obtain ⟨v1, h2, hr⟩ := nk_lte hr
  refine nk_p (i := .iinc 4 1) (len := 3) (pc' := 78) mJ_240 (by decide +kernel) (ns_iinc (c := 1) (L' := [(4, nk_i v1), (3, nk_i 1), (0, nk_r l0), (1, nk_r l1), (2, nk_i l2)]) 4 rfl (by decide +kernel) h2 rfl (by decide +kernel)) rfl ?_
  refine nk_p (i := .goto (-73)) (len := 3) (pc' := 5) mJ_240 (by decide +kernel) (ns_goto (by decide +kernel)) rfl ?_
  refine nk_sub [2, 3, 4, 1, 0] (L' := [(0, nk_r l0), (1, nk_r l1), (2, nk_i l2), (3, nk_i 1), (4, nk_i v1)]) rfl ?_
  exact hrec5 _ _ _ _ _ _ _ t_l0 t_l1 hr
noncomputable def ja_X13_typesOn_b5 (rec5 : Nat → Nat → Int → Int → Int → nk_S → Option (Int × nk_S)) (l0 : Nat) (l1 : Nat) (l2 : Int) (l3 : Int) (l4 : Int) (S : nk_S) : Option (Int × nk_S) :=
  if (S.1 l1 5) ≤ l4 then
    nk_bd (ja_X13_typesAt l0 l1 l2 S) fun r1 S2 =>
    if 0 ≤ l2 ∧ l2 < 1024 then
    nk_lt (S2.1 (ja_c l1 22) l2.toNat) fun v6 =>
    if v6 = 33 then
      if 0 ≤ (nk_w ((S2.1 l0 25) - 2)) ∧ (nk_w ((S2.1 l0 25) - 2)) < 24 then
      if (S2.1 (ja_c l0 24) (nk_w ((S2.1 l0 25) - 2)).toNat) = 1 then
        if l3 = 0 ∨ l3 = 1 then
        some (l3, S2)
        else none
      else
        ja_X13_typesOn_b119 l0 l1 l2 l3 v6 S2
      else none
    else
      ja_X13_typesOn_b119 l0 l1 l2 l3 v6 S2
    else none
  else
    nk_bd (ja_X13_covers l1 l4 l2 S) fun r11 S12 =>
    if r11 = 0 then
      nk_lt (nk_w (l4 + 1)) fun v28 =>
      rec5 l0 l1 l2 l3 v28 S12
    else
      nk_bd (ja_X13_typesAt l0 l1 l2 S12) fun r14 S15 =>
      if 0 ≤ l4 ∧ l4 < 64 then
      nk_lt (nk_wi S15 (ja_c l0 24) 12 (nk_w (8 + (S15.1 (ja_c l1 32) l4.toNat)))) fun S20 =>
      nk_bd (ja_X13_typesTo l0 l1 (S20.1 (ja_c l1 31) l4.toNat) S20) fun r23 S24 =>
      if r23 = 0 then
        if l3 = 0 then
          nk_lt (nk_w (l4 + 1)) fun v26 =>
          rec5 l0 l1 l2 0 v26 S24
        else
          ja_X13_typesOn_b69 rec5 l0 l1 l2 l4 S24
      else
        ja_X13_typesOn_b69 rec5 l0 l1 l2 l4 S24
      else none
theorem ja_X13_typesOn_b5_ok (zs : List Int32) {rec5 : Nat → Nat → Int → Int → Int → nk_S → Option (Int × nk_S)} (hrec5 : ∀ (l0 : Nat) (l1 : Nat) (l2 : Int) (l3 : Int) (l4 : Int) (S : nk_S) (R : Int × nk_S), nk_cl ja_Tt l0 = some 13 → nk_cl ja_Tt l1 = some 12 → rec5 l0 l1 l2 l3 l4 S = some R → nk_K ja_Tt mi_Γ (mi_ev zs) 1 240 5 [(0, nk_r l0), (1, nk_r l1), (2, nk_i l2), (3, nk_i l3), (4, nk_i l4)] [] S R) : ∀ (l0 : Nat) (l1 : Nat) (l2 : Int) (l3 : Int) (l4 : Int) (S : nk_S) (R : Int × nk_S), nk_cl ja_Tt l0 = some 13 → nk_cl ja_Tt l1 = some 12 → ja_X13_typesOn_b5 rec5 l0 l1 l2 l3 l4 S = some R → nk_K ja_Tt mi_Γ (mi_ev zs) 1 240 5 [(0, nk_r l0), (1, nk_r l1), (2, nk_i l2), (3, nk_i l3), (4, nk_i l4)] [] S R := by
  intro l0 l1 l2 l3 l4 S R t_l0 t_l1 hr
  unfold ja_X13_typesOn_b5 at hr
  refine nk_p (i := .iload 4) (len := 2) (pc' := 7) mJ_240 (by decide +kernel) (ns_iload 4 rfl) rfl ?_
  refine nk_p (i := .aload_n 1) (len := 1) (pc' := 8) mJ_240 (by decide +kernel) (ns_aload_n 1 rfl rfl) rfl ?_
  refine nk_getI (y := (0, 0)) (x := 359) (len := 3) (ci := 12) (k := 5) (pc' := 11) ja_okT mJ_240 (by decide +kernel) (by decide +kernel) (by decide +kernel) t_l1 rfl ?_
  refine nk_icmp (c := .ge) (off := 70) (len := 3) (t := 81) (pc' := 14) mJ_240 (by decide +kernel) (by decide +kernel) rfl (fun hc => ?_) (fun hc => ?_)
  · have hr := nk_ifp (c := (S.1 l1 5) ≤ l4) hc hr
    refine nk_p (i := .aload_n 0) (len := 1) (pc' := 82) mJ_240 (by decide +kernel) (ns_aload_n 0 rfl rfl) rfl ?_
    refine nk_p (i := .aload_n 1) (len := 1) (pc' := 83) mJ_240 (by decide +kernel) (ns_aload_n 1 rfl rfl) rfl ?_
    refine nk_p (i := .iload_n 2) (len := 1) (pc' := 84) mJ_240 (by decide +kernel) (ns_iload_n 2 rfl rfl) rfl ?_
    obtain ⟨r1, S2, h3, hr⟩ := nk_bde hr
    refine nk_callV (ci := 13) (n := 2) (x := 498) (len := 3) (j' := 238) (q' := 0) (r := r1) (S' := S2) (L2 := [(0, nk_r l0), (1, nk_r l1), (2, nk_i l2)]) (rest := []) (st' := []) (pc' := 87) mJ_240 (by decide +kernel) (by decide +kernel) rfl rfl t_l0 (Nat.le_of_ble_eq_true rfl) mJ_238 (Nat.le_of_ble_eq_true rfl) rfl (ja_X13_typesAt_ok zs _ _ _ _ _ t_l0 t_l1 h3) rfl ?_
    refine nk_p (i := .aload_n 1) (len := 1) (pc' := 88) mJ_240 (by decide +kernel) (ns_aload_n 1 rfl rfl) rfl ?_
    refine nk_getC (f := (4, 1, 1024)) (x := 391) (len := 3) (ci := 12) (k := 22) (pc' := 91) ja_okT mJ_240 (by decide +kernel) (by decide +kernel) (by decide +kernel) (by decide) t_l1 rfl ?_
    have t4 : nk_ar ja_Tt (ja_c l1 22) = some (1, 1024) := nk_ta ja_okT t_l1 (by decide +kernel)
    refine nk_p (i := .iload_n 2) (len := 1) (pc' := 92) mJ_240 (by decide +kernel) (ns_iload_n 2 rfl rfl) rfl ?_
    obtain ⟨h5, hr⟩ := nk_cke hr
    refine nk_iald (len := 1) (N := 1024) (pc' := 93) mJ_240 (by decide +kernel) t4 h5.1 h5.2 rfl rfl ?_
    obtain ⟨v6, h7, hr⟩ := nk_lte hr
    refine nk_p (i := .istore 4) (len := 2) (pc' := 95) mJ_240 (by decide +kernel) (ns_istore (L' := [(4, nk_i v6), (0, nk_r l0), (1, nk_r l1), (2, nk_i l2), (3, nk_i l3)]) h7 rfl (by decide +kernel)) rfl ?_
    refine nk_p (i := .iload 4) (len := 2) (pc' := 97) mJ_240 (by decide +kernel) (ns_iload 0 rfl) rfl ?_
    refine nk_p (i := .bipush 33) (len := 2) (pc' := 99) mJ_240 (by decide +kernel) (ns_bipush (c := 33) (by decide +kernel)) rfl ?_
    refine nk_icmp (c := .ne) (off := 20) (len := 3) (t := 119) (pc' := 102) mJ_240 (by decide +kernel) (by decide +kernel) rfl (fun hc => ?_) (fun hc => ?_)
    · have hr := nk_ifn (c := v6 = 33) hc hr
      refine nk_sub [1, 2, 3, 4, 0] (L' := [(0, nk_r l0), (1, nk_r l1), (2, nk_i l2), (3, nk_i l3), (4, nk_i v6)]) rfl ?_
      exact ja_X13_typesOn_b119_ok zs _ _ _ _ _ _ _ t_l0 t_l1 hr
    · have hr := nk_ifp (c := v6 = 33) (Decidable.of_not_not hc) hr
      refine nk_p (i := .aload_n 0) (len := 1) (pc' := 103) mJ_240 (by decide +kernel) (ns_aload_n 1 rfl rfl) rfl ?_
      refine nk_getC (f := (4, 1, 24)) (x := 68) (len := 3) (ci := 13) (k := 24) (pc' := 106) ja_okT mJ_240 (by decide +kernel) (by decide +kernel) (by decide +kernel) (by decide) t_l0 rfl ?_
      have t8 : nk_ar ja_Tt (ja_c l0 24) = some (1, 24) := nk_ta ja_okT t_l0 (by decide +kernel)
      refine nk_p (i := .aload_n 0) (len := 1) (pc' := 107) mJ_240 (by decide +kernel) (ns_aload_n 1 rfl rfl) rfl ?_
      refine nk_getI (y := (0, 0)) (x := 495) (len := 3) (ci := 13) (k := 25) (pc' := 110) ja_okT mJ_240 (by decide +kernel) (by decide +kernel) (by decide +kernel) t_l0 rfl ?_
      refine nk_p (i := .iconst 2) (len := 1) (pc' := 111) mJ_240 (by decide +kernel) (ns_iconst (c := 2) (by decide +kernel)) rfl ?_
      refine nk_p (i := .isub) (len := 1) (pc' := 112) mJ_240 (by decide +kernel) ns_isub rfl ?_
      obtain ⟨h9, hr⟩ := nk_cke hr
      refine nk_iald (len := 1) (N := 24) (pc' := 113) mJ_240 (by decide +kernel) t8 h9.1 h9.2 rfl rfl ?_
      refine nk_p (i := .iconst 1) (len := 1) (pc' := 114) mJ_240 (by decide +kernel) (ns_iconst (c := 1) (by decide +kernel)) rfl ?_
      refine nk_icmp (c := .ne) (off := 5) (len := 3) (t := 119) (pc' := 117) mJ_240 (by decide +kernel) (by decide +kernel) rfl (fun hc => ?_) (fun hc => ?_)
      · have hr := nk_ifn (c := (S2.1 (ja_c l0 24) (nk_w ((S2.1 l0 25) - 2)).toNat) = 1) hc hr
        refine nk_sub [1, 2, 3, 4, 0] (L' := [(0, nk_r l0), (1, nk_r l1), (2, nk_i l2), (3, nk_i l3), (4, nk_i v6)]) rfl ?_
        exact ja_X13_typesOn_b119_ok zs _ _ _ _ _ _ _ t_l0 t_l1 hr
      · have hr := nk_ifp (c := (S2.1 (ja_c l0 24) (nk_w ((S2.1 l0 25) - 2)).toNat) = 1) (Decidable.of_not_not hc) hr
        refine nk_p (i := .iload_n 3) (len := 1) (pc' := 118) mJ_240 (by decide +kernel) (ns_iload_n 4 rfl rfl) rfl ?_
        obtain ⟨h10, hr⟩ := nk_cke hr
        cases hr
        exact nk_iret (ty := .boolean) (len := 1) mJ_240 (by decide +kernel) rfl (nk_nar_z h10)
  · have hr := nk_ifn (c := (S.1 l1 5) ≤ l4) hc hr
    refine nk_p (i := .aload_n 1) (len := 1) (pc' := 15) mJ_240 (by decide +kernel) (ns_aload_n 1 rfl rfl) rfl ?_
    refine nk_p (i := .iload 4) (len := 2) (pc' := 17) mJ_240 (by decide +kernel) (ns_iload 4 rfl) rfl ?_
    refine nk_p (i := .iload_n 2) (len := 1) (pc' := 18) mJ_240 (by decide +kernel) (ns_iload_n 2 rfl rfl) rfl ?_
    obtain ⟨r11, S12, h13, hr⟩ := nk_bde hr
    refine nk_callS (ci := 0) (n := 3) (x := 471) (len := 3) (j' := 104) (q' := 1) (r := r11) (S' := S12) (L2 := [(0, nk_r l1), (1, nk_i l4), (2, nk_i l2)]) (rest := []) (st' := [nk_i r11]) (pc' := 21) mJ_240 (by decide +kernel) (by decide +kernel) (Nat.le_of_ble_eq_true rfl) rfl rfl (Nat.le_of_ble_eq_true rfl) mJ_104 (Nat.le_of_ble_eq_true rfl) ja_Tpos rfl (ja_X13_covers_ok zs _ _ _ _ _ t_l1 h13) rfl ?_
    refine nk_icond (c := .ne) (off := 6) (len := 3) (t := 27) (pc' := 24) mJ_240 (by decide +kernel) (by decide +kernel) rfl (fun hc => ?_) (fun hc => ?_)
    · have hr := nk_ifn (c := r11 = 0) hc hr
      refine nk_p (i := .aload_n 0) (len := 1) (pc' := 28) mJ_240 (by decide +kernel) (ns_aload_n 0 rfl rfl) rfl ?_
      refine nk_p (i := .aload_n 1) (len := 1) (pc' := 29) mJ_240 (by decide +kernel) (ns_aload_n 1 rfl rfl) rfl ?_
      refine nk_p (i := .iload_n 2) (len := 1) (pc' := 30) mJ_240 (by decide +kernel) (ns_iload_n 2 rfl rfl) rfl ?_
      obtain ⟨r14, S15, h16, hr⟩ := nk_bde hr
      refine nk_callV (ci := 13) (n := 2) (x := 498) (len := 3) (j' := 238) (q' := 0) (r := r14) (S' := S15) (L2 := [(0, nk_r l0), (1, nk_r l1), (2, nk_i l2)]) (rest := []) (st' := []) (pc' := 33) mJ_240 (by decide +kernel) (by decide +kernel) rfl rfl t_l0 (Nat.le_of_ble_eq_true rfl) mJ_238 (Nat.le_of_ble_eq_true rfl) rfl (ja_X13_typesAt_ok zs _ _ _ _ _ t_l0 t_l1 h16) rfl ?_
      refine nk_p (i := .aload_n 0) (len := 1) (pc' := 34) mJ_240 (by decide +kernel) (ns_aload_n 0 rfl rfl) rfl ?_
      refine nk_getC (f := (4, 1, 24)) (x := 68) (len := 3) (ci := 13) (k := 24) (pc' := 37) ja_okT mJ_240 (by decide +kernel) (by decide +kernel) (by decide +kernel) (by decide) t_l0 rfl ?_
      have t17 : nk_ar ja_Tt (ja_c l0 24) = some (1, 24) := nk_ta ja_okT t_l0 (by decide +kernel)
      refine nk_p (i := .bipush 12) (len := 2) (pc' := 39) mJ_240 (by decide +kernel) (ns_bipush (c := 12) (by decide +kernel)) rfl ?_
      refine nk_p (i := .bipush 8) (len := 2) (pc' := 41) mJ_240 (by decide +kernel) (ns_bipush (c := 8) (by decide +kernel)) rfl ?_
      refine nk_p (i := .aload_n 1) (len := 1) (pc' := 42) mJ_240 (by decide +kernel) (ns_aload_n 1 rfl rfl) rfl ?_
      refine nk_getC (f := (4, 1, 64)) (x := 409) (len := 3) (ci := 12) (k := 32) (pc' := 45) ja_okT mJ_240 (by decide +kernel) (by decide +kernel) (by decide +kernel) (by decide) t_l1 rfl ?_
      have t18 : nk_ar ja_Tt (ja_c l1 32) = some (1, 64) := nk_ta ja_okT t_l1 (by decide +kernel)
      refine nk_p (i := .iload 4) (len := 2) (pc' := 47) mJ_240 (by decide +kernel) (ns_iload 4 rfl) rfl ?_
      obtain ⟨h19, hr⟩ := nk_cke hr
      refine nk_iald (len := 1) (N := 64) (pc' := 48) mJ_240 (by decide +kernel) t18 h19.1 h19.2 rfl rfl ?_
      refine nk_p (i := .iadd) (len := 1) (pc' := 49) mJ_240 (by decide +kernel) ns_iadd rfl ?_
      obtain ⟨S20, h21, hr⟩ := nk_lte hr
      refine nk_iast (len := 1) (N := 24) (pc' := 50) mJ_240 (by decide +kernel) t17 (by decide) (by decide) rfl rfl h21 ?_
      refine nk_p (i := .aload_n 0) (len := 1) (pc' := 51) mJ_240 (by decide +kernel) (ns_aload_n 0 rfl rfl) rfl ?_
      refine nk_p (i := .aload_n 1) (len := 1) (pc' := 52) mJ_240 (by decide +kernel) (ns_aload_n 1 rfl rfl) rfl ?_
      refine nk_p (i := .aload_n 1) (len := 1) (pc' := 53) mJ_240 (by decide +kernel) (ns_aload_n 1 rfl rfl) rfl ?_
      refine nk_getC (f := (4, 1, 64)) (x := 406) (len := 3) (ci := 12) (k := 31) (pc' := 56) ja_okT mJ_240 (by decide +kernel) (by decide +kernel) (by decide +kernel) (by decide) t_l1 rfl ?_
      have t22 : nk_ar ja_Tt (ja_c l1 31) = some (1, 64) := nk_ta ja_okT t_l1 (by decide +kernel)
      refine nk_p (i := .iload 4) (len := 2) (pc' := 58) mJ_240 (by decide +kernel) (ns_iload 4 rfl) rfl ?_
      refine nk_iald (len := 1) (N := 64) (pc' := 59) mJ_240 (by decide +kernel) t22 h19.1 h19.2 rfl rfl ?_
      obtain ⟨r23, S24, h25, hr⟩ := nk_bde hr
      refine nk_callV (ci := 13) (n := 2) (x := 502) (len := 3) (j' := 241) (q' := 1) (r := r23) (S' := S24) (L2 := [(0, nk_r l0), (1, nk_r l1), (2, nk_i (S20.1 (ja_c l1 31) l4.toNat))]) (rest := []) (st' := [nk_i r23]) (pc' := 62) mJ_240 (by decide +kernel) (by decide +kernel) rfl rfl t_l0 (Nat.le_of_ble_eq_true rfl) mJ_241 (Nat.le_of_ble_eq_true rfl) rfl (ja_X13_typesTo_ok zs _ _ _ _ _ t_l0 t_l1 h25) rfl ?_
      refine nk_icond (c := .ne) (off := 7) (len := 3) (t := 69) (pc' := 65) mJ_240 (by decide +kernel) (by decide +kernel) rfl (fun hc => ?_) (fun hc => ?_)
      · have hr := nk_ifn (c := r23 = 0) hc hr
        refine nk_sub [0, 1, 2, 4] (L' := [(0, nk_r l0), (1, nk_r l1), (2, nk_i l2), (4, nk_i l4)]) rfl ?_
        exact ja_X13_typesOn_b69_ok zs hrec5 _ _ _ _ _ _ t_l0 t_l1 hr
      · have hr := nk_ifp (c := r23 = 0) (Decidable.of_not_not hc) hr
        refine nk_p (i := .iload_n 3) (len := 1) (pc' := 66) mJ_240 (by decide +kernel) (ns_iload_n 3 rfl rfl) rfl ?_
        refine nk_icond (c := .eq) (off := 7) (len := 3) (t := 73) (pc' := 69) mJ_240 (by decide +kernel) (by decide +kernel) rfl (fun hc => ?_) (fun hc => ?_)
        · have hr := nk_ifp (c := l3 = 0) hc hr
          refine nk_p (i := .iconst 0) (len := 1) (pc' := 74) mJ_240 (by decide +kernel) (ns_iconst (c := 0) (by decide +kernel)) rfl ?_
          refine nk_p (i := .istore_n 3) (len := 1) (pc' := 75) mJ_240 (by decide +kernel) (ns_istore_n (L' := [(3, nk_i 0), (0, nk_r l0), (1, nk_r l1), (2, nk_i l2), (4, nk_i l4)]) rfl rfl rfl (by decide +kernel)) rfl ?_
          obtain ⟨v26, h27, hr⟩ := nk_lte hr
          refine nk_p (i := .iinc 4 1) (len := 3) (pc' := 78) mJ_240 (by decide +kernel) (ns_iinc (c := 1) (L' := [(4, nk_i v26), (3, nk_i 0), (0, nk_r l0), (1, nk_r l1), (2, nk_i l2)]) 4 rfl (by decide +kernel) h27 rfl (by decide +kernel)) rfl ?_
          refine nk_p (i := .goto (-73)) (len := 3) (pc' := 5) mJ_240 (by decide +kernel) (ns_goto (by decide +kernel)) rfl ?_
          refine nk_sub [2, 3, 4, 1, 0] (L' := [(0, nk_r l0), (1, nk_r l1), (2, nk_i l2), (3, nk_i 0), (4, nk_i v26)]) rfl ?_
          exact hrec5 _ _ _ _ _ _ _ t_l0 t_l1 hr
        · have hr := nk_ifn (c := l3 = 0) hc hr
          refine nk_sub [0, 1, 2, 4] (L' := [(0, nk_r l0), (1, nk_r l1), (2, nk_i l2), (4, nk_i l4)]) rfl ?_
          exact ja_X13_typesOn_b69_ok zs hrec5 _ _ _ _ _ _ t_l0 t_l1 hr
    · have hr := nk_ifp (c := r11 = 0) (Decidable.of_not_not hc) hr
      refine nk_p (i := .goto 51) (len := 3) (pc' := 75) mJ_240 (by decide +kernel) (ns_goto (by decide +kernel)) rfl ?_
      obtain ⟨v28, h29, hr⟩ := nk_lte hr
      refine nk_p (i := .iinc 4 1) (len := 3) (pc' := 78) mJ_240 (by decide +kernel) (ns_iinc (c := 1) (L' := [(4, nk_i v28), (0, nk_r l0), (1, nk_r l1), (2, nk_i l2), (3, nk_i l3)]) 4 rfl (by decide +kernel) h29 rfl (by decide +kernel)) rfl ?_
      refine nk_p (i := .goto (-73)) (len := 3) (pc' := 5) mJ_240 (by decide +kernel) (ns_goto (by decide +kernel)) rfl ?_
      refine nk_sub [1, 2, 3, 4, 0] (L' := [(0, nk_r l0), (1, nk_r l1), (2, nk_i l2), (3, nk_i l3), (4, nk_i v28)]) rfl ?_
      exact hrec5 _ _ _ _ _ _ _ t_l0 t_l1 hr
noncomputable def ja_X13_typesOn_L5 : Nat → Nat → Nat → Int → Int → Int → nk_S → Option (Int × nk_S)
  | 0, _, _, _, _, _, _ => none
  | n + 1, l0, l1, l2, l3, l4, S => ja_X13_typesOn_b5 (ja_X13_typesOn_L5 n) l0 l1 l2 l3 l4 S
theorem ja_X13_typesOn_L5_ok (zs : List Int32) : ∀ n : Nat, ∀ (l0 : Nat) (l1 : Nat) (l2 : Int) (l3 : Int) (l4 : Int) (S : nk_S) (R : Int × nk_S), nk_cl ja_Tt l0 = some 13 → nk_cl ja_Tt l1 = some 12 → ja_X13_typesOn_L5 n l0 l1 l2 l3 l4 S = some R → nk_K ja_Tt mi_Γ (mi_ev zs) 1 240 5 [(0, nk_r l0), (1, nk_r l1), (2, nk_i l2), (3, nk_i l3), (4, nk_i l4)] [] S R := by
  intro n
  induction n with
  | zero => intro _ _ _ _ _ _ _ _ _ hr; cases hr
  | succ n ih => intro l0 l1 l2 l3 l4 S R t_l0 t_l1 hr; exact ja_X13_typesOn_b5_ok zs ih l0 l1 l2 l3 l4 S R t_l0 t_l1 hr
noncomputable def ja_X13_typesOn (l0 : Nat) (l1 : Nat) (l2 : Int) (S : nk_S) : Option (Int × nk_S) :=
  ja_X13_typesOn_L5 nk_big l0 l1 l2 0 0 S
theorem ja_X13_typesOn_ok (zs : List Int32) : ∀ (l0 : Nat) (l1 : Nat) (l2 : Int) (S : nk_S) (R : Int × nk_S), nk_cl ja_Tt l0 = some 13 → nk_cl ja_Tt l1 = some 12 → ja_X13_typesOn l0 l1 l2 S = some R → nk_K ja_Tt mi_Γ (mi_ev zs) 1 240 0 [(0, nk_r l0), (1, nk_r l1), (2, nk_i l2)] [] S R := by
  intro l0 l1 l2 S R t_l0 t_l1 hr
  unfold ja_X13_typesOn at hr
  refine nk_p (i := .iconst 0) (len := 1) (pc' := 1) mJ_240 (by decide +kernel) (ns_iconst (c := 0) (by decide +kernel)) rfl ?_
  refine nk_p (i := .istore_n 3) (len := 1) (pc' := 2) mJ_240 (by decide +kernel) (ns_istore_n (L' := [(3, nk_i 0), (0, nk_r l0), (1, nk_r l1), (2, nk_i l2)]) rfl rfl rfl (by decide +kernel)) rfl ?_
  refine nk_p (i := .iconst 0) (len := 1) (pc' := 3) mJ_240 (by decide +kernel) (ns_iconst (c := 0) (by decide +kernel)) rfl ?_
  refine nk_p (i := .istore 4) (len := 2) (pc' := 5) mJ_240 (by decide +kernel) (ns_istore (L' := [(4, nk_i 0), (3, nk_i 0), (0, nk_r l0), (1, nk_r l1), (2, nk_i l2)]) rfl rfl (by decide +kernel)) rfl ?_
  refine nk_sub [2, 3, 4, 1, 0] (L' := [(0, nk_r l0), (1, nk_r l1), (2, nk_i l2), (3, nk_i 0), (4, nk_i 0)]) rfl ?_
  exact ja_X13_typesOn_L5_ok zs nk_big _ _ _ _ _ _ _ t_l0 t_l1 hr
/-! SafeCodeModel isReferenceType (I)Z -/
noncomputable def ja_X13_isReferenceType (l0 : Int) (S : nk_S) : Option (Int × nk_S) :=
  if l0 = 1 then
    some (1, S)
  else
    if l0 < 8 then
      some (0, S)
    else
      some (1, S)
theorem ja_X13_isReferenceType_ok (zs : List Int32) : ∀ (l0 : Int) (S : nk_S) (R : Int × nk_S), ja_X13_isReferenceType l0 S = some R → nk_K ja_Tt mi_Γ (mi_ev zs) 1 158 0 [(0, nk_i l0)] [] S R := by
  intro l0 S R hr
  unfold ja_X13_isReferenceType at hr
  refine nk_p (i := .iload_n 0) (len := 1) (pc' := 1) mJ_158 (by decide +kernel) (ns_iload_n 0 rfl rfl) rfl ?_
  refine nk_p (i := .iconst 1) (len := 1) (pc' := 2) mJ_158 (by decide +kernel) (ns_iconst (c := 1) (by decide +kernel)) rfl ?_
  refine nk_icmp (c := .eq) (off := 9) (len := 3) (t := 11) (pc' := 5) mJ_158 (by decide +kernel) (by decide +kernel) rfl (fun hc => ?_) (fun hc => ?_)
  · have hr := nk_ifp (c := l0 = 1) hc hr
    refine nk_p (i := .iconst 1) (len := 1) (pc' := 12) mJ_158 (by decide +kernel) (ns_iconst (c := 1) (by decide +kernel)) rfl ?_
    refine nk_p (i := .goto 4) (len := 3) (pc' := 16) mJ_158 (by decide +kernel) (ns_goto (by decide +kernel)) rfl ?_
    cases hr
    exact nk_iret (ty := .boolean) (len := 1) mJ_158 (by decide +kernel) rfl (nk_nar_z (by decide))
  · have hr := nk_ifn (c := l0 = 1) hc hr
    refine nk_p (i := .iload_n 0) (len := 1) (pc' := 6) mJ_158 (by decide +kernel) (ns_iload_n 0 rfl rfl) rfl ?_
    refine nk_p (i := .bipush 8) (len := 2) (pc' := 8) mJ_158 (by decide +kernel) (ns_bipush (c := 8) (by decide +kernel)) rfl ?_
    refine nk_icmp (c := .lt) (off := 7) (len := 3) (t := 15) (pc' := 11) mJ_158 (by decide +kernel) (by decide +kernel) rfl (fun hc => ?_) (fun hc => ?_)
    · have hr := nk_ifp (c := l0 < 8) hc hr
      refine nk_p (i := .iconst 0) (len := 1) (pc' := 16) mJ_158 (by decide +kernel) (ns_iconst (c := 0) (by decide +kernel)) rfl ?_
      cases hr
      exact nk_iret (ty := .boolean) (len := 1) mJ_158 (by decide +kernel) rfl (nk_nar_z (by decide))
    · have hr := nk_ifn (c := l0 < 8) hc hr
      refine nk_p (i := .iconst 1) (len := 1) (pc' := 12) mJ_158 (by decide +kernel) (ns_iconst (c := 1) (by decide +kernel)) rfl ?_
      refine nk_p (i := .goto 4) (len := 3) (pc' := 16) mJ_158 (by decide +kernel) (ns_goto (by decide +kernel)) rfl ?_
      cases hr
      exact nk_iret (ty := .boolean) (len := 1) mJ_158 (by decide +kernel) rfl (nk_nar_z (by decide))
/-! SafeCodeModel isArrayType (I)Z -/
noncomputable def ja_X13_isArrayType (l0 : Int) (S : nk_S) : Option (Int × nk_S) :=
  if l0 < 40 then
    some (0, S)
  else
    some (1, S)
theorem ja_X13_isArrayType_ok (zs : List Int32) : ∀ (l0 : Int) (S : nk_S) (R : Int × nk_S), ja_X13_isArrayType l0 S = some R → nk_K ja_Tt mi_Γ (mi_ev zs) 1 140 0 [(0, nk_i l0)] [] S R := by
  intro l0 S R hr
  unfold ja_X13_isArrayType at hr
  refine nk_p (i := .iload_n 0) (len := 1) (pc' := 1) mJ_140 (by decide +kernel) (ns_iload_n 0 rfl rfl) rfl ?_
  refine nk_p (i := .bipush 40) (len := 2) (pc' := 3) mJ_140 (by decide +kernel) (ns_bipush (c := 40) (by decide +kernel)) rfl ?_
  refine nk_icmp (c := .lt) (off := 7) (len := 3) (t := 10) (pc' := 6) mJ_140 (by decide +kernel) (by decide +kernel) rfl (fun hc => ?_) (fun hc => ?_)
  · have hr := nk_ifp (c := l0 < 40) hc hr
    refine nk_p (i := .iconst 0) (len := 1) (pc' := 11) mJ_140 (by decide +kernel) (ns_iconst (c := 0) (by decide +kernel)) rfl ?_
    cases hr
    exact nk_iret (ty := .boolean) (len := 1) mJ_140 (by decide +kernel) rfl (nk_nar_z (by decide))
  · have hr := nk_ifn (c := l0 < 40) hc hr
    refine nk_p (i := .iconst 1) (len := 1) (pc' := 7) mJ_140 (by decide +kernel) (ns_iconst (c := 1) (by decide +kernel)) rfl ?_
    refine nk_p (i := .goto 4) (len := 3) (pc' := 11) mJ_140 (by decide +kernel) (ns_goto (by decide +kernel)) rfl ?_
    cases hr
    exact nk_iret (ty := .boolean) (len := 1) mJ_140 (by decide +kernel) rfl (nk_nar_z (by decide))
/-! SafeCodeModel isElement (LSafeCodeModel$Program;II)Z -/
noncomputable def ja_X13_isElement (l0 : Nat) (l1 : Int) (l2 : Int) (S : nk_S) : Option (Int × nk_S) :=
  if l1 = 1 then
    if l2 = 2 then
      some (0, S)
    else
      some (1, S)
  else
    nk_bd (ja_X13_isArrayType l1 S) fun r1 S2 =>
    if r1 = 0 then
      some (0, S2)
    else
      nk_bd (ja_X13_elementOf l1 S2) fun r4 S5 =>
      nk_bd (ja_X13_isBelow l0 l2 r4 S5) fun r7 S8 =>
      if r7 = 0 then
        some (0, S8)
      else
        some (1, S8)
theorem ja_X13_isElement_ok (zs : List Int32) : ∀ (l0 : Nat) (l1 : Int) (l2 : Int) (S : nk_S) (R : Int × nk_S), nk_cl ja_Tt l0 = some 12 → ja_X13_isElement l0 l1 l2 S = some R → nk_K ja_Tt mi_Γ (mi_ev zs) 1 147 0 [(0, nk_r l0), (1, nk_i l1), (2, nk_i l2)] [] S R := by
  intro l0 l1 l2 S R t_l0 hr
  unfold ja_X13_isElement at hr
  refine nk_p (i := .iload_n 1) (len := 1) (pc' := 1) mJ_147 (by decide +kernel) (ns_iload_n 1 rfl rfl) rfl ?_
  refine nk_p (i := .iconst 1) (len := 1) (pc' := 2) mJ_147 (by decide +kernel) (ns_iconst (c := 1) (by decide +kernel)) rfl ?_
  refine nk_icmp (c := .ne) (off := 14) (len := 3) (t := 16) (pc' := 5) mJ_147 (by decide +kernel) (by decide +kernel) rfl (fun hc => ?_) (fun hc => ?_)
  · have hr := nk_ifn (c := l1 = 1) hc hr
    refine nk_p (i := .iload_n 1) (len := 1) (pc' := 17) mJ_147 (by decide +kernel) (ns_iload_n 1 rfl rfl) rfl ?_
    obtain ⟨r1, S2, h3, hr⟩ := nk_bde hr
    refine nk_callS (ci := 0) (n := 1) (x := 520) (len := 3) (j' := 140) (q' := 1) (r := r1) (S' := S2) (L2 := [(0, nk_i l1)]) (rest := []) (st' := [nk_i r1]) (pc' := 20) mJ_147 (by decide +kernel) (by decide +kernel) (Nat.le_of_ble_eq_true rfl) rfl rfl (Nat.le_of_ble_eq_true rfl) mJ_140 (Nat.le_of_ble_eq_true rfl) ja_Tpos rfl (ja_X13_isArrayType_ok zs _ _ _ h3) rfl ?_
    refine nk_icond (c := .eq) (off := 19) (len := 3) (t := 39) (pc' := 23) mJ_147 (by decide +kernel) (by decide +kernel) rfl (fun hc => ?_) (fun hc => ?_)
    · have hr := nk_ifp (c := r1 = 0) hc hr
      refine nk_p (i := .iconst 0) (len := 1) (pc' := 40) mJ_147 (by decide +kernel) (ns_iconst (c := 0) (by decide +kernel)) rfl ?_
      cases hr
      exact nk_iret (ty := .boolean) (len := 1) mJ_147 (by decide +kernel) rfl (nk_nar_z (by decide))
    · have hr := nk_ifn (c := r1 = 0) hc hr
      refine nk_p (i := .aload_n 0) (len := 1) (pc' := 24) mJ_147 (by decide +kernel) (ns_aload_n 0 rfl rfl) rfl ?_
      refine nk_p (i := .iload_n 2) (len := 1) (pc' := 25) mJ_147 (by decide +kernel) (ns_iload_n 2 rfl rfl) rfl ?_
      refine nk_p (i := .iload_n 1) (len := 1) (pc' := 26) mJ_147 (by decide +kernel) (ns_iload_n 1 rfl rfl) rfl ?_
      obtain ⟨r4, S5, h6, hr⟩ := nk_bde hr
      refine nk_callS (ci := 0) (n := 1) (x := 514) (len := 3) (j' := 108) (q' := 1) (r := r4) (S' := S5) (L2 := [(0, nk_i l1)]) (rest := [nk_i l2, nk_r l0]) (st' := [nk_i r4, nk_i l2, nk_r l0]) (pc' := 29) mJ_147 (by decide +kernel) (by decide +kernel) (Nat.le_of_ble_eq_true rfl) rfl rfl (Nat.le_of_ble_eq_true rfl) mJ_108 (Nat.le_of_ble_eq_true rfl) ja_Tpos rfl (ja_X13_elementOf_ok zs _ _ _ h6) rfl ?_
      obtain ⟨r7, S8, h9, hr⟩ := nk_bde hr
      refine nk_callS (ci := 0) (n := 3) (x := 486) (len := 3) (j' := 143) (q' := 1) (r := r7) (S' := S8) (L2 := [(0, nk_r l0), (1, nk_i l2), (2, nk_i r4)]) (rest := []) (st' := [nk_i r7]) (pc' := 32) mJ_147 (by decide +kernel) (by decide +kernel) (Nat.le_of_ble_eq_true rfl) rfl rfl (Nat.le_of_ble_eq_true rfl) mJ_143 (Nat.le_of_ble_eq_true rfl) ja_Tpos rfl (ja_X13_isBelow_ok zs _ _ _ _ _ t_l0 h9) rfl ?_
      refine nk_icond (c := .eq) (off := 7) (len := 3) (t := 39) (pc' := 35) mJ_147 (by decide +kernel) (by decide +kernel) rfl (fun hc => ?_) (fun hc => ?_)
      · have hr := nk_ifp (c := r7 = 0) hc hr
        refine nk_p (i := .iconst 0) (len := 1) (pc' := 40) mJ_147 (by decide +kernel) (ns_iconst (c := 0) (by decide +kernel)) rfl ?_
        cases hr
        exact nk_iret (ty := .boolean) (len := 1) mJ_147 (by decide +kernel) rfl (nk_nar_z (by decide))
      · have hr := nk_ifn (c := r7 = 0) hc hr
        refine nk_p (i := .iconst 1) (len := 1) (pc' := 36) mJ_147 (by decide +kernel) (ns_iconst (c := 1) (by decide +kernel)) rfl ?_
        refine nk_p (i := .goto 4) (len := 3) (pc' := 40) mJ_147 (by decide +kernel) (ns_goto (by decide +kernel)) rfl ?_
        cases hr
        exact nk_iret (ty := .boolean) (len := 1) mJ_147 (by decide +kernel) rfl (nk_nar_z (by decide))
  · have hr := nk_ifp (c := l1 = 1) (Decidable.of_not_not hc) hr
    refine nk_p (i := .iload_n 2) (len := 1) (pc' := 6) mJ_147 (by decide +kernel) (ns_iload_n 2 rfl rfl) rfl ?_
    refine nk_p (i := .iconst 2) (len := 1) (pc' := 7) mJ_147 (by decide +kernel) (ns_iconst (c := 2) (by decide +kernel)) rfl ?_
    refine nk_icmp (c := .eq) (off := 7) (len := 3) (t := 14) (pc' := 10) mJ_147 (by decide +kernel) (by decide +kernel) rfl (fun hc => ?_) (fun hc => ?_)
    · have hr := nk_ifp (c := l2 = 2) hc hr
      refine nk_p (i := .iconst 0) (len := 1) (pc' := 15) mJ_147 (by decide +kernel) (ns_iconst (c := 0) (by decide +kernel)) rfl ?_
      cases hr
      exact nk_iret (ty := .boolean) (len := 1) mJ_147 (by decide +kernel) rfl (nk_nar_z (by decide))
    · have hr := nk_ifn (c := l2 = 2) hc hr
      refine nk_p (i := .iconst 1) (len := 1) (pc' := 11) mJ_147 (by decide +kernel) (ns_iconst (c := 1) (by decide +kernel)) rfl ?_
      refine nk_p (i := .goto 4) (len := 3) (pc' := 15) mJ_147 (by decide +kernel) (ns_goto (by decide +kernel)) rfl ?_
      cases hr
      exact nk_iret (ty := .boolean) (len := 1) mJ_147 (by decide +kernel) rfl (nk_nar_z (by decide))
/-! SafeCodeModel fits (LSafeCodeModel$Program;I)Z -/
noncomputable def ja_X13_fits_b572 (l6 : Int) (l7 : Int) (S : nk_S) : Option (Int × nk_S) :=
  if l6 = 0 then
    if l7 = 0 then
      some (1, S)
    else
      some (0, S)
  else
    some (0, S)
theorem ja_X13_fits_b572_ok (zs : List Int32) : ∀ (l6 : Int) (l7 : Int) (S : nk_S) (R : Int × nk_S), ja_X13_fits_b572 l6 l7 S = some R → nk_K ja_Tt mi_Γ (mi_ev zs) 1 124 572 [(6, nk_i l6), (7, nk_i l7)] [] S R := by
  intro l6 l7 S R hr
  unfold ja_X13_fits_b572 at hr
  refine nk_p (i := .iload 6) (len := 2) (pc' := 574) mJ_124 (by decide +kernel) (ns_iload 0 rfl) rfl ?_
  refine nk_icond (c := .ne) (off := 12) (len := 3) (t := 586) (pc' := 577) mJ_124 (by decide +kernel) (by decide +kernel) rfl (fun hc => ?_) (fun hc => ?_)
  · have hr := nk_ifn (c := l6 = 0) hc hr
    refine nk_p (i := .iconst 0) (len := 1) (pc' := 587) mJ_124 (by decide +kernel) (ns_iconst (c := 0) (by decide +kernel)) rfl ?_
    cases hr
    exact nk_iret (ty := .boolean) (len := 1) mJ_124 (by decide +kernel) rfl (nk_nar_z (by decide))
  · have hr := nk_ifp (c := l6 = 0) (Decidable.of_not_not hc) hr
    refine nk_p (i := .iload 7) (len := 2) (pc' := 579) mJ_124 (by decide +kernel) (ns_iload 1 rfl) rfl ?_
    refine nk_icond (c := .ne) (off := 7) (len := 3) (t := 586) (pc' := 582) mJ_124 (by decide +kernel) (by decide +kernel) rfl (fun hc => ?_) (fun hc => ?_)
    · have hr := nk_ifn (c := l7 = 0) hc hr
      refine nk_p (i := .iconst 0) (len := 1) (pc' := 587) mJ_124 (by decide +kernel) (ns_iconst (c := 0) (by decide +kernel)) rfl ?_
      cases hr
      exact nk_iret (ty := .boolean) (len := 1) mJ_124 (by decide +kernel) rfl (nk_nar_z (by decide))
    · have hr := nk_ifp (c := l7 = 0) (Decidable.of_not_not hc) hr
      refine nk_p (i := .iconst 1) (len := 1) (pc' := 583) mJ_124 (by decide +kernel) (ns_iconst (c := 1) (by decide +kernel)) rfl ?_
      refine nk_p (i := .goto 4) (len := 3) (pc' := 587) mJ_124 (by decide +kernel) (ns_goto (by decide +kernel)) rfl ?_
      cases hr
      exact nk_iret (ty := .boolean) (len := 1) mJ_124 (by decide +kernel) rfl (nk_nar_z (by decide))
noncomputable def ja_X13_fits_b560 (l3 : Int) (l6 : Int) (l7 : Int) (S : nk_S) : Option (Int × nk_S) :=
  if l3 < 20 then
    some (1, S)
  else
    if 25 < l3 then
      some (1, S)
    else
      ja_X13_fits_b572 l6 l7 S
theorem ja_X13_fits_b560_ok (zs : List Int32) : ∀ (l3 : Int) (l6 : Int) (l7 : Int) (S : nk_S) (R : Int × nk_S), ja_X13_fits_b560 l3 l6 l7 S = some R → nk_K ja_Tt mi_Γ (mi_ev zs) 1 124 560 [(3, nk_i l3), (6, nk_i l6), (7, nk_i l7)] [] S R := by
  intro l3 l6 l7 S R hr
  unfold ja_X13_fits_b560 at hr
  refine nk_p (i := .iload_n 3) (len := 1) (pc' := 561) mJ_124 (by decide +kernel) (ns_iload_n 0 rfl rfl) rfl ?_
  refine nk_p (i := .bipush 20) (len := 2) (pc' := 563) mJ_124 (by decide +kernel) (ns_bipush (c := 20) (by decide +kernel)) rfl ?_
  refine nk_icmp (c := .lt) (off := 19) (len := 3) (t := 582) (pc' := 566) mJ_124 (by decide +kernel) (by decide +kernel) rfl (fun hc => ?_) (fun hc => ?_)
  · have hr := nk_ifp (c := l3 < 20) hc hr
    refine nk_p (i := .iconst 1) (len := 1) (pc' := 583) mJ_124 (by decide +kernel) (ns_iconst (c := 1) (by decide +kernel)) rfl ?_
    refine nk_p (i := .goto 4) (len := 3) (pc' := 587) mJ_124 (by decide +kernel) (ns_goto (by decide +kernel)) rfl ?_
    cases hr
    exact nk_iret (ty := .boolean) (len := 1) mJ_124 (by decide +kernel) rfl (nk_nar_z (by decide))
  · have hr := nk_ifn (c := l3 < 20) hc hr
    refine nk_p (i := .iload_n 3) (len := 1) (pc' := 567) mJ_124 (by decide +kernel) (ns_iload_n 0 rfl rfl) rfl ?_
    refine nk_p (i := .bipush 25) (len := 2) (pc' := 569) mJ_124 (by decide +kernel) (ns_bipush (c := 25) (by decide +kernel)) rfl ?_
    refine nk_icmp (c := .gt) (off := 13) (len := 3) (t := 582) (pc' := 572) mJ_124 (by decide +kernel) (by decide +kernel) rfl (fun hc => ?_) (fun hc => ?_)
    · have hr := nk_ifp (c := 25 < l3) hc hr
      refine nk_p (i := .iconst 1) (len := 1) (pc' := 583) mJ_124 (by decide +kernel) (ns_iconst (c := 1) (by decide +kernel)) rfl ?_
      refine nk_p (i := .goto 4) (len := 3) (pc' := 587) mJ_124 (by decide +kernel) (ns_goto (by decide +kernel)) rfl ?_
      cases hr
      exact nk_iret (ty := .boolean) (len := 1) mJ_124 (by decide +kernel) rfl (nk_nar_z (by decide))
    · have hr := nk_ifn (c := 25 < l3) hc hr
      refine nk_sub [1, 2] (L' := [(6, nk_i l6), (7, nk_i l7)]) rfl ?_
      exact ja_X13_fits_b572_ok zs _ _ _ _ hr
noncomputable def ja_X13_fits_b548 (l3 : Int) (l6 : Int) (l7 : Int) (S : nk_S) : Option (Int × nk_S) :=
  if l3 < 8 then
    ja_X13_fits_b560 l3 l6 l7 S
  else
    if l3 ≤ 17 then
      ja_X13_fits_b572 l6 l7 S
    else
      ja_X13_fits_b560 l3 l6 l7 S
theorem ja_X13_fits_b548_ok (zs : List Int32) : ∀ (l3 : Int) (l6 : Int) (l7 : Int) (S : nk_S) (R : Int × nk_S), ja_X13_fits_b548 l3 l6 l7 S = some R → nk_K ja_Tt mi_Γ (mi_ev zs) 1 124 548 [(3, nk_i l3), (6, nk_i l6), (7, nk_i l7)] [] S R := by
  intro l3 l6 l7 S R hr
  unfold ja_X13_fits_b548 at hr
  refine nk_p (i := .iload_n 3) (len := 1) (pc' := 549) mJ_124 (by decide +kernel) (ns_iload_n 0 rfl rfl) rfl ?_
  refine nk_p (i := .bipush 8) (len := 2) (pc' := 551) mJ_124 (by decide +kernel) (ns_bipush (c := 8) (by decide +kernel)) rfl ?_
  refine nk_icmp (c := .lt) (off := 9) (len := 3) (t := 560) (pc' := 554) mJ_124 (by decide +kernel) (by decide +kernel) rfl (fun hc => ?_) (fun hc => ?_)
  · have hr := nk_ifp (c := l3 < 8) hc hr
    exact ja_X13_fits_b560_ok zs _ _ _ _ _ hr
  · have hr := nk_ifn (c := l3 < 8) hc hr
    refine nk_p (i := .iload_n 3) (len := 1) (pc' := 555) mJ_124 (by decide +kernel) (ns_iload_n 0 rfl rfl) rfl ?_
    refine nk_p (i := .bipush 17) (len := 2) (pc' := 557) mJ_124 (by decide +kernel) (ns_bipush (c := 17) (by decide +kernel)) rfl ?_
    refine nk_icmp (c := .le) (off := 15) (len := 3) (t := 572) (pc' := 560) mJ_124 (by decide +kernel) (by decide +kernel) rfl (fun hc => ?_) (fun hc => ?_)
    · have hr := nk_ifp (c := l3 ≤ 17) hc hr
      refine nk_sub [1, 2] (L' := [(6, nk_i l6), (7, nk_i l7)]) rfl ?_
      exact ja_X13_fits_b572_ok zs _ _ _ _ hr
    · have hr := nk_ifn (c := l3 ≤ 17) hc hr
      exact ja_X13_fits_b560_ok zs _ _ _ _ _ hr
noncomputable def ja_X13_fits_b325 (l6 : Int) (S : nk_S) : Option (Int × nk_S) :=
  if l6 = 0 then
    some (1, S)
  else
    some (0, S)
theorem ja_X13_fits_b325_ok (zs : List Int32) : ∀ (l6 : Int) (S : nk_S) (R : Int × nk_S), ja_X13_fits_b325 l6 S = some R → nk_K ja_Tt mi_Γ (mi_ev zs) 1 124 325 [(6, nk_i l6)] [] S R := by
  intro l6 S R hr
  unfold ja_X13_fits_b325 at hr
  refine nk_p (i := .iload 6) (len := 2) (pc' := 327) mJ_124 (by decide +kernel) (ns_iload 0 rfl) rfl ?_
  refine nk_icond (c := .ne) (off := 7) (len := 3) (t := 334) (pc' := 330) mJ_124 (by decide +kernel) (by decide +kernel) rfl (fun hc => ?_) (fun hc => ?_)
  · have hr := nk_ifn (c := l6 = 0) hc hr
    refine nk_p (i := .iconst 0) (len := 1) (pc' := 335) mJ_124 (by decide +kernel) (ns_iconst (c := 0) (by decide +kernel)) rfl ?_
    cases hr
    exact nk_iret (ty := .boolean) (len := 1) mJ_124 (by decide +kernel) rfl (nk_nar_z (by decide))
  · have hr := nk_ifp (c := l6 = 0) (Decidable.of_not_not hc) hr
    refine nk_p (i := .iconst 1) (len := 1) (pc' := 331) mJ_124 (by decide +kernel) (ns_iconst (c := 1) (by decide +kernel)) rfl ?_
    refine nk_p (i := .goto 4) (len := 3) (pc' := 335) mJ_124 (by decide +kernel) (ns_goto (by decide +kernel)) rfl ?_
    cases hr
    exact nk_iret (ty := .boolean) (len := 1) mJ_124 (by decide +kernel) rfl (nk_nar_z (by decide))
noncomputable def ja_X13_fits_b297 (l6 : Int) (S : nk_S) : Option (Int × nk_S) :=
  nk_bd (ja_X13_isReferenceType l6 S) fun r1 S2 =>
  if r1 = 0 ∨ r1 = 1 then
  some (r1, S2)
  else none
theorem ja_X13_fits_b297_ok (zs : List Int32) : ∀ (l6 : Int) (S : nk_S) (R : Int × nk_S), ja_X13_fits_b297 l6 S = some R → nk_K ja_Tt mi_Γ (mi_ev zs) 1 124 297 [(6, nk_i l6)] [] S R := by
  intro l6 S R hr
  unfold ja_X13_fits_b297 at hr
  refine nk_p (i := .iload 6) (len := 2) (pc' := 299) mJ_124 (by decide +kernel) (ns_iload 0 rfl) rfl ?_
  obtain ⟨r1, S2, h3, hr⟩ := nk_bde hr
  refine nk_callS (ci := 0) (n := 1) (x := 517) (len := 3) (j' := 158) (q' := 1) (r := r1) (S' := S2) (L2 := [(0, nk_i l6)]) (rest := []) (st' := [nk_i r1]) (pc' := 302) mJ_124 (by decide +kernel) (by decide +kernel) (Nat.le_of_ble_eq_true rfl) rfl rfl (Nat.le_of_ble_eq_true rfl) mJ_158 (Nat.le_of_ble_eq_true rfl) ja_Tpos rfl (ja_X13_isReferenceType_ok zs _ _ _ h3) rfl ?_
  obtain ⟨h4, hr⟩ := nk_cke hr
  cases hr
  exact nk_iret (ty := .boolean) (len := 1) mJ_124 (by decide +kernel) rfl (nk_nar_z h4)
noncomputable def ja_X13_fits_b303 (l6 : Int) (l7 : Int) (S : nk_S) : Option (Int × nk_S) :=
  nk_bd (ja_X13_isReferenceType l6 S) fun r1 S2 =>
  if r1 = 0 then
    some (0, S2)
  else
    nk_bd (ja_X13_isReferenceType l7 S2) fun r4 S5 =>
    if r4 = 0 then
      some (0, S5)
    else
      some (1, S5)
theorem ja_X13_fits_b303_ok (zs : List Int32) : ∀ (l6 : Int) (l7 : Int) (S : nk_S) (R : Int × nk_S), ja_X13_fits_b303 l6 l7 S = some R → nk_K ja_Tt mi_Γ (mi_ev zs) 1 124 303 [(6, nk_i l6), (7, nk_i l7)] [] S R := by
  intro l6 l7 S R hr
  unfold ja_X13_fits_b303 at hr
  refine nk_p (i := .iload 6) (len := 2) (pc' := 305) mJ_124 (by decide +kernel) (ns_iload 0 rfl) rfl ?_
  obtain ⟨r1, S2, h3, hr⟩ := nk_bde hr
  refine nk_callS (ci := 0) (n := 1) (x := 517) (len := 3) (j' := 158) (q' := 1) (r := r1) (S' := S2) (L2 := [(0, nk_i l6)]) (rest := []) (st' := [nk_i r1]) (pc' := 308) mJ_124 (by decide +kernel) (by decide +kernel) (Nat.le_of_ble_eq_true rfl) rfl rfl (Nat.le_of_ble_eq_true rfl) mJ_158 (Nat.le_of_ble_eq_true rfl) ja_Tpos rfl (ja_X13_isReferenceType_ok zs _ _ _ h3) rfl ?_
  refine nk_icond (c := .eq) (off := 15) (len := 3) (t := 323) (pc' := 311) mJ_124 (by decide +kernel) (by decide +kernel) rfl (fun hc => ?_) (fun hc => ?_)
  · have hr := nk_ifp (c := r1 = 0) hc hr
    refine nk_p (i := .iconst 0) (len := 1) (pc' := 324) mJ_124 (by decide +kernel) (ns_iconst (c := 0) (by decide +kernel)) rfl ?_
    cases hr
    exact nk_iret (ty := .boolean) (len := 1) mJ_124 (by decide +kernel) rfl (nk_nar_z (by decide))
  · have hr := nk_ifn (c := r1 = 0) hc hr
    refine nk_p (i := .iload 7) (len := 2) (pc' := 313) mJ_124 (by decide +kernel) (ns_iload 1 rfl) rfl ?_
    obtain ⟨r4, S5, h6, hr⟩ := nk_bde hr
    refine nk_callS (ci := 0) (n := 1) (x := 517) (len := 3) (j' := 158) (q' := 1) (r := r4) (S' := S5) (L2 := [(0, nk_i l7)]) (rest := []) (st' := [nk_i r4]) (pc' := 316) mJ_124 (by decide +kernel) (by decide +kernel) (Nat.le_of_ble_eq_true rfl) rfl rfl (Nat.le_of_ble_eq_true rfl) mJ_158 (Nat.le_of_ble_eq_true rfl) ja_Tpos rfl (ja_X13_isReferenceType_ok zs _ _ _ h6) rfl ?_
    refine nk_icond (c := .eq) (off := 7) (len := 3) (t := 323) (pc' := 319) mJ_124 (by decide +kernel) (by decide +kernel) rfl (fun hc => ?_) (fun hc => ?_)
    · have hr := nk_ifp (c := r4 = 0) hc hr
      refine nk_p (i := .iconst 0) (len := 1) (pc' := 324) mJ_124 (by decide +kernel) (ns_iconst (c := 0) (by decide +kernel)) rfl ?_
      cases hr
      exact nk_iret (ty := .boolean) (len := 1) mJ_124 (by decide +kernel) rfl (nk_nar_z (by decide))
    · have hr := nk_ifn (c := r4 = 0) hc hr
      refine nk_p (i := .iconst 1) (len := 1) (pc' := 320) mJ_124 (by decide +kernel) (ns_iconst (c := 1) (by decide +kernel)) rfl ?_
      refine nk_p (i := .goto 4) (len := 3) (pc' := 324) mJ_124 (by decide +kernel) (ns_goto (by decide +kernel)) rfl ?_
      cases hr
      exact nk_iret (ty := .boolean) (len := 1) mJ_124 (by decide +kernel) rfl (nk_nar_z (by decide))
noncomputable def ja_X13_fits_b468 (l0 : Nat) (l1 : Nat) (l2 : Int) (l4 : Int) (S : nk_S) : Option (Int × nk_S) :=
  nk_bd (ja_X13_areArguments l0 l1 l2 l4 S) fun r1 S2 =>
  if r1 = 0 ∨ r1 = 1 then
  some (r1, S2)
  else none
theorem ja_X13_fits_b468_ok (zs : List Int32) : ∀ (l0 : Nat) (l1 : Nat) (l2 : Int) (l4 : Int) (S : nk_S) (R : Int × nk_S), nk_cl ja_Tt l0 = some 13 → nk_cl ja_Tt l1 = some 12 → ja_X13_fits_b468 l0 l1 l2 l4 S = some R → nk_K ja_Tt mi_Γ (mi_ev zs) 1 124 468 [(0, nk_r l0), (1, nk_r l1), (2, nk_i l2), (4, nk_i l4)] [] S R := by
  intro l0 l1 l2 l4 S R t_l0 t_l1 hr
  unfold ja_X13_fits_b468 at hr
  refine nk_p (i := .aload_n 0) (len := 1) (pc' := 469) mJ_124 (by decide +kernel) (ns_aload_n 0 rfl rfl) rfl ?_
  refine nk_p (i := .aload_n 1) (len := 1) (pc' := 470) mJ_124 (by decide +kernel) (ns_aload_n 1 rfl rfl) rfl ?_
  refine nk_p (i := .iload_n 2) (len := 1) (pc' := 471) mJ_124 (by decide +kernel) (ns_iload_n 2 rfl rfl) rfl ?_
  refine nk_p (i := .iload 4) (len := 2) (pc' := 473) mJ_124 (by decide +kernel) (ns_iload 3 rfl) rfl ?_
  obtain ⟨r1, S2, h3, hr⟩ := nk_bde hr
  refine nk_callV (ci := 13) (n := 3) (x := 526) (len := 3) (j' := 85) (q' := 1) (r := r1) (S' := S2) (L2 := [(0, nk_r l0), (1, nk_r l1), (2, nk_i l2), (3, nk_i l4)]) (rest := []) (st' := [nk_i r1]) (pc' := 476) mJ_124 (by decide +kernel) (by decide +kernel) rfl rfl t_l0 (Nat.le_of_ble_eq_true rfl) mJ_85 (Nat.le_of_ble_eq_true rfl) rfl (ja_X13_areArguments_ok zs _ _ _ _ _ _ t_l0 t_l1 h3) rfl ?_
  obtain ⟨h4, hr⟩ := nk_cke hr
  cases hr
  exact nk_iret (ty := .boolean) (len := 1) mJ_124 (by decide +kernel) rfl (nk_nar_z h4)
noncomputable def ja_X13_fits_b71 (l0 : Nat) (l1 : Nat) (l2 : Int) (l3 : Int) (l4 : Int) (l6 : Int) (s0 : Int) (S : nk_S) : Option (Int × nk_S) :=
  if l3 = 2 then
    if 0 ≤ l4 ∧ l4 < 24 then
    if (S.1 (ja_c l0 24) l4.toNat) = 2 then
      some (0, S)
    else
      some (1, S)
    else none
  else
  if l3 = 3 then
    ja_X13_fits_b548 l3 l6 s0 S
  else
  if l3 = 4 then
    if 0 ≤ l4 ∧ l4 < 24 then
    if (S.1 (ja_c l0 24) l4.toNat) = 0 then
      some (1, S)
    else
      some (0, S)
    else none
  else
  if l3 = 5 then
    ja_X13_fits_b548 l3 l6 s0 S
  else
  if l3 = 6 then
    ja_X13_fits_b548 l3 l6 s0 S
  else
  if l3 = 7 then
    ja_X13_fits_b548 l3 l6 s0 S
  else
  if l3 = 8 then
    ja_X13_fits_b548 l3 l6 s0 S
  else
  if l3 = 9 then
    ja_X13_fits_b548 l3 l6 s0 S
  else
  if l3 = 10 then
    ja_X13_fits_b548 l3 l6 s0 S
  else
  if l3 = 11 then
    ja_X13_fits_b548 l3 l6 s0 S
  else
  if l3 = 12 then
    ja_X13_fits_b548 l3 l6 s0 S
  else
  if l3 = 13 then
    ja_X13_fits_b548 l3 l6 s0 S
  else
  if l3 = 14 then
    ja_X13_fits_b548 l3 l6 s0 S
  else
  if l3 = 15 then
    ja_X13_fits_b548 l3 l6 s0 S
  else
  if l3 = 16 then
    ja_X13_fits_b548 l3 l6 s0 S
  else
  if l3 = 17 then
    ja_X13_fits_b548 l3 l6 s0 S
  else
  if l3 = 18 then
    ja_X13_fits_b325 l6 S
  else
  if l3 = 19 then
    ja_X13_fits_b548 l3 l6 s0 S
  else
  if l3 = 20 then
    ja_X13_fits_b548 l3 l6 s0 S
  else
  if l3 = 21 then
    ja_X13_fits_b548 l3 l6 s0 S
  else
  if l3 = 22 then
    ja_X13_fits_b548 l3 l6 s0 S
  else
  if l3 = 23 then
    ja_X13_fits_b548 l3 l6 s0 S
  else
  if l3 = 24 then
    ja_X13_fits_b548 l3 l6 s0 S
  else
  if l3 = 25 then
    ja_X13_fits_b548 l3 l6 s0 S
  else
  if l3 = 26 then
    ja_X13_fits_b297 l6 S
  else
  if l3 = 27 then
    ja_X13_fits_b297 l6 S
  else
  if l3 = 28 then
    ja_X13_fits_b303 l6 s0 S
  else
  if l3 = 29 then
    ja_X13_fits_b303 l6 s0 S
  else
  if l3 = 30 then
    ja_X13_fits_b548 l3 l6 s0 S
  else
  if l3 = 31 then
    ja_X13_fits_b325 l6 S
  else
  if l3 = 32 then
    if l6 = 1 then
      some (1, S)
    else
      nk_bd (ja_X13_isArrayType l6 S) fun r5 S6 =>
      if r5 = 0 then
        some (0, S6)
      else
        some (1, S6)
  else
  if l3 = 33 then
    if l6 = 0 then
      if s0 = 1 then
        some (1, S)
      else
        nk_bd (ja_X13_isArrayType s0 S) fun r8 S9 =>
        if r8 = 0 then
          some (0, S9)
        else
          some (1, S9)
    else
      some (0, S)
  else
  if l3 = 34 then
    if s0 = 0 then
      if 0 ≤ (nk_w ((S.1 l0 25) - 3)) ∧ (nk_w ((S.1 l0 25) - 3)) < 24 then
      nk_bd (ja_X13_isElement l1 (S.1 (ja_c l0 24) (nk_w ((S.1 l0 25) - 3)).toNat) l6 S) fun r13 S14 =>
      if r13 = 0 then
        some (0, S14)
      else
        some (1, S14)
      else none
    else
      some (0, S)
  else
  if l3 = 35 then
    if 0 ≤ l2 ∧ l2 < 1024 then
    nk_bd (ja_X13_isBelow l1 l6 (nk_w (8 + (S.1 (ja_c l1 24) l2.toNat))) S) fun r18 S19 =>
    if r18 = 0 ∨ r18 = 1 then
    some (r18, S19)
    else none
    else none
  else
  if l3 = 36 then
    if 0 ≤ l2 ∧ l2 < 1024 then
    nk_bd (ja_X13_isBelow l1 s0 (nk_w (8 + (S.1 (ja_c l1 24) l2.toNat))) S) fun r24 S25 =>
    if r24 = 0 then
      some (0, S25)
    else
      if 0 ≤ l4 ∧ l4 < 48 then
      nk_bd (ja_X13_isBelow l1 l6 (S25.1 (ja_c l1 11) l4.toNat) S25) fun r29 S30 =>
      if r29 = 0 then
        some (0, S30)
      else
        some (1, S30)
      else none
    else none
  else
  if l3 = 37 then
    ja_X13_fits_b297 l6 S
  else
  if l3 = 38 then
    ja_X13_fits_b297 l6 S
  else
  if l3 = 39 then
    ja_X13_fits_b468 l0 l1 l2 l4 S
  else
  if l3 = 40 then
    ja_X13_fits_b468 l0 l1 l2 l4 S
  else
  if l3 = 41 then
    nk_bd (ja_X13_isBelow l1 l6 9 S) fun r32 S33 =>
    if r32 = 0 ∨ r32 = 1 then
    some (r32, S33)
    else none
  else
  if l3 = 42 then
    if 0 ≤ l2 ∧ l2 < 1024 then
    if 0 ≤ (S.1 (ja_c l1 25) l2.toNat) ∧ (S.1 (ja_c l1 25) l2.toNat) < 48 then
    if (S.1 (ja_c l1 17) (S.1 (ja_c l1 25) l2.toNat).toNat) = (-1) then
      some (0, S)
    else
      nk_bd (ja_X13_isBelow l1 l6 (S.1 (ja_c l1 17) (S.1 (ja_c l1 25) l2.toNat).toNat) S) fun r40 S41 =>
      if r40 = 0 then
        some (0, S41)
      else
        some (1, S41)
    else none
    else none
  else
  if l3 = 43 then
    if 0 ≤ l2 ∧ l2 < 1024 then
    if 0 ≤ (S.1 (ja_c l1 25) l2.toNat) ∧ (S.1 (ja_c l1 25) l2.toNat) < 48 then
    if (S.1 (ja_c l1 17) (S.1 (ja_c l1 25) l2.toNat).toNat) = (-1) then
      some (1, S)
    else
      some (0, S)
    else none
    else none
  else
  if l3 = 44 then
    ja_X13_fits_b548 l3 l6 s0 S
  else
  if l3 = 45 then
    ja_X13_fits_b325 l6 S
  else
  ja_X13_fits_b548 l3 l6 s0 S
theorem ja_X13_fits_b71_ok (zs : List Int32) : ∀ (l0 : Nat) (l1 : Nat) (l2 : Int) (l3 : Int) (l4 : Int) (l6 : Int) (s0 : Int) (S : nk_S) (R : Int × nk_S), nk_cl ja_Tt l0 = some 13 → nk_cl ja_Tt l1 = some 12 → ja_X13_fits_b71 l0 l1 l2 l3 l4 l6 s0 S = some R → nk_K ja_Tt mi_Γ (mi_ev zs) 1 124 71 [(0, nk_r l0), (1, nk_r l1), (2, nk_i l2), (3, nk_i l3), (4, nk_i l4), (6, nk_i l6)] [nk_i s0] S R := by
  intro l0 l1 l2 l3 l4 l6 s0 S R t_l0 t_l1 hr
  unfold ja_X13_fits_b71 at hr
  refine nk_p (i := .istore 7) (len := 2) (pc' := 73) mJ_124 (by decide +kernel) (ns_istore (L' := [(7, nk_i s0), (0, nk_r l0), (1, nk_r l1), (2, nk_i l2), (3, nk_i l3), (4, nk_i l4), (6, nk_i l6)]) rfl rfl (by decide +kernel)) rfl ?_
  refine nk_p (i := .iload_n 3) (len := 1) (pc' := 74) mJ_124 (by decide +kernel) (ns_iload_n 4 rfl rfl) rfl ?_
  by_cases hc0 : l3 = 2
  · have hr := nk_ifp hc0 hr
    refine nk_p (i := .tableswitch 474 2 45 #[190, 474, 207, 474, 474, 474, 474, 474, 474, 474, 474, 474, 474, 474, 474, 474, 251, 474, 474, 474, 474, 474, 474, 474, 223, 223, 229, 229, 474, 251, 262, 282, 307, 338, 354, 223, 223, 394, 394, 403, 412, 453, 474, 251]) (len := 190) (pc' := 264) mJ_124 (by decide +kernel) (ns_tsw (V := 2) hc0 (by decide +kernel)) rfl ?_
    refine nk_p (i := .aload_n 0) (len := 1) (pc' := 265) mJ_124 (by decide +kernel) (ns_aload_n 1 rfl rfl) rfl ?_
    refine nk_getC (f := (4, 1, 24)) (x := 68) (len := 3) (ci := 13) (k := 24) (pc' := 268) ja_okT mJ_124 (by decide +kernel) (by decide +kernel) (by decide +kernel) (by decide) t_l0 rfl ?_
    have t1 : nk_ar ja_Tt (ja_c l0 24) = some (1, 24) := nk_ta ja_okT t_l0 (by decide +kernel)
    refine nk_p (i := .iload 4) (len := 2) (pc' := 270) mJ_124 (by decide +kernel) (ns_iload 5 rfl) rfl ?_
    obtain ⟨h2, hr⟩ := nk_cke hr
    refine nk_iald (len := 1) (N := 24) (pc' := 271) mJ_124 (by decide +kernel) t1 h2.1 h2.2 rfl rfl ?_
    refine nk_p (i := .iconst 2) (len := 1) (pc' := 272) mJ_124 (by decide +kernel) (ns_iconst (c := 2) (by decide +kernel)) rfl ?_
    refine nk_icmp (c := .eq) (off := 7) (len := 3) (t := 279) (pc' := 275) mJ_124 (by decide +kernel) (by decide +kernel) rfl (fun hc => ?_) (fun hc => ?_)
    · have hr := nk_ifp (c := (S.1 (ja_c l0 24) l4.toNat) = 2) hc hr
      refine nk_p (i := .iconst 0) (len := 1) (pc' := 280) mJ_124 (by decide +kernel) (ns_iconst (c := 0) (by decide +kernel)) rfl ?_
      cases hr
      exact nk_iret (ty := .boolean) (len := 1) mJ_124 (by decide +kernel) rfl (nk_nar_z (by decide))
    · have hr := nk_ifn (c := (S.1 (ja_c l0 24) l4.toNat) = 2) hc hr
      refine nk_p (i := .iconst 1) (len := 1) (pc' := 276) mJ_124 (by decide +kernel) (ns_iconst (c := 1) (by decide +kernel)) rfl ?_
      refine nk_p (i := .goto 4) (len := 3) (pc' := 280) mJ_124 (by decide +kernel) (ns_goto (by decide +kernel)) rfl ?_
      cases hr
      exact nk_iret (ty := .boolean) (len := 1) mJ_124 (by decide +kernel) rfl (nk_nar_z (by decide))
  have hr := nk_ifn hc0 hr
  by_cases hc1 : l3 = 3
  · have hr := nk_ifp hc1 hr
    refine nk_p (i := .tableswitch 474 2 45 #[190, 474, 207, 474, 474, 474, 474, 474, 474, 474, 474, 474, 474, 474, 474, 474, 251, 474, 474, 474, 474, 474, 474, 474, 223, 223, 229, 229, 474, 251, 262, 282, 307, 338, 354, 223, 223, 394, 394, 403, 412, 453, 474, 251]) (len := 190) (pc' := 548) mJ_124 (by decide +kernel) (ns_tsw (V := 3) hc1 (by decide +kernel)) rfl ?_
    refine nk_sub [4, 6, 0] (L' := [(3, nk_i l3), (6, nk_i l6), (7, nk_i s0)]) rfl ?_
    exact ja_X13_fits_b548_ok zs _ _ _ _ _ hr
  have hr := nk_ifn hc1 hr
  by_cases hc2 : l3 = 4
  · have hr := nk_ifp hc2 hr
    refine nk_p (i := .tableswitch 474 2 45 #[190, 474, 207, 474, 474, 474, 474, 474, 474, 474, 474, 474, 474, 474, 474, 474, 251, 474, 474, 474, 474, 474, 474, 474, 223, 223, 229, 229, 474, 251, 262, 282, 307, 338, 354, 223, 223, 394, 394, 403, 412, 453, 474, 251]) (len := 190) (pc' := 281) mJ_124 (by decide +kernel) (ns_tsw (V := 4) hc2 (by decide +kernel)) rfl ?_
    refine nk_p (i := .aload_n 0) (len := 1) (pc' := 282) mJ_124 (by decide +kernel) (ns_aload_n 1 rfl rfl) rfl ?_
    refine nk_getC (f := (4, 1, 24)) (x := 68) (len := 3) (ci := 13) (k := 24) (pc' := 285) ja_okT mJ_124 (by decide +kernel) (by decide +kernel) (by decide +kernel) (by decide) t_l0 rfl ?_
    have t3 : nk_ar ja_Tt (ja_c l0 24) = some (1, 24) := nk_ta ja_okT t_l0 (by decide +kernel)
    refine nk_p (i := .iload 4) (len := 2) (pc' := 287) mJ_124 (by decide +kernel) (ns_iload 5 rfl) rfl ?_
    obtain ⟨h4, hr⟩ := nk_cke hr
    refine nk_iald (len := 1) (N := 24) (pc' := 288) mJ_124 (by decide +kernel) t3 h4.1 h4.2 rfl rfl ?_
    refine nk_icond (c := .ne) (off := 7) (len := 3) (t := 295) (pc' := 291) mJ_124 (by decide +kernel) (by decide +kernel) rfl (fun hc => ?_) (fun hc => ?_)
    · have hr := nk_ifn (c := (S.1 (ja_c l0 24) l4.toNat) = 0) hc hr
      refine nk_p (i := .iconst 0) (len := 1) (pc' := 296) mJ_124 (by decide +kernel) (ns_iconst (c := 0) (by decide +kernel)) rfl ?_
      cases hr
      exact nk_iret (ty := .boolean) (len := 1) mJ_124 (by decide +kernel) rfl (nk_nar_z (by decide))
    · have hr := nk_ifp (c := (S.1 (ja_c l0 24) l4.toNat) = 0) (Decidable.of_not_not hc) hr
      refine nk_p (i := .iconst 1) (len := 1) (pc' := 292) mJ_124 (by decide +kernel) (ns_iconst (c := 1) (by decide +kernel)) rfl ?_
      refine nk_p (i := .goto 4) (len := 3) (pc' := 296) mJ_124 (by decide +kernel) (ns_goto (by decide +kernel)) rfl ?_
      cases hr
      exact nk_iret (ty := .boolean) (len := 1) mJ_124 (by decide +kernel) rfl (nk_nar_z (by decide))
  have hr := nk_ifn hc2 hr
  by_cases hc3 : l3 = 5
  · have hr := nk_ifp hc3 hr
    refine nk_p (i := .tableswitch 474 2 45 #[190, 474, 207, 474, 474, 474, 474, 474, 474, 474, 474, 474, 474, 474, 474, 474, 251, 474, 474, 474, 474, 474, 474, 474, 223, 223, 229, 229, 474, 251, 262, 282, 307, 338, 354, 223, 223, 394, 394, 403, 412, 453, 474, 251]) (len := 190) (pc' := 548) mJ_124 (by decide +kernel) (ns_tsw (V := 5) hc3 (by decide +kernel)) rfl ?_
    refine nk_sub [4, 6, 0] (L' := [(3, nk_i l3), (6, nk_i l6), (7, nk_i s0)]) rfl ?_
    exact ja_X13_fits_b548_ok zs _ _ _ _ _ hr
  have hr := nk_ifn hc3 hr
  by_cases hc4 : l3 = 6
  · have hr := nk_ifp hc4 hr
    refine nk_p (i := .tableswitch 474 2 45 #[190, 474, 207, 474, 474, 474, 474, 474, 474, 474, 474, 474, 474, 474, 474, 474, 251, 474, 474, 474, 474, 474, 474, 474, 223, 223, 229, 229, 474, 251, 262, 282, 307, 338, 354, 223, 223, 394, 394, 403, 412, 453, 474, 251]) (len := 190) (pc' := 548) mJ_124 (by decide +kernel) (ns_tsw (V := 6) hc4 (by decide +kernel)) rfl ?_
    refine nk_sub [4, 6, 0] (L' := [(3, nk_i l3), (6, nk_i l6), (7, nk_i s0)]) rfl ?_
    exact ja_X13_fits_b548_ok zs _ _ _ _ _ hr
  have hr := nk_ifn hc4 hr
  by_cases hc5 : l3 = 7
  · have hr := nk_ifp hc5 hr
    refine nk_p (i := .tableswitch 474 2 45 #[190, 474, 207, 474, 474, 474, 474, 474, 474, 474, 474, 474, 474, 474, 474, 474, 251, 474, 474, 474, 474, 474, 474, 474, 223, 223, 229, 229, 474, 251, 262, 282, 307, 338, 354, 223, 223, 394, 394, 403, 412, 453, 474, 251]) (len := 190) (pc' := 548) mJ_124 (by decide +kernel) (ns_tsw (V := 7) hc5 (by decide +kernel)) rfl ?_
    refine nk_sub [4, 6, 0] (L' := [(3, nk_i l3), (6, nk_i l6), (7, nk_i s0)]) rfl ?_
    exact ja_X13_fits_b548_ok zs _ _ _ _ _ hr
  have hr := nk_ifn hc5 hr
  by_cases hc6 : l3 = 8
  · have hr := nk_ifp hc6 hr
    refine nk_p (i := .tableswitch 474 2 45 #[190, 474, 207, 474, 474, 474, 474, 474, 474, 474, 474, 474, 474, 474, 474, 474, 251, 474, 474, 474, 474, 474, 474, 474, 223, 223, 229, 229, 474, 251, 262, 282, 307, 338, 354, 223, 223, 394, 394, 403, 412, 453, 474, 251]) (len := 190) (pc' := 548) mJ_124 (by decide +kernel) (ns_tsw (V := 8) hc6 (by decide +kernel)) rfl ?_
    refine nk_sub [4, 6, 0] (L' := [(3, nk_i l3), (6, nk_i l6), (7, nk_i s0)]) rfl ?_
    exact ja_X13_fits_b548_ok zs _ _ _ _ _ hr
  have hr := nk_ifn hc6 hr
  by_cases hc7 : l3 = 9
  · have hr := nk_ifp hc7 hr
    refine nk_p (i := .tableswitch 474 2 45 #[190, 474, 207, 474, 474, 474, 474, 474, 474, 474, 474, 474, 474, 474, 474, 474, 251, 474, 474, 474, 474, 474, 474, 474, 223, 223, 229, 229, 474, 251, 262, 282, 307, 338, 354, 223, 223, 394, 394, 403, 412, 453, 474, 251]) (len := 190) (pc' := 548) mJ_124 (by decide +kernel) (ns_tsw (V := 9) hc7 (by decide +kernel)) rfl ?_
    refine nk_sub [4, 6, 0] (L' := [(3, nk_i l3), (6, nk_i l6), (7, nk_i s0)]) rfl ?_
    exact ja_X13_fits_b548_ok zs _ _ _ _ _ hr
  have hr := nk_ifn hc7 hr
  by_cases hc8 : l3 = 10
  · have hr := nk_ifp hc8 hr
    refine nk_p (i := .tableswitch 474 2 45 #[190, 474, 207, 474, 474, 474, 474, 474, 474, 474, 474, 474, 474, 474, 474, 474, 251, 474, 474, 474, 474, 474, 474, 474, 223, 223, 229, 229, 474, 251, 262, 282, 307, 338, 354, 223, 223, 394, 394, 403, 412, 453, 474, 251]) (len := 190) (pc' := 548) mJ_124 (by decide +kernel) (ns_tsw (V := 10) hc8 (by decide +kernel)) rfl ?_
    refine nk_sub [4, 6, 0] (L' := [(3, nk_i l3), (6, nk_i l6), (7, nk_i s0)]) rfl ?_
    exact ja_X13_fits_b548_ok zs _ _ _ _ _ hr
  have hr := nk_ifn hc8 hr
  by_cases hc9 : l3 = 11
  · have hr := nk_ifp hc9 hr
    refine nk_p (i := .tableswitch 474 2 45 #[190, 474, 207, 474, 474, 474, 474, 474, 474, 474, 474, 474, 474, 474, 474, 474, 251, 474, 474, 474, 474, 474, 474, 474, 223, 223, 229, 229, 474, 251, 262, 282, 307, 338, 354, 223, 223, 394, 394, 403, 412, 453, 474, 251]) (len := 190) (pc' := 548) mJ_124 (by decide +kernel) (ns_tsw (V := 11) hc9 (by decide +kernel)) rfl ?_
    refine nk_sub [4, 6, 0] (L' := [(3, nk_i l3), (6, nk_i l6), (7, nk_i s0)]) rfl ?_
    exact ja_X13_fits_b548_ok zs _ _ _ _ _ hr
  have hr := nk_ifn hc9 hr
  by_cases hc10 : l3 = 12
  · have hr := nk_ifp hc10 hr
    refine nk_p (i := .tableswitch 474 2 45 #[190, 474, 207, 474, 474, 474, 474, 474, 474, 474, 474, 474, 474, 474, 474, 474, 251, 474, 474, 474, 474, 474, 474, 474, 223, 223, 229, 229, 474, 251, 262, 282, 307, 338, 354, 223, 223, 394, 394, 403, 412, 453, 474, 251]) (len := 190) (pc' := 548) mJ_124 (by decide +kernel) (ns_tsw (V := 12) hc10 (by decide +kernel)) rfl ?_
    refine nk_sub [4, 6, 0] (L' := [(3, nk_i l3), (6, nk_i l6), (7, nk_i s0)]) rfl ?_
    exact ja_X13_fits_b548_ok zs _ _ _ _ _ hr
  have hr := nk_ifn hc10 hr
  by_cases hc11 : l3 = 13
  · have hr := nk_ifp hc11 hr
    refine nk_p (i := .tableswitch 474 2 45 #[190, 474, 207, 474, 474, 474, 474, 474, 474, 474, 474, 474, 474, 474, 474, 474, 251, 474, 474, 474, 474, 474, 474, 474, 223, 223, 229, 229, 474, 251, 262, 282, 307, 338, 354, 223, 223, 394, 394, 403, 412, 453, 474, 251]) (len := 190) (pc' := 548) mJ_124 (by decide +kernel) (ns_tsw (V := 13) hc11 (by decide +kernel)) rfl ?_
    refine nk_sub [4, 6, 0] (L' := [(3, nk_i l3), (6, nk_i l6), (7, nk_i s0)]) rfl ?_
    exact ja_X13_fits_b548_ok zs _ _ _ _ _ hr
  have hr := nk_ifn hc11 hr
  by_cases hc12 : l3 = 14
  · have hr := nk_ifp hc12 hr
    refine nk_p (i := .tableswitch 474 2 45 #[190, 474, 207, 474, 474, 474, 474, 474, 474, 474, 474, 474, 474, 474, 474, 474, 251, 474, 474, 474, 474, 474, 474, 474, 223, 223, 229, 229, 474, 251, 262, 282, 307, 338, 354, 223, 223, 394, 394, 403, 412, 453, 474, 251]) (len := 190) (pc' := 548) mJ_124 (by decide +kernel) (ns_tsw (V := 14) hc12 (by decide +kernel)) rfl ?_
    refine nk_sub [4, 6, 0] (L' := [(3, nk_i l3), (6, nk_i l6), (7, nk_i s0)]) rfl ?_
    exact ja_X13_fits_b548_ok zs _ _ _ _ _ hr
  have hr := nk_ifn hc12 hr
  by_cases hc13 : l3 = 15
  · have hr := nk_ifp hc13 hr
    refine nk_p (i := .tableswitch 474 2 45 #[190, 474, 207, 474, 474, 474, 474, 474, 474, 474, 474, 474, 474, 474, 474, 474, 251, 474, 474, 474, 474, 474, 474, 474, 223, 223, 229, 229, 474, 251, 262, 282, 307, 338, 354, 223, 223, 394, 394, 403, 412, 453, 474, 251]) (len := 190) (pc' := 548) mJ_124 (by decide +kernel) (ns_tsw (V := 15) hc13 (by decide +kernel)) rfl ?_
    refine nk_sub [4, 6, 0] (L' := [(3, nk_i l3), (6, nk_i l6), (7, nk_i s0)]) rfl ?_
    exact ja_X13_fits_b548_ok zs _ _ _ _ _ hr
  have hr := nk_ifn hc13 hr
  by_cases hc14 : l3 = 16
  · have hr := nk_ifp hc14 hr
    refine nk_p (i := .tableswitch 474 2 45 #[190, 474, 207, 474, 474, 474, 474, 474, 474, 474, 474, 474, 474, 474, 474, 474, 251, 474, 474, 474, 474, 474, 474, 474, 223, 223, 229, 229, 474, 251, 262, 282, 307, 338, 354, 223, 223, 394, 394, 403, 412, 453, 474, 251]) (len := 190) (pc' := 548) mJ_124 (by decide +kernel) (ns_tsw (V := 16) hc14 (by decide +kernel)) rfl ?_
    refine nk_sub [4, 6, 0] (L' := [(3, nk_i l3), (6, nk_i l6), (7, nk_i s0)]) rfl ?_
    exact ja_X13_fits_b548_ok zs _ _ _ _ _ hr
  have hr := nk_ifn hc14 hr
  by_cases hc15 : l3 = 17
  · have hr := nk_ifp hc15 hr
    refine nk_p (i := .tableswitch 474 2 45 #[190, 474, 207, 474, 474, 474, 474, 474, 474, 474, 474, 474, 474, 474, 474, 474, 251, 474, 474, 474, 474, 474, 474, 474, 223, 223, 229, 229, 474, 251, 262, 282, 307, 338, 354, 223, 223, 394, 394, 403, 412, 453, 474, 251]) (len := 190) (pc' := 548) mJ_124 (by decide +kernel) (ns_tsw (V := 17) hc15 (by decide +kernel)) rfl ?_
    refine nk_sub [4, 6, 0] (L' := [(3, nk_i l3), (6, nk_i l6), (7, nk_i s0)]) rfl ?_
    exact ja_X13_fits_b548_ok zs _ _ _ _ _ hr
  have hr := nk_ifn hc15 hr
  by_cases hc16 : l3 = 18
  · have hr := nk_ifp hc16 hr
    refine nk_p (i := .tableswitch 474 2 45 #[190, 474, 207, 474, 474, 474, 474, 474, 474, 474, 474, 474, 474, 474, 474, 474, 251, 474, 474, 474, 474, 474, 474, 474, 223, 223, 229, 229, 474, 251, 262, 282, 307, 338, 354, 223, 223, 394, 394, 403, 412, 453, 474, 251]) (len := 190) (pc' := 325) mJ_124 (by decide +kernel) (ns_tsw (V := 18) hc16 (by decide +kernel)) rfl ?_
    refine nk_sub [6] (L' := [(6, nk_i l6)]) rfl ?_
    exact ja_X13_fits_b325_ok zs _ _ _ hr
  have hr := nk_ifn hc16 hr
  by_cases hc17 : l3 = 19
  · have hr := nk_ifp hc17 hr
    refine nk_p (i := .tableswitch 474 2 45 #[190, 474, 207, 474, 474, 474, 474, 474, 474, 474, 474, 474, 474, 474, 474, 474, 251, 474, 474, 474, 474, 474, 474, 474, 223, 223, 229, 229, 474, 251, 262, 282, 307, 338, 354, 223, 223, 394, 394, 403, 412, 453, 474, 251]) (len := 190) (pc' := 548) mJ_124 (by decide +kernel) (ns_tsw (V := 19) hc17 (by decide +kernel)) rfl ?_
    refine nk_sub [4, 6, 0] (L' := [(3, nk_i l3), (6, nk_i l6), (7, nk_i s0)]) rfl ?_
    exact ja_X13_fits_b548_ok zs _ _ _ _ _ hr
  have hr := nk_ifn hc17 hr
  by_cases hc18 : l3 = 20
  · have hr := nk_ifp hc18 hr
    refine nk_p (i := .tableswitch 474 2 45 #[190, 474, 207, 474, 474, 474, 474, 474, 474, 474, 474, 474, 474, 474, 474, 474, 251, 474, 474, 474, 474, 474, 474, 474, 223, 223, 229, 229, 474, 251, 262, 282, 307, 338, 354, 223, 223, 394, 394, 403, 412, 453, 474, 251]) (len := 190) (pc' := 548) mJ_124 (by decide +kernel) (ns_tsw (V := 20) hc18 (by decide +kernel)) rfl ?_
    refine nk_sub [4, 6, 0] (L' := [(3, nk_i l3), (6, nk_i l6), (7, nk_i s0)]) rfl ?_
    exact ja_X13_fits_b548_ok zs _ _ _ _ _ hr
  have hr := nk_ifn hc18 hr
  by_cases hc19 : l3 = 21
  · have hr := nk_ifp hc19 hr
    refine nk_p (i := .tableswitch 474 2 45 #[190, 474, 207, 474, 474, 474, 474, 474, 474, 474, 474, 474, 474, 474, 474, 474, 251, 474, 474, 474, 474, 474, 474, 474, 223, 223, 229, 229, 474, 251, 262, 282, 307, 338, 354, 223, 223, 394, 394, 403, 412, 453, 474, 251]) (len := 190) (pc' := 548) mJ_124 (by decide +kernel) (ns_tsw (V := 21) hc19 (by decide +kernel)) rfl ?_
    refine nk_sub [4, 6, 0] (L' := [(3, nk_i l3), (6, nk_i l6), (7, nk_i s0)]) rfl ?_
    exact ja_X13_fits_b548_ok zs _ _ _ _ _ hr
  have hr := nk_ifn hc19 hr
  by_cases hc20 : l3 = 22
  · have hr := nk_ifp hc20 hr
    refine nk_p (i := .tableswitch 474 2 45 #[190, 474, 207, 474, 474, 474, 474, 474, 474, 474, 474, 474, 474, 474, 474, 474, 251, 474, 474, 474, 474, 474, 474, 474, 223, 223, 229, 229, 474, 251, 262, 282, 307, 338, 354, 223, 223, 394, 394, 403, 412, 453, 474, 251]) (len := 190) (pc' := 548) mJ_124 (by decide +kernel) (ns_tsw (V := 22) hc20 (by decide +kernel)) rfl ?_
    refine nk_sub [4, 6, 0] (L' := [(3, nk_i l3), (6, nk_i l6), (7, nk_i s0)]) rfl ?_
    exact ja_X13_fits_b548_ok zs _ _ _ _ _ hr
  have hr := nk_ifn hc20 hr
  by_cases hc21 : l3 = 23
  · have hr := nk_ifp hc21 hr
    refine nk_p (i := .tableswitch 474 2 45 #[190, 474, 207, 474, 474, 474, 474, 474, 474, 474, 474, 474, 474, 474, 474, 474, 251, 474, 474, 474, 474, 474, 474, 474, 223, 223, 229, 229, 474, 251, 262, 282, 307, 338, 354, 223, 223, 394, 394, 403, 412, 453, 474, 251]) (len := 190) (pc' := 548) mJ_124 (by decide +kernel) (ns_tsw (V := 23) hc21 (by decide +kernel)) rfl ?_
    refine nk_sub [4, 6, 0] (L' := [(3, nk_i l3), (6, nk_i l6), (7, nk_i s0)]) rfl ?_
    exact ja_X13_fits_b548_ok zs _ _ _ _ _ hr
  have hr := nk_ifn hc21 hr
  by_cases hc22 : l3 = 24
  · have hr := nk_ifp hc22 hr
    refine nk_p (i := .tableswitch 474 2 45 #[190, 474, 207, 474, 474, 474, 474, 474, 474, 474, 474, 474, 474, 474, 474, 474, 251, 474, 474, 474, 474, 474, 474, 474, 223, 223, 229, 229, 474, 251, 262, 282, 307, 338, 354, 223, 223, 394, 394, 403, 412, 453, 474, 251]) (len := 190) (pc' := 548) mJ_124 (by decide +kernel) (ns_tsw (V := 24) hc22 (by decide +kernel)) rfl ?_
    refine nk_sub [4, 6, 0] (L' := [(3, nk_i l3), (6, nk_i l6), (7, nk_i s0)]) rfl ?_
    exact ja_X13_fits_b548_ok zs _ _ _ _ _ hr
  have hr := nk_ifn hc22 hr
  by_cases hc23 : l3 = 25
  · have hr := nk_ifp hc23 hr
    refine nk_p (i := .tableswitch 474 2 45 #[190, 474, 207, 474, 474, 474, 474, 474, 474, 474, 474, 474, 474, 474, 474, 474, 251, 474, 474, 474, 474, 474, 474, 474, 223, 223, 229, 229, 474, 251, 262, 282, 307, 338, 354, 223, 223, 394, 394, 403, 412, 453, 474, 251]) (len := 190) (pc' := 548) mJ_124 (by decide +kernel) (ns_tsw (V := 25) hc23 (by decide +kernel)) rfl ?_
    refine nk_sub [4, 6, 0] (L' := [(3, nk_i l3), (6, nk_i l6), (7, nk_i s0)]) rfl ?_
    exact ja_X13_fits_b548_ok zs _ _ _ _ _ hr
  have hr := nk_ifn hc23 hr
  by_cases hc24 : l3 = 26
  · have hr := nk_ifp hc24 hr
    refine nk_p (i := .tableswitch 474 2 45 #[190, 474, 207, 474, 474, 474, 474, 474, 474, 474, 474, 474, 474, 474, 474, 474, 251, 474, 474, 474, 474, 474, 474, 474, 223, 223, 229, 229, 474, 251, 262, 282, 307, 338, 354, 223, 223, 394, 394, 403, 412, 453, 474, 251]) (len := 190) (pc' := 297) mJ_124 (by decide +kernel) (ns_tsw (V := 26) hc24 (by decide +kernel)) rfl ?_
    refine nk_sub [6] (L' := [(6, nk_i l6)]) rfl ?_
    exact ja_X13_fits_b297_ok zs _ _ _ hr
  have hr := nk_ifn hc24 hr
  by_cases hc25 : l3 = 27
  · have hr := nk_ifp hc25 hr
    refine nk_p (i := .tableswitch 474 2 45 #[190, 474, 207, 474, 474, 474, 474, 474, 474, 474, 474, 474, 474, 474, 474, 474, 251, 474, 474, 474, 474, 474, 474, 474, 223, 223, 229, 229, 474, 251, 262, 282, 307, 338, 354, 223, 223, 394, 394, 403, 412, 453, 474, 251]) (len := 190) (pc' := 297) mJ_124 (by decide +kernel) (ns_tsw (V := 27) hc25 (by decide +kernel)) rfl ?_
    refine nk_sub [6] (L' := [(6, nk_i l6)]) rfl ?_
    exact ja_X13_fits_b297_ok zs _ _ _ hr
  have hr := nk_ifn hc25 hr
  by_cases hc26 : l3 = 28
  · have hr := nk_ifp hc26 hr
    refine nk_p (i := .tableswitch 474 2 45 #[190, 474, 207, 474, 474, 474, 474, 474, 474, 474, 474, 474, 474, 474, 474, 474, 251, 474, 474, 474, 474, 474, 474, 474, 223, 223, 229, 229, 474, 251, 262, 282, 307, 338, 354, 223, 223, 394, 394, 403, 412, 453, 474, 251]) (len := 190) (pc' := 303) mJ_124 (by decide +kernel) (ns_tsw (V := 28) hc26 (by decide +kernel)) rfl ?_
    refine nk_sub [6, 0] (L' := [(6, nk_i l6), (7, nk_i s0)]) rfl ?_
    exact ja_X13_fits_b303_ok zs _ _ _ _ hr
  have hr := nk_ifn hc26 hr
  by_cases hc27 : l3 = 29
  · have hr := nk_ifp hc27 hr
    refine nk_p (i := .tableswitch 474 2 45 #[190, 474, 207, 474, 474, 474, 474, 474, 474, 474, 474, 474, 474, 474, 474, 474, 251, 474, 474, 474, 474, 474, 474, 474, 223, 223, 229, 229, 474, 251, 262, 282, 307, 338, 354, 223, 223, 394, 394, 403, 412, 453, 474, 251]) (len := 190) (pc' := 303) mJ_124 (by decide +kernel) (ns_tsw (V := 29) hc27 (by decide +kernel)) rfl ?_
    refine nk_sub [6, 0] (L' := [(6, nk_i l6), (7, nk_i s0)]) rfl ?_
    exact ja_X13_fits_b303_ok zs _ _ _ _ hr
  have hr := nk_ifn hc27 hr
  by_cases hc28 : l3 = 30
  · have hr := nk_ifp hc28 hr
    refine nk_p (i := .tableswitch 474 2 45 #[190, 474, 207, 474, 474, 474, 474, 474, 474, 474, 474, 474, 474, 474, 474, 474, 251, 474, 474, 474, 474, 474, 474, 474, 223, 223, 229, 229, 474, 251, 262, 282, 307, 338, 354, 223, 223, 394, 394, 403, 412, 453, 474, 251]) (len := 190) (pc' := 548) mJ_124 (by decide +kernel) (ns_tsw (V := 30) hc28 (by decide +kernel)) rfl ?_
    refine nk_sub [4, 6, 0] (L' := [(3, nk_i l3), (6, nk_i l6), (7, nk_i s0)]) rfl ?_
    exact ja_X13_fits_b548_ok zs _ _ _ _ _ hr
  have hr := nk_ifn hc28 hr
  by_cases hc29 : l3 = 31
  · have hr := nk_ifp hc29 hr
    refine nk_p (i := .tableswitch 474 2 45 #[190, 474, 207, 474, 474, 474, 474, 474, 474, 474, 474, 474, 474, 474, 474, 474, 251, 474, 474, 474, 474, 474, 474, 474, 223, 223, 229, 229, 474, 251, 262, 282, 307, 338, 354, 223, 223, 394, 394, 403, 412, 453, 474, 251]) (len := 190) (pc' := 325) mJ_124 (by decide +kernel) (ns_tsw (V := 31) hc29 (by decide +kernel)) rfl ?_
    refine nk_sub [6] (L' := [(6, nk_i l6)]) rfl ?_
    exact ja_X13_fits_b325_ok zs _ _ _ hr
  have hr := nk_ifn hc29 hr
  by_cases hc30 : l3 = 32
  · have hr := nk_ifp hc30 hr
    refine nk_p (i := .tableswitch 474 2 45 #[190, 474, 207, 474, 474, 474, 474, 474, 474, 474, 474, 474, 474, 474, 474, 474, 251, 474, 474, 474, 474, 474, 474, 474, 223, 223, 229, 229, 474, 251, 262, 282, 307, 338, 354, 223, 223, 394, 394, 403, 412, 453, 474, 251]) (len := 190) (pc' := 336) mJ_124 (by decide +kernel) (ns_tsw (V := 32) hc30 (by decide +kernel)) rfl ?_
    refine nk_p (i := .iload 6) (len := 2) (pc' := 338) mJ_124 (by decide +kernel) (ns_iload 6 rfl) rfl ?_
    refine nk_p (i := .iconst 1) (len := 1) (pc' := 339) mJ_124 (by decide +kernel) (ns_iconst (c := 1) (by decide +kernel)) rfl ?_
    refine nk_icmp (c := .eq) (off := 11) (len := 3) (t := 350) (pc' := 342) mJ_124 (by decide +kernel) (by decide +kernel) rfl (fun hc => ?_) (fun hc => ?_)
    · have hr := nk_ifp (c := l6 = 1) hc hr
      refine nk_p (i := .iconst 1) (len := 1) (pc' := 351) mJ_124 (by decide +kernel) (ns_iconst (c := 1) (by decide +kernel)) rfl ?_
      refine nk_p (i := .goto 4) (len := 3) (pc' := 355) mJ_124 (by decide +kernel) (ns_goto (by decide +kernel)) rfl ?_
      cases hr
      exact nk_iret (ty := .boolean) (len := 1) mJ_124 (by decide +kernel) rfl (nk_nar_z (by decide))
    · have hr := nk_ifn (c := l6 = 1) hc hr
      refine nk_p (i := .iload 6) (len := 2) (pc' := 344) mJ_124 (by decide +kernel) (ns_iload 6 rfl) rfl ?_
      obtain ⟨r5, S6, h7, hr⟩ := nk_bde hr
      refine nk_callS (ci := 0) (n := 1) (x := 520) (len := 3) (j' := 140) (q' := 1) (r := r5) (S' := S6) (L2 := [(0, nk_i l6)]) (rest := []) (st' := [nk_i r5]) (pc' := 347) mJ_124 (by decide +kernel) (by decide +kernel) (Nat.le_of_ble_eq_true rfl) rfl rfl (Nat.le_of_ble_eq_true rfl) mJ_140 (Nat.le_of_ble_eq_true rfl) ja_Tpos rfl (ja_X13_isArrayType_ok zs _ _ _ h7) rfl ?_
      refine nk_icond (c := .eq) (off := 7) (len := 3) (t := 354) (pc' := 350) mJ_124 (by decide +kernel) (by decide +kernel) rfl (fun hc => ?_) (fun hc => ?_)
      · have hr := nk_ifp (c := r5 = 0) hc hr
        refine nk_p (i := .iconst 0) (len := 1) (pc' := 355) mJ_124 (by decide +kernel) (ns_iconst (c := 0) (by decide +kernel)) rfl ?_
        cases hr
        exact nk_iret (ty := .boolean) (len := 1) mJ_124 (by decide +kernel) rfl (nk_nar_z (by decide))
      · have hr := nk_ifn (c := r5 = 0) hc hr
        refine nk_p (i := .iconst 1) (len := 1) (pc' := 351) mJ_124 (by decide +kernel) (ns_iconst (c := 1) (by decide +kernel)) rfl ?_
        refine nk_p (i := .goto 4) (len := 3) (pc' := 355) mJ_124 (by decide +kernel) (ns_goto (by decide +kernel)) rfl ?_
        cases hr
        exact nk_iret (ty := .boolean) (len := 1) mJ_124 (by decide +kernel) rfl (nk_nar_z (by decide))
  have hr := nk_ifn hc30 hr
  by_cases hc31 : l3 = 33
  · have hr := nk_ifp hc31 hr
    refine nk_p (i := .tableswitch 474 2 45 #[190, 474, 207, 474, 474, 474, 474, 474, 474, 474, 474, 474, 474, 474, 474, 474, 251, 474, 474, 474, 474, 474, 474, 474, 223, 223, 229, 229, 474, 251, 262, 282, 307, 338, 354, 223, 223, 394, 394, 403, 412, 453, 474, 251]) (len := 190) (pc' := 356) mJ_124 (by decide +kernel) (ns_tsw (V := 33) hc31 (by decide +kernel)) rfl ?_
    refine nk_p (i := .iload 6) (len := 2) (pc' := 358) mJ_124 (by decide +kernel) (ns_iload 6 rfl) rfl ?_
    refine nk_icond (c := .ne) (off := 21) (len := 3) (t := 379) (pc' := 361) mJ_124 (by decide +kernel) (by decide +kernel) rfl (fun hc => ?_) (fun hc => ?_)
    · have hr := nk_ifn (c := l6 = 0) hc hr
      refine nk_p (i := .iconst 0) (len := 1) (pc' := 380) mJ_124 (by decide +kernel) (ns_iconst (c := 0) (by decide +kernel)) rfl ?_
      cases hr
      exact nk_iret (ty := .boolean) (len := 1) mJ_124 (by decide +kernel) rfl (nk_nar_z (by decide))
    · have hr := nk_ifp (c := l6 = 0) (Decidable.of_not_not hc) hr
      refine nk_p (i := .iload 7) (len := 2) (pc' := 363) mJ_124 (by decide +kernel) (ns_iload 0 rfl) rfl ?_
      refine nk_p (i := .iconst 1) (len := 1) (pc' := 364) mJ_124 (by decide +kernel) (ns_iconst (c := 1) (by decide +kernel)) rfl ?_
      refine nk_icmp (c := .eq) (off := 11) (len := 3) (t := 375) (pc' := 367) mJ_124 (by decide +kernel) (by decide +kernel) rfl (fun hc => ?_) (fun hc => ?_)
      · have hr := nk_ifp (c := s0 = 1) hc hr
        refine nk_p (i := .iconst 1) (len := 1) (pc' := 376) mJ_124 (by decide +kernel) (ns_iconst (c := 1) (by decide +kernel)) rfl ?_
        refine nk_p (i := .goto 4) (len := 3) (pc' := 380) mJ_124 (by decide +kernel) (ns_goto (by decide +kernel)) rfl ?_
        cases hr
        exact nk_iret (ty := .boolean) (len := 1) mJ_124 (by decide +kernel) rfl (nk_nar_z (by decide))
      · have hr := nk_ifn (c := s0 = 1) hc hr
        refine nk_p (i := .iload 7) (len := 2) (pc' := 369) mJ_124 (by decide +kernel) (ns_iload 0 rfl) rfl ?_
        obtain ⟨r8, S9, h10, hr⟩ := nk_bde hr
        refine nk_callS (ci := 0) (n := 1) (x := 520) (len := 3) (j' := 140) (q' := 1) (r := r8) (S' := S9) (L2 := [(0, nk_i s0)]) (rest := []) (st' := [nk_i r8]) (pc' := 372) mJ_124 (by decide +kernel) (by decide +kernel) (Nat.le_of_ble_eq_true rfl) rfl rfl (Nat.le_of_ble_eq_true rfl) mJ_140 (Nat.le_of_ble_eq_true rfl) ja_Tpos rfl (ja_X13_isArrayType_ok zs _ _ _ h10) rfl ?_
        refine nk_icond (c := .eq) (off := 7) (len := 3) (t := 379) (pc' := 375) mJ_124 (by decide +kernel) (by decide +kernel) rfl (fun hc => ?_) (fun hc => ?_)
        · have hr := nk_ifp (c := r8 = 0) hc hr
          refine nk_p (i := .iconst 0) (len := 1) (pc' := 380) mJ_124 (by decide +kernel) (ns_iconst (c := 0) (by decide +kernel)) rfl ?_
          cases hr
          exact nk_iret (ty := .boolean) (len := 1) mJ_124 (by decide +kernel) rfl (nk_nar_z (by decide))
        · have hr := nk_ifn (c := r8 = 0) hc hr
          refine nk_p (i := .iconst 1) (len := 1) (pc' := 376) mJ_124 (by decide +kernel) (ns_iconst (c := 1) (by decide +kernel)) rfl ?_
          refine nk_p (i := .goto 4) (len := 3) (pc' := 380) mJ_124 (by decide +kernel) (ns_goto (by decide +kernel)) rfl ?_
          cases hr
          exact nk_iret (ty := .boolean) (len := 1) mJ_124 (by decide +kernel) rfl (nk_nar_z (by decide))
  have hr := nk_ifn hc31 hr
  by_cases hc32 : l3 = 34
  · have hr := nk_ifp hc32 hr
    refine nk_p (i := .tableswitch 474 2 45 #[190, 474, 207, 474, 474, 474, 474, 474, 474, 474, 474, 474, 474, 474, 474, 474, 251, 474, 474, 474, 474, 474, 474, 474, 223, 223, 229, 229, 474, 251, 262, 282, 307, 338, 354, 223, 223, 394, 394, 403, 412, 453, 474, 251]) (len := 190) (pc' := 381) mJ_124 (by decide +kernel) (ns_tsw (V := 34) hc32 (by decide +kernel)) rfl ?_
    refine nk_p (i := .iload 7) (len := 2) (pc' := 383) mJ_124 (by decide +kernel) (ns_iload 0 rfl) rfl ?_
    refine nk_icond (c := .ne) (off := 27) (len := 3) (t := 410) (pc' := 386) mJ_124 (by decide +kernel) (by decide +kernel) rfl (fun hc => ?_) (fun hc => ?_)
    · have hr := nk_ifn (c := s0 = 0) hc hr
      refine nk_p (i := .iconst 0) (len := 1) (pc' := 411) mJ_124 (by decide +kernel) (ns_iconst (c := 0) (by decide +kernel)) rfl ?_
      cases hr
      exact nk_iret (ty := .boolean) (len := 1) mJ_124 (by decide +kernel) rfl (nk_nar_z (by decide))
    · have hr := nk_ifp (c := s0 = 0) (Decidable.of_not_not hc) hr
      refine nk_p (i := .aload_n 1) (len := 1) (pc' := 387) mJ_124 (by decide +kernel) (ns_aload_n 2 rfl rfl) rfl ?_
      refine nk_p (i := .aload_n 0) (len := 1) (pc' := 388) mJ_124 (by decide +kernel) (ns_aload_n 1 rfl rfl) rfl ?_
      refine nk_getC (f := (4, 1, 24)) (x := 68) (len := 3) (ci := 13) (k := 24) (pc' := 391) ja_okT mJ_124 (by decide +kernel) (by decide +kernel) (by decide +kernel) (by decide) t_l0 rfl ?_
      have t11 : nk_ar ja_Tt (ja_c l0 24) = some (1, 24) := nk_ta ja_okT t_l0 (by decide +kernel)
      refine nk_p (i := .aload_n 0) (len := 1) (pc' := 392) mJ_124 (by decide +kernel) (ns_aload_n 1 rfl rfl) rfl ?_
      refine nk_getI (y := (0, 0)) (x := 495) (len := 3) (ci := 13) (k := 25) (pc' := 395) ja_okT mJ_124 (by decide +kernel) (by decide +kernel) (by decide +kernel) t_l0 rfl ?_
      refine nk_p (i := .iconst 3) (len := 1) (pc' := 396) mJ_124 (by decide +kernel) (ns_iconst (c := 3) (by decide +kernel)) rfl ?_
      refine nk_p (i := .isub) (len := 1) (pc' := 397) mJ_124 (by decide +kernel) ns_isub rfl ?_
      obtain ⟨h12, hr⟩ := nk_cke hr
      refine nk_iald (len := 1) (N := 24) (pc' := 398) mJ_124 (by decide +kernel) t11 h12.1 h12.2 rfl rfl ?_
      refine nk_p (i := .iload 6) (len := 2) (pc' := 400) mJ_124 (by decide +kernel) (ns_iload 6 rfl) rfl ?_
      obtain ⟨r13, S14, h15, hr⟩ := nk_bde hr
      refine nk_callS (ci := 0) (n := 3) (x := 523) (len := 3) (j' := 147) (q' := 1) (r := r13) (S' := S14) (L2 := [(0, nk_r l1), (1, nk_i (S.1 (ja_c l0 24) (nk_w ((S.1 l0 25) - 3)).toNat)), (2, nk_i l6)]) (rest := []) (st' := [nk_i r13]) (pc' := 403) mJ_124 (by decide +kernel) (by decide +kernel) (Nat.le_of_ble_eq_true rfl) rfl rfl (Nat.le_of_ble_eq_true rfl) mJ_147 (Nat.le_of_ble_eq_true rfl) ja_Tpos rfl (ja_X13_isElement_ok zs _ _ _ _ _ t_l1 h15) rfl ?_
      refine nk_icond (c := .eq) (off := 7) (len := 3) (t := 410) (pc' := 406) mJ_124 (by decide +kernel) (by decide +kernel) rfl (fun hc => ?_) (fun hc => ?_)
      · have hr := nk_ifp (c := r13 = 0) hc hr
        refine nk_p (i := .iconst 0) (len := 1) (pc' := 411) mJ_124 (by decide +kernel) (ns_iconst (c := 0) (by decide +kernel)) rfl ?_
        cases hr
        exact nk_iret (ty := .boolean) (len := 1) mJ_124 (by decide +kernel) rfl (nk_nar_z (by decide))
      · have hr := nk_ifn (c := r13 = 0) hc hr
        refine nk_p (i := .iconst 1) (len := 1) (pc' := 407) mJ_124 (by decide +kernel) (ns_iconst (c := 1) (by decide +kernel)) rfl ?_
        refine nk_p (i := .goto 4) (len := 3) (pc' := 411) mJ_124 (by decide +kernel) (ns_goto (by decide +kernel)) rfl ?_
        cases hr
        exact nk_iret (ty := .boolean) (len := 1) mJ_124 (by decide +kernel) rfl (nk_nar_z (by decide))
  have hr := nk_ifn hc32 hr
  by_cases hc33 : l3 = 35
  · have hr := nk_ifp hc33 hr
    refine nk_p (i := .tableswitch 474 2 45 #[190, 474, 207, 474, 474, 474, 474, 474, 474, 474, 474, 474, 474, 474, 474, 474, 251, 474, 474, 474, 474, 474, 474, 474, 223, 223, 229, 229, 474, 251, 262, 282, 307, 338, 354, 223, 223, 394, 394, 403, 412, 453, 474, 251]) (len := 190) (pc' := 412) mJ_124 (by decide +kernel) (ns_tsw (V := 35) hc33 (by decide +kernel)) rfl ?_
    refine nk_p (i := .aload_n 1) (len := 1) (pc' := 413) mJ_124 (by decide +kernel) (ns_aload_n 2 rfl rfl) rfl ?_
    refine nk_p (i := .iload 6) (len := 2) (pc' := 415) mJ_124 (by decide +kernel) (ns_iload 6 rfl) rfl ?_
    refine nk_p (i := .bipush 8) (len := 2) (pc' := 417) mJ_124 (by decide +kernel) (ns_bipush (c := 8) (by decide +kernel)) rfl ?_
    refine nk_p (i := .aload_n 1) (len := 1) (pc' := 418) mJ_124 (by decide +kernel) (ns_aload_n 2 rfl rfl) rfl ?_
    refine nk_getC (f := (4, 1, 1024)) (x := 417) (len := 3) (ci := 12) (k := 24) (pc' := 421) ja_okT mJ_124 (by decide +kernel) (by decide +kernel) (by decide +kernel) (by decide) t_l1 rfl ?_
    have t16 : nk_ar ja_Tt (ja_c l1 24) = some (1, 1024) := nk_ta ja_okT t_l1 (by decide +kernel)
    refine nk_p (i := .iload_n 2) (len := 1) (pc' := 422) mJ_124 (by decide +kernel) (ns_iload_n 3 rfl rfl) rfl ?_
    obtain ⟨h17, hr⟩ := nk_cke hr
    refine nk_iald (len := 1) (N := 1024) (pc' := 423) mJ_124 (by decide +kernel) t16 h17.1 h17.2 rfl rfl ?_
    refine nk_p (i := .iadd) (len := 1) (pc' := 424) mJ_124 (by decide +kernel) ns_iadd rfl ?_
    obtain ⟨r18, S19, h20, hr⟩ := nk_bde hr
    refine nk_callS (ci := 0) (n := 3) (x := 486) (len := 3) (j' := 143) (q' := 1) (r := r18) (S' := S19) (L2 := [(0, nk_r l1), (1, nk_i l6), (2, nk_i (nk_w (8 + (S.1 (ja_c l1 24) l2.toNat))))]) (rest := []) (st' := [nk_i r18]) (pc' := 427) mJ_124 (by decide +kernel) (by decide +kernel) (Nat.le_of_ble_eq_true rfl) rfl rfl (Nat.le_of_ble_eq_true rfl) mJ_143 (Nat.le_of_ble_eq_true rfl) ja_Tpos rfl (ja_X13_isBelow_ok zs _ _ _ _ _ t_l1 h20) rfl ?_
    obtain ⟨h21, hr⟩ := nk_cke hr
    cases hr
    exact nk_iret (ty := .boolean) (len := 1) mJ_124 (by decide +kernel) rfl (nk_nar_z h21)
  have hr := nk_ifn hc33 hr
  by_cases hc34 : l3 = 36
  · have hr := nk_ifp hc34 hr
    refine nk_p (i := .tableswitch 474 2 45 #[190, 474, 207, 474, 474, 474, 474, 474, 474, 474, 474, 474, 474, 474, 474, 474, 251, 474, 474, 474, 474, 474, 474, 474, 223, 223, 229, 229, 474, 251, 262, 282, 307, 338, 354, 223, 223, 394, 394, 403, 412, 453, 474, 251]) (len := 190) (pc' := 428) mJ_124 (by decide +kernel) (ns_tsw (V := 36) hc34 (by decide +kernel)) rfl ?_
    refine nk_p (i := .aload_n 1) (len := 1) (pc' := 429) mJ_124 (by decide +kernel) (ns_aload_n 2 rfl rfl) rfl ?_
    refine nk_p (i := .iload 7) (len := 2) (pc' := 431) mJ_124 (by decide +kernel) (ns_iload 0 rfl) rfl ?_
    refine nk_p (i := .bipush 8) (len := 2) (pc' := 433) mJ_124 (by decide +kernel) (ns_bipush (c := 8) (by decide +kernel)) rfl ?_
    refine nk_p (i := .aload_n 1) (len := 1) (pc' := 434) mJ_124 (by decide +kernel) (ns_aload_n 2 rfl rfl) rfl ?_
    refine nk_getC (f := (4, 1, 1024)) (x := 417) (len := 3) (ci := 12) (k := 24) (pc' := 437) ja_okT mJ_124 (by decide +kernel) (by decide +kernel) (by decide +kernel) (by decide) t_l1 rfl ?_
    have t22 : nk_ar ja_Tt (ja_c l1 24) = some (1, 1024) := nk_ta ja_okT t_l1 (by decide +kernel)
    refine nk_p (i := .iload_n 2) (len := 1) (pc' := 438) mJ_124 (by decide +kernel) (ns_iload_n 3 rfl rfl) rfl ?_
    obtain ⟨h23, hr⟩ := nk_cke hr
    refine nk_iald (len := 1) (N := 1024) (pc' := 439) mJ_124 (by decide +kernel) t22 h23.1 h23.2 rfl rfl ?_
    refine nk_p (i := .iadd) (len := 1) (pc' := 440) mJ_124 (by decide +kernel) ns_iadd rfl ?_
    obtain ⟨r24, S25, h26, hr⟩ := nk_bde hr
    refine nk_callS (ci := 0) (n := 3) (x := 486) (len := 3) (j' := 143) (q' := 1) (r := r24) (S' := S25) (L2 := [(0, nk_r l1), (1, nk_i s0), (2, nk_i (nk_w (8 + (S.1 (ja_c l1 24) l2.toNat))))]) (rest := []) (st' := [nk_i r24]) (pc' := 443) mJ_124 (by decide +kernel) (by decide +kernel) (Nat.le_of_ble_eq_true rfl) rfl rfl (Nat.le_of_ble_eq_true rfl) mJ_143 (Nat.le_of_ble_eq_true rfl) ja_Tpos rfl (ja_X13_isBelow_ok zs _ _ _ _ _ t_l1 h26) rfl ?_
    refine nk_icond (c := .eq) (off := 23) (len := 3) (t := 466) (pc' := 446) mJ_124 (by decide +kernel) (by decide +kernel) rfl (fun hc => ?_) (fun hc => ?_)
    · have hr := nk_ifp (c := r24 = 0) hc hr
      refine nk_p (i := .iconst 0) (len := 1) (pc' := 467) mJ_124 (by decide +kernel) (ns_iconst (c := 0) (by decide +kernel)) rfl ?_
      cases hr
      exact nk_iret (ty := .boolean) (len := 1) mJ_124 (by decide +kernel) rfl (nk_nar_z (by decide))
    · have hr := nk_ifn (c := r24 = 0) hc hr
      refine nk_p (i := .aload_n 1) (len := 1) (pc' := 447) mJ_124 (by decide +kernel) (ns_aload_n 2 rfl rfl) rfl ?_
      refine nk_p (i := .iload 6) (len := 2) (pc' := 449) mJ_124 (by decide +kernel) (ns_iload 6 rfl) rfl ?_
      refine nk_p (i := .aload_n 1) (len := 1) (pc' := 450) mJ_124 (by decide +kernel) (ns_aload_n 2 rfl rfl) rfl ?_
      refine nk_getC (f := (4, 1, 48)) (x := 324) (len := 3) (ci := 12) (k := 11) (pc' := 453) ja_okT mJ_124 (by decide +kernel) (by decide +kernel) (by decide +kernel) (by decide) t_l1 rfl ?_
      have t27 : nk_ar ja_Tt (ja_c l1 11) = some (1, 48) := nk_ta ja_okT t_l1 (by decide +kernel)
      refine nk_p (i := .iload 4) (len := 2) (pc' := 455) mJ_124 (by decide +kernel) (ns_iload 5 rfl) rfl ?_
      obtain ⟨h28, hr⟩ := nk_cke hr
      refine nk_iald (len := 1) (N := 48) (pc' := 456) mJ_124 (by decide +kernel) t27 h28.1 h28.2 rfl rfl ?_
      obtain ⟨r29, S30, h31, hr⟩ := nk_bde hr
      refine nk_callS (ci := 0) (n := 3) (x := 486) (len := 3) (j' := 143) (q' := 1) (r := r29) (S' := S30) (L2 := [(0, nk_r l1), (1, nk_i l6), (2, nk_i (S25.1 (ja_c l1 11) l4.toNat))]) (rest := []) (st' := [nk_i r29]) (pc' := 459) mJ_124 (by decide +kernel) (by decide +kernel) (Nat.le_of_ble_eq_true rfl) rfl rfl (Nat.le_of_ble_eq_true rfl) mJ_143 (Nat.le_of_ble_eq_true rfl) ja_Tpos rfl (ja_X13_isBelow_ok zs _ _ _ _ _ t_l1 h31) rfl ?_
      refine nk_icond (c := .eq) (off := 7) (len := 3) (t := 466) (pc' := 462) mJ_124 (by decide +kernel) (by decide +kernel) rfl (fun hc => ?_) (fun hc => ?_)
      · have hr := nk_ifp (c := r29 = 0) hc hr
        refine nk_p (i := .iconst 0) (len := 1) (pc' := 467) mJ_124 (by decide +kernel) (ns_iconst (c := 0) (by decide +kernel)) rfl ?_
        cases hr
        exact nk_iret (ty := .boolean) (len := 1) mJ_124 (by decide +kernel) rfl (nk_nar_z (by decide))
      · have hr := nk_ifn (c := r29 = 0) hc hr
        refine nk_p (i := .iconst 1) (len := 1) (pc' := 463) mJ_124 (by decide +kernel) (ns_iconst (c := 1) (by decide +kernel)) rfl ?_
        refine nk_p (i := .goto 4) (len := 3) (pc' := 467) mJ_124 (by decide +kernel) (ns_goto (by decide +kernel)) rfl ?_
        cases hr
        exact nk_iret (ty := .boolean) (len := 1) mJ_124 (by decide +kernel) rfl (nk_nar_z (by decide))
  have hr := nk_ifn hc34 hr
  by_cases hc35 : l3 = 37
  · have hr := nk_ifp hc35 hr
    refine nk_p (i := .tableswitch 474 2 45 #[190, 474, 207, 474, 474, 474, 474, 474, 474, 474, 474, 474, 474, 474, 474, 474, 251, 474, 474, 474, 474, 474, 474, 474, 223, 223, 229, 229, 474, 251, 262, 282, 307, 338, 354, 223, 223, 394, 394, 403, 412, 453, 474, 251]) (len := 190) (pc' := 297) mJ_124 (by decide +kernel) (ns_tsw (V := 37) hc35 (by decide +kernel)) rfl ?_
    refine nk_sub [6] (L' := [(6, nk_i l6)]) rfl ?_
    exact ja_X13_fits_b297_ok zs _ _ _ hr
  have hr := nk_ifn hc35 hr
  by_cases hc36 : l3 = 38
  · have hr := nk_ifp hc36 hr
    refine nk_p (i := .tableswitch 474 2 45 #[190, 474, 207, 474, 474, 474, 474, 474, 474, 474, 474, 474, 474, 474, 474, 474, 251, 474, 474, 474, 474, 474, 474, 474, 223, 223, 229, 229, 474, 251, 262, 282, 307, 338, 354, 223, 223, 394, 394, 403, 412, 453, 474, 251]) (len := 190) (pc' := 297) mJ_124 (by decide +kernel) (ns_tsw (V := 38) hc36 (by decide +kernel)) rfl ?_
    refine nk_sub [6] (L' := [(6, nk_i l6)]) rfl ?_
    exact ja_X13_fits_b297_ok zs _ _ _ hr
  have hr := nk_ifn hc36 hr
  by_cases hc37 : l3 = 39
  · have hr := nk_ifp hc37 hr
    refine nk_p (i := .tableswitch 474 2 45 #[190, 474, 207, 474, 474, 474, 474, 474, 474, 474, 474, 474, 474, 474, 474, 474, 251, 474, 474, 474, 474, 474, 474, 474, 223, 223, 229, 229, 474, 251, 262, 282, 307, 338, 354, 223, 223, 394, 394, 403, 412, 453, 474, 251]) (len := 190) (pc' := 468) mJ_124 (by decide +kernel) (ns_tsw (V := 39) hc37 (by decide +kernel)) rfl ?_
    refine nk_sub [1, 2, 3, 5] (L' := [(0, nk_r l0), (1, nk_r l1), (2, nk_i l2), (4, nk_i l4)]) rfl ?_
    exact ja_X13_fits_b468_ok zs _ _ _ _ _ _ t_l0 t_l1 hr
  have hr := nk_ifn hc37 hr
  by_cases hc38 : l3 = 40
  · have hr := nk_ifp hc38 hr
    refine nk_p (i := .tableswitch 474 2 45 #[190, 474, 207, 474, 474, 474, 474, 474, 474, 474, 474, 474, 474, 474, 474, 474, 251, 474, 474, 474, 474, 474, 474, 474, 223, 223, 229, 229, 474, 251, 262, 282, 307, 338, 354, 223, 223, 394, 394, 403, 412, 453, 474, 251]) (len := 190) (pc' := 468) mJ_124 (by decide +kernel) (ns_tsw (V := 40) hc38 (by decide +kernel)) rfl ?_
    refine nk_sub [1, 2, 3, 5] (L' := [(0, nk_r l0), (1, nk_r l1), (2, nk_i l2), (4, nk_i l4)]) rfl ?_
    exact ja_X13_fits_b468_ok zs _ _ _ _ _ _ t_l0 t_l1 hr
  have hr := nk_ifn hc38 hr
  by_cases hc39 : l3 = 41
  · have hr := nk_ifp hc39 hr
    refine nk_p (i := .tableswitch 474 2 45 #[190, 474, 207, 474, 474, 474, 474, 474, 474, 474, 474, 474, 474, 474, 474, 474, 251, 474, 474, 474, 474, 474, 474, 474, 223, 223, 229, 229, 474, 251, 262, 282, 307, 338, 354, 223, 223, 394, 394, 403, 412, 453, 474, 251]) (len := 190) (pc' := 477) mJ_124 (by decide +kernel) (ns_tsw (V := 41) hc39 (by decide +kernel)) rfl ?_
    refine nk_p (i := .aload_n 1) (len := 1) (pc' := 478) mJ_124 (by decide +kernel) (ns_aload_n 2 rfl rfl) rfl ?_
    refine nk_p (i := .iload 6) (len := 2) (pc' := 480) mJ_124 (by decide +kernel) (ns_iload 6 rfl) rfl ?_
    refine nk_p (i := .bipush 9) (len := 2) (pc' := 482) mJ_124 (by decide +kernel) (ns_bipush (c := 9) (by decide +kernel)) rfl ?_
    obtain ⟨r32, S33, h34, hr⟩ := nk_bde hr
    refine nk_callS (ci := 0) (n := 3) (x := 486) (len := 3) (j' := 143) (q' := 1) (r := r32) (S' := S33) (L2 := [(0, nk_r l1), (1, nk_i l6), (2, nk_i 9)]) (rest := []) (st' := [nk_i r32]) (pc' := 485) mJ_124 (by decide +kernel) (by decide +kernel) (Nat.le_of_ble_eq_true rfl) rfl rfl (Nat.le_of_ble_eq_true rfl) mJ_143 (Nat.le_of_ble_eq_true rfl) ja_Tpos rfl (ja_X13_isBelow_ok zs _ _ _ _ _ t_l1 h34) rfl ?_
    obtain ⟨h35, hr⟩ := nk_cke hr
    cases hr
    exact nk_iret (ty := .boolean) (len := 1) mJ_124 (by decide +kernel) rfl (nk_nar_z h35)
  have hr := nk_ifn hc39 hr
  by_cases hc40 : l3 = 42
  · have hr := nk_ifp hc40 hr
    refine nk_p (i := .tableswitch 474 2 45 #[190, 474, 207, 474, 474, 474, 474, 474, 474, 474, 474, 474, 474, 474, 474, 474, 251, 474, 474, 474, 474, 474, 474, 474, 223, 223, 229, 229, 474, 251, 262, 282, 307, 338, 354, 223, 223, 394, 394, 403, 412, 453, 474, 251]) (len := 190) (pc' := 486) mJ_124 (by decide +kernel) (ns_tsw (V := 42) hc40 (by decide +kernel)) rfl ?_
    refine nk_p (i := .aload_n 1) (len := 1) (pc' := 487) mJ_124 (by decide +kernel) (ns_aload_n 2 rfl rfl) rfl ?_
    refine nk_getC (f := (4, 1, 48)) (x := 343) (len := 3) (ci := 12) (k := 17) (pc' := 490) ja_okT mJ_124 (by decide +kernel) (by decide +kernel) (by decide +kernel) (by decide) t_l1 rfl ?_
    have t36 : nk_ar ja_Tt (ja_c l1 17) = some (1, 48) := nk_ta ja_okT t_l1 (by decide +kernel)
    refine nk_p (i := .aload_n 1) (len := 1) (pc' := 491) mJ_124 (by decide +kernel) (ns_aload_n 2 rfl rfl) rfl ?_
    refine nk_getC (f := (4, 1, 1024)) (x := 412) (len := 3) (ci := 12) (k := 25) (pc' := 494) ja_okT mJ_124 (by decide +kernel) (by decide +kernel) (by decide +kernel) (by decide) t_l1 rfl ?_
    have t37 : nk_ar ja_Tt (ja_c l1 25) = some (1, 1024) := nk_ta ja_okT t_l1 (by decide +kernel)
    refine nk_p (i := .iload_n 2) (len := 1) (pc' := 495) mJ_124 (by decide +kernel) (ns_iload_n 3 rfl rfl) rfl ?_
    obtain ⟨h38, hr⟩ := nk_cke hr
    refine nk_iald (len := 1) (N := 1024) (pc' := 496) mJ_124 (by decide +kernel) t37 h38.1 h38.2 rfl rfl ?_
    obtain ⟨h39, hr⟩ := nk_cke hr
    refine nk_iald (len := 1) (N := 48) (pc' := 497) mJ_124 (by decide +kernel) t36 h39.1 h39.2 rfl rfl ?_
    refine nk_p (i := .iconst (-1)) (len := 1) (pc' := 498) mJ_124 (by decide +kernel) (ns_iconst (c := (-1)) (by decide +kernel)) rfl ?_
    refine nk_icmp (c := .eq) (off := 27) (len := 3) (t := 525) (pc' := 501) mJ_124 (by decide +kernel) (by decide +kernel) rfl (fun hc => ?_) (fun hc => ?_)
    · have hr := nk_ifp (c := (S.1 (ja_c l1 17) (S.1 (ja_c l1 25) l2.toNat).toNat) = (-1)) hc hr
      refine nk_p (i := .iconst 0) (len := 1) (pc' := 526) mJ_124 (by decide +kernel) (ns_iconst (c := 0) (by decide +kernel)) rfl ?_
      cases hr
      exact nk_iret (ty := .boolean) (len := 1) mJ_124 (by decide +kernel) rfl (nk_nar_z (by decide))
    · have hr := nk_ifn (c := (S.1 (ja_c l1 17) (S.1 (ja_c l1 25) l2.toNat).toNat) = (-1)) hc hr
      refine nk_p (i := .aload_n 1) (len := 1) (pc' := 502) mJ_124 (by decide +kernel) (ns_aload_n 2 rfl rfl) rfl ?_
      refine nk_p (i := .iload 6) (len := 2) (pc' := 504) mJ_124 (by decide +kernel) (ns_iload 6 rfl) rfl ?_
      refine nk_p (i := .aload_n 1) (len := 1) (pc' := 505) mJ_124 (by decide +kernel) (ns_aload_n 2 rfl rfl) rfl ?_
      refine nk_getC (f := (4, 1, 48)) (x := 343) (len := 3) (ci := 12) (k := 17) (pc' := 508) ja_okT mJ_124 (by decide +kernel) (by decide +kernel) (by decide +kernel) (by decide) t_l1 rfl ?_
      refine nk_p (i := .aload_n 1) (len := 1) (pc' := 509) mJ_124 (by decide +kernel) (ns_aload_n 2 rfl rfl) rfl ?_
      refine nk_getC (f := (4, 1, 1024)) (x := 412) (len := 3) (ci := 12) (k := 25) (pc' := 512) ja_okT mJ_124 (by decide +kernel) (by decide +kernel) (by decide +kernel) (by decide) t_l1 rfl ?_
      refine nk_p (i := .iload_n 2) (len := 1) (pc' := 513) mJ_124 (by decide +kernel) (ns_iload_n 3 rfl rfl) rfl ?_
      refine nk_iald (len := 1) (N := 1024) (pc' := 514) mJ_124 (by decide +kernel) t37 h38.1 h38.2 rfl rfl ?_
      refine nk_iald (len := 1) (N := 48) (pc' := 515) mJ_124 (by decide +kernel) t36 h39.1 h39.2 rfl rfl ?_
      obtain ⟨r40, S41, h42, hr⟩ := nk_bde hr
      refine nk_callS (ci := 0) (n := 3) (x := 486) (len := 3) (j' := 143) (q' := 1) (r := r40) (S' := S41) (L2 := [(0, nk_r l1), (1, nk_i l6), (2, nk_i (S.1 (ja_c l1 17) (S.1 (ja_c l1 25) l2.toNat).toNat))]) (rest := []) (st' := [nk_i r40]) (pc' := 518) mJ_124 (by decide +kernel) (by decide +kernel) (Nat.le_of_ble_eq_true rfl) rfl rfl (Nat.le_of_ble_eq_true rfl) mJ_143 (Nat.le_of_ble_eq_true rfl) ja_Tpos rfl (ja_X13_isBelow_ok zs _ _ _ _ _ t_l1 h42) rfl ?_
      refine nk_icond (c := .eq) (off := 7) (len := 3) (t := 525) (pc' := 521) mJ_124 (by decide +kernel) (by decide +kernel) rfl (fun hc => ?_) (fun hc => ?_)
      · have hr := nk_ifp (c := r40 = 0) hc hr
        refine nk_p (i := .iconst 0) (len := 1) (pc' := 526) mJ_124 (by decide +kernel) (ns_iconst (c := 0) (by decide +kernel)) rfl ?_
        cases hr
        exact nk_iret (ty := .boolean) (len := 1) mJ_124 (by decide +kernel) rfl (nk_nar_z (by decide))
      · have hr := nk_ifn (c := r40 = 0) hc hr
        refine nk_p (i := .iconst 1) (len := 1) (pc' := 522) mJ_124 (by decide +kernel) (ns_iconst (c := 1) (by decide +kernel)) rfl ?_
        refine nk_p (i := .goto 4) (len := 3) (pc' := 526) mJ_124 (by decide +kernel) (ns_goto (by decide +kernel)) rfl ?_
        cases hr
        exact nk_iret (ty := .boolean) (len := 1) mJ_124 (by decide +kernel) rfl (nk_nar_z (by decide))
  have hr := nk_ifn hc40 hr
  by_cases hc41 : l3 = 43
  · have hr := nk_ifp hc41 hr
    refine nk_p (i := .tableswitch 474 2 45 #[190, 474, 207, 474, 474, 474, 474, 474, 474, 474, 474, 474, 474, 474, 474, 474, 251, 474, 474, 474, 474, 474, 474, 474, 223, 223, 229, 229, 474, 251, 262, 282, 307, 338, 354, 223, 223, 394, 394, 403, 412, 453, 474, 251]) (len := 190) (pc' := 527) mJ_124 (by decide +kernel) (ns_tsw (V := 43) hc41 (by decide +kernel)) rfl ?_
    refine nk_p (i := .aload_n 1) (len := 1) (pc' := 528) mJ_124 (by decide +kernel) (ns_aload_n 2 rfl rfl) rfl ?_
    refine nk_getC (f := (4, 1, 48)) (x := 343) (len := 3) (ci := 12) (k := 17) (pc' := 531) ja_okT mJ_124 (by decide +kernel) (by decide +kernel) (by decide +kernel) (by decide) t_l1 rfl ?_
    have t43 : nk_ar ja_Tt (ja_c l1 17) = some (1, 48) := nk_ta ja_okT t_l1 (by decide +kernel)
    refine nk_p (i := .aload_n 1) (len := 1) (pc' := 532) mJ_124 (by decide +kernel) (ns_aload_n 2 rfl rfl) rfl ?_
    refine nk_getC (f := (4, 1, 1024)) (x := 412) (len := 3) (ci := 12) (k := 25) (pc' := 535) ja_okT mJ_124 (by decide +kernel) (by decide +kernel) (by decide +kernel) (by decide) t_l1 rfl ?_
    have t44 : nk_ar ja_Tt (ja_c l1 25) = some (1, 1024) := nk_ta ja_okT t_l1 (by decide +kernel)
    refine nk_p (i := .iload_n 2) (len := 1) (pc' := 536) mJ_124 (by decide +kernel) (ns_iload_n 3 rfl rfl) rfl ?_
    obtain ⟨h45, hr⟩ := nk_cke hr
    refine nk_iald (len := 1) (N := 1024) (pc' := 537) mJ_124 (by decide +kernel) t44 h45.1 h45.2 rfl rfl ?_
    obtain ⟨h46, hr⟩ := nk_cke hr
    refine nk_iald (len := 1) (N := 48) (pc' := 538) mJ_124 (by decide +kernel) t43 h46.1 h46.2 rfl rfl ?_
    refine nk_p (i := .iconst (-1)) (len := 1) (pc' := 539) mJ_124 (by decide +kernel) (ns_iconst (c := (-1)) (by decide +kernel)) rfl ?_
    refine nk_icmp (c := .ne) (off := 7) (len := 3) (t := 546) (pc' := 542) mJ_124 (by decide +kernel) (by decide +kernel) rfl (fun hc => ?_) (fun hc => ?_)
    · have hr := nk_ifn (c := (S.1 (ja_c l1 17) (S.1 (ja_c l1 25) l2.toNat).toNat) = (-1)) hc hr
      refine nk_p (i := .iconst 0) (len := 1) (pc' := 547) mJ_124 (by decide +kernel) (ns_iconst (c := 0) (by decide +kernel)) rfl ?_
      cases hr
      exact nk_iret (ty := .boolean) (len := 1) mJ_124 (by decide +kernel) rfl (nk_nar_z (by decide))
    · have hr := nk_ifp (c := (S.1 (ja_c l1 17) (S.1 (ja_c l1 25) l2.toNat).toNat) = (-1)) (Decidable.of_not_not hc) hr
      refine nk_p (i := .iconst 1) (len := 1) (pc' := 543) mJ_124 (by decide +kernel) (ns_iconst (c := 1) (by decide +kernel)) rfl ?_
      refine nk_p (i := .goto 4) (len := 3) (pc' := 547) mJ_124 (by decide +kernel) (ns_goto (by decide +kernel)) rfl ?_
      cases hr
      exact nk_iret (ty := .boolean) (len := 1) mJ_124 (by decide +kernel) rfl (nk_nar_z (by decide))
  have hr := nk_ifn hc41 hr
  by_cases hc42 : l3 = 44
  · have hr := nk_ifp hc42 hr
    refine nk_p (i := .tableswitch 474 2 45 #[190, 474, 207, 474, 474, 474, 474, 474, 474, 474, 474, 474, 474, 474, 474, 474, 251, 474, 474, 474, 474, 474, 474, 474, 223, 223, 229, 229, 474, 251, 262, 282, 307, 338, 354, 223, 223, 394, 394, 403, 412, 453, 474, 251]) (len := 190) (pc' := 548) mJ_124 (by decide +kernel) (ns_tsw (V := 44) hc42 (by decide +kernel)) rfl ?_
    refine nk_sub [4, 6, 0] (L' := [(3, nk_i l3), (6, nk_i l6), (7, nk_i s0)]) rfl ?_
    exact ja_X13_fits_b548_ok zs _ _ _ _ _ hr
  have hr := nk_ifn hc42 hr
  by_cases hc43 : l3 = 45
  · have hr := nk_ifp hc43 hr
    refine nk_p (i := .tableswitch 474 2 45 #[190, 474, 207, 474, 474, 474, 474, 474, 474, 474, 474, 474, 474, 474, 474, 474, 251, 474, 474, 474, 474, 474, 474, 474, 223, 223, 229, 229, 474, 251, 262, 282, 307, 338, 354, 223, 223, 394, 394, 403, 412, 453, 474, 251]) (len := 190) (pc' := 325) mJ_124 (by decide +kernel) (ns_tsw (V := 45) hc43 (by decide +kernel)) rfl ?_
    refine nk_sub [6] (L' := [(6, nk_i l6)]) rfl ?_
    exact ja_X13_fits_b325_ok zs _ _ _ hr
  have hr := nk_ifn hc43 hr
  refine nk_p (i := .tableswitch 474 2 45 #[190, 474, 207, 474, 474, 474, 474, 474, 474, 474, 474, 474, 474, 474, 474, 474, 251, 474, 474, 474, 474, 474, 474, 474, 223, 223, 229, 229, 474, 251, 262, 282, 307, 338, 354, 223, 223, 394, 394, 403, 412, 453, 474, 251]) (len := 190) (pc' := 548) mJ_124 (by decide +kernel) (ns_tsd (by omega) (by decide +kernel)) rfl ?_
  refine nk_sub [4, 6, 0] (L' := [(3, nk_i l3), (6, nk_i l6), (7, nk_i s0)]) rfl ?_
  exact ja_X13_fits_b548_ok zs _ _ _ _ _ hr
noncomputable def ja_X13_fits_b48 (l0 : Nat) (l1 : Nat) (l2 : Int) (l3 : Int) (l4 : Int) (l5 : Int) (s0 : Int) (S : nk_S) : Option (Int × nk_S) :=
  if l5 ≤ 1 then
    ja_X13_fits_b71 l0 l1 l2 l3 l4 s0 2 S
  else
    if 0 ≤ (nk_w ((S.1 l0 25) - 2)) ∧ (nk_w ((S.1 l0 25) - 2)) < 24 then
    ja_X13_fits_b71 l0 l1 l2 l3 l4 s0 (S.1 (ja_c l0 24) (nk_w ((S.1 l0 25) - 2)).toNat) S
    else none
theorem ja_X13_fits_b48_ok (zs : List Int32) : ∀ (l0 : Nat) (l1 : Nat) (l2 : Int) (l3 : Int) (l4 : Int) (l5 : Int) (s0 : Int) (S : nk_S) (R : Int × nk_S), nk_cl ja_Tt l0 = some 13 → nk_cl ja_Tt l1 = some 12 → ja_X13_fits_b48 l0 l1 l2 l3 l4 l5 s0 S = some R → nk_K ja_Tt mi_Γ (mi_ev zs) 1 124 48 [(0, nk_r l0), (1, nk_r l1), (2, nk_i l2), (3, nk_i l3), (4, nk_i l4), (5, nk_i l5)] [nk_i s0] S R := by
  intro l0 l1 l2 l3 l4 l5 s0 S R t_l0 t_l1 hr
  unfold ja_X13_fits_b48 at hr
  refine nk_p (i := .istore 6) (len := 2) (pc' := 50) mJ_124 (by decide +kernel) (ns_istore (L' := [(6, nk_i s0), (0, nk_r l0), (1, nk_r l1), (2, nk_i l2), (3, nk_i l3), (4, nk_i l4), (5, nk_i l5)]) rfl rfl (by decide +kernel)) rfl ?_
  refine nk_p (i := .iload 5) (len := 2) (pc' := 52) mJ_124 (by decide +kernel) (ns_iload 6 rfl) rfl ?_
  refine nk_p (i := .iconst 1) (len := 1) (pc' := 53) mJ_124 (by decide +kernel) (ns_iconst (c := 1) (by decide +kernel)) rfl ?_
  refine nk_icmp (c := .le) (off := 17) (len := 3) (t := 70) (pc' := 56) mJ_124 (by decide +kernel) (by decide +kernel) rfl (fun hc => ?_) (fun hc => ?_)
  · have hr := nk_ifp (c := l5 ≤ 1) hc hr
    refine nk_p (i := .iconst 2) (len := 1) (pc' := 71) mJ_124 (by decide +kernel) (ns_iconst (c := 2) (by decide +kernel)) rfl ?_
    refine nk_sub [1, 2, 3, 4, 5, 0] (L' := [(0, nk_r l0), (1, nk_r l1), (2, nk_i l2), (3, nk_i l3), (4, nk_i l4), (6, nk_i s0)]) rfl ?_
    exact ja_X13_fits_b71_ok zs _ _ _ _ _ _ _ _ _ t_l0 t_l1 hr
  · have hr := nk_ifn (c := l5 ≤ 1) hc hr
    refine nk_p (i := .aload_n 0) (len := 1) (pc' := 57) mJ_124 (by decide +kernel) (ns_aload_n 1 rfl rfl) rfl ?_
    refine nk_getC (f := (4, 1, 24)) (x := 68) (len := 3) (ci := 13) (k := 24) (pc' := 60) ja_okT mJ_124 (by decide +kernel) (by decide +kernel) (by decide +kernel) (by decide) t_l0 rfl ?_
    have t1 : nk_ar ja_Tt (ja_c l0 24) = some (1, 24) := nk_ta ja_okT t_l0 (by decide +kernel)
    refine nk_p (i := .aload_n 0) (len := 1) (pc' := 61) mJ_124 (by decide +kernel) (ns_aload_n 1 rfl rfl) rfl ?_
    refine nk_getI (y := (0, 0)) (x := 495) (len := 3) (ci := 13) (k := 25) (pc' := 64) ja_okT mJ_124 (by decide +kernel) (by decide +kernel) (by decide +kernel) t_l0 rfl ?_
    refine nk_p (i := .iconst 2) (len := 1) (pc' := 65) mJ_124 (by decide +kernel) (ns_iconst (c := 2) (by decide +kernel)) rfl ?_
    refine nk_p (i := .isub) (len := 1) (pc' := 66) mJ_124 (by decide +kernel) ns_isub rfl ?_
    obtain ⟨h2, hr⟩ := nk_cke hr
    refine nk_iald (len := 1) (N := 24) (pc' := 67) mJ_124 (by decide +kernel) t1 h2.1 h2.2 rfl rfl ?_
    refine nk_p (i := .goto 4) (len := 3) (pc' := 71) mJ_124 (by decide +kernel) (ns_goto (by decide +kernel)) rfl ?_
    refine nk_sub [1, 2, 3, 4, 5, 0] (L' := [(0, nk_r l0), (1, nk_r l1), (2, nk_i l2), (3, nk_i l3), (4, nk_i l4), (6, nk_i s0)]) rfl ?_
    exact ja_X13_fits_b71_ok zs _ _ _ _ _ _ _ _ _ t_l0 t_l1 hr
noncomputable def ja_X13_fits (l0 : Nat) (l1 : Nat) (l2 : Int) (S : nk_S) : Option (Int × nk_S) :=
  nk_bd (ja_X13_typesAt l0 l1 l2 S) fun r1 S2 =>
  if 0 ≤ l2 ∧ l2 < 1024 then
  nk_lt (S2.1 (ja_c l1 22) l2.toNat) fun v6 =>
  nk_lt (S2.1 (ja_c l1 23) l2.toNat) fun v9 =>
  nk_bd (ja_X13_howMany l1 l2 S2) fun r11 S12 =>
  if r11 ≤ 0 then
    ja_X13_fits_b48 l0 l1 l2 v6 v9 r11 2 S12
  else
    if 0 ≤ (nk_w ((S12.1 l0 25) - 1)) ∧ (nk_w ((S12.1 l0 25) - 1)) < 24 then
    ja_X13_fits_b48 l0 l1 l2 v6 v9 r11 (S12.1 (ja_c l0 24) (nk_w ((S12.1 l0 25) - 1)).toNat) S12
    else none
  else none
theorem ja_X13_fits_ok (zs : List Int32) : ∀ (l0 : Nat) (l1 : Nat) (l2 : Int) (S : nk_S) (R : Int × nk_S), nk_cl ja_Tt l0 = some 13 → nk_cl ja_Tt l1 = some 12 → ja_X13_fits l0 l1 l2 S = some R → nk_K ja_Tt mi_Γ (mi_ev zs) 1 124 0 [(0, nk_r l0), (1, nk_r l1), (2, nk_i l2)] [] S R := by
  intro l0 l1 l2 S R t_l0 t_l1 hr
  unfold ja_X13_fits at hr
  refine nk_p (i := .aload_n 0) (len := 1) (pc' := 1) mJ_124 (by decide +kernel) (ns_aload_n 0 rfl rfl) rfl ?_
  refine nk_p (i := .aload_n 1) (len := 1) (pc' := 2) mJ_124 (by decide +kernel) (ns_aload_n 1 rfl rfl) rfl ?_
  refine nk_p (i := .iload_n 2) (len := 1) (pc' := 3) mJ_124 (by decide +kernel) (ns_iload_n 2 rfl rfl) rfl ?_
  obtain ⟨r1, S2, h3, hr⟩ := nk_bde hr
  refine nk_callV (ci := 13) (n := 2) (x := 498) (len := 3) (j' := 238) (q' := 0) (r := r1) (S' := S2) (L2 := [(0, nk_r l0), (1, nk_r l1), (2, nk_i l2)]) (rest := []) (st' := []) (pc' := 6) mJ_124 (by decide +kernel) (by decide +kernel) rfl rfl t_l0 (Nat.le_of_ble_eq_true rfl) mJ_238 (Nat.le_of_ble_eq_true rfl) rfl (ja_X13_typesAt_ok zs _ _ _ _ _ t_l0 t_l1 h3) rfl ?_
  refine nk_p (i := .aload_n 1) (len := 1) (pc' := 7) mJ_124 (by decide +kernel) (ns_aload_n 1 rfl rfl) rfl ?_
  refine nk_getC (f := (4, 1, 1024)) (x := 391) (len := 3) (ci := 12) (k := 22) (pc' := 10) ja_okT mJ_124 (by decide +kernel) (by decide +kernel) (by decide +kernel) (by decide) t_l1 rfl ?_
  have t4 : nk_ar ja_Tt (ja_c l1 22) = some (1, 1024) := nk_ta ja_okT t_l1 (by decide +kernel)
  refine nk_p (i := .iload_n 2) (len := 1) (pc' := 11) mJ_124 (by decide +kernel) (ns_iload_n 2 rfl rfl) rfl ?_
  obtain ⟨h5, hr⟩ := nk_cke hr
  refine nk_iald (len := 1) (N := 1024) (pc' := 12) mJ_124 (by decide +kernel) t4 h5.1 h5.2 rfl rfl ?_
  obtain ⟨v6, h7, hr⟩ := nk_lte hr
  refine nk_p (i := .istore_n 3) (len := 1) (pc' := 13) mJ_124 (by decide +kernel) (ns_istore_n (L' := [(3, nk_i v6), (0, nk_r l0), (1, nk_r l1), (2, nk_i l2)]) h7 rfl rfl (by decide +kernel)) rfl ?_
  refine nk_p (i := .aload_n 1) (len := 1) (pc' := 14) mJ_124 (by decide +kernel) (ns_aload_n 2 rfl rfl) rfl ?_
  refine nk_getC (f := (4, 1, 1024)) (x := 414) (len := 3) (ci := 12) (k := 23) (pc' := 17) ja_okT mJ_124 (by decide +kernel) (by decide +kernel) (by decide +kernel) (by decide) t_l1 rfl ?_
  have t8 : nk_ar ja_Tt (ja_c l1 23) = some (1, 1024) := nk_ta ja_okT t_l1 (by decide +kernel)
  refine nk_p (i := .iload_n 2) (len := 1) (pc' := 18) mJ_124 (by decide +kernel) (ns_iload_n 3 rfl rfl) rfl ?_
  refine nk_iald (len := 1) (N := 1024) (pc' := 19) mJ_124 (by decide +kernel) t8 h5.1 h5.2 rfl rfl ?_
  obtain ⟨v9, h10, hr⟩ := nk_lte hr
  refine nk_p (i := .istore 4) (len := 2) (pc' := 21) mJ_124 (by decide +kernel) (ns_istore (L' := [(4, nk_i v9), (3, nk_i v6), (0, nk_r l0), (1, nk_r l1), (2, nk_i l2)]) h10 rfl (by decide +kernel)) rfl ?_
  refine nk_p (i := .aload_n 1) (len := 1) (pc' := 22) mJ_124 (by decide +kernel) (ns_aload_n 3 rfl rfl) rfl ?_
  refine nk_p (i := .iload_n 2) (len := 1) (pc' := 23) mJ_124 (by decide +kernel) (ns_iload_n 4 rfl rfl) rfl ?_
  obtain ⟨r11, S12, h13, hr⟩ := nk_bde hr
  refine nk_callS (ci := 0) (n := 2) (x := 477) (len := 3) (j' := 134) (q' := 1) (r := r11) (S' := S12) (L2 := [(0, nk_r l1), (1, nk_i l2)]) (rest := []) (st' := [nk_i r11]) (pc' := 26) mJ_124 (by decide +kernel) (by decide +kernel) (Nat.le_of_ble_eq_true rfl) rfl rfl (Nat.le_of_ble_eq_true rfl) mJ_134 (Nat.le_of_ble_eq_true rfl) ja_Tpos rfl (ja_X13_howMany_ok zs _ _ _ _ t_l1 h13) rfl ?_
  refine nk_p (i := .istore 5) (len := 2) (pc' := 28) mJ_124 (by decide +kernel) (ns_istore (L' := [(5, nk_i r11), (4, nk_i v9), (3, nk_i v6), (0, nk_r l0), (1, nk_r l1), (2, nk_i l2)]) rfl rfl (by decide +kernel)) rfl ?_
  refine nk_p (i := .iload 5) (len := 2) (pc' := 30) mJ_124 (by decide +kernel) (ns_iload 0 rfl) rfl ?_
  refine nk_icond (c := .le) (off := 17) (len := 3) (t := 47) (pc' := 33) mJ_124 (by decide +kernel) (by decide +kernel) rfl (fun hc => ?_) (fun hc => ?_)
  · have hr := nk_ifp (c := r11 ≤ 0) hc hr
    refine nk_p (i := .iconst 2) (len := 1) (pc' := 48) mJ_124 (by decide +kernel) (ns_iconst (c := 2) (by decide +kernel)) rfl ?_
    refine nk_sub [3, 4, 5, 2, 1, 0] (L' := [(0, nk_r l0), (1, nk_r l1), (2, nk_i l2), (3, nk_i v6), (4, nk_i v9), (5, nk_i r11)]) rfl ?_
    exact ja_X13_fits_b48_ok zs _ _ _ _ _ _ _ _ _ t_l0 t_l1 hr
  · have hr := nk_ifn (c := r11 ≤ 0) hc hr
    refine nk_p (i := .aload_n 0) (len := 1) (pc' := 34) mJ_124 (by decide +kernel) (ns_aload_n 3 rfl rfl) rfl ?_
    refine nk_getC (f := (4, 1, 24)) (x := 68) (len := 3) (ci := 13) (k := 24) (pc' := 37) ja_okT mJ_124 (by decide +kernel) (by decide +kernel) (by decide +kernel) (by decide) t_l0 rfl ?_
    have t14 : nk_ar ja_Tt (ja_c l0 24) = some (1, 24) := nk_ta ja_okT t_l0 (by decide +kernel)
    refine nk_p (i := .aload_n 0) (len := 1) (pc' := 38) mJ_124 (by decide +kernel) (ns_aload_n 3 rfl rfl) rfl ?_
    refine nk_getI (y := (0, 0)) (x := 495) (len := 3) (ci := 13) (k := 25) (pc' := 41) ja_okT mJ_124 (by decide +kernel) (by decide +kernel) (by decide +kernel) t_l0 rfl ?_
    refine nk_p (i := .iconst 1) (len := 1) (pc' := 42) mJ_124 (by decide +kernel) (ns_iconst (c := 1) (by decide +kernel)) rfl ?_
    refine nk_p (i := .isub) (len := 1) (pc' := 43) mJ_124 (by decide +kernel) ns_isub rfl ?_
    obtain ⟨h15, hr⟩ := nk_cke hr
    refine nk_iald (len := 1) (N := 24) (pc' := 44) mJ_124 (by decide +kernel) t14 h15.1 h15.2 rfl rfl ?_
    refine nk_p (i := .goto 4) (len := 3) (pc' := 48) mJ_124 (by decide +kernel) (ns_goto (by decide +kernel)) rfl ?_
    refine nk_sub [3, 4, 5, 2, 1, 0] (L' := [(0, nk_r l0), (1, nk_r l1), (2, nk_i l2), (3, nk_i v6), (4, nk_i v9), (5, nk_i r11)]) rfl ?_
    exact ja_X13_fits_b48_ok zs _ _ _ _ _ _ _ _ _ t_l0 t_l1 hr
/-! SafeCodeModel types (LSafeCodeModel$Program;I)Z -/
noncomputable def ja_X13_types_b168 (rec168 : Nat → Nat → Int → Int → nk_S → Option (Int × nk_S)) (l0 : Nat) (l1 : Nat) (l2 : Int) (l5 : Int) (S : nk_S) : Option (Int × nk_S) :=
  if 0 ≤ l2 ∧ l2 < 48 then
  if (S.1 (ja_c l1 20) l2.toNat) ≤ l5 then
    some (1, S)
  else
    if 0 ≤ l5 ∧ l5 < 1024 then
    if (S.1 (ja_c l0 22) l5.toNat) = 0 then
      nk_lt (nk_w (l5 + 1)) fun v5 =>
      rec168 l0 l1 l2 v5 S
    else
      nk_bd (ja_X13_fits l0 l1 l5 S) fun r7 S8 =>
      if r7 = 0 then
        nk_bd (ja_X13_wrong l0 (S8.1 (ja_c l0 20) l5.toNat) S8) fun r13 S14 =>
        if r13 = 0 ∨ r13 = 1 then
        some (r13, S14)
        else none
      else
        nk_lt (nk_w (l5 + 1)) fun v10 =>
        rec168 l0 l1 l2 v10 S8
    else none
  else none
theorem ja_X13_types_b168_ok (zs : List Int32) {rec168 : Nat → Nat → Int → Int → nk_S → Option (Int × nk_S)} (hrec168 : ∀ (l0 : Nat) (l1 : Nat) (l2 : Int) (l5 : Int) (S : nk_S) (R : Int × nk_S), nk_cl ja_Tt l0 = some 13 → nk_cl ja_Tt l1 = some 12 → rec168 l0 l1 l2 l5 S = some R → nk_K ja_Tt mi_Γ (mi_ev zs) 1 237 168 [(0, nk_r l0), (1, nk_r l1), (2, nk_i l2), (5, nk_i l5)] [] S R) : ∀ (l0 : Nat) (l1 : Nat) (l2 : Int) (l5 : Int) (S : nk_S) (R : Int × nk_S), nk_cl ja_Tt l0 = some 13 → nk_cl ja_Tt l1 = some 12 → ja_X13_types_b168 rec168 l0 l1 l2 l5 S = some R → nk_K ja_Tt mi_Γ (mi_ev zs) 1 237 168 [(0, nk_r l0), (1, nk_r l1), (2, nk_i l2), (5, nk_i l5)] [] S R := by
  intro l0 l1 l2 l5 S R t_l0 t_l1 hr
  unfold ja_X13_types_b168 at hr
  refine nk_p (i := .iload 5) (len := 2) (pc' := 170) mJ_237 (by decide +kernel) (ns_iload 3 rfl) rfl ?_
  refine nk_p (i := .aload_n 1) (len := 1) (pc' := 171) mJ_237 (by decide +kernel) (ns_aload_n 1 rfl rfl) rfl ?_
  refine nk_getC (f := (4, 1, 48)) (x := 378) (len := 3) (ci := 12) (k := 20) (pc' := 174) ja_okT mJ_237 (by decide +kernel) (by decide +kernel) (by decide +kernel) (by decide) t_l1 rfl ?_
  have t1 : nk_ar ja_Tt (ja_c l1 20) = some (1, 48) := nk_ta ja_okT t_l1 (by decide +kernel)
  refine nk_p (i := .iload_n 2) (len := 1) (pc' := 175) mJ_237 (by decide +kernel) (ns_iload_n 2 rfl rfl) rfl ?_
  obtain ⟨h2, hr⟩ := nk_cke hr
  refine nk_iald (len := 1) (N := 48) (pc' := 176) mJ_237 (by decide +kernel) t1 h2.1 h2.2 rfl rfl ?_
  refine nk_icmp (c := .ge) (off := 41) (len := 3) (t := 217) (pc' := 179) mJ_237 (by decide +kernel) (by decide +kernel) rfl (fun hc => ?_) (fun hc => ?_)
  · have hr := nk_ifp (c := (S.1 (ja_c l1 20) l2.toNat) ≤ l5) hc hr
    refine nk_p (i := .iconst 1) (len := 1) (pc' := 218) mJ_237 (by decide +kernel) (ns_iconst (c := 1) (by decide +kernel)) rfl ?_
    cases hr
    exact nk_iret (ty := .boolean) (len := 1) mJ_237 (by decide +kernel) rfl (nk_nar_z (by decide))
  · have hr := nk_ifn (c := (S.1 (ja_c l1 20) l2.toNat) ≤ l5) hc hr
    refine nk_p (i := .aload_n 0) (len := 1) (pc' := 180) mJ_237 (by decide +kernel) (ns_aload_n 0 rfl rfl) rfl ?_
    refine nk_getC (f := (4, 3, 1024)) (x := 61) (len := 3) (ci := 13) (k := 22) (pc' := 183) ja_okT mJ_237 (by decide +kernel) (by decide +kernel) (by decide +kernel) (by decide) t_l0 rfl ?_
    have t3 : nk_ar ja_Tt (ja_c l0 22) = some (3, 1024) := nk_ta ja_okT t_l0 (by decide +kernel)
    refine nk_p (i := .iload 5) (len := 2) (pc' := 185) mJ_237 (by decide +kernel) (ns_iload 3 rfl) rfl ?_
    obtain ⟨h4, hr⟩ := nk_cke hr
    refine nk_bald (t := 3) (len := 1) (N := 1024) (pc' := 186) mJ_237 (by decide +kernel) t3 (by decide) h4.1 h4.2 rfl rfl ?_
    refine nk_icond (c := .eq) (off := 25) (len := 3) (t := 211) (pc' := 189) mJ_237 (by decide +kernel) (by decide +kernel) rfl (fun hc => ?_) (fun hc => ?_)
    · have hr := nk_ifp (c := (S.1 (ja_c l0 22) l5.toNat) = 0) hc hr
      obtain ⟨v5, h6, hr⟩ := nk_lte hr
      refine nk_p (i := .iinc 5 1) (len := 3) (pc' := 214) mJ_237 (by decide +kernel) (ns_iinc (c := 1) (L' := [(5, nk_i v5), (0, nk_r l0), (1, nk_r l1), (2, nk_i l2)]) 3 rfl (by decide +kernel) h6 rfl (by decide +kernel)) rfl ?_
      refine nk_p (i := .goto (-46)) (len := 3) (pc' := 168) mJ_237 (by decide +kernel) (ns_goto (by decide +kernel)) rfl ?_
      refine nk_sub [1, 2, 3, 0] (L' := [(0, nk_r l0), (1, nk_r l1), (2, nk_i l2), (5, nk_i v5)]) rfl ?_
      exact hrec168 _ _ _ _ _ _ t_l0 t_l1 hr
    · have hr := nk_ifn (c := (S.1 (ja_c l0 22) l5.toNat) = 0) hc hr
      refine nk_p (i := .aload_n 0) (len := 1) (pc' := 190) mJ_237 (by decide +kernel) (ns_aload_n 0 rfl rfl) rfl ?_
      refine nk_p (i := .aload_n 1) (len := 1) (pc' := 191) mJ_237 (by decide +kernel) (ns_aload_n 1 rfl rfl) rfl ?_
      refine nk_p (i := .iload 5) (len := 2) (pc' := 193) mJ_237 (by decide +kernel) (ns_iload 3 rfl) rfl ?_
      obtain ⟨r7, S8, h9, hr⟩ := nk_bde hr
      refine nk_callV (ci := 13) (n := 2) (x := 492) (len := 3) (j' := 124) (q' := 1) (r := r7) (S' := S8) (L2 := [(0, nk_r l0), (1, nk_r l1), (2, nk_i l5)]) (rest := []) (st' := [nk_i r7]) (pc' := 196) mJ_237 (by decide +kernel) (by decide +kernel) rfl rfl t_l0 (Nat.le_of_ble_eq_true rfl) mJ_124 (Nat.le_of_ble_eq_true rfl) rfl (ja_X13_fits_ok zs _ _ _ _ _ t_l0 t_l1 h9) rfl ?_
      refine nk_icond (c := .ne) (off := 15) (len := 3) (t := 211) (pc' := 199) mJ_237 (by decide +kernel) (by decide +kernel) rfl (fun hc => ?_) (fun hc => ?_)
      · have hr := nk_ifn (c := r7 = 0) hc hr
        obtain ⟨v10, h11, hr⟩ := nk_lte hr
        refine nk_p (i := .iinc 5 1) (len := 3) (pc' := 214) mJ_237 (by decide +kernel) (ns_iinc (c := 1) (L' := [(5, nk_i v10), (0, nk_r l0), (1, nk_r l1), (2, nk_i l2)]) 3 rfl (by decide +kernel) h11 rfl (by decide +kernel)) rfl ?_
        refine nk_p (i := .goto (-46)) (len := 3) (pc' := 168) mJ_237 (by decide +kernel) (ns_goto (by decide +kernel)) rfl ?_
        refine nk_sub [1, 2, 3, 0] (L' := [(0, nk_r l0), (1, nk_r l1), (2, nk_i l2), (5, nk_i v10)]) rfl ?_
        exact hrec168 _ _ _ _ _ _ t_l0 t_l1 hr
      · have hr := nk_ifp (c := r7 = 0) (Decidable.of_not_not hc) hr
        refine nk_p (i := .aload_n 0) (len := 1) (pc' := 200) mJ_237 (by decide +kernel) (ns_aload_n 0 rfl rfl) rfl ?_
        refine nk_p (i := .aload_n 0) (len := 1) (pc' := 201) mJ_237 (by decide +kernel) (ns_aload_n 0 rfl rfl) rfl ?_
        refine nk_getC (f := (4, 1, 1024)) (x := 55) (len := 3) (ci := 13) (k := 20) (pc' := 204) ja_okT mJ_237 (by decide +kernel) (by decide +kernel) (by decide +kernel) (by decide) t_l0 rfl ?_
        have t12 : nk_ar ja_Tt (ja_c l0 20) = some (1, 1024) := nk_ta ja_okT t_l0 (by decide +kernel)
        refine nk_p (i := .iload 5) (len := 2) (pc' := 206) mJ_237 (by decide +kernel) (ns_iload 3 rfl) rfl ?_
        refine nk_iald (len := 1) (N := 1024) (pc' := 207) mJ_237 (by decide +kernel) t12 h4.1 h4.2 rfl rfl ?_
        obtain ⟨r13, S14, h15, hr⟩ := nk_bde hr
        refine nk_callV (ci := 13) (n := 1) (x := 290) (len := 3) (j' := 246) (q' := 1) (r := r13) (S' := S14) (L2 := [(0, nk_r l0), (1, nk_i (S8.1 (ja_c l0 20) l5.toNat))]) (rest := []) (st' := [nk_i r13]) (pc' := 210) mJ_237 (by decide +kernel) (by decide +kernel) rfl rfl t_l0 (Nat.le_of_ble_eq_true rfl) mJ_246 (Nat.le_of_ble_eq_true rfl) rfl (ja_X13_wrong_ok zs _ _ _ _ t_l0 h15) rfl ?_
        obtain ⟨h16, hr⟩ := nk_cke hr
        cases hr
        exact nk_iret (ty := .boolean) (len := 1) mJ_237 (by decide +kernel) rfl (nk_nar_z h16)
noncomputable def ja_X13_types_L168 : Nat → Nat → Nat → Int → Int → nk_S → Option (Int × nk_S)
  | 0, _, _, _, _, _ => none
  | n + 1, l0, l1, l2, l5, S => ja_X13_types_b168 (ja_X13_types_L168 n) l0 l1 l2 l5 S
theorem ja_X13_types_L168_ok (zs : List Int32) : ∀ n : Nat, ∀ (l0 : Nat) (l1 : Nat) (l2 : Int) (l5 : Int) (S : nk_S) (R : Int × nk_S), nk_cl ja_Tt l0 = some 13 → nk_cl ja_Tt l1 = some 12 → ja_X13_types_L168 n l0 l1 l2 l5 S = some R → nk_K ja_Tt mi_Γ (mi_ev zs) 1 237 168 [(0, nk_r l0), (1, nk_r l1), (2, nk_i l2), (5, nk_i l5)] [] S R := by
  intro n
  induction n with
  | zero => intro _ _ _ _ _ _ _ _ hr; cases hr
  | succ n ih => intro l0 l1 l2 l5 S R t_l0 t_l1 hr; exact ja_X13_types_b168_ok zs ih l0 l1 l2 l5 S R t_l0 t_l1 hr
noncomputable def ja_X13_types_b149 (rec102 : Nat → Nat → Int → Int → Int → nk_S → Option (Int × nk_S)) (rec113 : Nat → Nat → Int → Int → Int → Int → nk_S → Option (Int × nk_S)) (l0 : Nat) (l1 : Nat) (l2 : Int) (l3 : Int) (l5 : Int) (S : nk_S) : Option (Int × nk_S) :=
  nk_lt (nk_w (l5 + 1)) fun v1 =>
  rec113 l0 l1 l2 l3 1 v1 S
theorem ja_X13_types_b149_ok (zs : List Int32) {rec102 : Nat → Nat → Int → Int → Int → nk_S → Option (Int × nk_S)} (hrec102 : ∀ (l0 : Nat) (l1 : Nat) (l2 : Int) (l3 : Int) (l4 : Int) (S : nk_S) (R : Int × nk_S), nk_cl ja_Tt l0 = some 13 → nk_cl ja_Tt l1 = some 12 → rec102 l0 l1 l2 l3 l4 S = some R → nk_K ja_Tt mi_Γ (mi_ev zs) 1 237 102 [(0, nk_r l0), (1, nk_r l1), (2, nk_i l2), (3, nk_i l3), (4, nk_i l4)] [] S R) {rec113 : Nat → Nat → Int → Int → Int → Int → nk_S → Option (Int × nk_S)} (hrec113 : ∀ (l0 : Nat) (l1 : Nat) (l2 : Int) (l3 : Int) (l4 : Int) (l5 : Int) (S : nk_S) (R : Int × nk_S), nk_cl ja_Tt l0 = some 13 → nk_cl ja_Tt l1 = some 12 → rec113 l0 l1 l2 l3 l4 l5 S = some R → nk_K ja_Tt mi_Γ (mi_ev zs) 1 237 113 [(0, nk_r l0), (1, nk_r l1), (2, nk_i l2), (3, nk_i l3), (4, nk_i l4), (5, nk_i l5)] [] S R) : ∀ (l0 : Nat) (l1 : Nat) (l2 : Int) (l3 : Int) (l5 : Int) (S : nk_S) (R : Int × nk_S), nk_cl ja_Tt l0 = some 13 → nk_cl ja_Tt l1 = some 12 → ja_X13_types_b149 rec102 rec113 l0 l1 l2 l3 l5 S = some R → nk_K ja_Tt mi_Γ (mi_ev zs) 1 237 149 [(0, nk_r l0), (1, nk_r l1), (2, nk_i l2), (3, nk_i l3), (5, nk_i l5)] [] S R := by
  intro l0 l1 l2 l3 l5 S R t_l0 t_l1 hr
  unfold ja_X13_types_b149 at hr
  refine nk_p (i := .iconst 1) (len := 1) (pc' := 150) mJ_237 (by decide +kernel) (ns_iconst (c := 1) (by decide +kernel)) rfl ?_
  refine nk_p (i := .goto 4) (len := 3) (pc' := 154) mJ_237 (by decide +kernel) (ns_goto (by decide +kernel)) rfl ?_
  refine nk_p (i := .istore 4) (len := 2) (pc' := 156) mJ_237 (by decide +kernel) (ns_istore (L' := [(4, nk_i 1), (0, nk_r l0), (1, nk_r l1), (2, nk_i l2), (3, nk_i l3), (5, nk_i l5)]) rfl rfl (by decide +kernel)) rfl ?_
  obtain ⟨v1, h2, hr⟩ := nk_lte hr
  refine nk_p (i := .iinc 5 1) (len := 3) (pc' := 159) mJ_237 (by decide +kernel) (ns_iinc (c := 1) (L' := [(5, nk_i v1), (4, nk_i 1), (0, nk_r l0), (1, nk_r l1), (2, nk_i l2), (3, nk_i l3)]) 5 rfl (by decide +kernel) h2 rfl (by decide +kernel)) rfl ?_
  refine nk_p (i := .goto (-46)) (len := 3) (pc' := 113) mJ_237 (by decide +kernel) (ns_goto (by decide +kernel)) rfl ?_
  refine nk_sub [2, 3, 4, 5, 1, 0] (L' := [(0, nk_r l0), (1, nk_r l1), (2, nk_i l2), (3, nk_i l3), (4, nk_i 1), (5, nk_i v1)]) rfl ?_
  exact hrec113 _ _ _ _ _ _ _ _ t_l0 t_l1 hr
noncomputable def ja_X13_types_b113 (rec102 : Nat → Nat → Int → Int → Int → nk_S → Option (Int × nk_S)) (rec113 : Nat → Nat → Int → Int → Int → Int → nk_S → Option (Int × nk_S)) (l0 : Nat) (l1 : Nat) (l2 : Int) (l3 : Int) (l4 : Int) (l5 : Int) (S : nk_S) : Option (Int × nk_S) :=
  if 0 ≤ l2 ∧ l2 < 48 then
  if (S.1 (ja_c l1 20) l2.toNat) ≤ l5 then
    rec102 l0 l1 l2 l3 l4 S
  else
    if 0 ≤ l5 ∧ l5 < 1024 then
    if (S.1 (ja_c l0 22) l5.toNat) = 0 then
      nk_lt (nk_w (l5 + 1)) fun v5 =>
      rec113 l0 l1 l2 l3 l4 v5 S
    else
      nk_bd (ja_X13_typesOn l0 l1 l5 S) fun r7 S8 =>
      if r7 = 0 then
        if l4 = 0 then
          nk_lt (nk_w (l5 + 1)) fun v10 =>
          rec113 l0 l1 l2 l3 0 v10 S8
        else
          ja_X13_types_b149 rec102 rec113 l0 l1 l2 l3 l5 S8
      else
        ja_X13_types_b149 rec102 rec113 l0 l1 l2 l3 l5 S8
    else none
  else none
theorem ja_X13_types_b113_ok (zs : List Int32) {rec102 : Nat → Nat → Int → Int → Int → nk_S → Option (Int × nk_S)} (hrec102 : ∀ (l0 : Nat) (l1 : Nat) (l2 : Int) (l3 : Int) (l4 : Int) (S : nk_S) (R : Int × nk_S), nk_cl ja_Tt l0 = some 13 → nk_cl ja_Tt l1 = some 12 → rec102 l0 l1 l2 l3 l4 S = some R → nk_K ja_Tt mi_Γ (mi_ev zs) 1 237 102 [(0, nk_r l0), (1, nk_r l1), (2, nk_i l2), (3, nk_i l3), (4, nk_i l4)] [] S R) {rec113 : Nat → Nat → Int → Int → Int → Int → nk_S → Option (Int × nk_S)} (hrec113 : ∀ (l0 : Nat) (l1 : Nat) (l2 : Int) (l3 : Int) (l4 : Int) (l5 : Int) (S : nk_S) (R : Int × nk_S), nk_cl ja_Tt l0 = some 13 → nk_cl ja_Tt l1 = some 12 → rec113 l0 l1 l2 l3 l4 l5 S = some R → nk_K ja_Tt mi_Γ (mi_ev zs) 1 237 113 [(0, nk_r l0), (1, nk_r l1), (2, nk_i l2), (3, nk_i l3), (4, nk_i l4), (5, nk_i l5)] [] S R) : ∀ (l0 : Nat) (l1 : Nat) (l2 : Int) (l3 : Int) (l4 : Int) (l5 : Int) (S : nk_S) (R : Int × nk_S), nk_cl ja_Tt l0 = some 13 → nk_cl ja_Tt l1 = some 12 → ja_X13_types_b113 rec102 rec113 l0 l1 l2 l3 l4 l5 S = some R → nk_K ja_Tt mi_Γ (mi_ev zs) 1 237 113 [(0, nk_r l0), (1, nk_r l1), (2, nk_i l2), (3, nk_i l3), (4, nk_i l4), (5, nk_i l5)] [] S R := by
  intro l0 l1 l2 l3 l4 l5 S R t_l0 t_l1 hr
  unfold ja_X13_types_b113 at hr
  refine nk_p (i := .iload 5) (len := 2) (pc' := 115) mJ_237 (by decide +kernel) (ns_iload 5 rfl) rfl ?_
  refine nk_p (i := .aload_n 1) (len := 1) (pc' := 116) mJ_237 (by decide +kernel) (ns_aload_n 1 rfl rfl) rfl ?_
  refine nk_getC (f := (4, 1, 48)) (x := 378) (len := 3) (ci := 12) (k := 20) (pc' := 119) ja_okT mJ_237 (by decide +kernel) (by decide +kernel) (by decide +kernel) (by decide) t_l1 rfl ?_
  have t1 : nk_ar ja_Tt (ja_c l1 20) = some (1, 48) := nk_ta ja_okT t_l1 (by decide +kernel)
  refine nk_p (i := .iload_n 2) (len := 1) (pc' := 120) mJ_237 (by decide +kernel) (ns_iload_n 2 rfl rfl) rfl ?_
  obtain ⟨h2, hr⟩ := nk_cke hr
  refine nk_iald (len := 1) (N := 48) (pc' := 121) mJ_237 (by decide +kernel) t1 h2.1 h2.2 rfl rfl ?_
  refine nk_icmp (c := .ge) (off := 41) (len := 3) (t := 162) (pc' := 124) mJ_237 (by decide +kernel) (by decide +kernel) rfl (fun hc => ?_) (fun hc => ?_)
  · have hr := nk_ifp (c := (S.1 (ja_c l1 20) l2.toNat) ≤ l5) hc hr
    refine nk_p (i := .goto (-60)) (len := 3) (pc' := 102) mJ_237 (by decide +kernel) (ns_goto (by decide +kernel)) rfl ?_
    refine nk_sub [0, 1, 2, 3, 4] (L' := [(0, nk_r l0), (1, nk_r l1), (2, nk_i l2), (3, nk_i l3), (4, nk_i l4)]) rfl ?_
    exact hrec102 _ _ _ _ _ _ _ t_l0 t_l1 hr
  · have hr := nk_ifn (c := (S.1 (ja_c l1 20) l2.toNat) ≤ l5) hc hr
    refine nk_p (i := .aload_n 0) (len := 1) (pc' := 125) mJ_237 (by decide +kernel) (ns_aload_n 0 rfl rfl) rfl ?_
    refine nk_getC (f := (4, 3, 1024)) (x := 61) (len := 3) (ci := 13) (k := 22) (pc' := 128) ja_okT mJ_237 (by decide +kernel) (by decide +kernel) (by decide +kernel) (by decide) t_l0 rfl ?_
    have t3 : nk_ar ja_Tt (ja_c l0 22) = some (3, 1024) := nk_ta ja_okT t_l0 (by decide +kernel)
    refine nk_p (i := .iload 5) (len := 2) (pc' := 130) mJ_237 (by decide +kernel) (ns_iload 5 rfl) rfl ?_
    obtain ⟨h4, hr⟩ := nk_cke hr
    refine nk_bald (t := 3) (len := 1) (N := 1024) (pc' := 131) mJ_237 (by decide +kernel) t3 (by decide) h4.1 h4.2 rfl rfl ?_
    refine nk_icond (c := .eq) (off := 25) (len := 3) (t := 156) (pc' := 134) mJ_237 (by decide +kernel) (by decide +kernel) rfl (fun hc => ?_) (fun hc => ?_)
    · have hr := nk_ifp (c := (S.1 (ja_c l0 22) l5.toNat) = 0) hc hr
      obtain ⟨v5, h6, hr⟩ := nk_lte hr
      refine nk_p (i := .iinc 5 1) (len := 3) (pc' := 159) mJ_237 (by decide +kernel) (ns_iinc (c := 1) (L' := [(5, nk_i v5), (0, nk_r l0), (1, nk_r l1), (2, nk_i l2), (3, nk_i l3), (4, nk_i l4)]) 5 rfl (by decide +kernel) h6 rfl (by decide +kernel)) rfl ?_
      refine nk_p (i := .goto (-46)) (len := 3) (pc' := 113) mJ_237 (by decide +kernel) (ns_goto (by decide +kernel)) rfl ?_
      refine nk_sub [1, 2, 3, 4, 5, 0] (L' := [(0, nk_r l0), (1, nk_r l1), (2, nk_i l2), (3, nk_i l3), (4, nk_i l4), (5, nk_i v5)]) rfl ?_
      exact hrec113 _ _ _ _ _ _ _ _ t_l0 t_l1 hr
    · have hr := nk_ifn (c := (S.1 (ja_c l0 22) l5.toNat) = 0) hc hr
      refine nk_p (i := .aload_n 0) (len := 1) (pc' := 135) mJ_237 (by decide +kernel) (ns_aload_n 0 rfl rfl) rfl ?_
      refine nk_p (i := .aload_n 1) (len := 1) (pc' := 136) mJ_237 (by decide +kernel) (ns_aload_n 1 rfl rfl) rfl ?_
      refine nk_p (i := .iload 5) (len := 2) (pc' := 138) mJ_237 (by decide +kernel) (ns_iload 5 rfl) rfl ?_
      obtain ⟨r7, S8, h9, hr⟩ := nk_bde hr
      refine nk_callV (ci := 13) (n := 2) (x := 489) (len := 3) (j' := 240) (q' := 1) (r := r7) (S' := S8) (L2 := [(0, nk_r l0), (1, nk_r l1), (2, nk_i l5)]) (rest := []) (st' := [nk_i r7]) (pc' := 141) mJ_237 (by decide +kernel) (by decide +kernel) rfl rfl t_l0 (Nat.le_of_ble_eq_true rfl) mJ_240 (Nat.le_of_ble_eq_true rfl) rfl (ja_X13_typesOn_ok zs _ _ _ _ _ t_l0 t_l1 h9) rfl ?_
      refine nk_icond (c := .ne) (off := 8) (len := 3) (t := 149) (pc' := 144) mJ_237 (by decide +kernel) (by decide +kernel) rfl (fun hc => ?_) (fun hc => ?_)
      · have hr := nk_ifn (c := r7 = 0) hc hr
        refine nk_sub [0, 1, 2, 3, 5] (L' := [(0, nk_r l0), (1, nk_r l1), (2, nk_i l2), (3, nk_i l3), (5, nk_i l5)]) rfl ?_
        exact ja_X13_types_b149_ok zs hrec102 hrec113 _ _ _ _ _ _ _ t_l0 t_l1 hr
      · have hr := nk_ifp (c := r7 = 0) (Decidable.of_not_not hc) hr
        refine nk_p (i := .iload 4) (len := 2) (pc' := 146) mJ_237 (by decide +kernel) (ns_iload 4 rfl) rfl ?_
        refine nk_icond (c := .eq) (off := 7) (len := 3) (t := 153) (pc' := 149) mJ_237 (by decide +kernel) (by decide +kernel) rfl (fun hc => ?_) (fun hc => ?_)
        · have hr := nk_ifp (c := l4 = 0) hc hr
          refine nk_p (i := .iconst 0) (len := 1) (pc' := 154) mJ_237 (by decide +kernel) (ns_iconst (c := 0) (by decide +kernel)) rfl ?_
          refine nk_p (i := .istore 4) (len := 2) (pc' := 156) mJ_237 (by decide +kernel) (ns_istore (L' := [(4, nk_i 0), (0, nk_r l0), (1, nk_r l1), (2, nk_i l2), (3, nk_i l3), (5, nk_i l5)]) rfl rfl (by decide +kernel)) rfl ?_
          obtain ⟨v10, h11, hr⟩ := nk_lte hr
          refine nk_p (i := .iinc 5 1) (len := 3) (pc' := 159) mJ_237 (by decide +kernel) (ns_iinc (c := 1) (L' := [(5, nk_i v10), (4, nk_i 0), (0, nk_r l0), (1, nk_r l1), (2, nk_i l2), (3, nk_i l3)]) 5 rfl (by decide +kernel) h11 rfl (by decide +kernel)) rfl ?_
          refine nk_p (i := .goto (-46)) (len := 3) (pc' := 113) mJ_237 (by decide +kernel) (ns_goto (by decide +kernel)) rfl ?_
          refine nk_sub [2, 3, 4, 5, 1, 0] (L' := [(0, nk_r l0), (1, nk_r l1), (2, nk_i l2), (3, nk_i l3), (4, nk_i 0), (5, nk_i v10)]) rfl ?_
          exact hrec113 _ _ _ _ _ _ _ _ t_l0 t_l1 hr
        · have hr := nk_ifn (c := l4 = 0) hc hr
          refine nk_sub [0, 1, 2, 3, 5] (L' := [(0, nk_r l0), (1, nk_r l1), (2, nk_i l2), (3, nk_i l3), (5, nk_i l5)]) rfl ?_
          exact ja_X13_types_b149_ok zs hrec102 hrec113 _ _ _ _ _ _ _ t_l0 t_l1 hr
noncomputable def ja_X13_types_L113 (rec102 : Nat → Nat → Int → Int → Int → nk_S → Option (Int × nk_S)) : Nat → Nat → Nat → Int → Int → Int → Int → nk_S → Option (Int × nk_S)
  | 0, _, _, _, _, _, _, _ => none
  | n + 1, l0, l1, l2, l3, l4, l5, S => ja_X13_types_b113 rec102 (ja_X13_types_L113 rec102 n) l0 l1 l2 l3 l4 l5 S
theorem ja_X13_types_L113_ok (zs : List Int32) {rec102 : Nat → Nat → Int → Int → Int → nk_S → Option (Int × nk_S)} (hrec102 : ∀ (l0 : Nat) (l1 : Nat) (l2 : Int) (l3 : Int) (l4 : Int) (S : nk_S) (R : Int × nk_S), nk_cl ja_Tt l0 = some 13 → nk_cl ja_Tt l1 = some 12 → rec102 l0 l1 l2 l3 l4 S = some R → nk_K ja_Tt mi_Γ (mi_ev zs) 1 237 102 [(0, nk_r l0), (1, nk_r l1), (2, nk_i l2), (3, nk_i l3), (4, nk_i l4)] [] S R) : ∀ n : Nat, ∀ (l0 : Nat) (l1 : Nat) (l2 : Int) (l3 : Int) (l4 : Int) (l5 : Int) (S : nk_S) (R : Int × nk_S), nk_cl ja_Tt l0 = some 13 → nk_cl ja_Tt l1 = some 12 → ja_X13_types_L113 rec102 n l0 l1 l2 l3 l4 l5 S = some R → nk_K ja_Tt mi_Γ (mi_ev zs) 1 237 113 [(0, nk_r l0), (1, nk_r l1), (2, nk_i l2), (3, nk_i l3), (4, nk_i l4), (5, nk_i l5)] [] S R := by
  intro n
  induction n with
  | zero => intro _ _ _ _ _ _ _ _ _ _ hr; cases hr
  | succ n ih => intro l0 l1 l2 l3 l4 l5 S R t_l0 t_l1 hr; exact ja_X13_types_b113_ok zs hrec102 ih l0 l1 l2 l3 l4 l5 S R t_l0 t_l1 hr
noncomputable def ja_X13_types_b102 (rec102 : Nat → Nat → Int → Int → Int → nk_S → Option (Int × nk_S)) (l0 : Nat) (l1 : Nat) (l2 : Int) (l3 : Int) (l4 : Int) (S : nk_S) : Option (Int × nk_S) :=
  if l4 = 0 then
    ja_X13_types_L168 nk_big l0 l1 l2 l3 S
  else
    ja_X13_types_L113 rec102 nk_big l0 l1 l2 l3 0 l3 S
theorem ja_X13_types_b102_ok (zs : List Int32) {rec102 : Nat → Nat → Int → Int → Int → nk_S → Option (Int × nk_S)} (hrec102 : ∀ (l0 : Nat) (l1 : Nat) (l2 : Int) (l3 : Int) (l4 : Int) (S : nk_S) (R : Int × nk_S), nk_cl ja_Tt l0 = some 13 → nk_cl ja_Tt l1 = some 12 → rec102 l0 l1 l2 l3 l4 S = some R → nk_K ja_Tt mi_Γ (mi_ev zs) 1 237 102 [(0, nk_r l0), (1, nk_r l1), (2, nk_i l2), (3, nk_i l3), (4, nk_i l4)] [] S R) : ∀ (l0 : Nat) (l1 : Nat) (l2 : Int) (l3 : Int) (l4 : Int) (S : nk_S) (R : Int × nk_S), nk_cl ja_Tt l0 = some 13 → nk_cl ja_Tt l1 = some 12 → ja_X13_types_b102 rec102 l0 l1 l2 l3 l4 S = some R → nk_K ja_Tt mi_Γ (mi_ev zs) 1 237 102 [(0, nk_r l0), (1, nk_r l1), (2, nk_i l2), (3, nk_i l3), (4, nk_i l4)] [] S R := by
  intro l0 l1 l2 l3 l4 S R t_l0 t_l1 hr
  unfold ja_X13_types_b102 at hr
  refine nk_p (i := .iload 4) (len := 2) (pc' := 104) mJ_237 (by decide +kernel) (ns_iload 4 rfl) rfl ?_
  refine nk_icond (c := .eq) (off := 61) (len := 3) (t := 165) (pc' := 107) mJ_237 (by decide +kernel) (by decide +kernel) rfl (fun hc => ?_) (fun hc => ?_)
  · have hr := nk_ifp (c := l4 = 0) hc hr
    refine nk_p (i := .iload_n 3) (len := 1) (pc' := 166) mJ_237 (by decide +kernel) (ns_iload_n 3 rfl rfl) rfl ?_
    refine nk_p (i := .istore 5) (len := 2) (pc' := 168) mJ_237 (by decide +kernel) (ns_istore (L' := [(5, nk_i l3), (0, nk_r l0), (1, nk_r l1), (2, nk_i l2), (3, nk_i l3), (4, nk_i l4)]) rfl rfl (by decide +kernel)) rfl ?_
    refine nk_sub [1, 2, 3, 0] (L' := [(0, nk_r l0), (1, nk_r l1), (2, nk_i l2), (5, nk_i l3)]) rfl ?_
    exact ja_X13_types_L168_ok zs nk_big _ _ _ _ _ _ t_l0 t_l1 hr
  · have hr := nk_ifn (c := l4 = 0) hc hr
    refine nk_p (i := .iconst 0) (len := 1) (pc' := 108) mJ_237 (by decide +kernel) (ns_iconst (c := 0) (by decide +kernel)) rfl ?_
    refine nk_p (i := .istore 4) (len := 2) (pc' := 110) mJ_237 (by decide +kernel) (ns_istore (L' := [(4, nk_i 0), (0, nk_r l0), (1, nk_r l1), (2, nk_i l2), (3, nk_i l3)]) rfl rfl (by decide +kernel)) rfl ?_
    refine nk_p (i := .iload_n 3) (len := 1) (pc' := 111) mJ_237 (by decide +kernel) (ns_iload_n 4 rfl rfl) rfl ?_
    refine nk_p (i := .istore 5) (len := 2) (pc' := 113) mJ_237 (by decide +kernel) (ns_istore (L' := [(5, nk_i l3), (4, nk_i 0), (0, nk_r l0), (1, nk_r l1), (2, nk_i l2), (3, nk_i l3)]) rfl rfl (by decide +kernel)) rfl ?_
    refine nk_sub [2, 3, 4, 5, 1, 0] (L' := [(0, nk_r l0), (1, nk_r l1), (2, nk_i l2), (3, nk_i l3), (4, nk_i 0), (5, nk_i l3)]) rfl ?_
    exact ja_X13_types_L113_ok zs hrec102 nk_big _ _ _ _ _ _ _ _ t_l0 t_l1 hr
noncomputable def ja_X13_types_L102 : Nat → Nat → Nat → Int → Int → Int → nk_S → Option (Int × nk_S)
  | 0, _, _, _, _, _, _ => none
  | n + 1, l0, l1, l2, l3, l4, S => ja_X13_types_b102 (ja_X13_types_L102 n) l0 l1 l2 l3 l4 S
theorem ja_X13_types_L102_ok (zs : List Int32) : ∀ n : Nat, ∀ (l0 : Nat) (l1 : Nat) (l2 : Int) (l3 : Int) (l4 : Int) (S : nk_S) (R : Int × nk_S), nk_cl ja_Tt l0 = some 13 → nk_cl ja_Tt l1 = some 12 → ja_X13_types_L102 n l0 l1 l2 l3 l4 S = some R → nk_K ja_Tt mi_Γ (mi_ev zs) 1 237 102 [(0, nk_r l0), (1, nk_r l1), (2, nk_i l2), (3, nk_i l3), (4, nk_i l4)] [] S R := by
  intro n
  induction n with
  | zero => intro _ _ _ _ _ _ _ _ _ hr; cases hr
  | succ n ih => intro l0 l1 l2 l3 l4 S R t_l0 t_l1 hr; exact ja_X13_types_b102_ok zs ih l0 l1 l2 l3 l4 S R t_l0 t_l1 hr
noncomputable def ja_X13_types_b47 (rec47 : Nat → Nat → Int → Int → Int → nk_S → Option (Int × nk_S)) (l0 : Nat) (l1 : Nat) (l2 : Int) (l3 : Int) (l4 : Int) (S : nk_S) : Option (Int × nk_S) :=
  if 12 ≤ l4 then
    ja_X13_types_L102 nk_big l0 l1 l2 l3 1 S
  else
    if 0 ≤ l2 ∧ l2 < 48 then
    if (S.1 (ja_c l1 15) l2.toNat) ≤ l4 then
      if 0 ≤ (nk_w ((nk_w (l3 * 20)) + l4)) ∧ (nk_w ((nk_w (l3 * 20)) + l4)) < 20480 then
      nk_lt (nk_wi S (ja_c l0 23) (nk_w ((nk_w (l3 * 20)) + l4)).toNat 2) fun S5 =>
      nk_lt (nk_w (l4 + 1)) fun v7 =>
      rec47 l0 l1 l2 l3 v7 S5
      else none
    else
      if 0 ≤ (nk_w ((nk_w (l2 * 12)) + l4)) ∧ (nk_w ((nk_w (l2 * 12)) + l4)) < 576 then
      if 0 ≤ (nk_w ((nk_w (l3 * 20)) + l4)) ∧ (nk_w ((nk_w (l3 * 20)) + l4)) < 20480 then
      nk_lt (nk_wi S (ja_c l0 23) (nk_w ((nk_w (l3 * 20)) + l4)).toNat (S.1 (ja_c l1 16) (nk_w ((nk_w (l2 * 12)) + l4)).toNat)) fun S12 =>
      nk_lt (nk_w (l4 + 1)) fun v14 =>
      rec47 l0 l1 l2 l3 v14 S12
      else none
      else none
    else none
theorem ja_X13_types_b47_ok (zs : List Int32) {rec47 : Nat → Nat → Int → Int → Int → nk_S → Option (Int × nk_S)} (hrec47 : ∀ (l0 : Nat) (l1 : Nat) (l2 : Int) (l3 : Int) (l4 : Int) (S : nk_S) (R : Int × nk_S), nk_cl ja_Tt l0 = some 13 → nk_cl ja_Tt l1 = some 12 → rec47 l0 l1 l2 l3 l4 S = some R → nk_K ja_Tt mi_Γ (mi_ev zs) 1 237 47 [(0, nk_r l0), (1, nk_r l1), (2, nk_i l2), (3, nk_i l3), (4, nk_i l4)] [] S R) : ∀ (l0 : Nat) (l1 : Nat) (l2 : Int) (l3 : Int) (l4 : Int) (S : nk_S) (R : Int × nk_S), nk_cl ja_Tt l0 = some 13 → nk_cl ja_Tt l1 = some 12 → ja_X13_types_b47 rec47 l0 l1 l2 l3 l4 S = some R → nk_K ja_Tt mi_Γ (mi_ev zs) 1 237 47 [(0, nk_r l0), (1, nk_r l1), (2, nk_i l2), (3, nk_i l3), (4, nk_i l4)] [] S R := by
  intro l0 l1 l2 l3 l4 S R t_l0 t_l1 hr
  unfold ja_X13_types_b47 at hr
  refine nk_p (i := .iload 4) (len := 2) (pc' := 49) mJ_237 (by decide +kernel) (ns_iload 4 rfl) rfl ?_
  refine nk_p (i := .bipush 12) (len := 2) (pc' := 51) mJ_237 (by decide +kernel) (ns_bipush (c := 12) (by decide +kernel)) rfl ?_
  refine nk_icmp (c := .ge) (off := 48) (len := 3) (t := 99) (pc' := 54) mJ_237 (by decide +kernel) (by decide +kernel) rfl (fun hc => ?_) (fun hc => ?_)
  · have hr := nk_ifp (c := 12 ≤ l4) hc hr
    refine nk_p (i := .iconst 1) (len := 1) (pc' := 100) mJ_237 (by decide +kernel) (ns_iconst (c := 1) (by decide +kernel)) rfl ?_
    refine nk_p (i := .istore 4) (len := 2) (pc' := 102) mJ_237 (by decide +kernel) (ns_istore (L' := [(4, nk_i 1), (0, nk_r l0), (1, nk_r l1), (2, nk_i l2), (3, nk_i l3)]) rfl rfl (by decide +kernel)) rfl ?_
    refine nk_sub [1, 2, 3, 4, 0] (L' := [(0, nk_r l0), (1, nk_r l1), (2, nk_i l2), (3, nk_i l3), (4, nk_i 1)]) rfl ?_
    exact ja_X13_types_L102_ok zs nk_big _ _ _ _ _ _ _ t_l0 t_l1 hr
  · have hr := nk_ifn (c := 12 ≤ l4) hc hr
    refine nk_p (i := .aload_n 0) (len := 1) (pc' := 55) mJ_237 (by decide +kernel) (ns_aload_n 0 rfl rfl) rfl ?_
    refine nk_getC (f := (4, 1, 20480)) (x := 65) (len := 3) (ci := 13) (k := 23) (pc' := 58) ja_okT mJ_237 (by decide +kernel) (by decide +kernel) (by decide +kernel) (by decide) t_l0 rfl ?_
    have t1 : nk_ar ja_Tt (ja_c l0 23) = some (1, 20480) := nk_ta ja_okT t_l0 (by decide +kernel)
    refine nk_p (i := .iload_n 3) (len := 1) (pc' := 59) mJ_237 (by decide +kernel) (ns_iload_n 3 rfl rfl) rfl ?_
    refine nk_p (i := .bipush 20) (len := 2) (pc' := 61) mJ_237 (by decide +kernel) (ns_bipush (c := 20) (by decide +kernel)) rfl ?_
    refine nk_p (i := .imul) (len := 1) (pc' := 62) mJ_237 (by decide +kernel) ns_imul rfl ?_
    refine nk_p (i := .iload 4) (len := 2) (pc' := 64) mJ_237 (by decide +kernel) (ns_iload 4 rfl) rfl ?_
    refine nk_p (i := .iadd) (len := 1) (pc' := 65) mJ_237 (by decide +kernel) ns_iadd rfl ?_
    refine nk_p (i := .iload 4) (len := 2) (pc' := 67) mJ_237 (by decide +kernel) (ns_iload 4 rfl) rfl ?_
    refine nk_p (i := .aload_n 1) (len := 1) (pc' := 68) mJ_237 (by decide +kernel) (ns_aload_n 1 rfl rfl) rfl ?_
    refine nk_getC (f := (4, 1, 48)) (x := 348) (len := 3) (ci := 12) (k := 15) (pc' := 71) ja_okT mJ_237 (by decide +kernel) (by decide +kernel) (by decide +kernel) (by decide) t_l1 rfl ?_
    have t2 : nk_ar ja_Tt (ja_c l1 15) = some (1, 48) := nk_ta ja_okT t_l1 (by decide +kernel)
    refine nk_p (i := .iload_n 2) (len := 1) (pc' := 72) mJ_237 (by decide +kernel) (ns_iload_n 2 rfl rfl) rfl ?_
    obtain ⟨h3, hr⟩ := nk_cke hr
    refine nk_iald (len := 1) (N := 48) (pc' := 73) mJ_237 (by decide +kernel) t2 h3.1 h3.2 rfl rfl ?_
    refine nk_icmp (c := .ge) (off := 18) (len := 3) (t := 91) (pc' := 76) mJ_237 (by decide +kernel) (by decide +kernel) rfl (fun hc => ?_) (fun hc => ?_)
    · have hr := nk_ifp (c := (S.1 (ja_c l1 15) l2.toNat) ≤ l4) hc hr
      refine nk_p (i := .iconst 2) (len := 1) (pc' := 92) mJ_237 (by decide +kernel) (ns_iconst (c := 2) (by decide +kernel)) rfl ?_
      obtain ⟨h4, hr⟩ := nk_cke hr
      obtain ⟨S5, h6, hr⟩ := nk_lte hr
      refine nk_iast (len := 1) (N := 20480) (pc' := 93) mJ_237 (by decide +kernel) t1 h4.1 h4.2 rfl rfl h6 ?_
      obtain ⟨v7, h8, hr⟩ := nk_lte hr
      refine nk_p (i := .iinc 4 1) (len := 3) (pc' := 96) mJ_237 (by decide +kernel) (ns_iinc (c := 1) (L' := [(4, nk_i v7), (0, nk_r l0), (1, nk_r l1), (2, nk_i l2), (3, nk_i l3)]) 4 rfl (by decide +kernel) h8 rfl (by decide +kernel)) rfl ?_
      refine nk_p (i := .goto (-49)) (len := 3) (pc' := 47) mJ_237 (by decide +kernel) (ns_goto (by decide +kernel)) rfl ?_
      refine nk_sub [1, 2, 3, 4, 0] (L' := [(0, nk_r l0), (1, nk_r l1), (2, nk_i l2), (3, nk_i l3), (4, nk_i v7)]) rfl ?_
      exact hrec47 _ _ _ _ _ _ _ t_l0 t_l1 hr
    · have hr := nk_ifn (c := (S.1 (ja_c l1 15) l2.toNat) ≤ l4) hc hr
      refine nk_p (i := .aload_n 1) (len := 1) (pc' := 77) mJ_237 (by decide +kernel) (ns_aload_n 1 rfl rfl) rfl ?_
      refine nk_getC (f := (4, 1, 576)) (x := 340) (len := 3) (ci := 12) (k := 16) (pc' := 80) ja_okT mJ_237 (by decide +kernel) (by decide +kernel) (by decide +kernel) (by decide) t_l1 rfl ?_
      have t9 : nk_ar ja_Tt (ja_c l1 16) = some (1, 576) := nk_ta ja_okT t_l1 (by decide +kernel)
      refine nk_p (i := .iload_n 2) (len := 1) (pc' := 81) mJ_237 (by decide +kernel) (ns_iload_n 2 rfl rfl) rfl ?_
      refine nk_p (i := .bipush 12) (len := 2) (pc' := 83) mJ_237 (by decide +kernel) (ns_bipush (c := 12) (by decide +kernel)) rfl ?_
      refine nk_p (i := .imul) (len := 1) (pc' := 84) mJ_237 (by decide +kernel) ns_imul rfl ?_
      refine nk_p (i := .iload 4) (len := 2) (pc' := 86) mJ_237 (by decide +kernel) (ns_iload 4 rfl) rfl ?_
      refine nk_p (i := .iadd) (len := 1) (pc' := 87) mJ_237 (by decide +kernel) ns_iadd rfl ?_
      obtain ⟨h10, hr⟩ := nk_cke hr
      refine nk_iald (len := 1) (N := 576) (pc' := 88) mJ_237 (by decide +kernel) t9 h10.1 h10.2 rfl rfl ?_
      refine nk_p (i := .goto 4) (len := 3) (pc' := 92) mJ_237 (by decide +kernel) (ns_goto (by decide +kernel)) rfl ?_
      obtain ⟨h11, hr⟩ := nk_cke hr
      obtain ⟨S12, h13, hr⟩ := nk_lte hr
      refine nk_iast (len := 1) (N := 20480) (pc' := 93) mJ_237 (by decide +kernel) t1 h11.1 h11.2 rfl rfl h13 ?_
      obtain ⟨v14, h15, hr⟩ := nk_lte hr
      refine nk_p (i := .iinc 4 1) (len := 3) (pc' := 96) mJ_237 (by decide +kernel) (ns_iinc (c := 1) (L' := [(4, nk_i v14), (0, nk_r l0), (1, nk_r l1), (2, nk_i l2), (3, nk_i l3)]) 4 rfl (by decide +kernel) h15 rfl (by decide +kernel)) rfl ?_
      refine nk_p (i := .goto (-49)) (len := 3) (pc' := 47) mJ_237 (by decide +kernel) (ns_goto (by decide +kernel)) rfl ?_
      refine nk_sub [1, 2, 3, 4, 0] (L' := [(0, nk_r l0), (1, nk_r l1), (2, nk_i l2), (3, nk_i l3), (4, nk_i v14)]) rfl ?_
      exact hrec47 _ _ _ _ _ _ _ t_l0 t_l1 hr
noncomputable def ja_X13_types_L47 : Nat → Nat → Nat → Int → Int → Int → nk_S → Option (Int × nk_S)
  | 0, _, _, _, _, _, _ => none
  | n + 1, l0, l1, l2, l3, l4, S => ja_X13_types_b47 (ja_X13_types_L47 n) l0 l1 l2 l3 l4 S
theorem ja_X13_types_L47_ok (zs : List Int32) : ∀ n : Nat, ∀ (l0 : Nat) (l1 : Nat) (l2 : Int) (l3 : Int) (l4 : Int) (S : nk_S) (R : Int × nk_S), nk_cl ja_Tt l0 = some 13 → nk_cl ja_Tt l1 = some 12 → ja_X13_types_L47 n l0 l1 l2 l3 l4 S = some R → nk_K ja_Tt mi_Γ (mi_ev zs) 1 237 47 [(0, nk_r l0), (1, nk_r l1), (2, nk_i l2), (3, nk_i l3), (4, nk_i l4)] [] S R := by
  intro n
  induction n with
  | zero => intro _ _ _ _ _ _ _ _ _ hr; cases hr
  | succ n ih => intro l0 l1 l2 l3 l4 S R t_l0 t_l1 hr; exact ja_X13_types_b47_ok zs ih l0 l1 l2 l3 l4 S R t_l0 t_l1 hr
noncomputable def ja_X13_types_b7 (rec7 : Nat → Nat → Int → Int → nk_S → Option (Int × nk_S)) (l0 : Nat) (l1 : Nat) (l2 : Int) (l3 : Int) (S : nk_S) : Option (Int × nk_S) :=
  if 0 ≤ l2 ∧ l2 < 48 then
  if (S.1 (ja_c l1 20) l2.toNat) ≤ l3 then
    nk_lt (S.1 (ja_c l1 19) l2.toNat) fun v4 =>
    if 0 ≤ v4 ∧ v4 < 1024 then
    nk_lt (nk_wi S (ja_c l0 22) v4.toNat 1) fun S8 =>
    ja_X13_types_L47 nk_big l0 l1 l2 v4 0 S8
    else none
  else
    if 0 ≤ l3 ∧ l3 < 1024 then
    nk_lt (nk_wi S (ja_c l0 22) l3.toNat 0) fun S12 =>
    nk_lt (nk_w (l3 + 1)) fun v14 =>
    rec7 l0 l1 l2 v14 S12
    else none
  else none
theorem ja_X13_types_b7_ok (zs : List Int32) {rec7 : Nat → Nat → Int → Int → nk_S → Option (Int × nk_S)} (hrec7 : ∀ (l0 : Nat) (l1 : Nat) (l2 : Int) (l3 : Int) (S : nk_S) (R : Int × nk_S), nk_cl ja_Tt l0 = some 13 → nk_cl ja_Tt l1 = some 12 → rec7 l0 l1 l2 l3 S = some R → nk_K ja_Tt mi_Γ (mi_ev zs) 1 237 7 [(0, nk_r l0), (1, nk_r l1), (2, nk_i l2), (3, nk_i l3)] [] S R) : ∀ (l0 : Nat) (l1 : Nat) (l2 : Int) (l3 : Int) (S : nk_S) (R : Int × nk_S), nk_cl ja_Tt l0 = some 13 → nk_cl ja_Tt l1 = some 12 → ja_X13_types_b7 rec7 l0 l1 l2 l3 S = some R → nk_K ja_Tt mi_Γ (mi_ev zs) 1 237 7 [(0, nk_r l0), (1, nk_r l1), (2, nk_i l2), (3, nk_i l3)] [] S R := by
  intro l0 l1 l2 l3 S R t_l0 t_l1 hr
  unfold ja_X13_types_b7 at hr
  refine nk_p (i := .iload_n 3) (len := 1) (pc' := 8) mJ_237 (by decide +kernel) (ns_iload_n 3 rfl rfl) rfl ?_
  refine nk_p (i := .aload_n 1) (len := 1) (pc' := 9) mJ_237 (by decide +kernel) (ns_aload_n 1 rfl rfl) rfl ?_
  refine nk_getC (f := (4, 1, 48)) (x := 378) (len := 3) (ci := 12) (k := 20) (pc' := 12) ja_okT mJ_237 (by decide +kernel) (by decide +kernel) (by decide +kernel) (by decide) t_l1 rfl ?_
  have t1 : nk_ar ja_Tt (ja_c l1 20) = some (1, 48) := nk_ta ja_okT t_l1 (by decide +kernel)
  refine nk_p (i := .iload_n 2) (len := 1) (pc' := 13) mJ_237 (by decide +kernel) (ns_iload_n 2 rfl rfl) rfl ?_
  obtain ⟨h2, hr⟩ := nk_cke hr
  refine nk_iald (len := 1) (N := 48) (pc' := 14) mJ_237 (by decide +kernel) t1 h2.1 h2.2 rfl rfl ?_
  refine nk_icmp (c := .ge) (off := 16) (len := 3) (t := 30) (pc' := 17) mJ_237 (by decide +kernel) (by decide +kernel) rfl (fun hc => ?_) (fun hc => ?_)
  · have hr := nk_ifp (c := (S.1 (ja_c l1 20) l2.toNat) ≤ l3) hc hr
    refine nk_p (i := .aload_n 1) (len := 1) (pc' := 31) mJ_237 (by decide +kernel) (ns_aload_n 1 rfl rfl) rfl ?_
    refine nk_getC (f := (4, 1, 48)) (x := 369) (len := 3) (ci := 12) (k := 19) (pc' := 34) ja_okT mJ_237 (by decide +kernel) (by decide +kernel) (by decide +kernel) (by decide) t_l1 rfl ?_
    have t3 : nk_ar ja_Tt (ja_c l1 19) = some (1, 48) := nk_ta ja_okT t_l1 (by decide +kernel)
    refine nk_p (i := .iload_n 2) (len := 1) (pc' := 35) mJ_237 (by decide +kernel) (ns_iload_n 2 rfl rfl) rfl ?_
    refine nk_iald (len := 1) (N := 48) (pc' := 36) mJ_237 (by decide +kernel) t3 h2.1 h2.2 rfl rfl ?_
    obtain ⟨v4, h5, hr⟩ := nk_lte hr
    refine nk_p (i := .istore_n 3) (len := 1) (pc' := 37) mJ_237 (by decide +kernel) (ns_istore_n (L' := [(3, nk_i v4), (0, nk_r l0), (1, nk_r l1), (2, nk_i l2)]) h5 rfl rfl (by decide +kernel)) rfl ?_
    refine nk_p (i := .aload_n 0) (len := 1) (pc' := 38) mJ_237 (by decide +kernel) (ns_aload_n 1 rfl rfl) rfl ?_
    refine nk_getC (f := (4, 3, 1024)) (x := 61) (len := 3) (ci := 13) (k := 22) (pc' := 41) ja_okT mJ_237 (by decide +kernel) (by decide +kernel) (by decide +kernel) (by decide) t_l0 rfl ?_
    have t6 : nk_ar ja_Tt (ja_c l0 22) = some (3, 1024) := nk_ta ja_okT t_l0 (by decide +kernel)
    refine nk_p (i := .iload_n 3) (len := 1) (pc' := 42) mJ_237 (by decide +kernel) (ns_iload_n 0 rfl rfl) rfl ?_
    refine nk_p (i := .iconst 1) (len := 1) (pc' := 43) mJ_237 (by decide +kernel) (ns_iconst (c := 1) (by decide +kernel)) rfl ?_
    obtain ⟨h7, hr⟩ := nk_cke hr
    obtain ⟨S8, h9, hr⟩ := nk_lte hr
    refine nk_zast (len := 1) (N := 1024) (pc' := 44) mJ_237 (by decide +kernel) t6 h7.1 h7.2 (by decide) rfl rfl h9 ?_
    refine nk_p (i := .iconst 0) (len := 1) (pc' := 45) mJ_237 (by decide +kernel) (ns_iconst (c := 0) (by decide +kernel)) rfl ?_
    refine nk_p (i := .istore 4) (len := 2) (pc' := 47) mJ_237 (by decide +kernel) (ns_istore (L' := [(4, nk_i 0), (3, nk_i v4), (0, nk_r l0), (1, nk_r l1), (2, nk_i l2)]) rfl rfl (by decide +kernel)) rfl ?_
    refine nk_sub [2, 3, 4, 1, 0] (L' := [(0, nk_r l0), (1, nk_r l1), (2, nk_i l2), (3, nk_i v4), (4, nk_i 0)]) rfl ?_
    exact ja_X13_types_L47_ok zs nk_big _ _ _ _ _ _ _ t_l0 t_l1 hr
  · have hr := nk_ifn (c := (S.1 (ja_c l1 20) l2.toNat) ≤ l3) hc hr
    refine nk_p (i := .aload_n 0) (len := 1) (pc' := 18) mJ_237 (by decide +kernel) (ns_aload_n 0 rfl rfl) rfl ?_
    refine nk_getC (f := (4, 3, 1024)) (x := 61) (len := 3) (ci := 13) (k := 22) (pc' := 21) ja_okT mJ_237 (by decide +kernel) (by decide +kernel) (by decide +kernel) (by decide) t_l0 rfl ?_
    have t10 : nk_ar ja_Tt (ja_c l0 22) = some (3, 1024) := nk_ta ja_okT t_l0 (by decide +kernel)
    refine nk_p (i := .iload_n 3) (len := 1) (pc' := 22) mJ_237 (by decide +kernel) (ns_iload_n 3 rfl rfl) rfl ?_
    refine nk_p (i := .iconst 0) (len := 1) (pc' := 23) mJ_237 (by decide +kernel) (ns_iconst (c := 0) (by decide +kernel)) rfl ?_
    obtain ⟨h11, hr⟩ := nk_cke hr
    obtain ⟨S12, h13, hr⟩ := nk_lte hr
    refine nk_zast (len := 1) (N := 1024) (pc' := 24) mJ_237 (by decide +kernel) t10 h11.1 h11.2 (by decide) rfl rfl h13 ?_
    obtain ⟨v14, h15, hr⟩ := nk_lte hr
    refine nk_p (i := .iinc 3 1) (len := 3) (pc' := 27) mJ_237 (by decide +kernel) (ns_iinc (c := 1) (L' := [(3, nk_i v14), (0, nk_r l0), (1, nk_r l1), (2, nk_i l2)]) 3 rfl (by decide +kernel) h15 rfl (by decide +kernel)) rfl ?_
    refine nk_p (i := .goto (-20)) (len := 3) (pc' := 7) mJ_237 (by decide +kernel) (ns_goto (by decide +kernel)) rfl ?_
    refine nk_sub [1, 2, 3, 0] (L' := [(0, nk_r l0), (1, nk_r l1), (2, nk_i l2), (3, nk_i v14)]) rfl ?_
    exact hrec7 _ _ _ _ _ _ t_l0 t_l1 hr
noncomputable def ja_X13_types_L7 : Nat → Nat → Nat → Int → Int → nk_S → Option (Int × nk_S)
  | 0, _, _, _, _, _ => none
  | n + 1, l0, l1, l2, l3, S => ja_X13_types_b7 (ja_X13_types_L7 n) l0 l1 l2 l3 S
theorem ja_X13_types_L7_ok (zs : List Int32) : ∀ n : Nat, ∀ (l0 : Nat) (l1 : Nat) (l2 : Int) (l3 : Int) (S : nk_S) (R : Int × nk_S), nk_cl ja_Tt l0 = some 13 → nk_cl ja_Tt l1 = some 12 → ja_X13_types_L7 n l0 l1 l2 l3 S = some R → nk_K ja_Tt mi_Γ (mi_ev zs) 1 237 7 [(0, nk_r l0), (1, nk_r l1), (2, nk_i l2), (3, nk_i l3)] [] S R := by
  intro n
  induction n with
  | zero => intro _ _ _ _ _ _ _ _ hr; cases hr
  | succ n ih => intro l0 l1 l2 l3 S R t_l0 t_l1 hr; exact ja_X13_types_b7_ok zs ih l0 l1 l2 l3 S R t_l0 t_l1 hr
noncomputable def ja_X13_types (l0 : Nat) (l1 : Nat) (l2 : Int) (S : nk_S) : Option (Int × nk_S) :=
  if 0 ≤ l2 ∧ l2 < 48 then
  nk_lt (S.1 (ja_c l1 19) l2.toNat) fun v3 =>
  ja_X13_types_L7 nk_big l0 l1 l2 v3 S
  else none
theorem ja_X13_types_ok (zs : List Int32) : ∀ (l0 : Nat) (l1 : Nat) (l2 : Int) (S : nk_S) (R : Int × nk_S), nk_cl ja_Tt l0 = some 13 → nk_cl ja_Tt l1 = some 12 → ja_X13_types l0 l1 l2 S = some R → nk_K ja_Tt mi_Γ (mi_ev zs) 1 237 0 [(0, nk_r l0), (1, nk_r l1), (2, nk_i l2)] [] S R := by
  intro l0 l1 l2 S R t_l0 t_l1 hr
  unfold ja_X13_types at hr
  refine nk_p (i := .aload_n 1) (len := 1) (pc' := 1) mJ_237 (by decide +kernel) (ns_aload_n 1 rfl rfl) rfl ?_
  refine nk_getC (f := (4, 1, 48)) (x := 369) (len := 3) (ci := 12) (k := 19) (pc' := 4) ja_okT mJ_237 (by decide +kernel) (by decide +kernel) (by decide +kernel) (by decide) t_l1 rfl ?_
  have t1 : nk_ar ja_Tt (ja_c l1 19) = some (1, 48) := nk_ta ja_okT t_l1 (by decide +kernel)
  refine nk_p (i := .iload_n 2) (len := 1) (pc' := 5) mJ_237 (by decide +kernel) (ns_iload_n 2 rfl rfl) rfl ?_
  obtain ⟨h2, hr⟩ := nk_cke hr
  refine nk_iald (len := 1) (N := 48) (pc' := 6) mJ_237 (by decide +kernel) t1 h2.1 h2.2 rfl rfl ?_
  obtain ⟨v3, h4, hr⟩ := nk_lte hr
  refine nk_p (i := .istore_n 3) (len := 1) (pc' := 7) mJ_237 (by decide +kernel) (ns_istore_n (L' := [(3, nk_i v3), (0, nk_r l0), (1, nk_r l1), (2, nk_i l2)]) h4 rfl rfl (by decide +kernel)) rfl ?_
  refine nk_sub [1, 2, 3, 0] (L' := [(0, nk_r l0), (1, nk_r l1), (2, nk_i l2), (3, nk_i v3)]) rfl ?_
  exact ja_X13_types_L7_ok zs nk_big _ _ _ _ _ _ t_l0 t_l1 hr
/-! SafeCodeModel fault (LSafeCodeModel$Program;)I -/
noncomputable def ja_X13_fault_b70 (rec70 : Nat → Nat → Int → nk_S → Option (Int × nk_S)) (l0 : Nat) (l1 : Nat) (l2 : Int) (S : nk_S) : Option (Int × nk_S) :=
  if (S.1 l1 2) ≤ l2 then
    nk_lt (nk_wi S l0 12 (-1)) fun S1 =>
    some (0, S1)
  else
    nk_bd (ja_X13_heights l0 l1 l2 S) fun r3 S4 =>
    if r3 = 0 then
      some (4, S4)
    else
      nk_bd (ja_X13_types l0 l1 l2 S4) fun r6 S7 =>
      if r6 = 0 then
        some (4, S7)
      else
        nk_lt (nk_w (l2 + 1)) fun v9 =>
        rec70 l0 l1 v9 S7
theorem ja_X13_fault_b70_ok (zs : List Int32) {rec70 : Nat → Nat → Int → nk_S → Option (Int × nk_S)} (hrec70 : ∀ (l0 : Nat) (l1 : Nat) (l2 : Int) (S : nk_S) (R : Int × nk_S), nk_cl ja_Tt l0 = some 13 → nk_cl ja_Tt l1 = some 12 → rec70 l0 l1 l2 S = some R → nk_K ja_Tt mi_Γ (mi_ev zs) 1 117 70 [(0, nk_r l0), (1, nk_r l1), (2, nk_i l2)] [] S R) : ∀ (l0 : Nat) (l1 : Nat) (l2 : Int) (S : nk_S) (R : Int × nk_S), nk_cl ja_Tt l0 = some 13 → nk_cl ja_Tt l1 = some 12 → ja_X13_fault_b70 rec70 l0 l1 l2 S = some R → nk_K ja_Tt mi_Γ (mi_ev zs) 1 117 70 [(0, nk_r l0), (1, nk_r l1), (2, nk_i l2)] [] S R := by
  intro l0 l1 l2 S R t_l0 t_l1 hr
  unfold ja_X13_fault_b70 at hr
  refine nk_p (i := .iload_n 2) (len := 1) (pc' := 71) mJ_117 (by decide +kernel) (ns_iload_n 2 rfl rfl) rfl ?_
  refine nk_p (i := .aload_n 1) (len := 1) (pc' := 72) mJ_117 (by decide +kernel) (ns_aload_n 1 rfl rfl) rfl ?_
  refine nk_getI (y := (0, 0)) (x := 303) (len := 3) (ci := 12) (k := 2) (pc' := 75) ja_okT mJ_117 (by decide +kernel) (by decide +kernel) (by decide +kernel) t_l1 rfl ?_
  refine nk_icmp (c := .ge) (off := 29) (len := 3) (t := 104) (pc' := 78) mJ_117 (by decide +kernel) (by decide +kernel) rfl (fun hc => ?_) (fun hc => ?_)
  · have hr := nk_ifp (c := (S.1 l1 2) ≤ l2) hc hr
    refine nk_p (i := .aload_n 0) (len := 1) (pc' := 105) mJ_117 (by decide +kernel) (ns_aload_n 0 rfl rfl) rfl ?_
    refine nk_p (i := .iconst (-1)) (len := 1) (pc' := 106) mJ_117 (by decide +kernel) (ns_iconst (c := (-1)) (by decide +kernel)) rfl ?_
    obtain ⟨S1, h2, hr⟩ := nk_lte hr
    refine nk_putI (y := (0, 0)) (ty := .int) (x := 33) (len := 3) (ci := 13) (k := 12) (pc' := 109) ja_okT mJ_117 (by decide +kernel) (by decide +kernel) (by decide +kernel) t_l0 (Or.inl rfl) rfl h2 ?_
    refine nk_p (i := .iconst 0) (len := 1) (pc' := 110) mJ_117 (by decide +kernel) (ns_iconst (c := 0) (by decide +kernel)) rfl ?_
    cases hr
    exact nk_iret (ty := .int) (len := 1) mJ_117 (by decide +kernel) rfl (nk_nar_i _)
  · have hr := nk_ifn (c := (S.1 l1 2) ≤ l2) hc hr
    refine nk_p (i := .aload_n 0) (len := 1) (pc' := 79) mJ_117 (by decide +kernel) (ns_aload_n 0 rfl rfl) rfl ?_
    refine nk_p (i := .aload_n 1) (len := 1) (pc' := 80) mJ_117 (by decide +kernel) (ns_aload_n 1 rfl rfl) rfl ?_
    refine nk_p (i := .iload_n 2) (len := 1) (pc' := 81) mJ_117 (by decide +kernel) (ns_iload_n 2 rfl rfl) rfl ?_
    obtain ⟨r3, S4, h5, hr⟩ := nk_bde hr
    refine nk_callV (ci := 13) (n := 2) (x := 783) (len := 3) (j' := 131) (q' := 1) (r := r3) (S' := S4) (L2 := [(0, nk_r l0), (1, nk_r l1), (2, nk_i l2)]) (rest := []) (st' := [nk_i r3]) (pc' := 84) mJ_117 (by decide +kernel) (by decide +kernel) rfl rfl t_l0 (Nat.le_of_ble_eq_true rfl) mJ_131 (Nat.le_of_ble_eq_true rfl) rfl (ja_X13_heights_ok zs _ _ _ _ _ t_l0 t_l1 h5) rfl ?_
    refine nk_icond (c := .eq) (off := 12) (len := 3) (t := 96) (pc' := 87) mJ_117 (by decide +kernel) (by decide +kernel) rfl (fun hc => ?_) (fun hc => ?_)
    · have hr := nk_ifp (c := r3 = 0) hc hr
      refine nk_p (i := .iconst 4) (len := 1) (pc' := 97) mJ_117 (by decide +kernel) (ns_iconst (c := 4) (by decide +kernel)) rfl ?_
      cases hr
      exact nk_iret (ty := .int) (len := 1) mJ_117 (by decide +kernel) rfl (nk_nar_i _)
    · have hr := nk_ifn (c := r3 = 0) hc hr
      refine nk_p (i := .aload_n 0) (len := 1) (pc' := 88) mJ_117 (by decide +kernel) (ns_aload_n 0 rfl rfl) rfl ?_
      refine nk_p (i := .aload_n 1) (len := 1) (pc' := 89) mJ_117 (by decide +kernel) (ns_aload_n 1 rfl rfl) rfl ?_
      refine nk_p (i := .iload_n 2) (len := 1) (pc' := 90) mJ_117 (by decide +kernel) (ns_iload_n 2 rfl rfl) rfl ?_
      obtain ⟨r6, S7, h8, hr⟩ := nk_bde hr
      refine nk_callV (ci := 13) (n := 2) (x := 785) (len := 3) (j' := 237) (q' := 1) (r := r6) (S' := S7) (L2 := [(0, nk_r l0), (1, nk_r l1), (2, nk_i l2)]) (rest := []) (st' := [nk_i r6]) (pc' := 93) mJ_117 (by decide +kernel) (by decide +kernel) rfl rfl t_l0 (Nat.le_of_ble_eq_true rfl) mJ_237 (Nat.le_of_ble_eq_true rfl) rfl (ja_X13_types_ok zs _ _ _ _ _ t_l0 t_l1 h8) rfl ?_
      refine nk_icond (c := .ne) (off := 5) (len := 3) (t := 98) (pc' := 96) mJ_117 (by decide +kernel) (by decide +kernel) rfl (fun hc => ?_) (fun hc => ?_)
      · have hr := nk_ifn (c := r6 = 0) hc hr
        obtain ⟨v9, h10, hr⟩ := nk_lte hr
        refine nk_p (i := .iinc 2 1) (len := 3) (pc' := 101) mJ_117 (by decide +kernel) (ns_iinc (c := 1) (L' := [(2, nk_i v9), (0, nk_r l0), (1, nk_r l1)]) 2 rfl (by decide +kernel) h10 rfl (by decide +kernel)) rfl ?_
        refine nk_p (i := .goto (-31)) (len := 3) (pc' := 70) mJ_117 (by decide +kernel) (ns_goto (by decide +kernel)) rfl ?_
        refine nk_sub [1, 2, 0] (L' := [(0, nk_r l0), (1, nk_r l1), (2, nk_i v9)]) rfl ?_
        exact hrec70 _ _ _ _ _ t_l0 t_l1 hr
      · have hr := nk_ifp (c := r6 = 0) (Decidable.of_not_not hc) hr
        refine nk_p (i := .iconst 4) (len := 1) (pc' := 97) mJ_117 (by decide +kernel) (ns_iconst (c := 4) (by decide +kernel)) rfl ?_
        cases hr
        exact nk_iret (ty := .int) (len := 1) mJ_117 (by decide +kernel) rfl (nk_nar_i _)
noncomputable def ja_X13_fault_L70 : Nat → Nat → Nat → Int → nk_S → Option (Int × nk_S)
  | 0, _, _, _, _ => none
  | n + 1, l0, l1, l2, S => ja_X13_fault_b70 (ja_X13_fault_L70 n) l0 l1 l2 S
theorem ja_X13_fault_L70_ok (zs : List Int32) : ∀ n : Nat, ∀ (l0 : Nat) (l1 : Nat) (l2 : Int) (S : nk_S) (R : Int × nk_S), nk_cl ja_Tt l0 = some 13 → nk_cl ja_Tt l1 = some 12 → ja_X13_fault_L70 n l0 l1 l2 S = some R → nk_K ja_Tt mi_Γ (mi_ev zs) 1 117 70 [(0, nk_r l0), (1, nk_r l1), (2, nk_i l2)] [] S R := by
  intro n
  induction n with
  | zero => intro _ _ _ _ _ _ _ hr; cases hr
  | succ n ih => intro l0 l1 l2 S R t_l0 t_l1 hr; exact ja_X13_fault_b70_ok zs ih l0 l1 l2 S R t_l0 t_l1 hr
noncomputable def ja_X13_fault (l0 : Nat) (l1 : Nat) (S : nk_S) : Option (Int × nk_S) :=
  nk_bd (ja_X13_cut l0 S) fun r1 S2 =>
  if r1 = 0 then
    nk_lt (nk_wi S2 l0 12 (S2.1 l0 10)) fun S21 =>
    some (1, S21)
  else
    nk_bd (ja_X13_isProgram l0 S2) fun r4 S5 =>
    if r4 = 0 then
      nk_lt (nk_wi S5 l0 12 (S5.1 l0 11)) fun S19 =>
      some (2, S19)
    else
      nk_bd (ja_X13_classNames l0 l1 S5) fun r7 S8 =>
      if r7 = 0 then
        some (3, S8)
      else
        nk_bd (ja_X13_members l0 l1 S8) fun r10 S11 =>
        if r10 = 0 then
          some (3, S11)
        else
          nk_bd (ja_X13_lines l0 l1 S11) fun r13 S14 =>
          if r13 = 0 then
            some (3, S14)
          else
            nk_bd (ja_X13_settled l0 l1 S14) fun r16 S17 =>
            if r16 = 0 then
              some (3, S17)
            else
              ja_X13_fault_L70 nk_big l0 l1 0 S17
theorem ja_X13_fault_ok (zs : List Int32) : ∀ (l0 : Nat) (l1 : Nat) (S : nk_S) (R : Int × nk_S), nk_cl ja_Tt l0 = some 13 → nk_cl ja_Tt l1 = some 12 → ja_X13_fault l0 l1 S = some R → nk_K ja_Tt mi_Γ (mi_ev zs) 1 117 0 [(0, nk_r l0), (1, nk_r l1)] [] S R := by
  intro l0 l1 S R t_l0 t_l1 hr
  unfold ja_X13_fault at hr
  refine nk_p (i := .aload_n 0) (len := 1) (pc' := 1) mJ_117 (by decide +kernel) (ns_aload_n 0 rfl rfl) rfl ?_
  obtain ⟨r1, S2, h3, hr⟩ := nk_bde hr
  refine nk_callV (ci := 13) (n := 0) (x := 765) (len := 3) (j' := 105) (q' := 1) (r := r1) (S' := S2) (L2 := [(0, nk_r l0)]) (rest := []) (st' := [nk_i r1]) (pc' := 4) mJ_117 (by decide +kernel) (by decide +kernel) rfl rfl t_l0 (Nat.le_of_ble_eq_true rfl) mJ_105 (Nat.le_of_ble_eq_true rfl) rfl (ja_X13_cut_ok zs _ _ _ t_l0 h3) rfl ?_
  refine nk_icond (c := .ne) (off := 13) (len := 3) (t := 17) (pc' := 7) mJ_117 (by decide +kernel) (by decide +kernel) rfl (fun hc => ?_) (fun hc => ?_)
  · have hr := nk_ifn (c := r1 = 0) hc hr
    refine nk_p (i := .aload_n 0) (len := 1) (pc' := 18) mJ_117 (by decide +kernel) (ns_aload_n 0 rfl rfl) rfl ?_
    obtain ⟨r4, S5, h6, hr⟩ := nk_bde hr
    refine nk_callV (ci := 13) (n := 0) (x := 768) (len := 3) (j' := 156) (q' := 1) (r := r4) (S' := S5) (L2 := [(0, nk_r l0)]) (rest := []) (st' := [nk_i r4]) (pc' := 21) mJ_117 (by decide +kernel) (by decide +kernel) rfl rfl t_l0 (Nat.le_of_ble_eq_true rfl) mJ_156 (Nat.le_of_ble_eq_true rfl) rfl (ja_X13_isProgram_ok zs _ _ _ t_l0 h6) rfl ?_
    refine nk_icond (c := .ne) (off := 13) (len := 3) (t := 34) (pc' := 24) mJ_117 (by decide +kernel) (by decide +kernel) rfl (fun hc => ?_) (fun hc => ?_)
    · have hr := nk_ifn (c := r4 = 0) hc hr
      refine nk_p (i := .aload_n 0) (len := 1) (pc' := 35) mJ_117 (by decide +kernel) (ns_aload_n 0 rfl rfl) rfl ?_
      refine nk_p (i := .aload_n 1) (len := 1) (pc' := 36) mJ_117 (by decide +kernel) (ns_aload_n 1 rfl rfl) rfl ?_
      obtain ⟨r7, S8, h9, hr⟩ := nk_bde hr
      refine nk_callV (ci := 13) (n := 1) (x := 771) (len := 3) (j' := 98) (q' := 1) (r := r7) (S' := S8) (L2 := [(0, nk_r l0), (1, nk_r l1)]) (rest := []) (st' := [nk_i r7]) (pc' := 39) mJ_117 (by decide +kernel) (by decide +kernel) rfl rfl t_l0 (Nat.le_of_ble_eq_true rfl) mJ_98 (Nat.le_of_ble_eq_true rfl) rfl (ja_X13_classNames_ok zs _ _ _ _ t_l0 t_l1 h9) rfl ?_
      refine nk_icond (c := .eq) (off := 27) (len := 3) (t := 66) (pc' := 42) mJ_117 (by decide +kernel) (by decide +kernel) rfl (fun hc => ?_) (fun hc => ?_)
      · have hr := nk_ifp (c := r7 = 0) hc hr
        refine nk_p (i := .iconst 3) (len := 1) (pc' := 67) mJ_117 (by decide +kernel) (ns_iconst (c := 3) (by decide +kernel)) rfl ?_
        cases hr
        exact nk_iret (ty := .int) (len := 1) mJ_117 (by decide +kernel) rfl (nk_nar_i _)
      · have hr := nk_ifn (c := r7 = 0) hc hr
        refine nk_p (i := .aload_n 0) (len := 1) (pc' := 43) mJ_117 (by decide +kernel) (ns_aload_n 0 rfl rfl) rfl ?_
        refine nk_p (i := .aload_n 1) (len := 1) (pc' := 44) mJ_117 (by decide +kernel) (ns_aload_n 1 rfl rfl) rfl ?_
        obtain ⟨r10, S11, h12, hr⟩ := nk_bde hr
        refine nk_callV (ci := 13) (n := 1) (x := 774) (len := 3) (j' := 193) (q' := 1) (r := r10) (S' := S11) (L2 := [(0, nk_r l0), (1, nk_r l1)]) (rest := []) (st' := [nk_i r10]) (pc' := 47) mJ_117 (by decide +kernel) (by decide +kernel) rfl rfl t_l0 (Nat.le_of_ble_eq_true rfl) mJ_193 (Nat.le_of_ble_eq_true rfl) rfl (ja_X13_members_ok zs _ _ _ _ t_l0 t_l1 h12) rfl ?_
        refine nk_icond (c := .eq) (off := 19) (len := 3) (t := 66) (pc' := 50) mJ_117 (by decide +kernel) (by decide +kernel) rfl (fun hc => ?_) (fun hc => ?_)
        · have hr := nk_ifp (c := r10 = 0) hc hr
          refine nk_p (i := .iconst 3) (len := 1) (pc' := 67) mJ_117 (by decide +kernel) (ns_iconst (c := 3) (by decide +kernel)) rfl ?_
          cases hr
          exact nk_iret (ty := .int) (len := 1) mJ_117 (by decide +kernel) rfl (nk_nar_i _)
        · have hr := nk_ifn (c := r10 = 0) hc hr
          refine nk_p (i := .aload_n 0) (len := 1) (pc' := 51) mJ_117 (by decide +kernel) (ns_aload_n 0 rfl rfl) rfl ?_
          refine nk_p (i := .aload_n 1) (len := 1) (pc' := 52) mJ_117 (by decide +kernel) (ns_aload_n 1 rfl rfl) rfl ?_
          obtain ⟨r13, S14, h15, hr⟩ := nk_bde hr
          refine nk_callV (ci := 13) (n := 1) (x := 777) (len := 3) (j' := 182) (q' := 1) (r := r13) (S' := S14) (L2 := [(0, nk_r l0), (1, nk_r l1)]) (rest := []) (st' := [nk_i r13]) (pc' := 55) mJ_117 (by decide +kernel) (by decide +kernel) rfl rfl t_l0 (Nat.le_of_ble_eq_true rfl) mJ_182 (Nat.le_of_ble_eq_true rfl) rfl (ja_X13_lines_ok zs _ _ _ _ t_l0 t_l1 h15) rfl ?_
          refine nk_icond (c := .eq) (off := 11) (len := 3) (t := 66) (pc' := 58) mJ_117 (by decide +kernel) (by decide +kernel) rfl (fun hc => ?_) (fun hc => ?_)
          · have hr := nk_ifp (c := r13 = 0) hc hr
            refine nk_p (i := .iconst 3) (len := 1) (pc' := 67) mJ_117 (by decide +kernel) (ns_iconst (c := 3) (by decide +kernel)) rfl ?_
            cases hr
            exact nk_iret (ty := .int) (len := 1) mJ_117 (by decide +kernel) rfl (nk_nar_i _)
          · have hr := nk_ifn (c := r13 = 0) hc hr
            refine nk_p (i := .aload_n 0) (len := 1) (pc' := 59) mJ_117 (by decide +kernel) (ns_aload_n 0 rfl rfl) rfl ?_
            refine nk_p (i := .aload_n 1) (len := 1) (pc' := 60) mJ_117 (by decide +kernel) (ns_aload_n 1 rfl rfl) rfl ?_
            obtain ⟨r16, S17, h18, hr⟩ := nk_bde hr
            refine nk_callV (ci := 13) (n := 1) (x := 780) (len := 3) (j' := 222) (q' := 1) (r := r16) (S' := S17) (L2 := [(0, nk_r l0), (1, nk_r l1)]) (rest := []) (st' := [nk_i r16]) (pc' := 63) mJ_117 (by decide +kernel) (by decide +kernel) rfl rfl t_l0 (Nat.le_of_ble_eq_true rfl) mJ_222 (Nat.le_of_ble_eq_true rfl) rfl (ja_X13_settled_ok zs _ _ _ _ t_l0 t_l1 h18) rfl ?_
            refine nk_icond (c := .ne) (off := 5) (len := 3) (t := 68) (pc' := 66) mJ_117 (by decide +kernel) (by decide +kernel) rfl (fun hc => ?_) (fun hc => ?_)
            · have hr := nk_ifn (c := r16 = 0) hc hr
              refine nk_p (i := .iconst 0) (len := 1) (pc' := 69) mJ_117 (by decide +kernel) (ns_iconst (c := 0) (by decide +kernel)) rfl ?_
              refine nk_p (i := .istore_n 2) (len := 1) (pc' := 70) mJ_117 (by decide +kernel) (ns_istore_n (L' := [(2, nk_i 0), (0, nk_r l0), (1, nk_r l1)]) rfl rfl rfl (by decide +kernel)) rfl ?_
              refine nk_sub [1, 2, 0] (L' := [(0, nk_r l0), (1, nk_r l1), (2, nk_i 0)]) rfl ?_
              exact ja_X13_fault_L70_ok zs nk_big _ _ _ _ _ t_l0 t_l1 hr
            · have hr := nk_ifp (c := r16 = 0) (Decidable.of_not_not hc) hr
              refine nk_p (i := .iconst 3) (len := 1) (pc' := 67) mJ_117 (by decide +kernel) (ns_iconst (c := 3) (by decide +kernel)) rfl ?_
              cases hr
              exact nk_iret (ty := .int) (len := 1) mJ_117 (by decide +kernel) rfl (nk_nar_i _)
    · have hr := nk_ifp (c := r4 = 0) (Decidable.of_not_not hc) hr
      refine nk_p (i := .aload_n 0) (len := 1) (pc' := 25) mJ_117 (by decide +kernel) (ns_aload_n 0 rfl rfl) rfl ?_
      refine nk_p (i := .aload_n 0) (len := 1) (pc' := 26) mJ_117 (by decide +kernel) (ns_aload_n 0 rfl rfl) rfl ?_
      refine nk_getI (y := (0, 0)) (x := 194) (len := 3) (ci := 13) (k := 11) (pc' := 29) ja_okT mJ_117 (by decide +kernel) (by decide +kernel) (by decide +kernel) t_l0 rfl ?_
      obtain ⟨S19, h20, hr⟩ := nk_lte hr
      refine nk_putI (y := (0, 0)) (ty := .int) (x := 33) (len := 3) (ci := 13) (k := 12) (pc' := 32) ja_okT mJ_117 (by decide +kernel) (by decide +kernel) (by decide +kernel) t_l0 (Or.inl rfl) rfl h20 ?_
      refine nk_p (i := .iconst 2) (len := 1) (pc' := 33) mJ_117 (by decide +kernel) (ns_iconst (c := 2) (by decide +kernel)) rfl ?_
      cases hr
      exact nk_iret (ty := .int) (len := 1) mJ_117 (by decide +kernel) rfl (nk_nar_i _)
  · have hr := nk_ifp (c := r1 = 0) (Decidable.of_not_not hc) hr
    refine nk_p (i := .aload_n 0) (len := 1) (pc' := 8) mJ_117 (by decide +kernel) (ns_aload_n 0 rfl rfl) rfl ?_
    refine nk_p (i := .aload_n 0) (len := 1) (pc' := 9) mJ_117 (by decide +kernel) (ns_aload_n 0 rfl rfl) rfl ?_
    refine nk_getI (y := (0, 0)) (x := 155) (len := 3) (ci := 13) (k := 10) (pc' := 12) ja_okT mJ_117 (by decide +kernel) (by decide +kernel) (by decide +kernel) t_l0 rfl ?_
    obtain ⟨S21, h22, hr⟩ := nk_lte hr
    refine nk_putI (y := (0, 0)) (ty := .int) (x := 33) (len := 3) (ci := 13) (k := 12) (pc' := 15) ja_okT mJ_117 (by decide +kernel) (by decide +kernel) (by decide +kernel) t_l0 (Or.inl rfl) rfl h22 ?_
    refine nk_p (i := .iconst 1) (len := 1) (pc' := 16) mJ_117 (by decide +kernel) (ns_iconst (c := 1) (by decide +kernel)) rfl ?_
    cases hr
    exact nk_iret (ty := .int) (len := 1) mJ_117 (by decide +kernel) rfl (nk_nar_i _)
/-! SafeCodeModel faultAt ()I -/
noncomputable def ja_X13_faultAt (l0 : Nat) (S : nk_S) : Option (Int × nk_S) :=
  some ((S.1 l0 12), S)
theorem ja_X13_faultAt_ok (zs : List Int32) : ∀ (l0 : Nat) (S : nk_S) (R : Int × nk_S), nk_cl ja_Tt l0 = some 13 → ja_X13_faultAt l0 S = some R → nk_K ja_Tt mi_Γ (mi_ev zs) 1 118 0 [(0, nk_r l0)] [] S R := by
  intro l0 S R t_l0 hr
  unfold ja_X13_faultAt at hr
  refine nk_p (i := .aload_n 0) (len := 1) (pc' := 1) mJ_118 (by decide +kernel) (ns_aload_n 0 rfl rfl) rfl ?_
  refine nk_getI (y := (0, 0)) (x := 33) (len := 3) (ci := 13) (k := 12) (pc' := 4) ja_okT mJ_118 (by decide +kernel) (by decide +kernel) (by decide +kernel) t_l0 rfl ?_
  cases hr
  exact nk_iret (ty := .int) (len := 1) mJ_118 (by decide +kernel) rfl (nk_nar_i _)
/-! SafeCodeModel word (I)V -/
noncomputable def ja_X13_word_b2 (rec2 : Nat → Int → Int → nk_S → Option (Int × nk_S)) (l0 : Nat) (l1 : Int) (l2 : Int) (S : nk_S) : Option (Int × nk_S) :=
  if l2 < 0 then
    some (0, S)
  else
    if 0 ≤ (S.1 l0 4) ∧ (S.1 l0 4) < 16000 then
    nk_lt (nk_wi S (ja_c l0 3) (S.1 l0 4).toNat (nk_i2b (nk_i2b (nk_ishr l1 (nk_w (8 * l2)))))) fun S3 =>
    nk_lt (nk_wi S3 l0 4 (nk_w ((S3.1 l0 4) + 1))) fun S5 =>
    nk_lt (nk_w (l2 + (-1))) fun v7 =>
    rec2 l0 l1 v7 S5
    else none
theorem ja_X13_word_b2_ok (zs : List Int32) {rec2 : Nat → Int → Int → nk_S → Option (Int × nk_S)} (hrec2 : ∀ (l0 : Nat) (l1 : Int) (l2 : Int) (S : nk_S) (R : Int × nk_S), nk_cl ja_Tt l0 = some 13 → rec2 l0 l1 l2 S = some R → nk_K ja_Tt mi_Γ (mi_ev zs) 0 244 2 [(0, nk_r l0), (1, nk_i l1), (2, nk_i l2)] [] S R) : ∀ (l0 : Nat) (l1 : Int) (l2 : Int) (S : nk_S) (R : Int × nk_S), nk_cl ja_Tt l0 = some 13 → ja_X13_word_b2 rec2 l0 l1 l2 S = some R → nk_K ja_Tt mi_Γ (mi_ev zs) 0 244 2 [(0, nk_r l0), (1, nk_i l1), (2, nk_i l2)] [] S R := by
  intro l0 l1 l2 S R t_l0 hr
  unfold ja_X13_word_b2 at hr
  refine nk_p (i := .iload_n 2) (len := 1) (pc' := 3) mJ_244 (by decide +kernel) (ns_iload_n 2 rfl rfl) rfl ?_
  refine nk_icond (c := .lt) (off := 35) (len := 3) (t := 38) (pc' := 6) mJ_244 (by decide +kernel) (by decide +kernel) rfl (fun hc => ?_) (fun hc => ?_)
  · have hr := nk_ifp (c := l2 < 0) hc hr
    cases hr
    exact nk_vret (len := 1) mJ_244 (by decide +kernel) rfl
  · have hr := nk_ifn (c := l2 < 0) hc hr
    refine nk_p (i := .aload_n 0) (len := 1) (pc' := 7) mJ_244 (by decide +kernel) (ns_aload_n 0 rfl rfl) rfl ?_
    refine nk_getC (f := (4, 0, 16000)) (x := 19) (len := 3) (ci := 13) (k := 3) (pc' := 10) ja_okT mJ_244 (by decide +kernel) (by decide +kernel) (by decide +kernel) (by decide) t_l0 rfl ?_
    have t1 : nk_ar ja_Tt (ja_c l0 3) = some (0, 16000) := nk_ta ja_okT t_l0 (by decide +kernel)
    refine nk_p (i := .aload_n 0) (len := 1) (pc' := 11) mJ_244 (by decide +kernel) (ns_aload_n 0 rfl rfl) rfl ?_
    refine nk_getI (y := (0, 0)) (x := 141) (len := 3) (ci := 13) (k := 4) (pc' := 14) ja_okT mJ_244 (by decide +kernel) (by decide +kernel) (by decide +kernel) t_l0 rfl ?_
    refine nk_p (i := .iload_n 1) (len := 1) (pc' := 15) mJ_244 (by decide +kernel) (ns_iload_n 1 rfl rfl) rfl ?_
    refine nk_p (i := .bipush 8) (len := 2) (pc' := 17) mJ_244 (by decide +kernel) (ns_bipush (c := 8) (by decide +kernel)) rfl ?_
    refine nk_p (i := .iload_n 2) (len := 1) (pc' := 18) mJ_244 (by decide +kernel) (ns_iload_n 2 rfl rfl) rfl ?_
    refine nk_p (i := .imul) (len := 1) (pc' := 19) mJ_244 (by decide +kernel) ns_imul rfl ?_
    refine nk_p (i := .ishr) (len := 1) (pc' := 20) mJ_244 (by decide +kernel) ns_ishr rfl ?_
    refine nk_p (i := .i2b) (len := 1) (pc' := 21) mJ_244 (by decide +kernel) ns_i2b rfl ?_
    obtain ⟨h2, hr⟩ := nk_cke hr
    obtain ⟨S3, h4, hr⟩ := nk_lte hr
    refine nk_bast (len := 1) (N := 16000) (pc' := 22) mJ_244 (by decide +kernel) t1 h2.1 h2.2 rfl rfl h4 ?_
    refine nk_p (i := .aload_n 0) (len := 1) (pc' := 23) mJ_244 (by decide +kernel) (ns_aload_n 0 rfl rfl) rfl ?_
    refine nk_p (i := .dup) (len := 1) (pc' := 24) mJ_244 (by decide +kernel) (ns_dup rfl) rfl ?_
    refine nk_getI (y := (0, 0)) (x := 141) (len := 3) (ci := 13) (k := 4) (pc' := 27) ja_okT mJ_244 (by decide +kernel) (by decide +kernel) (by decide +kernel) t_l0 rfl ?_
    refine nk_p (i := .iconst 1) (len := 1) (pc' := 28) mJ_244 (by decide +kernel) (ns_iconst (c := 1) (by decide +kernel)) rfl ?_
    refine nk_p (i := .iadd) (len := 1) (pc' := 29) mJ_244 (by decide +kernel) ns_iadd rfl ?_
    obtain ⟨S5, h6, hr⟩ := nk_lte hr
    refine nk_putI (y := (0, 0)) (ty := .int) (x := 141) (len := 3) (ci := 13) (k := 4) (pc' := 32) ja_okT mJ_244 (by decide +kernel) (by decide +kernel) (by decide +kernel) t_l0 (Or.inl rfl) rfl h6 ?_
    obtain ⟨v7, h8, hr⟩ := nk_lte hr
    refine nk_p (i := .iinc 2 (-1)) (len := 3) (pc' := 35) mJ_244 (by decide +kernel) (ns_iinc (c := (-1)) (L' := [(2, nk_i v7), (0, nk_r l0), (1, nk_i l1)]) 2 rfl (by decide +kernel) h8 rfl (by decide +kernel)) rfl ?_
    refine nk_p (i := .goto (-33)) (len := 3) (pc' := 2) mJ_244 (by decide +kernel) (ns_goto (by decide +kernel)) rfl ?_
    refine nk_sub [1, 2, 0] (L' := [(0, nk_r l0), (1, nk_i l1), (2, nk_i v7)]) rfl ?_
    exact hrec2 _ _ _ _ _ t_l0 hr
noncomputable def ja_X13_word_L2 : Nat → Nat → Int → Int → nk_S → Option (Int × nk_S)
  | 0, _, _, _, _ => none
  | n + 1, l0, l1, l2, S => ja_X13_word_b2 (ja_X13_word_L2 n) l0 l1 l2 S
theorem ja_X13_word_L2_ok (zs : List Int32) : ∀ n : Nat, ∀ (l0 : Nat) (l1 : Int) (l2 : Int) (S : nk_S) (R : Int × nk_S), nk_cl ja_Tt l0 = some 13 → ja_X13_word_L2 n l0 l1 l2 S = some R → nk_K ja_Tt mi_Γ (mi_ev zs) 0 244 2 [(0, nk_r l0), (1, nk_i l1), (2, nk_i l2)] [] S R := by
  intro n
  induction n with
  | zero => intro _ _ _ _ _ _ hr; cases hr
  | succ n ih => intro l0 l1 l2 S R t_l0 hr; exact ja_X13_word_b2_ok zs ih l0 l1 l2 S R t_l0 hr
noncomputable def ja_X13_word (l0 : Nat) (l1 : Int) (S : nk_S) : Option (Int × nk_S) :=
  ja_X13_word_L2 nk_big l0 l1 3 S
theorem ja_X13_word_ok (zs : List Int32) : ∀ (l0 : Nat) (l1 : Int) (S : nk_S) (R : Int × nk_S), nk_cl ja_Tt l0 = some 13 → ja_X13_word l0 l1 S = some R → nk_K ja_Tt mi_Γ (mi_ev zs) 0 244 0 [(0, nk_r l0), (1, nk_i l1)] [] S R := by
  intro l0 l1 S R t_l0 hr
  unfold ja_X13_word at hr
  refine nk_p (i := .iconst 3) (len := 1) (pc' := 1) mJ_244 (by decide +kernel) (ns_iconst (c := 3) (by decide +kernel)) rfl ?_
  refine nk_p (i := .istore_n 2) (len := 1) (pc' := 2) mJ_244 (by decide +kernel) (ns_istore_n (L' := [(2, nk_i 3), (0, nk_r l0), (1, nk_i l1)]) rfl rfl rfl (by decide +kernel)) rfl ?_
  refine nk_sub [1, 2, 0] (L' := [(0, nk_r l0), (1, nk_i l1), (2, nk_i 3)]) rfl ?_
  exact ja_X13_word_L2_ok zs nk_big _ _ _ _ _ t_l0 hr
/-! SafeCodeModel feed (IIIII)I -/
noncomputable def ja_X13_feed (l0 : Nat) (l1 : Int) (l2 : Int) (l3 : Int) (l4 : Int) (l5 : Int) (S : nk_S) : Option (Int × nk_S) :=
  if 16000 < (nk_w ((S.1 l0 4) + 20)) then
    some ((-1), S)
  else
    if (nk_w ((S.1 l0 5) + 20)) ≤ 65536 then
      nk_bd (ja_X13_word l0 l1 S) fun r1 S2 =>
      nk_bd (ja_X13_word l0 l2 S2) fun r4 S5 =>
      nk_bd (ja_X13_word l0 l3 S5) fun r7 S8 =>
      nk_bd (ja_X13_word l0 l4 S8) fun r10 S11 =>
      nk_bd (ja_X13_word l0 l5 S11) fun r13 S14 =>
      nk_lt (nk_wi S14 l0 5 (nk_w ((S14.1 l0 5) + 20))) fun S16 =>
      some ((S16.1 l0 4), S16)
    else
      some ((-1), S)
theorem ja_X13_feed_ok (zs : List Int32) : ∀ (l0 : Nat) (l1 : Int) (l2 : Int) (l3 : Int) (l4 : Int) (l5 : Int) (S : nk_S) (R : Int × nk_S), nk_cl ja_Tt l0 = some 13 → ja_X13_feed l0 l1 l2 l3 l4 l5 S = some R → nk_K ja_Tt mi_Γ (mi_ev zs) 1 119 0 [(0, nk_r l0), (1, nk_i l1), (2, nk_i l2), (3, nk_i l3), (4, nk_i l4), (5, nk_i l5)] [] S R := by
  intro l0 l1 l2 l3 l4 l5 S R t_l0 hr
  unfold ja_X13_feed at hr
  refine nk_p (i := .aload_n 0) (len := 1) (pc' := 1) mJ_119 (by decide +kernel) (ns_aload_n 0 rfl rfl) rfl ?_
  refine nk_getI (y := (0, 0)) (x := 141) (len := 3) (ci := 13) (k := 4) (pc' := 4) ja_okT mJ_119 (by decide +kernel) (by decide +kernel) (by decide +kernel) t_l0 rfl ?_
  refine nk_p (i := .bipush 20) (len := 2) (pc' := 6) mJ_119 (by decide +kernel) (ns_bipush (c := 20) (by decide +kernel)) rfl ?_
  refine nk_p (i := .iadd) (len := 1) (pc' := 7) mJ_119 (by decide +kernel) ns_iadd rfl ?_
  refine nk_p (i := .sipush 16000) (len := 3) (pc' := 10) mJ_119 (by decide +kernel) (ns_sipush (c := 16000) (by decide +kernel)) rfl ?_
  refine nk_icmp (c := .gt) (off := 15) (len := 3) (t := 25) (pc' := 13) mJ_119 (by decide +kernel) (by decide +kernel) rfl (fun hc => ?_) (fun hc => ?_)
  · have hr := nk_ifp (c := 16000 < (nk_w ((S.1 l0 4) + 20))) hc hr
    refine nk_p (i := .iconst (-1)) (len := 1) (pc' := 26) mJ_119 (by decide +kernel) (ns_iconst (c := (-1)) (by decide +kernel)) rfl ?_
    cases hr
    exact nk_iret (ty := .int) (len := 1) mJ_119 (by decide +kernel) rfl (nk_nar_i _)
  · have hr := nk_ifn (c := 16000 < (nk_w ((S.1 l0 4) + 20))) hc hr
    refine nk_p (i := .aload_n 0) (len := 1) (pc' := 14) mJ_119 (by decide +kernel) (ns_aload_n 0 rfl rfl) rfl ?_
    refine nk_getI (y := (0, 0)) (x := 144) (len := 3) (ci := 13) (k := 5) (pc' := 17) ja_okT mJ_119 (by decide +kernel) (by decide +kernel) (by decide +kernel) t_l0 rfl ?_
    refine nk_p (i := .bipush 20) (len := 2) (pc' := 19) mJ_119 (by decide +kernel) (ns_bipush (c := 20) (by decide +kernel)) rfl ?_
    refine nk_p (i := .iadd) (len := 1) (pc' := 20) mJ_119 (by decide +kernel) ns_iadd rfl ?_
    refine nk_ldci (x := 147) (len := 2) (X := 65536) (v := 65536) (pc' := 22) mJ_119 (by decide +kernel) (by decide +kernel) (by decide +kernel) rfl ?_
    refine nk_icmp (c := .le) (off := 5) (len := 3) (t := 27) (pc' := 25) mJ_119 (by decide +kernel) (by decide +kernel) rfl (fun hc => ?_) (fun hc => ?_)
    · have hr := nk_ifp (c := (nk_w ((S.1 l0 5) + 20)) ≤ 65536) hc hr
      refine nk_p (i := .aload_n 0) (len := 1) (pc' := 28) mJ_119 (by decide +kernel) (ns_aload_n 0 rfl rfl) rfl ?_
      refine nk_p (i := .iload_n 1) (len := 1) (pc' := 29) mJ_119 (by decide +kernel) (ns_iload_n 1 rfl rfl) rfl ?_
      obtain ⟨r1, S2, h3, hr⟩ := nk_bde hr
      refine nk_callV (ci := 13) (n := 1) (x := 148) (len := 3) (j' := 244) (q' := 0) (r := r1) (S' := S2) (L2 := [(0, nk_r l0), (1, nk_i l1)]) (rest := []) (st' := []) (pc' := 32) mJ_119 (by decide +kernel) (by decide +kernel) rfl rfl t_l0 (Nat.le_of_ble_eq_true rfl) mJ_244 (Nat.le_of_ble_eq_true rfl) rfl (ja_X13_word_ok zs _ _ _ _ t_l0 h3) rfl ?_
      refine nk_p (i := .aload_n 0) (len := 1) (pc' := 33) mJ_119 (by decide +kernel) (ns_aload_n 0 rfl rfl) rfl ?_
      refine nk_p (i := .iload_n 2) (len := 1) (pc' := 34) mJ_119 (by decide +kernel) (ns_iload_n 2 rfl rfl) rfl ?_
      obtain ⟨r4, S5, h6, hr⟩ := nk_bde hr
      refine nk_callV (ci := 13) (n := 1) (x := 148) (len := 3) (j' := 244) (q' := 0) (r := r4) (S' := S5) (L2 := [(0, nk_r l0), (1, nk_i l2)]) (rest := []) (st' := []) (pc' := 37) mJ_119 (by decide +kernel) (by decide +kernel) rfl rfl t_l0 (Nat.le_of_ble_eq_true rfl) mJ_244 (Nat.le_of_ble_eq_true rfl) rfl (ja_X13_word_ok zs _ _ _ _ t_l0 h6) rfl ?_
      refine nk_p (i := .aload_n 0) (len := 1) (pc' := 38) mJ_119 (by decide +kernel) (ns_aload_n 0 rfl rfl) rfl ?_
      refine nk_p (i := .iload_n 3) (len := 1) (pc' := 39) mJ_119 (by decide +kernel) (ns_iload_n 3 rfl rfl) rfl ?_
      obtain ⟨r7, S8, h9, hr⟩ := nk_bde hr
      refine nk_callV (ci := 13) (n := 1) (x := 148) (len := 3) (j' := 244) (q' := 0) (r := r7) (S' := S8) (L2 := [(0, nk_r l0), (1, nk_i l3)]) (rest := []) (st' := []) (pc' := 42) mJ_119 (by decide +kernel) (by decide +kernel) rfl rfl t_l0 (Nat.le_of_ble_eq_true rfl) mJ_244 (Nat.le_of_ble_eq_true rfl) rfl (ja_X13_word_ok zs _ _ _ _ t_l0 h9) rfl ?_
      refine nk_p (i := .aload_n 0) (len := 1) (pc' := 43) mJ_119 (by decide +kernel) (ns_aload_n 0 rfl rfl) rfl ?_
      refine nk_p (i := .iload 4) (len := 2) (pc' := 45) mJ_119 (by decide +kernel) (ns_iload 4 rfl) rfl ?_
      obtain ⟨r10, S11, h12, hr⟩ := nk_bde hr
      refine nk_callV (ci := 13) (n := 1) (x := 148) (len := 3) (j' := 244) (q' := 0) (r := r10) (S' := S11) (L2 := [(0, nk_r l0), (1, nk_i l4)]) (rest := []) (st' := []) (pc' := 48) mJ_119 (by decide +kernel) (by decide +kernel) rfl rfl t_l0 (Nat.le_of_ble_eq_true rfl) mJ_244 (Nat.le_of_ble_eq_true rfl) rfl (ja_X13_word_ok zs _ _ _ _ t_l0 h12) rfl ?_
      refine nk_p (i := .aload_n 0) (len := 1) (pc' := 49) mJ_119 (by decide +kernel) (ns_aload_n 0 rfl rfl) rfl ?_
      refine nk_p (i := .iload 5) (len := 2) (pc' := 51) mJ_119 (by decide +kernel) (ns_iload 5 rfl) rfl ?_
      obtain ⟨r13, S14, h15, hr⟩ := nk_bde hr
      refine nk_callV (ci := 13) (n := 1) (x := 148) (len := 3) (j' := 244) (q' := 0) (r := r13) (S' := S14) (L2 := [(0, nk_r l0), (1, nk_i l5)]) (rest := []) (st' := []) (pc' := 54) mJ_119 (by decide +kernel) (by decide +kernel) rfl rfl t_l0 (Nat.le_of_ble_eq_true rfl) mJ_244 (Nat.le_of_ble_eq_true rfl) rfl (ja_X13_word_ok zs _ _ _ _ t_l0 h15) rfl ?_
      refine nk_p (i := .aload_n 0) (len := 1) (pc' := 55) mJ_119 (by decide +kernel) (ns_aload_n 0 rfl rfl) rfl ?_
      refine nk_p (i := .dup) (len := 1) (pc' := 56) mJ_119 (by decide +kernel) (ns_dup rfl) rfl ?_
      refine nk_getI (y := (0, 0)) (x := 144) (len := 3) (ci := 13) (k := 5) (pc' := 59) ja_okT mJ_119 (by decide +kernel) (by decide +kernel) (by decide +kernel) t_l0 rfl ?_
      refine nk_p (i := .bipush 20) (len := 2) (pc' := 61) mJ_119 (by decide +kernel) (ns_bipush (c := 20) (by decide +kernel)) rfl ?_
      refine nk_p (i := .iadd) (len := 1) (pc' := 62) mJ_119 (by decide +kernel) ns_iadd rfl ?_
      obtain ⟨S16, h17, hr⟩ := nk_lte hr
      refine nk_putI (y := (0, 0)) (ty := .int) (x := 144) (len := 3) (ci := 13) (k := 5) (pc' := 65) ja_okT mJ_119 (by decide +kernel) (by decide +kernel) (by decide +kernel) t_l0 (Or.inl rfl) rfl h17 ?_
      refine nk_p (i := .aload_n 0) (len := 1) (pc' := 66) mJ_119 (by decide +kernel) (ns_aload_n 0 rfl rfl) rfl ?_
      refine nk_getI (y := (0, 0)) (x := 141) (len := 3) (ci := 13) (k := 4) (pc' := 69) ja_okT mJ_119 (by decide +kernel) (by decide +kernel) (by decide +kernel) t_l0 rfl ?_
      cases hr
      exact nk_iret (ty := .int) (len := 1) mJ_119 (by decide +kernel) rfl (nk_nar_i _)
    · have hr := nk_ifn (c := (nk_w ((S.1 l0 5) + 20)) ≤ 65536) hc hr
      refine nk_p (i := .iconst (-1)) (len := 1) (pc' := 26) mJ_119 (by decide +kernel) (ns_iconst (c := (-1)) (by decide +kernel)) rfl ?_
      cases hr
      exact nk_iret (ty := .int) (len := 1) mJ_119 (by decide +kernel) rfl (nk_nar_i _)
/-! SafeCodeModel fetch (LSafeCodeModel$Program;I)V -/
noncomputable def ja_X13_fetch_b23 (rec15 : Nat → Nat → Int → Int → nk_S → Option (Int × nk_S)) (l0 : Nat) (l1 : Nat) (l2 : Int) (l3 : Int) (S : nk_S) : Option (Int × nk_S) :=
  nk_lt (nk_w ((nk_w (l2 * 20)) + l3)) fun v1 =>
  if 0 ≤ v1 ∧ v1 < 20480 then
  if 0 ≤ l3 ∧ l3 < 24 then
  nk_lt (nk_wi S (ja_c l0 26) l3.toNat (nk_i2b (S.1 (ja_c l1 35) v1.toNat))) fun S7 =>
  nk_lt (nk_wi S7 (ja_c l0 27) l3.toNat (S7.1 (ja_c l1 36) v1.toNat)) fun S11 =>
  nk_lt (nk_wi S11 (ja_c l0 28) l3.toNat (S11.1 (ja_c l1 37) v1.toNat)) fun S15 =>
  nk_lt (nk_wi S15 (ja_c l0 29) l3.toNat (S15.1 (ja_c l1 38) v1.toNat)) fun S19 =>
  nk_lt (nk_wi S19 (ja_c l0 30) l3.toNat (S19.1 (ja_c l1 39) v1.toNat)) fun S23 =>
  nk_lt (nk_wi S23 (ja_c l0 31) l3.toNat (S23.1 (ja_c l1 40) v1.toNat)) fun S27 =>
  nk_lt (nk_wi S27 (ja_c l0 32) l3.toNat (S27.1 (ja_c l1 41) v1.toNat)) fun S31 =>
  nk_lt (nk_wi S31 (ja_c l0 33) l3.toNat (S31.1 (ja_c l1 42) v1.toNat)) fun S35 =>
  nk_lt (nk_wi S35 (ja_c l0 34) l3.toNat (S35.1 (ja_c l1 43) v1.toNat)) fun S39 =>
  nk_lt (nk_w (l3 + 1)) fun v41 =>
  rec15 l0 l1 l2 v41 S39
  else none
  else none
theorem ja_X13_fetch_b23_ok (zs : List Int32) {rec15 : Nat → Nat → Int → Int → nk_S → Option (Int × nk_S)} (hrec15 : ∀ (l0 : Nat) (l1 : Nat) (l2 : Int) (l3 : Int) (S : nk_S) (R : Int × nk_S), nk_cl ja_Tt l0 = some 13 → nk_cl ja_Tt l1 = some 12 → rec15 l0 l1 l2 l3 S = some R → nk_K ja_Tt mi_Γ (mi_ev zs) 0 120 15 [(0, nk_r l0), (1, nk_r l1), (2, nk_i l2), (3, nk_i l3)] [] S R) : ∀ (l0 : Nat) (l1 : Nat) (l2 : Int) (l3 : Int) (S : nk_S) (R : Int × nk_S), nk_cl ja_Tt l0 = some 13 → nk_cl ja_Tt l1 = some 12 → ja_X13_fetch_b23 rec15 l0 l1 l2 l3 S = some R → nk_K ja_Tt mi_Γ (mi_ev zs) 0 120 23 [(0, nk_r l0), (1, nk_r l1), (2, nk_i l2), (3, nk_i l3)] [] S R := by
  intro l0 l1 l2 l3 S R t_l0 t_l1 hr
  unfold ja_X13_fetch_b23 at hr
  refine nk_p (i := .iload_n 2) (len := 1) (pc' := 24) mJ_120 (by decide +kernel) (ns_iload_n 2 rfl rfl) rfl ?_
  refine nk_p (i := .bipush 20) (len := 2) (pc' := 26) mJ_120 (by decide +kernel) (ns_bipush (c := 20) (by decide +kernel)) rfl ?_
  refine nk_p (i := .imul) (len := 1) (pc' := 27) mJ_120 (by decide +kernel) ns_imul rfl ?_
  refine nk_p (i := .iload_n 3) (len := 1) (pc' := 28) mJ_120 (by decide +kernel) (ns_iload_n 3 rfl rfl) rfl ?_
  refine nk_p (i := .iadd) (len := 1) (pc' := 29) mJ_120 (by decide +kernel) ns_iadd rfl ?_
  obtain ⟨v1, h2, hr⟩ := nk_lte hr
  refine nk_p (i := .istore 4) (len := 2) (pc' := 31) mJ_120 (by decide +kernel) (ns_istore (L' := [(4, nk_i v1), (0, nk_r l0), (1, nk_r l1), (2, nk_i l2), (3, nk_i l3)]) h2 rfl (by decide +kernel)) rfl ?_
  refine nk_p (i := .aload_n 0) (len := 1) (pc' := 32) mJ_120 (by decide +kernel) (ns_aload_n 1 rfl rfl) rfl ?_
  refine nk_getC (f := (4, 0, 24)) (x := 71) (len := 3) (ci := 13) (k := 26) (pc' := 35) ja_okT mJ_120 (by decide +kernel) (by decide +kernel) (by decide +kernel) (by decide) t_l0 rfl ?_
  have t3 : nk_ar ja_Tt (ja_c l0 26) = some (0, 24) := nk_ta ja_okT t_l0 (by decide +kernel)
  refine nk_p (i := .iload_n 3) (len := 1) (pc' := 36) mJ_120 (by decide +kernel) (ns_iload_n 4 rfl rfl) rfl ?_
  refine nk_p (i := .aload_n 1) (len := 1) (pc' := 37) mJ_120 (by decide +kernel) (ns_aload_n 2 rfl rfl) rfl ?_
  refine nk_getC (f := (4, 0, 20480)) (x := 529) (len := 3) (ci := 12) (k := 35) (pc' := 40) ja_okT mJ_120 (by decide +kernel) (by decide +kernel) (by decide +kernel) (by decide) t_l1 rfl ?_
  have t4 : nk_ar ja_Tt (ja_c l1 35) = some (0, 20480) := nk_ta ja_okT t_l1 (by decide +kernel)
  refine nk_p (i := .iload 4) (len := 2) (pc' := 42) mJ_120 (by decide +kernel) (ns_iload 0 rfl) rfl ?_
  obtain ⟨h5, hr⟩ := nk_cke hr
  refine nk_bald (t := 0) (len := 1) (N := 20480) (pc' := 43) mJ_120 (by decide +kernel) t4 (by decide) h5.1 h5.2 rfl rfl ?_
  obtain ⟨h6, hr⟩ := nk_cke hr
  obtain ⟨S7, h8, hr⟩ := nk_lte hr
  refine nk_bast (len := 1) (N := 24) (pc' := 44) mJ_120 (by decide +kernel) t3 h6.1 h6.2 rfl rfl h8 ?_
  refine nk_p (i := .aload_n 0) (len := 1) (pc' := 45) mJ_120 (by decide +kernel) (ns_aload_n 1 rfl rfl) rfl ?_
  refine nk_getC (f := (4, 1, 24)) (x := 74) (len := 3) (ci := 13) (k := 27) (pc' := 48) ja_okT mJ_120 (by decide +kernel) (by decide +kernel) (by decide +kernel) (by decide) t_l0 rfl ?_
  have t9 : nk_ar ja_Tt (ja_c l0 27) = some (1, 24) := nk_ta ja_okT t_l0 (by decide +kernel)
  refine nk_p (i := .iload_n 3) (len := 1) (pc' := 49) mJ_120 (by decide +kernel) (ns_iload_n 4 rfl rfl) rfl ?_
  refine nk_p (i := .aload_n 1) (len := 1) (pc' := 50) mJ_120 (by decide +kernel) (ns_aload_n 2 rfl rfl) rfl ?_
  refine nk_getC (f := (4, 1, 20480)) (x := 530) (len := 3) (ci := 12) (k := 36) (pc' := 53) ja_okT mJ_120 (by decide +kernel) (by decide +kernel) (by decide +kernel) (by decide) t_l1 rfl ?_
  have t10 : nk_ar ja_Tt (ja_c l1 36) = some (1, 20480) := nk_ta ja_okT t_l1 (by decide +kernel)
  refine nk_p (i := .iload 4) (len := 2) (pc' := 55) mJ_120 (by decide +kernel) (ns_iload 0 rfl) rfl ?_
  refine nk_iald (len := 1) (N := 20480) (pc' := 56) mJ_120 (by decide +kernel) t10 h5.1 h5.2 rfl rfl ?_
  obtain ⟨S11, h12, hr⟩ := nk_lte hr
  refine nk_iast (len := 1) (N := 24) (pc' := 57) mJ_120 (by decide +kernel) t9 h6.1 h6.2 rfl rfl h12 ?_
  refine nk_p (i := .aload_n 0) (len := 1) (pc' := 58) mJ_120 (by decide +kernel) (ns_aload_n 1 rfl rfl) rfl ?_
  refine nk_getC (f := (4, 1, 24)) (x := 77) (len := 3) (ci := 13) (k := 28) (pc' := 61) ja_okT mJ_120 (by decide +kernel) (by decide +kernel) (by decide +kernel) (by decide) t_l0 rfl ?_
  have t13 : nk_ar ja_Tt (ja_c l0 28) = some (1, 24) := nk_ta ja_okT t_l0 (by decide +kernel)
  refine nk_p (i := .iload_n 3) (len := 1) (pc' := 62) mJ_120 (by decide +kernel) (ns_iload_n 4 rfl rfl) rfl ?_
  refine nk_p (i := .aload_n 1) (len := 1) (pc' := 63) mJ_120 (by decide +kernel) (ns_aload_n 2 rfl rfl) rfl ?_
  refine nk_getC (f := (4, 1, 20480)) (x := 531) (len := 3) (ci := 12) (k := 37) (pc' := 66) ja_okT mJ_120 (by decide +kernel) (by decide +kernel) (by decide +kernel) (by decide) t_l1 rfl ?_
  have t14 : nk_ar ja_Tt (ja_c l1 37) = some (1, 20480) := nk_ta ja_okT t_l1 (by decide +kernel)
  refine nk_p (i := .iload 4) (len := 2) (pc' := 68) mJ_120 (by decide +kernel) (ns_iload 0 rfl) rfl ?_
  refine nk_iald (len := 1) (N := 20480) (pc' := 69) mJ_120 (by decide +kernel) t14 h5.1 h5.2 rfl rfl ?_
  obtain ⟨S15, h16, hr⟩ := nk_lte hr
  refine nk_iast (len := 1) (N := 24) (pc' := 70) mJ_120 (by decide +kernel) t13 h6.1 h6.2 rfl rfl h16 ?_
  refine nk_p (i := .aload_n 0) (len := 1) (pc' := 71) mJ_120 (by decide +kernel) (ns_aload_n 1 rfl rfl) rfl ?_
  refine nk_getC (f := (4, 2, 24)) (x := 80) (len := 3) (ci := 13) (k := 29) (pc' := 74) ja_okT mJ_120 (by decide +kernel) (by decide +kernel) (by decide +kernel) (by decide) t_l0 rfl ?_
  have t17 : nk_ar ja_Tt (ja_c l0 29) = some (2, 24) := nk_ta ja_okT t_l0 (by decide +kernel)
  refine nk_p (i := .iload_n 3) (len := 1) (pc' := 75) mJ_120 (by decide +kernel) (ns_iload_n 4 rfl rfl) rfl ?_
  refine nk_p (i := .aload_n 1) (len := 1) (pc' := 76) mJ_120 (by decide +kernel) (ns_aload_n 2 rfl rfl) rfl ?_
  refine nk_getC (f := (4, 2, 20480)) (x := 532) (len := 3) (ci := 12) (k := 38) (pc' := 79) ja_okT mJ_120 (by decide +kernel) (by decide +kernel) (by decide +kernel) (by decide) t_l1 rfl ?_
  have t18 : nk_ar ja_Tt (ja_c l1 38) = some (2, 20480) := nk_ta ja_okT t_l1 (by decide +kernel)
  refine nk_p (i := .iload 4) (len := 2) (pc' := 81) mJ_120 (by decide +kernel) (ns_iload 0 rfl) rfl ?_
  refine nk_lald (len := 1) (N := 20480) (pc' := 82) mJ_120 (by decide +kernel) t18 h5.1 h5.2 rfl rfl ?_
  obtain ⟨S19, h20, hr⟩ := nk_lte hr
  refine nk_last (len := 1) (N := 24) (pc' := 83) mJ_120 (by decide +kernel) t17 h6.1 h6.2 rfl rfl h20 ?_
  refine nk_p (i := .aload_n 0) (len := 1) (pc' := 84) mJ_120 (by decide +kernel) (ns_aload_n 1 rfl rfl) rfl ?_
  refine nk_getC (f := (4, 1, 24)) (x := 84) (len := 3) (ci := 13) (k := 30) (pc' := 87) ja_okT mJ_120 (by decide +kernel) (by decide +kernel) (by decide +kernel) (by decide) t_l0 rfl ?_
  have t21 : nk_ar ja_Tt (ja_c l0 30) = some (1, 24) := nk_ta ja_okT t_l0 (by decide +kernel)
  refine nk_p (i := .iload_n 3) (len := 1) (pc' := 88) mJ_120 (by decide +kernel) (ns_iload_n 4 rfl rfl) rfl ?_
  refine nk_p (i := .aload_n 1) (len := 1) (pc' := 89) mJ_120 (by decide +kernel) (ns_aload_n 2 rfl rfl) rfl ?_
  refine nk_getC (f := (4, 0, 20480)) (x := 533) (len := 3) (ci := 12) (k := 39) (pc' := 92) ja_okT mJ_120 (by decide +kernel) (by decide +kernel) (by decide +kernel) (by decide) t_l1 rfl ?_
  have t22 : nk_ar ja_Tt (ja_c l1 39) = some (0, 20480) := nk_ta ja_okT t_l1 (by decide +kernel)
  refine nk_p (i := .iload 4) (len := 2) (pc' := 94) mJ_120 (by decide +kernel) (ns_iload 0 rfl) rfl ?_
  refine nk_bald (t := 0) (len := 1) (N := 20480) (pc' := 95) mJ_120 (by decide +kernel) t22 (by decide) h5.1 h5.2 rfl rfl ?_
  obtain ⟨S23, h24, hr⟩ := nk_lte hr
  refine nk_iast (len := 1) (N := 24) (pc' := 96) mJ_120 (by decide +kernel) t21 h6.1 h6.2 rfl rfl h24 ?_
  refine nk_p (i := .aload_n 0) (len := 1) (pc' := 97) mJ_120 (by decide +kernel) (ns_aload_n 1 rfl rfl) rfl ?_
  refine nk_getC (f := (4, 1, 24)) (x := 87) (len := 3) (ci := 13) (k := 31) (pc' := 100) ja_okT mJ_120 (by decide +kernel) (by decide +kernel) (by decide +kernel) (by decide) t_l0 rfl ?_
  have t25 : nk_ar ja_Tt (ja_c l0 31) = some (1, 24) := nk_ta ja_okT t_l0 (by decide +kernel)
  refine nk_p (i := .iload_n 3) (len := 1) (pc' := 101) mJ_120 (by decide +kernel) (ns_iload_n 4 rfl rfl) rfl ?_
  refine nk_p (i := .aload_n 1) (len := 1) (pc' := 102) mJ_120 (by decide +kernel) (ns_aload_n 2 rfl rfl) rfl ?_
  refine nk_getC (f := (4, 1, 20480)) (x := 535) (len := 3) (ci := 12) (k := 40) (pc' := 105) ja_okT mJ_120 (by decide +kernel) (by decide +kernel) (by decide +kernel) (by decide) t_l1 rfl ?_
  have t26 : nk_ar ja_Tt (ja_c l1 40) = some (1, 20480) := nk_ta ja_okT t_l1 (by decide +kernel)
  refine nk_p (i := .iload 4) (len := 2) (pc' := 107) mJ_120 (by decide +kernel) (ns_iload 0 rfl) rfl ?_
  refine nk_iald (len := 1) (N := 20480) (pc' := 108) mJ_120 (by decide +kernel) t26 h5.1 h5.2 rfl rfl ?_
  obtain ⟨S27, h28, hr⟩ := nk_lte hr
  refine nk_iast (len := 1) (N := 24) (pc' := 109) mJ_120 (by decide +kernel) t25 h6.1 h6.2 rfl rfl h28 ?_
  refine nk_p (i := .aload_n 0) (len := 1) (pc' := 110) mJ_120 (by decide +kernel) (ns_aload_n 1 rfl rfl) rfl ?_
  refine nk_getC (f := (4, 1, 24)) (x := 90) (len := 3) (ci := 13) (k := 32) (pc' := 113) ja_okT mJ_120 (by decide +kernel) (by decide +kernel) (by decide +kernel) (by decide) t_l0 rfl ?_
  have t29 : nk_ar ja_Tt (ja_c l0 32) = some (1, 24) := nk_ta ja_okT t_l0 (by decide +kernel)
  refine nk_p (i := .iload_n 3) (len := 1) (pc' := 114) mJ_120 (by decide +kernel) (ns_iload_n 4 rfl rfl) rfl ?_
  refine nk_p (i := .aload_n 1) (len := 1) (pc' := 115) mJ_120 (by decide +kernel) (ns_aload_n 2 rfl rfl) rfl ?_
  refine nk_getC (f := (4, 1, 20480)) (x := 536) (len := 3) (ci := 12) (k := 41) (pc' := 118) ja_okT mJ_120 (by decide +kernel) (by decide +kernel) (by decide +kernel) (by decide) t_l1 rfl ?_
  have t30 : nk_ar ja_Tt (ja_c l1 41) = some (1, 20480) := nk_ta ja_okT t_l1 (by decide +kernel)
  refine nk_p (i := .iload 4) (len := 2) (pc' := 120) mJ_120 (by decide +kernel) (ns_iload 0 rfl) rfl ?_
  refine nk_iald (len := 1) (N := 20480) (pc' := 121) mJ_120 (by decide +kernel) t30 h5.1 h5.2 rfl rfl ?_
  obtain ⟨S31, h32, hr⟩ := nk_lte hr
  refine nk_iast (len := 1) (N := 24) (pc' := 122) mJ_120 (by decide +kernel) t29 h6.1 h6.2 rfl rfl h32 ?_
  refine nk_p (i := .aload_n 0) (len := 1) (pc' := 123) mJ_120 (by decide +kernel) (ns_aload_n 1 rfl rfl) rfl ?_
  refine nk_getC (f := (4, 1, 24)) (x := 93) (len := 3) (ci := 13) (k := 33) (pc' := 126) ja_okT mJ_120 (by decide +kernel) (by decide +kernel) (by decide +kernel) (by decide) t_l0 rfl ?_
  have t33 : nk_ar ja_Tt (ja_c l0 33) = some (1, 24) := nk_ta ja_okT t_l0 (by decide +kernel)
  refine nk_p (i := .iload_n 3) (len := 1) (pc' := 127) mJ_120 (by decide +kernel) (ns_iload_n 4 rfl rfl) rfl ?_
  refine nk_p (i := .aload_n 1) (len := 1) (pc' := 128) mJ_120 (by decide +kernel) (ns_aload_n 2 rfl rfl) rfl ?_
  refine nk_getC (f := (4, 1, 20480)) (x := 537) (len := 3) (ci := 12) (k := 42) (pc' := 131) ja_okT mJ_120 (by decide +kernel) (by decide +kernel) (by decide +kernel) (by decide) t_l1 rfl ?_
  have t34 : nk_ar ja_Tt (ja_c l1 42) = some (1, 20480) := nk_ta ja_okT t_l1 (by decide +kernel)
  refine nk_p (i := .iload 4) (len := 2) (pc' := 133) mJ_120 (by decide +kernel) (ns_iload 0 rfl) rfl ?_
  refine nk_iald (len := 1) (N := 20480) (pc' := 134) mJ_120 (by decide +kernel) t34 h5.1 h5.2 rfl rfl ?_
  obtain ⟨S35, h36, hr⟩ := nk_lte hr
  refine nk_iast (len := 1) (N := 24) (pc' := 135) mJ_120 (by decide +kernel) t33 h6.1 h6.2 rfl rfl h36 ?_
  refine nk_p (i := .aload_n 0) (len := 1) (pc' := 136) mJ_120 (by decide +kernel) (ns_aload_n 1 rfl rfl) rfl ?_
  refine nk_getC (f := (4, 1, 24)) (x := 96) (len := 3) (ci := 13) (k := 34) (pc' := 139) ja_okT mJ_120 (by decide +kernel) (by decide +kernel) (by decide +kernel) (by decide) t_l0 rfl ?_
  have t37 : nk_ar ja_Tt (ja_c l0 34) = some (1, 24) := nk_ta ja_okT t_l0 (by decide +kernel)
  refine nk_p (i := .iload_n 3) (len := 1) (pc' := 140) mJ_120 (by decide +kernel) (ns_iload_n 4 rfl rfl) rfl ?_
  refine nk_p (i := .aload_n 1) (len := 1) (pc' := 141) mJ_120 (by decide +kernel) (ns_aload_n 2 rfl rfl) rfl ?_
  refine nk_getC (f := (4, 1, 20480)) (x := 538) (len := 3) (ci := 12) (k := 43) (pc' := 144) ja_okT mJ_120 (by decide +kernel) (by decide +kernel) (by decide +kernel) (by decide) t_l1 rfl ?_
  have t38 : nk_ar ja_Tt (ja_c l1 43) = some (1, 20480) := nk_ta ja_okT t_l1 (by decide +kernel)
  refine nk_p (i := .iload 4) (len := 2) (pc' := 146) mJ_120 (by decide +kernel) (ns_iload 0 rfl) rfl ?_
  refine nk_iald (len := 1) (N := 20480) (pc' := 147) mJ_120 (by decide +kernel) t38 h5.1 h5.2 rfl rfl ?_
  obtain ⟨S39, h40, hr⟩ := nk_lte hr
  refine nk_iast (len := 1) (N := 24) (pc' := 148) mJ_120 (by decide +kernel) t37 h6.1 h6.2 rfl rfl h40 ?_
  obtain ⟨v41, h42, hr⟩ := nk_lte hr
  refine nk_p (i := .iinc 3 1) (len := 3) (pc' := 151) mJ_120 (by decide +kernel) (ns_iinc (c := 1) (L' := [(3, nk_i v41), (4, nk_i v1), (0, nk_r l0), (1, nk_r l1), (2, nk_i l2)]) 4 rfl (by decide +kernel) h42 rfl (by decide +kernel)) rfl ?_
  refine nk_p (i := .goto (-136)) (len := 3) (pc' := 15) mJ_120 (by decide +kernel) (ns_goto (by decide +kernel)) rfl ?_
  refine nk_sub [2, 3, 4, 0] (L' := [(0, nk_r l0), (1, nk_r l1), (2, nk_i l2), (3, nk_i v41)]) rfl ?_
  exact hrec15 _ _ _ _ _ _ t_l0 t_l1 hr
noncomputable def ja_X13_fetch_b15 (rec15 : Nat → Nat → Int → Int → nk_S → Option (Int × nk_S)) (l0 : Nat) (l1 : Nat) (l2 : Int) (l3 : Int) (S : nk_S) : Option (Int × nk_S) :=
  if (S.1 l0 25) ≤ l3 then
    some (0, S)
  else
    ja_X13_fetch_b23 rec15 l0 l1 l2 l3 S
theorem ja_X13_fetch_b15_ok (zs : List Int32) {rec15 : Nat → Nat → Int → Int → nk_S → Option (Int × nk_S)} (hrec15 : ∀ (l0 : Nat) (l1 : Nat) (l2 : Int) (l3 : Int) (S : nk_S) (R : Int × nk_S), nk_cl ja_Tt l0 = some 13 → nk_cl ja_Tt l1 = some 12 → rec15 l0 l1 l2 l3 S = some R → nk_K ja_Tt mi_Γ (mi_ev zs) 0 120 15 [(0, nk_r l0), (1, nk_r l1), (2, nk_i l2), (3, nk_i l3)] [] S R) : ∀ (l0 : Nat) (l1 : Nat) (l2 : Int) (l3 : Int) (S : nk_S) (R : Int × nk_S), nk_cl ja_Tt l0 = some 13 → nk_cl ja_Tt l1 = some 12 → ja_X13_fetch_b15 rec15 l0 l1 l2 l3 S = some R → nk_K ja_Tt mi_Γ (mi_ev zs) 0 120 15 [(0, nk_r l0), (1, nk_r l1), (2, nk_i l2), (3, nk_i l3)] [] S R := by
  intro l0 l1 l2 l3 S R t_l0 t_l1 hr
  unfold ja_X13_fetch_b15 at hr
  refine nk_p (i := .iload_n 3) (len := 1) (pc' := 16) mJ_120 (by decide +kernel) (ns_iload_n 3 rfl rfl) rfl ?_
  refine nk_p (i := .aload_n 0) (len := 1) (pc' := 17) mJ_120 (by decide +kernel) (ns_aload_n 0 rfl rfl) rfl ?_
  refine nk_getI (y := (0, 0)) (x := 495) (len := 3) (ci := 13) (k := 25) (pc' := 20) ja_okT mJ_120 (by decide +kernel) (by decide +kernel) (by decide +kernel) t_l0 rfl ?_
  refine nk_icmp (c := .ge) (off := 134) (len := 3) (t := 154) (pc' := 23) mJ_120 (by decide +kernel) (by decide +kernel) rfl (fun hc => ?_) (fun hc => ?_)
  · have hr := nk_ifp (c := (S.1 l0 25) ≤ l3) hc hr
    cases hr
    exact nk_vret (len := 1) mJ_120 (by decide +kernel) rfl
  · have hr := nk_ifn (c := (S.1 l0 25) ≤ l3) hc hr
    exact ja_X13_fetch_b23_ok zs hrec15 _ _ _ _ _ _ t_l0 t_l1 hr
noncomputable def ja_X13_fetch_L15 : Nat → Nat → Nat → Int → Int → nk_S → Option (Int × nk_S)
  | 0, _, _, _, _, _ => none
  | n + 1, l0, l1, l2, l3, S => ja_X13_fetch_b15 (ja_X13_fetch_L15 n) l0 l1 l2 l3 S
theorem ja_X13_fetch_L15_ok (zs : List Int32) : ∀ n : Nat, ∀ (l0 : Nat) (l1 : Nat) (l2 : Int) (l3 : Int) (S : nk_S) (R : Int × nk_S), nk_cl ja_Tt l0 = some 13 → nk_cl ja_Tt l1 = some 12 → ja_X13_fetch_L15 n l0 l1 l2 l3 S = some R → nk_K ja_Tt mi_Γ (mi_ev zs) 0 120 15 [(0, nk_r l0), (1, nk_r l1), (2, nk_i l2), (3, nk_i l3)] [] S R := by
  intro n
  induction n with
  | zero => intro _ _ _ _ _ _ _ _ hr; cases hr
  | succ n ih => intro l0 l1 l2 l3 S R t_l0 t_l1 hr; exact ja_X13_fetch_b15_ok zs ih l0 l1 l2 l3 S R t_l0 t_l1 hr
noncomputable def ja_X13_fetch (l0 : Nat) (l1 : Nat) (l2 : Int) (S : nk_S) : Option (Int × nk_S) :=
  if 0 ≤ l2 ∧ l2 < 1024 then
  nk_lt (nk_wi S l0 25 (nk_w (12 + (S.1 (ja_c l1 26) l2.toNat)))) fun S3 =>
  ja_X13_fetch_L15 nk_big l0 l1 l2 0 S3
  else none
theorem ja_X13_fetch_ok (zs : List Int32) : ∀ (l0 : Nat) (l1 : Nat) (l2 : Int) (S : nk_S) (R : Int × nk_S), nk_cl ja_Tt l0 = some 13 → nk_cl ja_Tt l1 = some 12 → ja_X13_fetch l0 l1 l2 S = some R → nk_K ja_Tt mi_Γ (mi_ev zs) 0 120 0 [(0, nk_r l0), (1, nk_r l1), (2, nk_i l2)] [] S R := by
  intro l0 l1 l2 S R t_l0 t_l1 hr
  unfold ja_X13_fetch at hr
  refine nk_p (i := .aload_n 0) (len := 1) (pc' := 1) mJ_120 (by decide +kernel) (ns_aload_n 0 rfl rfl) rfl ?_
  refine nk_p (i := .bipush 12) (len := 2) (pc' := 3) mJ_120 (by decide +kernel) (ns_bipush (c := 12) (by decide +kernel)) rfl ?_
  refine nk_p (i := .aload_n 1) (len := 1) (pc' := 4) mJ_120 (by decide +kernel) (ns_aload_n 1 rfl rfl) rfl ?_
  refine nk_getC (f := (4, 1, 1024)) (x := 474) (len := 3) (ci := 12) (k := 26) (pc' := 7) ja_okT mJ_120 (by decide +kernel) (by decide +kernel) (by decide +kernel) (by decide) t_l1 rfl ?_
  have t1 : nk_ar ja_Tt (ja_c l1 26) = some (1, 1024) := nk_ta ja_okT t_l1 (by decide +kernel)
  refine nk_p (i := .iload_n 2) (len := 1) (pc' := 8) mJ_120 (by decide +kernel) (ns_iload_n 2 rfl rfl) rfl ?_
  obtain ⟨h2, hr⟩ := nk_cke hr
  refine nk_iald (len := 1) (N := 1024) (pc' := 9) mJ_120 (by decide +kernel) t1 h2.1 h2.2 rfl rfl ?_
  refine nk_p (i := .iadd) (len := 1) (pc' := 10) mJ_120 (by decide +kernel) ns_iadd rfl ?_
  obtain ⟨S3, h4, hr⟩ := nk_lte hr
  refine nk_putI (y := (0, 0)) (ty := .int) (x := 495) (len := 3) (ci := 13) (k := 25) (pc' := 13) ja_okT mJ_120 (by decide +kernel) (by decide +kernel) (by decide +kernel) t_l0 (Or.inl rfl) rfl h4 ?_
  refine nk_p (i := .iconst 0) (len := 1) (pc' := 14) mJ_120 (by decide +kernel) (ns_iconst (c := 0) (by decide +kernel)) rfl ?_
  refine nk_p (i := .istore_n 3) (len := 1) (pc' := 15) mJ_120 (by decide +kernel) (ns_istore_n (L' := [(3, nk_i 0), (0, nk_r l0), (1, nk_r l1), (2, nk_i l2)]) rfl rfl rfl (by decide +kernel)) rfl ?_
  refine nk_sub [1, 2, 3, 0] (L' := [(0, nk_r l0), (1, nk_r l1), (2, nk_i l2), (3, nk_i 0)]) rfl ?_
  exact ja_X13_fetch_L15_ok zs nk_big _ _ _ _ _ _ t_l0 t_l1 hr
