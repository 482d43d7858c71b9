/-! SafeCode$Reader walkMembers ()I -/
noncomputable def ja_X6_walkMembers_b114 (rec7 : Nat → Int → Int → Int → nk_S → Option (Int × nk_S)) (l0 : Nat) (l1 : Int) (l2 : Int) (l3 : Int) (l5 : Int) (S : nk_S) : Option (Int × nk_S) :=
  if l5 < 0 then
    nk_lt (nk_w (l3 + 1)) fun v1 =>
    rec7 l0 l1 l2 v1 S
  else
    some (l5, S)
theorem ja_X6_walkMembers_b114_ok (zs : List Int32) {rec7 : Nat → Int → Int → Int → nk_S → Option (Int × nk_S)} (hrec7 : ∀ (l0 : Nat) (l1 : Int) (l2 : Int) (l3 : Int) (S : nk_S) (R : Int × nk_S), nk_cl ja_Tt l0 = some 6 → rec7 l0 l1 l2 l3 S = some R → nk_K ja_Tt mi_Γ (mi_ev zs) 1 395 7 [(0, nk_r l0), (1, nk_i l1), (2, nk_i l2), (3, nk_i l3)] [] S R) : ∀ (l0 : Nat) (l1 : Int) (l2 : Int) (l3 : Int) (l5 : Int) (S : nk_S) (R : Int × nk_S), nk_cl ja_Tt l0 = some 6 → ja_X6_walkMembers_b114 rec7 l0 l1 l2 l3 l5 S = some R → nk_K ja_Tt mi_Γ (mi_ev zs) 1 395 114 [(0, nk_r l0), (1, nk_i l1), (2, nk_i l2), (3, nk_i l3), (5, nk_i l5)] [] S R := by
  intro l0 l1 l2 l3 l5 S R t_l0 hr
  unfold ja_X6_walkMembers_b114 at hr
  refine nk_p (i := .iload 5) (len := 2) (pc' := 116) mJ_395 (by decide +kernel) (ns_iload 4 rfl) rfl ?_
  refine nk_icond (c := .lt) (off := 6) (len := 3) (t := 122) (pc' := 119) mJ_395 (by decide +kernel) (by decide +kernel) rfl (fun hc => ?_) (fun hc => ?_)
  · have hr := nk_ifp (c := l5 < 0) hc hr
    obtain ⟨v1, h2, hr⟩ := nk_lte hr
    refine nk_p (i := .iinc 3 1) (len := 3) (pc' := 125) mJ_395 (by decide +kernel) (ns_iinc (c := 1) (L' := [(3, nk_i v1), (0, nk_r l0), (1, nk_i l1), (2, nk_i l2), (5, nk_i l5)]) 3 rfl (by decide +kernel) h2 rfl (by decide +kernel)) rfl ?_
    refine nk_p (i := .goto (-118)) (len := 3) (pc' := 7) mJ_395 (by decide +kernel) (ns_goto (by decide +kernel)) rfl ?_
    refine nk_sub [1, 2, 3, 0] (L' := [(0, nk_r l0), (1, nk_i l1), (2, nk_i l2), (3, nk_i v1)]) rfl ?_
    exact hrec7 _ _ _ _ _ _ t_l0 hr
  · have hr := nk_ifn (c := l5 < 0) hc hr
    refine nk_p (i := .iload 5) (len := 2) (pc' := 121) mJ_395 (by decide +kernel) (ns_iload 4 rfl) rfl ?_
    cases hr
    exact nk_iret (ty := .int) (len := 1) mJ_395 (by decide +kernel) rfl (nk_nar_i _)
noncomputable def ja_X6_walkMembers_b96 (rec7 : Nat → Int → Int → Int → nk_S → Option (Int × nk_S)) (l0 : Nat) (l1 : Int) (l2 : Int) (l3 : Int) (l5 : Int) (S : nk_S) : Option (Int × nk_S) :=
  if l1 = 1 then
    nk_bd (ja_X6_resolveHead l0 l3 l2 S) fun r1 S2 =>
    nk_lt (S2.1 l0 2) fun v4 =>
    ja_X6_walkMembers_b114 rec7 l0 l1 l2 v4 r1 S2
  else
    ja_X6_walkMembers_b114 rec7 l0 l1 l2 l3 l5 S
theorem ja_X6_walkMembers_b96_ok (zs : List Int32) {rec7 : Nat → Int → Int → Int → nk_S → Option (Int × nk_S)} (hrec7 : ∀ (l0 : Nat) (l1 : Int) (l2 : Int) (l3 : Int) (S : nk_S) (R : Int × nk_S), nk_cl ja_Tt l0 = some 6 → rec7 l0 l1 l2 l3 S = some R → nk_K ja_Tt mi_Γ (mi_ev zs) 1 395 7 [(0, nk_r l0), (1, nk_i l1), (2, nk_i l2), (3, nk_i l3)] [] S R) : ∀ (l0 : Nat) (l1 : Int) (l2 : Int) (l3 : Int) (l5 : Int) (S : nk_S) (R : Int × nk_S), nk_cl ja_Tt l0 = some 6 → ja_X6_walkMembers_b96 rec7 l0 l1 l2 l3 l5 S = some R → nk_K ja_Tt mi_Γ (mi_ev zs) 1 395 96 [(0, nk_r l0), (1, nk_i l1), (2, nk_i l2), (3, nk_i l3), (5, nk_i l5)] [] S R := by
  intro l0 l1 l2 l3 l5 S R t_l0 hr
  unfold ja_X6_walkMembers_b96 at hr
  refine nk_p (i := .iload_n 1) (len := 1) (pc' := 97) mJ_395 (by decide +kernel) (ns_iload_n 1 rfl rfl) rfl ?_
  refine nk_p (i := .iconst 1) (len := 1) (pc' := 98) mJ_395 (by decide +kernel) (ns_iconst (c := 1) (by decide +kernel)) rfl ?_
  refine nk_icmp (c := .ne) (off := 16) (len := 3) (t := 114) (pc' := 101) mJ_395 (by decide +kernel) (by decide +kernel) rfl (fun hc => ?_) (fun hc => ?_)
  · have hr := nk_ifn (c := l1 = 1) hc hr
    exact ja_X6_walkMembers_b114_ok zs hrec7 _ _ _ _ _ _ _ t_l0 hr
  · have hr := nk_ifp (c := l1 = 1) (Decidable.of_not_not hc) hr
    refine nk_p (i := .aload_n 0) (len := 1) (pc' := 102) mJ_395 (by decide +kernel) (ns_aload_n 0 rfl rfl) rfl ?_
    refine nk_p (i := .iload_n 3) (len := 1) (pc' := 103) mJ_395 (by decide +kernel) (ns_iload_n 3 rfl rfl) rfl ?_
    refine nk_p (i := .iload_n 2) (len := 1) (pc' := 104) mJ_395 (by decide +kernel) (ns_iload_n 2 rfl rfl) rfl ?_
    obtain ⟨r1, S2, h3, hr⟩ := nk_bde hr
    refine nk_callV (ci := 6) (n := 2) (x := 124) (len := 3) (j' := 380) (q' := 1) (r := r1) (S' := S2) (L2 := [(0, nk_r l0), (1, nk_i l3), (2, nk_i l2)]) (rest := []) (st' := [nk_i r1]) (pc' := 107) mJ_395 (by decide +kernel) (by decide +kernel) rfl rfl t_l0 (Nat.le_of_ble_eq_true rfl) mJ_380 (Nat.le_of_ble_eq_true rfl) rfl (ja_X6_resolveHead_ok zs _ _ _ _ _ t_l0 h3) rfl ?_
    refine nk_p (i := .istore 5) (len := 2) (pc' := 109) mJ_395 (by decide +kernel) (ns_istore (L' := [(5, nk_i r1), (0, nk_r l0), (1, nk_i l1), (2, nk_i l2), (3, nk_i l3)]) rfl rfl (by decide +kernel)) rfl ?_
    refine nk_p (i := .aload_n 0) (len := 1) (pc' := 110) mJ_395 (by decide +kernel) (ns_aload_n 1 rfl rfl) rfl ?_
    refine nk_getI (y := (0, 0)) (x := 19) (len := 3) (ci := 6) (k := 2) (pc' := 113) ja_okT mJ_395 (by decide +kernel) (by decide +kernel) (by decide +kernel) t_l0 rfl ?_
    obtain ⟨v4, h5, hr⟩ := nk_lte hr
    refine nk_p (i := .istore_n 3) (len := 1) (pc' := 114) mJ_395 (by decide +kernel) (ns_istore_n (L' := [(3, nk_i v4), (5, nk_i r1), (0, nk_r l0), (1, nk_i l1), (2, nk_i l2)]) h5 rfl rfl (by decide +kernel)) rfl ?_
    refine nk_sub [2, 3, 4, 0, 1] (L' := [(0, nk_r l0), (1, nk_i l1), (2, nk_i l2), (3, nk_i v4), (5, nk_i r1)]) rfl ?_
    exact ja_X6_walkMembers_b114_ok zs hrec7 _ _ _ _ _ _ _ t_l0 hr
noncomputable def ja_X6_walkMembers_b7 (rec7 : Nat → Int → Int → Int → nk_S → Option (Int × nk_S)) (l0 : Nat) (l1 : Int) (l2 : Int) (l3 : Int) (S : nk_S) : Option (Int × nk_S) :=
  if (S.1 (ja_c l0 0) 4) ≤ l3 then
    some ((-1), S)
  else
    nk_bd (ja_X10_at (ja_c l0 0) l3 S) fun r2 S3 =>
    if r2 = 57 then
      nk_lt (nk_w (l1 + 1)) fun v16 =>
      ja_X6_walkMembers_b114 rec7 l0 v16 l2 l3 (-1) S3
    else
      if r2 = 58 then
        nk_lt (nk_w (l1 + (-1))) fun v14 =>
        ja_X6_walkMembers_b114 rec7 l0 v14 l2 l3 (-1) S3
      else
        if l1 = 0 then
          nk_lt (nk_w (l2 + 1)) fun v10 =>
          nk_lt (nk_w (l3 + 3)) fun v12 =>
          ja_X6_walkMembers_b114 rec7 l0 l1 v10 v12 (-1) S3
        else
          if l1 = 1 then
            if r2 = 49 then
              nk_bd (ja_X6_resolveField l0 l3 l2 S3) fun r5 S6 =>
              nk_lt (nk_w (l3 + 2)) fun v8 =>
              ja_X6_walkMembers_b114 rec7 l0 l1 l2 v8 r5 S6
            else
              ja_X6_walkMembers_b96 rec7 l0 l1 l2 l3 (-1) S3
          else
            ja_X6_walkMembers_b96 rec7 l0 l1 l2 l3 (-1) S3
theorem ja_X6_walkMembers_b7_ok (zs : List Int32) {rec7 : Nat → Int → Int → Int → nk_S → Option (Int × nk_S)} (hrec7 : ∀ (l0 : Nat) (l1 : Int) (l2 : Int) (l3 : Int) (S : nk_S) (R : Int × nk_S), nk_cl ja_Tt l0 = some 6 → rec7 l0 l1 l2 l3 S = some R → nk_K ja_Tt mi_Γ (mi_ev zs) 1 395 7 [(0, nk_r l0), (1, nk_i l1), (2, nk_i l2), (3, nk_i l3)] [] S R) : ∀ (l0 : Nat) (l1 : Int) (l2 : Int) (l3 : Int) (S : nk_S) (R : Int × nk_S), nk_cl ja_Tt l0 = some 6 → ja_X6_walkMembers_b7 rec7 l0 l1 l2 l3 S = some R → nk_K ja_Tt mi_Γ (mi_ev zs) 1 395 7 [(0, nk_r l0), (1, nk_i l1), (2, nk_i l2), (3, nk_i l3)] [] S R := by
  intro l0 l1 l2 l3 S R t_l0 hr
  unfold ja_X6_walkMembers_b7 at hr
  refine nk_p (i := .iload_n 3) (len := 1) (pc' := 8) mJ_395 (by decide +kernel) (ns_iload_n 3 rfl rfl) rfl ?_
  refine nk_p (i := .aload_n 0) (len := 1) (pc' := 9) mJ_395 (by decide +kernel) (ns_aload_n 0 rfl rfl) rfl ?_
  refine nk_getC (f := (2, 10, 0)) (x := 9) (len := 3) (ci := 6) (k := 0) (pc' := 12) ja_okT mJ_395 (by decide +kernel) (by decide +kernel) (by decide +kernel) (by decide) t_l0 rfl ?_
  have t1 : nk_cl ja_Tt (ja_c l0 0) = some 10 := nk_tc (y := 0) ja_okT t_l0 (by decide +kernel)
  refine nk_getI (y := (0, 0)) (x := 23) (len := 3) (ci := 10) (k := 4) (pc' := 15) ja_okT mJ_395 (by decide +kernel) (by decide +kernel) (by decide +kernel) t1 rfl ?_
  refine nk_icmp (c := .ge) (off := 113) (len := 3) (t := 128) (pc' := 18) mJ_395 (by decide +kernel) (by decide +kernel) rfl (fun hc => ?_) (fun hc => ?_)
  · have hr := nk_ifp (c := (S.1 (ja_c l0 0) 4) ≤ l3) hc hr
    refine nk_p (i := .iconst (-1)) (len := 1) (pc' := 129) mJ_395 (by decide +kernel) (ns_iconst (c := (-1)) (by decide +kernel)) rfl ?_
    cases hr
    exact nk_iret (ty := .int) (len := 1) mJ_395 (by decide +kernel) rfl (nk_nar_i _)
  · have hr := nk_ifn (c := (S.1 (ja_c l0 0) 4) ≤ l3) hc hr
    refine nk_p (i := .aload_n 0) (len := 1) (pc' := 19) mJ_395 (by decide +kernel) (ns_aload_n 0 rfl rfl) rfl ?_
    refine nk_getC (f := (2, 10, 0)) (x := 9) (len := 3) (ci := 6) (k := 0) (pc' := 22) ja_okT mJ_395 (by decide +kernel) (by decide +kernel) (by decide +kernel) (by decide) t_l0 rfl ?_
    refine nk_p (i := .iload_n 3) (len := 1) (pc' := 23) mJ_395 (by decide +kernel) (ns_iload_n 3 rfl rfl) rfl ?_
    obtain ⟨r2, S3, h4, hr⟩ := nk_bde hr
    refine nk_callV (ci := 10) (n := 1) (x := 39) (len := 3) (j' := 32) (q' := 1) (r := r2) (S' := S3) (L2 := [(0, nk_r (ja_c l0 0)), (1, nk_i l3)]) (rest := []) (st' := [nk_i r2]) (pc' := 26) mJ_395 (by decide +kernel) (by decide +kernel) rfl rfl t1 (Nat.le_of_ble_eq_true rfl) mJ_32 (Nat.le_of_ble_eq_true rfl) rfl (ja_X10_at_ok zs _ _ _ _ t1 h4) rfl ?_
    refine nk_p (i := .istore 4) (len := 2) (pc' := 28) mJ_395 (by decide +kernel) (ns_istore (L' := [(4, nk_i r2), (0, nk_r l0), (1, nk_i l1), (2, nk_i l2), (3, nk_i l3)]) rfl rfl (by decide +kernel)) rfl ?_
    refine nk_p (i := .iconst (-1)) (len := 1) (pc' := 29) mJ_395 (by decide +kernel) (ns_iconst (c := (-1)) (by decide +kernel)) rfl ?_
    refine nk_p (i := .istore 5) (len := 2) (pc' := 31) mJ_395 (by decide +kernel) (ns_istore (L' := [(5, nk_i (-1)), (4, nk_i r2), (0, nk_r l0), (1, nk_i l1), (2, nk_i l2), (3, nk_i l3)]) rfl rfl (by decide +kernel)) rfl ?_
    refine nk_p (i := .iload 4) (len := 2) (pc' := 33) mJ_395 (by decide +kernel) (ns_iload 1 rfl) rfl ?_
    refine nk_p (i := .bipush 57) (len := 2) (pc' := 35) mJ_395 (by decide +kernel) (ns_bipush (c := 57) (by decide +kernel)) rfl ?_
    refine nk_icmp (c := .ne) (off := 9) (len := 3) (t := 44) (pc' := 38) mJ_395 (by decide +kernel) (by decide +kernel) rfl (fun hc => ?_) (fun hc => ?_)
    · have hr := nk_ifn (c := r2 = 57) hc hr
      refine nk_p (i := .iload 4) (len := 2) (pc' := 46) mJ_395 (by decide +kernel) (ns_iload 1 rfl) rfl ?_
      refine nk_p (i := .bipush 58) (len := 2) (pc' := 48) mJ_395 (by decide +kernel) (ns_bipush (c := 58) (by decide +kernel)) rfl ?_
      refine nk_icmp (c := .ne) (off := 9) (len := 3) (t := 57) (pc' := 51) mJ_395 (by decide +kernel) (by decide +kernel) rfl (fun hc => ?_) (fun hc => ?_)
      · have hr := nk_ifn (c := r2 = 58) hc hr
        refine nk_p (i := .iload_n 1) (len := 1) (pc' := 58) mJ_395 (by decide +kernel) (ns_iload_n 3 rfl rfl) rfl ?_
        refine nk_icond (c := .ne) (off := 12) (len := 3) (t := 70) (pc' := 61) mJ_395 (by decide +kernel) (by decide +kernel) rfl (fun hc => ?_) (fun hc => ?_)
        · have hr := nk_ifn (c := l1 = 0) hc hr
          refine nk_p (i := .iload_n 1) (len := 1) (pc' := 71) mJ_395 (by decide +kernel) (ns_iload_n 3 rfl rfl) rfl ?_
          refine nk_p (i := .iconst 1) (len := 1) (pc' := 72) mJ_395 (by decide +kernel) (ns_iconst (c := 1) (by decide +kernel)) rfl ?_
          refine nk_icmp (c := .ne) (off := 24) (len := 3) (t := 96) (pc' := 75) mJ_395 (by decide +kernel) (by decide +kernel) rfl (fun hc => ?_) (fun hc => ?_)
          · have hr := nk_ifn (c := l1 = 1) hc hr
            refine nk_sub [2, 3, 4, 5, 0] (L' := [(0, nk_r l0), (1, nk_i l1), (2, nk_i l2), (3, nk_i l3), (5, nk_i (-1))]) rfl ?_
            exact ja_X6_walkMembers_b96_ok zs hrec7 _ _ _ _ _ _ _ t_l0 hr
          · have hr := nk_ifp (c := l1 = 1) (Decidable.of_not_not hc) hr
            refine nk_p (i := .iload 4) (len := 2) (pc' := 77) mJ_395 (by decide +kernel) (ns_iload 1 rfl) rfl ?_
            refine nk_p (i := .bipush 49) (len := 2) (pc' := 79) mJ_395 (by decide +kernel) (ns_bipush (c := 49) (by decide +kernel)) rfl ?_
            refine nk_icmp (c := .ne) (off := 17) (len := 3) (t := 96) (pc' := 82) mJ_395 (by decide +kernel) (by decide +kernel) rfl (fun hc => ?_) (fun hc => ?_)
            · have hr := nk_ifn (c := r2 = 49) hc hr
              refine nk_sub [2, 3, 4, 5, 0] (L' := [(0, nk_r l0), (1, nk_i l1), (2, nk_i l2), (3, nk_i l3), (5, nk_i (-1))]) rfl ?_
              exact ja_X6_walkMembers_b96_ok zs hrec7 _ _ _ _ _ _ _ t_l0 hr
            · have hr := nk_ifp (c := r2 = 49) (Decidable.of_not_not hc) hr
              refine nk_p (i := .aload_n 0) (len := 1) (pc' := 83) mJ_395 (by decide +kernel) (ns_aload_n 2 rfl rfl) rfl ?_
              refine nk_p (i := .iload_n 3) (len := 1) (pc' := 84) mJ_395 (by decide +kernel) (ns_iload_n 5 rfl rfl) rfl ?_
              refine nk_p (i := .iload_n 2) (len := 1) (pc' := 85) mJ_395 (by decide +kernel) (ns_iload_n 4 rfl rfl) rfl ?_
              obtain ⟨r5, S6, h7, hr⟩ := nk_bde hr
              refine nk_callV (ci := 6) (n := 2) (x := 120) (len := 3) (j' := 379) (q' := 1) (r := r5) (S' := S6) (L2 := [(0, nk_r l0), (1, nk_i l3), (2, nk_i l2)]) (rest := []) (st' := [nk_i r5]) (pc' := 88) mJ_395 (by decide +kernel) (by decide +kernel) rfl rfl t_l0 (Nat.le_of_ble_eq_true rfl) mJ_379 (Nat.le_of_ble_eq_true rfl) rfl (ja_X6_resolveField_ok zs _ _ _ _ _ t_l0 h7) rfl ?_
              refine nk_p (i := .istore 5) (len := 2) (pc' := 90) mJ_395 (by decide +kernel) (ns_istore (L' := [(5, nk_i r5), (4, nk_i r2), (0, nk_r l0), (1, nk_i l1), (2, nk_i l2), (3, nk_i l3)]) rfl rfl (by decide +kernel)) rfl ?_
              obtain ⟨v8, h9, hr⟩ := nk_lte hr
              refine nk_p (i := .iinc 3 2) (len := 3) (pc' := 93) mJ_395 (by decide +kernel) (ns_iinc (c := 2) (L' := [(3, nk_i v8), (5, nk_i r5), (4, nk_i r2), (0, nk_r l0), (1, nk_i l1), (2, nk_i l2)]) 5 rfl (by decide +kernel) h9 rfl (by decide +kernel)) rfl ?_
              refine nk_p (i := .goto 21) (len := 3) (pc' := 114) mJ_395 (by decide +kernel) (ns_goto (by decide +kernel)) rfl ?_
              refine nk_sub [3, 4, 5, 0, 1] (L' := [(0, nk_r l0), (1, nk_i l1), (2, nk_i l2), (3, nk_i v8), (5, nk_i r5)]) rfl ?_
              exact ja_X6_walkMembers_b114_ok zs hrec7 _ _ _ _ _ _ _ t_l0 hr
        · have hr := nk_ifp (c := l1 = 0) (Decidable.of_not_not hc) hr
          obtain ⟨v10, h11, hr⟩ := nk_lte hr
          refine nk_p (i := .iinc 2 1) (len := 3) (pc' := 64) mJ_395 (by decide +kernel) (ns_iinc (c := 1) (L' := [(2, nk_i v10), (5, nk_i (-1)), (4, nk_i r2), (0, nk_r l0), (1, nk_i l1), (3, nk_i l3)]) 4 rfl (by decide +kernel) h11 rfl (by decide +kernel)) rfl ?_
          obtain ⟨v12, h13, hr⟩ := nk_lte hr
          refine nk_p (i := .iinc 3 3) (len := 3) (pc' := 67) mJ_395 (by decide +kernel) (ns_iinc (c := 3) (L' := [(3, nk_i v12), (2, nk_i v10), (5, nk_i (-1)), (4, nk_i r2), (0, nk_r l0), (1, nk_i l1)]) 5 rfl (by decide +kernel) h13 rfl (by decide +kernel)) rfl ?_
          refine nk_p (i := .goto 47) (len := 3) (pc' := 114) mJ_395 (by decide +kernel) (ns_goto (by decide +kernel)) rfl ?_
          refine nk_sub [4, 5, 1, 0, 2] (L' := [(0, nk_r l0), (1, nk_i l1), (2, nk_i v10), (3, nk_i v12), (5, nk_i (-1))]) rfl ?_
          exact ja_X6_walkMembers_b114_ok zs hrec7 _ _ _ _ _ _ _ t_l0 hr
      · have hr := nk_ifp (c := r2 = 58) (Decidable.of_not_not hc) hr
        obtain ⟨v14, h15, hr⟩ := nk_lte hr
        refine nk_p (i := .iinc 1 (-1)) (len := 3) (pc' := 54) mJ_395 (by decide +kernel) (ns_iinc (c := (-1)) (L' := [(1, nk_i v14), (5, nk_i (-1)), (4, nk_i r2), (0, nk_r l0), (2, nk_i l2), (3, nk_i l3)]) 3 rfl (by decide +kernel) h15 rfl (by decide +kernel)) rfl ?_
        refine nk_p (i := .goto 60) (len := 3) (pc' := 114) mJ_395 (by decide +kernel) (ns_goto (by decide +kernel)) rfl ?_
        refine nk_sub [3, 0, 4, 5, 1] (L' := [(0, nk_r l0), (1, nk_i v14), (2, nk_i l2), (3, nk_i l3), (5, nk_i (-1))]) rfl ?_
        exact ja_X6_walkMembers_b114_ok zs hrec7 _ _ _ _ _ _ _ t_l0 hr
    · have hr := nk_ifp (c := r2 = 57) (Decidable.of_not_not hc) hr
      obtain ⟨v16, h17, hr⟩ := nk_lte hr
      refine nk_p (i := .iinc 1 1) (len := 3) (pc' := 41) mJ_395 (by decide +kernel) (ns_iinc (c := 1) (L' := [(1, nk_i v16), (5, nk_i (-1)), (4, nk_i r2), (0, nk_r l0), (2, nk_i l2), (3, nk_i l3)]) 3 rfl (by decide +kernel) h17 rfl (by decide +kernel)) rfl ?_
      refine nk_p (i := .goto 73) (len := 3) (pc' := 114) mJ_395 (by decide +kernel) (ns_goto (by decide +kernel)) rfl ?_
      refine nk_sub [3, 0, 4, 5, 1] (L' := [(0, nk_r l0), (1, nk_i v16), (2, nk_i l2), (3, nk_i l3), (5, nk_i (-1))]) rfl ?_
      exact ja_X6_walkMembers_b114_ok zs hrec7 _ _ _ _ _ _ _ t_l0 hr
noncomputable def ja_X6_walkMembers_L7 : Nat → Nat → Int → Int → Int → nk_S → Option (Int × nk_S)
  | 0, _, _, _, _, _ => none
  | n + 1, l0, l1, l2, l3, S => ja_X6_walkMembers_b7 (ja_X6_walkMembers_L7 n) l0 l1 l2 l3 S
theorem ja_X6_walkMembers_L7_ok (zs : List Int32) : ∀ n : Nat, ∀ (l0 : Nat) (l1 : Int) (l2 : Int) (l3 : Int) (S : nk_S) (R : Int × nk_S), nk_cl ja_Tt l0 = some 6 → ja_X6_walkMembers_L7 n l0 l1 l2 l3 S = some R → nk_K ja_Tt mi_Γ (mi_ev zs) 1 395 7 [(0, nk_r l0), (1, nk_i l1), (2, nk_i l2), (3, nk_i l3)] [] S R := by
  intro n
  induction n with
  | zero => intro _ _ _ _ _ _ _ hr; cases hr
  | succ n ih => intro l0 l1 l2 l3 S R t_l0 hr; exact ja_X6_walkMembers_b7_ok zs ih l0 l1 l2 l3 S R t_l0 hr
noncomputable def ja_X6_walkMembers (l0 : Nat) (S : nk_S) : Option (Int × nk_S) :=
  ja_X6_walkMembers_L7 nk_big l0 0 7 0 S
theorem ja_X6_walkMembers_ok (zs : List Int32) : ∀ (l0 : Nat) (S : nk_S) (R : Int × nk_S), nk_cl ja_Tt l0 = some 6 → ja_X6_walkMembers l0 S = some R → nk_K ja_Tt mi_Γ (mi_ev zs) 1 395 0 [(0, nk_r l0)] [] S R := by
  intro l0 S R t_l0 hr
  unfold ja_X6_walkMembers at hr
  refine nk_p (i := .iconst 0) (len := 1) (pc' := 1) mJ_395 (by decide +kernel) (ns_iconst (c := 0) (by decide +kernel)) rfl ?_
  refine nk_p (i := .istore_n 1) (len := 1) (pc' := 2) mJ_395 (by decide +kernel) (ns_istore_n (L' := [(1, nk_i 0), (0, nk_r l0)]) rfl rfl rfl (by decide +kernel)) rfl ?_
  refine nk_p (i := .bipush 7) (len := 2) (pc' := 4) mJ_395 (by decide +kernel) (ns_bipush (c := 7) (by decide +kernel)) rfl ?_
  refine nk_p (i := .istore_n 2) (len := 1) (pc' := 5) mJ_395 (by decide +kernel) (ns_istore_n (L' := [(2, nk_i 7), (1, nk_i 0), (0, nk_r l0)]) rfl rfl rfl (by decide +kernel)) rfl ?_
  refine nk_p (i := .iconst 0) (len := 1) (pc' := 6) mJ_395 (by decide +kernel) (ns_iconst (c := 0) (by decide +kernel)) rfl ?_
  refine nk_p (i := .istore_n 3) (len := 1) (pc' := 7) mJ_395 (by decide +kernel) (ns_istore_n (L' := [(3, nk_i 0), (2, nk_i 7), (1, nk_i 0), (0, nk_r l0)]) rfl rfl rfl (by decide +kernel)) rfl ?_
  refine nk_sub [3, 2, 1, 0] (L' := [(0, nk_r l0), (1, nk_i 0), (2, nk_i 7), (3, nk_i 0)]) rfl ?_
  exact ja_X6_walkMembers_L7_ok zs nk_big _ _ _ _ _ _ t_l0 hr
/-! SafeCode$Reader lineTokens (I)I -/
noncomputable def ja_X6_lineTokens (l0 : Nat) (l1 : Int) (S : nk_S) : Option (Int × nk_S) :=
  nk_bd (ja_X10_at (ja_c l0 0) (nk_w (l1 + 1)) S) fun r2 S3 =>
  if r2 = 59 then
    some (2, S3)
  else
    nk_bd (ja_X10_at (ja_c l0 0) l1 S3) fun r5 S6 =>
    if r5 < 0 then
      some (5, S6)
    else
      if r5 < 46 then
        if 0 ≤ r5 ∧ r5 < 46 then
        nk_lt (((ja_ob 45).getD r5.toNat 0).toInt) fun v9 =>
        if v9 = 0 then
          some (1, S6)
        else
          if v9 = 3 then
            some (3, S6)
          else
            some (2, S6)
        else none
      else
        some (5, S6)
theorem ja_X6_lineTokens_ok (zs : List Int32) : ∀ (l0 : Nat) (l1 : Int) (S : nk_S) (R : Int × nk_S), nk_cl ja_Tt l0 = some 6 → ja_X6_lineTokens l0 l1 S = some R → nk_K ja_Tt mi_Γ (mi_ev zs) 1 376 0 [(0, nk_r l0), (1, nk_i l1)] [] S R := by
  intro l0 l1 S R t_l0 hr
  unfold ja_X6_lineTokens at hr
  refine nk_p (i := .aload_n 0) (len := 1) (pc' := 1) mJ_376 (by decide +kernel) (ns_aload_n 0 rfl rfl) rfl ?_
  refine nk_getC (f := (2, 10, 0)) (x := 9) (len := 3) (ci := 6) (k := 0) (pc' := 4) ja_okT mJ_376 (by decide +kernel) (by decide +kernel) (by decide +kernel) (by decide) t_l0 rfl ?_
  have t1 : nk_cl ja_Tt (ja_c l0 0) = some 10 := nk_tc (y := 0) ja_okT t_l0 (by decide +kernel)
  refine nk_p (i := .iload_n 1) (len := 1) (pc' := 5) mJ_376 (by decide +kernel) (ns_iload_n 1 rfl rfl) rfl ?_
  refine nk_p (i := .iconst 1) (len := 1) (pc' := 6) mJ_376 (by decide +kernel) (ns_iconst (c := 1) (by decide +kernel)) rfl ?_
  refine nk_p (i := .iadd) (len := 1) (pc' := 7) mJ_376 (by decide +kernel) ns_iadd rfl ?_
  obtain ⟨r2, S3, h4, hr⟩ := nk_bde hr
  refine nk_callV (ci := 10) (n := 1) (x := 39) (len := 3) (j' := 32) (q' := 1) (r := r2) (S' := S3) (L2 := [(0, nk_r (ja_c l0 0)), (1, nk_i (nk_w (l1 + 1)))]) (rest := []) (st' := [nk_i r2]) (pc' := 10) mJ_376 (by decide +kernel) (by decide +kernel) rfl rfl t1 (Nat.le_of_ble_eq_true rfl) mJ_32 (Nat.le_of_ble_eq_true rfl) rfl (ja_X10_at_ok zs _ _ _ _ t1 h4) rfl ?_
  refine nk_p (i := .bipush 59) (len := 2) (pc' := 12) mJ_376 (by decide +kernel) (ns_bipush (c := 59) (by decide +kernel)) rfl ?_
  refine nk_icmp (c := .ne) (off := 5) (len := 3) (t := 17) (pc' := 15) mJ_376 (by decide +kernel) (by decide +kernel) rfl (fun hc => ?_) (fun hc => ?_)
  · have hr := nk_ifn (c := r2 = 59) hc hr
    refine nk_p (i := .aload_n 0) (len := 1) (pc' := 18) mJ_376 (by decide +kernel) (ns_aload_n 0 rfl rfl) rfl ?_
    refine nk_getC (f := (2, 10, 0)) (x := 9) (len := 3) (ci := 6) (k := 0) (pc' := 21) ja_okT mJ_376 (by decide +kernel) (by decide +kernel) (by decide +kernel) (by decide) t_l0 rfl ?_
    refine nk_p (i := .iload_n 1) (len := 1) (pc' := 22) mJ_376 (by decide +kernel) (ns_iload_n 1 rfl rfl) rfl ?_
    obtain ⟨r5, S6, h7, hr⟩ := nk_bde hr
    refine nk_callV (ci := 10) (n := 1) (x := 39) (len := 3) (j' := 32) (q' := 1) (r := r5) (S' := S6) (L2 := [(0, nk_r (ja_c l0 0)), (1, nk_i l1)]) (rest := []) (st' := [nk_i r5]) (pc' := 25) mJ_376 (by decide +kernel) (by decide +kernel) rfl rfl t1 (Nat.le_of_ble_eq_true rfl) mJ_32 (Nat.le_of_ble_eq_true rfl) rfl (ja_X10_at_ok zs _ _ _ _ t1 h7) rfl ?_
    refine nk_p (i := .istore_n 2) (len := 1) (pc' := 26) mJ_376 (by decide +kernel) (ns_istore_n (L' := [(2, nk_i r5), (0, nk_r l0), (1, nk_i l1)]) rfl rfl rfl (by decide +kernel)) rfl ?_
    refine nk_p (i := .iload_n 2) (len := 1) (pc' := 27) mJ_376 (by decide +kernel) (ns_iload_n 0 rfl rfl) rfl ?_
    refine nk_icond (c := .lt) (off := 9) (len := 3) (t := 36) (pc' := 30) mJ_376 (by decide +kernel) (by decide +kernel) rfl (fun hc => ?_) (fun hc => ?_)
    · have hr := nk_ifp (c := r5 < 0) hc hr
      refine nk_p (i := .iconst 5) (len := 1) (pc' := 37) mJ_376 (by decide +kernel) (ns_iconst (c := 5) (by decide +kernel)) rfl ?_
      cases hr
      exact nk_iret (ty := .int) (len := 1) mJ_376 (by decide +kernel) rfl (nk_nar_i _)
    · have hr := nk_ifn (c := r5 < 0) hc hr
      refine nk_p (i := .iload_n 2) (len := 1) (pc' := 31) mJ_376 (by decide +kernel) (ns_iload_n 0 rfl rfl) rfl ?_
      refine nk_p (i := .bipush 46) (len := 2) (pc' := 33) mJ_376 (by decide +kernel) (ns_bipush (c := 46) (by decide +kernel)) rfl ?_
      refine nk_icmp (c := .lt) (off := 5) (len := 3) (t := 38) (pc' := 36) mJ_376 (by decide +kernel) (by decide +kernel) rfl (fun hc => ?_) (fun hc => ?_)
      · have hr := nk_ifp (c := r5 < 46) hc hr
        refine nk_gsto (x := 62) (len := 3) (pc' := 41) (s1 := "SafeCode") (s2 := "OPERANDS") (s3 := "[I") (k := 45) mJ_376 (by decide +kernel) (by decide +kernel) rfl ?_
        refine nk_p (i := .iload_n 2) (len := 1) (pc' := 42) mJ_376 (by decide +kernel) (ns_iload_n 0 rfl rfl) rfl ?_
        obtain ⟨h8, hr⟩ := nk_cke hr
        refine nk_oiald (len := 1) (xs := ja_ob 45) (N := 46) (pc' := 43) mJ_376 (by decide +kernel) rfl h8.1 h8.2 rfl rfl ?_
        obtain ⟨v9, h10, hr⟩ := nk_lte hr
        refine nk_p (i := .istore_n 3) (len := 1) (pc' := 44) mJ_376 (by decide +kernel) (ns_istore_n (L' := [(3, nk_i v9), (2, nk_i r5), (0, nk_r l0), (1, nk_i l1)]) h10 rfl rfl (by decide +kernel)) rfl ?_
        refine nk_p (i := .iload_n 3) (len := 1) (pc' := 45) mJ_376 (by decide +kernel) (ns_iload_n 0 rfl rfl) rfl ?_
        refine nk_icond (c := .ne) (off := 7) (len := 3) (t := 52) (pc' := 48) mJ_376 (by decide +kernel) (by decide +kernel) rfl (fun hc => ?_) (fun hc => ?_)
        · have hr := nk_ifn (c := v9 = 0) hc hr
          refine nk_p (i := .iload_n 3) (len := 1) (pc' := 53) mJ_376 (by decide +kernel) (ns_iload_n 0 rfl rfl) rfl ?_
          refine nk_p (i := .iconst 3) (len := 1) (pc' := 54) mJ_376 (by decide +kernel) (ns_iconst (c := 3) (by decide +kernel)) rfl ?_
          refine nk_icmp (c := .ne) (off := 7) (len := 3) (t := 61) (pc' := 57) mJ_376 (by decide +kernel) (by decide +kernel) rfl (fun hc => ?_) (fun hc => ?_)
          · have hr := nk_ifn (c := v9 = 3) hc hr
            refine nk_p (i := .iconst 2) (len := 1) (pc' := 62) mJ_376 (by decide +kernel) (ns_iconst (c := 2) (by decide +kernel)) rfl ?_
            cases hr
            exact nk_iret (ty := .int) (len := 1) mJ_376 (by decide +kernel) rfl (nk_nar_i _)
          · have hr := nk_ifp (c := v9 = 3) (Decidable.of_not_not hc) hr
            refine nk_p (i := .iconst 3) (len := 1) (pc' := 58) mJ_376 (by decide +kernel) (ns_iconst (c := 3) (by decide +kernel)) rfl ?_
            refine nk_p (i := .goto 4) (len := 3) (pc' := 62) mJ_376 (by decide +kernel) (ns_goto (by decide +kernel)) rfl ?_
            cases hr
            exact nk_iret (ty := .int) (len := 1) mJ_376 (by decide +kernel) rfl (nk_nar_i _)
        · have hr := nk_ifp (c := v9 = 0) (Decidable.of_not_not hc) hr
          refine nk_p (i := .iconst 1) (len := 1) (pc' := 49) mJ_376 (by decide +kernel) (ns_iconst (c := 1) (by decide +kernel)) rfl ?_
          refine nk_p (i := .goto 13) (len := 3) (pc' := 62) mJ_376 (by decide +kernel) (ns_goto (by decide +kernel)) rfl ?_
          cases hr
          exact nk_iret (ty := .int) (len := 1) mJ_376 (by decide +kernel) rfl (nk_nar_i _)
      · have hr := nk_ifn (c := r5 < 46) hc hr
        refine nk_p (i := .iconst 5) (len := 1) (pc' := 37) mJ_376 (by decide +kernel) (ns_iconst (c := 5) (by decide +kernel)) rfl ?_
        cases hr
        exact nk_iret (ty := .int) (len := 1) mJ_376 (by decide +kernel) rfl (nk_nar_i _)
  · have hr := nk_ifp (c := r2 = 59) (Decidable.of_not_not hc) hr
    refine nk_p (i := .iconst 2) (len := 1) (pc' := 16) mJ_376 (by decide +kernel) (ns_iconst (c := 2) (by decide +kernel)) rfl ?_
    cases hr
    exact nk_iret (ty := .int) (len := 1) mJ_376 (by decide +kernel) rfl (nk_nar_i _)
/-! SafeCode$Reader markLabels (I)I -/
noncomputable def ja_X6_markLabels_b109 (rec15 : Nat → Int → Int → Int → Int → nk_S → Option (Int × nk_S)) (l0 : Nat) (l1 : Int) (l2 : Int) (l3 : Int) (l4 : Int) (S : nk_S) : Option (Int × nk_S) :=
  nk_bd (ja_X6_lineTokens l0 l2 S) fun r1 S2 =>
  nk_lt (nk_w (l2 + r1)) fun v4 =>
  nk_lt (nk_w (l4 + 1)) fun v6 =>
  rec15 l0 l1 v4 l3 v6 S2
theorem ja_X6_markLabels_b109_ok (zs : List Int32) {rec15 : Nat → Int → Int → Int → Int → nk_S → Option (Int × nk_S)} (hrec15 : ∀ (l0 : Nat) (l1 : Int) (l2 : Int) (l3 : Int) (l4 : Int) (S : nk_S) (R : Int × nk_S), nk_cl ja_Tt l0 = some 6 → rec15 l0 l1 l2 l3 l4 S = some R → nk_K ja_Tt mi_Γ (mi_ev zs) 1 377 15 [(0, nk_r l0), (1, nk_i l1), (2, nk_i l2), (3, nk_i l3), (4, nk_i l4)] [] S R) : ∀ (l0 : Nat) (l1 : Int) (l2 : Int) (l3 : Int) (l4 : Int) (S : nk_S) (R : Int × nk_S), nk_cl ja_Tt l0 = some 6 → ja_X6_markLabels_b109 rec15 l0 l1 l2 l3 l4 S = some R → nk_K ja_Tt mi_Γ (mi_ev zs) 1 377 109 [(0, nk_r l0), (1, nk_i l1), (2, nk_i l2), (3, nk_i l3), (4, nk_i l4)] [] S R := by
  intro l0 l1 l2 l3 l4 S R t_l0 hr
  unfold ja_X6_markLabels_b109 at hr
  refine nk_p (i := .iload_n 2) (len := 1) (pc' := 110) mJ_377 (by decide +kernel) (ns_iload_n 2 rfl rfl) rfl ?_
  refine nk_p (i := .aload_n 0) (len := 1) (pc' := 111) mJ_377 (by decide +kernel) (ns_aload_n 0 rfl rfl) rfl ?_
  refine nk_p (i := .iload_n 2) (len := 1) (pc' := 112) mJ_377 (by decide +kernel) (ns_iload_n 2 rfl rfl) rfl ?_
  obtain ⟨r1, S2, h3, hr⟩ := nk_bde hr
  refine nk_callV (ci := 6) (n := 1) (x := 185) (len := 3) (j' := 376) (q' := 1) (r := r1) (S' := S2) (L2 := [(0, nk_r l0), (1, nk_i l2)]) (rest := [nk_i l2]) (st' := [nk_i r1, nk_i l2]) (pc' := 115) mJ_377 (by decide +kernel) (by decide +kernel) rfl rfl t_l0 (Nat.le_of_ble_eq_true rfl) mJ_376 (Nat.le_of_ble_eq_true rfl) rfl (ja_X6_lineTokens_ok zs _ _ _ _ t_l0 h3) rfl ?_
  refine nk_p (i := .iadd) (len := 1) (pc' := 116) mJ_377 (by decide +kernel) ns_iadd rfl ?_
  obtain ⟨v4, h5, hr⟩ := nk_lte hr
  refine nk_p (i := .istore_n 2) (len := 1) (pc' := 117) mJ_377 (by decide +kernel) (ns_istore_n (L' := [(2, nk_i v4), (0, nk_r l0), (1, nk_i l1), (3, nk_i l3), (4, nk_i l4)]) h5 rfl rfl (by decide +kernel)) rfl ?_
  obtain ⟨v6, h7, hr⟩ := nk_lte hr
  refine nk_p (i := .iinc 4 1) (len := 3) (pc' := 120) mJ_377 (by decide +kernel) (ns_iinc (c := 1) (L' := [(4, nk_i v6), (2, nk_i v4), (0, nk_r l0), (1, nk_i l1), (3, nk_i l3)]) 4 rfl (by decide +kernel) h7 rfl (by decide +kernel)) rfl ?_
  refine nk_p (i := .goto (-105)) (len := 3) (pc' := 15) mJ_377 (by decide +kernel) (ns_goto (by decide +kernel)) rfl ?_
  refine nk_sub [2, 3, 1, 4, 0] (L' := [(0, nk_r l0), (1, nk_i l1), (2, nk_i v4), (3, nk_i l3), (4, nk_i v6)]) rfl ?_
  exact hrec15 _ _ _ _ _ _ _ t_l0 hr
noncomputable def ja_X6_markLabels_b15 (rec15 : Nat → Int → Int → Int → Int → nk_S → Option (Int × nk_S)) (l0 : Nat) (l1 : Int) (l2 : Int) (l3 : Int) (l4 : Int) (S : nk_S) : Option (Int × nk_S) :=
  if 16000 ≤ l4 then
    some (l3, S)
  else
    if (S.1 (ja_c l0 0) 4) ≤ l2 then
      some (l3, S)
    else
      nk_bd (ja_X10_at (ja_c l0 0) l2 S) fun r2 S3 =>
      if r2 = 58 then
        some (l3, S3)
      else
        nk_bd (ja_X10_at (ja_c l0 0) l2 S3) fun r5 S6 =>
        nk_bd (ja_X10_at (ja_c l0 0) (nk_w (l2 + 1)) S6) fun r8 S9 =>
        if r8 = 59 then
          nk_bd (ja_X10_firstOf (ja_c l0 0) r5 S9) fun r13 S14 =>
          if l1 < r13 then
            ja_X6_markLabels_b109 rec15 l0 l1 l2 l3 l4 S14
          else
            nk_bd (ja_X10_setMeaning (ja_c l0 0) r5 l2 l3 S14) fun r16 S17 =>
            ja_X6_markLabels_b109 rec15 l0 l1 l2 l3 l4 S17
        else
          if r5 = 46 then
            ja_X6_markLabels_b109 rec15 l0 l1 l2 l3 l4 S9
          else
            nk_lt (nk_w (l3 + 1)) fun v11 =>
            ja_X6_markLabels_b109 rec15 l0 l1 l2 v11 l4 S9
theorem ja_X6_markLabels_b15_ok (zs : List Int32) {rec15 : Nat → Int → Int → Int → Int → nk_S → Option (Int × nk_S)} (hrec15 : ∀ (l0 : Nat) (l1 : Int) (l2 : Int) (l3 : Int) (l4 : Int) (S : nk_S) (R : Int × nk_S), nk_cl ja_Tt l0 = some 6 → rec15 l0 l1 l2 l3 l4 S = some R → nk_K ja_Tt mi_Γ (mi_ev zs) 1 377 15 [(0, nk_r l0), (1, nk_i l1), (2, nk_i l2), (3, nk_i l3), (4, nk_i l4)] [] S R) : ∀ (l0 : Nat) (l1 : Int) (l2 : Int) (l3 : Int) (l4 : Int) (S : nk_S) (R : Int × nk_S), nk_cl ja_Tt l0 = some 6 → ja_X6_markLabels_b15 rec15 l0 l1 l2 l3 l4 S = some R → nk_K ja_Tt mi_Γ (mi_ev zs) 1 377 15 [(0, nk_r l0), (1, nk_i l1), (2, nk_i l2), (3, nk_i l3), (4, nk_i l4)] [] S R := by
  intro l0 l1 l2 l3 l4 S R t_l0 hr
  unfold ja_X6_markLabels_b15 at hr
  refine nk_p (i := .iload 4) (len := 2) (pc' := 17) mJ_377 (by decide +kernel) (ns_iload 4 rfl) rfl ?_
  refine nk_p (i := .sipush 16000) (len := 3) (pc' := 20) mJ_377 (by decide +kernel) (ns_sipush (c := 16000) (by decide +kernel)) rfl ?_
  refine nk_icmp (c := .ge) (off := 103) (len := 3) (t := 123) (pc' := 23) mJ_377 (by decide +kernel) (by decide +kernel) rfl (fun hc => ?_) (fun hc => ?_)
  · have hr := nk_ifp (c := 16000 ≤ l4) hc hr
    refine nk_p (i := .iload_n 3) (len := 1) (pc' := 124) mJ_377 (by decide +kernel) (ns_iload_n 3 rfl rfl) rfl ?_
    cases hr
    exact nk_iret (ty := .int) (len := 1) mJ_377 (by decide +kernel) rfl (nk_nar_i _)
  · have hr := nk_ifn (c := 16000 ≤ l4) hc hr
    refine nk_p (i := .iload_n 2) (len := 1) (pc' := 24) mJ_377 (by decide +kernel) (ns_iload_n 2 rfl rfl) rfl ?_
    refine nk_p (i := .aload_n 0) (len := 1) (pc' := 25) mJ_377 (by decide +kernel) (ns_aload_n 0 rfl rfl) rfl ?_
    refine nk_getC (f := (2, 10, 0)) (x := 9) (len := 3) (ci := 6) (k := 0) (pc' := 28) ja_okT mJ_377 (by decide +kernel) (by decide +kernel) (by decide +kernel) (by decide) t_l0 rfl ?_
    have t1 : nk_cl ja_Tt (ja_c l0 0) = some 10 := nk_tc (y := 0) ja_okT t_l0 (by decide +kernel)
    refine nk_getI (y := (0, 0)) (x := 23) (len := 3) (ci := 10) (k := 4) (pc' := 31) ja_okT mJ_377 (by decide +kernel) (by decide +kernel) (by decide +kernel) t1 rfl ?_
    refine nk_icmp (c := .ge) (off := 92) (len := 3) (t := 123) (pc' := 34) mJ_377 (by decide +kernel) (by decide +kernel) rfl (fun hc => ?_) (fun hc => ?_)
    · have hr := nk_ifp (c := (S.1 (ja_c l0 0) 4) ≤ l2) hc hr
      refine nk_p (i := .iload_n 3) (len := 1) (pc' := 124) mJ_377 (by decide +kernel) (ns_iload_n 3 rfl rfl) rfl ?_
      cases hr
      exact nk_iret (ty := .int) (len := 1) mJ_377 (by decide +kernel) rfl (nk_nar_i _)
    · have hr := nk_ifn (c := (S.1 (ja_c l0 0) 4) ≤ l2) hc hr
      refine nk_p (i := .aload_n 0) (len := 1) (pc' := 35) mJ_377 (by decide +kernel) (ns_aload_n 0 rfl rfl) rfl ?_
      refine nk_getC (f := (2, 10, 0)) (x := 9) (len := 3) (ci := 6) (k := 0) (pc' := 38) ja_okT mJ_377 (by decide +kernel) (by decide +kernel) (by decide +kernel) (by decide) t_l0 rfl ?_
      refine nk_p (i := .iload_n 2) (len := 1) (pc' := 39) mJ_377 (by decide +kernel) (ns_iload_n 2 rfl rfl) rfl ?_
      obtain ⟨r2, S3, h4, hr⟩ := nk_bde hr
      refine nk_callV (ci := 10) (n := 1) (x := 39) (len := 3) (j' := 32) (q' := 1) (r := r2) (S' := S3) (L2 := [(0, nk_r (ja_c l0 0)), (1, nk_i l2)]) (rest := []) (st' := [nk_i r2]) (pc' := 42) mJ_377 (by decide +kernel) (by decide +kernel) rfl rfl t1 (Nat.le_of_ble_eq_true rfl) mJ_32 (Nat.le_of_ble_eq_true rfl) rfl (ja_X10_at_ok zs _ _ _ _ t1 h4) rfl ?_
      refine nk_p (i := .bipush 58) (len := 2) (pc' := 44) mJ_377 (by decide +kernel) (ns_bipush (c := 58) (by decide +kernel)) rfl ?_
      refine nk_icmp (c := .eq) (off := 79) (len := 3) (t := 123) (pc' := 47) mJ_377 (by decide +kernel) (by decide +kernel) rfl (fun hc => ?_) (fun hc => ?_)
      · have hr := nk_ifp (c := r2 = 58) hc hr
        refine nk_p (i := .iload_n 3) (len := 1) (pc' := 124) mJ_377 (by decide +kernel) (ns_iload_n 3 rfl rfl) rfl ?_
        cases hr
        exact nk_iret (ty := .int) (len := 1) mJ_377 (by decide +kernel) rfl (nk_nar_i _)
      · have hr := nk_ifn (c := r2 = 58) hc hr
        refine nk_p (i := .aload_n 0) (len := 1) (pc' := 48) mJ_377 (by decide +kernel) (ns_aload_n 0 rfl rfl) rfl ?_
        refine nk_getC (f := (2, 10, 0)) (x := 9) (len := 3) (ci := 6) (k := 0) (pc' := 51) ja_okT mJ_377 (by decide +kernel) (by decide +kernel) (by decide +kernel) (by decide) t_l0 rfl ?_
        refine nk_p (i := .iload_n 2) (len := 1) (pc' := 52) mJ_377 (by decide +kernel) (ns_iload_n 2 rfl rfl) rfl ?_
        obtain ⟨r5, S6, h7, hr⟩ := nk_bde hr
        refine nk_callV (ci := 10) (n := 1) (x := 39) (len := 3) (j' := 32) (q' := 1) (r := r5) (S' := S6) (L2 := [(0, nk_r (ja_c l0 0)), (1, nk_i l2)]) (rest := []) (st' := [nk_i r5]) (pc' := 55) mJ_377 (by decide +kernel) (by decide +kernel) rfl rfl t1 (Nat.le_of_ble_eq_true rfl) mJ_32 (Nat.le_of_ble_eq_true rfl) rfl (ja_X10_at_ok zs _ _ _ _ t1 h7) rfl ?_
        refine nk_p (i := .istore 5) (len := 2) (pc' := 57) mJ_377 (by decide +kernel) (ns_istore (L' := [(5, nk_i r5), (0, nk_r l0), (1, nk_i l1), (2, nk_i l2), (3, nk_i l3), (4, nk_i l4)]) rfl rfl (by decide +kernel)) rfl ?_
        refine nk_p (i := .aload_n 0) (len := 1) (pc' := 58) mJ_377 (by decide +kernel) (ns_aload_n 1 rfl rfl) rfl ?_
        refine nk_getC (f := (2, 10, 0)) (x := 9) (len := 3) (ci := 6) (k := 0) (pc' := 61) ja_okT mJ_377 (by decide +kernel) (by decide +kernel) (by decide +kernel) (by decide) t_l0 rfl ?_
        refine nk_p (i := .iload_n 2) (len := 1) (pc' := 62) mJ_377 (by decide +kernel) (ns_iload_n 3 rfl rfl) rfl ?_
        refine nk_p (i := .iconst 1) (len := 1) (pc' := 63) mJ_377 (by decide +kernel) (ns_iconst (c := 1) (by decide +kernel)) rfl ?_
        refine nk_p (i := .iadd) (len := 1) (pc' := 64) mJ_377 (by decide +kernel) ns_iadd rfl ?_
        obtain ⟨r8, S9, h10, hr⟩ := nk_bde hr
        refine nk_callV (ci := 10) (n := 1) (x := 39) (len := 3) (j' := 32) (q' := 1) (r := r8) (S' := S9) (L2 := [(0, nk_r (ja_c l0 0)), (1, nk_i (nk_w (l2 + 1)))]) (rest := []) (st' := [nk_i r8]) (pc' := 67) mJ_377 (by decide +kernel) (by decide +kernel) rfl rfl t1 (Nat.le_of_ble_eq_true rfl) mJ_32 (Nat.le_of_ble_eq_true rfl) rfl (ja_X10_at_ok zs _ _ _ _ t1 h10) rfl ?_
        refine nk_p (i := .bipush 59) (len := 2) (pc' := 69) mJ_377 (by decide +kernel) (ns_bipush (c := 59) (by decide +kernel)) rfl ?_
        refine nk_icmp (c := .ne) (off := 30) (len := 3) (t := 99) (pc' := 72) mJ_377 (by decide +kernel) (by decide +kernel) rfl (fun hc => ?_) (fun hc => ?_)
        · have hr := nk_ifn (c := r8 = 59) hc hr
          refine nk_p (i := .iload 5) (len := 2) (pc' := 101) mJ_377 (by decide +kernel) (ns_iload 0 rfl) rfl ?_
          refine nk_p (i := .bipush 46) (len := 2) (pc' := 103) mJ_377 (by decide +kernel) (ns_bipush (c := 46) (by decide +kernel)) rfl ?_
          refine nk_icmp (c := .eq) (off := 6) (len := 3) (t := 109) (pc' := 106) mJ_377 (by decide +kernel) (by decide +kernel) rfl (fun hc => ?_) (fun hc => ?_)
          · have hr := nk_ifp (c := r5 = 46) hc hr
            refine nk_sub [1, 2, 3, 4, 5] (L' := [(0, nk_r l0), (1, nk_i l1), (2, nk_i l2), (3, nk_i l3), (4, nk_i l4)]) rfl ?_
            exact ja_X6_markLabels_b109_ok zs hrec15 _ _ _ _ _ _ _ t_l0 hr
          · have hr := nk_ifn (c := r5 = 46) hc hr
            obtain ⟨v11, h12, hr⟩ := nk_lte hr
            refine nk_p (i := .iinc 3 1) (len := 3) (pc' := 109) mJ_377 (by decide +kernel) (ns_iinc (c := 1) (L' := [(3, nk_i v11), (5, nk_i r5), (0, nk_r l0), (1, nk_i l1), (2, nk_i l2), (4, nk_i l4)]) 4 rfl (by decide +kernel) h12 rfl (by decide +kernel)) rfl ?_
            refine nk_sub [2, 3, 4, 0, 5] (L' := [(0, nk_r l0), (1, nk_i l1), (2, nk_i l2), (3, nk_i v11), (4, nk_i l4)]) rfl ?_
            exact ja_X6_markLabels_b109_ok zs hrec15 _ _ _ _ _ _ _ t_l0 hr
        · have hr := nk_ifp (c := r8 = 59) (Decidable.of_not_not hc) hr
          refine nk_p (i := .aload_n 0) (len := 1) (pc' := 73) mJ_377 (by decide +kernel) (ns_aload_n 1 rfl rfl) rfl ?_
          refine nk_getC (f := (2, 10, 0)) (x := 9) (len := 3) (ci := 6) (k := 0) (pc' := 76) ja_okT mJ_377 (by decide +kernel) (by decide +kernel) (by decide +kernel) (by decide) t_l0 rfl ?_
          refine nk_p (i := .iload 5) (len := 2) (pc' := 78) mJ_377 (by decide +kernel) (ns_iload 0 rfl) rfl ?_
          obtain ⟨r13, S14, h15, hr⟩ := nk_bde hr
          refine nk_callV (ci := 10) (n := 1) (x := 101) (len := 3) (j' := 35) (q' := 1) (r := r13) (S' := S14) (L2 := [(0, nk_r (ja_c l0 0)), (1, nk_i r5)]) (rest := []) (st' := [nk_i r13]) (pc' := 81) mJ_377 (by decide +kernel) (by decide +kernel) rfl rfl t1 (Nat.le_of_ble_eq_true rfl) mJ_35 (Nat.le_of_ble_eq_true rfl) rfl (ja_X10_firstOf_ok zs _ _ _ _ t1 h15) rfl ?_
          refine nk_p (i := .iload_n 1) (len := 1) (pc' := 82) mJ_377 (by decide +kernel) (ns_iload_n 2 rfl rfl) rfl ?_
          refine nk_icmp (c := .gt) (off := 27) (len := 3) (t := 109) (pc' := 85) mJ_377 (by decide +kernel) (by decide +kernel) rfl (fun hc => ?_) (fun hc => ?_)
          · have hr := nk_ifp (c := l1 < r13) hc hr
            refine nk_sub [1, 2, 3, 4, 5] (L' := [(0, nk_r l0), (1, nk_i l1), (2, nk_i l2), (3, nk_i l3), (4, nk_i l4)]) rfl ?_
            exact ja_X6_markLabels_b109_ok zs hrec15 _ _ _ _ _ _ _ t_l0 hr
          · have hr := nk_ifn (c := l1 < r13) hc hr
            refine nk_p (i := .aload_n 0) (len := 1) (pc' := 86) mJ_377 (by decide +kernel) (ns_aload_n 1 rfl rfl) rfl ?_
            refine nk_getC (f := (2, 10, 0)) (x := 9) (len := 3) (ci := 6) (k := 0) (pc' := 89) ja_okT mJ_377 (by decide +kernel) (by decide +kernel) (by decide +kernel) (by decide) t_l0 rfl ?_
            refine nk_p (i := .iload 5) (len := 2) (pc' := 91) mJ_377 (by decide +kernel) (ns_iload 0 rfl) rfl ?_
            refine nk_p (i := .iload_n 2) (len := 1) (pc' := 92) mJ_377 (by decide +kernel) (ns_iload_n 3 rfl rfl) rfl ?_
            refine nk_p (i := .iload_n 3) (len := 1) (pc' := 93) mJ_377 (by decide +kernel) (ns_iload_n 4 rfl rfl) rfl ?_
            obtain ⟨r16, S17, h18, hr⟩ := nk_bde hr
            refine nk_callV (ci := 10) (n := 3) (x := 116) (len := 3) (j' := 47) (q' := 0) (r := r16) (S' := S17) (L2 := [(0, nk_r (ja_c l0 0)), (1, nk_i r5), (2, nk_i l2), (3, nk_i l3)]) (rest := []) (st' := []) (pc' := 96) mJ_377 (by decide +kernel) (by decide +kernel) rfl rfl t1 (Nat.le_of_ble_eq_true rfl) mJ_47 (Nat.le_of_ble_eq_true rfl) rfl (ja_X10_setMeaning_ok zs _ _ _ _ _ _ t1 h18) rfl ?_
            refine nk_p (i := .goto 13) (len := 3) (pc' := 109) mJ_377 (by decide +kernel) (ns_goto (by decide +kernel)) rfl ?_
            refine nk_sub [1, 2, 3, 4, 5] (L' := [(0, nk_r l0), (1, nk_i l1), (2, nk_i l2), (3, nk_i l3), (4, nk_i l4)]) rfl ?_
            exact ja_X6_markLabels_b109_ok zs hrec15 _ _ _ _ _ _ _ t_l0 hr
noncomputable def ja_X6_markLabels_L15 : Nat → Nat → Int → Int → Int → Int → nk_S → Option (Int × nk_S)
  | 0, _, _, _, _, _, _ => none
  | n + 1, l0, l1, l2, l3, l4, S => ja_X6_markLabels_b15 (ja_X6_markLabels_L15 n) l0 l1 l2 l3 l4 S
theorem ja_X6_markLabels_L15_ok (zs : List Int32) : ∀ n : Nat, ∀ (l0 : Nat) (l1 : Int) (l2 : Int) (l3 : Int) (l4 : Int) (S : nk_S) (R : Int × nk_S), nk_cl ja_Tt l0 = some 6 → ja_X6_markLabels_L15 n l0 l1 l2 l3 l4 S = some R → nk_K ja_Tt mi_Γ (mi_ev zs) 1 377 15 [(0, nk_r l0), (1, nk_i l1), (2, nk_i l2), (3, nk_i l3), (4, nk_i l4)] [] S R := by
  intro n
  induction n with
  | zero => intro _ _ _ _ _ _ _ _ hr; cases hr
  | succ n ih => intro l0 l1 l2 l3 l4 S R t_l0 hr; exact ja_X6_markLabels_b15_ok zs ih l0 l1 l2 l3 l4 S R t_l0 hr
noncomputable def ja_X6_markLabels (l0 : Nat) (l1 : Int) (S : nk_S) : Option (Int × nk_S) :=
  nk_lt (nk_w (l1 + 1)) fun v1 =>
  nk_lt (S.1 (S.2 l0 1) 3) fun v4 =>
  ja_X6_markLabels_L15 nk_big l0 l1 v1 v4 0 S
theorem ja_X6_markLabels_ok (zs : List Int32) : ∀ (l0 : Nat) (l1 : Int) (S : nk_S) (R : Int × nk_S), nk_cl ja_Tt l0 = some 6 → ja_X6_markLabels l0 l1 S = some R → nk_K ja_Tt mi_Γ (mi_ev zs) 1 377 0 [(0, nk_r l0), (1, nk_i l1)] [] S R := by
  intro l0 l1 S R t_l0 hr
  unfold ja_X6_markLabels at hr
  refine nk_p (i := .iload_n 1) (len := 1) (pc' := 1) mJ_377 (by decide +kernel) (ns_iload_n 1 rfl rfl) rfl ?_
  refine nk_p (i := .iconst 1) (len := 1) (pc' := 2) mJ_377 (by decide +kernel) (ns_iconst (c := 1) (by decide +kernel)) rfl ?_
  refine nk_p (i := .iadd) (len := 1) (pc' := 3) mJ_377 (by decide +kernel) ns_iadd rfl ?_
  obtain ⟨v1, h2, hr⟩ := nk_lte hr
  refine nk_p (i := .istore_n 2) (len := 1) (pc' := 4) mJ_377 (by decide +kernel) (ns_istore_n (L' := [(2, nk_i v1), (0, nk_r l0), (1, nk_i l1)]) h2 rfl rfl (by decide +kernel)) rfl ?_
  refine nk_p (i := .aload_n 0) (len := 1) (pc' := 5) mJ_377 (by decide +kernel) (ns_aload_n 1 rfl rfl) rfl ?_
  refine nk_getM (cj := 3) (z := 0) (x := 15) (len := 3) (ci := 6) (k := 1) (pc' := 8) ja_okT mJ_377 (by decide +kernel) (by decide +kernel) (by decide +kernel) t_l0 rfl (fun t3 => ?_)
  refine nk_getI (y := (0, 0)) (x := 166) (len := 3) (ci := 3) (k := 3) (pc' := 11) ja_okT mJ_377 (by decide +kernel) (by decide +kernel) (by decide +kernel) t3 rfl ?_
  obtain ⟨v4, h5, hr⟩ := nk_lte hr
  refine nk_p (i := .istore_n 3) (len := 1) (pc' := 12) mJ_377 (by decide +kernel) (ns_istore_n (L' := [(3, nk_i v4), (2, nk_i v1), (0, nk_r l0), (1, nk_i l1)]) h5 rfl rfl (by decide +kernel)) rfl ?_
  refine nk_p (i := .iconst 0) (len := 1) (pc' := 13) mJ_377 (by decide +kernel) (ns_iconst (c := 0) (by decide +kernel)) rfl ?_
  refine nk_p (i := .istore 4) (len := 2) (pc' := 15) mJ_377 (by decide +kernel) (ns_istore (L' := [(4, nk_i 0), (3, nk_i v4), (2, nk_i v1), (0, nk_r l0), (1, nk_i l1)]) rfl rfl (by decide +kernel)) rfl ?_
  refine nk_sub [3, 4, 2, 1, 0] (L' := [(0, nk_r l0), (1, nk_i l1), (2, nk_i v1), (3, nk_i v4), (4, nk_i 0)]) rfl ?_
  exact ja_X6_markLabels_L15_ok zs nk_big _ _ _ _ _ _ _ t_l0 hr
/-! SafeCode$Reader labelAt (II)I -/
noncomputable def ja_X6_labelAt (l0 : Nat) (l1 : Int) (l2 : Int) (S : nk_S) : Option (Int × nk_S) :=
  nk_bd (ja_X10_at (ja_c l0 0) l2 S) fun r2 S3 =>
  nk_bd (ja_X10_firstOf (ja_c l0 0) r2 S3) fun r5 S6 =>
  if 0 ≤ l1 ∧ l1 < 48 then
  if r5 ≤ (S6.1 (ja_c (ja_c (S6.2 l0 1) 1) 9) l1.toNat) then
    some ((-1), S6)
  else
    nk_bd (ja_X10_secondOf (ja_c l0 0) r2 S6) fun r12 S13 =>
    some (r12, S13)
  else none
theorem ja_X6_labelAt_ok (zs : List Int32) : ∀ (l0 : Nat) (l1 : Int) (l2 : Int) (S : nk_S) (R : Int × nk_S), nk_cl ja_Tt l0 = some 6 → ja_X6_labelAt l0 l1 l2 S = some R → nk_K ja_Tt mi_Γ (mi_ev zs) 1 375 0 [(0, nk_r l0), (1, nk_i l1), (2, nk_i l2)] [] S R := by
  intro l0 l1 l2 S R t_l0 hr
  unfold ja_X6_labelAt at hr
  refine nk_p (i := .aload_n 0) (len := 1) (pc' := 1) mJ_375 (by decide +kernel) (ns_aload_n 0 rfl rfl) rfl ?_
  refine nk_getC (f := (2, 10, 0)) (x := 9) (len := 3) (ci := 6) (k := 0) (pc' := 4) ja_okT mJ_375 (by decide +kernel) (by decide +kernel) (by decide +kernel) (by decide) t_l0 rfl ?_
  have t1 : nk_cl ja_Tt (ja_c l0 0) = some 10 := nk_tc (y := 0) ja_okT t_l0 (by decide +kernel)
  refine nk_p (i := .iload_n 2) (len := 1) (pc' := 5) mJ_375 (by decide +kernel) (ns_iload_n 2 rfl rfl) rfl ?_
  obtain ⟨r2, S3, h4, hr⟩ := nk_bde hr
  refine nk_callV (ci := 10) (n := 1) (x := 39) (len := 3) (j' := 32) (q' := 1) (r := r2) (S' := S3) (L2 := [(0, nk_r (ja_c l0 0)), (1, nk_i l2)]) (rest := []) (st' := [nk_i r2]) (pc' := 8) mJ_375 (by decide +kernel) (by decide +kernel) rfl rfl t1 (Nat.le_of_ble_eq_true rfl) mJ_32 (Nat.le_of_ble_eq_true rfl) rfl (ja_X10_at_ok zs _ _ _ _ t1 h4) rfl ?_
  refine nk_p (i := .istore_n 3) (len := 1) (pc' := 9) mJ_375 (by decide +kernel) (ns_istore_n (L' := [(3, nk_i r2), (0, nk_r l0), (1, nk_i l1), (2, nk_i l2)]) rfl rfl rfl (by decide +kernel)) rfl ?_
  refine nk_p (i := .aload_n 0) (len := 1) (pc' := 10) mJ_375 (by decide +kernel) (ns_aload_n 1 rfl rfl) rfl ?_
  refine nk_getC (f := (2, 10, 0)) (x := 9) (len := 3) (ci := 6) (k := 0) (pc' := 13) ja_okT mJ_375 (by decide +kernel) (by decide +kernel) (by decide +kernel) (by decide) t_l0 rfl ?_
  refine nk_p (i := .iload_n 3) (len := 1) (pc' := 14) mJ_375 (by decide +kernel) (ns_iload_n 0 rfl rfl) rfl ?_
  obtain ⟨r5, S6, h7, hr⟩ := nk_bde hr
  refine nk_callV (ci := 10) (n := 1) (x := 101) (len := 3) (j' := 35) (q' := 1) (r := r5) (S' := S6) (L2 := [(0, nk_r (ja_c l0 0)), (1, nk_i r2)]) (rest := []) (st' := [nk_i r5]) (pc' := 17) mJ_375 (by decide +kernel) (by decide +kernel) rfl rfl t1 (Nat.le_of_ble_eq_true rfl) mJ_35 (Nat.le_of_ble_eq_true rfl) rfl (ja_X10_firstOf_ok zs _ _ _ _ t1 h7) rfl ?_
  refine nk_p (i := .aload_n 0) (len := 1) (pc' := 18) mJ_375 (by decide +kernel) (ns_aload_n 1 rfl rfl) rfl ?_
  refine nk_getM (cj := 3) (z := 0) (x := 15) (len := 3) (ci := 6) (k := 1) (pc' := 21) ja_okT mJ_375 (by decide +kernel) (by decide +kernel) (by decide +kernel) t_l0 rfl (fun t8 => ?_)
  refine nk_getC (f := (2, 0, 0)) (x := 81) (len := 3) (ci := 3) (k := 1) (pc' := 24) ja_okT mJ_375 (by decide +kernel) (by decide +kernel) (by decide +kernel) (by decide) t8 rfl ?_
  have t9 : nk_cl ja_Tt (ja_c (S6.2 l0 1) 1) = some 0 := nk_tc (y := 0) ja_okT t8 (by decide +kernel)
  refine nk_getC (f := (4, 1, 48)) (x := 160) (len := 3) (ci := 0) (k := 9) (pc' := 27) ja_okT mJ_375 (by decide +kernel) (by decide +kernel) (by decide +kernel) (by decide) t9 rfl ?_
  have t10 : nk_ar ja_Tt (ja_c (ja_c (S6.2 l0 1) 1) 9) = some (1, 48) := nk_ta ja_okT t9 (by decide +kernel)
  refine nk_p (i := .iload_n 1) (len := 1) (pc' := 28) mJ_375 (by decide +kernel) (ns_iload_n 2 rfl rfl) rfl ?_
  obtain ⟨h11, hr⟩ := nk_cke hr
  refine nk_iald (len := 1) (N := 48) (pc' := 29) mJ_375 (by decide +kernel) t10 h11.1 h11.2 rfl rfl ?_
  refine nk_icmp (c := .le) (off := 14) (len := 3) (t := 43) (pc' := 32) mJ_375 (by decide +kernel) (by decide +kernel) rfl (fun hc => ?_) (fun hc => ?_)
  · have hr := nk_ifp (c := r5 ≤ (S6.1 (ja_c (ja_c (S6.2 l0 1) 1) 9) l1.toNat)) hc hr
    refine nk_p (i := .iconst (-1)) (len := 1) (pc' := 44) mJ_375 (by decide +kernel) (ns_iconst (c := (-1)) (by decide +kernel)) rfl ?_
    cases hr
    exact nk_iret (ty := .int) (len := 1) mJ_375 (by decide +kernel) rfl (nk_nar_i _)
  · have hr := nk_ifn (c := r5 ≤ (S6.1 (ja_c (ja_c (S6.2 l0 1) 1) 9) l1.toNat)) hc hr
    refine nk_p (i := .aload_n 0) (len := 1) (pc' := 33) mJ_375 (by decide +kernel) (ns_aload_n 1 rfl rfl) rfl ?_
    refine nk_getC (f := (2, 10, 0)) (x := 9) (len := 3) (ci := 6) (k := 0) (pc' := 36) ja_okT mJ_375 (by decide +kernel) (by decide +kernel) (by decide +kernel) (by decide) t_l0 rfl ?_
    refine nk_p (i := .iload_n 3) (len := 1) (pc' := 37) mJ_375 (by decide +kernel) (ns_iload_n 0 rfl rfl) rfl ?_
    obtain ⟨r12, S13, h14, hr⟩ := nk_bde hr
    refine nk_callV (ci := 10) (n := 1) (x := 194) (len := 3) (j' := 46) (q' := 1) (r := r12) (S' := S13) (L2 := [(0, nk_r (ja_c l0 0)), (1, nk_i r2)]) (rest := []) (st' := [nk_i r12]) (pc' := 40) mJ_375 (by decide +kernel) (by decide +kernel) rfl rfl t1 (Nat.le_of_ble_eq_true rfl) mJ_46 (Nat.le_of_ble_eq_true rfl) rfl (ja_X10_secondOf_ok zs _ _ _ _ t1 h14) rfl ?_
    refine nk_p (i := .goto 4) (len := 3) (pc' := 44) mJ_375 (by decide +kernel) (ns_goto (by decide +kernel)) rfl ?_
    cases hr
    exact nk_iret (ty := .int) (len := 1) mJ_375 (by decide +kernel) rfl (nk_nar_i _)
/-! SafeCode$Program addCatch (IIII)V -/
noncomputable def ja_X3_addCatch (l0 : Nat) (l1 : Int) (l2 : Int) (l3 : Int) (l4 : Int) (S : nk_S) : Option (Int × nk_S) :=
  if 0 ≤ (S.1 l0 12) ∧ (S.1 l0 12) < 64 then
  nk_lt (nk_wi S (ja_c l0 13) (S.1 l0 12).toNat l1) fun S3 =>
  if 0 ≤ (S3.1 l0 12) ∧ (S3.1 l0 12) < 64 then
  nk_lt (nk_wi S3 (ja_c l0 14) (S3.1 l0 12).toNat l2) fun S7 =>
  if 0 ≤ (S7.1 l0 12) ∧ (S7.1 l0 12) < 64 then
  nk_lt (nk_wi S7 (ja_c l0 15) (S7.1 l0 12).toNat l3) fun S11 =>
  if 0 ≤ (S11.1 l0 12) ∧ (S11.1 l0 12) < 64 then
  nk_lt (nk_wi S11 (ja_c l0 16) (S11.1 l0 12).toNat l4) fun S15 =>
  nk_lt (nk_wi S15 l0 12 (nk_w ((S15.1 l0 12) + 1))) fun S17 =>
  some (0, S17)
  else none
  else none
  else none
  else none
theorem ja_X3_addCatch_ok (zs : List Int32) : ∀ (l0 : Nat) (l1 : Int) (l2 : Int) (l3 : Int) (l4 : Int) (S : nk_S) (R : Int × nk_S), nk_cl ja_Tt l0 = some 3 → ja_X3_addCatch l0 l1 l2 l3 l4 S = some R → nk_K ja_Tt mi_Γ (mi_ev zs) 0 298 0 [(0, nk_r l0), (1, nk_i l1), (2, nk_i l2), (3, nk_i l3), (4, nk_i l4)] [] S R := by
  intro l0 l1 l2 l3 l4 S R t_l0 hr
  unfold ja_X3_addCatch at hr
  refine nk_p (i := .aload_n 0) (len := 1) (pc' := 1) mJ_298 (by decide +kernel) (ns_aload_n 0 rfl rfl) rfl ?_
  refine nk_getC (f := (4, 1, 64)) (x := 54) (len := 3) (ci := 3) (k := 13) (pc' := 4) ja_okT mJ_298 (by decide +kernel) (by decide +kernel) (by decide +kernel) (by decide) t_l0 rfl ?_
  have t1 : nk_ar ja_Tt (ja_c l0 13) = some (1, 64) := nk_ta ja_okT t_l0 (by decide +kernel)
  refine nk_p (i := .aload_n 0) (len := 1) (pc' := 5) mJ_298 (by decide +kernel) (ns_aload_n 0 rfl rfl) rfl ?_
  refine nk_getI (y := (0, 0)) (x := 78) (len := 3) (ci := 3) (k := 12) (pc' := 8) ja_okT mJ_298 (by decide +kernel) (by decide +kernel) (by decide +kernel) t_l0 rfl ?_
  refine nk_p (i := .iload_n 1) (len := 1) (pc' := 9) mJ_298 (by decide +kernel) (ns_iload_n 1 rfl rfl) rfl ?_
  obtain ⟨h2, hr⟩ := nk_cke hr
  obtain ⟨S3, h4, hr⟩ := nk_lte hr
  refine nk_iast (len := 1) (N := 64) (pc' := 10) mJ_298 (by decide +kernel) t1 h2.1 h2.2 rfl rfl h4 ?_
  refine nk_p (i := .aload_n 0) (len := 1) (pc' := 11) mJ_298 (by decide +kernel) (ns_aload_n 0 rfl rfl) rfl ?_
  refine nk_getC (f := (4, 1, 64)) (x := 57) (len := 3) (ci := 3) (k := 14) (pc' := 14) ja_okT mJ_298 (by decide +kernel) (by decide +kernel) (by decide +kernel) (by decide) t_l0 rfl ?_
  have t5 : nk_ar ja_Tt (ja_c l0 14) = some (1, 64) := nk_ta ja_okT t_l0 (by decide +kernel)
  refine nk_p (i := .aload_n 0) (len := 1) (pc' := 15) mJ_298 (by decide +kernel) (ns_aload_n 0 rfl rfl) rfl ?_
  refine nk_getI (y := (0, 0)) (x := 78) (len := 3) (ci := 3) (k := 12) (pc' := 18) ja_okT mJ_298 (by decide +kernel) (by decide +kernel) (by decide +kernel) t_l0 rfl ?_
  refine nk_p (i := .iload_n 2) (len := 1) (pc' := 19) mJ_298 (by decide +kernel) (ns_iload_n 2 rfl rfl) rfl ?_
  obtain ⟨h6, hr⟩ := nk_cke hr
  obtain ⟨S7, h8, hr⟩ := nk_lte hr
  refine nk_iast (len := 1) (N := 64) (pc' := 20) mJ_298 (by decide +kernel) t5 h6.1 h6.2 rfl rfl h8 ?_
  refine nk_p (i := .aload_n 0) (len := 1) (pc' := 21) mJ_298 (by decide +kernel) (ns_aload_n 0 rfl rfl) rfl ?_
  refine nk_getC (f := (4, 1, 64)) (x := 60) (len := 3) (ci := 3) (k := 15) (pc' := 24) ja_okT mJ_298 (by decide +kernel) (by decide +kernel) (by decide +kernel) (by decide) t_l0 rfl ?_
  have t9 : nk_ar ja_Tt (ja_c l0 15) = some (1, 64) := nk_ta ja_okT t_l0 (by decide +kernel)
  refine nk_p (i := .aload_n 0) (len := 1) (pc' := 25) mJ_298 (by decide +kernel) (ns_aload_n 0 rfl rfl) rfl ?_
  refine nk_getI (y := (0, 0)) (x := 78) (len := 3) (ci := 3) (k := 12) (pc' := 28) ja_okT mJ_298 (by decide +kernel) (by decide +kernel) (by decide +kernel) t_l0 rfl ?_
  refine nk_p (i := .iload_n 3) (len := 1) (pc' := 29) mJ_298 (by decide +kernel) (ns_iload_n 3 rfl rfl) rfl ?_
  obtain ⟨h10, hr⟩ := nk_cke hr
  obtain ⟨S11, h12, hr⟩ := nk_lte hr
  refine nk_iast (len := 1) (N := 64) (pc' := 30) mJ_298 (by decide +kernel) t9 h10.1 h10.2 rfl rfl h12 ?_
  refine nk_p (i := .aload_n 0) (len := 1) (pc' := 31) mJ_298 (by decide +kernel) (ns_aload_n 0 rfl rfl) rfl ?_
  refine nk_getC (f := (4, 1, 64)) (x := 63) (len := 3) (ci := 3) (k := 16) (pc' := 34) ja_okT mJ_298 (by decide +kernel) (by decide +kernel) (by decide +kernel) (by decide) t_l0 rfl ?_
  have t13 : nk_ar ja_Tt (ja_c l0 16) = some (1, 64) := nk_ta ja_okT t_l0 (by decide +kernel)
  refine nk_p (i := .aload_n 0) (len := 1) (pc' := 35) mJ_298 (by decide +kernel) (ns_aload_n 0 rfl rfl) rfl ?_
  refine nk_getI (y := (0, 0)) (x := 78) (len := 3) (ci := 3) (k := 12) (pc' := 38) ja_okT mJ_298 (by decide +kernel) (by decide +kernel) (by decide +kernel) t_l0 rfl ?_
  refine nk_p (i := .iload 4) (len := 2) (pc' := 40) mJ_298 (by decide +kernel) (ns_iload 4 rfl) rfl ?_
  obtain ⟨h14, hr⟩ := nk_cke hr
  obtain ⟨S15, h16, hr⟩ := nk_lte hr
  refine nk_iast (len := 1) (N := 64) (pc' := 41) mJ_298 (by decide +kernel) t13 h14.1 h14.2 rfl rfl h16 ?_
  refine nk_p (i := .aload_n 0) (len := 1) (pc' := 42) mJ_298 (by decide +kernel) (ns_aload_n 0 rfl rfl) rfl ?_
  refine nk_p (i := .dup) (len := 1) (pc' := 43) mJ_298 (by decide +kernel) (ns_dup rfl) rfl ?_
  refine nk_getI (y := (0, 0)) (x := 78) (len := 3) (ci := 3) (k := 12) (pc' := 46) ja_okT mJ_298 (by decide +kernel) (by decide +kernel) (by decide +kernel) t_l0 rfl ?_
  refine nk_p (i := .iconst 1) (len := 1) (pc' := 47) mJ_298 (by decide +kernel) (ns_iconst (c := 1) (by decide +kernel)) rfl ?_
  refine nk_p (i := .iadd) (len := 1) (pc' := 48) mJ_298 (by decide +kernel) ns_iadd rfl ?_
  obtain ⟨S17, h18, hr⟩ := nk_lte hr
  refine nk_putI (y := (0, 0)) (ty := .int) (x := 78) (len := 3) (ci := 3) (k := 12) (pc' := 51) ja_okT mJ_298 (by decide +kernel) (by decide +kernel) (by decide +kernel) t_l0 (Or.inl rfl) rfl h18 ?_
  cases hr
  exact nk_vret (len := 1) mJ_298 (by decide +kernel) rfl
/-! SafeCode$Reader resolveCatch (II)I -/
noncomputable def ja_X6_resolveCatch_b14 (l0 : Nat) (l1 : Int) (l2 : Int) (S : nk_S) : Option (Int × nk_S) :=
  nk_bd (ja_X6_labelAt l0 l1 (nk_w (l2 + 1)) S) fun r1 S2 =>
  if 0 ≤ r1 then
    nk_bd (ja_X6_labelAt l0 l1 (nk_w (l2 + 2)) S2) fun r4 S5 =>
    if r4 < 0 then
      some ((nk_w (l2 + 2)), S5)
    else
      if r1 < r4 then
        nk_bd (ja_X6_labelAt l0 l1 (nk_w (l2 + 3)) S5) fun r7 S8 =>
        if r7 < 0 then
          some ((nk_w (l2 + 3)), S8)
        else
          if 0 ≤ l1 ∧ l1 < 48 then
          if r7 < (S8.1 (ja_c (ja_c (S8.2 l0 1) 1) 11) l1.toNat) then
            nk_bd (ja_X10_at (ja_c l0 0) (nk_w (l2 + 4)) S8) fun r15 S16 =>
            nk_bd (ja_X10_firstOf (ja_c l0 0) r15 S16) fun r18 S19 =>
            if r18 < 0 then
              some ((nk_w (l2 + 4)), S19)
            else
              nk_bd (ja_X1_isAbove (ja_c (S19.2 l0 1) 0) 1 r18 S19) fun r23 S24 =>
              if r23 = 0 then
                some ((nk_w (l2 + 4)), S24)
              else
                nk_bd (ja_X3_addCatch (S24.2 l0 1) r1 r4 r7 r18 S24) fun r27 S28 =>
                some ((-1), S28)
          else
            some ((nk_w (l2 + 3)), S8)
          else none
      else
        some ((nk_w (l2 + 2)), S5)
  else
    some ((nk_w (l2 + 1)), S2)
theorem ja_X6_resolveCatch_b14_ok (zs : List Int32) : ∀ (l0 : Nat) (l1 : Int) (l2 : Int) (S : nk_S) (R : Int × nk_S), nk_cl ja_Tt l0 = some 6 → ja_X6_resolveCatch_b14 l0 l1 l2 S = some R → nk_K ja_Tt mi_Γ (mi_ev zs) 1 378 14 [(0, nk_r l0), (1, nk_i l1), (2, nk_i l2)] [] S R := by
  intro l0 l1 l2 S R t_l0 hr
  unfold ja_X6_resolveCatch_b14 at hr
  refine nk_p (i := .aload_n 0) (len := 1) (pc' := 15) mJ_378 (by decide +kernel) (ns_aload_n 0 rfl rfl) rfl ?_
  refine nk_p (i := .iload_n 1) (len := 1) (pc' := 16) mJ_378 (by decide +kernel) (ns_iload_n 1 rfl rfl) rfl ?_
  refine nk_p (i := .iload_n 2) (len := 1) (pc' := 17) mJ_378 (by decide +kernel) (ns_iload_n 2 rfl rfl) rfl ?_
  refine nk_p (i := .iconst 1) (len := 1) (pc' := 18) mJ_378 (by decide +kernel) (ns_iconst (c := 1) (by decide +kernel)) rfl ?_
  refine nk_p (i := .iadd) (len := 1) (pc' := 19) mJ_378 (by decide +kernel) ns_iadd rfl ?_
  obtain ⟨r1, S2, h3, hr⟩ := nk_bde hr
  refine nk_callV (ci := 6) (n := 2) (x := 197) (len := 3) (j' := 375) (q' := 1) (r := r1) (S' := S2) (L2 := [(0, nk_r l0), (1, nk_i l1), (2, nk_i (nk_w (l2 + 1)))]) (rest := []) (st' := [nk_i r1]) (pc' := 22) mJ_378 (by decide +kernel) (by decide +kernel) rfl rfl t_l0 (Nat.le_of_ble_eq_true rfl) mJ_375 (Nat.le_of_ble_eq_true rfl) rfl (ja_X6_labelAt_ok zs _ _ _ _ _ t_l0 h3) rfl ?_
  refine nk_p (i := .istore_n 3) (len := 1) (pc' := 23) mJ_378 (by decide +kernel) (ns_istore_n (L' := [(3, nk_i r1), (0, nk_r l0), (1, nk_i l1), (2, nk_i l2)]) rfl rfl rfl (by decide +kernel)) rfl ?_
  refine nk_p (i := .iload_n 3) (len := 1) (pc' := 24) mJ_378 (by decide +kernel) (ns_iload_n 0 rfl rfl) rfl ?_
  refine nk_icond (c := .ge) (off := 7) (len := 3) (t := 31) (pc' := 27) mJ_378 (by decide +kernel) (by decide +kernel) rfl (fun hc => ?_) (fun hc => ?_)
  · have hr := nk_ifp (c := 0 ≤ r1) hc hr
    refine nk_p (i := .aload_n 0) (len := 1) (pc' := 32) mJ_378 (by decide +kernel) (ns_aload_n 1 rfl rfl) rfl ?_
    refine nk_p (i := .iload_n 1) (len := 1) (pc' := 33) mJ_378 (by decide +kernel) (ns_iload_n 2 rfl rfl) rfl ?_
    refine nk_p (i := .iload_n 2) (len := 1) (pc' := 34) mJ_378 (by decide +kernel) (ns_iload_n 3 rfl rfl) rfl ?_
    refine nk_p (i := .iconst 2) (len := 1) (pc' := 35) mJ_378 (by decide +kernel) (ns_iconst (c := 2) (by decide +kernel)) rfl ?_
    refine nk_p (i := .iadd) (len := 1) (pc' := 36) mJ_378 (by decide +kernel) ns_iadd rfl ?_
    obtain ⟨r4, S5, h6, hr⟩ := nk_bde hr
    refine nk_callV (ci := 6) (n := 2) (x := 197) (len := 3) (j' := 375) (q' := 1) (r := r4) (S' := S5) (L2 := [(0, nk_r l0), (1, nk_i l1), (2, nk_i (nk_w (l2 + 2)))]) (rest := []) (st' := [nk_i r4]) (pc' := 39) mJ_378 (by decide +kernel) (by decide +kernel) rfl rfl t_l0 (Nat.le_of_ble_eq_true rfl) mJ_375 (Nat.le_of_ble_eq_true rfl) rfl (ja_X6_labelAt_ok zs _ _ _ _ _ t_l0 h6) rfl ?_
    refine nk_p (i := .istore 4) (len := 2) (pc' := 41) mJ_378 (by decide +kernel) (ns_istore (L' := [(4, nk_i r4), (3, nk_i r1), (0, nk_r l0), (1, nk_i l1), (2, nk_i l2)]) rfl rfl (by decide +kernel)) rfl ?_
    refine nk_p (i := .iload 4) (len := 2) (pc' := 43) mJ_378 (by decide +kernel) (ns_iload 0 rfl) rfl ?_
    refine nk_icond (c := .lt) (off := 9) (len := 3) (t := 52) (pc' := 46) mJ_378 (by decide +kernel) (by decide +kernel) rfl (fun hc => ?_) (fun hc => ?_)
    · have hr := nk_ifp (c := r4 < 0) hc hr
      refine nk_p (i := .iload_n 2) (len := 1) (pc' := 53) mJ_378 (by decide +kernel) (ns_iload_n 4 rfl rfl) rfl ?_
      refine nk_p (i := .iconst 2) (len := 1) (pc' := 54) mJ_378 (by decide +kernel) (ns_iconst (c := 2) (by decide +kernel)) rfl ?_
      refine nk_p (i := .iadd) (len := 1) (pc' := 55) mJ_378 (by decide +kernel) ns_iadd rfl ?_
      cases hr
      exact nk_iret (ty := .int) (len := 1) mJ_378 (by decide +kernel) rfl (nk_nar_i _)
    · have hr := nk_ifn (c := r4 < 0) hc hr
      refine nk_p (i := .iload 4) (len := 2) (pc' := 48) mJ_378 (by decide +kernel) (ns_iload 0 rfl) rfl ?_
      refine nk_p (i := .iload_n 3) (len := 1) (pc' := 49) mJ_378 (by decide +kernel) (ns_iload_n 1 rfl rfl) rfl ?_
      refine nk_icmp (c := .gt) (off := 7) (len := 3) (t := 56) (pc' := 52) mJ_378 (by decide +kernel) (by decide +kernel) rfl (fun hc => ?_) (fun hc => ?_)
      · have hr := nk_ifp (c := r1 < r4) hc hr
        refine nk_p (i := .aload_n 0) (len := 1) (pc' := 57) mJ_378 (by decide +kernel) (ns_aload_n 2 rfl rfl) rfl ?_
        refine nk_p (i := .iload_n 1) (len := 1) (pc' := 58) mJ_378 (by decide +kernel) (ns_iload_n 3 rfl rfl) rfl ?_
        refine nk_p (i := .iload_n 2) (len := 1) (pc' := 59) mJ_378 (by decide +kernel) (ns_iload_n 4 rfl rfl) rfl ?_
        refine nk_p (i := .iconst 3) (len := 1) (pc' := 60) mJ_378 (by decide +kernel) (ns_iconst (c := 3) (by decide +kernel)) rfl ?_
        refine nk_p (i := .iadd) (len := 1) (pc' := 61) mJ_378 (by decide +kernel) ns_iadd rfl ?_
        obtain ⟨r7, S8, h9, hr⟩ := nk_bde hr
        refine nk_callV (ci := 6) (n := 2) (x := 197) (len := 3) (j' := 375) (q' := 1) (r := r7) (S' := S8) (L2 := [(0, nk_r l0), (1, nk_i l1), (2, nk_i (nk_w (l2 + 3)))]) (rest := []) (st' := [nk_i r7]) (pc' := 64) mJ_378 (by decide +kernel) (by decide +kernel) rfl rfl t_l0 (Nat.le_of_ble_eq_true rfl) mJ_375 (Nat.le_of_ble_eq_true rfl) rfl (ja_X6_labelAt_ok zs _ _ _ _ _ t_l0 h9) rfl ?_
        refine nk_p (i := .istore 5) (len := 2) (pc' := 66) mJ_378 (by decide +kernel) (ns_istore (L' := [(5, nk_i r7), (4, nk_i r4), (3, nk_i r1), (0, nk_r l0), (1, nk_i l1), (2, nk_i l2)]) rfl rfl (by decide +kernel)) rfl ?_
        refine nk_p (i := .iload 5) (len := 2) (pc' := 68) mJ_378 (by decide +kernel) (ns_iload 0 rfl) rfl ?_
        refine nk_icond (c := .lt) (off := 20) (len := 3) (t := 88) (pc' := 71) mJ_378 (by decide +kernel) (by decide +kernel) rfl (fun hc => ?_) (fun hc => ?_)
        · have hr := nk_ifp (c := r7 < 0) hc hr
          refine nk_p (i := .iload_n 2) (len := 1) (pc' := 89) mJ_378 (by decide +kernel) (ns_iload_n 5 rfl rfl) rfl ?_
          refine nk_p (i := .iconst 3) (len := 1) (pc' := 90) mJ_378 (by decide +kernel) (ns_iconst (c := 3) (by decide +kernel)) rfl ?_
          refine nk_p (i := .iadd) (len := 1) (pc' := 91) mJ_378 (by decide +kernel) ns_iadd rfl ?_
          cases hr
          exact nk_iret (ty := .int) (len := 1) mJ_378 (by decide +kernel) rfl (nk_nar_i _)
        · have hr := nk_ifn (c := r7 < 0) hc hr
          refine nk_p (i := .iload 5) (len := 2) (pc' := 73) mJ_378 (by decide +kernel) (ns_iload 0 rfl) rfl ?_
          refine nk_p (i := .aload_n 0) (len := 1) (pc' := 74) mJ_378 (by decide +kernel) (ns_aload_n 3 rfl rfl) rfl ?_
          refine nk_getM (cj := 3) (z := 0) (x := 15) (len := 3) (ci := 6) (k := 1) (pc' := 77) ja_okT mJ_378 (by decide +kernel) (by decide +kernel) (by decide +kernel) t_l0 rfl (fun t10 => ?_)
          refine nk_getC (f := (2, 0, 0)) (x := 81) (len := 3) (ci := 3) (k := 1) (pc' := 80) ja_okT mJ_378 (by decide +kernel) (by decide +kernel) (by decide +kernel) (by decide) t10 rfl ?_
          have t11 : nk_cl ja_Tt (ja_c (S8.2 l0 1) 1) = some 0 := nk_tc (y := 0) ja_okT t10 (by decide +kernel)
          refine nk_getC (f := (4, 1, 48)) (x := 173) (len := 3) (ci := 0) (k := 11) (pc' := 83) ja_okT mJ_378 (by decide +kernel) (by decide +kernel) (by decide +kernel) (by decide) t11 rfl ?_
          have t12 : nk_ar ja_Tt (ja_c (ja_c (S8.2 l0 1) 1) 11) = some (1, 48) := nk_ta ja_okT t11 (by decide +kernel)
          refine nk_p (i := .iload_n 1) (len := 1) (pc' := 84) mJ_378 (by decide +kernel) (ns_iload_n 4 rfl rfl) rfl ?_
          obtain ⟨h13, hr⟩ := nk_cke hr
          refine nk_iald (len := 1) (N := 48) (pc' := 85) mJ_378 (by decide +kernel) t12 h13.1 h13.2 rfl rfl ?_
          refine nk_icmp (c := .lt) (off := 7) (len := 3) (t := 92) (pc' := 88) mJ_378 (by decide +kernel) (by decide +kernel) rfl (fun hc => ?_) (fun hc => ?_)
          · have hr := nk_ifp (c := r7 < (S8.1 (ja_c (ja_c (S8.2 l0 1) 1) 11) l1.toNat)) hc hr
            refine nk_p (i := .aload_n 0) (len := 1) (pc' := 93) mJ_378 (by decide +kernel) (ns_aload_n 3 rfl rfl) rfl ?_
            refine nk_getC (f := (2, 10, 0)) (x := 9) (len := 3) (ci := 6) (k := 0) (pc' := 96) ja_okT mJ_378 (by decide +kernel) (by decide +kernel) (by decide +kernel) (by decide) t_l0 rfl ?_
            have t14 : nk_cl ja_Tt (ja_c l0 0) = some 10 := nk_tc (y := 0) ja_okT t_l0 (by decide +kernel)
            refine nk_p (i := .aload_n 0) (len := 1) (pc' := 97) mJ_378 (by decide +kernel) (ns_aload_n 3 rfl rfl) rfl ?_
            refine nk_getC (f := (2, 10, 0)) (x := 9) (len := 3) (ci := 6) (k := 0) (pc' := 100) ja_okT mJ_378 (by decide +kernel) (by decide +kernel) (by decide +kernel) (by decide) t_l0 rfl ?_
            refine nk_p (i := .iload_n 2) (len := 1) (pc' := 101) mJ_378 (by decide +kernel) (ns_iload_n 5 rfl rfl) rfl ?_
            refine nk_p (i := .iconst 4) (len := 1) (pc' := 102) mJ_378 (by decide +kernel) (ns_iconst (c := 4) (by decide +kernel)) rfl ?_
            refine nk_p (i := .iadd) (len := 1) (pc' := 103) mJ_378 (by decide +kernel) ns_iadd rfl ?_
            obtain ⟨r15, S16, h17, hr⟩ := nk_bde hr
            refine nk_callV (ci := 10) (n := 1) (x := 39) (len := 3) (j' := 32) (q' := 1) (r := r15) (S' := S16) (L2 := [(0, nk_r (ja_c l0 0)), (1, nk_i (nk_w (l2 + 4)))]) (rest := [nk_r (ja_c l0 0)]) (st' := [nk_i r15, nk_r (ja_c l0 0)]) (pc' := 106) mJ_378 (by decide +kernel) (by decide +kernel) rfl rfl t14 (Nat.le_of_ble_eq_true rfl) mJ_32 (Nat.le_of_ble_eq_true rfl) rfl (ja_X10_at_ok zs _ _ _ _ t14 h17) rfl ?_
            obtain ⟨r18, S19, h20, hr⟩ := nk_bde hr
            refine nk_callV (ci := 10) (n := 1) (x := 101) (len := 3) (j' := 35) (q' := 1) (r := r18) (S' := S19) (L2 := [(0, nk_r (ja_c l0 0)), (1, nk_i r15)]) (rest := []) (st' := [nk_i r18]) (pc' := 109) mJ_378 (by decide +kernel) (by decide +kernel) rfl rfl t14 (Nat.le_of_ble_eq_true rfl) mJ_35 (Nat.le_of_ble_eq_true rfl) rfl (ja_X10_firstOf_ok zs _ _ _ _ t14 h20) rfl ?_
            refine nk_p (i := .istore 6) (len := 2) (pc' := 111) mJ_378 (by decide +kernel) (ns_istore (L' := [(6, nk_i r18), (5, nk_i r7), (4, nk_i r4), (3, nk_i r1), (0, nk_r l0), (1, nk_i l1), (2, nk_i l2)]) rfl rfl (by decide +kernel)) rfl ?_
            refine nk_p (i := .iload 6) (len := 2) (pc' := 113) mJ_378 (by decide +kernel) (ns_iload 0 rfl) rfl ?_
            refine nk_icond (c := .lt) (off := 19) (len := 3) (t := 132) (pc' := 116) mJ_378 (by decide +kernel) (by decide +kernel) rfl (fun hc => ?_) (fun hc => ?_)
            · have hr := nk_ifp (c := r18 < 0) hc hr
              refine nk_p (i := .iload_n 2) (len := 1) (pc' := 133) mJ_378 (by decide +kernel) (ns_iload_n 6 rfl rfl) rfl ?_
              refine nk_p (i := .iconst 4) (len := 1) (pc' := 134) mJ_378 (by decide +kernel) (ns_iconst (c := 4) (by decide +kernel)) rfl ?_
              refine nk_p (i := .iadd) (len := 1) (pc' := 135) mJ_378 (by decide +kernel) ns_iadd rfl ?_
              cases hr
              exact nk_iret (ty := .int) (len := 1) mJ_378 (by decide +kernel) rfl (nk_nar_i _)
            · have hr := nk_ifn (c := r18 < 0) hc hr
              refine nk_p (i := .aload_n 0) (len := 1) (pc' := 117) mJ_378 (by decide +kernel) (ns_aload_n 4 rfl rfl) rfl ?_
              refine nk_getM (cj := 3) (z := 0) (x := 15) (len := 3) (ci := 6) (k := 1) (pc' := 120) ja_okT mJ_378 (by decide +kernel) (by decide +kernel) (by decide +kernel) t_l0 rfl (fun t21 => ?_)
              refine nk_getC (f := (2, 1, 0)) (x := 93) (len := 3) (ci := 3) (k := 0) (pc' := 123) ja_okT mJ_378 (by decide +kernel) (by decide +kernel) (by decide +kernel) (by decide) t21 rfl ?_
              have t22 : nk_cl ja_Tt (ja_c (S19.2 l0 1) 0) = some 1 := nk_tc (y := 0) ja_okT t21 (by decide +kernel)
              refine nk_p (i := .iconst 1) (len := 1) (pc' := 124) mJ_378 (by decide +kernel) (ns_iconst (c := 1) (by decide +kernel)) rfl ?_
              refine nk_p (i := .iload 6) (len := 2) (pc' := 126) mJ_378 (by decide +kernel) (ns_iload 0 rfl) rfl ?_
              obtain ⟨r23, S24, h25, hr⟩ := nk_bde hr
              refine nk_callV (ci := 1) (n := 2) (x := 200) (len := 3) (j' := 254) (q' := 1) (r := r23) (S' := S24) (L2 := [(0, nk_r (ja_c (S19.2 l0 1) 0)), (1, nk_i 1), (2, nk_i r18)]) (rest := []) (st' := [nk_i r23]) (pc' := 129) mJ_378 (by decide +kernel) (by decide +kernel) rfl rfl t22 (Nat.le_of_ble_eq_true rfl) mJ_254 (Nat.le_of_ble_eq_true rfl) rfl (ja_X1_isAbove_ok zs _ _ _ _ _ t22 h25) rfl ?_
              refine nk_icond (c := .ne) (off := 7) (len := 3) (t := 136) (pc' := 132) mJ_378 (by decide +kernel) (by decide +kernel) rfl (fun hc => ?_) (fun hc => ?_)
              · have hr := nk_ifn (c := r23 = 0) hc hr
                refine nk_p (i := .aload_n 0) (len := 1) (pc' := 137) mJ_378 (by decide +kernel) (ns_aload_n 4 rfl rfl) rfl ?_
                refine nk_getM (cj := 3) (z := 0) (x := 15) (len := 3) (ci := 6) (k := 1) (pc' := 140) ja_okT mJ_378 (by decide +kernel) (by decide +kernel) (by decide +kernel) t_l0 rfl (fun t26 => ?_)
                refine nk_p (i := .iload_n 3) (len := 1) (pc' := 141) mJ_378 (by decide +kernel) (ns_iload_n 3 rfl rfl) rfl ?_
                refine nk_p (i := .iload 4) (len := 2) (pc' := 143) mJ_378 (by decide +kernel) (ns_iload 2 rfl) rfl ?_
                refine nk_p (i := .iload 5) (len := 2) (pc' := 145) mJ_378 (by decide +kernel) (ns_iload 1 rfl) rfl ?_
                refine nk_p (i := .iload 6) (len := 2) (pc' := 147) mJ_378 (by decide +kernel) (ns_iload 0 rfl) rfl ?_
                obtain ⟨r27, S28, h29, hr⟩ := nk_bde hr
                refine nk_callV (ci := 3) (n := 4) (x := 203) (len := 3) (j' := 298) (q' := 0) (r := r27) (S' := S28) (L2 := [(0, nk_r (S24.2 l0 1)), (1, nk_i r1), (2, nk_i r4), (3, nk_i r7), (4, nk_i r18)]) (rest := []) (st' := []) (pc' := 150) mJ_378 (by decide +kernel) (by decide +kernel) rfl rfl t26 (Nat.le_of_ble_eq_true rfl) mJ_298 (Nat.le_of_ble_eq_true rfl) rfl (ja_X3_addCatch_ok zs _ _ _ _ _ _ _ t26 h29) rfl ?_
                refine nk_p (i := .iconst (-1)) (len := 1) (pc' := 151) mJ_378 (by decide +kernel) (ns_iconst (c := (-1)) (by decide +kernel)) rfl ?_
                cases hr
                exact nk_iret (ty := .int) (len := 1) mJ_378 (by decide +kernel) rfl (nk_nar_i _)
              · have hr := nk_ifp (c := r23 = 0) (Decidable.of_not_not hc) hr
                refine nk_p (i := .iload_n 2) (len := 1) (pc' := 133) mJ_378 (by decide +kernel) (ns_iload_n 6 rfl rfl) rfl ?_
                refine nk_p (i := .iconst 4) (len := 1) (pc' := 134) mJ_378 (by decide +kernel) (ns_iconst (c := 4) (by decide +kernel)) rfl ?_
                refine nk_p (i := .iadd) (len := 1) (pc' := 135) mJ_378 (by decide +kernel) ns_iadd rfl ?_
                cases hr
                exact nk_iret (ty := .int) (len := 1) mJ_378 (by decide +kernel) rfl (nk_nar_i _)
          · have hr := nk_ifn (c := r7 < (S8.1 (ja_c (ja_c (S8.2 l0 1) 1) 11) l1.toNat)) hc hr
            refine nk_p (i := .iload_n 2) (len := 1) (pc' := 89) mJ_378 (by decide +kernel) (ns_iload_n 5 rfl rfl) rfl ?_
            refine nk_p (i := .iconst 3) (len := 1) (pc' := 90) mJ_378 (by decide +kernel) (ns_iconst (c := 3) (by decide +kernel)) rfl ?_
            refine nk_p (i := .iadd) (len := 1) (pc' := 91) mJ_378 (by decide +kernel) ns_iadd rfl ?_
            cases hr
            exact nk_iret (ty := .int) (len := 1) mJ_378 (by decide +kernel) rfl (nk_nar_i _)
      · have hr := nk_ifn (c := r1 < r4) hc hr
        refine nk_p (i := .iload_n 2) (len := 1) (pc' := 53) mJ_378 (by decide +kernel) (ns_iload_n 4 rfl rfl) rfl ?_
        refine nk_p (i := .iconst 2) (len := 1) (pc' := 54) mJ_378 (by decide +kernel) (ns_iconst (c := 2) (by decide +kernel)) rfl ?_
        refine nk_p (i := .iadd) (len := 1) (pc' := 55) mJ_378 (by decide +kernel) ns_iadd rfl ?_
        cases hr
        exact nk_iret (ty := .int) (len := 1) mJ_378 (by decide +kernel) rfl (nk_nar_i _)
  · have hr := nk_ifn (c := 0 ≤ r1) hc hr
    refine nk_p (i := .iload_n 2) (len := 1) (pc' := 28) mJ_378 (by decide +kernel) (ns_iload_n 3 rfl rfl) rfl ?_
    refine nk_p (i := .iconst 1) (len := 1) (pc' := 29) mJ_378 (by decide +kernel) (ns_iconst (c := 1) (by decide +kernel)) rfl ?_
    refine nk_p (i := .iadd) (len := 1) (pc' := 30) mJ_378 (by decide +kernel) ns_iadd rfl ?_
    cases hr
    exact nk_iret (ty := .int) (len := 1) mJ_378 (by decide +kernel) rfl (nk_nar_i _)
noncomputable def ja_X6_resolveCatch (l0 : Nat) (l1 : Int) (l2 : Int) (S : nk_S) : Option (Int × nk_S) :=
  if (S.1 (S.2 l0 1) 12) < 64 then
    ja_X6_resolveCatch_b14 l0 l1 l2 S
  else
    some (l2, S)
theorem ja_X6_resolveCatch_ok (zs : List Int32) : ∀ (l0 : Nat) (l1 : Int) (l2 : Int) (S : nk_S) (R : Int × nk_S), nk_cl ja_Tt l0 = some 6 → ja_X6_resolveCatch l0 l1 l2 S = some R → nk_K ja_Tt mi_Γ (mi_ev zs) 1 378 0 [(0, nk_r l0), (1, nk_i l1), (2, nk_i l2)] [] S R := by
  intro l0 l1 l2 S R t_l0 hr
  unfold ja_X6_resolveCatch at hr
  refine nk_p (i := .aload_n 0) (len := 1) (pc' := 1) mJ_378 (by decide +kernel) (ns_aload_n 0 rfl rfl) rfl ?_
  refine nk_getM (cj := 3) (z := 0) (x := 15) (len := 3) (ci := 6) (k := 1) (pc' := 4) ja_okT mJ_378 (by decide +kernel) (by decide +kernel) (by decide +kernel) t_l0 rfl (fun t1 => ?_)
  refine nk_getI (y := (0, 0)) (x := 170) (len := 3) (ci := 3) (k := 12) (pc' := 7) ja_okT mJ_378 (by decide +kernel) (by decide +kernel) (by decide +kernel) t1 rfl ?_
  refine nk_p (i := .bipush 64) (len := 2) (pc' := 9) mJ_378 (by decide +kernel) (ns_bipush (c := 64) (by decide +kernel)) rfl ?_
  refine nk_icmp (c := .lt) (off := 5) (len := 3) (t := 14) (pc' := 12) mJ_378 (by decide +kernel) (by decide +kernel) rfl (fun hc => ?_) (fun hc => ?_)
  · have hr := nk_ifp (c := (S.1 (S.2 l0 1) 12) < 64) hc hr
    exact ja_X6_resolveCatch_b14_ok zs _ _ _ _ _ t_l0 hr
  · have hr := nk_ifn (c := (S.1 (S.2 l0 1) 12) < 64) hc hr
    refine nk_p (i := .iload_n 2) (len := 1) (pc' := 13) mJ_378 (by decide +kernel) (ns_iload_n 2 rfl rfl) rfl ?_
    cases hr
    exact nk_iret (ty := .int) (len := 1) mJ_378 (by decide +kernel) rfl (nk_nar_i _)
/-! SafeCode$Reader resolveMember (II)Z -/
noncomputable def ja_X6_resolveMember_b49 (l0 : Nat) (l3 : Int) (S : nk_S) : Option (Int × nk_S) :=
  nk_bd (ja_X1_findField (ja_c (S.2 l0 1) 0) (S.1 l0 4) l3 S) fun r3 S4 =>
  nk_lt (nk_wi S4 l0 3 r3) fun S6 =>
  if (S6.1 l0 3) < 0 then
    some (0, S6)
  else
    some (1, S6)
theorem ja_X6_resolveMember_b49_ok (zs : List Int32) : ∀ (l0 : Nat) (l3 : Int) (S : nk_S) (R : Int × nk_S), nk_cl ja_Tt l0 = some 6 → ja_X6_resolveMember_b49 l0 l3 S = some R → nk_K ja_Tt mi_Γ (mi_ev zs) 1 382 49 [(0, nk_r l0), (3, nk_i l3)] [] S R := by
  intro l0 l3 S R t_l0 hr
  unfold ja_X6_resolveMember_b49 at hr
  refine nk_p (i := .aload_n 0) (len := 1) (pc' := 50) mJ_382 (by decide +kernel) (ns_aload_n 0 rfl rfl) rfl ?_
  refine nk_p (i := .aload_n 0) (len := 1) (pc' := 51) mJ_382 (by decide +kernel) (ns_aload_n 0 rfl rfl) rfl ?_
  refine nk_getM (cj := 3) (z := 0) (x := 15) (len := 3) (ci := 6) (k := 1) (pc' := 54) ja_okT mJ_382 (by decide +kernel) (by decide +kernel) (by decide +kernel) t_l0 rfl (fun t1 => ?_)
  refine nk_getC (f := (2, 1, 0)) (x := 93) (len := 3) (ci := 3) (k := 0) (pc' := 57) ja_okT mJ_382 (by decide +kernel) (by decide +kernel) (by decide +kernel) (by decide) t1 rfl ?_
  have t2 : nk_cl ja_Tt (ja_c (S.2 l0 1) 0) = some 1 := nk_tc (y := 0) ja_okT t1 (by decide +kernel)
  refine nk_p (i := .aload_n 0) (len := 1) (pc' := 58) mJ_382 (by decide +kernel) (ns_aload_n 0 rfl rfl) rfl ?_
  refine nk_getI (y := (0, 0)) (x := 213) (len := 3) (ci := 6) (k := 4) (pc' := 61) ja_okT mJ_382 (by decide +kernel) (by decide +kernel) (by decide +kernel) t_l0 rfl ?_
  refine nk_p (i := .iload_n 3) (len := 1) (pc' := 62) mJ_382 (by decide +kernel) (ns_iload_n 1 rfl rfl) rfl ?_
  obtain ⟨r3, S4, h5, hr⟩ := nk_bde hr
  refine nk_callV (ci := 1) (n := 2) (x := 130) (len := 3) (j' := 252) (q' := 1) (r := r3) (S' := S4) (L2 := [(0, nk_r (ja_c (S.2 l0 1) 0)), (1, nk_i (S.1 l0 4)), (2, nk_i l3)]) (rest := [nk_r l0]) (st' := [nk_i r3, nk_r l0]) (pc' := 65) mJ_382 (by decide +kernel) (by decide +kernel) rfl rfl t2 (Nat.le_of_ble_eq_true rfl) mJ_252 (Nat.le_of_ble_eq_true rfl) rfl (ja_X1_findField_ok zs _ _ _ _ _ t2 h5) rfl ?_
  obtain ⟨S6, h7, hr⟩ := nk_lte hr
  refine nk_putI (y := (0, 0)) (ty := .int) (x := 210) (len := 3) (ci := 6) (k := 3) (pc' := 68) ja_okT mJ_382 (by decide +kernel) (by decide +kernel) (by decide +kernel) t_l0 (Or.inl rfl) rfl h7 ?_
  refine nk_p (i := .aload_n 0) (len := 1) (pc' := 69) mJ_382 (by decide +kernel) (ns_aload_n 0 rfl rfl) rfl ?_
  refine nk_getI (y := (0, 0)) (x := 210) (len := 3) (ci := 6) (k := 3) (pc' := 72) ja_okT mJ_382 (by decide +kernel) (by decide +kernel) (by decide +kernel) t_l0 rfl ?_
  refine nk_icond (c := .lt) (off := 7) (len := 3) (t := 79) (pc' := 75) mJ_382 (by decide +kernel) (by decide +kernel) rfl (fun hc => ?_) (fun hc => ?_)
  · have hr := nk_ifp (c := (S6.1 l0 3) < 0) hc hr
    refine nk_p (i := .iconst 0) (len := 1) (pc' := 80) mJ_382 (by decide +kernel) (ns_iconst (c := 0) (by decide +kernel)) rfl ?_
    cases hr
    exact nk_iret (ty := .boolean) (len := 1) mJ_382 (by decide +kernel) rfl (nk_nar_z (by decide))
  · have hr := nk_ifn (c := (S6.1 l0 3) < 0) hc hr
    refine nk_p (i := .iconst 1) (len := 1) (pc' := 76) mJ_382 (by decide +kernel) (ns_iconst (c := 1) (by decide +kernel)) rfl ?_
    refine nk_p (i := .goto 4) (len := 3) (pc' := 80) mJ_382 (by decide +kernel) (ns_goto (by decide +kernel)) rfl ?_
    cases hr
    exact nk_iret (ty := .boolean) (len := 1) mJ_382 (by decide +kernel) rfl (nk_nar_z (by decide))
noncomputable def ja_X6_resolveMember_b140 (s0 : Int) (s1 : Int) (S : nk_S) : Option (Int × nk_S) :=
  if s0 = s1 then
    some (1, S)
  else
    some (0, S)
theorem ja_X6_resolveMember_b140_ok (zs : List Int32) : ∀ (s0 : Int) (s1 : Int) (S : nk_S) (R : Int × nk_S), ja_X6_resolveMember_b140 s0 s1 S = some R → nk_K ja_Tt mi_Γ (mi_ev zs) 1 382 140 [] [nk_i s1, nk_i s0] S R := by
  intro s0 s1 S R hr
  unfold ja_X6_resolveMember_b140 at hr
  refine nk_icmp (c := .ne) (off := 7) (len := 3) (t := 147) (pc' := 143) mJ_382 (by decide +kernel) (by decide +kernel) rfl (fun hc => ?_) (fun hc => ?_)
  · have hr := nk_ifn (c := s0 = s1) hc hr
    refine nk_p (i := .iconst 0) (len := 1) (pc' := 148) mJ_382 (by decide +kernel) (ns_iconst (c := 0) (by decide +kernel)) rfl ?_
    cases hr
    exact nk_iret (ty := .boolean) (len := 1) mJ_382 (by decide +kernel) rfl (nk_nar_z (by decide))
  · have hr := nk_ifp (c := s0 = s1) (Decidable.of_not_not hc) hr
    refine nk_p (i := .iconst 1) (len := 1) (pc' := 144) mJ_382 (by decide +kernel) (ns_iconst (c := 1) (by decide +kernel)) rfl ?_
    refine nk_p (i := .goto 4) (len := 3) (pc' := 148) mJ_382 (by decide +kernel) (ns_goto (by decide +kernel)) rfl ?_
    cases hr
    exact nk_iret (ty := .boolean) (len := 1) mJ_382 (by decide +kernel) rfl (nk_nar_z (by decide))
noncomputable def ja_X6_resolveMember (l0 : Nat) (l1 : Int) (l2 : Int) (S : nk_S) : Option (Int × nk_S) :=
  nk_bd (ja_X10_secondOf (ja_c l0 0) l1 S) fun r2 S3 =>
  nk_bd (ja_X10_firstOf (ja_c l0 0) l1 S3) fun r5 S6 =>
  nk_bd (ja_X10_firstOf (ja_c l0 0) r5 S6) fun r8 S9 =>
  nk_lt (nk_wi S9 l0 4 r8) fun S11 =>
  if 0 ≤ (S11.1 l0 4) then
    if l2 = 35 then
      ja_X6_resolveMember_b49 l0 r2 S11
    else
      if l2 = 36 then
        ja_X6_resolveMember_b49 l0 r2 S11
      else
        nk_bd (ja_X0_nearest (ja_c (S11.2 l0 1) 1) (ja_c (S11.2 l0 1) 0) (S11.1 l0 4) r2 S11) fun r17 S18 =>
        nk_lt (nk_wi S18 l0 3 r17) fun S20 =>
        if (S20.1 l0 3) < 0 then
          some (0, S20)
        else
          if 0 ≤ (S20.1 l0 3) ∧ (S20.1 l0 3) < 48 then
          if l2 = 40 then
            ja_X6_resolveMember_b140 (S20.1 (ja_c (ja_c (S20.2 l0 1) 1) 4) (S20.1 l0 3).toNat) 1 S20
          else
            ja_X6_resolveMember_b140 (S20.1 (ja_c (ja_c (S20.2 l0 1) 1) 4) (S20.1 l0 3).toNat) 0 S20
          else none
  else
    some (0, S11)
theorem ja_X6_resolveMember_ok (zs : List Int32) : ∀ (l0 : Nat) (l1 : Int) (l2 : Int) (S : nk_S) (R : Int × nk_S), nk_cl ja_Tt l0 = some 6 → ja_X6_resolveMember l0 l1 l2 S = some R → nk_K ja_Tt mi_Γ (mi_ev zs) 1 382 0 [(0, nk_r l0), (1, nk_i l1), (2, nk_i l2)] [] S R := by
  intro l0 l1 l2 S R t_l0 hr
  unfold ja_X6_resolveMember at hr
  refine nk_p (i := .aload_n 0) (len := 1) (pc' := 1) mJ_382 (by decide +kernel) (ns_aload_n 0 rfl rfl) rfl ?_
  refine nk_getC (f := (2, 10, 0)) (x := 9) (len := 3) (ci := 6) (k := 0) (pc' := 4) ja_okT mJ_382 (by decide +kernel) (by decide +kernel) (by decide +kernel) (by decide) t_l0 rfl ?_
  have t1 : nk_cl ja_Tt (ja_c l0 0) = some 10 := nk_tc (y := 0) ja_okT t_l0 (by decide +kernel)
  refine nk_p (i := .iload_n 1) (len := 1) (pc' := 5) mJ_382 (by decide +kernel) (ns_iload_n 1 rfl rfl) rfl ?_
  obtain ⟨r2, S3, h4, hr⟩ := nk_bde hr
  refine nk_callV (ci := 10) (n := 1) (x := 194) (len := 3) (j' := 46) (q' := 1) (r := r2) (S' := S3) (L2 := [(0, nk_r (ja_c l0 0)), (1, nk_i l1)]) (rest := []) (st' := [nk_i r2]) (pc' := 8) mJ_382 (by decide +kernel) (by decide +kernel) rfl rfl t1 (Nat.le_of_ble_eq_true rfl) mJ_46 (Nat.le_of_ble_eq_true rfl) rfl (ja_X10_secondOf_ok zs _ _ _ _ t1 h4) rfl ?_
  refine nk_p (i := .istore_n 3) (len := 1) (pc' := 9) mJ_382 (by decide +kernel) (ns_istore_n (L' := [(3, nk_i r2), (0, nk_r l0), (1, nk_i l1), (2, nk_i l2)]) rfl rfl rfl (by decide +kernel)) rfl ?_
  refine nk_p (i := .aload_n 0) (len := 1) (pc' := 10) mJ_382 (by decide +kernel) (ns_aload_n 1 rfl rfl) rfl ?_
  refine nk_p (i := .aload_n 0) (len := 1) (pc' := 11) mJ_382 (by decide +kernel) (ns_aload_n 1 rfl rfl) rfl ?_
  refine nk_getC (f := (2, 10, 0)) (x := 9) (len := 3) (ci := 6) (k := 0) (pc' := 14) ja_okT mJ_382 (by decide +kernel) (by decide +kernel) (by decide +kernel) (by decide) t_l0 rfl ?_
  refine nk_p (i := .aload_n 0) (len := 1) (pc' := 15) mJ_382 (by decide +kernel) (ns_aload_n 1 rfl rfl) rfl ?_
  refine nk_getC (f := (2, 10, 0)) (x := 9) (len := 3) (ci := 6) (k := 0) (pc' := 18) ja_okT mJ_382 (by decide +kernel) (by decide +kernel) (by decide +kernel) (by decide) t_l0 rfl ?_
  refine nk_p (i := .iload_n 1) (len := 1) (pc' := 19) mJ_382 (by decide +kernel) (ns_iload_n 2 rfl rfl) rfl ?_
  obtain ⟨r5, S6, h7, hr⟩ := nk_bde hr
  refine nk_callV (ci := 10) (n := 1) (x := 101) (len := 3) (j' := 35) (q' := 1) (r := r5) (S' := S6) (L2 := [(0, nk_r (ja_c l0 0)), (1, nk_i l1)]) (rest := [nk_r (ja_c l0 0), nk_r l0]) (st' := [nk_i r5, nk_r (ja_c l0 0), nk_r l0]) (pc' := 22) mJ_382 (by decide +kernel) (by decide +kernel) rfl rfl t1 (Nat.le_of_ble_eq_true rfl) mJ_35 (Nat.le_of_ble_eq_true rfl) rfl (ja_X10_firstOf_ok zs _ _ _ _ t1 h7) rfl ?_
  obtain ⟨r8, S9, h10, hr⟩ := nk_bde hr
  refine nk_callV (ci := 10) (n := 1) (x := 101) (len := 3) (j' := 35) (q' := 1) (r := r8) (S' := S9) (L2 := [(0, nk_r (ja_c l0 0)), (1, nk_i r5)]) (rest := [nk_r l0]) (st' := [nk_i r8, nk_r l0]) (pc' := 25) mJ_382 (by decide +kernel) (by decide +kernel) rfl rfl t1 (Nat.le_of_ble_eq_true rfl) mJ_35 (Nat.le_of_ble_eq_true rfl) rfl (ja_X10_firstOf_ok zs _ _ _ _ t1 h10) rfl ?_
  obtain ⟨S11, h12, hr⟩ := nk_lte hr
  refine nk_putI (y := (0, 0)) (ty := .int) (x := 213) (len := 3) (ci := 6) (k := 4) (pc' := 28) ja_okT mJ_382 (by decide +kernel) (by decide +kernel) (by decide +kernel) t_l0 (Or.inl rfl) rfl h12 ?_
  refine nk_p (i := .aload_n 0) (len := 1) (pc' := 29) mJ_382 (by decide +kernel) (ns_aload_n 1 rfl rfl) rfl ?_
  refine nk_getI (y := (0, 0)) (x := 213) (len := 3) (ci := 6) (k := 4) (pc' := 32) ja_okT mJ_382 (by decide +kernel) (by decide +kernel) (by decide +kernel) t_l0 rfl ?_
  refine nk_icond (c := .ge) (off := 5) (len := 3) (t := 37) (pc' := 35) mJ_382 (by decide +kernel) (by decide +kernel) rfl (fun hc => ?_) (fun hc => ?_)
  · have hr := nk_ifp (c := 0 ≤ (S11.1 l0 4)) hc hr
    refine nk_p (i := .iload_n 2) (len := 1) (pc' := 38) mJ_382 (by decide +kernel) (ns_iload_n 3 rfl rfl) rfl ?_
    refine nk_p (i := .bipush 35) (len := 2) (pc' := 40) mJ_382 (by decide +kernel) (ns_bipush (c := 35) (by decide +kernel)) rfl ?_
    refine nk_icmp (c := .eq) (off := 9) (len := 3) (t := 49) (pc' := 43) mJ_382 (by decide +kernel) (by decide +kernel) rfl (fun hc => ?_) (fun hc => ?_)
    · have hr := nk_ifp (c := l2 = 35) hc hr
      refine nk_sub [1, 0] (L' := [(0, nk_r l0), (3, nk_i r2)]) rfl ?_
      exact ja_X6_resolveMember_b49_ok zs _ _ _ _ t_l0 hr
    · have hr := nk_ifn (c := l2 = 35) hc hr
      refine nk_p (i := .iload_n 2) (len := 1) (pc' := 44) mJ_382 (by decide +kernel) (ns_iload_n 3 rfl rfl) rfl ?_
      refine nk_p (i := .bipush 36) (len := 2) (pc' := 46) mJ_382 (by decide +kernel) (ns_bipush (c := 36) (by decide +kernel)) rfl ?_
      refine nk_icmp (c := .ne) (off := 35) (len := 3) (t := 81) (pc' := 49) mJ_382 (by decide +kernel) (by decide +kernel) rfl (fun hc => ?_) (fun hc => ?_)
      · have hr := nk_ifn (c := l2 = 36) hc hr
        refine nk_p (i := .aload_n 0) (len := 1) (pc' := 82) mJ_382 (by decide +kernel) (ns_aload_n 1 rfl rfl) rfl ?_
        refine nk_p (i := .aload_n 0) (len := 1) (pc' := 83) mJ_382 (by decide +kernel) (ns_aload_n 1 rfl rfl) rfl ?_
        refine nk_getM (cj := 3) (z := 0) (x := 15) (len := 3) (ci := 6) (k := 1) (pc' := 86) ja_okT mJ_382 (by decide +kernel) (by decide +kernel) (by decide +kernel) t_l0 rfl (fun t13 => ?_)
        refine nk_getC (f := (2, 0, 0)) (x := 81) (len := 3) (ci := 3) (k := 1) (pc' := 89) ja_okT mJ_382 (by decide +kernel) (by decide +kernel) (by decide +kernel) (by decide) t13 rfl ?_
        have t14 : nk_cl ja_Tt (ja_c (S11.2 l0 1) 1) = some 0 := nk_tc (y := 0) ja_okT t13 (by decide +kernel)
        refine nk_p (i := .aload_n 0) (len := 1) (pc' := 90) mJ_382 (by decide +kernel) (ns_aload_n 1 rfl rfl) rfl ?_
        refine nk_getM (cj := 3) (z := 0) (x := 15) (len := 3) (ci := 6) (k := 1) (pc' := 93) ja_okT mJ_382 (by decide +kernel) (by decide +kernel) (by decide +kernel) t_l0 rfl (fun t15 => ?_)
        refine nk_getC (f := (2, 1, 0)) (x := 93) (len := 3) (ci := 3) (k := 0) (pc' := 96) ja_okT mJ_382 (by decide +kernel) (by decide +kernel) (by decide +kernel) (by decide) t15 rfl ?_
        have t16 : nk_cl ja_Tt (ja_c (S11.2 l0 1) 0) = some 1 := nk_tc (y := 0) ja_okT t15 (by decide +kernel)
        refine nk_p (i := .aload_n 0) (len := 1) (pc' := 97) mJ_382 (by decide +kernel) (ns_aload_n 1 rfl rfl) rfl ?_
        refine nk_getI (y := (0, 0)) (x := 213) (len := 3) (ci := 6) (k := 4) (pc' := 100) ja_okT mJ_382 (by decide +kernel) (by decide +kernel) (by decide +kernel) t_l0 rfl ?_
        refine nk_p (i := .iload_n 3) (len := 1) (pc' := 101) mJ_382 (by decide +kernel) (ns_iload_n 0 rfl rfl) rfl ?_
        obtain ⟨r17, S18, h19, hr⟩ := nk_bde hr
        refine nk_callV (ci := 0) (n := 3) (x := 150) (len := 3) (j' := 27) (q' := 1) (r := r17) (S' := S18) (L2 := [(0, nk_r (ja_c (S11.2 l0 1) 1)), (1, nk_r (ja_c (S11.2 l0 1) 0)), (2, nk_i (S11.1 l0 4)), (3, nk_i r2)]) (rest := [nk_r l0]) (st' := [nk_i r17, nk_r l0]) (pc' := 104) mJ_382 (by decide +kernel) (by decide +kernel) rfl rfl t14 (Nat.le_of_ble_eq_true rfl) mJ_27 (Nat.le_of_ble_eq_true rfl) rfl (ja_X0_nearest_ok zs _ _ _ _ _ _ t14 t16 h19) rfl ?_
        obtain ⟨S20, h21, hr⟩ := nk_lte hr
        refine nk_putI (y := (0, 0)) (ty := .int) (x := 210) (len := 3) (ci := 6) (k := 3) (pc' := 107) ja_okT mJ_382 (by decide +kernel) (by decide +kernel) (by decide +kernel) t_l0 (Or.inl rfl) rfl h21 ?_
        refine nk_p (i := .aload_n 0) (len := 1) (pc' := 108) mJ_382 (by decide +kernel) (ns_aload_n 1 rfl rfl) rfl ?_
        refine nk_getI (y := (0, 0)) (x := 210) (len := 3) (ci := 6) (k := 3) (pc' := 111) ja_okT mJ_382 (by decide +kernel) (by decide +kernel) (by decide +kernel) t_l0 rfl ?_
        refine nk_icond (c := .lt) (off := 36) (len := 3) (t := 147) (pc' := 114) mJ_382 (by decide +kernel) (by decide +kernel) rfl (fun hc => ?_) (fun hc => ?_)
        · have hr := nk_ifp (c := (S20.1 l0 3) < 0) hc hr
          refine nk_p (i := .iconst 0) (len := 1) (pc' := 148) mJ_382 (by decide +kernel) (ns_iconst (c := 0) (by decide +kernel)) rfl ?_
          cases hr
          exact nk_iret (ty := .boolean) (len := 1) mJ_382 (by decide +kernel) rfl (nk_nar_z (by decide))
        · have hr := nk_ifn (c := (S20.1 l0 3) < 0) hc hr
          refine nk_p (i := .aload_n 0) (len := 1) (pc' := 115) mJ_382 (by decide +kernel) (ns_aload_n 1 rfl rfl) rfl ?_
          refine nk_getM (cj := 3) (z := 0) (x := 15) (len := 3) (ci := 6) (k := 1) (pc' := 118) ja_okT mJ_382 (by decide +kernel) (by decide +kernel) (by decide +kernel) t_l0 rfl (fun t22 => ?_)
          refine nk_getC (f := (2, 0, 0)) (x := 81) (len := 3) (ci := 3) (k := 1) (pc' := 121) ja_okT mJ_382 (by decide +kernel) (by decide +kernel) (by decide +kernel) (by decide) t22 rfl ?_
          have t23 : nk_cl ja_Tt (ja_c (S20.2 l0 1) 1) = some 0 := nk_tc (y := 0) ja_okT t22 (by decide +kernel)
          refine nk_getC (f := (4, 3, 48)) (x := 232) (len := 3) (ci := 0) (k := 4) (pc' := 124) ja_okT mJ_382 (by decide +kernel) (by decide +kernel) (by decide +kernel) (by decide) t23 rfl ?_
          have t24 : nk_ar ja_Tt (ja_c (ja_c (S20.2 l0 1) 1) 4) = some (3, 48) := nk_ta ja_okT t23 (by decide +kernel)
          refine nk_p (i := .aload_n 0) (len := 1) (pc' := 125) mJ_382 (by decide +kernel) (ns_aload_n 1 rfl rfl) rfl ?_
          refine nk_getI (y := (0, 0)) (x := 210) (len := 3) (ci := 6) (k := 3) (pc' := 128) ja_okT mJ_382 (by decide +kernel) (by decide +kernel) (by decide +kernel) t_l0 rfl ?_
          obtain ⟨h25, hr⟩ := nk_cke hr
          refine nk_bald (t := 3) (len := 1) (N := 48) (pc' := 129) mJ_382 (by decide +kernel) t24 (by decide) h25.1 h25.2 rfl rfl ?_
          refine nk_p (i := .iload_n 2) (len := 1) (pc' := 130) mJ_382 (by decide +kernel) (ns_iload_n 3 rfl rfl) rfl ?_
          refine nk_p (i := .bipush 40) (len := 2) (pc' := 132) mJ_382 (by decide +kernel) (ns_bipush (c := 40) (by decide +kernel)) rfl ?_
          refine nk_icmp (c := .ne) (off := 7) (len := 3) (t := 139) (pc' := 135) mJ_382 (by decide +kernel) (by decide +kernel) rfl (fun hc => ?_) (fun hc => ?_)
          · have hr := nk_ifn (c := l2 = 40) hc hr
            refine nk_p (i := .iconst 0) (len := 1) (pc' := 140) mJ_382 (by decide +kernel) (ns_iconst (c := 0) (by decide +kernel)) rfl ?_
            refine nk_sub [] (L' := []) rfl ?_
            exact ja_X6_resolveMember_b140_ok zs _ _ _ _ hr
          · have hr := nk_ifp (c := l2 = 40) (Decidable.of_not_not hc) hr
            refine nk_p (i := .iconst 1) (len := 1) (pc' := 136) mJ_382 (by decide +kernel) (ns_iconst (c := 1) (by decide +kernel)) rfl ?_
            refine nk_p (i := .goto 4) (len := 3) (pc' := 140) mJ_382 (by decide +kernel) (ns_goto (by decide +kernel)) rfl ?_
            refine nk_sub [] (L' := []) rfl ?_
            exact ja_X6_resolveMember_b140_ok zs _ _ _ _ hr
      · have hr := nk_ifp (c := l2 = 36) (Decidable.of_not_not hc) hr
        refine nk_sub [1, 0] (L' := [(0, nk_r l0), (3, nk_i r2)]) rfl ?_
        exact ja_X6_resolveMember_b49_ok zs _ _ _ _ t_l0 hr
  · have hr := nk_ifn (c := 0 ≤ (S11.1 l0 4)) hc hr
    refine nk_p (i := .iconst 0) (len := 1) (pc' := 36) mJ_382 (by decide +kernel) (ns_iconst (c := 0) (by decide +kernel)) rfl ?_
    cases hr
    exact nk_iret (ty := .boolean) (len := 1) mJ_382 (by decide +kernel) rfl (nk_nar_z (by decide))
/-! SafeCode$Reader resolveOperands (III)Z -/
noncomputable def ja_X6_resolveOperands_b254 (l0 : Nat) (l4 : Int) (S : nk_S) : Option (Int × nk_S) :=
  nk_bd (ja_X10_typeOf (ja_c l0 0) l4 S) fun r2 S3 =>
  nk_lt (nk_wi S3 l0 3 r2) fun S5 =>
  if (S5.1 l0 3) = (-2) then
    some (0, S5)
  else
    some (1, S5)
theorem ja_X6_resolveOperands_b254_ok (zs : List Int32) : ∀ (l0 : Nat) (l4 : Int) (S : nk_S) (R : Int × nk_S), nk_cl ja_Tt l0 = some 6 → ja_X6_resolveOperands_b254 l0 l4 S = some R → nk_K ja_Tt mi_Γ (mi_ev zs) 1 384 254 [(0, nk_r l0), (4, nk_i l4)] [] S R := by
  intro l0 l4 S R t_l0 hr
  unfold ja_X6_resolveOperands_b254 at hr
  refine nk_p (i := .aload_n 0) (len := 1) (pc' := 255) mJ_384 (by decide +kernel) (ns_aload_n 0 rfl rfl) rfl ?_
  refine nk_p (i := .aload_n 0) (len := 1) (pc' := 256) mJ_384 (by decide +kernel) (ns_aload_n 0 rfl rfl) rfl ?_
  refine nk_getC (f := (2, 10, 0)) (x := 9) (len := 3) (ci := 6) (k := 0) (pc' := 259) ja_okT mJ_384 (by decide +kernel) (by decide +kernel) (by decide +kernel) (by decide) t_l0 rfl ?_
  have t1 : nk_cl ja_Tt (ja_c l0 0) = some 10 := nk_tc (y := 0) ja_okT t_l0 (by decide +kernel)
  refine nk_p (i := .iload 4) (len := 2) (pc' := 261) mJ_384 (by decide +kernel) (ns_iload 1 rfl) rfl ?_
  obtain ⟨r2, S3, h4, hr⟩ := nk_bde hr
  refine nk_callV (ci := 10) (n := 1) (x := 127) (len := 3) (j' := 51) (q' := 1) (r := r2) (S' := S3) (L2 := [(0, nk_r (ja_c l0 0)), (1, nk_i l4)]) (rest := [nk_r l0]) (st' := [nk_i r2, nk_r l0]) (pc' := 264) mJ_384 (by decide +kernel) (by decide +kernel) rfl rfl t1 (Nat.le_of_ble_eq_true rfl) mJ_51 (Nat.le_of_ble_eq_true rfl) rfl (ja_X10_typeOf_ok zs _ _ _ _ t1 h4) rfl ?_
  obtain ⟨S5, h6, hr⟩ := nk_lte hr
  refine nk_putI (y := (0, 0)) (ty := .int) (x := 210) (len := 3) (ci := 6) (k := 3) (pc' := 267) ja_okT mJ_384 (by decide +kernel) (by decide +kernel) (by decide +kernel) t_l0 (Or.inl rfl) rfl h6 ?_
  refine nk_p (i := .aload_n 0) (len := 1) (pc' := 268) mJ_384 (by decide +kernel) (ns_aload_n 0 rfl rfl) rfl ?_
  refine nk_getI (y := (0, 0)) (x := 210) (len := 3) (ci := 6) (k := 3) (pc' := 271) ja_okT mJ_384 (by decide +kernel) (by decide +kernel) (by decide +kernel) t_l0 rfl ?_
  refine nk_p (i := .bipush (-2)) (len := 2) (pc' := 273) mJ_384 (by decide +kernel) (ns_bipush (c := (-2)) (by decide +kernel)) rfl ?_
  refine nk_icmp (c := .eq) (off := 7) (len := 3) (t := 280) (pc' := 276) mJ_384 (by decide +kernel) (by decide +kernel) rfl (fun hc => ?_) (fun hc => ?_)
  · have hr := nk_ifp (c := (S5.1 l0 3) = (-2)) hc hr
    refine nk_p (i := .iconst 0) (len := 1) (pc' := 281) mJ_384 (by decide +kernel) (ns_iconst (c := 0) (by decide +kernel)) rfl ?_
    cases hr
    exact nk_iret (ty := .boolean) (len := 1) mJ_384 (by decide +kernel) rfl (nk_nar_z (by decide))
  · have hr := nk_ifn (c := (S5.1 l0 3) = (-2)) hc hr
    refine nk_p (i := .iconst 1) (len := 1) (pc' := 277) mJ_384 (by decide +kernel) (ns_iconst (c := 1) (by decide +kernel)) rfl ?_
    refine nk_p (i := .goto 4) (len := 3) (pc' := 281) mJ_384 (by decide +kernel) (ns_goto (by decide +kernel)) rfl ?_
    cases hr
    exact nk_iret (ty := .boolean) (len := 1) mJ_384 (by decide +kernel) rfl (nk_nar_z (by decide))
noncomputable def ja_X6_resolveOperands (l0 : Nat) (l1 : Int) (l2 : Int) (l3 : Int) (S : nk_S) : Option (Int × nk_S) :=
  nk_bd (ja_X10_at (ja_c l0 0) l2 S) fun r2 S3 =>
  if 0 ≤ l3 ∧ l3 < 46 then
  nk_lt (((ja_ob 45).getD l3.toNat 0).toInt) fun v6 =>
  if v6 = 1 then
    nk_bd (ja_X10_firstOf (ja_c l0 0) r2 S3) fun r8 S9 =>
    nk_lt (nk_wi S9 l0 3 r8) fun S11 =>
    some (1, S11)
  else
  if v6 = 2 then
    nk_bd (ja_X10_firstOf (ja_c l0 0) r2 S3) fun r13 S14 =>
    nk_lt (nk_wi S14 l0 3 r13) fun S16 =>
    if (S16.1 l0 3) < 0 then
      some (0, S16)
    else
      if 0 ≤ l1 ∧ l1 < 48 then
      if (S16.1 (ja_c (ja_c (S16.2 l0 1) 1) 8) l1.toNat) ≤ (S16.1 l0 3) then
        some (0, S16)
      else
        some (1, S16)
      else none
  else
  if v6 = 3 then
    nk_bd (ja_X10_at (ja_c l0 0) (nk_w (l2 + 1)) S3) fun r22 S23 =>
    nk_bd (ja_X10_firstOf (ja_c l0 0) r22 S23) fun r25 S26 =>
    nk_lt (nk_wi S26 l0 4 r25) fun S28 =>
    nk_bd (ja_X10_firstOf (ja_c l0 0) r2 S28) fun r30 S31 =>
    nk_lt (nk_wi S31 l0 3 r30) fun S33 =>
    if (S33.1 l0 3) < 0 then
      some (0, S33)
    else
      if 0 ≤ l1 ∧ l1 < 48 then
      if (S33.1 (ja_c (ja_c (S33.2 l0 1) 1) 8) l1.toNat) ≤ (S33.1 l0 3) then
        some (0, S33)
      else
        some (1, S33)
      else none
  else
  if v6 = 4 then
    nk_bd (ja_X6_labelAt l0 l1 l2 S3) fun r39 S40 =>
    nk_lt (nk_wi S40 l0 3 r39) fun S42 =>
    if (S42.1 l0 3) < 0 then
      some (0, S42)
    else
      if 0 ≤ l1 ∧ l1 < 48 then
      if (S42.1 (ja_c (ja_c (S42.2 l0 1) 1) 11) l1.toNat) ≤ (S42.1 l0 3) then
        some (0, S42)
      else
        some (1, S42)
      else none
  else
  if v6 = 5 then
    nk_bd (ja_X10_firstOf (ja_c l0 0) r2 S3) fun r48 S49 =>
    nk_lt (nk_wi S49 l0 3 r48) fun S51 =>
    if (S51.1 l0 3) < 0 then
      some (0, S51)
    else
      some (1, S51)
  else
  if v6 = 6 then
    ja_X6_resolveOperands_b254 l0 r2 S3
  else
  if v6 = 7 then
    ja_X6_resolveOperands_b254 l0 r2 S3
  else
  if v6 = 8 then
    nk_bd (ja_X6_resolveMember l0 r2 l3 S3) fun r53 S54 =>
    if r53 = 0 ∨ r53 = 1 then
    some (r53, S54)
    else none
  else
  some (1, S3)
  else none
theorem ja_X6_resolveOperands_ok (zs : List Int32) : ∀ (l0 : Nat) (l1 : Int) (l2 : Int) (l3 : Int) (S : nk_S) (R : Int × nk_S), nk_cl ja_Tt l0 = some 6 → ja_X6_resolveOperands l0 l1 l2 l3 S = some R → nk_K ja_Tt mi_Γ (mi_ev zs) 1 384 0 [(0, nk_r l0), (1, nk_i l1), (2, nk_i l2), (3, nk_i l3)] [] S R := by
  intro l0 l1 l2 l3 S R t_l0 hr
  unfold ja_X6_resolveOperands at hr
  refine nk_p (i := .aload_n 0) (len := 1) (pc' := 1) mJ_384 (by decide +kernel) (ns_aload_n 0 rfl rfl) rfl ?_
  refine nk_getC (f := (2, 10, 0)) (x := 9) (len := 3) (ci := 6) (k := 0) (pc' := 4) ja_okT mJ_384 (by decide +kernel) (by decide +kernel) (by decide +kernel) (by decide) t_l0 rfl ?_
  have t1 : nk_cl ja_Tt (ja_c l0 0) = some 10 := nk_tc (y := 0) ja_okT t_l0 (by decide +kernel)
  refine nk_p (i := .iload_n 2) (len := 1) (pc' := 5) mJ_384 (by decide +kernel) (ns_iload_n 2 rfl rfl) rfl ?_
  obtain ⟨r2, S3, h4, hr⟩ := nk_bde hr
  refine nk_callV (ci := 10) (n := 1) (x := 39) (len := 3) (j' := 32) (q' := 1) (r := r2) (S' := S3) (L2 := [(0, nk_r (ja_c l0 0)), (1, nk_i l2)]) (rest := []) (st' := [nk_i r2]) (pc' := 8) mJ_384 (by decide +kernel) (by decide +kernel) rfl rfl t1 (Nat.le_of_ble_eq_true rfl) mJ_32 (Nat.le_of_ble_eq_true rfl) rfl (ja_X10_at_ok zs _ _ _ _ t1 h4) rfl ?_
  refine nk_p (i := .istore 4) (len := 2) (pc' := 10) mJ_384 (by decide +kernel) (ns_istore (L' := [(4, nk_i r2), (0, nk_r l0), (1, nk_i l1), (2, nk_i l2), (3, nk_i l3)]) rfl rfl (by decide +kernel)) rfl ?_
  refine nk_gsto (x := 62) (len := 3) (pc' := 13) (s1 := "SafeCode") (s2 := "OPERANDS") (s3 := "[I") (k := 45) mJ_384 (by decide +kernel) (by decide +kernel) rfl ?_
  refine nk_p (i := .iload_n 3) (len := 1) (pc' := 14) mJ_384 (by decide +kernel) (ns_iload_n 4 rfl rfl) rfl ?_
  obtain ⟨h5, hr⟩ := nk_cke hr
  refine nk_oiald (len := 1) (xs := ja_ob 45) (N := 46) (pc' := 15) mJ_384 (by decide +kernel) rfl h5.1 h5.2 rfl rfl ?_
  obtain ⟨v6, h7, hr⟩ := nk_lte hr
  rw [← h7]
  by_cases hc0 : v6 = 1
  · have hr := nk_ifp hc0 hr
    refine nk_p (i := .tableswitch 275 1 8 #[45, 126, 60, 171, 213, 239, 239, 267]) (len := 45) (pc' := 60) mJ_384 (by decide +kernel) (ns_tsw (V := 1) hc0 (by decide +kernel)) rfl ?_
    refine nk_p (i := .aload_n 0) (len := 1) (pc' := 61) mJ_384 (by decide +kernel) (ns_aload_n 1 rfl rfl) rfl ?_
    refine nk_p (i := .aload_n 0) (len := 1) (pc' := 62) mJ_384 (by decide +kernel) (ns_aload_n 1 rfl rfl) rfl ?_
    refine nk_getC (f := (2, 10, 0)) (x := 9) (len := 3) (ci := 6) (k := 0) (pc' := 65) ja_okT mJ_384 (by decide +kernel) (by decide +kernel) (by decide +kernel) (by decide) t_l0 rfl ?_
    refine nk_p (i := .iload 4) (len := 2) (pc' := 67) mJ_384 (by decide +kernel) (ns_iload 0 rfl) rfl ?_
    obtain ⟨r8, S9, h10, hr⟩ := nk_bde hr
    refine nk_callV (ci := 10) (n := 1) (x := 101) (len := 3) (j' := 35) (q' := 1) (r := r8) (S' := S9) (L2 := [(0, nk_r (ja_c l0 0)), (1, nk_i r2)]) (rest := [nk_r l0]) (st' := [nk_i r8, nk_r l0]) (pc' := 70) mJ_384 (by decide +kernel) (by decide +kernel) rfl rfl t1 (Nat.le_of_ble_eq_true rfl) mJ_35 (Nat.le_of_ble_eq_true rfl) rfl (ja_X10_firstOf_ok zs _ _ _ _ t1 h10) rfl ?_
    obtain ⟨S11, h12, hr⟩ := nk_lte hr
    refine nk_putI (y := (0, 0)) (ty := .int) (x := 210) (len := 3) (ci := 6) (k := 3) (pc' := 73) ja_okT mJ_384 (by decide +kernel) (by decide +kernel) (by decide +kernel) t_l0 (Or.inl rfl) rfl h12 ?_
    refine nk_p (i := .iconst 1) (len := 1) (pc' := 74) mJ_384 (by decide +kernel) (ns_iconst (c := 1) (by decide +kernel)) rfl ?_
    cases hr
    exact nk_iret (ty := .boolean) (len := 1) mJ_384 (by decide +kernel) rfl (nk_nar_z (by decide))
  have hr := nk_ifn hc0 hr
  by_cases hc1 : v6 = 2
  · have hr := nk_ifp hc1 hr
    refine nk_p (i := .tableswitch 275 1 8 #[45, 126, 60, 171, 213, 239, 239, 267]) (len := 45) (pc' := 141) mJ_384 (by decide +kernel) (ns_tsw (V := 2) hc1 (by decide +kernel)) rfl ?_
    refine nk_p (i := .aload_n 0) (len := 1) (pc' := 142) mJ_384 (by decide +kernel) (ns_aload_n 1 rfl rfl) rfl ?_
    refine nk_p (i := .aload_n 0) (len := 1) (pc' := 143) mJ_384 (by decide +kernel) (ns_aload_n 1 rfl rfl) rfl ?_
    refine nk_getC (f := (2, 10, 0)) (x := 9) (len := 3) (ci := 6) (k := 0) (pc' := 146) ja_okT mJ_384 (by decide +kernel) (by decide +kernel) (by decide +kernel) (by decide) t_l0 rfl ?_
    refine nk_p (i := .iload 4) (len := 2) (pc' := 148) mJ_384 (by decide +kernel) (ns_iload 0 rfl) rfl ?_
    obtain ⟨r13, S14, h15, hr⟩ := nk_bde hr
    refine nk_callV (ci := 10) (n := 1) (x := 101) (len := 3) (j' := 35) (q' := 1) (r := r13) (S' := S14) (L2 := [(0, nk_r (ja_c l0 0)), (1, nk_i r2)]) (rest := [nk_r l0]) (st' := [nk_i r13, nk_r l0]) (pc' := 151) mJ_384 (by decide +kernel) (by decide +kernel) rfl rfl t1 (Nat.le_of_ble_eq_true rfl) mJ_35 (Nat.le_of_ble_eq_true rfl) rfl (ja_X10_firstOf_ok zs _ _ _ _ t1 h15) rfl ?_
    obtain ⟨S16, h17, hr⟩ := nk_lte hr
    refine nk_putI (y := (0, 0)) (ty := .int) (x := 210) (len := 3) (ci := 6) (k := 3) (pc' := 154) ja_okT mJ_384 (by decide +kernel) (by decide +kernel) (by decide +kernel) t_l0 (Or.inl rfl) rfl h17 ?_
    refine nk_p (i := .aload_n 0) (len := 1) (pc' := 155) mJ_384 (by decide +kernel) (ns_aload_n 1 rfl rfl) rfl ?_
    refine nk_getI (y := (0, 0)) (x := 210) (len := 3) (ci := 6) (k := 3) (pc' := 158) ja_okT mJ_384 (by decide +kernel) (by decide +kernel) (by decide +kernel) t_l0 rfl ?_
    refine nk_icond (c := .lt) (off := 26) (len := 3) (t := 184) (pc' := 161) mJ_384 (by decide +kernel) (by decide +kernel) rfl (fun hc => ?_) (fun hc => ?_)
    · have hr := nk_ifp (c := (S16.1 l0 3) < 0) hc hr
      refine nk_p (i := .iconst 0) (len := 1) (pc' := 185) mJ_384 (by decide +kernel) (ns_iconst (c := 0) (by decide +kernel)) rfl ?_
      cases hr
      exact nk_iret (ty := .boolean) (len := 1) mJ_384 (by decide +kernel) rfl (nk_nar_z (by decide))
    · have hr := nk_ifn (c := (S16.1 l0 3) < 0) hc hr
      refine nk_p (i := .aload_n 0) (len := 1) (pc' := 162) mJ_384 (by decide +kernel) (ns_aload_n 1 rfl rfl) rfl ?_
      refine nk_getI (y := (0, 0)) (x := 210) (len := 3) (ci := 6) (k := 3) (pc' := 165) ja_okT mJ_384 (by decide +kernel) (by decide +kernel) (by decide +kernel) t_l0 rfl ?_
      refine nk_p (i := .aload_n 0) (len := 1) (pc' := 166) mJ_384 (by decide +kernel) (ns_aload_n 1 rfl rfl) rfl ?_
      refine nk_getM (cj := 3) (z := 0) (x := 15) (len := 3) (ci := 6) (k := 1) (pc' := 169) ja_okT mJ_384 (by decide +kernel) (by decide +kernel) (by decide +kernel) t_l0 rfl (fun t18 => ?_)
      refine nk_getC (f := (2, 0, 0)) (x := 81) (len := 3) (ci := 3) (k := 1) (pc' := 172) ja_okT mJ_384 (by decide +kernel) (by decide +kernel) (by decide +kernel) (by decide) t18 rfl ?_
      have t19 : nk_cl ja_Tt (ja_c (S16.2 l0 1) 1) = some 0 := nk_tc (y := 0) ja_okT t18 (by decide +kernel)
      refine nk_getC (f := (4, 1, 48)) (x := 226) (len := 3) (ci := 0) (k := 8) (pc' := 175) ja_okT mJ_384 (by decide +kernel) (by decide +kernel) (by decide +kernel) (by decide) t19 rfl ?_
      have t20 : nk_ar ja_Tt (ja_c (ja_c (S16.2 l0 1) 1) 8) = some (1, 48) := nk_ta ja_okT t19 (by decide +kernel)
      refine nk_p (i := .iload_n 1) (len := 1) (pc' := 176) mJ_384 (by decide +kernel) (ns_iload_n 2 rfl rfl) rfl ?_
      obtain ⟨h21, hr⟩ := nk_cke hr
      refine nk_iald (len := 1) (N := 48) (pc' := 177) mJ_384 (by decide +kernel) t20 h21.1 h21.2 rfl rfl ?_
      refine nk_icmp (c := .ge) (off := 7) (len := 3) (t := 184) (pc' := 180) mJ_384 (by decide +kernel) (by decide +kernel) rfl (fun hc => ?_) (fun hc => ?_)
      · have hr := nk_ifp (c := (S16.1 (ja_c (ja_c (S16.2 l0 1) 1) 8) l1.toNat) ≤ (S16.1 l0 3)) hc hr
        refine nk_p (i := .iconst 0) (len := 1) (pc' := 185) mJ_384 (by decide +kernel) (ns_iconst (c := 0) (by decide +kernel)) rfl ?_
        cases hr
        exact nk_iret (ty := .boolean) (len := 1) mJ_384 (by decide +kernel) rfl (nk_nar_z (by decide))
      · have hr := nk_ifn (c := (S16.1 (ja_c (ja_c (S16.2 l0 1) 1) 8) l1.toNat) ≤ (S16.1 l0 3)) hc hr
        refine nk_p (i := .iconst 1) (len := 1) (pc' := 181) mJ_384 (by decide +kernel) (ns_iconst (c := 1) (by decide +kernel)) rfl ?_
        refine nk_p (i := .goto 4) (len := 3) (pc' := 185) mJ_384 (by decide +kernel) (ns_goto (by decide +kernel)) rfl ?_
        cases hr
        exact nk_iret (ty := .boolean) (len := 1) mJ_384 (by decide +kernel) rfl (nk_nar_z (by decide))
  have hr := nk_ifn hc1 hr
  by_cases hc2 : v6 = 3
  · have hr := nk_ifp hc2 hr
    refine nk_p (i := .tableswitch 275 1 8 #[45, 126, 60, 171, 213, 239, 239, 267]) (len := 45) (pc' := 75) mJ_384 (by decide +kernel) (ns_tsw (V := 3) hc2 (by decide +kernel)) rfl ?_
    refine nk_p (i := .aload_n 0) (len := 1) (pc' := 76) mJ_384 (by decide +kernel) (ns_aload_n 1 rfl rfl) rfl ?_
    refine nk_p (i := .aload_n 0) (len := 1) (pc' := 77) mJ_384 (by decide +kernel) (ns_aload_n 1 rfl rfl) rfl ?_
    refine nk_getC (f := (2, 10, 0)) (x := 9) (len := 3) (ci := 6) (k := 0) (pc' := 80) ja_okT mJ_384 (by decide +kernel) (by decide +kernel) (by decide +kernel) (by decide) t_l0 rfl ?_
    refine nk_p (i := .aload_n 0) (len := 1) (pc' := 81) mJ_384 (by decide +kernel) (ns_aload_n 1 rfl rfl) rfl ?_
    refine nk_getC (f := (2, 10, 0)) (x := 9) (len := 3) (ci := 6) (k := 0) (pc' := 84) ja_okT mJ_384 (by decide +kernel) (by decide +kernel) (by decide +kernel) (by decide) t_l0 rfl ?_
    refine nk_p (i := .iload_n 2) (len := 1) (pc' := 85) mJ_384 (by decide +kernel) (ns_iload_n 3 rfl rfl) rfl ?_
    refine nk_p (i := .iconst 1) (len := 1) (pc' := 86) mJ_384 (by decide +kernel) (ns_iconst (c := 1) (by decide +kernel)) rfl ?_
    refine nk_p (i := .iadd) (len := 1) (pc' := 87) mJ_384 (by decide +kernel) ns_iadd rfl ?_
    obtain ⟨r22, S23, h24, hr⟩ := nk_bde hr
    refine nk_callV (ci := 10) (n := 1) (x := 39) (len := 3) (j' := 32) (q' := 1) (r := r22) (S' := S23) (L2 := [(0, nk_r (ja_c l0 0)), (1, nk_i (nk_w (l2 + 1)))]) (rest := [nk_r (ja_c l0 0), nk_r l0]) (st' := [nk_i r22, nk_r (ja_c l0 0), nk_r l0]) (pc' := 90) mJ_384 (by decide +kernel) (by decide +kernel) rfl rfl t1 (Nat.le_of_ble_eq_true rfl) mJ_32 (Nat.le_of_ble_eq_true rfl) rfl (ja_X10_at_ok zs _ _ _ _ t1 h24) rfl ?_
    obtain ⟨r25, S26, h27, hr⟩ := nk_bde hr
    refine nk_callV (ci := 10) (n := 1) (x := 101) (len := 3) (j' := 35) (q' := 1) (r := r25) (S' := S26) (L2 := [(0, nk_r (ja_c l0 0)), (1, nk_i r22)]) (rest := [nk_r l0]) (st' := [nk_i r25, nk_r l0]) (pc' := 93) mJ_384 (by decide +kernel) (by decide +kernel) rfl rfl t1 (Nat.le_of_ble_eq_true rfl) mJ_35 (Nat.le_of_ble_eq_true rfl) rfl (ja_X10_firstOf_ok zs _ _ _ _ t1 h27) rfl ?_
    obtain ⟨S28, h29, hr⟩ := nk_lte hr
    refine nk_putI (y := (0, 0)) (ty := .int) (x := 213) (len := 3) (ci := 6) (k := 4) (pc' := 96) ja_okT mJ_384 (by decide +kernel) (by decide +kernel) (by decide +kernel) t_l0 (Or.inl rfl) rfl h29 ?_
    refine nk_p (i := .aload_n 0) (len := 1) (pc' := 97) mJ_384 (by decide +kernel) (ns_aload_n 1 rfl rfl) rfl ?_
    refine nk_p (i := .aload_n 0) (len := 1) (pc' := 98) mJ_384 (by decide +kernel) (ns_aload_n 1 rfl rfl) rfl ?_
    refine nk_getC (f := (2, 10, 0)) (x := 9) (len := 3) (ci := 6) (k := 0) (pc' := 101) ja_okT mJ_384 (by decide +kernel) (by decide +kernel) (by decide +kernel) (by decide) t_l0 rfl ?_
    refine nk_p (i := .iload 4) (len := 2) (pc' := 103) mJ_384 (by decide +kernel) (ns_iload 0 rfl) rfl ?_
    obtain ⟨r30, S31, h32, hr⟩ := nk_bde hr
    refine nk_callV (ci := 10) (n := 1) (x := 101) (len := 3) (j' := 35) (q' := 1) (r := r30) (S' := S31) (L2 := [(0, nk_r (ja_c l0 0)), (1, nk_i r2)]) (rest := [nk_r l0]) (st' := [nk_i r30, nk_r l0]) (pc' := 106) mJ_384 (by decide +kernel) (by decide +kernel) rfl rfl t1 (Nat.le_of_ble_eq_true rfl) mJ_35 (Nat.le_of_ble_eq_true rfl) rfl (ja_X10_firstOf_ok zs _ _ _ _ t1 h32) rfl ?_
    obtain ⟨S33, h34, hr⟩ := nk_lte hr
    refine nk_putI (y := (0, 0)) (ty := .int) (x := 210) (len := 3) (ci := 6) (k := 3) (pc' := 109) ja_okT mJ_384 (by decide +kernel) (by decide +kernel) (by decide +kernel) t_l0 (Or.inl rfl) rfl h34 ?_
    refine nk_p (i := .aload_n 0) (len := 1) (pc' := 110) mJ_384 (by decide +kernel) (ns_aload_n 1 rfl rfl) rfl ?_
    refine nk_getI (y := (0, 0)) (x := 210) (len := 3) (ci := 6) (k := 3) (pc' := 113) ja_okT mJ_384 (by decide +kernel) (by decide +kernel) (by decide +kernel) t_l0 rfl ?_
    refine nk_icond (c := .lt) (off := 26) (len := 3) (t := 139) (pc' := 116) mJ_384 (by decide +kernel) (by decide +kernel) rfl (fun hc => ?_) (fun hc => ?_)
    · have hr := nk_ifp (c := (S33.1 l0 3) < 0) hc hr
      refine nk_p (i := .iconst 0) (len := 1) (pc' := 140) mJ_384 (by decide +kernel) (ns_iconst (c := 0) (by decide +kernel)) rfl ?_
      cases hr
      exact nk_iret (ty := .boolean) (len := 1) mJ_384 (by decide +kernel) rfl (nk_nar_z (by decide))
    · have hr := nk_ifn (c := (S33.1 l0 3) < 0) hc hr
      refine nk_p (i := .aload_n 0) (len := 1) (pc' := 117) mJ_384 (by decide +kernel) (ns_aload_n 1 rfl rfl) rfl ?_
      refine nk_getI (y := (0, 0)) (x := 210) (len := 3) (ci := 6) (k := 3) (pc' := 120) ja_okT mJ_384 (by decide +kernel) (by decide +kernel) (by decide +kernel) t_l0 rfl ?_
      refine nk_p (i := .aload_n 0) (len := 1) (pc' := 121) mJ_384 (by decide +kernel) (ns_aload_n 1 rfl rfl) rfl ?_
      refine nk_getM (cj := 3) (z := 0) (x := 15) (len := 3) (ci := 6) (k := 1) (pc' := 124) ja_okT mJ_384 (by decide +kernel) (by decide +kernel) (by decide +kernel) t_l0 rfl (fun t35 => ?_)
      refine nk_getC (f := (2, 0, 0)) (x := 81) (len := 3) (ci := 3) (k := 1) (pc' := 127) ja_okT mJ_384 (by decide +kernel) (by decide +kernel) (by decide +kernel) (by decide) t35 rfl ?_
      have t36 : nk_cl ja_Tt (ja_c (S33.2 l0 1) 1) = some 0 := nk_tc (y := 0) ja_okT t35 (by decide +kernel)
      refine nk_getC (f := (4, 1, 48)) (x := 226) (len := 3) (ci := 0) (k := 8) (pc' := 130) ja_okT mJ_384 (by decide +kernel) (by decide +kernel) (by decide +kernel) (by decide) t36 rfl ?_
      have t37 : nk_ar ja_Tt (ja_c (ja_c (S33.2 l0 1) 1) 8) = some (1, 48) := nk_ta ja_okT t36 (by decide +kernel)
      refine nk_p (i := .iload_n 1) (len := 1) (pc' := 131) mJ_384 (by decide +kernel) (ns_iload_n 2 rfl rfl) rfl ?_
      obtain ⟨h38, hr⟩ := nk_cke hr
      refine nk_iald (len := 1) (N := 48) (pc' := 132) mJ_384 (by decide +kernel) t37 h38.1 h38.2 rfl rfl ?_
      refine nk_icmp (c := .ge) (off := 7) (len := 3) (t := 139) (pc' := 135) mJ_384 (by decide +kernel) (by decide +kernel) rfl (fun hc => ?_) (fun hc => ?_)
      · have hr := nk_ifp (c := (S33.1 (ja_c (ja_c (S33.2 l0 1) 1) 8) l1.toNat) ≤ (S33.1 l0 3)) hc hr
        refine nk_p (i := .iconst 0) (len := 1) (pc' := 140) mJ_384 (by decide +kernel) (ns_iconst (c := 0) (by decide +kernel)) rfl ?_
        cases hr
        exact nk_iret (ty := .boolean) (len := 1) mJ_384 (by decide +kernel) rfl (nk_nar_z (by decide))
      · have hr := nk_ifn (c := (S33.1 (ja_c (ja_c (S33.2 l0 1) 1) 8) l1.toNat) ≤ (S33.1 l0 3)) hc hr
        refine nk_p (i := .iconst 1) (len := 1) (pc' := 136) mJ_384 (by decide +kernel) (ns_iconst (c := 1) (by decide +kernel)) rfl ?_
        refine nk_p (i := .goto 4) (len := 3) (pc' := 140) mJ_384 (by decide +kernel) (ns_goto (by decide +kernel)) rfl ?_
        cases hr
        exact nk_iret (ty := .boolean) (len := 1) mJ_384 (by decide +kernel) rfl (nk_nar_z (by decide))
  have hr := nk_ifn hc2 hr
  by_cases hc3 : v6 = 4
  · have hr := nk_ifp hc3 hr
    refine nk_p (i := .tableswitch 275 1 8 #[45, 126, 60, 171, 213, 239, 239, 267]) (len := 45) (pc' := 186) mJ_384 (by decide +kernel) (ns_tsw (V := 4) hc3 (by decide +kernel)) rfl ?_
    refine nk_p (i := .aload_n 0) (len := 1) (pc' := 187) mJ_384 (by decide +kernel) (ns_aload_n 1 rfl rfl) rfl ?_
    refine nk_p (i := .aload_n 0) (len := 1) (pc' := 188) mJ_384 (by decide +kernel) (ns_aload_n 1 rfl rfl) rfl ?_
    refine nk_p (i := .iload_n 1) (len := 1) (pc' := 189) mJ_384 (by decide +kernel) (ns_iload_n 2 rfl rfl) rfl ?_
    refine nk_p (i := .iload_n 2) (len := 1) (pc' := 190) mJ_384 (by decide +kernel) (ns_iload_n 3 rfl rfl) rfl ?_
    obtain ⟨r39, S40, h41, hr⟩ := nk_bde hr
    refine nk_callV (ci := 6) (n := 2) (x := 197) (len := 3) (j' := 375) (q' := 1) (r := r39) (S' := S40) (L2 := [(0, nk_r l0), (1, nk_i l1), (2, nk_i l2)]) (rest := [nk_r l0]) (st' := [nk_i r39, nk_r l0]) (pc' := 193) mJ_384 (by decide +kernel) (by decide +kernel) rfl rfl t_l0 (Nat.le_of_ble_eq_true rfl) mJ_375 (Nat.le_of_ble_eq_true rfl) rfl (ja_X6_labelAt_ok zs _ _ _ _ _ t_l0 h41) rfl ?_
    obtain ⟨S42, h43, hr⟩ := nk_lte hr
    refine nk_putI (y := (0, 0)) (ty := .int) (x := 210) (len := 3) (ci := 6) (k := 3) (pc' := 196) ja_okT mJ_384 (by decide +kernel) (by decide +kernel) (by decide +kernel) t_l0 (Or.inl rfl) rfl h43 ?_
    refine nk_p (i := .aload_n 0) (len := 1) (pc' := 197) mJ_384 (by decide +kernel) (ns_aload_n 1 rfl rfl) rfl ?_
    refine nk_getI (y := (0, 0)) (x := 210) (len := 3) (ci := 6) (k := 3) (pc' := 200) ja_okT mJ_384 (by decide +kernel) (by decide +kernel) (by decide +kernel) t_l0 rfl ?_
    refine nk_icond (c := .lt) (off := 26) (len := 3) (t := 226) (pc' := 203) mJ_384 (by decide +kernel) (by decide +kernel) rfl (fun hc => ?_) (fun hc => ?_)
    · have hr := nk_ifp (c := (S42.1 l0 3) < 0) hc hr
      refine nk_p (i := .iconst 0) (len := 1) (pc' := 227) mJ_384 (by decide +kernel) (ns_iconst (c := 0) (by decide +kernel)) rfl ?_
      cases hr
      exact nk_iret (ty := .boolean) (len := 1) mJ_384 (by decide +kernel) rfl (nk_nar_z (by decide))
    · have hr := nk_ifn (c := (S42.1 l0 3) < 0) hc hr
      refine nk_p (i := .aload_n 0) (len := 1) (pc' := 204) mJ_384 (by decide +kernel) (ns_aload_n 1 rfl rfl) rfl ?_
      refine nk_getI (y := (0, 0)) (x := 210) (len := 3) (ci := 6) (k := 3) (pc' := 207) ja_okT mJ_384 (by decide +kernel) (by decide +kernel) (by decide +kernel) t_l0 rfl ?_
      refine nk_p (i := .aload_n 0) (len := 1) (pc' := 208) mJ_384 (by decide +kernel) (ns_aload_n 1 rfl rfl) rfl ?_
      refine nk_getM (cj := 3) (z := 0) (x := 15) (len := 3) (ci := 6) (k := 1) (pc' := 211) ja_okT mJ_384 (by decide +kernel) (by decide +kernel) (by decide +kernel) t_l0 rfl (fun t44 => ?_)
      refine nk_getC (f := (2, 0, 0)) (x := 81) (len := 3) (ci := 3) (k := 1) (pc' := 214) ja_okT mJ_384 (by decide +kernel) (by decide +kernel) (by decide +kernel) (by decide) t44 rfl ?_
      have t45 : nk_cl ja_Tt (ja_c (S42.2 l0 1) 1) = some 0 := nk_tc (y := 0) ja_okT t44 (by decide +kernel)
      refine nk_getC (f := (4, 1, 48)) (x := 173) (len := 3) (ci := 0) (k := 11) (pc' := 217) ja_okT mJ_384 (by decide +kernel) (by decide +kernel) (by decide +kernel) (by decide) t45 rfl ?_
      have t46 : nk_ar ja_Tt (ja_c (ja_c (S42.2 l0 1) 1) 11) = some (1, 48) := nk_ta ja_okT t45 (by decide +kernel)
      refine nk_p (i := .iload_n 1) (len := 1) (pc' := 218) mJ_384 (by decide +kernel) (ns_iload_n 2 rfl rfl) rfl ?_
      obtain ⟨h47, hr⟩ := nk_cke hr
      refine nk_iald (len := 1) (N := 48) (pc' := 219) mJ_384 (by decide +kernel) t46 h47.1 h47.2 rfl rfl ?_
      refine nk_icmp (c := .ge) (off := 7) (len := 3) (t := 226) (pc' := 222) mJ_384 (by decide +kernel) (by decide +kernel) rfl (fun hc => ?_) (fun hc => ?_)
      · have hr := nk_ifp (c := (S42.1 (ja_c (ja_c (S42.2 l0 1) 1) 11) l1.toNat) ≤ (S42.1 l0 3)) hc hr
        refine nk_p (i := .iconst 0) (len := 1) (pc' := 227) mJ_384 (by decide +kernel) (ns_iconst (c := 0) (by decide +kernel)) rfl ?_
        cases hr
        exact nk_iret (ty := .boolean) (len := 1) mJ_384 (by decide +kernel) rfl (nk_nar_z (by decide))
      · have hr := nk_ifn (c := (S42.1 (ja_c (ja_c (S42.2 l0 1) 1) 11) l1.toNat) ≤ (S42.1 l0 3)) hc hr
        refine nk_p (i := .iconst 1) (len := 1) (pc' := 223) mJ_384 (by decide +kernel) (ns_iconst (c := 1) (by decide +kernel)) rfl ?_
        refine nk_p (i := .goto 4) (len := 3) (pc' := 227) mJ_384 (by decide +kernel) (ns_goto (by decide +kernel)) rfl ?_
        cases hr
        exact nk_iret (ty := .boolean) (len := 1) mJ_384 (by decide +kernel) rfl (nk_nar_z (by decide))
  have hr := nk_ifn hc3 hr
  by_cases hc4 : v6 = 5
  · have hr := nk_ifp hc4 hr
    refine nk_p (i := .tableswitch 275 1 8 #[45, 126, 60, 171, 213, 239, 239, 267]) (len := 45) (pc' := 228) mJ_384 (by decide +kernel) (ns_tsw (V := 5) hc4 (by decide +kernel)) rfl ?_
    refine nk_p (i := .aload_n 0) (len := 1) (pc' := 229) mJ_384 (by decide +kernel) (ns_aload_n 1 rfl rfl) rfl ?_
    refine nk_p (i := .aload_n 0) (len := 1) (pc' := 230) mJ_384 (by decide +kernel) (ns_aload_n 1 rfl rfl) rfl ?_
    refine nk_getC (f := (2, 10, 0)) (x := 9) (len := 3) (ci := 6) (k := 0) (pc' := 233) ja_okT mJ_384 (by decide +kernel) (by decide +kernel) (by decide +kernel) (by decide) t_l0 rfl ?_
    refine nk_p (i := .iload 4) (len := 2) (pc' := 235) mJ_384 (by decide +kernel) (ns_iload 0 rfl) rfl ?_
    obtain ⟨r48, S49, h50, hr⟩ := nk_bde hr
    refine nk_callV (ci := 10) (n := 1) (x := 101) (len := 3) (j' := 35) (q' := 1) (r := r48) (S' := S49) (L2 := [(0, nk_r (ja_c l0 0)), (1, nk_i r2)]) (rest := [nk_r l0]) (st' := [nk_i r48, nk_r l0]) (pc' := 238) mJ_384 (by decide +kernel) (by decide +kernel) rfl rfl t1 (Nat.le_of_ble_eq_true rfl) mJ_35 (Nat.le_of_ble_eq_true rfl) rfl (ja_X10_firstOf_ok zs _ _ _ _ t1 h50) rfl ?_
    obtain ⟨S51, h52, hr⟩ := nk_lte hr
    refine nk_putI (y := (0, 0)) (ty := .int) (x := 210) (len := 3) (ci := 6) (k := 3) (pc' := 241) ja_okT mJ_384 (by decide +kernel) (by decide +kernel) (by decide +kernel) t_l0 (Or.inl rfl) rfl h52 ?_
    refine nk_p (i := .aload_n 0) (len := 1) (pc' := 242) mJ_384 (by decide +kernel) (ns_aload_n 1 rfl rfl) rfl ?_
    refine nk_getI (y := (0, 0)) (x := 210) (len := 3) (ci := 6) (k := 3) (pc' := 245) ja_okT mJ_384 (by decide +kernel) (by decide +kernel) (by decide +kernel) t_l0 rfl ?_
    refine nk_icond (c := .lt) (off := 7) (len := 3) (t := 252) (pc' := 248) mJ_384 (by decide +kernel) (by decide +kernel) rfl (fun hc => ?_) (fun hc => ?_)
    · have hr := nk_ifp (c := (S51.1 l0 3) < 0) hc hr
      refine nk_p (i := .iconst 0) (len := 1) (pc' := 253) mJ_384 (by decide +kernel) (ns_iconst (c := 0) (by decide +kernel)) rfl ?_
      cases hr
      exact nk_iret (ty := .boolean) (len := 1) mJ_384 (by decide +kernel) rfl (nk_nar_z (by decide))
    · have hr := nk_ifn (c := (S51.1 l0 3) < 0) hc hr
      refine nk_p (i := .iconst 1) (len := 1) (pc' := 249) mJ_384 (by decide +kernel) (ns_iconst (c := 1) (by decide +kernel)) rfl ?_
      refine nk_p (i := .goto 4) (len := 3) (pc' := 253) mJ_384 (by decide +kernel) (ns_goto (by decide +kernel)) rfl ?_
      cases hr
      exact nk_iret (ty := .boolean) (len := 1) mJ_384 (by decide +kernel) rfl (nk_nar_z (by decide))
  have hr := nk_ifn hc4 hr
  by_cases hc5 : v6 = 6
  · have hr := nk_ifp hc5 hr
    refine nk_p (i := .tableswitch 275 1 8 #[45, 126, 60, 171, 213, 239, 239, 267]) (len := 45) (pc' := 254) mJ_384 (by decide +kernel) (ns_tsw (V := 6) hc5 (by decide +kernel)) rfl ?_
    refine nk_sub [1, 0] (L' := [(0, nk_r l0), (4, nk_i r2)]) rfl ?_
    exact ja_X6_resolveOperands_b254_ok zs _ _ _ _ t_l0 hr
  have hr := nk_ifn hc5 hr
  by_cases hc6 : v6 = 7
  · have hr := nk_ifp hc6 hr
    refine nk_p (i := .tableswitch 275 1 8 #[45, 126, 60, 171, 213, 239, 239, 267]) (len := 45) (pc' := 254) mJ_384 (by decide +kernel) (ns_tsw (V := 7) hc6 (by decide +kernel)) rfl ?_
    refine nk_sub [1, 0] (L' := [(0, nk_r l0), (4, nk_i r2)]) rfl ?_
    exact ja_X6_resolveOperands_b254_ok zs _ _ _ _ t_l0 hr
  have hr := nk_ifn hc6 hr
  by_cases hc7 : v6 = 8
  · have hr := nk_ifp hc7 hr
    refine nk_p (i := .tableswitch 275 1 8 #[45, 126, 60, 171, 213, 239, 239, 267]) (len := 45) (pc' := 282) mJ_384 (by decide +kernel) (ns_tsw (V := 8) hc7 (by decide +kernel)) rfl ?_
    refine nk_p (i := .aload_n 0) (len := 1) (pc' := 283) mJ_384 (by decide +kernel) (ns_aload_n 1 rfl rfl) rfl ?_
    refine nk_p (i := .iload 4) (len := 2) (pc' := 285) mJ_384 (by decide +kernel) (ns_iload 0 rfl) rfl ?_
    refine nk_p (i := .iload_n 3) (len := 1) (pc' := 286) mJ_384 (by decide +kernel) (ns_iload_n 4 rfl rfl) rfl ?_
    obtain ⟨r53, S54, h55, hr⟩ := nk_bde hr
    refine nk_callV (ci := 6) (n := 2) (x := 229) (len := 3) (j' := 382) (q' := 1) (r := r53) (S' := S54) (L2 := [(0, nk_r l0), (1, nk_i r2), (2, nk_i l3)]) (rest := []) (st' := [nk_i r53]) (pc' := 289) mJ_384 (by decide +kernel) (by decide +kernel) rfl rfl t_l0 (Nat.le_of_ble_eq_true rfl) mJ_382 (Nat.le_of_ble_eq_true rfl) rfl (ja_X6_resolveMember_ok zs _ _ _ _ _ t_l0 h55) rfl ?_
    obtain ⟨h56, hr⟩ := nk_cke hr
    cases hr
    exact nk_iret (ty := .boolean) (len := 1) mJ_384 (by decide +kernel) rfl (nk_nar_z h56)
  have hr := nk_ifn hc7 hr
  refine nk_p (i := .tableswitch 275 1 8 #[45, 126, 60, 171, 213, 239, 239, 267]) (len := 45) (pc' := 290) mJ_384 (by decide +kernel) (ns_tsd (by omega) (by decide +kernel)) rfl ?_
  refine nk_p (i := .iconst 1) (len := 1) (pc' := 291) mJ_384 (by decide +kernel) (ns_iconst (c := 1) (by decide +kernel)) rfl ?_
  cases hr
  exact nk_iret (ty := .boolean) (len := 1) mJ_384 (by decide +kernel) rfl (nk_nar_z (by decide))
/-! SafeCode$Program addSite (I)I -/
noncomputable def ja_X3_addSite (l0 : Nat) (l1 : Int) (S : nk_S) : Option (Int × nk_S) :=
  if 0 ≤ (S.1 l0 10) ∧ (S.1 l0 10) < 54 then
  nk_lt (nk_wi S (ja_c l0 11) (S.1 l0 10).toNat l1) fun S3 =>
  nk_lt (nk_wi S3 l0 10 (nk_w ((S3.1 l0 10) + 1))) fun S5 =>
  some ((nk_w ((S5.1 l0 10) - 1)), S5)
  else none
theorem ja_X3_addSite_ok (zs : List Int32) : ∀ (l0 : Nat) (l1 : Int) (S : nk_S) (R : Int × nk_S), nk_cl ja_Tt l0 = some 3 → ja_X3_addSite l0 l1 S = some R → nk_K ja_Tt mi_Γ (mi_ev zs) 1 299 0 [(0, nk_r l0), (1, nk_i l1)] [] S R := by
  intro l0 l1 S R t_l0 hr
  unfold ja_X3_addSite at hr
  refine nk_p (i := .aload_n 0) (len := 1) (pc' := 1) mJ_299 (by decide +kernel) (ns_aload_n 0 rfl rfl) rfl ?_
  refine nk_getC (f := (4, 1, 54)) (x := 51) (len := 3) (ci := 3) (k := 11) (pc' := 4) ja_okT mJ_299 (by decide +kernel) (by decide +kernel) (by decide +kernel) (by decide) t_l0 rfl ?_
  have t1 : nk_ar ja_Tt (ja_c l0 11) = some (1, 54) := nk_ta ja_okT t_l0 (by decide +kernel)
  refine nk_p (i := .aload_n 0) (len := 1) (pc' := 5) mJ_299 (by decide +kernel) (ns_aload_n 0 rfl rfl) rfl ?_
  refine nk_getI (y := (0, 0)) (x := 75) (len := 3) (ci := 3) (k := 10) (pc' := 8) ja_okT mJ_299 (by decide +kernel) (by decide +kernel) (by decide +kernel) t_l0 rfl ?_
  refine nk_p (i := .iload_n 1) (len := 1) (pc' := 9) mJ_299 (by decide +kernel) (ns_iload_n 1 rfl rfl) rfl ?_
  obtain ⟨h2, hr⟩ := nk_cke hr
  obtain ⟨S3, h4, hr⟩ := nk_lte hr
  refine nk_iast (len := 1) (N := 54) (pc' := 10) mJ_299 (by decide +kernel) t1 h2.1 h2.2 rfl rfl h4 ?_
  refine nk_p (i := .aload_n 0) (len := 1) (pc' := 11) mJ_299 (by decide +kernel) (ns_aload_n 0 rfl rfl) rfl ?_
  refine nk_p (i := .dup) (len := 1) (pc' := 12) mJ_299 (by decide +kernel) (ns_dup rfl) rfl ?_
  refine nk_getI (y := (0, 0)) (x := 75) (len := 3) (ci := 3) (k := 10) (pc' := 15) ja_okT mJ_299 (by decide +kernel) (by decide +kernel) (by decide +kernel) t_l0 rfl ?_
  refine nk_p (i := .iconst 1) (len := 1) (pc' := 16) mJ_299 (by decide +kernel) (ns_iconst (c := 1) (by decide +kernel)) rfl ?_
  refine nk_p (i := .iadd) (len := 1) (pc' := 17) mJ_299 (by decide +kernel) ns_iadd rfl ?_
  obtain ⟨S5, h6, hr⟩ := nk_lte hr
  refine nk_putI (y := (0, 0)) (ty := .int) (x := 75) (len := 3) (ci := 3) (k := 10) (pc' := 20) ja_okT mJ_299 (by decide +kernel) (by decide +kernel) (by decide +kernel) t_l0 (Or.inl rfl) rfl h6 ?_
  refine nk_p (i := .aload_n 0) (len := 1) (pc' := 21) mJ_299 (by decide +kernel) (ns_aload_n 0 rfl rfl) rfl ?_
  refine nk_getI (y := (0, 0)) (x := 75) (len := 3) (ci := 3) (k := 10) (pc' := 24) ja_okT mJ_299 (by decide +kernel) (by decide +kernel) (by decide +kernel) t_l0 rfl ?_
  refine nk_p (i := .iconst 1) (len := 1) (pc' := 25) mJ_299 (by decide +kernel) (ns_iconst (c := 1) (by decide +kernel)) rfl ?_
  refine nk_p (i := .isub) (len := 1) (pc' := 26) mJ_299 (by decide +kernel) ns_isub rfl ?_
  cases hr
  exact nk_iret (ty := .int) (len := 1) mJ_299 (by decide +kernel) rfl (nk_nar_i _)
/-! SafeCode$Program add (IIIII)V -/
noncomputable def ja_X3_add_b74 (l0 : Nat) (l1 : Int) (l3 : Int) (S : nk_S) : Option (Int × nk_S) :=
  if l1 = 4 then
    nk_bd (ja_X5_includeAround (ja_c l0 2) l3 S) fun r2 S3 =>
    some (0, S3)
  else
    some (0, S)
theorem ja_X3_add_b74_ok (zs : List Int32) : ∀ (l0 : Nat) (l1 : Int) (l3 : Int) (S : nk_S) (R : Int × nk_S), nk_cl ja_Tt l0 = some 3 → ja_X3_add_b74 l0 l1 l3 S = some R → nk_K ja_Tt mi_Γ (mi_ev zs) 0 297 74 [(0, nk_r l0), (1, nk_i l1), (3, nk_i l3)] [] S R := by
  intro l0 l1 l3 S R t_l0 hr
  unfold ja_X3_add_b74 at hr
  refine nk_p (i := .iload_n 1) (len := 1) (pc' := 75) mJ_297 (by decide +kernel) (ns_iload_n 1 rfl rfl) rfl ?_
  refine nk_p (i := .iconst 4) (len := 1) (pc' := 76) mJ_297 (by decide +kernel) (ns_iconst (c := 4) (by decide +kernel)) rfl ?_
  refine nk_icmp (c := .ne) (off := 11) (len := 3) (t := 87) (pc' := 79) mJ_297 (by decide +kernel) (by decide +kernel) rfl (fun hc => ?_) (fun hc => ?_)
  · have hr := nk_ifn (c := l1 = 4) hc hr
    cases hr
    exact nk_vret (len := 1) mJ_297 (by decide +kernel) rfl
  · have hr := nk_ifp (c := l1 = 4) (Decidable.of_not_not hc) hr
    refine nk_p (i := .aload_n 0) (len := 1) (pc' := 80) mJ_297 (by decide +kernel) (ns_aload_n 0 rfl rfl) rfl ?_
    refine nk_getC (f := (2, 5, 0)) (x := 28) (len := 3) (ci := 3) (k := 2) (pc' := 83) ja_okT mJ_297 (by decide +kernel) (by decide +kernel) (by decide +kernel) (by decide) t_l0 rfl ?_
    have t1 : nk_cl ja_Tt (ja_c l0 2) = some 5 := nk_tc (y := 0) ja_okT t_l0 (by decide +kernel)
    refine nk_p (i := .iload_n 3) (len := 1) (pc' := 84) mJ_297 (by decide +kernel) (ns_iload_n 2 rfl rfl) rfl ?_
    obtain ⟨r2, S3, h4, hr⟩ := nk_bde hr
    refine nk_callV (ci := 5) (n := 1) (x := 81) (len := 3) (j' := 358) (q' := 0) (r := r2) (S' := S3) (L2 := [(0, nk_r (ja_c l0 2)), (1, nk_i l3)]) (rest := []) (st' := []) (pc' := 87) mJ_297 (by decide +kernel) (by decide +kernel) rfl rfl t1 (Nat.le_of_ble_eq_true rfl) mJ_358 (Nat.le_of_ble_eq_true rfl) rfl (ja_X5_includeAround_ok zs _ _ _ _ t1 h4) rfl ?_
    cases hr
    exact nk_vret (len := 1) mJ_297 (by decide +kernel) rfl
noncomputable def ja_X3_add (l0 : Nat) (l1 : Int) (l2 : Int) (l3 : Int) (l4 : Int) (l5 : Int) (S : nk_S) : Option (Int × nk_S) :=
  if 0 ≤ (S.1 l0 3) ∧ (S.1 l0 3) < 1024 then
  nk_lt (nk_wi S (ja_c l0 4) (S.1 l0 3).toNat l1) fun S3 =>
  if 0 ≤ (S3.1 l0 3) ∧ (S3.1 l0 3) < 1024 then
  nk_lt (nk_wi S3 (ja_c l0 5) (S3.1 l0 3).toNat l2) fun S7 =>
  if 0 ≤ (S7.1 l0 3) ∧ (S7.1 l0 3) < 1024 then
  nk_lt (nk_wi S7 (ja_c l0 6) (S7.1 l0 3).toNat l3) fun S11 =>
  if 0 ≤ (S11.1 l0 3) ∧ (S11.1 l0 3) < 1024 then
  nk_lt (nk_wi S11 (ja_c l0 7) (S11.1 l0 3).toNat l4) fun S15 =>
  if 0 ≤ (S15.1 l0 3) ∧ (S15.1 l0 3) < 1024 then
  nk_lt (nk_wi S15 (ja_c l0 8) (S15.1 l0 3).toNat l5) fun S19 =>
  nk_lt (nk_wi S19 l0 3 (nk_w ((S19.1 l0 3) + 1))) fun S21 =>
  if l1 = 0 then
    nk_bd (ja_X5_includeAround (ja_c l0 2) l2 S21) fun r24 S25 =>
    ja_X3_add_b74 l0 l1 l3 S25
  else
    ja_X3_add_b74 l0 l1 l3 S21
  else none
  else none
  else none
  else none
  else none
theorem ja_X3_add_ok (zs : List Int32) : ∀ (l0 : Nat) (l1 : Int) (l2 : Int) (l3 : Int) (l4 : Int) (l5 : Int) (S : nk_S) (R : Int × nk_S), nk_cl ja_Tt l0 = some 3 → ja_X3_add l0 l1 l2 l3 l4 l5 S = some R → nk_K ja_Tt mi_Γ (mi_ev zs) 0 297 0 [(0, nk_r l0), (1, nk_i l1), (2, nk_i l2), (3, nk_i l3), (4, nk_i l4), (5, nk_i l5)] [] S R := by
  intro l0 l1 l2 l3 l4 l5 S R t_l0 hr
  unfold ja_X3_add at hr
  refine nk_p (i := .aload_n 0) (len := 1) (pc' := 1) mJ_297 (by decide +kernel) (ns_aload_n 0 rfl rfl) rfl ?_
  refine nk_getC (f := (4, 1, 1024)) (x := 32) (len := 3) (ci := 3) (k := 4) (pc' := 4) ja_okT mJ_297 (by decide +kernel) (by decide +kernel) (by decide +kernel) (by decide) t_l0 rfl ?_
  have t1 : nk_ar ja_Tt (ja_c l0 4) = some (1, 1024) := nk_ta ja_okT t_l0 (by decide +kernel)
  refine nk_p (i := .aload_n 0) (len := 1) (pc' := 5) mJ_297 (by decide +kernel) (ns_aload_n 0 rfl rfl) rfl ?_
  refine nk_getI (y := (0, 0)) (x := 74) (len := 3) (ci := 3) (k := 3) (pc' := 8) ja_okT mJ_297 (by decide +kernel) (by decide +kernel) (by decide +kernel) t_l0 rfl ?_
  refine nk_p (i := .iload_n 1) (len := 1) (pc' := 9) mJ_297 (by decide +kernel) (ns_iload_n 1 rfl rfl) rfl ?_
  obtain ⟨h2, hr⟩ := nk_cke hr
  obtain ⟨S3, h4, hr⟩ := nk_lte hr
  refine nk_iast (len := 1) (N := 1024) (pc' := 10) mJ_297 (by decide +kernel) t1 h2.1 h2.2 rfl rfl h4 ?_
  refine nk_p (i := .aload_n 0) (len := 1) (pc' := 11) mJ_297 (by decide +kernel) (ns_aload_n 0 rfl rfl) rfl ?_
  refine nk_getC (f := (4, 1, 1024)) (x := 36) (len := 3) (ci := 3) (k := 5) (pc' := 14) ja_okT mJ_297 (by decide +kernel) (by decide +kernel) (by decide +kernel) (by decide) t_l0 rfl ?_
  have t5 : nk_ar ja_Tt (ja_c l0 5) = some (1, 1024) := nk_ta ja_okT t_l0 (by decide +kernel)
  refine nk_p (i := .aload_n 0) (len := 1) (pc' := 15) mJ_297 (by decide +kernel) (ns_aload_n 0 rfl rfl) rfl ?_
  refine nk_getI (y := (0, 0)) (x := 74) (len := 3) (ci := 3) (k := 3) (pc' := 18) ja_okT mJ_297 (by decide +kernel) (by decide +kernel) (by decide +kernel) t_l0 rfl ?_
  refine nk_p (i := .iload_n 2) (len := 1) (pc' := 19) mJ_297 (by decide +kernel) (ns_iload_n 2 rfl rfl) rfl ?_
  obtain ⟨h6, hr⟩ := nk_cke hr
  obtain ⟨S7, h8, hr⟩ := nk_lte hr
  refine nk_iast (len := 1) (N := 1024) (pc' := 20) mJ_297 (by decide +kernel) t5 h6.1 h6.2 rfl rfl h8 ?_
  refine nk_p (i := .aload_n 0) (len := 1) (pc' := 21) mJ_297 (by decide +kernel) (ns_aload_n 0 rfl rfl) rfl ?_
  refine nk_getC (f := (4, 1, 1024)) (x := 39) (len := 3) (ci := 3) (k := 6) (pc' := 24) ja_okT mJ_297 (by decide +kernel) (by decide +kernel) (by decide +kernel) (by decide) t_l0 rfl ?_
  have t9 : nk_ar ja_Tt (ja_c l0 6) = some (1, 1024) := nk_ta ja_okT t_l0 (by decide +kernel)
  refine nk_p (i := .aload_n 0) (len := 1) (pc' := 25) mJ_297 (by decide +kernel) (ns_aload_n 0 rfl rfl) rfl ?_
  refine nk_getI (y := (0, 0)) (x := 74) (len := 3) (ci := 3) (k := 3) (pc' := 28) ja_okT mJ_297 (by decide +kernel) (by decide +kernel) (by decide +kernel) t_l0 rfl ?_
  refine nk_p (i := .iload_n 3) (len := 1) (pc' := 29) mJ_297 (by decide +kernel) (ns_iload_n 3 rfl rfl) rfl ?_
  obtain ⟨h10, hr⟩ := nk_cke hr
  obtain ⟨S11, h12, hr⟩ := nk_lte hr
  refine nk_iast (len := 1) (N := 1024) (pc' := 30) mJ_297 (by decide +kernel) t9 h10.1 h10.2 rfl rfl h12 ?_
  refine nk_p (i := .aload_n 0) (len := 1) (pc' := 31) mJ_297 (by decide +kernel) (ns_aload_n 0 rfl rfl) rfl ?_
  refine nk_getC (f := (4, 1, 1024)) (x := 42) (len := 3) (ci := 3) (k := 7) (pc' := 34) ja_okT mJ_297 (by decide +kernel) (by decide +kernel) (by decide +kernel) (by decide) t_l0 rfl ?_
  have t13 : nk_ar ja_Tt (ja_c l0 7) = some (1, 1024) := nk_ta ja_okT t_l0 (by decide +kernel)
  refine nk_p (i := .aload_n 0) (len := 1) (pc' := 35) mJ_297 (by decide +kernel) (ns_aload_n 0 rfl rfl) rfl ?_
  refine nk_getI (y := (0, 0)) (x := 74) (len := 3) (ci := 3) (k := 3) (pc' := 38) ja_okT mJ_297 (by decide +kernel) (by decide +kernel) (by decide +kernel) t_l0 rfl ?_
  refine nk_p (i := .iload 4) (len := 2) (pc' := 40) mJ_297 (by decide +kernel) (ns_iload 4 rfl) rfl ?_
  obtain ⟨h14, hr⟩ := nk_cke hr
  obtain ⟨S15, h16, hr⟩ := nk_lte hr
  refine nk_iast (len := 1) (N := 1024) (pc' := 41) mJ_297 (by decide +kernel) t13 h14.1 h14.2 rfl rfl h16 ?_
  refine nk_p (i := .aload_n 0) (len := 1) (pc' := 42) mJ_297 (by decide +kernel) (ns_aload_n 0 rfl rfl) rfl ?_
  refine nk_getC (f := (4, 1, 1024)) (x := 45) (len := 3) (ci := 3) (k := 8) (pc' := 45) ja_okT mJ_297 (by decide +kernel) (by decide +kernel) (by decide +kernel) (by decide) t_l0 rfl ?_
  have t17 : nk_ar ja_Tt (ja_c l0 8) = some (1, 1024) := nk_ta ja_okT t_l0 (by decide +kernel)
  refine nk_p (i := .aload_n 0) (len := 1) (pc' := 46) mJ_297 (by decide +kernel) (ns_aload_n 0 rfl rfl) rfl ?_
  refine nk_getI (y := (0, 0)) (x := 74) (len := 3) (ci := 3) (k := 3) (pc' := 49) ja_okT mJ_297 (by decide +kernel) (by decide +kernel) (by decide +kernel) t_l0 rfl ?_
  refine nk_p (i := .iload 5) (len := 2) (pc' := 51) mJ_297 (by decide +kernel) (ns_iload 5 rfl) rfl ?_
  obtain ⟨h18, hr⟩ := nk_cke hr
  obtain ⟨S19, h20, hr⟩ := nk_lte hr
  refine nk_iast (len := 1) (N := 1024) (pc' := 52) mJ_297 (by decide +kernel) t17 h18.1 h18.2 rfl rfl h20 ?_
  refine nk_p (i := .aload_n 0) (len := 1) (pc' := 53) mJ_297 (by decide +kernel) (ns_aload_n 0 rfl rfl) rfl ?_
  refine nk_p (i := .dup) (len := 1) (pc' := 54) mJ_297 (by decide +kernel) (ns_dup rfl) rfl ?_
  refine nk_getI (y := (0, 0)) (x := 74) (len := 3) (ci := 3) (k := 3) (pc' := 57) ja_okT mJ_297 (by decide +kernel) (by decide +kernel) (by decide +kernel) t_l0 rfl ?_
  refine nk_p (i := .iconst 1) (len := 1) (pc' := 58) mJ_297 (by decide +kernel) (ns_iconst (c := 1) (by decide +kernel)) rfl ?_
  refine nk_p (i := .iadd) (len := 1) (pc' := 59) mJ_297 (by decide +kernel) ns_iadd rfl ?_
  obtain ⟨S21, h22, hr⟩ := nk_lte hr
  refine nk_putI (y := (0, 0)) (ty := .int) (x := 74) (len := 3) (ci := 3) (k := 3) (pc' := 62) ja_okT mJ_297 (by decide +kernel) (by decide +kernel) (by decide +kernel) t_l0 (Or.inl rfl) rfl h22 ?_
  refine nk_p (i := .iload_n 1) (len := 1) (pc' := 63) mJ_297 (by decide +kernel) (ns_iload_n 1 rfl rfl) rfl ?_
  refine nk_icond (c := .ne) (off := 11) (len := 3) (t := 74) (pc' := 66) mJ_297 (by decide +kernel) (by decide +kernel) rfl (fun hc => ?_) (fun hc => ?_)
  · have hr := nk_ifn (c := l1 = 0) hc hr
    refine nk_sub [0, 1, 3] (L' := [(0, nk_r l0), (1, nk_i l1), (3, nk_i l3)]) rfl ?_
    exact ja_X3_add_b74_ok zs _ _ _ _ _ t_l0 hr
  · have hr := nk_ifp (c := l1 = 0) (Decidable.of_not_not hc) hr
    refine nk_p (i := .aload_n 0) (len := 1) (pc' := 67) mJ_297 (by decide +kernel) (ns_aload_n 0 rfl rfl) rfl ?_
    refine nk_getC (f := (2, 5, 0)) (x := 28) (len := 3) (ci := 3) (k := 2) (pc' := 70) ja_okT mJ_297 (by decide +kernel) (by decide +kernel) (by decide +kernel) (by decide) t_l0 rfl ?_
    have t23 : nk_cl ja_Tt (ja_c l0 2) = some 5 := nk_tc (y := 0) ja_okT t_l0 (by decide +kernel)
    refine nk_p (i := .iload_n 2) (len := 1) (pc' := 71) mJ_297 (by decide +kernel) (ns_iload_n 2 rfl rfl) rfl ?_
    obtain ⟨r24, S25, h26, hr⟩ := nk_bde hr
    refine nk_callV (ci := 5) (n := 1) (x := 81) (len := 3) (j' := 358) (q' := 0) (r := r24) (S' := S25) (L2 := [(0, nk_r (ja_c l0 2)), (1, nk_i l2)]) (rest := []) (st' := []) (pc' := 74) mJ_297 (by decide +kernel) (by decide +kernel) rfl rfl t23 (Nat.le_of_ble_eq_true rfl) mJ_358 (Nat.le_of_ble_eq_true rfl) rfl (ja_X5_includeAround_ok zs _ _ _ _ t23 h26) rfl ?_
    refine nk_sub [0, 1, 3] (L' := [(0, nk_r l0), (1, nk_i l1), (3, nk_i l3)]) rfl ?_
    exact ja_X3_add_b74_ok zs _ _ _ _ _ t_l0 hr
/-! SafeCode$Reader resolveInstruction (II)I -/
noncomputable def ja_X6_resolveInstruction_b147 (l0 : Nat) (l1 : Int) (l2 : Int) (l3 : Int) (S : nk_S) : Option (Int × nk_S) :=
  nk_bd (ja_X3_add (S.2 l0 1) l3 (S.1 l0 3) (S.1 l0 4) l2 l1 S) fun r2 S3 =>
  some ((-1), S3)
theorem ja_X6_resolveInstruction_b147_ok (zs : List Int32) : ∀ (l0 : Nat) (l1 : Int) (l2 : Int) (l3 : Int) (S : nk_S) (R : Int × nk_S), nk_cl ja_Tt l0 = some 6 → ja_X6_resolveInstruction_b147 l0 l1 l2 l3 S = some R → nk_K ja_Tt mi_Γ (mi_ev zs) 1 381 147 [(0, nk_r l0), (1, nk_i l1), (2, nk_i l2), (3, nk_i l3)] [] S R := by
  intro l0 l1 l2 l3 S R t_l0 hr
  unfold ja_X6_resolveInstruction_b147 at hr
  refine nk_p (i := .aload_n 0) (len := 1) (pc' := 148) mJ_381 (by decide +kernel) (ns_aload_n 0 rfl rfl) rfl ?_
  refine nk_getM (cj := 3) (z := 0) (x := 15) (len := 3) (ci := 6) (k := 1) (pc' := 151) ja_okT mJ_381 (by decide +kernel) (by decide +kernel) (by decide +kernel) t_l0 rfl (fun t1 => ?_)
  refine nk_p (i := .iload_n 3) (len := 1) (pc' := 152) mJ_381 (by decide +kernel) (ns_iload_n 3 rfl rfl) rfl ?_
  refine nk_p (i := .aload_n 0) (len := 1) (pc' := 153) mJ_381 (by decide +kernel) (ns_aload_n 0 rfl rfl) rfl ?_
  refine nk_getI (y := (0, 0)) (x := 210) (len := 3) (ci := 6) (k := 3) (pc' := 156) ja_okT mJ_381 (by decide +kernel) (by decide +kernel) (by decide +kernel) t_l0 rfl ?_
  refine nk_p (i := .aload_n 0) (len := 1) (pc' := 157) mJ_381 (by decide +kernel) (ns_aload_n 0 rfl rfl) rfl ?_
  refine nk_getI (y := (0, 0)) (x := 213) (len := 3) (ci := 6) (k := 4) (pc' := 160) ja_okT mJ_381 (by decide +kernel) (by decide +kernel) (by decide +kernel) t_l0 rfl ?_
  refine nk_p (i := .iload_n 2) (len := 1) (pc' := 161) mJ_381 (by decide +kernel) (ns_iload_n 2 rfl rfl) rfl ?_
  refine nk_p (i := .iload_n 1) (len := 1) (pc' := 162) mJ_381 (by decide +kernel) (ns_iload_n 1 rfl rfl) rfl ?_
  obtain ⟨r2, S3, h4, hr⟩ := nk_bde hr
  refine nk_callV (ci := 3) (n := 5) (x := 223) (len := 3) (j' := 297) (q' := 0) (r := r2) (S' := S3) (L2 := [(0, nk_r (S.2 l0 1)), (1, nk_i l3), (2, nk_i (S.1 l0 3)), (3, nk_i (S.1 l0 4)), (4, nk_i l2), (5, nk_i l1)]) (rest := []) (st' := []) (pc' := 165) mJ_381 (by decide +kernel) (by decide +kernel) rfl rfl t1 (Nat.le_of_ble_eq_true rfl) mJ_297 (Nat.le_of_ble_eq_true rfl) rfl (ja_X3_add_ok zs _ _ _ _ _ _ _ _ t1 h4) rfl ?_
  refine nk_p (i := .iconst (-1)) (len := 1) (pc' := 166) mJ_381 (by decide +kernel) (ns_iconst (c := (-1)) (by decide +kernel)) rfl ?_
  cases hr
  exact nk_iret (ty := .int) (len := 1) mJ_381 (by decide +kernel) rfl (nk_nar_i _)
noncomputable def ja_X6_resolveInstruction_b141 (l0 : Nat) (l1 : Int) (l2 : Int) (l3 : Int) (s0 : Nat) (s1 : Nat) (s2 : Int) (S : nk_S) : Option (Int × nk_S) :=
  nk_bd (ja_X3_addSite s1 s2 S) fun r1 S2 =>
  nk_lt (nk_wi S2 s0 4 r1) fun S4 =>
  ja_X6_resolveInstruction_b147 l0 l1 l2 l3 S4
theorem ja_X6_resolveInstruction_b141_ok (zs : List Int32) : ∀ (l0 : Nat) (l1 : Int) (l2 : Int) (l3 : Int) (s0 : Nat) (s1 : Nat) (s2 : Int) (S : nk_S) (R : Int × nk_S), nk_cl ja_Tt l0 = some 6 → nk_cl ja_Tt s0 = some 6 → nk_cl ja_Tt s1 = some 3 → ja_X6_resolveInstruction_b141 l0 l1 l2 l3 s0 s1 s2 S = some R → nk_K ja_Tt mi_Γ (mi_ev zs) 1 381 141 [(0, nk_r l0), (1, nk_i l1), (2, nk_i l2), (3, nk_i l3)] [nk_i s2, nk_r s1, nk_r s0] S R := by
  intro l0 l1 l2 l3 s0 s1 s2 S R t_l0 t_s0 t_s1 hr
  unfold ja_X6_resolveInstruction_b141 at hr
  obtain ⟨r1, S2, h3, hr⟩ := nk_bde hr
  refine nk_callV (ci := 3) (n := 1) (x := 220) (len := 3) (j' := 299) (q' := 1) (r := r1) (S' := S2) (L2 := [(0, nk_r s1), (1, nk_i s2)]) (rest := [nk_r s0]) (st' := [nk_i r1, nk_r s0]) (pc' := 144) mJ_381 (by decide +kernel) (by decide +kernel) rfl rfl t_s1 (Nat.le_of_ble_eq_true rfl) mJ_299 (Nat.le_of_ble_eq_true rfl) rfl (ja_X3_addSite_ok zs _ _ _ _ t_s1 h3) rfl ?_
  obtain ⟨S4, h5, hr⟩ := nk_lte hr
  refine nk_putI (y := (0, 0)) (ty := .int) (x := 213) (len := 3) (ci := 6) (k := 4) (pc' := 147) ja_okT mJ_381 (by decide +kernel) (by decide +kernel) (by decide +kernel) t_s0 (Or.inl rfl) rfl h5 ?_
  exact ja_X6_resolveInstruction_b147_ok zs _ _ _ _ _ _ t_l0 hr
noncomputable def ja_X6_resolveInstruction_b70 (l0 : Nat) (l1 : Int) (l2 : Int) (l3 : Int) (l4 : Int) (S : nk_S) : Option (Int × nk_S) :=
  nk_lt (nk_wi S l0 3 0) fun S1 =>
  nk_lt (nk_wi S1 l0 4 0) fun S3 =>
  nk_bd (ja_X6_resolveOperands l0 l1 (nk_w (l2 + 1)) l3 S3) fun r5 S6 =>
  if r5 = 0 then
    some ((nk_w (l2 + 1)), S6)
  else
    if l4 = 0 then
      ja_X6_resolveInstruction_b147 l0 l1 l2 l3 S6
    else
      if l3 = 30 then
        ja_X6_resolveInstruction_b141 l0 l1 l2 l3 l0 (S6.2 l0 1) (nk_w (4 + (nk_w (2 * (S6.1 l0 3))))) S6
      else
        if (S6.1 l0 3) = 1 then
          ja_X6_resolveInstruction_b141 l0 l1 l2 l3 l0 (S6.2 l0 1) 3 S6
        else
          ja_X6_resolveInstruction_b141 l0 l1 l2 l3 l0 (S6.2 l0 1) (nk_w ((S6.1 l0 3) + 1)) S6
theorem ja_X6_resolveInstruction_b70_ok (zs : List Int32) : ∀ (l0 : Nat) (l1 : Int) (l2 : Int) (l3 : Int) (l4 : Int) (S : nk_S) (R : Int × nk_S), nk_cl ja_Tt l0 = some 6 → ja_X6_resolveInstruction_b70 l0 l1 l2 l3 l4 S = some R → nk_K ja_Tt mi_Γ (mi_ev zs) 1 381 70 [(0, nk_r l0), (1, nk_i l1), (2, nk_i l2), (3, nk_i l3), (4, nk_i l4)] [] S R := by
  intro l0 l1 l2 l3 l4 S R t_l0 hr
  unfold ja_X6_resolveInstruction_b70 at hr
  refine nk_p (i := .aload_n 0) (len := 1) (pc' := 71) mJ_381 (by decide +kernel) (ns_aload_n 0 rfl rfl) rfl ?_
  refine nk_p (i := .iconst 0) (len := 1) (pc' := 72) mJ_381 (by decide +kernel) (ns_iconst (c := 0) (by decide +kernel)) rfl ?_
  obtain ⟨S1, h2, hr⟩ := nk_lte hr
  refine nk_putI (y := (0, 0)) (ty := .int) (x := 210) (len := 3) (ci := 6) (k := 3) (pc' := 75) ja_okT mJ_381 (by decide +kernel) (by decide +kernel) (by decide +kernel) t_l0 (Or.inl rfl) rfl h2 ?_
  refine nk_p (i := .aload_n 0) (len := 1) (pc' := 76) mJ_381 (by decide +kernel) (ns_aload_n 0 rfl rfl) rfl ?_
  refine nk_p (i := .iconst 0) (len := 1) (pc' := 77) mJ_381 (by decide +kernel) (ns_iconst (c := 0) (by decide +kernel)) rfl ?_
  obtain ⟨S3, h4, hr⟩ := nk_lte hr
  refine nk_putI (y := (0, 0)) (ty := .int) (x := 213) (len := 3) (ci := 6) (k := 4) (pc' := 80) ja_okT mJ_381 (by decide +kernel) (by decide +kernel) (by decide +kernel) t_l0 (Or.inl rfl) rfl h4 ?_
  refine nk_p (i := .aload_n 0) (len := 1) (pc' := 81) mJ_381 (by decide +kernel) (ns_aload_n 0 rfl rfl) rfl ?_
  refine nk_p (i := .iload_n 1) (len := 1) (pc' := 82) mJ_381 (by decide +kernel) (ns_iload_n 1 rfl rfl) rfl ?_
  refine nk_p (i := .iload_n 2) (len := 1) (pc' := 83) mJ_381 (by decide +kernel) (ns_iload_n 2 rfl rfl) rfl ?_
  refine nk_p (i := .iconst 1) (len := 1) (pc' := 84) mJ_381 (by decide +kernel) (ns_iconst (c := 1) (by decide +kernel)) rfl ?_
  refine nk_p (i := .iadd) (len := 1) (pc' := 85) mJ_381 (by decide +kernel) ns_iadd rfl ?_
  refine nk_p (i := .iload_n 3) (len := 1) (pc' := 86) mJ_381 (by decide +kernel) (ns_iload_n 3 rfl rfl) rfl ?_
  obtain ⟨r5, S6, h7, hr⟩ := nk_bde hr
  refine nk_callV (ci := 6) (n := 3) (x := 216) (len := 3) (j' := 384) (q' := 1) (r := r5) (S' := S6) (L2 := [(0, nk_r l0), (1, nk_i l1), (2, nk_i (nk_w (l2 + 1))), (3, nk_i l3)]) (rest := []) (st' := [nk_i r5]) (pc' := 89) mJ_381 (by decide +kernel) (by decide +kernel) rfl rfl t_l0 (Nat.le_of_ble_eq_true rfl) mJ_384 (Nat.le_of_ble_eq_true rfl) rfl (ja_X6_resolveOperands_ok zs _ _ _ _ _ _ t_l0 h7) rfl ?_
  refine nk_icond (c := .ne) (off := 7) (len := 3) (t := 96) (pc' := 92) mJ_381 (by decide +kernel) (by decide +kernel) rfl (fun hc => ?_) (fun hc => ?_)
  · have hr := nk_ifn (c := r5 = 0) hc hr
    refine nk_p (i := .iload 4) (len := 2) (pc' := 98) mJ_381 (by decide +kernel) (ns_iload 4 rfl) rfl ?_
    refine nk_icond (c := .eq) (off := 49) (len := 3) (t := 147) (pc' := 101) mJ_381 (by decide +kernel) (by decide +kernel) rfl (fun hc => ?_) (fun hc => ?_)
    · have hr := nk_ifp (c := l4 = 0) hc hr
      refine nk_sub [0, 1, 2, 3] (L' := [(0, nk_r l0), (1, nk_i l1), (2, nk_i l2), (3, nk_i l3)]) rfl ?_
      exact ja_X6_resolveInstruction_b147_ok zs _ _ _ _ _ _ t_l0 hr
    · have hr := nk_ifn (c := l4 = 0) hc hr
      refine nk_p (i := .aload_n 0) (len := 1) (pc' := 102) mJ_381 (by decide +kernel) (ns_aload_n 0 rfl rfl) rfl ?_
      refine nk_p (i := .aload_n 0) (len := 1) (pc' := 103) mJ_381 (by decide +kernel) (ns_aload_n 0 rfl rfl) rfl ?_
      refine nk_getM (cj := 3) (z := 0) (x := 15) (len := 3) (ci := 6) (k := 1) (pc' := 106) ja_okT mJ_381 (by decide +kernel) (by decide +kernel) (by decide +kernel) t_l0 rfl (fun t8 => ?_)
      refine nk_p (i := .iload_n 3) (len := 1) (pc' := 107) mJ_381 (by decide +kernel) (ns_iload_n 3 rfl rfl) rfl ?_
      refine nk_p (i := .bipush 30) (len := 2) (pc' := 109) mJ_381 (by decide +kernel) (ns_bipush (c := 30) (by decide +kernel)) rfl ?_
      refine nk_icmp (c := .ne) (off := 14) (len := 3) (t := 123) (pc' := 112) mJ_381 (by decide +kernel) (by decide +kernel) rfl (fun hc => ?_) (fun hc => ?_)
      · have hr := nk_ifn (c := l3 = 30) hc hr
        refine nk_p (i := .aload_n 0) (len := 1) (pc' := 124) mJ_381 (by decide +kernel) (ns_aload_n 0 rfl rfl) rfl ?_
        refine nk_getI (y := (0, 0)) (x := 210) (len := 3) (ci := 6) (k := 3) (pc' := 127) ja_okT mJ_381 (by decide +kernel) (by decide +kernel) (by decide +kernel) t_l0 rfl ?_
        refine nk_p (i := .iconst 1) (len := 1) (pc' := 128) mJ_381 (by decide +kernel) (ns_iconst (c := 1) (by decide +kernel)) rfl ?_
        refine nk_icmp (c := .ne) (off := 7) (len := 3) (t := 135) (pc' := 131) mJ_381 (by decide +kernel) (by decide +kernel) rfl (fun hc => ?_) (fun hc => ?_)
        · have hr := nk_ifn (c := (S6.1 l0 3) = 1) hc hr
          refine nk_p (i := .aload_n 0) (len := 1) (pc' := 136) mJ_381 (by decide +kernel) (ns_aload_n 0 rfl rfl) rfl ?_
          refine nk_getI (y := (0, 0)) (x := 210) (len := 3) (ci := 6) (k := 3) (pc' := 139) ja_okT mJ_381 (by decide +kernel) (by decide +kernel) (by decide +kernel) t_l0 rfl ?_
          refine nk_p (i := .iconst 1) (len := 1) (pc' := 140) mJ_381 (by decide +kernel) (ns_iconst (c := 1) (by decide +kernel)) rfl ?_
          refine nk_p (i := .iadd) (len := 1) (pc' := 141) mJ_381 (by decide +kernel) ns_iadd rfl ?_
          refine nk_sub [0, 1, 2, 3] (L' := [(0, nk_r l0), (1, nk_i l1), (2, nk_i l2), (3, nk_i l3)]) rfl ?_
          exact ja_X6_resolveInstruction_b141_ok zs _ _ _ _ _ _ _ _ _ t_l0 t_l0 t8 hr
        · have hr := nk_ifp (c := (S6.1 l0 3) = 1) (Decidable.of_not_not hc) hr
          refine nk_p (i := .iconst 3) (len := 1) (pc' := 132) mJ_381 (by decide +kernel) (ns_iconst (c := 3) (by decide +kernel)) rfl ?_
          refine nk_p (i := .goto 9) (len := 3) (pc' := 141) mJ_381 (by decide +kernel) (ns_goto (by decide +kernel)) rfl ?_
          refine nk_sub [0, 1, 2, 3] (L' := [(0, nk_r l0), (1, nk_i l1), (2, nk_i l2), (3, nk_i l3)]) rfl ?_
          exact ja_X6_resolveInstruction_b141_ok zs _ _ _ _ _ _ _ _ _ t_l0 t_l0 t8 hr
      · have hr := nk_ifp (c := l3 = 30) (Decidable.of_not_not hc) hr
        refine nk_p (i := .iconst 4) (len := 1) (pc' := 113) mJ_381 (by decide +kernel) (ns_iconst (c := 4) (by decide +kernel)) rfl ?_
        refine nk_p (i := .iconst 2) (len := 1) (pc' := 114) mJ_381 (by decide +kernel) (ns_iconst (c := 2) (by decide +kernel)) rfl ?_
        refine nk_p (i := .aload_n 0) (len := 1) (pc' := 115) mJ_381 (by decide +kernel) (ns_aload_n 0 rfl rfl) rfl ?_
        refine nk_getI (y := (0, 0)) (x := 210) (len := 3) (ci := 6) (k := 3) (pc' := 118) ja_okT mJ_381 (by decide +kernel) (by decide +kernel) (by decide +kernel) t_l0 rfl ?_
        refine nk_p (i := .imul) (len := 1) (pc' := 119) mJ_381 (by decide +kernel) ns_imul rfl ?_
        refine nk_p (i := .iadd) (len := 1) (pc' := 120) mJ_381 (by decide +kernel) ns_iadd rfl ?_
        refine nk_p (i := .goto 21) (len := 3) (pc' := 141) mJ_381 (by decide +kernel) (ns_goto (by decide +kernel)) rfl ?_
        refine nk_sub [0, 1, 2, 3] (L' := [(0, nk_r l0), (1, nk_i l1), (2, nk_i l2), (3, nk_i l3)]) rfl ?_
        exact ja_X6_resolveInstruction_b141_ok zs _ _ _ _ _ _ _ _ _ t_l0 t_l0 t8 hr
  · have hr := nk_ifp (c := r5 = 0) (Decidable.of_not_not hc) hr
    refine nk_p (i := .iload_n 2) (len := 1) (pc' := 93) mJ_381 (by decide +kernel) (ns_iload_n 2 rfl rfl) rfl ?_
    refine nk_p (i := .iconst 1) (len := 1) (pc' := 94) mJ_381 (by decide +kernel) (ns_iconst (c := 1) (by decide +kernel)) rfl ?_
    refine nk_p (i := .iadd) (len := 1) (pc' := 95) mJ_381 (by decide +kernel) ns_iadd rfl ?_
    cases hr
    exact nk_iret (ty := .int) (len := 1) mJ_381 (by decide +kernel) rfl (nk_nar_i _)
noncomputable def ja_X6_resolveInstruction_b26 (l0 : Nat) (l1 : Int) (l2 : Int) (l3 : Int) (s0 : Int) (S : nk_S) : Option (Int × nk_S) :=
  if l3 < 0 then
    some (l2, S)
  else
    if 46 ≤ l3 then
      some (l2, S)
    else
      if 1024 ≤ (S.1 (S.2 l0 1) 3) then
        some (l2, S)
      else
        if s0 = 0 then
          ja_X6_resolveInstruction_b70 l0 l1 l2 l3 s0 S
        else
          if (S.1 (S.2 l0 1) 10) < 48 then
            ja_X6_resolveInstruction_b70 l0 l1 l2 l3 s0 S
          else
            some (l2, S)
theorem ja_X6_resolveInstruction_b26_ok (zs : List Int32) : ∀ (l0 : Nat) (l1 : Int) (l2 : Int) (l3 : Int) (s0 : Int) (S : nk_S) (R : Int × nk_S), nk_cl ja_Tt l0 = some 6 → ja_X6_resolveInstruction_b26 l0 l1 l2 l3 s0 S = some R → nk_K ja_Tt mi_Γ (mi_ev zs) 1 381 26 [(0, nk_r l0), (1, nk_i l1), (2, nk_i l2), (3, nk_i l3)] [nk_i s0] S R := by
  intro l0 l1 l2 l3 s0 S R t_l0 hr
  unfold ja_X6_resolveInstruction_b26 at hr
  refine nk_p (i := .istore 4) (len := 2) (pc' := 28) mJ_381 (by decide +kernel) (ns_istore (L' := [(4, nk_i s0), (0, nk_r l0), (1, nk_i l1), (2, nk_i l2), (3, nk_i l3)]) rfl rfl (by decide +kernel)) rfl ?_
  refine nk_p (i := .iload_n 3) (len := 1) (pc' := 29) mJ_381 (by decide +kernel) (ns_iload_n 4 rfl rfl) rfl ?_
  refine nk_icond (c := .lt) (off := 39) (len := 3) (t := 68) (pc' := 32) mJ_381 (by decide +kernel) (by decide +kernel) rfl (fun hc => ?_) (fun hc => ?_)
  · have hr := nk_ifp (c := l3 < 0) hc hr
    refine nk_p (i := .iload_n 2) (len := 1) (pc' := 69) mJ_381 (by decide +kernel) (ns_iload_n 3 rfl rfl) rfl ?_
    cases hr
    exact nk_iret (ty := .int) (len := 1) mJ_381 (by decide +kernel) rfl (nk_nar_i _)
  · have hr := nk_ifn (c := l3 < 0) hc hr
    refine nk_p (i := .iload_n 3) (len := 1) (pc' := 33) mJ_381 (by decide +kernel) (ns_iload_n 4 rfl rfl) rfl ?_
    refine nk_p (i := .bipush 46) (len := 2) (pc' := 35) mJ_381 (by decide +kernel) (ns_bipush (c := 46) (by decide +kernel)) rfl ?_
    refine nk_icmp (c := .ge) (off := 33) (len := 3) (t := 68) (pc' := 38) mJ_381 (by decide +kernel) (by decide +kernel) rfl (fun hc => ?_) (fun hc => ?_)
    · have hr := nk_ifp (c := 46 ≤ l3) hc hr
      refine nk_p (i := .iload_n 2) (len := 1) (pc' := 69) mJ_381 (by decide +kernel) (ns_iload_n 3 rfl rfl) rfl ?_
      cases hr
      exact nk_iret (ty := .int) (len := 1) mJ_381 (by decide +kernel) rfl (nk_nar_i _)
    · have hr := nk_ifn (c := 46 ≤ l3) hc hr
      refine nk_p (i := .aload_n 0) (len := 1) (pc' := 39) mJ_381 (by decide +kernel) (ns_aload_n 1 rfl rfl) rfl ?_
      refine nk_getM (cj := 3) (z := 0) (x := 15) (len := 3) (ci := 6) (k := 1) (pc' := 42) ja_okT mJ_381 (by decide +kernel) (by decide +kernel) (by decide +kernel) t_l0 rfl (fun t1 => ?_)
      refine nk_getI (y := (0, 0)) (x := 166) (len := 3) (ci := 3) (k := 3) (pc' := 45) ja_okT mJ_381 (by decide +kernel) (by decide +kernel) (by decide +kernel) t1 rfl ?_
      refine nk_p (i := .sipush 1024) (len := 3) (pc' := 48) mJ_381 (by decide +kernel) (ns_sipush (c := 1024) (by decide +kernel)) rfl ?_
      refine nk_icmp (c := .ge) (off := 20) (len := 3) (t := 68) (pc' := 51) mJ_381 (by decide +kernel) (by decide +kernel) rfl (fun hc => ?_) (fun hc => ?_)
      · have hr := nk_ifp (c := 1024 ≤ (S.1 (S.2 l0 1) 3)) hc hr
        refine nk_p (i := .iload_n 2) (len := 1) (pc' := 69) mJ_381 (by decide +kernel) (ns_iload_n 3 rfl rfl) rfl ?_
        cases hr
        exact nk_iret (ty := .int) (len := 1) mJ_381 (by decide +kernel) rfl (nk_nar_i _)
      · have hr := nk_ifn (c := 1024 ≤ (S.1 (S.2 l0 1) 3)) hc hr
        refine nk_p (i := .iload 4) (len := 2) (pc' := 53) mJ_381 (by decide +kernel) (ns_iload 0 rfl) rfl ?_
        refine nk_icond (c := .eq) (off := 17) (len := 3) (t := 70) (pc' := 56) mJ_381 (by decide +kernel) (by decide +kernel) rfl (fun hc => ?_) (fun hc => ?_)
        · have hr := nk_ifp (c := s0 = 0) hc hr
          refine nk_sub [1, 2, 3, 4, 0] (L' := [(0, nk_r l0), (1, nk_i l1), (2, nk_i l2), (3, nk_i l3), (4, nk_i s0)]) rfl ?_
          exact ja_X6_resolveInstruction_b70_ok zs _ _ _ _ _ _ _ t_l0 hr
        · have hr := nk_ifn (c := s0 = 0) hc hr
          refine nk_p (i := .aload_n 0) (len := 1) (pc' := 57) mJ_381 (by decide +kernel) (ns_aload_n 1 rfl rfl) rfl ?_
          refine nk_getM (cj := 3) (z := 0) (x := 15) (len := 3) (ci := 6) (k := 1) (pc' := 60) ja_okT mJ_381 (by decide +kernel) (by decide +kernel) (by decide +kernel) t_l0 rfl (fun t2 => ?_)
          refine nk_getI (y := (0, 0)) (x := 207) (len := 3) (ci := 3) (k := 10) (pc' := 63) ja_okT mJ_381 (by decide +kernel) (by decide +kernel) (by decide +kernel) t2 rfl ?_
          refine nk_p (i := .bipush 48) (len := 2) (pc' := 65) mJ_381 (by decide +kernel) (ns_bipush (c := 48) (by decide +kernel)) rfl ?_
          refine nk_icmp (c := .lt) (off := 5) (len := 3) (t := 70) (pc' := 68) mJ_381 (by decide +kernel) (by decide +kernel) rfl (fun hc => ?_) (fun hc => ?_)
          · have hr := nk_ifp (c := (S.1 (S.2 l0 1) 10) < 48) hc hr
            refine nk_sub [1, 2, 3, 4, 0] (L' := [(0, nk_r l0), (1, nk_i l1), (2, nk_i l2), (3, nk_i l3), (4, nk_i s0)]) rfl ?_
            exact ja_X6_resolveInstruction_b70_ok zs _ _ _ _ _ _ _ t_l0 hr
          · have hr := nk_ifn (c := (S.1 (S.2 l0 1) 10) < 48) hc hr
            refine nk_p (i := .iload_n 2) (len := 1) (pc' := 69) mJ_381 (by decide +kernel) (ns_iload_n 3 rfl rfl) rfl ?_
            cases hr
            exact nk_iret (ty := .int) (len := 1) mJ_381 (by decide +kernel) rfl (nk_nar_i _)
noncomputable def ja_X6_resolveInstruction_b21 (l0 : Nat) (l1 : Int) (l2 : Int) (l3 : Int) (S : nk_S) : Option (Int × nk_S) :=
  ja_X6_resolveInstruction_b26 l0 l1 l2 l3 1 S
theorem ja_X6_resolveInstruction_b21_ok (zs : List Int32) : ∀ (l0 : Nat) (l1 : Int) (l2 : Int) (l3 : Int) (S : nk_S) (R : Int × nk_S), nk_cl ja_Tt l0 = some 6 → ja_X6_resolveInstruction_b21 l0 l1 l2 l3 S = some R → nk_K ja_Tt mi_Γ (mi_ev zs) 1 381 21 [(0, nk_r l0), (1, nk_i l1), (2, nk_i l2), (3, nk_i l3)] [] S R := by
  intro l0 l1 l2 l3 S R t_l0 hr
  unfold ja_X6_resolveInstruction_b21 at hr
  refine nk_p (i := .iconst 1) (len := 1) (pc' := 22) mJ_381 (by decide +kernel) (ns_iconst (c := 1) (by decide +kernel)) rfl ?_
  refine nk_p (i := .goto 4) (len := 3) (pc' := 26) mJ_381 (by decide +kernel) (ns_goto (by decide +kernel)) rfl ?_
  exact ja_X6_resolveInstruction_b26_ok zs _ _ _ _ _ _ _ t_l0 hr
noncomputable def ja_X6_resolveInstruction (l0 : Nat) (l1 : Int) (l2 : Int) (S : nk_S) : Option (Int × nk_S) :=
  nk_bd (ja_X10_at (ja_c l0 0) l2 S) fun r2 S3 =>
  if r2 = 30 then
    ja_X6_resolveInstruction_b21 l0 l1 l2 r2 S3
  else
    if r2 = 31 then
      ja_X6_resolveInstruction_b21 l0 l1 l2 r2 S3
    else
      ja_X6_resolveInstruction_b26 l0 l1 l2 r2 0 S3
theorem ja_X6_resolveInstruction_ok (zs : List Int32) : ∀ (l0 : Nat) (l1 : Int) (l2 : Int) (S : nk_S) (R : Int × nk_S), nk_cl ja_Tt l0 = some 6 → ja_X6_resolveInstruction l0 l1 l2 S = some R → nk_K ja_Tt mi_Γ (mi_ev zs) 1 381 0 [(0, nk_r l0), (1, nk_i l1), (2, nk_i l2)] [] S R := by
  intro l0 l1 l2 S R t_l0 hr
  unfold ja_X6_resolveInstruction at hr
  refine nk_p (i := .aload_n 0) (len := 1) (pc' := 1) mJ_381 (by decide +kernel) (ns_aload_n 0 rfl rfl) rfl ?_
  refine nk_getC (f := (2, 10, 0)) (x := 9) (len := 3) (ci := 6) (k := 0) (pc' := 4) ja_okT mJ_381 (by decide +kernel) (by decide +kernel) (by decide +kernel) (by decide) t_l0 rfl ?_
  have t1 : nk_cl ja_Tt (ja_c l0 0) = some 10 := nk_tc (y := 0) ja_okT t_l0 (by decide +kernel)
  refine nk_p (i := .iload_n 2) (len := 1) (pc' := 5) mJ_381 (by decide +kernel) (ns_iload_n 2 rfl rfl) rfl ?_
  obtain ⟨r2, S3, h4, hr⟩ := nk_bde hr
  refine nk_callV (ci := 10) (n := 1) (x := 39) (len := 3) (j' := 32) (q' := 1) (r := r2) (S' := S3) (L2 := [(0, nk_r (ja_c l0 0)), (1, nk_i l2)]) (rest := []) (st' := [nk_i r2]) (pc' := 8) mJ_381 (by decide +kernel) (by decide +kernel) rfl rfl t1 (Nat.le_of_ble_eq_true rfl) mJ_32 (Nat.le_of_ble_eq_true rfl) rfl (ja_X10_at_ok zs _ _ _ _ t1 h4) rfl ?_
  refine nk_p (i := .istore_n 3) (len := 1) (pc' := 9) mJ_381 (by decide +kernel) (ns_istore_n (L' := [(3, nk_i r2), (0, nk_r l0), (1, nk_i l1), (2, nk_i l2)]) rfl rfl rfl (by decide +kernel)) rfl ?_
  refine nk_p (i := .iload_n 3) (len := 1) (pc' := 10) mJ_381 (by decide +kernel) (ns_iload_n 0 rfl rfl) rfl ?_
  refine nk_p (i := .bipush 30) (len := 2) (pc' := 12) mJ_381 (by decide +kernel) (ns_bipush (c := 30) (by decide +kernel)) rfl ?_
  refine nk_icmp (c := .eq) (off := 9) (len := 3) (t := 21) (pc' := 15) mJ_381 (by decide +kernel) (by decide +kernel) rfl (fun hc => ?_) (fun hc => ?_)
  · have hr := nk_ifp (c := r2 = 30) hc hr
    refine nk_sub [1, 2, 3, 0] (L' := [(0, nk_r l0), (1, nk_i l1), (2, nk_i l2), (3, nk_i r2)]) rfl ?_
    exact ja_X6_resolveInstruction_b21_ok zs _ _ _ _ _ _ t_l0 hr
  · have hr := nk_ifn (c := r2 = 30) hc hr
    refine nk_p (i := .iload_n 3) (len := 1) (pc' := 16) mJ_381 (by decide +kernel) (ns_iload_n 0 rfl rfl) rfl ?_
    refine nk_p (i := .bipush 31) (len := 2) (pc' := 18) mJ_381 (by decide +kernel) (ns_bipush (c := 31) (by decide +kernel)) rfl ?_
    refine nk_icmp (c := .ne) (off := 7) (len := 3) (t := 25) (pc' := 21) mJ_381 (by decide +kernel) (by decide +kernel) rfl (fun hc => ?_) (fun hc => ?_)
    · have hr := nk_ifn (c := r2 = 31) hc hr
      refine nk_p (i := .iconst 0) (len := 1) (pc' := 26) mJ_381 (by decide +kernel) (ns_iconst (c := 0) (by decide +kernel)) rfl ?_
      refine nk_sub [1, 2, 3, 0] (L' := [(0, nk_r l0), (1, nk_i l1), (2, nk_i l2), (3, nk_i r2)]) rfl ?_
      exact ja_X6_resolveInstruction_b26_ok zs _ _ _ _ _ _ _ t_l0 hr
    · have hr := nk_ifp (c := r2 = 31) (Decidable.of_not_not hc) hr
      refine nk_sub [1, 2, 3, 0] (L' := [(0, nk_r l0), (1, nk_i l1), (2, nk_i l2), (3, nk_i r2)]) rfl ?_
      exact ja_X6_resolveInstruction_b21_ok zs _ _ _ _ _ _ t_l0 hr
/-! SafeCode$Program endsBody (I)Z -/
noncomputable def ja_X3_endsBody (l0 : Int) (S : nk_S) : Option (Int × nk_S) :=
  if l0 = 41 then
    some (1, S)
  else
    if l0 = 42 then
      some (1, S)
    else
      if l0 = 43 then
        some (1, S)
      else
        some (0, S)
theorem ja_X3_endsBody_ok (zs : List Int32) : ∀ (l0 : Int) (S : nk_S) (R : Int × nk_S), ja_X3_endsBody l0 S = some R → nk_K ja_Tt mi_Γ (mi_ev zs) 1 303 0 [(0, nk_i l0)] [] S R := by
  intro l0 S R hr
  unfold ja_X3_endsBody at hr
  refine nk_p (i := .iload_n 0) (len := 1) (pc' := 1) mJ_303 (by decide +kernel) (ns_iload_n 0 rfl rfl) rfl ?_
  refine nk_p (i := .bipush 41) (len := 2) (pc' := 3) mJ_303 (by decide +kernel) (ns_bipush (c := 41) (by decide +kernel)) rfl ?_
  refine nk_icmp (c := .eq) (off := 15) (len := 3) (t := 18) (pc' := 6) mJ_303 (by decide +kernel) (by decide +kernel) rfl (fun hc => ?_) (fun hc => ?_)
  · have hr := nk_ifp (c := l0 = 41) hc hr
    refine nk_p (i := .iconst 1) (len := 1) (pc' := 19) mJ_303 (by decide +kernel) (ns_iconst (c := 1) (by decide +kernel)) rfl ?_
    refine nk_p (i := .goto 4) (len := 3) (pc' := 23) mJ_303 (by decide +kernel) (ns_goto (by decide +kernel)) rfl ?_
    cases hr
    exact nk_iret (ty := .boolean) (len := 1) mJ_303 (by decide +kernel) rfl (nk_nar_z (by decide))
  · have hr := nk_ifn (c := l0 = 41) hc hr
    refine nk_p (i := .iload_n 0) (len := 1) (pc' := 7) mJ_303 (by decide +kernel) (ns_iload_n 0 rfl rfl) rfl ?_
    refine nk_p (i := .bipush 42) (len := 2) (pc' := 9) mJ_303 (by decide +kernel) (ns_bipush (c := 42) (by decide +kernel)) rfl ?_
    refine nk_icmp (c := .eq) (off := 9) (len := 3) (t := 18) (pc' := 12) mJ_303 (by decide +kernel) (by decide +kernel) rfl (fun hc => ?_) (fun hc => ?_)
    · have hr := nk_ifp (c := l0 = 42) hc hr
      refine nk_p (i := .iconst 1) (len := 1) (pc' := 19) mJ_303 (by decide +kernel) (ns_iconst (c := 1) (by decide +kernel)) rfl ?_
      refine nk_p (i := .goto 4) (len := 3) (pc' := 23) mJ_303 (by decide +kernel) (ns_goto (by decide +kernel)) rfl ?_
      cases hr
      exact nk_iret (ty := .boolean) (len := 1) mJ_303 (by decide +kernel) rfl (nk_nar_z (by decide))
    · have hr := nk_ifn (c := l0 = 42) hc hr
      refine nk_p (i := .iload_n 0) (len := 1) (pc' := 13) mJ_303 (by decide +kernel) (ns_iload_n 0 rfl rfl) rfl ?_
      refine nk_p (i := .bipush 43) (len := 2) (pc' := 15) mJ_303 (by decide +kernel) (ns_bipush (c := 43) (by decide +kernel)) rfl ?_
      refine nk_icmp (c := .ne) (off := 7) (len := 3) (t := 22) (pc' := 18) mJ_303 (by decide +kernel) (by decide +kernel) rfl (fun hc => ?_) (fun hc => ?_)
      · have hr := nk_ifn (c := l0 = 43) hc hr
        refine nk_p (i := .iconst 0) (len := 1) (pc' := 23) mJ_303 (by decide +kernel) (ns_iconst (c := 0) (by decide +kernel)) rfl ?_
        cases hr
        exact nk_iret (ty := .boolean) (len := 1) mJ_303 (by decide +kernel) rfl (nk_nar_z (by decide))
      · have hr := nk_ifp (c := l0 = 43) (Decidable.of_not_not hc) hr
        refine nk_p (i := .iconst 1) (len := 1) (pc' := 19) mJ_303 (by decide +kernel) (ns_iconst (c := 1) (by decide +kernel)) rfl ?_
        refine nk_p (i := .goto 4) (len := 3) (pc' := 23) mJ_303 (by decide +kernel) (ns_goto (by decide +kernel)) rfl ?_
        cases hr
        exact nk_iret (ty := .boolean) (len := 1) mJ_303 (by decide +kernel) rfl (nk_nar_z (by decide))
/-! SafeCode$Program closes (I)Z -/
noncomputable def ja_X3_closes (l0 : Nat) (l1 : Int) (S : nk_S) : Option (Int × nk_S) :=
  if l1 < (S.1 l0 3) then
    if 0 ≤ (nk_w ((S.1 l0 3) - 1)) ∧ (nk_w ((S.1 l0 3) - 1)) < 1024 then
    nk_lt (S.1 (ja_c l0 4) (nk_w ((S.1 l0 3) - 1)).toNat) fun v3 =>
    if v3 = 19 then
      some (1, S)
    else
      nk_bd (ja_X3_endsBody v3 S) fun r5 S6 =>
      if r5 = 0 then
        some (0, S6)
      else
        some (1, S6)
    else none
  else
    some (0, S)
theorem ja_X3_closes_ok (zs : List Int32) : ∀ (l0 : Nat) (l1 : Int) (S : nk_S) (R : Int × nk_S), nk_cl ja_Tt l0 = some 3 → ja_X3_closes l0 l1 S = some R → nk_K ja_Tt mi_Γ (mi_ev zs) 1 301 0 [(0, nk_r l0), (1, nk_i l1)] [] S R := by
  intro l0 l1 S R t_l0 hr
  unfold ja_X3_closes at hr
  refine nk_p (i := .aload_n 0) (len := 1) (pc' := 1) mJ_301 (by decide +kernel) (ns_aload_n 0 rfl rfl) rfl ?_
  refine nk_getI (y := (0, 0)) (x := 74) (len := 3) (ci := 3) (k := 3) (pc' := 4) ja_okT mJ_301 (by decide +kernel) (by decide +kernel) (by decide +kernel) t_l0 rfl ?_
  refine nk_p (i := .iload_n 1) (len := 1) (pc' := 5) mJ_301 (by decide +kernel) (ns_iload_n 1 rfl rfl) rfl ?_
  refine nk_icmp (c := .gt) (off := 5) (len := 3) (t := 10) (pc' := 8) mJ_301 (by decide +kernel) (by decide +kernel) rfl (fun hc => ?_) (fun hc => ?_)
  · have hr := nk_ifp (c := l1 < (S.1 l0 3)) hc hr
    refine nk_p (i := .aload_n 0) (len := 1) (pc' := 11) mJ_301 (by decide +kernel) (ns_aload_n 0 rfl rfl) rfl ?_
    refine nk_getC (f := (4, 1, 1024)) (x := 32) (len := 3) (ci := 3) (k := 4) (pc' := 14) ja_okT mJ_301 (by decide +kernel) (by decide +kernel) (by decide +kernel) (by decide) t_l0 rfl ?_
    have t1 : nk_ar ja_Tt (ja_c l0 4) = some (1, 1024) := nk_ta ja_okT t_l0 (by decide +kernel)
    refine nk_p (i := .aload_n 0) (len := 1) (pc' := 15) mJ_301 (by decide +kernel) (ns_aload_n 0 rfl rfl) rfl ?_
    refine nk_getI (y := (0, 0)) (x := 74) (len := 3) (ci := 3) (k := 3) (pc' := 18) ja_okT mJ_301 (by decide +kernel) (by decide +kernel) (by decide +kernel) t_l0 rfl ?_
    refine nk_p (i := .iconst 1) (len := 1) (pc' := 19) mJ_301 (by decide +kernel) (ns_iconst (c := 1) (by decide +kernel)) rfl ?_
    refine nk_p (i := .isub) (len := 1) (pc' := 20) mJ_301 (by decide +kernel) ns_isub rfl ?_
    obtain ⟨h2, hr⟩ := nk_cke hr
    refine nk_iald (len := 1) (N := 1024) (pc' := 21) mJ_301 (by decide +kernel) t1 h2.1 h2.2 rfl rfl ?_
    obtain ⟨v3, h4, hr⟩ := nk_lte hr
    refine nk_p (i := .istore_n 2) (len := 1) (pc' := 22) mJ_301 (by decide +kernel) (ns_istore_n (L' := [(2, nk_i v3), (0, nk_r l0), (1, nk_i l1)]) h4 rfl rfl (by decide +kernel)) rfl ?_
    refine nk_p (i := .iload_n 2) (len := 1) (pc' := 23) mJ_301 (by decide +kernel) (ns_iload_n 0 rfl rfl) rfl ?_
    refine nk_p (i := .bipush 19) (len := 2) (pc' := 25) mJ_301 (by decide +kernel) (ns_bipush (c := 19) (by decide +kernel)) rfl ?_
    refine nk_icmp (c := .eq) (off := 10) (len := 3) (t := 35) (pc' := 28) mJ_301 (by decide +kernel) (by decide +kernel) rfl (fun hc => ?_) (fun hc => ?_)
    · have hr := nk_ifp (c := v3 = 19) hc hr
      refine nk_p (i := .iconst 1) (len := 1) (pc' := 36) mJ_301 (by decide +kernel) (ns_iconst (c := 1) (by decide +kernel)) rfl ?_
      refine nk_p (i := .goto 4) (len := 3) (pc' := 40) mJ_301 (by decide +kernel) (ns_goto (by decide +kernel)) rfl ?_
      cases hr
      exact nk_iret (ty := .boolean) (len := 1) mJ_301 (by decide +kernel) rfl (nk_nar_z (by decide))
    · have hr := nk_ifn (c := v3 = 19) hc hr
      refine nk_p (i := .iload_n 2) (len := 1) (pc' := 29) mJ_301 (by decide +kernel) (ns_iload_n 0 rfl rfl) rfl ?_
      obtain ⟨r5, S6, h7, hr⟩ := nk_bde hr
      refine nk_callS (ci := 0) (n := 1) (x := 85) (len := 3) (j' := 303) (q' := 1) (r := r5) (S' := S6) (L2 := [(0, nk_i v3)]) (rest := []) (st' := [nk_i r5]) (pc' := 32) mJ_301 (by decide +kernel) (by decide +kernel) (Nat.le_of_ble_eq_true rfl) rfl rfl (Nat.le_of_ble_eq_true rfl) mJ_303 (Nat.le_of_ble_eq_true rfl) ja_Tpos rfl (ja_X3_endsBody_ok zs _ _ _ h7) rfl ?_
      refine nk_icond (c := .eq) (off := 7) (len := 3) (t := 39) (pc' := 35) mJ_301 (by decide +kernel) (by decide +kernel) rfl (fun hc => ?_) (fun hc => ?_)
      · have hr := nk_ifp (c := r5 = 0) hc hr
        refine nk_p (i := .iconst 0) (len := 1) (pc' := 40) mJ_301 (by decide +kernel) (ns_iconst (c := 0) (by decide +kernel)) rfl ?_
        cases hr
        exact nk_iret (ty := .boolean) (len := 1) mJ_301 (by decide +kernel) rfl (nk_nar_z (by decide))
      · have hr := nk_ifn (c := r5 = 0) hc hr
        refine nk_p (i := .iconst 1) (len := 1) (pc' := 36) mJ_301 (by decide +kernel) (ns_iconst (c := 1) (by decide +kernel)) rfl ?_
        refine nk_p (i := .goto 4) (len := 3) (pc' := 40) mJ_301 (by decide +kernel) (ns_goto (by decide +kernel)) rfl ?_
        cases hr
        exact nk_iret (ty := .boolean) (len := 1) mJ_301 (by decide +kernel) rfl (nk_nar_z (by decide))
  · have hr := nk_ifn (c := l1 < (S.1 l0 3)) hc hr
    refine nk_p (i := .iconst 0) (len := 1) (pc' := 9) mJ_301 (by decide +kernel) (ns_iconst (c := 0) (by decide +kernel)) rfl ?_
    cases hr
    exact nk_iret (ty := .boolean) (len := 1) mJ_301 (by decide +kernel) rfl (nk_nar_z (by decide))
/-! SafeCode$Reader walkLines (I)I -/
noncomputable def ja_X6_walkLines_b209 (l0 : Nat) (l1 : Int) (l2 : Nat) (S : nk_S) : Option (Int × nk_S) :=
  if 0 ≤ l1 ∧ l1 < 48 then
  nk_lt (nk_wi S (ja_c l2 13) l1.toNat (S.1 (S.2 l0 1) 12)) fun S4 =>
  nk_bd (ja_X3_closes (S4.2 l0 1) (S4.1 (ja_c l2 10) l1.toNat) S4) fun r8 S9 =>
  if r8 = 0 then
    some ((S9.1 l0 2), S9)
  else
    some ((-1), S9)
  else none
theorem ja_X6_walkLines_b209_ok (zs : List Int32) : ∀ (l0 : Nat) (l1 : Int) (l2 : Nat) (S : nk_S) (R : Int × nk_S), nk_cl ja_Tt l0 = some 6 → nk_cl ja_Tt l2 = some 0 → ja_X6_walkLines_b209 l0 l1 l2 S = some R → nk_K ja_Tt mi_Γ (mi_ev zs) 1 394 209 [(0, nk_r l0), (1, nk_i l1), (2, nk_r l2)] [] S R := by
  intro l0 l1 l2 S R t_l0 t_l2 hr
  unfold ja_X6_walkLines_b209 at hr
  refine nk_p (i := .aload_n 2) (len := 1) (pc' := 210) mJ_394 (by decide +kernel) (ns_aload_n 2 rfl rfl) rfl ?_
  refine nk_getC (f := (4, 1, 48)) (x := 188) (len := 3) (ci := 0) (k := 13) (pc' := 213) ja_okT mJ_394 (by decide +kernel) (by decide +kernel) (by decide +kernel) (by decide) t_l2 rfl ?_
  have t1 : nk_ar ja_Tt (ja_c l2 13) = some (1, 48) := nk_ta ja_okT t_l2 (by decide +kernel)
  refine nk_p (i := .iload_n 1) (len := 1) (pc' := 214) mJ_394 (by decide +kernel) (ns_iload_n 1 rfl rfl) rfl ?_
  refine nk_p (i := .aload_n 0) (len := 1) (pc' := 215) mJ_394 (by decide +kernel) (ns_aload_n 0 rfl rfl) rfl ?_
  refine nk_getM (cj := 3) (z := 0) (x := 15) (len := 3) (ci := 6) (k := 1) (pc' := 218) ja_okT mJ_394 (by decide +kernel) (by decide +kernel) (by decide +kernel) t_l0 rfl (fun t2 => ?_)
  refine nk_getI (y := (0, 0)) (x := 170) (len := 3) (ci := 3) (k := 12) (pc' := 221) ja_okT mJ_394 (by decide +kernel) (by decide +kernel) (by decide +kernel) t2 rfl ?_
  obtain ⟨h3, hr⟩ := nk_cke hr
  obtain ⟨S4, h5, hr⟩ := nk_lte hr
  refine nk_iast (len := 1) (N := 48) (pc' := 222) mJ_394 (by decide +kernel) t1 h3.1 h3.2 rfl rfl h5 ?_
  refine nk_p (i := .aload_n 0) (len := 1) (pc' := 223) mJ_394 (by decide +kernel) (ns_aload_n 0 rfl rfl) rfl ?_
  refine nk_getM (cj := 3) (z := 0) (x := 15) (len := 3) (ci := 6) (k := 1) (pc' := 226) ja_okT mJ_394 (by decide +kernel) (by decide +kernel) (by decide +kernel) t_l0 rfl (fun t6 => ?_)
  refine nk_p (i := .aload_n 2) (len := 1) (pc' := 227) mJ_394 (by decide +kernel) (ns_aload_n 2 rfl rfl) rfl ?_
  refine nk_getC (f := (4, 1, 48)) (x := 163) (len := 3) (ci := 0) (k := 10) (pc' := 230) ja_okT mJ_394 (by decide +kernel) (by decide +kernel) (by decide +kernel) (by decide) t_l2 rfl ?_
  have t7 : nk_ar ja_Tt (ja_c l2 10) = some (1, 48) := nk_ta ja_okT t_l2 (by decide +kernel)
  refine nk_p (i := .iload_n 1) (len := 1) (pc' := 231) mJ_394 (by decide +kernel) (ns_iload_n 1 rfl rfl) rfl ?_
  refine nk_iald (len := 1) (N := 48) (pc' := 232) mJ_394 (by decide +kernel) t7 h3.1 h3.2 rfl rfl ?_
  obtain ⟨r8, S9, h10, hr⟩ := nk_bde hr
  refine nk_callV (ci := 3) (n := 1) (x := 191) (len := 3) (j' := 301) (q' := 1) (r := r8) (S' := S9) (L2 := [(0, nk_r (S4.2 l0 1)), (1, nk_i (S4.1 (ja_c l2 10) l1.toNat))]) (rest := []) (st' := [nk_i r8]) (pc' := 235) mJ_394 (by decide +kernel) (by decide +kernel) rfl rfl t6 (Nat.le_of_ble_eq_true rfl) mJ_301 (Nat.le_of_ble_eq_true rfl) rfl (ja_X3_closes_ok zs _ _ _ _ t6 h10) rfl ?_
  refine nk_icond (c := .eq) (off := 7) (len := 3) (t := 242) (pc' := 238) mJ_394 (by decide +kernel) (by decide +kernel) rfl (fun hc => ?_) (fun hc => ?_)
  · have hr := nk_ifp (c := r8 = 0) hc hr
    refine nk_p (i := .aload_n 0) (len := 1) (pc' := 243) mJ_394 (by decide +kernel) (ns_aload_n 0 rfl rfl) rfl ?_
    refine nk_getI (y := (0, 0)) (x := 19) (len := 3) (ci := 6) (k := 2) (pc' := 246) ja_okT mJ_394 (by decide +kernel) (by decide +kernel) (by decide +kernel) t_l0 rfl ?_
    cases hr
    exact nk_iret (ty := .int) (len := 1) mJ_394 (by decide +kernel) rfl (nk_nar_i _)
  · have hr := nk_ifn (c := r8 = 0) hc hr
    refine nk_p (i := .iconst (-1)) (len := 1) (pc' := 239) mJ_394 (by decide +kernel) (ns_iconst (c := (-1)) (by decide +kernel)) rfl ?_
    refine nk_p (i := .goto 7) (len := 3) (pc' := 246) mJ_394 (by decide +kernel) (ns_goto (by decide +kernel)) rfl ?_
    cases hr
    exact nk_iret (ty := .int) (len := 1) mJ_394 (by decide +kernel) rfl (nk_nar_i _)
noncomputable def ja_X6_walkLines_b178 (rec62 : Nat → Int → Nat → Int → nk_S → Option (Int × nk_S)) (l0 : Nat) (l1 : Int) (l2 : Nat) (l4 : Int) (l6 : Int) (S : nk_S) : Option (Int × nk_S) :=
  if l6 < 0 then
    nk_bd (ja_X6_lineTokens l0 (S.1 l0 2) S) fun r1 S2 =>
    nk_lt (nk_wi S2 l0 2 (nk_w ((S.1 l0 2) + r1))) fun S4 =>
    nk_lt (nk_w (l4 + 1)) fun v6 =>
    rec62 l0 l1 l2 v6 S4
  else
    some (l6, S)
theorem ja_X6_walkLines_b178_ok (zs : List Int32) {rec62 : Nat → Int → Nat → Int → nk_S → Option (Int × nk_S)} (hrec62 : ∀ (l0 : Nat) (l1 : Int) (l2 : Nat) (l4 : Int) (S : nk_S) (R : Int × nk_S), nk_cl ja_Tt l0 = some 6 → nk_cl ja_Tt l2 = some 0 → rec62 l0 l1 l2 l4 S = some R → nk_K ja_Tt mi_Γ (mi_ev zs) 1 394 62 [(0, nk_r l0), (1, nk_i l1), (2, nk_r l2), (4, nk_i l4)] [] S R) : ∀ (l0 : Nat) (l1 : Int) (l2 : Nat) (l4 : Int) (l6 : Int) (S : nk_S) (R : Int × nk_S), nk_cl ja_Tt l0 = some 6 → nk_cl ja_Tt l2 = some 0 → ja_X6_walkLines_b178 rec62 l0 l1 l2 l4 l6 S = some R → nk_K ja_Tt mi_Γ (mi_ev zs) 1 394 178 [(0, nk_r l0), (1, nk_i l1), (2, nk_r l2), (4, nk_i l4), (6, nk_i l6)] [] S R := by
  intro l0 l1 l2 l4 l6 S R t_l0 t_l2 hr
  unfold ja_X6_walkLines_b178 at hr
  refine nk_p (i := .iload 6) (len := 2) (pc' := 180) mJ_394 (by decide +kernel) (ns_iload 4 rfl) rfl ?_
  refine nk_icond (c := .lt) (off := 6) (len := 3) (t := 186) (pc' := 183) mJ_394 (by decide +kernel) (by decide +kernel) rfl (fun hc => ?_) (fun hc => ?_)
  · have hr := nk_ifp (c := l6 < 0) hc hr
    refine nk_p (i := .aload_n 0) (len := 1) (pc' := 187) mJ_394 (by decide +kernel) (ns_aload_n 0 rfl rfl) rfl ?_
    refine nk_p (i := .dup) (len := 1) (pc' := 188) mJ_394 (by decide +kernel) (ns_dup rfl) rfl ?_
    refine nk_getI (y := (0, 0)) (x := 19) (len := 3) (ci := 6) (k := 2) (pc' := 191) ja_okT mJ_394 (by decide +kernel) (by decide +kernel) (by decide +kernel) t_l0 rfl ?_
    refine nk_p (i := .aload_n 0) (len := 1) (pc' := 192) mJ_394 (by decide +kernel) (ns_aload_n 0 rfl rfl) rfl ?_
    refine nk_p (i := .aload_n 0) (len := 1) (pc' := 193) mJ_394 (by decide +kernel) (ns_aload_n 0 rfl rfl) rfl ?_
    refine nk_getI (y := (0, 0)) (x := 19) (len := 3) (ci := 6) (k := 2) (pc' := 196) ja_okT mJ_394 (by decide +kernel) (by decide +kernel) (by decide +kernel) t_l0 rfl ?_
    obtain ⟨r1, S2, h3, hr⟩ := nk_bde hr
    refine nk_callV (ci := 6) (n := 1) (x := 185) (len := 3) (j' := 376) (q' := 1) (r := r1) (S' := S2) (L2 := [(0, nk_r l0), (1, nk_i (S.1 l0 2))]) (rest := [nk_i (S.1 l0 2), nk_r l0]) (st' := [nk_i r1, nk_i (S.1 l0 2), nk_r l0]) (pc' := 199) mJ_394 (by decide +kernel) (by decide +kernel) rfl rfl t_l0 (Nat.le_of_ble_eq_true rfl) mJ_376 (Nat.le_of_ble_eq_true rfl) rfl (ja_X6_lineTokens_ok zs _ _ _ _ t_l0 h3) rfl ?_
    refine nk_p (i := .iadd) (len := 1) (pc' := 200) mJ_394 (by decide +kernel) ns_iadd rfl ?_
    obtain ⟨S4, h5, hr⟩ := nk_lte hr
    refine nk_putI (y := (0, 0)) (ty := .int) (x := 19) (len := 3) (ci := 6) (k := 2) (pc' := 203) ja_okT mJ_394 (by decide +kernel) (by decide +kernel) (by decide +kernel) t_l0 (Or.inl rfl) rfl h5 ?_
    obtain ⟨v6, h7, hr⟩ := nk_lte hr
    refine nk_p (i := .iinc 4 1) (len := 3) (pc' := 206) mJ_394 (by decide +kernel) (ns_iinc (c := 1) (L' := [(4, nk_i v6), (0, nk_r l0), (1, nk_i l1), (2, nk_r l2), (6, nk_i l6)]) 3 rfl (by decide +kernel) h7 rfl (by decide +kernel)) rfl ?_
    refine nk_p (i := .goto (-144)) (len := 3) (pc' := 62) mJ_394 (by decide +kernel) (ns_goto (by decide +kernel)) rfl ?_
    refine nk_sub [1, 2, 3, 0] (L' := [(0, nk_r l0), (1, nk_i l1), (2, nk_r l2), (4, nk_i v6)]) rfl ?_
    exact hrec62 _ _ _ _ _ _ t_l0 t_l2 hr
  · have hr := nk_ifn (c := l6 < 0) hc hr
    refine nk_p (i := .iload 6) (len := 2) (pc' := 185) mJ_394 (by decide +kernel) (ns_iload 4 rfl) rfl ?_
    cases hr
    exact nk_iret (ty := .int) (len := 1) mJ_394 (by decide +kernel) rfl (nk_nar_i _)
noncomputable def ja_X6_walkLines_b141 (rec62 : Nat → Int → Nat → Int → nk_S → Option (Int × nk_S)) (l0 : Nat) (l1 : Int) (l2 : Nat) (l4 : Int) (s0 : Int) (S : nk_S) : Option (Int × nk_S) :=
  ja_X6_walkLines_b178 rec62 l0 l1 l2 l4 s0 S
theorem ja_X6_walkLines_b141_ok (zs : List Int32) {rec62 : Nat → Int → Nat → Int → nk_S → Option (Int × nk_S)} (hrec62 : ∀ (l0 : Nat) (l1 : Int) (l2 : Nat) (l4 : Int) (S : nk_S) (R : Int × nk_S), nk_cl ja_Tt l0 = some 6 → nk_cl ja_Tt l2 = some 0 → rec62 l0 l1 l2 l4 S = some R → nk_K ja_Tt mi_Γ (mi_ev zs) 1 394 62 [(0, nk_r l0), (1, nk_i l1), (2, nk_r l2), (4, nk_i l4)] [] S R) : ∀ (l0 : Nat) (l1 : Int) (l2 : Nat) (l4 : Int) (s0 : Int) (S : nk_S) (R : Int × nk_S), nk_cl ja_Tt l0 = some 6 → nk_cl ja_Tt l2 = some 0 → ja_X6_walkLines_b141 rec62 l0 l1 l2 l4 s0 S = some R → nk_K ja_Tt mi_Γ (mi_ev zs) 1 394 141 [(0, nk_r l0), (1, nk_i l1), (2, nk_r l2), (4, nk_i l4)] [nk_i s0] S R := by
  intro l0 l1 l2 l4 s0 S R t_l0 t_l2 hr
  unfold ja_X6_walkLines_b141 at hr
  refine nk_p (i := .istore 6) (len := 2) (pc' := 143) mJ_394 (by decide +kernel) (ns_istore (L' := [(6, nk_i s0), (0, nk_r l0), (1, nk_i l1), (2, nk_r l2), (4, nk_i l4)]) rfl rfl (by decide +kernel)) rfl ?_
  refine nk_p (i := .goto 35) (len := 3) (pc' := 178) mJ_394 (by decide +kernel) (ns_goto (by decide +kernel)) rfl ?_
  refine nk_sub [1, 2, 3, 4, 0] (L' := [(0, nk_r l0), (1, nk_i l1), (2, nk_r l2), (4, nk_i l4), (6, nk_i s0)]) rfl ?_
  exact ja_X6_walkLines_b178_ok zs hrec62 _ _ _ _ _ _ _ t_l0 t_l2 hr
noncomputable def ja_X6_walkLines_b62 (rec62 : Nat → Int → Nat → Int → nk_S → Option (Int × nk_S)) (l0 : Nat) (l1 : Int) (l2 : Nat) (l4 : Int) (S : nk_S) : Option (Int × nk_S) :=
  if 16000 ≤ l4 then
    ja_X6_walkLines_b209 l0 l1 l2 S
  else
    nk_bd (ja_X10_at (ja_c l0 0) (S.1 l0 2) S) fun r2 S3 =>
    if r2 = 58 then
      ja_X6_walkLines_b209 l0 l1 l2 S3
    else
      nk_bd (ja_X10_at (ja_c l0 0) (S3.1 l0 2) S3) fun r5 S6 =>
      nk_bd (ja_X10_at (ja_c l0 0) (nk_w ((S6.1 l0 2) + 1)) S6) fun r8 S9 =>
      if r8 = 59 then
        nk_bd (ja_X10_firstOf (ja_c l0 0) r5 S9) fun r17 S18 =>
        if r17 = (S18.1 l0 2) then
          ja_X6_walkLines_b141 rec62 l0 l1 l2 l4 (-1) S18
        else
          ja_X6_walkLines_b141 rec62 l0 l1 l2 l4 (S18.1 l0 2) S18
      else
        if r5 = 46 then
          nk_bd (ja_X6_resolveCatch l0 l1 (S9.1 l0 2) S9) fun r14 S15 =>
          ja_X6_walkLines_b178 rec62 l0 l1 l2 l4 r14 S15
        else
          nk_bd (ja_X6_resolveInstruction l0 l1 (S9.1 l0 2) S9) fun r11 S12 =>
          ja_X6_walkLines_b178 rec62 l0 l1 l2 l4 r11 S12
theorem ja_X6_walkLines_b62_ok (zs : List Int32) {rec62 : Nat → Int → Nat → Int → nk_S → Option (Int × nk_S)} (hrec62 : ∀ (l0 : Nat) (l1 : Int) (l2 : Nat) (l4 : Int) (S : nk_S) (R : Int × nk_S), nk_cl ja_Tt l0 = some 6 → nk_cl ja_Tt l2 = some 0 → rec62 l0 l1 l2 l4 S = some R → nk_K ja_Tt mi_Γ (mi_ev zs) 1 394 62 [(0, nk_r l0), (1, nk_i l1), (2, nk_r l2), (4, nk_i l4)] [] S R) : ∀ (l0 : Nat) (l1 : Int) (l2 : Nat) (l4 : Int) (S : nk_S) (R : Int × nk_S), nk_cl ja_Tt l0 = some 6 → nk_cl ja_Tt l2 = some 0 → ja_X6_walkLines_b62 rec62 l0 l1 l2 l4 S = some R → nk_K ja_Tt mi_Γ (mi_ev zs) 1 394 62 [(0, nk_r l0), (1, nk_i l1), (2, nk_r l2), (4, nk_i l4)] [] S R := by
  intro l0 l1 l2 l4 S R t_l0 t_l2 hr
  unfold ja_X6_walkLines_b62 at hr
  refine nk_p (i := .iload 4) (len := 2) (pc' := 64) mJ_394 (by decide +kernel) (ns_iload 3 rfl) rfl ?_
  refine nk_p (i := .sipush 16000) (len := 3) (pc' := 67) mJ_394 (by decide +kernel) (ns_sipush (c := 16000) (by decide +kernel)) rfl ?_
  refine nk_icmp (c := .ge) (off := 142) (len := 3) (t := 209) (pc' := 70) mJ_394 (by decide +kernel) (by decide +kernel) rfl (fun hc => ?_) (fun hc => ?_)
  · have hr := nk_ifp (c := 16000 ≤ l4) hc hr
    refine nk_sub [0, 1, 2] (L' := [(0, nk_r l0), (1, nk_i l1), (2, nk_r l2)]) rfl ?_
    exact ja_X6_walkLines_b209_ok zs _ _ _ _ _ t_l0 t_l2 hr
  · have hr := nk_ifn (c := 16000 ≤ l4) hc hr
    refine nk_p (i := .aload_n 0) (len := 1) (pc' := 71) mJ_394 (by decide +kernel) (ns_aload_n 0 rfl rfl) rfl ?_
    refine nk_getC (f := (2, 10, 0)) (x := 9) (len := 3) (ci := 6) (k := 0) (pc' := 74) ja_okT mJ_394 (by decide +kernel) (by decide +kernel) (by decide +kernel) (by decide) t_l0 rfl ?_
    have t1 : nk_cl ja_Tt (ja_c l0 0) = some 10 := nk_tc (y := 0) ja_okT t_l0 (by decide +kernel)
    refine nk_p (i := .aload_n 0) (len := 1) (pc' := 75) mJ_394 (by decide +kernel) (ns_aload_n 0 rfl rfl) rfl ?_
    refine nk_getI (y := (0, 0)) (x := 19) (len := 3) (ci := 6) (k := 2) (pc' := 78) ja_okT mJ_394 (by decide +kernel) (by decide +kernel) (by decide +kernel) t_l0 rfl ?_
    obtain ⟨r2, S3, h4, hr⟩ := nk_bde hr
    refine nk_callV (ci := 10) (n := 1) (x := 39) (len := 3) (j' := 32) (q' := 1) (r := r2) (S' := S3) (L2 := [(0, nk_r (ja_c l0 0)), (1, nk_i (S.1 l0 2))]) (rest := []) (st' := [nk_i r2]) (pc' := 81) mJ_394 (by decide +kernel) (by decide +kernel) rfl rfl t1 (Nat.le_of_ble_eq_true rfl) mJ_32 (Nat.le_of_ble_eq_true rfl) rfl (ja_X10_at_ok zs _ _ _ _ t1 h4) rfl ?_
    refine nk_p (i := .bipush 58) (len := 2) (pc' := 83) mJ_394 (by decide +kernel) (ns_bipush (c := 58) (by decide +kernel)) rfl ?_
    refine nk_icmp (c := .eq) (off := 126) (len := 3) (t := 209) (pc' := 86) mJ_394 (by decide +kernel) (by decide +kernel) rfl (fun hc => ?_) (fun hc => ?_)
    · have hr := nk_ifp (c := r2 = 58) hc hr
      refine nk_sub [0, 1, 2] (L' := [(0, nk_r l0), (1, nk_i l1), (2, nk_r l2)]) rfl ?_
      exact ja_X6_walkLines_b209_ok zs _ _ _ _ _ t_l0 t_l2 hr
    · have hr := nk_ifn (c := r2 = 58) hc hr
      refine nk_p (i := .aload_n 0) (len := 1) (pc' := 87) mJ_394 (by decide +kernel) (ns_aload_n 0 rfl rfl) rfl ?_
      refine nk_getC (f := (2, 10, 0)) (x := 9) (len := 3) (ci := 6) (k := 0) (pc' := 90) ja_okT mJ_394 (by decide +kernel) (by decide +kernel) (by decide +kernel) (by decide) t_l0 rfl ?_
      refine nk_p (i := .aload_n 0) (len := 1) (pc' := 91) mJ_394 (by decide +kernel) (ns_aload_n 0 rfl rfl) rfl ?_
      refine nk_getI (y := (0, 0)) (x := 19) (len := 3) (ci := 6) (k := 2) (pc' := 94) ja_okT mJ_394 (by decide +kernel) (by decide +kernel) (by decide +kernel) t_l0 rfl ?_
      obtain ⟨r5, S6, h7, hr⟩ := nk_bde hr
      refine nk_callV (ci := 10) (n := 1) (x := 39) (len := 3) (j' := 32) (q' := 1) (r := r5) (S' := S6) (L2 := [(0, nk_r (ja_c l0 0)), (1, nk_i (S3.1 l0 2))]) (rest := []) (st' := [nk_i r5]) (pc' := 97) mJ_394 (by decide +kernel) (by decide +kernel) rfl rfl t1 (Nat.le_of_ble_eq_true rfl) mJ_32 (Nat.le_of_ble_eq_true rfl) rfl (ja_X10_at_ok zs _ _ _ _ t1 h7) rfl ?_
      refine nk_p (i := .istore 5) (len := 2) (pc' := 99) mJ_394 (by decide +kernel) (ns_istore (L' := [(5, nk_i r5), (0, nk_r l0), (1, nk_i l1), (2, nk_r l2), (4, nk_i l4)]) rfl rfl (by decide +kernel)) rfl ?_
      refine nk_p (i := .aload_n 0) (len := 1) (pc' := 100) mJ_394 (by decide +kernel) (ns_aload_n 1 rfl rfl) rfl ?_
      refine nk_getC (f := (2, 10, 0)) (x := 9) (len := 3) (ci := 6) (k := 0) (pc' := 103) ja_okT mJ_394 (by decide +kernel) (by decide +kernel) (by decide +kernel) (by decide) t_l0 rfl ?_
      refine nk_p (i := .aload_n 0) (len := 1) (pc' := 104) mJ_394 (by decide +kernel) (ns_aload_n 1 rfl rfl) rfl ?_
      refine nk_getI (y := (0, 0)) (x := 19) (len := 3) (ci := 6) (k := 2) (pc' := 107) ja_okT mJ_394 (by decide +kernel) (by decide +kernel) (by decide +kernel) t_l0 rfl ?_
      refine nk_p (i := .iconst 1) (len := 1) (pc' := 108) mJ_394 (by decide +kernel) (ns_iconst (c := 1) (by decide +kernel)) rfl ?_
      refine nk_p (i := .iadd) (len := 1) (pc' := 109) mJ_394 (by decide +kernel) ns_iadd rfl ?_
      obtain ⟨r8, S9, h10, hr⟩ := nk_bde hr
      refine nk_callV (ci := 10) (n := 1) (x := 39) (len := 3) (j' := 32) (q' := 1) (r := r8) (S' := S9) (L2 := [(0, nk_r (ja_c l0 0)), (1, nk_i (nk_w ((S6.1 l0 2) + 1)))]) (rest := []) (st' := [nk_i r8]) (pc' := 112) mJ_394 (by decide +kernel) (by decide +kernel) rfl rfl t1 (Nat.le_of_ble_eq_true rfl) mJ_32 (Nat.le_of_ble_eq_true rfl) rfl (ja_X10_at_ok zs _ _ _ _ t1 h10) rfl ?_
      refine nk_p (i := .bipush 59) (len := 2) (pc' := 114) mJ_394 (by decide +kernel) (ns_bipush (c := 59) (by decide +kernel)) rfl ?_
      refine nk_icmp (c := .ne) (off := 32) (len := 3) (t := 146) (pc' := 117) mJ_394 (by decide +kernel) (by decide +kernel) rfl (fun hc => ?_) (fun hc => ?_)
      · have hr := nk_ifn (c := r8 = 59) hc hr
        refine nk_p (i := .iload 5) (len := 2) (pc' := 148) mJ_394 (by decide +kernel) (ns_iload 0 rfl) rfl ?_
        refine nk_p (i := .bipush 46) (len := 2) (pc' := 150) mJ_394 (by decide +kernel) (ns_bipush (c := 46) (by decide +kernel)) rfl ?_
        refine nk_icmp (c := .ne) (off := 17) (len := 3) (t := 167) (pc' := 153) mJ_394 (by decide +kernel) (by decide +kernel) rfl (fun hc => ?_) (fun hc => ?_)
        · have hr := nk_ifn (c := r5 = 46) hc hr
          refine nk_p (i := .aload_n 0) (len := 1) (pc' := 168) mJ_394 (by decide +kernel) (ns_aload_n 1 rfl rfl) rfl ?_
          refine nk_p (i := .iload_n 1) (len := 1) (pc' := 169) mJ_394 (by decide +kernel) (ns_iload_n 2 rfl rfl) rfl ?_
          refine nk_p (i := .aload_n 0) (len := 1) (pc' := 170) mJ_394 (by decide +kernel) (ns_aload_n 1 rfl rfl) rfl ?_
          refine nk_getI (y := (0, 0)) (x := 19) (len := 3) (ci := 6) (k := 2) (pc' := 173) ja_okT mJ_394 (by decide +kernel) (by decide +kernel) (by decide +kernel) t_l0 rfl ?_
          obtain ⟨r11, S12, h13, hr⟩ := nk_bde hr
          refine nk_callV (ci := 6) (n := 2) (x := 182) (len := 3) (j' := 381) (q' := 1) (r := r11) (S' := S12) (L2 := [(0, nk_r l0), (1, nk_i l1), (2, nk_i (S9.1 l0 2))]) (rest := []) (st' := [nk_i r11]) (pc' := 176) mJ_394 (by decide +kernel) (by decide +kernel) rfl rfl t_l0 (Nat.le_of_ble_eq_true rfl) mJ_381 (Nat.le_of_ble_eq_true rfl) rfl (ja_X6_resolveInstruction_ok zs _ _ _ _ _ t_l0 h13) rfl ?_
          refine nk_p (i := .istore 6) (len := 2) (pc' := 178) mJ_394 (by decide +kernel) (ns_istore (L' := [(6, nk_i r11), (5, nk_i r5), (0, nk_r l0), (1, nk_i l1), (2, nk_r l2), (4, nk_i l4)]) rfl rfl (by decide +kernel)) rfl ?_
          refine nk_sub [2, 3, 4, 5, 0] (L' := [(0, nk_r l0), (1, nk_i l1), (2, nk_r l2), (4, nk_i l4), (6, nk_i r11)]) rfl ?_
          exact ja_X6_walkLines_b178_ok zs hrec62 _ _ _ _ _ _ _ t_l0 t_l2 hr
        · have hr := nk_ifp (c := r5 = 46) (Decidable.of_not_not hc) hr
          refine nk_p (i := .aload_n 0) (len := 1) (pc' := 154) mJ_394 (by decide +kernel) (ns_aload_n 1 rfl rfl) rfl ?_
          refine nk_p (i := .iload_n 1) (len := 1) (pc' := 155) mJ_394 (by decide +kernel) (ns_iload_n 2 rfl rfl) rfl ?_
          refine nk_p (i := .aload_n 0) (len := 1) (pc' := 156) mJ_394 (by decide +kernel) (ns_aload_n 1 rfl rfl) rfl ?_
          refine nk_getI (y := (0, 0)) (x := 19) (len := 3) (ci := 6) (k := 2) (pc' := 159) ja_okT mJ_394 (by decide +kernel) (by decide +kernel) (by decide +kernel) t_l0 rfl ?_
          obtain ⟨r14, S15, h16, hr⟩ := nk_bde hr
          refine nk_callV (ci := 6) (n := 2) (x := 179) (len := 3) (j' := 378) (q' := 1) (r := r14) (S' := S15) (L2 := [(0, nk_r l0), (1, nk_i l1), (2, nk_i (S9.1 l0 2))]) (rest := []) (st' := [nk_i r14]) (pc' := 162) mJ_394 (by decide +kernel) (by decide +kernel) rfl rfl t_l0 (Nat.le_of_ble_eq_true rfl) mJ_378 (Nat.le_of_ble_eq_true rfl) rfl (ja_X6_resolveCatch_ok zs _ _ _ _ _ t_l0 h16) rfl ?_
          refine nk_p (i := .istore 6) (len := 2) (pc' := 164) mJ_394 (by decide +kernel) (ns_istore (L' := [(6, nk_i r14), (5, nk_i r5), (0, nk_r l0), (1, nk_i l1), (2, nk_r l2), (4, nk_i l4)]) rfl rfl (by decide +kernel)) rfl ?_
          refine nk_p (i := .goto 14) (len := 3) (pc' := 178) mJ_394 (by decide +kernel) (ns_goto (by decide +kernel)) rfl ?_
          refine nk_sub [2, 3, 4, 5, 0] (L' := [(0, nk_r l0), (1, nk_i l1), (2, nk_r l2), (4, nk_i l4), (6, nk_i r14)]) rfl ?_
          exact ja_X6_walkLines_b178_ok zs hrec62 _ _ _ _ _ _ _ t_l0 t_l2 hr
      · have hr := nk_ifp (c := r8 = 59) (Decidable.of_not_not hc) hr
        refine nk_p (i := .aload_n 0) (len := 1) (pc' := 118) mJ_394 (by decide +kernel) (ns_aload_n 1 rfl rfl) rfl ?_
        refine nk_getC (f := (2, 10, 0)) (x := 9) (len := 3) (ci := 6) (k := 0) (pc' := 121) ja_okT mJ_394 (by decide +kernel) (by decide +kernel) (by decide +kernel) (by decide) t_l0 rfl ?_
        refine nk_p (i := .iload 5) (len := 2) (pc' := 123) mJ_394 (by decide +kernel) (ns_iload 0 rfl) rfl ?_
        obtain ⟨r17, S18, h19, hr⟩ := nk_bde hr
        refine nk_callV (ci := 10) (n := 1) (x := 101) (len := 3) (j' := 35) (q' := 1) (r := r17) (S' := S18) (L2 := [(0, nk_r (ja_c l0 0)), (1, nk_i r5)]) (rest := []) (st' := [nk_i r17]) (pc' := 126) mJ_394 (by decide +kernel) (by decide +kernel) rfl rfl t1 (Nat.le_of_ble_eq_true rfl) mJ_35 (Nat.le_of_ble_eq_true rfl) rfl (ja_X10_firstOf_ok zs _ _ _ _ t1 h19) rfl ?_
        refine nk_p (i := .aload_n 0) (len := 1) (pc' := 127) mJ_394 (by decide +kernel) (ns_aload_n 1 rfl rfl) rfl ?_
        refine nk_getI (y := (0, 0)) (x := 19) (len := 3) (ci := 6) (k := 2) (pc' := 130) ja_okT mJ_394 (by decide +kernel) (by decide +kernel) (by decide +kernel) t_l0 rfl ?_
        refine nk_icmp (c := .ne) (off := 7) (len := 3) (t := 137) (pc' := 133) mJ_394 (by decide +kernel) (by decide +kernel) rfl (fun hc => ?_) (fun hc => ?_)
        · have hr := nk_ifn (c := r17 = (S18.1 l0 2)) hc hr
          refine nk_p (i := .aload_n 0) (len := 1) (pc' := 138) mJ_394 (by decide +kernel) (ns_aload_n 1 rfl rfl) rfl ?_
          refine nk_getI (y := (0, 0)) (x := 19) (len := 3) (ci := 6) (k := 2) (pc' := 141) ja_okT mJ_394 (by decide +kernel) (by decide +kernel) (by decide +kernel) t_l0 rfl ?_
          refine nk_sub [1, 2, 3, 4] (L' := [(0, nk_r l0), (1, nk_i l1), (2, nk_r l2), (4, nk_i l4)]) rfl ?_
          exact ja_X6_walkLines_b141_ok zs hrec62 _ _ _ _ _ _ _ t_l0 t_l2 hr
        · have hr := nk_ifp (c := r17 = (S18.1 l0 2)) (Decidable.of_not_not hc) hr
          refine nk_p (i := .iconst (-1)) (len := 1) (pc' := 134) mJ_394 (by decide +kernel) (ns_iconst (c := (-1)) (by decide +kernel)) rfl ?_
          refine nk_p (i := .goto 7) (len := 3) (pc' := 141) mJ_394 (by decide +kernel) (ns_goto (by decide +kernel)) rfl ?_
          refine nk_sub [1, 2, 3, 4] (L' := [(0, nk_r l0), (1, nk_i l1), (2, nk_r l2), (4, nk_i l4)]) rfl ?_
          exact ja_X6_walkLines_b141_ok zs hrec62 _ _ _ _ _ _ _ t_l0 t_l2 hr
noncomputable def ja_X6_walkLines_L62 : Nat → Nat → Int → Nat → Int → nk_S → Option (Int × nk_S)
  | 0, _, _, _, _, _ => none
  | n + 1, l0, l1, l2, l4, S => ja_X6_walkLines_b62 (ja_X6_walkLines_L62 n) l0 l1 l2 l4 S
theorem ja_X6_walkLines_L62_ok (zs : List Int32) : ∀ n : Nat, ∀ (l0 : Nat) (l1 : Int) (l2 : Nat) (l4 : Int) (S : nk_S) (R : Int × nk_S), nk_cl ja_Tt l0 = some 6 → nk_cl ja_Tt l2 = some 0 → ja_X6_walkLines_L62 n l0 l1 l2 l4 S = some R → nk_K ja_Tt mi_Γ (mi_ev zs) 1 394 62 [(0, nk_r l0), (1, nk_i l1), (2, nk_r l2), (4, nk_i l4)] [] S R := by
  intro n
  induction n with
  | zero => intro _ _ _ _ _ _ _ _ hr; cases hr
  | succ n ih => intro l0 l1 l2 l4 S R t_l0 t_l2 hr; exact ja_X6_walkLines_b62_ok zs ih l0 l1 l2 l4 S R t_l0 t_l2 hr
noncomputable def ja_X6_walkLines (l0 : Nat) (l1 : Int) (S : nk_S) : Option (Int × nk_S) :=
  if 0 ≤ l1 ∧ l1 < 48 then
  nk_lt (S.1 (ja_c (ja_c (S.2 l0 1) 1) 9) l1.toNat) fun v5 =>
  nk_lt (nk_wi S (ja_c (ja_c (S.2 l0 1) 1) 10) l1.toNat (S.1 (S.2 l0 1) 3)) fun S9 =>
  nk_lt (nk_wi S9 (ja_c (ja_c (S.2 l0 1) 1) 12) l1.toNat (S9.1 (S9.2 l0 1) 12)) fun S13 =>
  nk_bd (ja_X6_markLabels l0 v5 S13) fun r16 S17 =>
  nk_lt (nk_wi S17 (ja_c (ja_c (S.2 l0 1) 1) 11) l1.toNat r16) fun S19 =>
  nk_lt (nk_wi S19 l0 2 (nk_w (v5 + 1))) fun S21 =>
  ja_X6_walkLines_L62 nk_big l0 l1 (ja_c (S.2 l0 1) 1) 0 S21
  else none
theorem ja_X6_walkLines_ok (zs : List Int32) : ∀ (l0 : Nat) (l1 : Int) (S : nk_S) (R : Int × nk_S), nk_cl ja_Tt l0 = some 6 → ja_X6_walkLines l0 l1 S = some R → nk_K ja_Tt mi_Γ (mi_ev zs) 1 394 0 [(0, nk_r l0), (1, nk_i l1)] [] S R := by
  intro l0 l1 S R t_l0 hr
  unfold ja_X6_walkLines at hr
  refine nk_p (i := .aload_n 0) (len := 1) (pc' := 1) mJ_394 (by decide +kernel) (ns_aload_n 0 rfl rfl) rfl ?_
  refine nk_getM (cj := 3) (z := 0) (x := 15) (len := 3) (ci := 6) (k := 1) (pc' := 4) ja_okT mJ_394 (by decide +kernel) (by decide +kernel) (by decide +kernel) t_l0 rfl (fun t1 => ?_)
  refine nk_getC (f := (2, 0, 0)) (x := 81) (len := 3) (ci := 3) (k := 1) (pc' := 7) ja_okT mJ_394 (by decide +kernel) (by decide +kernel) (by decide +kernel) (by decide) t1 rfl ?_
  have t2 : nk_cl ja_Tt (ja_c (S.2 l0 1) 1) = some 0 := nk_tc (y := 0) ja_okT t1 (by decide +kernel)
  refine nk_p (i := .astore_n 2) (len := 1) (pc' := 8) mJ_394 (by decide +kernel) (ns_astore_n (L' := [(2, nk_r (ja_c (S.2 l0 1) 1)), (0, nk_r l0), (1, nk_i l1)]) rfl rfl (by decide +kernel)) rfl ?_
  refine nk_p (i := .aload_n 2) (len := 1) (pc' := 9) mJ_394 (by decide +kernel) (ns_aload_n 0 rfl rfl) rfl ?_
  refine nk_getC (f := (4, 1, 48)) (x := 160) (len := 3) (ci := 0) (k := 9) (pc' := 12) ja_okT mJ_394 (by decide +kernel) (by decide +kernel) (by decide +kernel) (by decide) t2 rfl ?_
  have t3 : nk_ar ja_Tt (ja_c (ja_c (S.2 l0 1) 1) 9) = some (1, 48) := nk_ta ja_okT t2 (by decide +kernel)
  refine nk_p (i := .iload_n 1) (len := 1) (pc' := 13) mJ_394 (by decide +kernel) (ns_iload_n 2 rfl rfl) rfl ?_
  obtain ⟨h4, hr⟩ := nk_cke hr
  refine nk_iald (len := 1) (N := 48) (pc' := 14) mJ_394 (by decide +kernel) t3 h4.1 h4.2 rfl rfl ?_
  obtain ⟨v5, h6, hr⟩ := nk_lte hr
  refine nk_p (i := .istore_n 3) (len := 1) (pc' := 15) mJ_394 (by decide +kernel) (ns_istore_n (L' := [(3, nk_i v5), (2, nk_r (ja_c (S.2 l0 1) 1)), (0, nk_r l0), (1, nk_i l1)]) h6 rfl rfl (by decide +kernel)) rfl ?_
  refine nk_p (i := .aload_n 2) (len := 1) (pc' := 16) mJ_394 (by decide +kernel) (ns_aload_n 1 rfl rfl) rfl ?_
  refine nk_getC (f := (4, 1, 48)) (x := 163) (len := 3) (ci := 0) (k := 10) (pc' := 19) ja_okT mJ_394 (by decide +kernel) (by decide +kernel) (by decide +kernel) (by decide) t2 rfl ?_
  have t7 : nk_ar ja_Tt (ja_c (ja_c (S.2 l0 1) 1) 10) = some (1, 48) := nk_ta ja_okT t2 (by decide +kernel)
  refine nk_p (i := .iload_n 1) (len := 1) (pc' := 20) mJ_394 (by decide +kernel) (ns_iload_n 3 rfl rfl) rfl ?_
  refine nk_p (i := .aload_n 0) (len := 1) (pc' := 21) mJ_394 (by decide +kernel) (ns_aload_n 2 rfl rfl) rfl ?_
  refine nk_getM (cj := 3) (z := 0) (x := 15) (len := 3) (ci := 6) (k := 1) (pc' := 24) ja_okT mJ_394 (by decide +kernel) (by decide +kernel) (by decide +kernel) t_l0 rfl (fun t8 => ?_)
  refine nk_getI (y := (0, 0)) (x := 166) (len := 3) (ci := 3) (k := 3) (pc' := 27) ja_okT mJ_394 (by decide +kernel) (by decide +kernel) (by decide +kernel) t8 rfl ?_
  obtain ⟨S9, h10, hr⟩ := nk_lte hr
  refine nk_iast (len := 1) (N := 48) (pc' := 28) mJ_394 (by decide +kernel) t7 h4.1 h4.2 rfl rfl h10 ?_
  refine nk_p (i := .aload_n 2) (len := 1) (pc' := 29) mJ_394 (by decide +kernel) (ns_aload_n 1 rfl rfl) rfl ?_
  refine nk_getC (f := (4, 1, 48)) (x := 167) (len := 3) (ci := 0) (k := 12) (pc' := 32) ja_okT mJ_394 (by decide +kernel) (by decide +kernel) (by decide +kernel) (by decide) t2 rfl ?_
  have t11 : nk_ar ja_Tt (ja_c (ja_c (S.2 l0 1) 1) 12) = some (1, 48) := nk_ta ja_okT t2 (by decide +kernel)
  refine nk_p (i := .iload_n 1) (len := 1) (pc' := 33) mJ_394 (by decide +kernel) (ns_iload_n 3 rfl rfl) rfl ?_
  refine nk_p (i := .aload_n 0) (len := 1) (pc' := 34) mJ_394 (by decide +kernel) (ns_aload_n 2 rfl rfl) rfl ?_
  refine nk_getM (cj := 3) (z := 0) (x := 15) (len := 3) (ci := 6) (k := 1) (pc' := 37) ja_okT mJ_394 (by decide +kernel) (by decide +kernel) (by decide +kernel) t_l0 rfl (fun t12 => ?_)
  refine nk_getI (y := (0, 0)) (x := 170) (len := 3) (ci := 3) (k := 12) (pc' := 40) ja_okT mJ_394 (by decide +kernel) (by decide +kernel) (by decide +kernel) t12 rfl ?_
  obtain ⟨S13, h14, hr⟩ := nk_lte hr
  refine nk_iast (len := 1) (N := 48) (pc' := 41) mJ_394 (by decide +kernel) t11 h4.1 h4.2 rfl rfl h14 ?_
  refine nk_p (i := .aload_n 2) (len := 1) (pc' := 42) mJ_394 (by decide +kernel) (ns_aload_n 1 rfl rfl) rfl ?_
  refine nk_getC (f := (4, 1, 48)) (x := 173) (len := 3) (ci := 0) (k := 11) (pc' := 45) ja_okT mJ_394 (by decide +kernel) (by decide +kernel) (by decide +kernel) (by decide) t2 rfl ?_
  have t15 : nk_ar ja_Tt (ja_c (ja_c (S.2 l0 1) 1) 11) = some (1, 48) := nk_ta ja_okT t2 (by decide +kernel)
  refine nk_p (i := .iload_n 1) (len := 1) (pc' := 46) mJ_394 (by decide +kernel) (ns_iload_n 3 rfl rfl) rfl ?_
  refine nk_p (i := .aload_n 0) (len := 1) (pc' := 47) mJ_394 (by decide +kernel) (ns_aload_n 2 rfl rfl) rfl ?_
  refine nk_p (i := .iload_n 3) (len := 1) (pc' := 48) mJ_394 (by decide +kernel) (ns_iload_n 0 rfl rfl) rfl ?_
  obtain ⟨r16, S17, h18, hr⟩ := nk_bde hr
  refine nk_callV (ci := 6) (n := 1) (x := 176) (len := 3) (j' := 377) (q' := 1) (r := r16) (S' := S17) (L2 := [(0, nk_r l0), (1, nk_i v5)]) (rest := [nk_i l1, nk_r (ja_c (ja_c (S.2 l0 1) 1) 11)]) (st' := [nk_i r16, nk_i l1, nk_r (ja_c (ja_c (S.2 l0 1) 1) 11)]) (pc' := 51) mJ_394 (by decide +kernel) (by decide +kernel) rfl rfl t_l0 (Nat.le_of_ble_eq_true rfl) mJ_377 (Nat.le_of_ble_eq_true rfl) rfl (ja_X6_markLabels_ok zs _ _ _ _ t_l0 h18) rfl ?_
  obtain ⟨S19, h20, hr⟩ := nk_lte hr
  refine nk_iast (len := 1) (N := 48) (pc' := 52) mJ_394 (by decide +kernel) t15 h4.1 h4.2 rfl rfl h20 ?_
  refine nk_p (i := .aload_n 0) (len := 1) (pc' := 53) mJ_394 (by decide +kernel) (ns_aload_n 2 rfl rfl) rfl ?_
  refine nk_p (i := .iload_n 3) (len := 1) (pc' := 54) mJ_394 (by decide +kernel) (ns_iload_n 0 rfl rfl) rfl ?_
  refine nk_p (i := .iconst 1) (len := 1) (pc' := 55) mJ_394 (by decide +kernel) (ns_iconst (c := 1) (by decide +kernel)) rfl ?_
  refine nk_p (i := .iadd) (len := 1) (pc' := 56) mJ_394 (by decide +kernel) ns_iadd rfl ?_
  obtain ⟨S21, h22, hr⟩ := nk_lte hr
  refine nk_putI (y := (0, 0)) (ty := .int) (x := 19) (len := 3) (ci := 6) (k := 2) (pc' := 59) ja_okT mJ_394 (by decide +kernel) (by decide +kernel) (by decide +kernel) t_l0 (Or.inl rfl) rfl h22 ?_
  refine nk_p (i := .iconst 0) (len := 1) (pc' := 60) mJ_394 (by decide +kernel) (ns_iconst (c := 0) (by decide +kernel)) rfl ?_
  refine nk_p (i := .istore 4) (len := 2) (pc' := 62) mJ_394 (by decide +kernel) (ns_istore (L' := [(4, nk_i 0), (3, nk_i v5), (2, nk_r (ja_c (S.2 l0 1) 1)), (0, nk_r l0), (1, nk_i l1)]) rfl rfl (by decide +kernel)) rfl ?_
  refine nk_sub [3, 4, 2, 0] (L' := [(0, nk_r l0), (1, nk_i l1), (2, nk_r (ja_c (S.2 l0 1) 1)), (4, nk_i 0)]) rfl ?_
  exact ja_X6_walkLines_L62_ok zs nk_big _ _ _ _ _ _ t_l0 t2 hr
/-! SafeCode$Reader resolveNames (LSafeCode$Program;)I -/
noncomputable def ja_X6_resolveNames_b58 (l0 : Nat) (l2 : Int) (S : nk_S) : Option (Int × nk_S) :=
  if l2 < 0 then
    nk_bd (ja_X0_fillRuns (ja_c (S.2 l0 1) 1) (ja_c (S.2 l0 1) 0) S) fun r5 S6 =>
    nk_bd (ja_X10_firstOf (ja_c l0 0) 68 S6) fun r12 S13 =>
    nk_bd (ja_X0_mainOf (ja_c (S6.2 l0 1) 1) r12 S13) fun r15 S16 =>
    nk_lt (nk_wi S16 (ja_c (S6.2 l0 1) 1) 1 r15) fun S18 =>
    if 0 ≤ (S18.1 (ja_c (S18.2 l0 1) 1) 1) then
      some ((-1), S18)
    else
      some ((S18.1 (ja_c l0 0) 4), S18)
  else
    some (l2, S)
theorem ja_X6_resolveNames_b58_ok (zs : List Int32) : ∀ (l0 : Nat) (l2 : Int) (S : nk_S) (R : Int × nk_S), nk_cl ja_Tt l0 = some 6 → ja_X6_resolveNames_b58 l0 l2 S = some R → nk_K ja_Tt mi_Γ (mi_ev zs) 1 383 58 [(0, nk_r l0), (2, nk_i l2)] [] S R := by
  intro l0 l2 S R t_l0 hr
  unfold ja_X6_resolveNames_b58 at hr
  refine nk_p (i := .iload_n 2) (len := 1) (pc' := 59) mJ_383 (by decide +kernel) (ns_iload_n 1 rfl rfl) rfl ?_
  refine nk_icond (c := .lt) (off := 5) (len := 3) (t := 64) (pc' := 62) mJ_383 (by decide +kernel) (by decide +kernel) rfl (fun hc => ?_) (fun hc => ?_)
  · have hr := nk_ifp (c := l2 < 0) hc hr
    refine nk_p (i := .aload_n 0) (len := 1) (pc' := 65) mJ_383 (by decide +kernel) (ns_aload_n 0 rfl rfl) rfl ?_
    refine nk_getM (cj := 3) (z := 0) (x := 15) (len := 3) (ci := 6) (k := 1) (pc' := 68) ja_okT mJ_383 (by decide +kernel) (by decide +kernel) (by decide +kernel) t_l0 rfl (fun t1 => ?_)
    refine nk_getC (f := (2, 0, 0)) (x := 81) (len := 3) (ci := 3) (k := 1) (pc' := 71) ja_okT mJ_383 (by decide +kernel) (by decide +kernel) (by decide +kernel) (by decide) t1 rfl ?_
    have t2 : nk_cl ja_Tt (ja_c (S.2 l0 1) 1) = some 0 := nk_tc (y := 0) ja_okT t1 (by decide +kernel)
    refine nk_p (i := .aload_n 0) (len := 1) (pc' := 72) mJ_383 (by decide +kernel) (ns_aload_n 0 rfl rfl) rfl ?_
    refine nk_getM (cj := 3) (z := 0) (x := 15) (len := 3) (ci := 6) (k := 1) (pc' := 75) ja_okT mJ_383 (by decide +kernel) (by decide +kernel) (by decide +kernel) t_l0 rfl (fun t3 => ?_)
    refine nk_getC (f := (2, 1, 0)) (x := 93) (len := 3) (ci := 3) (k := 0) (pc' := 78) ja_okT mJ_383 (by decide +kernel) (by decide +kernel) (by decide +kernel) (by decide) t3 rfl ?_
    have t4 : nk_cl ja_Tt (ja_c (S.2 l0 1) 0) = some 1 := nk_tc (y := 0) ja_okT t3 (by decide +kernel)
    obtain ⟨r5, S6, h7, hr⟩ := nk_bde hr
    refine nk_callV (ci := 0) (n := 1) (x := 97) (len := 3) (j' := 22) (q' := 0) (r := r5) (S' := S6) (L2 := [(0, nk_r (ja_c (S.2 l0 1) 1)), (1, nk_r (ja_c (S.2 l0 1) 0))]) (rest := []) (st' := []) (pc' := 81) mJ_383 (by decide +kernel) (by decide +kernel) rfl rfl t2 (Nat.le_of_ble_eq_true rfl) mJ_22 (Nat.le_of_ble_eq_true rfl) rfl (ja_X0_fillRuns_ok zs _ _ _ _ t2 t4 h7) rfl ?_
    refine nk_p (i := .aload_n 0) (len := 1) (pc' := 82) mJ_383 (by decide +kernel) (ns_aload_n 0 rfl rfl) rfl ?_
    refine nk_getM (cj := 3) (z := 0) (x := 15) (len := 3) (ci := 6) (k := 1) (pc' := 85) ja_okT mJ_383 (by decide +kernel) (by decide +kernel) (by decide +kernel) t_l0 rfl (fun t8 => ?_)
    refine nk_getC (f := (2, 0, 0)) (x := 81) (len := 3) (ci := 3) (k := 1) (pc' := 88) ja_okT mJ_383 (by decide +kernel) (by decide +kernel) (by decide +kernel) (by decide) t8 rfl ?_
    have t9 : nk_cl ja_Tt (ja_c (S6.2 l0 1) 1) = some 0 := nk_tc (y := 0) ja_okT t8 (by decide +kernel)
    refine nk_p (i := .aload_n 0) (len := 1) (pc' := 89) mJ_383 (by decide +kernel) (ns_aload_n 0 rfl rfl) rfl ?_
    refine nk_getM (cj := 3) (z := 0) (x := 15) (len := 3) (ci := 6) (k := 1) (pc' := 92) ja_okT mJ_383 (by decide +kernel) (by decide +kernel) (by decide +kernel) t_l0 rfl (fun t10 => ?_)
    refine nk_getC (f := (2, 0, 0)) (x := 81) (len := 3) (ci := 3) (k := 1) (pc' := 95) ja_okT mJ_383 (by decide +kernel) (by decide +kernel) (by decide +kernel) (by decide) t10 rfl ?_
    refine nk_p (i := .aload_n 0) (len := 1) (pc' := 96) mJ_383 (by decide +kernel) (ns_aload_n 0 rfl rfl) rfl ?_
    refine nk_getC (f := (2, 10, 0)) (x := 9) (len := 3) (ci := 6) (k := 0) (pc' := 99) ja_okT mJ_383 (by decide +kernel) (by decide +kernel) (by decide +kernel) (by decide) t_l0 rfl ?_
    have t11 : nk_cl ja_Tt (ja_c l0 0) = some 10 := nk_tc (y := 0) ja_okT t_l0 (by decide +kernel)
    refine nk_p (i := .bipush 68) (len := 2) (pc' := 101) mJ_383 (by decide +kernel) (ns_bipush (c := 68) (by decide +kernel)) rfl ?_
    obtain ⟨r12, S13, h14, hr⟩ := nk_bde hr
    refine nk_callV (ci := 10) (n := 1) (x := 101) (len := 3) (j' := 35) (q' := 1) (r := r12) (S' := S13) (L2 := [(0, nk_r (ja_c l0 0)), (1, nk_i 68)]) (rest := [nk_r (ja_c (S6.2 l0 1) 1), nk_r (ja_c (S6.2 l0 1) 1)]) (st' := [nk_i r12, nk_r (ja_c (S6.2 l0 1) 1), nk_r (ja_c (S6.2 l0 1) 1)]) (pc' := 104) mJ_383 (by decide +kernel) (by decide +kernel) rfl rfl t11 (Nat.le_of_ble_eq_true rfl) mJ_35 (Nat.le_of_ble_eq_true rfl) rfl (ja_X10_firstOf_ok zs _ _ _ _ t11 h14) rfl ?_
    obtain ⟨r15, S16, h17, hr⟩ := nk_bde hr
    refine nk_callV (ci := 0) (n := 1) (x := 104) (len := 3) (j' := 25) (q' := 1) (r := r15) (S' := S16) (L2 := [(0, nk_r (ja_c (S6.2 l0 1) 1)), (1, nk_i r12)]) (rest := [nk_r (ja_c (S6.2 l0 1) 1)]) (st' := [nk_i r15, nk_r (ja_c (S6.2 l0 1) 1)]) (pc' := 107) mJ_383 (by decide +kernel) (by decide +kernel) rfl rfl t9 (Nat.le_of_ble_eq_true rfl) mJ_25 (Nat.le_of_ble_eq_true rfl) rfl (ja_X0_mainOf_ok zs _ _ _ _ t9 h17) rfl ?_
    obtain ⟨S18, h19, hr⟩ := nk_lte hr
    refine nk_putI (y := (0, 0)) (ty := .int) (x := 107) (len := 3) (ci := 0) (k := 1) (pc' := 110) ja_okT mJ_383 (by decide +kernel) (by decide +kernel) (by decide +kernel) t9 (Or.inl rfl) rfl h19 ?_
    refine nk_p (i := .aload_n 0) (len := 1) (pc' := 111) mJ_383 (by decide +kernel) (ns_aload_n 0 rfl rfl) rfl ?_
    refine nk_getM (cj := 3) (z := 0) (x := 15) (len := 3) (ci := 6) (k := 1) (pc' := 114) ja_okT mJ_383 (by decide +kernel) (by decide +kernel) (by decide +kernel) t_l0 rfl (fun t20 => ?_)
    refine nk_getC (f := (2, 0, 0)) (x := 81) (len := 3) (ci := 3) (k := 1) (pc' := 117) ja_okT mJ_383 (by decide +kernel) (by decide +kernel) (by decide +kernel) (by decide) t20 rfl ?_
    have t21 : nk_cl ja_Tt (ja_c (S18.2 l0 1) 1) = some 0 := nk_tc (y := 0) ja_okT t20 (by decide +kernel)
    refine nk_getI (y := (0, 0)) (x := 107) (len := 3) (ci := 0) (k := 1) (pc' := 120) ja_okT mJ_383 (by decide +kernel) (by decide +kernel) (by decide +kernel) t21 rfl ?_
    refine nk_icond (c := .ge) (off := 13) (len := 3) (t := 133) (pc' := 123) mJ_383 (by decide +kernel) (by decide +kernel) rfl (fun hc => ?_) (fun hc => ?_)
    · have hr := nk_ifp (c := 0 ≤ (S18.1 (ja_c (S18.2 l0 1) 1) 1)) hc hr
      refine nk_p (i := .iconst (-1)) (len := 1) (pc' := 134) mJ_383 (by decide +kernel) (ns_iconst (c := (-1)) (by decide +kernel)) rfl ?_
      cases hr
      exact nk_iret (ty := .int) (len := 1) mJ_383 (by decide +kernel) rfl (nk_nar_i _)
    · have hr := nk_ifn (c := 0 ≤ (S18.1 (ja_c (S18.2 l0 1) 1) 1)) hc hr
      refine nk_p (i := .aload_n 0) (len := 1) (pc' := 124) mJ_383 (by decide +kernel) (ns_aload_n 0 rfl rfl) rfl ?_
      refine nk_getC (f := (2, 10, 0)) (x := 9) (len := 3) (ci := 6) (k := 0) (pc' := 127) ja_okT mJ_383 (by decide +kernel) (by decide +kernel) (by decide +kernel) (by decide) t_l0 rfl ?_
      refine nk_getI (y := (0, 0)) (x := 23) (len := 3) (ci := 10) (k := 4) (pc' := 130) ja_okT mJ_383 (by decide +kernel) (by decide +kernel) (by decide +kernel) t11 rfl ?_
      refine nk_p (i := .goto 4) (len := 3) (pc' := 134) mJ_383 (by decide +kernel) (ns_goto (by decide +kernel)) rfl ?_
      cases hr
      exact nk_iret (ty := .int) (len := 1) mJ_383 (by decide +kernel) rfl (nk_nar_i _)
  · have hr := nk_ifn (c := l2 < 0) hc hr
    refine nk_p (i := .iload_n 2) (len := 1) (pc' := 63) mJ_383 (by decide +kernel) (ns_iload_n 1 rfl rfl) rfl ?_
    cases hr
    exact nk_iret (ty := .int) (len := 1) mJ_383 (by decide +kernel) rfl (nk_nar_i _)
noncomputable def ja_X6_resolveNames_b28 (rec28 : Nat → Int → Int → nk_S → Option (Int × nk_S)) (l0 : Nat) (l2 : Int) (l3 : Int) (S : nk_S) : Option (Int × nk_S) :=
  if (S.1 (ja_c (S.2 l0 1) 1) 0) ≤ l3 then
    ja_X6_resolveNames_b58 l0 l2 S
  else
    if 0 ≤ l2 then
      ja_X6_resolveNames_b58 l0 l2 S
    else
      nk_bd (ja_X6_walkLines l0 l3 S) fun r3 S4 =>
      nk_lt (nk_w (l3 + 1)) fun v6 =>
      rec28 l0 r3 v6 S4
theorem ja_X6_resolveNames_b28_ok (zs : List Int32) {rec28 : Nat → Int → Int → nk_S → Option (Int × nk_S)} (hrec28 : ∀ (l0 : Nat) (l2 : Int) (l3 : Int) (S : nk_S) (R : Int × nk_S), nk_cl ja_Tt l0 = some 6 → rec28 l0 l2 l3 S = some R → nk_K ja_Tt mi_Γ (mi_ev zs) 1 383 28 [(0, nk_r l0), (2, nk_i l2), (3, nk_i l3)] [] S R) : ∀ (l0 : Nat) (l2 : Int) (l3 : Int) (S : nk_S) (R : Int × nk_S), nk_cl ja_Tt l0 = some 6 → ja_X6_resolveNames_b28 rec28 l0 l2 l3 S = some R → nk_K ja_Tt mi_Γ (mi_ev zs) 1 383 28 [(0, nk_r l0), (2, nk_i l2), (3, nk_i l3)] [] S R := by
  intro l0 l2 l3 S R t_l0 hr
  unfold ja_X6_resolveNames_b28 at hr
  refine nk_p (i := .iload_n 3) (len := 1) (pc' := 29) mJ_383 (by decide +kernel) (ns_iload_n 2 rfl rfl) rfl ?_
  refine nk_p (i := .aload_n 0) (len := 1) (pc' := 30) mJ_383 (by decide +kernel) (ns_aload_n 0 rfl rfl) rfl ?_
  refine nk_getM (cj := 3) (z := 0) (x := 15) (len := 3) (ci := 6) (k := 1) (pc' := 33) ja_okT mJ_383 (by decide +kernel) (by decide +kernel) (by decide +kernel) t_l0 rfl (fun t1 => ?_)
  refine nk_getC (f := (2, 0, 0)) (x := 81) (len := 3) (ci := 3) (k := 1) (pc' := 36) ja_okT mJ_383 (by decide +kernel) (by decide +kernel) (by decide +kernel) (by decide) t1 rfl ?_
  have t2 : nk_cl ja_Tt (ja_c (S.2 l0 1) 1) = some 0 := nk_tc (y := 0) ja_okT t1 (by decide +kernel)
  refine nk_getI (y := (0, 0)) (x := 85) (len := 3) (ci := 0) (k := 0) (pc' := 39) ja_okT mJ_383 (by decide +kernel) (by decide +kernel) (by decide +kernel) t2 rfl ?_
  refine nk_icmp (c := .ge) (off := 19) (len := 3) (t := 58) (pc' := 42) mJ_383 (by decide +kernel) (by decide +kernel) rfl (fun hc => ?_) (fun hc => ?_)
  · have hr := nk_ifp (c := (S.1 (ja_c (S.2 l0 1) 1) 0) ≤ l3) hc hr
    refine nk_sub [0, 1] (L' := [(0, nk_r l0), (2, nk_i l2)]) rfl ?_
    exact ja_X6_resolveNames_b58_ok zs _ _ _ _ t_l0 hr
  · have hr := nk_ifn (c := (S.1 (ja_c (S.2 l0 1) 1) 0) ≤ l3) hc hr
    refine nk_p (i := .iload_n 2) (len := 1) (pc' := 43) mJ_383 (by decide +kernel) (ns_iload_n 1 rfl rfl) rfl ?_
    refine nk_icond (c := .ge) (off := 15) (len := 3) (t := 58) (pc' := 46) mJ_383 (by decide +kernel) (by decide +kernel) rfl (fun hc => ?_) (fun hc => ?_)
    · have hr := nk_ifp (c := 0 ≤ l2) hc hr
      refine nk_sub [0, 1] (L' := [(0, nk_r l0), (2, nk_i l2)]) rfl ?_
      exact ja_X6_resolveNames_b58_ok zs _ _ _ _ t_l0 hr
    · have hr := nk_ifn (c := 0 ≤ l2) hc hr
      refine nk_p (i := .aload_n 0) (len := 1) (pc' := 47) mJ_383 (by decide +kernel) (ns_aload_n 0 rfl rfl) rfl ?_
      refine nk_p (i := .iload_n 3) (len := 1) (pc' := 48) mJ_383 (by decide +kernel) (ns_iload_n 2 rfl rfl) rfl ?_
      obtain ⟨r3, S4, h5, hr⟩ := nk_bde hr
      refine nk_callV (ci := 6) (n := 1) (x := 90) (len := 3) (j' := 394) (q' := 1) (r := r3) (S' := S4) (L2 := [(0, nk_r l0), (1, nk_i l3)]) (rest := []) (st' := [nk_i r3]) (pc' := 51) mJ_383 (by decide +kernel) (by decide +kernel) rfl rfl t_l0 (Nat.le_of_ble_eq_true rfl) mJ_394 (Nat.le_of_ble_eq_true rfl) rfl (ja_X6_walkLines_ok zs _ _ _ _ t_l0 h5) rfl ?_
      refine nk_p (i := .istore_n 2) (len := 1) (pc' := 52) mJ_383 (by decide +kernel) (ns_istore_n (L' := [(2, nk_i r3), (0, nk_r l0), (3, nk_i l3)]) rfl rfl rfl (by decide +kernel)) rfl ?_
      obtain ⟨v6, h7, hr⟩ := nk_lte hr
      refine nk_p (i := .iinc 3 1) (len := 3) (pc' := 55) mJ_383 (by decide +kernel) (ns_iinc (c := 1) (L' := [(3, nk_i v6), (2, nk_i r3), (0, nk_r l0)]) 2 rfl (by decide +kernel) h7 rfl (by decide +kernel)) rfl ?_
      refine nk_p (i := .goto (-27)) (len := 3) (pc' := 28) mJ_383 (by decide +kernel) (ns_goto (by decide +kernel)) rfl ?_
      refine nk_sub [2, 1, 0] (L' := [(0, nk_r l0), (2, nk_i r3), (3, nk_i v6)]) rfl ?_
      exact hrec28 _ _ _ _ _ t_l0 hr
noncomputable def ja_X6_resolveNames_L28 : Nat → Nat → Int → Int → nk_S → Option (Int × nk_S)
  | 0, _, _, _, _ => none
  | n + 1, l0, l2, l3, S => ja_X6_resolveNames_b28 (ja_X6_resolveNames_L28 n) l0 l2 l3 S
theorem ja_X6_resolveNames_L28_ok (zs : List Int32) : ∀ n : Nat, ∀ (l0 : Nat) (l2 : Int) (l3 : Int) (S : nk_S) (R : Int × nk_S), nk_cl ja_Tt l0 = some 6 → ja_X6_resolveNames_L28 n l0 l2 l3 S = some R → nk_K ja_Tt mi_Γ (mi_ev zs) 1 383 28 [(0, nk_r l0), (2, nk_i l2), (3, nk_i l3)] [] S R := by
  intro n
  induction n with
  | zero => intro _ _ _ _ _ _ hr; cases hr
  | succ n ih => intro l0 l2 l3 S R t_l0 hr; exact ja_X6_resolveNames_b28_ok zs ih l0 l2 l3 S R t_l0 hr
noncomputable def ja_X6_resolveNames (l0 : Nat) (l1 : Nat) (S : nk_S) : Option (Int × nk_S) :=
  nk_lt (nk_wr S l0 1 l1) fun S1 =>
  nk_bd (ja_X3_clear (S1.2 l0 1) S1) fun r4 S5 =>
  nk_bd (ja_X6_walkClasses l0 S5) fun r7 S8 =>
  if 0 ≤ r7 then
    ja_X6_resolveNames_L28 nk_big l0 r7 0 S8
  else
    nk_bd (ja_X6_walkMembers l0 S8) fun r10 S11 =>
    ja_X6_resolveNames_L28 nk_big l0 r10 0 S11
theorem ja_X6_resolveNames_ok (zs : List Int32) : ∀ (l0 : Nat) (l1 : Nat) (S : nk_S) (R : Int × nk_S), nk_cl ja_Tt l0 = some 6 → nk_cl ja_Tt l1 = some 3 → ja_X6_resolveNames l0 l1 S = some R → nk_K ja_Tt mi_Γ (mi_ev zs) 1 383 0 [(0, nk_r l0), (1, nk_r l1)] [] S R := by
  intro l0 l1 S R t_l0 t_l1 hr
  unfold ja_X6_resolveNames at hr
  refine nk_p (i := .aload_n 0) (len := 1) (pc' := 1) mJ_383 (by decide +kernel) (ns_aload_n 0 rfl rfl) rfl ?_
  refine nk_p (i := .aload_n 1) (len := 1) (pc' := 2) mJ_383 (by decide +kernel) (ns_aload_n 1 rfl rfl) rfl ?_
  obtain ⟨S1, h2, hr⟩ := nk_lte hr
  refine nk_putM (cj := 3) (z := 0) (on := "SafeCode$Program") (x := 15) (len := 3) (ci := 6) (k := 1) (pc' := 5) ja_okT mJ_383 (by decide +kernel) (by decide +kernel) (by decide +kernel) t_l0 t_l1 rfl h2 ?_
  refine nk_p (i := .aload_n 0) (len := 1) (pc' := 6) mJ_383 (by decide +kernel) (ns_aload_n 0 rfl rfl) rfl ?_
  refine nk_getM (cj := 3) (z := 0) (x := 15) (len := 3) (ci := 6) (k := 1) (pc' := 9) ja_okT mJ_383 (by decide +kernel) (by decide +kernel) (by decide +kernel) t_l0 rfl (fun t3 => ?_)
  obtain ⟨r4, S5, h6, hr⟩ := nk_bde hr
  refine nk_callV (ci := 3) (n := 0) (x := 69) (len := 3) (j' := 300) (q' := 0) (r := r4) (S' := S5) (L2 := [(0, nk_r (S1.2 l0 1))]) (rest := []) (st' := []) (pc' := 12) mJ_383 (by decide +kernel) (by decide +kernel) rfl rfl t3 (Nat.le_of_ble_eq_true rfl) mJ_300 (Nat.le_of_ble_eq_true rfl) rfl (ja_X3_clear_ok zs _ _ _ t3 h6) rfl ?_
  refine nk_p (i := .aload_n 0) (len := 1) (pc' := 13) mJ_383 (by decide +kernel) (ns_aload_n 0 rfl rfl) rfl ?_
  obtain ⟨r7, S8, h9, hr⟩ := nk_bde hr
  refine nk_callV (ci := 6) (n := 0) (x := 74) (len := 3) (j' := 393) (q' := 1) (r := r7) (S' := S8) (L2 := [(0, nk_r l0)]) (rest := []) (st' := [nk_i r7]) (pc' := 16) mJ_383 (by decide +kernel) (by decide +kernel) rfl rfl t_l0 (Nat.le_of_ble_eq_true rfl) mJ_393 (Nat.le_of_ble_eq_true rfl) rfl (ja_X6_walkClasses_ok zs _ _ _ t_l0 h9) rfl ?_
  refine nk_p (i := .istore_n 2) (len := 1) (pc' := 17) mJ_383 (by decide +kernel) (ns_istore_n (L' := [(2, nk_i r7), (0, nk_r l0), (1, nk_r l1)]) rfl rfl rfl (by decide +kernel)) rfl ?_
  refine nk_p (i := .iload_n 2) (len := 1) (pc' := 18) mJ_383 (by decide +kernel) (ns_iload_n 0 rfl rfl) rfl ?_
  refine nk_icond (c := .ge) (off := 8) (len := 3) (t := 26) (pc' := 21) mJ_383 (by decide +kernel) (by decide +kernel) rfl (fun hc => ?_) (fun hc => ?_)
  · have hr := nk_ifp (c := 0 ≤ r7) hc hr
    refine nk_p (i := .iconst 0) (len := 1) (pc' := 27) mJ_383 (by decide +kernel) (ns_iconst (c := 0) (by decide +kernel)) rfl ?_
    refine nk_p (i := .istore_n 3) (len := 1) (pc' := 28) mJ_383 (by decide +kernel) (ns_istore_n (L' := [(3, nk_i 0), (2, nk_i r7), (0, nk_r l0), (1, nk_r l1)]) rfl rfl rfl (by decide +kernel)) rfl ?_
    refine nk_sub [2, 1, 0] (L' := [(0, nk_r l0), (2, nk_i r7), (3, nk_i 0)]) rfl ?_
    exact ja_X6_resolveNames_L28_ok zs nk_big _ _ _ _ _ t_l0 hr
  · have hr := nk_ifn (c := 0 ≤ r7) hc hr
    refine nk_p (i := .aload_n 0) (len := 1) (pc' := 22) mJ_383 (by decide +kernel) (ns_aload_n 1 rfl rfl) rfl ?_
    obtain ⟨r10, S11, h12, hr⟩ := nk_bde hr
    refine nk_callV (ci := 6) (n := 0) (x := 78) (len := 3) (j' := 395) (q' := 1) (r := r10) (S' := S11) (L2 := [(0, nk_r l0)]) (rest := []) (st' := [nk_i r10]) (pc' := 25) mJ_383 (by decide +kernel) (by decide +kernel) rfl rfl t_l0 (Nat.le_of_ble_eq_true rfl) mJ_395 (Nat.le_of_ble_eq_true rfl) rfl (ja_X6_walkMembers_ok zs _ _ _ t_l0 h12) rfl ?_
    refine nk_p (i := .istore_n 2) (len := 1) (pc' := 26) mJ_383 (by decide +kernel) (ns_istore_n (L' := [(2, nk_i r10), (0, nk_r l0), (1, nk_r l1)]) rfl rfl rfl (by decide +kernel)) rfl ?_
    refine nk_p (i := .iconst 0) (len := 1) (pc' := 27) mJ_383 (by decide +kernel) (ns_iconst (c := 0) (by decide +kernel)) rfl ?_
    refine nk_p (i := .istore_n 3) (len := 1) (pc' := 28) mJ_383 (by decide +kernel) (ns_istore_n (L' := [(3, nk_i 0), (2, nk_i r10), (0, nk_r l0), (1, nk_r l1)]) rfl rfl rfl (by decide +kernel)) rfl ?_
    refine nk_sub [2, 1, 0] (L' := [(0, nk_r l0), (2, nk_i r10), (3, nk_i 0)]) rfl ?_
    exact ja_X6_resolveNames_L28_ok zs nk_big _ _ _ _ _ t_l0 hr
/-! SafeCode$Program leaves (I)I -/
noncomputable def ja_X3_leaves_b19 (l0 : Nat) (l1 : Int) (S : nk_S) : Option (Int × nk_S) :=
  if 0 ≤ l1 ∧ l1 < 1024 then
  if 0 ≤ (S.1 (ja_c l0 5) l1.toNat) ∧ (S.1 (ja_c l0 5) l1.toNat) < 48 then
  if (S.1 (ja_c (ja_c l0 1) 7) (S.1 (ja_c l0 5) l1.toNat).toNat) = (-1) then
    some (0, S)
  else
    some (1, S)
  else none
  else none
theorem ja_X3_leaves_b19_ok (zs : List Int32) : ∀ (l0 : Nat) (l1 : Int) (S : nk_S) (R : Int × nk_S), nk_cl ja_Tt l0 = some 3 → ja_X3_leaves_b19 l0 l1 S = some R → nk_K ja_Tt mi_Γ (mi_ev zs) 1 306 19 [(0, nk_r l0), (1, nk_i l1)] [] S R := by
  intro l0 l1 S R t_l0 hr
  unfold ja_X3_leaves_b19 at hr
  refine nk_p (i := .aload_n 0) (len := 1) (pc' := 20) mJ_306 (by decide +kernel) (ns_aload_n 0 rfl rfl) rfl ?_
  refine nk_getC (f := (2, 0, 0)) (x := 21) (len := 3) (ci := 3) (k := 1) (pc' := 23) ja_okT mJ_306 (by decide +kernel) (by decide +kernel) (by decide +kernel) (by decide) t_l0 rfl ?_
  have t1 : nk_cl ja_Tt (ja_c l0 1) = some 0 := nk_tc (y := 0) ja_okT t_l0 (by decide +kernel)
  refine nk_getC (f := (4, 1, 48)) (x := 95) (len := 3) (ci := 0) (k := 7) (pc' := 26) ja_okT mJ_306 (by decide +kernel) (by decide +kernel) (by decide +kernel) (by decide) t1 rfl ?_
  have t2 : nk_ar ja_Tt (ja_c (ja_c l0 1) 7) = some (1, 48) := nk_ta ja_okT t1 (by decide +kernel)
  refine nk_p (i := .aload_n 0) (len := 1) (pc' := 27) mJ_306 (by decide +kernel) (ns_aload_n 0 rfl rfl) rfl ?_
  refine nk_getC (f := (4, 1, 1024)) (x := 36) (len := 3) (ci := 3) (k := 5) (pc' := 30) ja_okT mJ_306 (by decide +kernel) (by decide +kernel) (by decide +kernel) (by decide) t_l0 rfl ?_
  have t3 : nk_ar ja_Tt (ja_c l0 5) = some (1, 1024) := nk_ta ja_okT t_l0 (by decide +kernel)
  refine nk_p (i := .iload_n 1) (len := 1) (pc' := 31) mJ_306 (by decide +kernel) (ns_iload_n 1 rfl rfl) rfl ?_
  obtain ⟨h4, hr⟩ := nk_cke hr
  refine nk_iald (len := 1) (N := 1024) (pc' := 32) mJ_306 (by decide +kernel) t3 h4.1 h4.2 rfl rfl ?_
  obtain ⟨h5, hr⟩ := nk_cke hr
  refine nk_iald (len := 1) (N := 48) (pc' := 33) mJ_306 (by decide +kernel) t2 h5.1 h5.2 rfl rfl ?_
  refine nk_p (i := .iconst (-1)) (len := 1) (pc' := 34) mJ_306 (by decide +kernel) (ns_iconst (c := (-1)) (by decide +kernel)) rfl ?_
  refine nk_icmp (c := .ne) (off := 7) (len := 3) (t := 41) (pc' := 37) mJ_306 (by decide +kernel) (by decide +kernel) rfl (fun hc => ?_) (fun hc => ?_)
  · have hr := nk_ifn (c := (S.1 (ja_c (ja_c l0 1) 7) (S.1 (ja_c l0 5) l1.toNat).toNat) = (-1)) hc hr
    refine nk_p (i := .iconst 1) (len := 1) (pc' := 42) mJ_306 (by decide +kernel) (ns_iconst (c := 1) (by decide +kernel)) rfl ?_
    cases hr
    exact nk_iret (ty := .int) (len := 1) mJ_306 (by decide +kernel) rfl (nk_nar_i _)
  · have hr := nk_ifp (c := (S.1 (ja_c (ja_c l0 1) 7) (S.1 (ja_c l0 5) l1.toNat).toNat) = (-1)) (Decidable.of_not_not hc) hr
    refine nk_p (i := .iconst 0) (len := 1) (pc' := 38) mJ_306 (by decide +kernel) (ns_iconst (c := 0) (by decide +kernel)) rfl ?_
    refine nk_p (i := .goto 4) (len := 3) (pc' := 42) mJ_306 (by decide +kernel) (ns_goto (by decide +kernel)) rfl ?_
    cases hr
    exact nk_iret (ty := .int) (len := 1) mJ_306 (by decide +kernel) rfl (nk_nar_i _)
noncomputable def ja_X3_leaves (l0 : Nat) (l1 : Int) (S : nk_S) : Option (Int × nk_S) :=
  if 0 ≤ l1 ∧ l1 < 1024 then
  nk_lt (S.1 (ja_c l0 4) l1.toNat) fun v3 =>
  if v3 = 39 then
    ja_X3_leaves_b19 l0 l1 S
  else
    if v3 = 40 then
      ja_X3_leaves_b19 l0 l1 S
    else
      if 0 ≤ v3 ∧ v3 < 46 then
      some (((ja_ob 44).getD v3.toNat 0).toInt, S)
      else none
  else none
theorem ja_X3_leaves_ok (zs : List Int32) : ∀ (l0 : Nat) (l1 : Int) (S : nk_S) (R : Int × nk_S), nk_cl ja_Tt l0 = some 3 → ja_X3_leaves l0 l1 S = some R → nk_K ja_Tt mi_Γ (mi_ev zs) 1 306 0 [(0, nk_r l0), (1, nk_i l1)] [] S R := by
  intro l0 l1 S R t_l0 hr
  unfold ja_X3_leaves at hr
  refine nk_p (i := .aload_n 0) (len := 1) (pc' := 1) mJ_306 (by decide +kernel) (ns_aload_n 0 rfl rfl) rfl ?_
  refine nk_getC (f := (4, 1, 1024)) (x := 32) (len := 3) (ci := 3) (k := 4) (pc' := 4) ja_okT mJ_306 (by decide +kernel) (by decide +kernel) (by decide +kernel) (by decide) t_l0 rfl ?_
  have t1 : nk_ar ja_Tt (ja_c l0 4) = some (1, 1024) := nk_ta ja_okT t_l0 (by decide +kernel)
  refine nk_p (i := .iload_n 1) (len := 1) (pc' := 5) mJ_306 (by decide +kernel) (ns_iload_n 1 rfl rfl) rfl ?_
  obtain ⟨h2, hr⟩ := nk_cke hr
  refine nk_iald (len := 1) (N := 1024) (pc' := 6) mJ_306 (by decide +kernel) t1 h2.1 h2.2 rfl rfl ?_
  obtain ⟨v3, h4, hr⟩ := nk_lte hr
  refine nk_p (i := .istore_n 2) (len := 1) (pc' := 7) mJ_306 (by decide +kernel) (ns_istore_n (L' := [(2, nk_i v3), (0, nk_r l0), (1, nk_i l1)]) h4 rfl rfl (by decide +kernel)) rfl ?_
  refine nk_p (i := .iload_n 2) (len := 1) (pc' := 8) mJ_306 (by decide +kernel) (ns_iload_n 0 rfl rfl) rfl ?_
  refine nk_p (i := .bipush 39) (len := 2) (pc' := 10) mJ_306 (by decide +kernel) (ns_bipush (c := 39) (by decide +kernel)) rfl ?_
  refine nk_icmp (c := .eq) (off := 9) (len := 3) (t := 19) (pc' := 13) mJ_306 (by decide +kernel) (by decide +kernel) rfl (fun hc => ?_) (fun hc => ?_)
  · have hr := nk_ifp (c := v3 = 39) hc hr
    refine nk_sub [1, 2] (L' := [(0, nk_r l0), (1, nk_i l1)]) rfl ?_
    exact ja_X3_leaves_b19_ok zs _ _ _ _ t_l0 hr
  · have hr := nk_ifn (c := v3 = 39) hc hr
    refine nk_p (i := .iload_n 2) (len := 1) (pc' := 14) mJ_306 (by decide +kernel) (ns_iload_n 0 rfl rfl) rfl ?_
    refine nk_p (i := .bipush 40) (len := 2) (pc' := 16) mJ_306 (by decide +kernel) (ns_bipush (c := 40) (by decide +kernel)) rfl ?_
    refine nk_icmp (c := .ne) (off := 27) (len := 3) (t := 43) (pc' := 19) mJ_306 (by decide +kernel) (by decide +kernel) rfl (fun hc => ?_) (fun hc => ?_)
    · have hr := nk_ifn (c := v3 = 40) hc hr
      refine nk_gsto (x := 98) (len := 3) (pc' := 46) (s1 := "SafeCode") (s2 := "LEAVES") (s3 := "[I") (k := 44) mJ_306 (by decide +kernel) (by decide +kernel) rfl ?_
      refine nk_p (i := .iload_n 2) (len := 1) (pc' := 47) mJ_306 (by decide +kernel) (ns_iload_n 0 rfl rfl) rfl ?_
      obtain ⟨h5, hr⟩ := nk_cke hr
      refine nk_oiald (len := 1) (xs := ja_ob 44) (N := 46) (pc' := 48) mJ_306 (by decide +kernel) rfl h5.1 h5.2 rfl rfl ?_
      cases hr
      exact nk_iret (ty := .int) (len := 1) mJ_306 (by decide +kernel) rfl (nk_nar_i _)
    · have hr := nk_ifp (c := v3 = 40) (Decidable.of_not_not hc) hr
      refine nk_sub [1, 2] (L' := [(0, nk_r l0), (1, nk_i l1)]) rfl ?_
      exact ja_X3_leaves_b19_ok zs _ _ _ _ t_l0 hr
