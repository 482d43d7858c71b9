/-! SafeCodeModel look (LSafeCodeModel$Program;I)V -/
noncomputable def ja_X13_look_b280 (rec280 : Nat → Nat → Int → Int → nk_S → Option (Int × nk_S)) (l0 : Nat) (l1 : Nat) (l2 : Int) (l5 : Int) (S : nk_S) : Option (Int × nk_S) :=
  if (S.1 l1 5) ≤ l5 then
    if 0 ≤ l2 ∧ l2 < 1024 then
    nk_lt (nk_wi S (ja_c l1 45) l2.toNat (S.1 l0 40)) fun S3 =>
    nk_lt (S3.1 (ja_c l1 25) l2.toNat) fun v6 =>
    if 0 ≤ v6 ∧ v6 < 48 then
    if (nk_land (S3.1 l0 40) (nk_lxor (S3.1 (ja_c l1 52) v6.toNat) (-1))) = 0 then
      some (0, S3)
    else
      nk_lt (nk_wi S3 (ja_c l1 52) v6.toNat (nk_lor (S3.1 (ja_c l1 52) v6.toNat) (S3.1 l0 40))) fun S10 =>
      nk_lt (nk_wi S10 l0 37 1) fun S12 =>
      some (0, S12)
    else none
    else none
  else
    nk_bd (ja_X13_covers l1 l5 l2 S) fun r14 S15 =>
    if r14 = 0 then
      nk_lt (nk_w (l5 + 1)) fun v42 =>
      rec280 l0 l1 l2 v42 S15
    else
      if 0 ≤ l5 ∧ l5 < 64 then
      nk_bd (ja_X13_sitesBelow l1 (nk_w (8 + (S15.1 (ja_c l1 32) l5.toNat))) S15) fun r19 S20 =>
      nk_lt (nk_land (S15.1 l0 40) r19) fun v22 =>
      if v22 = 0 then
        nk_lt (nk_w (l5 + 1)) fun v40 =>
        rec280 l0 l1 l2 v40 S20
      else
        nk_bd (ja_X13_fetch l0 l1 l2 S20) fun r24 S25 =>
        nk_lt (nk_wi S25 l0 25 12) fun S27 =>
        nk_bd (ja_X13_leaveSites l0 v22 S27) fun r29 S30 =>
        nk_bd (ja_X13_bring l0 l1 (S30.1 (ja_c l1 31) l5.toNat) S30) fun r33 S34 =>
        nk_lt (nk_wi S34 l0 40 (nk_land (S34.1 l0 40) (nk_lxor v22 (-1)))) fun S36 =>
        nk_lt (nk_w (l5 + 1)) fun v38 =>
        rec280 l0 l1 l2 v38 S36
      else none
theorem ja_X13_look_b280_ok (zs : List Int32) {rec280 : Nat → Nat → Int → Int → nk_S → Option (Int × nk_S)} (hrec280 : ∀ (l0 : Nat) (l1 : Nat) (l2 : Int) (l5 : Int) (S : nk_S) (R : Int × nk_S), nk_cl ja_Tt l0 = some 13 → nk_cl ja_Tt l1 = some 12 → rec280 l0 l1 l2 l5 S = some R → nk_K ja_Tt mi_Γ (mi_ev zs) 0 187 280 [(0, nk_r l0), (1, nk_r l1), (2, nk_i l2), (5, nk_i l5)] [] S R) : ∀ (l0 : Nat) (l1 : Nat) (l2 : Int) (l5 : Int) (S : nk_S) (R : Int × nk_S), nk_cl ja_Tt l0 = some 13 → nk_cl ja_Tt l1 = some 12 → ja_X13_look_b280 rec280 l0 l1 l2 l5 S = some R → nk_K ja_Tt mi_Γ (mi_ev zs) 0 187 280 [(0, nk_r l0), (1, nk_r l1), (2, nk_i l2), (5, nk_i l5)] [] S R := by
  intro l0 l1 l2 l5 S R t_l0 t_l1 hr
  unfold ja_X13_look_b280 at hr
  refine nk_p (i := .iload 5) (len := 2) (pc' := 282) mJ_187 (by decide +kernel) (ns_iload 3 rfl) rfl ?_
  refine nk_p (i := .aload_n 1) (len := 1) (pc' := 283) mJ_187 (by decide +kernel) (ns_aload_n 1 rfl rfl) rfl ?_
  refine nk_getI (y := (0, 0)) (x := 359) (len := 3) (ci := 12) (k := 5) (pc' := 286) ja_okT mJ_187 (by decide +kernel) (by decide +kernel) (by decide +kernel) t_l1 rfl ?_
  refine nk_icmp (c := .ge) (off := 98) (len := 3) (t := 384) (pc' := 289) mJ_187 (by decide +kernel) (by decide +kernel) rfl (fun hc => ?_) (fun hc => ?_)
  · have hr := nk_ifp (c := (S.1 l1 5) ≤ l5) hc hr
    refine nk_p (i := .aload_n 1) (len := 1) (pc' := 385) mJ_187 (by decide +kernel) (ns_aload_n 1 rfl rfl) rfl ?_
    refine nk_getC (f := (4, 2, 1024)) (x := 604) (len := 3) (ci := 12) (k := 45) (pc' := 388) ja_okT mJ_187 (by decide +kernel) (by decide +kernel) (by decide +kernel) (by decide) t_l1 rfl ?_
    have t1 : nk_ar ja_Tt (ja_c l1 45) = some (2, 1024) := nk_ta ja_okT t_l1 (by decide +kernel)
    refine nk_p (i := .iload_n 2) (len := 1) (pc' := 389) mJ_187 (by decide +kernel) (ns_iload_n 2 rfl rfl) rfl ?_
    refine nk_p (i := .aload_n 0) (len := 1) (pc' := 390) mJ_187 (by decide +kernel) (ns_aload_n 0 rfl rfl) rfl ?_
    refine nk_getL (y := (0, 0)) (x := 628) (len := 3) (ci := 13) (k := 40) (pc' := 393) ja_okT mJ_187 (by decide +kernel) (by decide +kernel) (by decide +kernel) t_l0 rfl ?_
    obtain ⟨h2, hr⟩ := nk_cke hr
    obtain ⟨S3, h4, hr⟩ := nk_lte hr
    refine nk_last (len := 1) (N := 1024) (pc' := 394) mJ_187 (by decide +kernel) t1 h2.1 h2.2 rfl rfl h4 ?_
    refine nk_p (i := .aload_n 1) (len := 1) (pc' := 395) mJ_187 (by decide +kernel) (ns_aload_n 1 rfl rfl) rfl ?_
    refine nk_getC (f := (4, 1, 1024)) (x := 412) (len := 3) (ci := 12) (k := 25) (pc' := 398) ja_okT mJ_187 (by decide +kernel) (by decide +kernel) (by decide +kernel) (by decide) t_l1 rfl ?_
    have t5 : nk_ar ja_Tt (ja_c l1 25) = some (1, 1024) := nk_ta ja_okT t_l1 (by decide +kernel)
    refine nk_p (i := .iload_n 2) (len := 1) (pc' := 399) mJ_187 (by decide +kernel) (ns_iload_n 2 rfl rfl) rfl ?_
    refine nk_iald (len := 1) (N := 1024) (pc' := 400) mJ_187 (by decide +kernel) t5 h2.1 h2.2 rfl rfl ?_
    obtain ⟨v6, h7, hr⟩ := nk_lte hr
    refine nk_p (i := .istore 5) (len := 2) (pc' := 402) mJ_187 (by decide +kernel) (ns_istore (L' := [(5, nk_i v6), (0, nk_r l0), (1, nk_r l1), (2, nk_i l2)]) h7 rfl (by decide +kernel)) rfl ?_
    refine nk_p (i := .aload_n 0) (len := 1) (pc' := 403) mJ_187 (by decide +kernel) (ns_aload_n 1 rfl rfl) rfl ?_
    refine nk_getL (y := (0, 0)) (x := 628) (len := 3) (ci := 13) (k := 40) (pc' := 406) ja_okT mJ_187 (by decide +kernel) (by decide +kernel) (by decide +kernel) t_l0 rfl ?_
    refine nk_p (i := .aload_n 1) (len := 1) (pc' := 407) mJ_187 (by decide +kernel) (ns_aload_n 2 rfl rfl) rfl ?_
    refine nk_getC (f := (4, 2, 48)) (x := 613) (len := 3) (ci := 12) (k := 52) (pc' := 410) ja_okT mJ_187 (by decide +kernel) (by decide +kernel) (by decide +kernel) (by decide) t_l1 rfl ?_
    have t8 : nk_ar ja_Tt (ja_c l1 52) = some (2, 48) := nk_ta ja_okT t_l1 (by decide +kernel)
    refine nk_p (i := .iload 5) (len := 2) (pc' := 412) mJ_187 (by decide +kernel) (ns_iload 0 rfl) rfl ?_
    obtain ⟨h9, hr⟩ := nk_cke hr
    refine nk_lald (len := 1) (N := 48) (pc' := 413) mJ_187 (by decide +kernel) t8 h9.1 h9.2 rfl rfl ?_
    refine nk_ldc2 (x := 549) (len := 3) (X := (-1)) (v := (-1)) (pc' := 416) mJ_187 (by decide +kernel) (by decide +kernel) (by decide +kernel) rfl ?_
    refine nk_p (i := .lxor) (len := 1) (pc' := 417) mJ_187 (by decide +kernel) ns_lxor rfl ?_
    refine nk_p (i := .land) (len := 1) (pc' := 418) mJ_187 (by decide +kernel) ns_land rfl ?_
    refine nk_p (i := .lconst 0) (len := 1) (pc' := 419) mJ_187 (by decide +kernel) (ns_lconst (c := 0) (by decide +kernel)) rfl ?_
    refine nk_p (i := .lcmp) (len := 1) (pc' := 420) mJ_187 (by decide +kernel) ns_lcmp rfl ?_
    refine nk_lcond (c := .ne) (off := 4) (len := 3) (t := 424) (pc' := 423) mJ_187 (by decide +kernel) (by decide +kernel) rfl (fun hc => ?_) (fun hc => ?_)
    · have hr := nk_ifn (c := (nk_land (S3.1 l0 40) (nk_lxor (S3.1 (ja_c l1 52) v6.toNat) (-1))) = 0) hc hr
      refine nk_p (i := .aload_n 1) (len := 1) (pc' := 425) mJ_187 (by decide +kernel) (ns_aload_n 2 rfl rfl) rfl ?_
      refine nk_getC (f := (4, 2, 48)) (x := 613) (len := 3) (ci := 12) (k := 52) (pc' := 428) ja_okT mJ_187 (by decide +kernel) (by decide +kernel) (by decide +kernel) (by decide) t_l1 rfl ?_
      refine nk_p (i := .iload 5) (len := 2) (pc' := 430) mJ_187 (by decide +kernel) (ns_iload 0 rfl) rfl ?_
      refine nk_p (i := .dup2) (len := 1) (pc' := 431) mJ_187 (by decide +kernel) (ns_dup2 rfl rfl) rfl ?_
      refine nk_lald (len := 1) (N := 48) (pc' := 432) mJ_187 (by decide +kernel) t8 h9.1 h9.2 rfl rfl ?_
      refine nk_p (i := .aload_n 0) (len := 1) (pc' := 433) mJ_187 (by decide +kernel) (ns_aload_n 1 rfl rfl) rfl ?_
      refine nk_getL (y := (0, 0)) (x := 628) (len := 3) (ci := 13) (k := 40) (pc' := 436) ja_okT mJ_187 (by decide +kernel) (by decide +kernel) (by decide +kernel) t_l0 rfl ?_
      refine nk_p (i := .lor) (len := 1) (pc' := 437) mJ_187 (by decide +kernel) ns_lor rfl ?_
      obtain ⟨S10, h11, hr⟩ := nk_lte hr
      refine nk_last (len := 1) (N := 48) (pc' := 438) mJ_187 (by decide +kernel) t8 h9.1 h9.2 rfl rfl h11 ?_
      refine nk_p (i := .aload_n 0) (len := 1) (pc' := 439) mJ_187 (by decide +kernel) (ns_aload_n 1 rfl rfl) rfl ?_
      refine nk_p (i := .iconst 1) (len := 1) (pc' := 440) mJ_187 (by decide +kernel) (ns_iconst (c := 1) (by decide +kernel)) rfl ?_
      obtain ⟨S12, h13, hr⟩ := nk_lte hr
      refine nk_putI (y := (0, 0)) (ty := .boolean) (x := 585) (len := 3) (ci := 13) (k := 37) (pc' := 443) ja_okT mJ_187 (by decide +kernel) (by decide +kernel) (by decide +kernel) t_l0 (Or.inr ⟨rfl, by decide⟩) rfl h13 ?_
      cases hr
      exact nk_vret (len := 1) mJ_187 (by decide +kernel) rfl
    · have hr := nk_ifp (c := (nk_land (S3.1 l0 40) (nk_lxor (S3.1 (ja_c l1 52) v6.toNat) (-1))) = 0) (Decidable.of_not_not hc) hr
      cases hr
      exact nk_vret (len := 1) mJ_187 (by decide +kernel) rfl
  · have hr := nk_ifn (c := (S.1 l1 5) ≤ l5) hc hr
    refine nk_p (i := .aload_n 1) (len := 1) (pc' := 290) mJ_187 (by decide +kernel) (ns_aload_n 1 rfl rfl) rfl ?_
    refine nk_p (i := .iload 5) (len := 2) (pc' := 292) mJ_187 (by decide +kernel) (ns_iload 3 rfl) rfl ?_
    refine nk_p (i := .iload_n 2) (len := 1) (pc' := 293) mJ_187 (by decide +kernel) (ns_iload_n 2 rfl rfl) rfl ?_
    obtain ⟨r14, S15, h16, hr⟩ := nk_bde hr
    refine nk_callS (ci := 0) (n := 3) (x := 471) (len := 3) (j' := 104) (q' := 1) (r := r14) (S' := S15) (L2 := [(0, nk_r l1), (1, nk_i l5), (2, nk_i l2)]) (rest := []) (st' := [nk_i r14]) (pc' := 296) mJ_187 (by decide +kernel) (by decide +kernel) (Nat.le_of_ble_eq_true rfl) rfl rfl (Nat.le_of_ble_eq_true rfl) mJ_104 (Nat.le_of_ble_eq_true rfl) ja_Tpos rfl (ja_X13_covers_ok zs _ _ _ _ _ t_l1 h16) rfl ?_
    refine nk_icond (c := .ne) (off := 6) (len := 3) (t := 302) (pc' := 299) mJ_187 (by decide +kernel) (by decide +kernel) rfl (fun hc => ?_) (fun hc => ?_)
    · have hr := nk_ifn (c := r14 = 0) hc hr
      refine nk_p (i := .aload_n 0) (len := 1) (pc' := 303) mJ_187 (by decide +kernel) (ns_aload_n 0 rfl rfl) rfl ?_
      refine nk_getL (y := (0, 0)) (x := 628) (len := 3) (ci := 13) (k := 40) (pc' := 306) ja_okT mJ_187 (by decide +kernel) (by decide +kernel) (by decide +kernel) t_l0 rfl ?_
      refine nk_p (i := .aload_n 1) (len := 1) (pc' := 307) mJ_187 (by decide +kernel) (ns_aload_n 1 rfl rfl) rfl ?_
      refine nk_p (i := .bipush 8) (len := 2) (pc' := 309) mJ_187 (by decide +kernel) (ns_bipush (c := 8) (by decide +kernel)) rfl ?_
      refine nk_p (i := .aload_n 1) (len := 1) (pc' := 310) mJ_187 (by decide +kernel) (ns_aload_n 1 rfl rfl) rfl ?_
      refine nk_getC (f := (4, 1, 64)) (x := 409) (len := 3) (ci := 12) (k := 32) (pc' := 313) ja_okT mJ_187 (by decide +kernel) (by decide +kernel) (by decide +kernel) (by decide) t_l1 rfl ?_
      have t17 : nk_ar ja_Tt (ja_c l1 32) = some (1, 64) := nk_ta ja_okT t_l1 (by decide +kernel)
      refine nk_p (i := .iload 5) (len := 2) (pc' := 315) mJ_187 (by decide +kernel) (ns_iload 3 rfl) rfl ?_
      obtain ⟨h18, hr⟩ := nk_cke hr
      refine nk_iald (len := 1) (N := 64) (pc' := 316) mJ_187 (by decide +kernel) t17 h18.1 h18.2 rfl rfl ?_
      refine nk_p (i := .iadd) (len := 1) (pc' := 317) mJ_187 (by decide +kernel) ns_iadd rfl ?_
      obtain ⟨r19, S20, h21, hr⟩ := nk_bde hr
      refine nk_callS (ci := 0) (n := 2) (x := 650) (len := 3) (j' := 225) (q' := 2) (r := r19) (S' := S20) (L2 := [(0, nk_r l1), (1, nk_i (nk_w (8 + (S15.1 (ja_c l1 32) l5.toNat))))]) (rest := [nk_l (S15.1 l0 40)]) (st' := [nk_l r19, nk_l (S15.1 l0 40)]) (pc' := 320) mJ_187 (by decide +kernel) (by decide +kernel) (Nat.le_of_ble_eq_true rfl) rfl rfl (Nat.le_of_ble_eq_true rfl) mJ_225 (Nat.le_of_ble_eq_true rfl) ja_Tpos rfl (ja_X13_sitesBelow_ok zs _ _ _ _ t_l1 h21) rfl ?_
      refine nk_p (i := .land) (len := 1) (pc' := 321) mJ_187 (by decide +kernel) ns_land rfl ?_
      obtain ⟨v22, h23, hr⟩ := nk_lte hr
      refine nk_p (i := .lstore 6) (len := 2) (pc' := 323) mJ_187 (by decide +kernel) (ns_lstore (L' := [(6, nk_l v22), (0, nk_r l0), (1, nk_r l1), (2, nk_i l2), (5, nk_i l5)]) h23 rfl (by decide +kernel)) rfl ?_
      refine nk_p (i := .lload 6) (len := 2) (pc' := 325) mJ_187 (by decide +kernel) (ns_lload 0 rfl) rfl ?_
      refine nk_p (i := .lconst 0) (len := 1) (pc' := 326) mJ_187 (by decide +kernel) (ns_lconst (c := 0) (by decide +kernel)) rfl ?_
      refine nk_p (i := .lcmp) (len := 1) (pc' := 327) mJ_187 (by decide +kernel) ns_lcmp rfl ?_
      refine nk_lcond (c := .ne) (off := 6) (len := 3) (t := 333) (pc' := 330) mJ_187 (by decide +kernel) (by decide +kernel) rfl (fun hc => ?_) (fun hc => ?_)
      · have hr := nk_ifn (c := v22 = 0) hc hr
        refine nk_p (i := .aload_n 0) (len := 1) (pc' := 334) mJ_187 (by decide +kernel) (ns_aload_n 1 rfl rfl) rfl ?_
        refine nk_p (i := .aload_n 1) (len := 1) (pc' := 335) mJ_187 (by decide +kernel) (ns_aload_n 2 rfl rfl) rfl ?_
        refine nk_p (i := .iload_n 2) (len := 1) (pc' := 336) mJ_187 (by decide +kernel) (ns_iload_n 3 rfl rfl) rfl ?_
        obtain ⟨r24, S25, h26, hr⟩ := nk_bde hr
        refine nk_callV (ci := 13) (n := 2) (x := 635) (len := 3) (j' := 120) (q' := 0) (r := r24) (S' := S25) (L2 := [(0, nk_r l0), (1, nk_r l1), (2, nk_i l2)]) (rest := []) (st' := []) (pc' := 339) mJ_187 (by decide +kernel) (by decide +kernel) rfl rfl t_l0 (Nat.le_of_ble_eq_true rfl) mJ_120 (Nat.le_of_ble_eq_true rfl) rfl (ja_X13_fetch_ok zs _ _ _ _ _ t_l0 t_l1 h26) rfl ?_
        refine nk_p (i := .aload_n 0) (len := 1) (pc' := 340) mJ_187 (by decide +kernel) (ns_aload_n 1 rfl rfl) rfl ?_
        refine nk_p (i := .bipush 12) (len := 2) (pc' := 342) mJ_187 (by decide +kernel) (ns_bipush (c := 12) (by decide +kernel)) rfl ?_
        obtain ⟨S27, h28, hr⟩ := nk_lte hr
        refine nk_putI (y := (0, 0)) (ty := .int) (x := 495) (len := 3) (ci := 13) (k := 25) (pc' := 345) ja_okT mJ_187 (by decide +kernel) (by decide +kernel) (by decide +kernel) t_l0 (Or.inl rfl) rfl h28 ?_
        refine nk_p (i := .aload_n 0) (len := 1) (pc' := 346) mJ_187 (by decide +kernel) (ns_aload_n 1 rfl rfl) rfl ?_
        refine nk_p (i := .lload 6) (len := 2) (pc' := 348) mJ_187 (by decide +kernel) (ns_lload 0 rfl) rfl ?_
        obtain ⟨r29, S30, h31, hr⟩ := nk_bde hr
        refine nk_callV (ci := 13) (n := 1) (x := 654) (len := 3) (j' := 176) (q' := 0) (r := r29) (S' := S30) (L2 := [(0, nk_r l0), (1, nk_l v22)]) (rest := []) (st' := []) (pc' := 351) mJ_187 (by decide +kernel) (by decide +kernel) rfl rfl t_l0 (Nat.le_of_ble_eq_true rfl) mJ_176 (Nat.le_of_ble_eq_true rfl) rfl (ja_X13_leaveSites_ok zs _ _ _ _ t_l0 h31) rfl ?_
        refine nk_p (i := .aload_n 0) (len := 1) (pc' := 352) mJ_187 (by decide +kernel) (ns_aload_n 1 rfl rfl) rfl ?_
        refine nk_p (i := .aload_n 1) (len := 1) (pc' := 353) mJ_187 (by decide +kernel) (ns_aload_n 2 rfl rfl) rfl ?_
        refine nk_p (i := .aload_n 1) (len := 1) (pc' := 354) mJ_187 (by decide +kernel) (ns_aload_n 2 rfl rfl) rfl ?_
        refine nk_getC (f := (4, 1, 64)) (x := 406) (len := 3) (ci := 12) (k := 31) (pc' := 357) ja_okT mJ_187 (by decide +kernel) (by decide +kernel) (by decide +kernel) (by decide) t_l1 rfl ?_
        have t32 : nk_ar ja_Tt (ja_c l1 31) = some (1, 64) := nk_ta ja_okT t_l1 (by decide +kernel)
        refine nk_p (i := .iload 5) (len := 2) (pc' := 359) mJ_187 (by decide +kernel) (ns_iload 4 rfl) rfl ?_
        refine nk_iald (len := 1) (N := 64) (pc' := 360) mJ_187 (by decide +kernel) t32 h18.1 h18.2 rfl rfl ?_
        obtain ⟨r33, S34, h35, hr⟩ := nk_bde hr
        refine nk_callV (ci := 13) (n := 2) (x := 622) (len := 3) (j' := 92) (q' := 0) (r := r33) (S' := S34) (L2 := [(0, nk_r l0), (1, nk_r l1), (2, nk_i (S30.1 (ja_c l1 31) l5.toNat))]) (rest := []) (st' := []) (pc' := 363) mJ_187 (by decide +kernel) (by decide +kernel) rfl rfl t_l0 (Nat.le_of_ble_eq_true rfl) mJ_92 (Nat.le_of_ble_eq_true rfl) rfl (ja_X13_bring_ok zs _ _ _ _ _ t_l0 t_l1 h35) rfl ?_
        refine nk_p (i := .aload_n 0) (len := 1) (pc' := 364) mJ_187 (by decide +kernel) (ns_aload_n 1 rfl rfl) rfl ?_
        refine nk_p (i := .dup) (len := 1) (pc' := 365) mJ_187 (by decide +kernel) (ns_dup rfl) rfl ?_
        refine nk_getL (y := (0, 0)) (x := 628) (len := 3) (ci := 13) (k := 40) (pc' := 368) ja_okT mJ_187 (by decide +kernel) (by decide +kernel) (by decide +kernel) t_l0 rfl ?_
        refine nk_p (i := .lload 6) (len := 2) (pc' := 370) mJ_187 (by decide +kernel) (ns_lload 0 rfl) rfl ?_
        refine nk_ldc2 (x := 549) (len := 3) (X := (-1)) (v := (-1)) (pc' := 373) mJ_187 (by decide +kernel) (by decide +kernel) (by decide +kernel) rfl ?_
        refine nk_p (i := .lxor) (len := 1) (pc' := 374) mJ_187 (by decide +kernel) ns_lxor rfl ?_
        refine nk_p (i := .land) (len := 1) (pc' := 375) mJ_187 (by decide +kernel) ns_land rfl ?_
        obtain ⟨S36, h37, hr⟩ := nk_lte hr
        refine nk_putL (y := (0, 0)) (x := 628) (len := 3) (ci := 13) (k := 40) (pc' := 378) ja_okT mJ_187 (by decide +kernel) (by decide +kernel) (by decide +kernel) t_l0 rfl h37 ?_
        obtain ⟨v38, h39, hr⟩ := nk_lte hr
        refine nk_p (i := .iinc 5 1) (len := 3) (pc' := 381) mJ_187 (by decide +kernel) (ns_iinc (c := 1) (L' := [(5, nk_i v38), (6, nk_l v22), (0, nk_r l0), (1, nk_r l1), (2, nk_i l2)]) 4 rfl (by decide +kernel) h39 rfl (by decide +kernel)) rfl ?_
        refine nk_p (i := .goto (-101)) (len := 3) (pc' := 280) mJ_187 (by decide +kernel) (ns_goto (by decide +kernel)) rfl ?_
        refine nk_sub [2, 3, 4, 0] (L' := [(0, nk_r l0), (1, nk_r l1), (2, nk_i l2), (5, nk_i v38)]) rfl ?_
        exact hrec280 _ _ _ _ _ _ t_l0 t_l1 hr
      · have hr := nk_ifp (c := v22 = 0) (Decidable.of_not_not hc) hr
        refine nk_p (i := .goto 48) (len := 3) (pc' := 378) mJ_187 (by decide +kernel) (ns_goto (by decide +kernel)) rfl ?_
        obtain ⟨v40, h41, hr⟩ := nk_lte hr
        refine nk_p (i := .iinc 5 1) (len := 3) (pc' := 381) mJ_187 (by decide +kernel) (ns_iinc (c := 1) (L' := [(5, nk_i v40), (6, nk_l v22), (0, nk_r l0), (1, nk_r l1), (2, nk_i l2)]) 4 rfl (by decide +kernel) h41 rfl (by decide +kernel)) rfl ?_
        refine nk_p (i := .goto (-101)) (len := 3) (pc' := 280) mJ_187 (by decide +kernel) (ns_goto (by decide +kernel)) rfl ?_
        refine nk_sub [2, 3, 4, 0] (L' := [(0, nk_r l0), (1, nk_r l1), (2, nk_i l2), (5, nk_i v40)]) rfl ?_
        exact hrec280 _ _ _ _ _ _ t_l0 t_l1 hr
    · have hr := nk_ifp (c := r14 = 0) (Decidable.of_not_not hc) hr
      refine nk_p (i := .goto 79) (len := 3) (pc' := 378) mJ_187 (by decide +kernel) (ns_goto (by decide +kernel)) rfl ?_
      obtain ⟨v42, h43, hr⟩ := nk_lte hr
      refine nk_p (i := .iinc 5 1) (len := 3) (pc' := 381) mJ_187 (by decide +kernel) (ns_iinc (c := 1) (L' := [(5, nk_i v42), (0, nk_r l0), (1, nk_r l1), (2, nk_i l2)]) 3 rfl (by decide +kernel) h43 rfl (by decide +kernel)) rfl ?_
      refine nk_p (i := .goto (-101)) (len := 3) (pc' := 280) mJ_187 (by decide +kernel) (ns_goto (by decide +kernel)) rfl ?_
      refine nk_sub [1, 2, 3, 0] (L' := [(0, nk_r l0), (1, nk_r l1), (2, nk_i l2), (5, nk_i v42)]) rfl ?_
      exact hrec280 _ _ _ _ _ _ t_l0 t_l1 hr
noncomputable def ja_X13_look_L280 : Nat → Nat → Nat → Int → Int → nk_S → Option (Int × nk_S)
  | 0, _, _, _, _, _ => none
  | n + 1, l0, l1, l2, l5, S => ja_X13_look_b280 (ja_X13_look_L280 n) l0 l1 l2 l5 S
theorem ja_X13_look_L280_ok (zs : List Int32) : ∀ n : Nat, ∀ (l0 : Nat) (l1 : Nat) (l2 : Int) (l5 : Int) (S : nk_S) (R : Int × nk_S), nk_cl ja_Tt l0 = some 13 → nk_cl ja_Tt l1 = some 12 → ja_X13_look_L280 n l0 l1 l2 l5 S = some R → nk_K ja_Tt mi_Γ (mi_ev zs) 0 187 280 [(0, nk_r l0), (1, nk_r l1), (2, nk_i l2), (5, nk_i l5)] [] S R := by
  intro n
  induction n with
  | zero => intro _ _ _ _ _ _ _ _ hr; cases hr
  | succ n ih => intro l0 l1 l2 l5 S R t_l0 t_l1 hr; exact ja_X13_look_b280_ok zs ih l0 l1 l2 l5 S R t_l0 t_l1 hr
noncomputable def ja_X13_look_b207 (rec207 : Nat → Nat → Int → Int → Int → nk_S → Option (Int × nk_S)) (l0 : Nat) (l1 : Nat) (l2 : Int) (l4 : Int) (l5 : Int) (S : nk_S) : Option (Int × nk_S) :=
  if 6 ≤ l5 then
    if (S.1 l0 38) = 0 then
      if 0 ≤ l2 ∧ l2 < 1024 then
      nk_lt (nk_wi S (ja_c l1 44) l2.toNat (nk_ior (nk_ior (S.1 l0 39) l4) 512)) fun S3 =>
      ja_X13_look_L280 nk_big l0 l1 l2 0 S3
      else none
    else
      if 0 ≤ l2 ∧ l2 < 1024 then
      nk_lt (nk_wi S (ja_c l1 44) l2.toNat (nk_ior (nk_ior (S.1 l0 39) l4) 0)) fun S6 =>
      ja_X13_look_L280 nk_big l0 l1 l2 0 S6
      else none
  else
    if (nk_iand (nk_ishr (S.1 l0 39) l5) 1) = 1 then
      nk_lt (nk_wi S l0 40 (nk_lor (S.1 l0 40) (nk_lshl 1 (nk_w (48 + l5))))) fun S10 =>
      nk_lt (nk_w (l5 + 1)) fun v12 =>
      rec207 l0 l1 l2 l4 v12 S10
    else
      nk_lt (nk_w (l5 + 1)) fun v8 =>
      rec207 l0 l1 l2 l4 v8 S
theorem ja_X13_look_b207_ok (zs : List Int32) {rec207 : Nat → Nat → Int → Int → Int → nk_S → Option (Int × nk_S)} (hrec207 : ∀ (l0 : Nat) (l1 : Nat) (l2 : Int) (l4 : Int) (l5 : Int) (S : nk_S) (R : Int × nk_S), nk_cl ja_Tt l0 = some 13 → nk_cl ja_Tt l1 = some 12 → rec207 l0 l1 l2 l4 l5 S = some R → nk_K ja_Tt mi_Γ (mi_ev zs) 0 187 207 [(0, nk_r l0), (1, nk_r l1), (2, nk_i l2), (4, nk_i l4), (5, nk_i l5)] [] S R) : ∀ (l0 : Nat) (l1 : Nat) (l2 : Int) (l4 : Int) (l5 : Int) (S : nk_S) (R : Int × nk_S), nk_cl ja_Tt l0 = some 13 → nk_cl ja_Tt l1 = some 12 → ja_X13_look_b207 rec207 l0 l1 l2 l4 l5 S = some R → nk_K ja_Tt mi_Γ (mi_ev zs) 0 187 207 [(0, nk_r l0), (1, nk_r l1), (2, nk_i l2), (4, nk_i l4), (5, nk_i l5)] [] S R := by
  intro l0 l1 l2 l4 l5 S R t_l0 t_l1 hr
  unfold ja_X13_look_b207 at hr
  refine nk_p (i := .iload 5) (len := 2) (pc' := 209) mJ_187 (by decide +kernel) (ns_iload 4 rfl) rfl ?_
  refine nk_p (i := .bipush 6) (len := 2) (pc' := 211) mJ_187 (by decide +kernel) (ns_bipush (c := 6) (by decide +kernel)) rfl ?_
  refine nk_icmp (c := .ge) (off := 38) (len := 3) (t := 249) (pc' := 214) mJ_187 (by decide +kernel) (by decide +kernel) rfl (fun hc => ?_) (fun hc => ?_)
  · have hr := nk_ifp (c := 6 ≤ l5) hc hr
    refine nk_p (i := .aload_n 1) (len := 1) (pc' := 250) mJ_187 (by decide +kernel) (ns_aload_n 1 rfl rfl) rfl ?_
    refine nk_getC (f := (4, 1, 1024)) (x := 601) (len := 3) (ci := 12) (k := 44) (pc' := 253) ja_okT mJ_187 (by decide +kernel) (by decide +kernel) (by decide +kernel) (by decide) t_l1 rfl ?_
    have t1 : nk_ar ja_Tt (ja_c l1 44) = some (1, 1024) := nk_ta ja_okT t_l1 (by decide +kernel)
    refine nk_p (i := .iload_n 2) (len := 1) (pc' := 254) mJ_187 (by decide +kernel) (ns_iload_n 2 rfl rfl) rfl ?_
    refine nk_p (i := .aload_n 0) (len := 1) (pc' := 255) mJ_187 (by decide +kernel) (ns_aload_n 0 rfl rfl) rfl ?_
    refine nk_getI (y := (0, 0)) (x := 625) (len := 3) (ci := 13) (k := 39) (pc' := 258) ja_okT mJ_187 (by decide +kernel) (by decide +kernel) (by decide +kernel) t_l0 rfl ?_
    refine nk_p (i := .iload 4) (len := 2) (pc' := 260) mJ_187 (by decide +kernel) (ns_iload 3 rfl) rfl ?_
    refine nk_p (i := .ior) (len := 1) (pc' := 261) mJ_187 (by decide +kernel) ns_ior rfl ?_
    refine nk_p (i := .aload_n 0) (len := 1) (pc' := 262) mJ_187 (by decide +kernel) (ns_aload_n 0 rfl rfl) rfl ?_
    refine nk_getI (y := (0, 0)) (x := 632) (len := 3) (ci := 13) (k := 38) (pc' := 265) ja_okT mJ_187 (by decide +kernel) (by decide +kernel) (by decide +kernel) t_l0 rfl ?_
    refine nk_icond (c := .eq) (off := 7) (len := 3) (t := 272) (pc' := 268) mJ_187 (by decide +kernel) (by decide +kernel) rfl (fun hc => ?_) (fun hc => ?_)
    · have hr := nk_ifp (c := (S.1 l0 38) = 0) hc hr
      refine nk_p (i := .sipush 512) (len := 3) (pc' := 275) mJ_187 (by decide +kernel) (ns_sipush (c := 512) (by decide +kernel)) rfl ?_
      refine nk_p (i := .ior) (len := 1) (pc' := 276) mJ_187 (by decide +kernel) ns_ior rfl ?_
      obtain ⟨h2, hr⟩ := nk_cke hr
      obtain ⟨S3, h4, hr⟩ := nk_lte hr
      refine nk_iast (len := 1) (N := 1024) (pc' := 277) mJ_187 (by decide +kernel) t1 h2.1 h2.2 rfl rfl h4 ?_
      refine nk_p (i := .iconst 0) (len := 1) (pc' := 278) mJ_187 (by decide +kernel) (ns_iconst (c := 0) (by decide +kernel)) rfl ?_
      refine nk_p (i := .istore 5) (len := 2) (pc' := 280) mJ_187 (by decide +kernel) (ns_istore (L' := [(5, nk_i 0), (0, nk_r l0), (1, nk_r l1), (2, nk_i l2), (4, nk_i l4)]) rfl rfl (by decide +kernel)) rfl ?_
      refine nk_sub [1, 2, 3, 0] (L' := [(0, nk_r l0), (1, nk_r l1), (2, nk_i l2), (5, nk_i 0)]) rfl ?_
      exact ja_X13_look_L280_ok zs nk_big _ _ _ _ _ _ t_l0 t_l1 hr
    · have hr := nk_ifn (c := (S.1 l0 38) = 0) hc hr
      refine nk_p (i := .iconst 0) (len := 1) (pc' := 269) mJ_187 (by decide +kernel) (ns_iconst (c := 0) (by decide +kernel)) rfl ?_
      refine nk_p (i := .goto 6) (len := 3) (pc' := 275) mJ_187 (by decide +kernel) (ns_goto (by decide +kernel)) rfl ?_
      refine nk_p (i := .ior) (len := 1) (pc' := 276) mJ_187 (by decide +kernel) ns_ior rfl ?_
      obtain ⟨h5, hr⟩ := nk_cke hr
      obtain ⟨S6, h7, hr⟩ := nk_lte hr
      refine nk_iast (len := 1) (N := 1024) (pc' := 277) mJ_187 (by decide +kernel) t1 h5.1 h5.2 rfl rfl h7 ?_
      refine nk_p (i := .iconst 0) (len := 1) (pc' := 278) mJ_187 (by decide +kernel) (ns_iconst (c := 0) (by decide +kernel)) rfl ?_
      refine nk_p (i := .istore 5) (len := 2) (pc' := 280) mJ_187 (by decide +kernel) (ns_istore (L' := [(5, nk_i 0), (0, nk_r l0), (1, nk_r l1), (2, nk_i l2), (4, nk_i l4)]) rfl rfl (by decide +kernel)) rfl ?_
      refine nk_sub [1, 2, 3, 0] (L' := [(0, nk_r l0), (1, nk_r l1), (2, nk_i l2), (5, nk_i 0)]) rfl ?_
      exact ja_X13_look_L280_ok zs nk_big _ _ _ _ _ _ t_l0 t_l1 hr
  · have hr := nk_ifn (c := 6 ≤ l5) hc hr
    refine nk_p (i := .aload_n 0) (len := 1) (pc' := 215) mJ_187 (by decide +kernel) (ns_aload_n 0 rfl rfl) rfl ?_
    refine nk_getI (y := (0, 0)) (x := 625) (len := 3) (ci := 13) (k := 39) (pc' := 218) ja_okT mJ_187 (by decide +kernel) (by decide +kernel) (by decide +kernel) t_l0 rfl ?_
    refine nk_p (i := .iload 5) (len := 2) (pc' := 220) mJ_187 (by decide +kernel) (ns_iload 4 rfl) rfl ?_
    refine nk_p (i := .ishr) (len := 1) (pc' := 221) mJ_187 (by decide +kernel) ns_ishr rfl ?_
    refine nk_p (i := .iconst 1) (len := 1) (pc' := 222) mJ_187 (by decide +kernel) (ns_iconst (c := 1) (by decide +kernel)) rfl ?_
    refine nk_p (i := .iand) (len := 1) (pc' := 223) mJ_187 (by decide +kernel) ns_iand rfl ?_
    refine nk_p (i := .iconst 1) (len := 1) (pc' := 224) mJ_187 (by decide +kernel) (ns_iconst (c := 1) (by decide +kernel)) rfl ?_
    refine nk_icmp (c := .ne) (off := 19) (len := 3) (t := 243) (pc' := 227) mJ_187 (by decide +kernel) (by decide +kernel) rfl (fun hc => ?_) (fun hc => ?_)
    · have hr := nk_ifn (c := (nk_iand (nk_ishr (S.1 l0 39) l5) 1) = 1) hc hr
      obtain ⟨v8, h9, hr⟩ := nk_lte hr
      refine nk_p (i := .iinc 5 1) (len := 3) (pc' := 246) mJ_187 (by decide +kernel) (ns_iinc (c := 1) (L' := [(5, nk_i v8), (0, nk_r l0), (1, nk_r l1), (2, nk_i l2), (4, nk_i l4)]) 4 rfl (by decide +kernel) h9 rfl (by decide +kernel)) rfl ?_
      refine nk_p (i := .goto (-39)) (len := 3) (pc' := 207) mJ_187 (by decide +kernel) (ns_goto (by decide +kernel)) rfl ?_
      refine nk_sub [1, 2, 3, 4, 0] (L' := [(0, nk_r l0), (1, nk_r l1), (2, nk_i l2), (4, nk_i l4), (5, nk_i v8)]) rfl ?_
      exact hrec207 _ _ _ _ _ _ _ t_l0 t_l1 hr
    · have hr := nk_ifp (c := (nk_iand (nk_ishr (S.1 l0 39) l5) 1) = 1) (Decidable.of_not_not hc) hr
      refine nk_p (i := .aload_n 0) (len := 1) (pc' := 228) mJ_187 (by decide +kernel) (ns_aload_n 0 rfl rfl) rfl ?_
      refine nk_p (i := .dup) (len := 1) (pc' := 229) mJ_187 (by decide +kernel) (ns_dup rfl) rfl ?_
      refine nk_getL (y := (0, 0)) (x := 628) (len := 3) (ci := 13) (k := 40) (pc' := 232) ja_okT mJ_187 (by decide +kernel) (by decide +kernel) (by decide +kernel) t_l0 rfl ?_
      refine nk_p (i := .lconst 1) (len := 1) (pc' := 233) mJ_187 (by decide +kernel) (ns_lconst (c := 1) (by decide +kernel)) rfl ?_
      refine nk_p (i := .bipush 48) (len := 2) (pc' := 235) mJ_187 (by decide +kernel) (ns_bipush (c := 48) (by decide +kernel)) rfl ?_
      refine nk_p (i := .iload 5) (len := 2) (pc' := 237) mJ_187 (by decide +kernel) (ns_iload 4 rfl) rfl ?_
      refine nk_p (i := .iadd) (len := 1) (pc' := 238) mJ_187 (by decide +kernel) ns_iadd rfl ?_
      refine nk_p (i := .lshl) (len := 1) (pc' := 239) mJ_187 (by decide +kernel) ns_lshl rfl ?_
      refine nk_p (i := .lor) (len := 1) (pc' := 240) mJ_187 (by decide +kernel) ns_lor rfl ?_
      obtain ⟨S10, h11, hr⟩ := nk_lte hr
      refine nk_putL (y := (0, 0)) (x := 628) (len := 3) (ci := 13) (k := 40) (pc' := 243) ja_okT mJ_187 (by decide +kernel) (by decide +kernel) (by decide +kernel) t_l0 rfl h11 ?_
      obtain ⟨v12, h13, hr⟩ := nk_lte hr
      refine nk_p (i := .iinc 5 1) (len := 3) (pc' := 246) mJ_187 (by decide +kernel) (ns_iinc (c := 1) (L' := [(5, nk_i v12), (0, nk_r l0), (1, nk_r l1), (2, nk_i l2), (4, nk_i l4)]) 4 rfl (by decide +kernel) h13 rfl (by decide +kernel)) rfl ?_
      refine nk_p (i := .goto (-39)) (len := 3) (pc' := 207) mJ_187 (by decide +kernel) (ns_goto (by decide +kernel)) rfl ?_
      refine nk_sub [1, 2, 3, 4, 0] (L' := [(0, nk_r l0), (1, nk_r l1), (2, nk_i l2), (4, nk_i l4), (5, nk_i v12)]) rfl ?_
      exact hrec207 _ _ _ _ _ _ _ t_l0 t_l1 hr
noncomputable def ja_X13_look_L207 : Nat → Nat → Nat → Int → Int → Int → nk_S → Option (Int × nk_S)
  | 0, _, _, _, _, _, _ => none
  | n + 1, l0, l1, l2, l4, l5, S => ja_X13_look_b207 (ja_X13_look_L207 n) l0 l1 l2 l4 l5 S
theorem ja_X13_look_L207_ok (zs : List Int32) : ∀ n : Nat, ∀ (l0 : Nat) (l1 : Nat) (l2 : Int) (l4 : Int) (l5 : Int) (S : nk_S) (R : Int × nk_S), nk_cl ja_Tt l0 = some 13 → nk_cl ja_Tt l1 = some 12 → ja_X13_look_L207 n l0 l1 l2 l4 l5 S = some R → nk_K ja_Tt mi_Γ (mi_ev zs) 0 187 207 [(0, nk_r l0), (1, nk_r l1), (2, nk_i l2), (4, nk_i l4), (5, nk_i l5)] [] S R := by
  intro n
  induction n with
  | zero => intro _ _ _ _ _ _ _ _ _ hr; cases hr
  | succ n ih => intro l0 l1 l2 l4 l5 S R t_l0 t_l1 hr; exact ja_X13_look_b207_ok zs ih l0 l1 l2 l4 l5 S R t_l0 t_l1 hr
noncomputable def ja_X13_look_b187 (l0 : Nat) (l1 : Nat) (l2 : Int) (l4 : Int) (S : nk_S) : Option (Int × nk_S) :=
  if (S.1 l0 40) = 0 then
    ja_X13_look_L207 nk_big l0 l1 l2 l4 0 S
  else
    nk_lt (nk_ior l4 128) fun v1 =>
    ja_X13_look_L207 nk_big l0 l1 l2 v1 0 S
theorem ja_X13_look_b187_ok (zs : List Int32) : ∀ (l0 : Nat) (l1 : Nat) (l2 : Int) (l4 : Int) (S : nk_S) (R : Int × nk_S), nk_cl ja_Tt l0 = some 13 → nk_cl ja_Tt l1 = some 12 → ja_X13_look_b187 l0 l1 l2 l4 S = some R → nk_K ja_Tt mi_Γ (mi_ev zs) 0 187 187 [(0, nk_r l0), (1, nk_r l1), (2, nk_i l2), (4, nk_i l4)] [] S R := by
  intro l0 l1 l2 l4 S R t_l0 t_l1 hr
  unfold ja_X13_look_b187 at hr
  refine nk_p (i := .aload_n 0) (len := 1) (pc' := 188) mJ_187 (by decide +kernel) (ns_aload_n 0 rfl rfl) rfl ?_
  refine nk_getL (y := (0, 0)) (x := 628) (len := 3) (ci := 13) (k := 40) (pc' := 191) ja_okT mJ_187 (by decide +kernel) (by decide +kernel) (by decide +kernel) t_l0 rfl ?_
  refine nk_p (i := .lconst 0) (len := 1) (pc' := 192) mJ_187 (by decide +kernel) (ns_lconst (c := 0) (by decide +kernel)) rfl ?_
  refine nk_p (i := .lcmp) (len := 1) (pc' := 193) mJ_187 (by decide +kernel) ns_lcmp rfl ?_
  refine nk_lcond (c := .eq) (off := 11) (len := 3) (t := 204) (pc' := 196) mJ_187 (by decide +kernel) (by decide +kernel) rfl (fun hc => ?_) (fun hc => ?_)
  · have hr := nk_ifp (c := (S.1 l0 40) = 0) hc hr
    refine nk_p (i := .iconst 0) (len := 1) (pc' := 205) mJ_187 (by decide +kernel) (ns_iconst (c := 0) (by decide +kernel)) rfl ?_
    refine nk_p (i := .istore 5) (len := 2) (pc' := 207) mJ_187 (by decide +kernel) (ns_istore (L' := [(5, nk_i 0), (0, nk_r l0), (1, nk_r l1), (2, nk_i l2), (4, nk_i l4)]) rfl rfl (by decide +kernel)) rfl ?_
    refine nk_sub [1, 2, 3, 4, 0] (L' := [(0, nk_r l0), (1, nk_r l1), (2, nk_i l2), (4, nk_i l4), (5, nk_i 0)]) rfl ?_
    exact ja_X13_look_L207_ok zs nk_big _ _ _ _ _ _ _ t_l0 t_l1 hr
  · have hr := nk_ifn (c := (S.1 l0 40) = 0) hc hr
    refine nk_p (i := .iload 4) (len := 2) (pc' := 198) mJ_187 (by decide +kernel) (ns_iload 3 rfl) rfl ?_
    refine nk_p (i := .sipush 128) (len := 3) (pc' := 201) mJ_187 (by decide +kernel) (ns_sipush (c := 128) (by decide +kernel)) rfl ?_
    refine nk_p (i := .ior) (len := 1) (pc' := 202) mJ_187 (by decide +kernel) ns_ior rfl ?_
    obtain ⟨v1, h2, hr⟩ := nk_lte hr
    refine nk_p (i := .istore 4) (len := 2) (pc' := 204) mJ_187 (by decide +kernel) (ns_istore (L' := [(4, nk_i v1), (0, nk_r l0), (1, nk_r l1), (2, nk_i l2)]) h2 rfl (by decide +kernel)) rfl ?_
    refine nk_p (i := .iconst 0) (len := 1) (pc' := 205) mJ_187 (by decide +kernel) (ns_iconst (c := 0) (by decide +kernel)) rfl ?_
    refine nk_p (i := .istore 5) (len := 2) (pc' := 207) mJ_187 (by decide +kernel) (ns_istore (L' := [(5, nk_i 0), (4, nk_i v1), (0, nk_r l0), (1, nk_r l1), (2, nk_i l2)]) rfl rfl (by decide +kernel)) rfl ?_
    refine nk_sub [2, 3, 4, 1, 0] (L' := [(0, nk_r l0), (1, nk_r l1), (2, nk_i l2), (4, nk_i v1), (5, nk_i 0)]) rfl ?_
    exact ja_X13_look_L207_ok zs nk_big _ _ _ _ _ _ _ t_l0 t_l1 hr
noncomputable def ja_X13_look_b175 (l0 : Nat) (l1 : Nat) (l2 : Int) (l3 : Int) (l4 : Int) (S : nk_S) : Option (Int × nk_S) :=
  if l3 = 39 then
    ja_X13_look_b187 l0 l1 l2 l4 S
  else
    if l3 = 40 then
      ja_X13_look_b187 l0 l1 l2 l4 S
    else
      ja_X13_look_L207 nk_big l0 l1 l2 l4 0 S
theorem ja_X13_look_b175_ok (zs : List Int32) : ∀ (l0 : Nat) (l1 : Nat) (l2 : Int) (l3 : Int) (l4 : Int) (S : nk_S) (R : Int × nk_S), nk_cl ja_Tt l0 = some 13 → nk_cl ja_Tt l1 = some 12 → ja_X13_look_b175 l0 l1 l2 l3 l4 S = some R → nk_K ja_Tt mi_Γ (mi_ev zs) 0 187 175 [(0, nk_r l0), (1, nk_r l1), (2, nk_i l2), (3, nk_i l3), (4, nk_i l4)] [] S R := by
  intro l0 l1 l2 l3 l4 S R t_l0 t_l1 hr
  unfold ja_X13_look_b175 at hr
  refine nk_p (i := .iload_n 3) (len := 1) (pc' := 176) mJ_187 (by decide +kernel) (ns_iload_n 3 rfl rfl) rfl ?_
  refine nk_p (i := .bipush 39) (len := 2) (pc' := 178) mJ_187 (by decide +kernel) (ns_bipush (c := 39) (by decide +kernel)) rfl ?_
  refine nk_icmp (c := .eq) (off := 9) (len := 3) (t := 187) (pc' := 181) mJ_187 (by decide +kernel) (by decide +kernel) rfl (fun hc => ?_) (fun hc => ?_)
  · have hr := nk_ifp (c := l3 = 39) hc hr
    refine nk_sub [0, 1, 2, 4] (L' := [(0, nk_r l0), (1, nk_r l1), (2, nk_i l2), (4, nk_i l4)]) rfl ?_
    exact ja_X13_look_b187_ok zs _ _ _ _ _ _ t_l0 t_l1 hr
  · have hr := nk_ifn (c := l3 = 39) hc hr
    refine nk_p (i := .iload_n 3) (len := 1) (pc' := 182) mJ_187 (by decide +kernel) (ns_iload_n 3 rfl rfl) rfl ?_
    refine nk_p (i := .bipush 40) (len := 2) (pc' := 184) mJ_187 (by decide +kernel) (ns_bipush (c := 40) (by decide +kernel)) rfl ?_
    refine nk_icmp (c := .ne) (off := 20) (len := 3) (t := 204) (pc' := 187) mJ_187 (by decide +kernel) (by decide +kernel) rfl (fun hc => ?_) (fun hc => ?_)
    · have hr := nk_ifn (c := l3 = 40) hc hr
      refine nk_p (i := .iconst 0) (len := 1) (pc' := 205) mJ_187 (by decide +kernel) (ns_iconst (c := 0) (by decide +kernel)) rfl ?_
      refine nk_p (i := .istore 5) (len := 2) (pc' := 207) mJ_187 (by decide +kernel) (ns_istore (L' := [(5, nk_i 0), (0, nk_r l0), (1, nk_r l1), (2, nk_i l2), (3, nk_i l3), (4, nk_i l4)]) rfl rfl (by decide +kernel)) rfl ?_
      refine nk_sub [1, 2, 3, 5, 0] (L' := [(0, nk_r l0), (1, nk_r l1), (2, nk_i l2), (4, nk_i l4), (5, nk_i 0)]) rfl ?_
      exact ja_X13_look_L207_ok zs nk_big _ _ _ _ _ _ _ t_l0 t_l1 hr
    · have hr := nk_ifp (c := l3 = 40) (Decidable.of_not_not hc) hr
      refine nk_sub [0, 1, 2, 4] (L' := [(0, nk_r l0), (1, nk_r l1), (2, nk_i l2), (4, nk_i l4)]) rfl ?_
      exact ja_X13_look_b187_ok zs _ _ _ _ _ _ t_l0 t_l1 hr
noncomputable def ja_X13_look_b153 (l0 : Nat) (l1 : Nat) (l2 : Int) (l3 : Int) (l4 : Int) (S : nk_S) : Option (Int × nk_S) :=
  if l3 = 41 then
    if (S.1 l0 40) = 0 then
      ja_X13_look_b175 l0 l1 l2 l3 l4 S
    else
      nk_lt (nk_ior l4 64) fun v1 =>
      ja_X13_look_b175 l0 l1 l2 l3 v1 S
  else
    ja_X13_look_b175 l0 l1 l2 l3 l4 S
theorem ja_X13_look_b153_ok (zs : List Int32) : ∀ (l0 : Nat) (l1 : Nat) (l2 : Int) (l3 : Int) (l4 : Int) (S : nk_S) (R : Int × nk_S), nk_cl ja_Tt l0 = some 13 → nk_cl ja_Tt l1 = some 12 → ja_X13_look_b153 l0 l1 l2 l3 l4 S = some R → nk_K ja_Tt mi_Γ (mi_ev zs) 0 187 153 [(0, nk_r l0), (1, nk_r l1), (2, nk_i l2), (3, nk_i l3), (4, nk_i l4)] [] S R := by
  intro l0 l1 l2 l3 l4 S R t_l0 t_l1 hr
  unfold ja_X13_look_b153 at hr
  refine nk_p (i := .iload_n 3) (len := 1) (pc' := 154) mJ_187 (by decide +kernel) (ns_iload_n 3 rfl rfl) rfl ?_
  refine nk_p (i := .bipush 41) (len := 2) (pc' := 156) mJ_187 (by decide +kernel) (ns_bipush (c := 41) (by decide +kernel)) rfl ?_
  refine nk_icmp (c := .ne) (off := 19) (len := 3) (t := 175) (pc' := 159) mJ_187 (by decide +kernel) (by decide +kernel) rfl (fun hc => ?_) (fun hc => ?_)
  · have hr := nk_ifn (c := l3 = 41) hc hr
    exact ja_X13_look_b175_ok zs _ _ _ _ _ _ _ t_l0 t_l1 hr
  · have hr := nk_ifp (c := l3 = 41) (Decidable.of_not_not hc) hr
    refine nk_p (i := .aload_n 0) (len := 1) (pc' := 160) mJ_187 (by decide +kernel) (ns_aload_n 0 rfl rfl) rfl ?_
    refine nk_getL (y := (0, 0)) (x := 628) (len := 3) (ci := 13) (k := 40) (pc' := 163) ja_okT mJ_187 (by decide +kernel) (by decide +kernel) (by decide +kernel) t_l0 rfl ?_
    refine nk_p (i := .lconst 0) (len := 1) (pc' := 164) mJ_187 (by decide +kernel) (ns_lconst (c := 0) (by decide +kernel)) rfl ?_
    refine nk_p (i := .lcmp) (len := 1) (pc' := 165) mJ_187 (by decide +kernel) ns_lcmp rfl ?_
    refine nk_lcond (c := .eq) (off := 10) (len := 3) (t := 175) (pc' := 168) mJ_187 (by decide +kernel) (by decide +kernel) rfl (fun hc => ?_) (fun hc => ?_)
    · have hr := nk_ifp (c := (S.1 l0 40) = 0) hc hr
      exact ja_X13_look_b175_ok zs _ _ _ _ _ _ _ t_l0 t_l1 hr
    · have hr := nk_ifn (c := (S.1 l0 40) = 0) hc hr
      refine nk_p (i := .iload 4) (len := 2) (pc' := 170) mJ_187 (by decide +kernel) (ns_iload 4 rfl) rfl ?_
      refine nk_p (i := .bipush 64) (len := 2) (pc' := 172) mJ_187 (by decide +kernel) (ns_bipush (c := 64) (by decide +kernel)) rfl ?_
      refine nk_p (i := .ior) (len := 1) (pc' := 173) mJ_187 (by decide +kernel) ns_ior rfl ?_
      obtain ⟨v1, h2, hr⟩ := nk_lte hr
      refine nk_p (i := .istore 4) (len := 2) (pc' := 175) mJ_187 (by decide +kernel) (ns_istore (L' := [(4, nk_i v1), (0, nk_r l0), (1, nk_r l1), (2, nk_i l2), (3, nk_i l3)]) h2 rfl (by decide +kernel)) rfl ?_
      refine nk_sub [1, 2, 3, 4, 0] (L' := [(0, nk_r l0), (1, nk_r l1), (2, nk_i l2), (3, nk_i l3), (4, nk_i v1)]) rfl ?_
      exact ja_X13_look_b175_ok zs _ _ _ _ _ _ _ t_l0 t_l1 hr
noncomputable def ja_X13_look_b133 (l0 : Nat) (l1 : Nat) (l2 : Int) (l3 : Int) (l4 : Int) (l5 : Int) (S : nk_S) : Option (Int × nk_S) :=
  if l5 = 0 then
    ja_X13_look_b153 l0 l1 l2 l3 l4 S
  else
    nk_bd (ja_X13_hasNext l3 S) fun r1 S2 =>
    if r1 = 0 then
      ja_X13_look_b153 l0 l1 l2 l3 l4 S2
    else
      nk_bd (ja_X13_goOn l0 l1 (nk_w (l2 + 1)) S2) fun r4 S5 =>
      ja_X13_look_b153 l0 l1 l2 l3 l4 S5
theorem ja_X13_look_b133_ok (zs : List Int32) : ∀ (l0 : Nat) (l1 : Nat) (l2 : Int) (l3 : Int) (l4 : Int) (l5 : Int) (S : nk_S) (R : Int × nk_S), nk_cl ja_Tt l0 = some 13 → nk_cl ja_Tt l1 = some 12 → ja_X13_look_b133 l0 l1 l2 l3 l4 l5 S = some R → nk_K ja_Tt mi_Γ (mi_ev zs) 0 187 133 [(0, nk_r l0), (1, nk_r l1), (2, nk_i l2), (3, nk_i l3), (4, nk_i l4), (5, nk_i l5)] [] S R := by
  intro l0 l1 l2 l3 l4 l5 S R t_l0 t_l1 hr
  unfold ja_X13_look_b133 at hr
  refine nk_p (i := .iload 5) (len := 2) (pc' := 135) mJ_187 (by decide +kernel) (ns_iload 5 rfl) rfl ?_
  refine nk_icond (c := .eq) (off := 18) (len := 3) (t := 153) (pc' := 138) mJ_187 (by decide +kernel) (by decide +kernel) rfl (fun hc => ?_) (fun hc => ?_)
  · have hr := nk_ifp (c := l5 = 0) hc hr
    refine nk_sub [0, 1, 2, 3, 4] (L' := [(0, nk_r l0), (1, nk_r l1), (2, nk_i l2), (3, nk_i l3), (4, nk_i l4)]) rfl ?_
    exact ja_X13_look_b153_ok zs _ _ _ _ _ _ _ t_l0 t_l1 hr
  · have hr := nk_ifn (c := l5 = 0) hc hr
    refine nk_p (i := .iload_n 3) (len := 1) (pc' := 139) mJ_187 (by decide +kernel) (ns_iload_n 3 rfl rfl) rfl ?_
    obtain ⟨r1, S2, h3, hr⟩ := nk_bde hr
    refine nk_callS (ci := 0) (n := 1) (x := 462) (len := 3) (j' := 130) (q' := 1) (r := r1) (S' := S2) (L2 := [(0, nk_i l3)]) (rest := []) (st' := [nk_i r1]) (pc' := 142) mJ_187 (by decide +kernel) (by decide +kernel) (Nat.le_of_ble_eq_true rfl) rfl rfl (Nat.le_of_ble_eq_true rfl) mJ_130 (Nat.le_of_ble_eq_true rfl) ja_Tpos rfl (ja_X13_hasNext_ok zs _ _ _ h3) rfl ?_
    refine nk_icond (c := .eq) (off := 11) (len := 3) (t := 153) (pc' := 145) mJ_187 (by decide +kernel) (by decide +kernel) rfl (fun hc => ?_) (fun hc => ?_)
    · have hr := nk_ifp (c := r1 = 0) hc hr
      refine nk_sub [0, 1, 2, 3, 4] (L' := [(0, nk_r l0), (1, nk_r l1), (2, nk_i l2), (3, nk_i l3), (4, nk_i l4)]) rfl ?_
      exact ja_X13_look_b153_ok zs _ _ _ _ _ _ _ t_l0 t_l1 hr
    · have hr := nk_ifn (c := r1 = 0) hc hr
      refine nk_p (i := .aload_n 0) (len := 1) (pc' := 146) mJ_187 (by decide +kernel) (ns_aload_n 0 rfl rfl) rfl ?_
      refine nk_p (i := .aload_n 1) (len := 1) (pc' := 147) mJ_187 (by decide +kernel) (ns_aload_n 1 rfl rfl) rfl ?_
      refine nk_p (i := .iload_n 2) (len := 1) (pc' := 148) mJ_187 (by decide +kernel) (ns_iload_n 2 rfl rfl) rfl ?_
      refine nk_p (i := .iconst 1) (len := 1) (pc' := 149) mJ_187 (by decide +kernel) (ns_iconst (c := 1) (by decide +kernel)) rfl ?_
      refine nk_p (i := .iadd) (len := 1) (pc' := 150) mJ_187 (by decide +kernel) ns_iadd rfl ?_
      obtain ⟨r4, S5, h6, hr⟩ := nk_bde hr
      refine nk_callV (ci := 13) (n := 2) (x := 641) (len := 3) (j' := 126) (q' := 0) (r := r4) (S' := S5) (L2 := [(0, nk_r l0), (1, nk_r l1), (2, nk_i (nk_w (l2 + 1)))]) (rest := []) (st' := []) (pc' := 153) mJ_187 (by decide +kernel) (by decide +kernel) rfl rfl t_l0 (Nat.le_of_ble_eq_true rfl) mJ_126 (Nat.le_of_ble_eq_true rfl) rfl (ja_X13_goOn_ok zs _ _ _ _ _ t_l0 t_l1 h6) rfl ?_
      refine nk_sub [0, 1, 2, 3, 4] (L' := [(0, nk_r l0), (1, nk_r l1), (2, nk_i l2), (3, nk_i l3), (4, nk_i l4)]) rfl ?_
      exact ja_X13_look_b153_ok zs _ _ _ _ _ _ _ t_l0 t_l1 hr
noncomputable def ja_X13_look_b94 (l0 : Nat) (l1 : Nat) (l2 : Int) (l3 : Int) (l4 : Int) (S : nk_S) : Option (Int × nk_S) :=
  nk_bd (ja_X13_fetch l0 l1 l2 S) fun r1 S2 =>
  nk_bd (ja_X13_goesBehind l0 l1 l2 S2) fun r4 S5 =>
  if r4 = 0 then
    ja_X13_look_b133 l0 l1 l2 l3 l4 r4 S5
  else
    if l3 = 19 then
      if 0 ≤ l2 ∧ l2 < 1024 then
      nk_bd (ja_X13_goOn l0 l1 (S5.1 (ja_c l1 23) l2.toNat) S5) fun r9 S10 =>
      ja_X13_look_b153 l0 l1 l2 l3 l4 S10
      else none
    else
      ja_X13_look_b133 l0 l1 l2 l3 l4 r4 S5
theorem ja_X13_look_b94_ok (zs : List Int32) : ∀ (l0 : Nat) (l1 : Nat) (l2 : Int) (l3 : Int) (l4 : Int) (S : nk_S) (R : Int × nk_S), nk_cl ja_Tt l0 = some 13 → nk_cl ja_Tt l1 = some 12 → ja_X13_look_b94 l0 l1 l2 l3 l4 S = some R → nk_K ja_Tt mi_Γ (mi_ev zs) 0 187 94 [(0, nk_r l0), (1, nk_r l1), (2, nk_i l2), (3, nk_i l3), (4, nk_i l4)] [] S R := by
  intro l0 l1 l2 l3 l4 S R t_l0 t_l1 hr
  unfold ja_X13_look_b94 at hr
  refine nk_p (i := .aload_n 0) (len := 1) (pc' := 95) mJ_187 (by decide +kernel) (ns_aload_n 0 rfl rfl) rfl ?_
  refine nk_p (i := .aload_n 1) (len := 1) (pc' := 96) mJ_187 (by decide +kernel) (ns_aload_n 1 rfl rfl) rfl ?_
  refine nk_p (i := .iload_n 2) (len := 1) (pc' := 97) mJ_187 (by decide +kernel) (ns_iload_n 2 rfl rfl) rfl ?_
  obtain ⟨r1, S2, h3, hr⟩ := nk_bde hr
  refine nk_callV (ci := 13) (n := 2) (x := 635) (len := 3) (j' := 120) (q' := 0) (r := r1) (S' := S2) (L2 := [(0, nk_r l0), (1, nk_r l1), (2, nk_i l2)]) (rest := []) (st' := []) (pc' := 100) mJ_187 (by decide +kernel) (by decide +kernel) rfl rfl t_l0 (Nat.le_of_ble_eq_true rfl) mJ_120 (Nat.le_of_ble_eq_true rfl) rfl (ja_X13_fetch_ok zs _ _ _ _ _ t_l0 t_l1 h3) rfl ?_
  refine nk_p (i := .aload_n 0) (len := 1) (pc' := 101) mJ_187 (by decide +kernel) (ns_aload_n 0 rfl rfl) rfl ?_
  refine nk_p (i := .aload_n 1) (len := 1) (pc' := 102) mJ_187 (by decide +kernel) (ns_aload_n 1 rfl rfl) rfl ?_
  refine nk_p (i := .iload_n 2) (len := 1) (pc' := 103) mJ_187 (by decide +kernel) (ns_iload_n 2 rfl rfl) rfl ?_
  obtain ⟨r4, S5, h6, hr⟩ := nk_bde hr
  refine nk_callV (ci := 13) (n := 2) (x := 647) (len := 3) (j' := 127) (q' := 1) (r := r4) (S' := S5) (L2 := [(0, nk_r l0), (1, nk_r l1), (2, nk_i l2)]) (rest := []) (st' := [nk_i r4]) (pc' := 106) mJ_187 (by decide +kernel) (by decide +kernel) rfl rfl t_l0 (Nat.le_of_ble_eq_true rfl) mJ_127 (Nat.le_of_ble_eq_true rfl) rfl (ja_X13_goesBehind_ok zs _ _ _ _ _ t_l0 t_l1 h6) rfl ?_
  refine nk_p (i := .istore 5) (len := 2) (pc' := 108) mJ_187 (by decide +kernel) (ns_istore (L' := [(5, nk_i r4), (0, nk_r l0), (1, nk_r l1), (2, nk_i l2), (3, nk_i l3), (4, nk_i l4)]) rfl rfl (by decide +kernel)) rfl ?_
  refine nk_p (i := .iload 5) (len := 2) (pc' := 110) mJ_187 (by decide +kernel) (ns_iload 0 rfl) rfl ?_
  refine nk_icond (c := .eq) (off := 23) (len := 3) (t := 133) (pc' := 113) mJ_187 (by decide +kernel) (by decide +kernel) rfl (fun hc => ?_) (fun hc => ?_)
  · have hr := nk_ifp (c := r4 = 0) hc hr
    refine nk_sub [1, 2, 3, 4, 5, 0] (L' := [(0, nk_r l0), (1, nk_r l1), (2, nk_i l2), (3, nk_i l3), (4, nk_i l4), (5, nk_i r4)]) rfl ?_
    exact ja_X13_look_b133_ok zs _ _ _ _ _ _ _ _ t_l0 t_l1 hr
  · have hr := nk_ifn (c := r4 = 0) hc hr
    refine nk_p (i := .iload_n 3) (len := 1) (pc' := 114) mJ_187 (by decide +kernel) (ns_iload_n 4 rfl rfl) rfl ?_
    refine nk_p (i := .bipush 19) (len := 2) (pc' := 116) mJ_187 (by decide +kernel) (ns_bipush (c := 19) (by decide +kernel)) rfl ?_
    refine nk_icmp (c := .ne) (off := 17) (len := 3) (t := 133) (pc' := 119) mJ_187 (by decide +kernel) (by decide +kernel) rfl (fun hc => ?_) (fun hc => ?_)
    · have hr := nk_ifn (c := l3 = 19) hc hr
      refine nk_sub [1, 2, 3, 4, 5, 0] (L' := [(0, nk_r l0), (1, nk_r l1), (2, nk_i l2), (3, nk_i l3), (4, nk_i l4), (5, nk_i r4)]) rfl ?_
      exact ja_X13_look_b133_ok zs _ _ _ _ _ _ _ _ t_l0 t_l1 hr
    · have hr := nk_ifp (c := l3 = 19) (Decidable.of_not_not hc) hr
      refine nk_p (i := .aload_n 0) (len := 1) (pc' := 120) mJ_187 (by decide +kernel) (ns_aload_n 1 rfl rfl) rfl ?_
      refine nk_p (i := .aload_n 1) (len := 1) (pc' := 121) mJ_187 (by decide +kernel) (ns_aload_n 2 rfl rfl) rfl ?_
      refine nk_p (i := .aload_n 1) (len := 1) (pc' := 122) mJ_187 (by decide +kernel) (ns_aload_n 2 rfl rfl) rfl ?_
      refine nk_getC (f := (4, 1, 1024)) (x := 414) (len := 3) (ci := 12) (k := 23) (pc' := 125) ja_okT mJ_187 (by decide +kernel) (by decide +kernel) (by decide +kernel) (by decide) t_l1 rfl ?_
      have t7 : nk_ar ja_Tt (ja_c l1 23) = some (1, 1024) := nk_ta ja_okT t_l1 (by decide +kernel)
      refine nk_p (i := .iload_n 2) (len := 1) (pc' := 126) mJ_187 (by decide +kernel) (ns_iload_n 3 rfl rfl) rfl ?_
      obtain ⟨h8, hr⟩ := nk_cke hr
      refine nk_iald (len := 1) (N := 1024) (pc' := 127) mJ_187 (by decide +kernel) t7 h8.1 h8.2 rfl rfl ?_
      obtain ⟨r9, S10, h11, hr⟩ := nk_bde hr
      refine nk_callV (ci := 13) (n := 2) (x := 641) (len := 3) (j' := 126) (q' := 0) (r := r9) (S' := S10) (L2 := [(0, nk_r l0), (1, nk_r l1), (2, nk_i (S5.1 (ja_c l1 23) l2.toNat))]) (rest := []) (st' := []) (pc' := 130) mJ_187 (by decide +kernel) (by decide +kernel) rfl rfl t_l0 (Nat.le_of_ble_eq_true rfl) mJ_126 (Nat.le_of_ble_eq_true rfl) rfl (ja_X13_goOn_ok zs _ _ _ _ _ t_l0 t_l1 h11) rfl ?_
      refine nk_p (i := .goto 23) (len := 3) (pc' := 153) mJ_187 (by decide +kernel) (ns_goto (by decide +kernel)) rfl ?_
      refine nk_sub [1, 2, 3, 4, 5] (L' := [(0, nk_r l0), (1, nk_r l1), (2, nk_i l2), (3, nk_i l3), (4, nk_i l4)]) rfl ?_
      exact ja_X13_look_b153_ok zs _ _ _ _ _ _ _ t_l0 t_l1 hr
noncomputable def ja_X13_look_b65 (l0 : Nat) (l1 : Nat) (l2 : Int) (l3 : Int) (l4 : Int) (S : nk_S) : Option (Int × nk_S) :=
  nk_bd (ja_X13_fetch l0 l1 l2 S) fun r1 S2 =>
  nk_bd (ja_X13_contrary l3 S2) fun r4 S5 =>
  nk_bd (ja_X13_way l0 l1 r4 S5) fun r7 S8 =>
  if r7 = 0 then
    ja_X13_look_L207 nk_big l0 l1 l2 l4 0 S8
  else
    nk_bd (ja_X13_goOn l0 l1 (nk_w (l2 + 1)) S8) fun r10 S11 =>
    ja_X13_look_L207 nk_big l0 l1 l2 l4 0 S11
theorem ja_X13_look_b65_ok (zs : List Int32) : ∀ (l0 : Nat) (l1 : Nat) (l2 : Int) (l3 : Int) (l4 : Int) (S : nk_S) (R : Int × nk_S), nk_cl ja_Tt l0 = some 13 → nk_cl ja_Tt l1 = some 12 → ja_X13_look_b65 l0 l1 l2 l3 l4 S = some R → nk_K ja_Tt mi_Γ (mi_ev zs) 0 187 65 [(0, nk_r l0), (1, nk_r l1), (2, nk_i l2), (3, nk_i l3), (4, nk_i l4)] [] S R := by
  intro l0 l1 l2 l3 l4 S R t_l0 t_l1 hr
  unfold ja_X13_look_b65 at hr
  refine nk_p (i := .aload_n 0) (len := 1) (pc' := 66) mJ_187 (by decide +kernel) (ns_aload_n 0 rfl rfl) rfl ?_
  refine nk_p (i := .aload_n 1) (len := 1) (pc' := 67) mJ_187 (by decide +kernel) (ns_aload_n 1 rfl rfl) rfl ?_
  refine nk_p (i := .iload_n 2) (len := 1) (pc' := 68) mJ_187 (by decide +kernel) (ns_iload_n 2 rfl rfl) rfl ?_
  obtain ⟨r1, S2, h3, hr⟩ := nk_bde hr
  refine nk_callV (ci := 13) (n := 2) (x := 635) (len := 3) (j' := 120) (q' := 0) (r := r1) (S' := S2) (L2 := [(0, nk_r l0), (1, nk_r l1), (2, nk_i l2)]) (rest := []) (st' := []) (pc' := 71) mJ_187 (by decide +kernel) (by decide +kernel) rfl rfl t_l0 (Nat.le_of_ble_eq_true rfl) mJ_120 (Nat.le_of_ble_eq_true rfl) rfl (ja_X13_fetch_ok zs _ _ _ _ _ t_l0 t_l1 h3) rfl ?_
  refine nk_p (i := .aload_n 0) (len := 1) (pc' := 72) mJ_187 (by decide +kernel) (ns_aload_n 0 rfl rfl) rfl ?_
  refine nk_p (i := .aload_n 1) (len := 1) (pc' := 73) mJ_187 (by decide +kernel) (ns_aload_n 1 rfl rfl) rfl ?_
  refine nk_p (i := .iload_n 3) (len := 1) (pc' := 74) mJ_187 (by decide +kernel) (ns_iload_n 3 rfl rfl) rfl ?_
  obtain ⟨r4, S5, h6, hr⟩ := nk_bde hr
  refine nk_callS (ci := 0) (n := 1) (x := 644) (len := 3) (j' := 103) (q' := 1) (r := r4) (S' := S5) (L2 := [(0, nk_i l3)]) (rest := [nk_r l1, nk_r l0]) (st' := [nk_i r4, nk_r l1, nk_r l0]) (pc' := 77) mJ_187 (by decide +kernel) (by decide +kernel) (Nat.le_of_ble_eq_true rfl) rfl rfl (Nat.le_of_ble_eq_true rfl) mJ_103 (Nat.le_of_ble_eq_true rfl) ja_Tpos rfl (ja_X13_contrary_ok zs _ _ _ h6) rfl ?_
  obtain ⟨r7, S8, h9, hr⟩ := nk_bde hr
  refine nk_callV (ci := 13) (n := 2) (x := 638) (len := 3) (j' := 242) (q' := 1) (r := r7) (S' := S8) (L2 := [(0, nk_r l0), (1, nk_r l1), (2, nk_i r4)]) (rest := []) (st' := [nk_i r7]) (pc' := 80) mJ_187 (by decide +kernel) (by decide +kernel) rfl rfl t_l0 (Nat.le_of_ble_eq_true rfl) mJ_242 (Nat.le_of_ble_eq_true rfl) rfl (ja_X13_way_ok zs _ _ _ _ _ t_l0 t_l1 h9) rfl ?_
  refine nk_icond (c := .eq) (off := 124) (len := 3) (t := 204) (pc' := 83) mJ_187 (by decide +kernel) (by decide +kernel) rfl (fun hc => ?_) (fun hc => ?_)
  · have hr := nk_ifp (c := r7 = 0) hc hr
    refine nk_p (i := .iconst 0) (len := 1) (pc' := 205) mJ_187 (by decide +kernel) (ns_iconst (c := 0) (by decide +kernel)) rfl ?_
    refine nk_p (i := .istore 5) (len := 2) (pc' := 207) mJ_187 (by decide +kernel) (ns_istore (L' := [(5, nk_i 0), (0, nk_r l0), (1, nk_r l1), (2, nk_i l2), (3, nk_i l3), (4, nk_i l4)]) rfl rfl (by decide +kernel)) rfl ?_
    refine nk_sub [1, 2, 3, 5, 0] (L' := [(0, nk_r l0), (1, nk_r l1), (2, nk_i l2), (4, nk_i l4), (5, nk_i 0)]) rfl ?_
    exact ja_X13_look_L207_ok zs nk_big _ _ _ _ _ _ _ t_l0 t_l1 hr
  · have hr := nk_ifn (c := r7 = 0) hc hr
    refine nk_p (i := .aload_n 0) (len := 1) (pc' := 84) mJ_187 (by decide +kernel) (ns_aload_n 0 rfl rfl) rfl ?_
    refine nk_p (i := .aload_n 1) (len := 1) (pc' := 85) mJ_187 (by decide +kernel) (ns_aload_n 1 rfl rfl) rfl ?_
    refine nk_p (i := .iload_n 2) (len := 1) (pc' := 86) mJ_187 (by decide +kernel) (ns_iload_n 2 rfl rfl) rfl ?_
    refine nk_p (i := .iconst 1) (len := 1) (pc' := 87) mJ_187 (by decide +kernel) (ns_iconst (c := 1) (by decide +kernel)) rfl ?_
    refine nk_p (i := .iadd) (len := 1) (pc' := 88) mJ_187 (by decide +kernel) ns_iadd rfl ?_
    obtain ⟨r10, S11, h12, hr⟩ := nk_bde hr
    refine nk_callV (ci := 13) (n := 2) (x := 641) (len := 3) (j' := 126) (q' := 0) (r := r10) (S' := S11) (L2 := [(0, nk_r l0), (1, nk_r l1), (2, nk_i (nk_w (l2 + 1)))]) (rest := []) (st' := []) (pc' := 91) mJ_187 (by decide +kernel) (by decide +kernel) rfl rfl t_l0 (Nat.le_of_ble_eq_true rfl) mJ_126 (Nat.le_of_ble_eq_true rfl) rfl (ja_X13_goOn_ok zs _ _ _ _ _ t_l0 t_l1 h12) rfl ?_
    refine nk_p (i := .goto 113) (len := 3) (pc' := 204) mJ_187 (by decide +kernel) (ns_goto (by decide +kernel)) rfl ?_
    refine nk_p (i := .iconst 0) (len := 1) (pc' := 205) mJ_187 (by decide +kernel) (ns_iconst (c := 0) (by decide +kernel)) rfl ?_
    refine nk_p (i := .istore 5) (len := 2) (pc' := 207) mJ_187 (by decide +kernel) (ns_istore (L' := [(5, nk_i 0), (0, nk_r l0), (1, nk_r l1), (2, nk_i l2), (3, nk_i l3), (4, nk_i l4)]) rfl rfl (by decide +kernel)) rfl ?_
    refine nk_sub [1, 2, 3, 5, 0] (L' := [(0, nk_r l0), (1, nk_r l1), (2, nk_i l2), (4, nk_i l4), (5, nk_i 0)]) rfl ?_
    exact ja_X13_look_L207_ok zs nk_big _ _ _ _ _ _ _ t_l0 t_l1 hr
noncomputable def ja_X13_look (l0 : Nat) (l1 : Nat) (l2 : Int) (S : nk_S) : Option (Int × nk_S) :=
  if 0 ≤ l2 ∧ l2 < 1024 then
  nk_lt (S.1 (ja_c l1 22) l2.toNat) fun v3 =>
  nk_lt (nk_wi S l0 39 0) fun S5 =>
  nk_lt (nk_wi S5 l0 40 0) fun S7 =>
  nk_lt (nk_wi S7 l0 38 0) fun S9 =>
  if v3 < 20 then
    ja_X13_look_b94 l0 l1 l2 v3 256 S9
  else
    if 29 < v3 then
      ja_X13_look_b94 l0 l1 l2 v3 256 S9
    else
      nk_bd (ja_X13_fetch l0 l1 l2 S9) fun r11 S12 =>
      nk_bd (ja_X13_way l0 l1 v3 S12) fun r14 S15 =>
      if r14 = 0 then
        ja_X13_look_b65 l0 l1 l2 v3 256 S15
      else
        nk_bd (ja_X13_goOn l0 l1 (S15.1 (ja_c l1 23) l2.toNat) S15) fun r18 S19 =>
        ja_X13_look_b65 l0 l1 l2 v3 256 S19
  else none
theorem ja_X13_look_ok (zs : List Int32) : ∀ (l0 : Nat) (l1 : Nat) (l2 : Int) (S : nk_S) (R : Int × nk_S), nk_cl ja_Tt l0 = some 13 → nk_cl ja_Tt l1 = some 12 → ja_X13_look l0 l1 l2 S = some R → nk_K ja_Tt mi_Γ (mi_ev zs) 0 187 0 [(0, nk_r l0), (1, nk_r l1), (2, nk_i l2)] [] S R := by
  intro l0 l1 l2 S R t_l0 t_l1 hr
  unfold ja_X13_look at hr
  refine nk_p (i := .aload_n 1) (len := 1) (pc' := 1) mJ_187 (by decide +kernel) (ns_aload_n 1 rfl rfl) rfl ?_
  refine nk_getC (f := (4, 1, 1024)) (x := 391) (len := 3) (ci := 12) (k := 22) (pc' := 4) ja_okT mJ_187 (by decide +kernel) (by decide +kernel) (by decide +kernel) (by decide) t_l1 rfl ?_
  have t1 : nk_ar ja_Tt (ja_c l1 22) = some (1, 1024) := nk_ta ja_okT t_l1 (by decide +kernel)
  refine nk_p (i := .iload_n 2) (len := 1) (pc' := 5) mJ_187 (by decide +kernel) (ns_iload_n 2 rfl rfl) rfl ?_
  obtain ⟨h2, hr⟩ := nk_cke hr
  refine nk_iald (len := 1) (N := 1024) (pc' := 6) mJ_187 (by decide +kernel) t1 h2.1 h2.2 rfl rfl ?_
  obtain ⟨v3, h4, hr⟩ := nk_lte hr
  refine nk_p (i := .istore_n 3) (len := 1) (pc' := 7) mJ_187 (by decide +kernel) (ns_istore_n (L' := [(3, nk_i v3), (0, nk_r l0), (1, nk_r l1), (2, nk_i l2)]) h4 rfl rfl (by decide +kernel)) rfl ?_
  refine nk_p (i := .aload_n 0) (len := 1) (pc' := 8) mJ_187 (by decide +kernel) (ns_aload_n 1 rfl rfl) rfl ?_
  refine nk_p (i := .iconst 0) (len := 1) (pc' := 9) mJ_187 (by decide +kernel) (ns_iconst (c := 0) (by decide +kernel)) rfl ?_
  obtain ⟨S5, h6, hr⟩ := nk_lte hr
  refine nk_putI (y := (0, 0)) (ty := .int) (x := 625) (len := 3) (ci := 13) (k := 39) (pc' := 12) ja_okT mJ_187 (by decide +kernel) (by decide +kernel) (by decide +kernel) t_l0 (Or.inl rfl) rfl h6 ?_
  refine nk_p (i := .aload_n 0) (len := 1) (pc' := 13) mJ_187 (by decide +kernel) (ns_aload_n 1 rfl rfl) rfl ?_
  refine nk_p (i := .lconst 0) (len := 1) (pc' := 14) mJ_187 (by decide +kernel) (ns_lconst (c := 0) (by decide +kernel)) rfl ?_
  obtain ⟨S7, h8, hr⟩ := nk_lte hr
  refine nk_putL (y := (0, 0)) (x := 628) (len := 3) (ci := 13) (k := 40) (pc' := 17) ja_okT mJ_187 (by decide +kernel) (by decide +kernel) (by decide +kernel) t_l0 rfl h8 ?_
  refine nk_p (i := .aload_n 0) (len := 1) (pc' := 18) mJ_187 (by decide +kernel) (ns_aload_n 1 rfl rfl) rfl ?_
  refine nk_p (i := .iconst 0) (len := 1) (pc' := 19) mJ_187 (by decide +kernel) (ns_iconst (c := 0) (by decide +kernel)) rfl ?_
  obtain ⟨S9, h10, hr⟩ := nk_lte hr
  refine nk_putI (y := (0, 0)) (ty := .boolean) (x := 632) (len := 3) (ci := 13) (k := 38) (pc' := 22) ja_okT mJ_187 (by decide +kernel) (by decide +kernel) (by decide +kernel) t_l0 (Or.inr ⟨rfl, by decide⟩) rfl h10 ?_
  refine nk_p (i := .sipush 256) (len := 3) (pc' := 25) mJ_187 (by decide +kernel) (ns_sipush (c := 256) (by decide +kernel)) rfl ?_
  refine nk_p (i := .istore 4) (len := 2) (pc' := 27) mJ_187 (by decide +kernel) (ns_istore (L' := [(4, nk_i 256), (3, nk_i v3), (0, nk_r l0), (1, nk_r l1), (2, nk_i l2)]) rfl rfl (by decide +kernel)) rfl ?_
  refine nk_p (i := .iload_n 3) (len := 1) (pc' := 28) mJ_187 (by decide +kernel) (ns_iload_n 1 rfl rfl) rfl ?_
  refine nk_p (i := .bipush 20) (len := 2) (pc' := 30) mJ_187 (by decide +kernel) (ns_bipush (c := 20) (by decide +kernel)) rfl ?_
  refine nk_icmp (c := .lt) (off := 64) (len := 3) (t := 94) (pc' := 33) mJ_187 (by decide +kernel) (by decide +kernel) rfl (fun hc => ?_) (fun hc => ?_)
  · have hr := nk_ifp (c := v3 < 20) hc hr
    refine nk_sub [2, 3, 4, 1, 0] (L' := [(0, nk_r l0), (1, nk_r l1), (2, nk_i l2), (3, nk_i v3), (4, nk_i 256)]) rfl ?_
    exact ja_X13_look_b94_ok zs _ _ _ _ _ _ _ t_l0 t_l1 hr
  · have hr := nk_ifn (c := v3 < 20) hc hr
    refine nk_p (i := .iload_n 3) (len := 1) (pc' := 34) mJ_187 (by decide +kernel) (ns_iload_n 1 rfl rfl) rfl ?_
    refine nk_p (i := .bipush 29) (len := 2) (pc' := 36) mJ_187 (by decide +kernel) (ns_bipush (c := 29) (by decide +kernel)) rfl ?_
    refine nk_icmp (c := .gt) (off := 58) (len := 3) (t := 94) (pc' := 39) mJ_187 (by decide +kernel) (by decide +kernel) rfl (fun hc => ?_) (fun hc => ?_)
    · have hr := nk_ifp (c := 29 < v3) hc hr
      refine nk_sub [2, 3, 4, 1, 0] (L' := [(0, nk_r l0), (1, nk_r l1), (2, nk_i l2), (3, nk_i v3), (4, nk_i 256)]) rfl ?_
      exact ja_X13_look_b94_ok zs _ _ _ _ _ _ _ t_l0 t_l1 hr
    · have hr := nk_ifn (c := 29 < v3) hc hr
      refine nk_p (i := .aload_n 0) (len := 1) (pc' := 40) mJ_187 (by decide +kernel) (ns_aload_n 2 rfl rfl) rfl ?_
      refine nk_p (i := .aload_n 1) (len := 1) (pc' := 41) mJ_187 (by decide +kernel) (ns_aload_n 3 rfl rfl) rfl ?_
      refine nk_p (i := .iload_n 2) (len := 1) (pc' := 42) mJ_187 (by decide +kernel) (ns_iload_n 4 rfl rfl) rfl ?_
      obtain ⟨r11, S12, h13, hr⟩ := nk_bde hr
      refine nk_callV (ci := 13) (n := 2) (x := 635) (len := 3) (j' := 120) (q' := 0) (r := r11) (S' := S12) (L2 := [(0, nk_r l0), (1, nk_r l1), (2, nk_i l2)]) (rest := []) (st' := []) (pc' := 45) mJ_187 (by decide +kernel) (by decide +kernel) rfl rfl t_l0 (Nat.le_of_ble_eq_true rfl) mJ_120 (Nat.le_of_ble_eq_true rfl) rfl (ja_X13_fetch_ok zs _ _ _ _ _ t_l0 t_l1 h13) rfl ?_
      refine nk_p (i := .aload_n 0) (len := 1) (pc' := 46) mJ_187 (by decide +kernel) (ns_aload_n 2 rfl rfl) rfl ?_
      refine nk_p (i := .aload_n 1) (len := 1) (pc' := 47) mJ_187 (by decide +kernel) (ns_aload_n 3 rfl rfl) rfl ?_
      refine nk_p (i := .iload_n 3) (len := 1) (pc' := 48) mJ_187 (by decide +kernel) (ns_iload_n 1 rfl rfl) rfl ?_
      obtain ⟨r14, S15, h16, hr⟩ := nk_bde hr
      refine nk_callV (ci := 13) (n := 2) (x := 638) (len := 3) (j' := 242) (q' := 1) (r := r14) (S' := S15) (L2 := [(0, nk_r l0), (1, nk_r l1), (2, nk_i v3)]) (rest := []) (st' := [nk_i r14]) (pc' := 51) mJ_187 (by decide +kernel) (by decide +kernel) rfl rfl t_l0 (Nat.le_of_ble_eq_true rfl) mJ_242 (Nat.le_of_ble_eq_true rfl) rfl (ja_X13_way_ok zs _ _ _ _ _ t_l0 t_l1 h16) rfl ?_
      refine nk_icond (c := .eq) (off := 14) (len := 3) (t := 65) (pc' := 54) mJ_187 (by decide +kernel) (by decide +kernel) rfl (fun hc => ?_) (fun hc => ?_)
      · have hr := nk_ifp (c := r14 = 0) hc hr
        refine nk_sub [2, 3, 4, 1, 0] (L' := [(0, nk_r l0), (1, nk_r l1), (2, nk_i l2), (3, nk_i v3), (4, nk_i 256)]) rfl ?_
        exact ja_X13_look_b65_ok zs _ _ _ _ _ _ _ t_l0 t_l1 hr
      · have hr := nk_ifn (c := r14 = 0) hc hr
        refine nk_p (i := .aload_n 0) (len := 1) (pc' := 55) mJ_187 (by decide +kernel) (ns_aload_n 2 rfl rfl) rfl ?_
        refine nk_p (i := .aload_n 1) (len := 1) (pc' := 56) mJ_187 (by decide +kernel) (ns_aload_n 3 rfl rfl) rfl ?_
        refine nk_p (i := .aload_n 1) (len := 1) (pc' := 57) mJ_187 (by decide +kernel) (ns_aload_n 3 rfl rfl) rfl ?_
        refine nk_getC (f := (4, 1, 1024)) (x := 414) (len := 3) (ci := 12) (k := 23) (pc' := 60) ja_okT mJ_187 (by decide +kernel) (by decide +kernel) (by decide +kernel) (by decide) t_l1 rfl ?_
        have t17 : nk_ar ja_Tt (ja_c l1 23) = some (1, 1024) := nk_ta ja_okT t_l1 (by decide +kernel)
        refine nk_p (i := .iload_n 2) (len := 1) (pc' := 61) mJ_187 (by decide +kernel) (ns_iload_n 4 rfl rfl) rfl ?_
        refine nk_iald (len := 1) (N := 1024) (pc' := 62) mJ_187 (by decide +kernel) t17 h2.1 h2.2 rfl rfl ?_
        obtain ⟨r18, S19, h20, hr⟩ := nk_bde hr
        refine nk_callV (ci := 13) (n := 2) (x := 641) (len := 3) (j' := 126) (q' := 0) (r := r18) (S' := S19) (L2 := [(0, nk_r l0), (1, nk_r l1), (2, nk_i (S15.1 (ja_c l1 23) l2.toNat))]) (rest := []) (st' := []) (pc' := 65) mJ_187 (by decide +kernel) (by decide +kernel) rfl rfl t_l0 (Nat.le_of_ble_eq_true rfl) mJ_126 (Nat.le_of_ble_eq_true rfl) rfl (ja_X13_goOn_ok zs _ _ _ _ _ t_l0 t_l1 h20) rfl ?_
        refine nk_sub [2, 3, 4, 1, 0] (L' := [(0, nk_r l0), (1, nk_r l1), (2, nk_i l2), (3, nk_i v3), (4, nk_i 256)]) rfl ?_
        exact ja_X13_look_b65_ok zs _ _ _ _ _ _ _ t_l0 t_l1 hr
/-! SafeCodeModel prove (LSafeCodeModel$Program;)V -/
noncomputable def ja_X13_prove_b238 (rec143 : Nat → Nat → nk_S → Option (Int × nk_S)) (rec205 : Nat → Nat → Int → Int → nk_S → Option (Int × nk_S)) (l0 : Nat) (l1 : Nat) (l2 : Int) (l3 : Int) (S : nk_S) : Option (Int × nk_S) :=
  if 0 ≤ l3 ∧ l3 < 1024 then
  nk_lt (nk_wi S (ja_c l0 35) l3.toNat 0) fun S3 =>
  nk_bd (ja_X13_look l0 l1 l3 S3) fun r5 S6 =>
  nk_lt (nk_w (l3 + 1)) fun v8 =>
  rec205 l0 l1 l2 v8 S6
  else none
theorem ja_X13_prove_b238_ok (zs : List Int32) {rec143 : Nat → Nat → nk_S → Option (Int × nk_S)} (hrec143 : ∀ (l0 : Nat) (l1 : Nat) (S : nk_S) (R : Int × nk_S), nk_cl ja_Tt l0 = some 13 → nk_cl ja_Tt l1 = some 12 → rec143 l0 l1 S = some R → nk_K ja_Tt mi_Γ (mi_ev zs) 0 210 143 [(0, nk_r l0), (1, nk_r l1)] [] S R) {rec205 : Nat → Nat → Int → Int → nk_S → Option (Int × nk_S)} (hrec205 : ∀ (l0 : Nat) (l1 : Nat) (l2 : Int) (l3 : Int) (S : nk_S) (R : Int × nk_S), nk_cl ja_Tt l0 = some 13 → nk_cl ja_Tt l1 = some 12 → rec205 l0 l1 l2 l3 S = some R → nk_K ja_Tt mi_Γ (mi_ev zs) 0 210 205 [(0, nk_r l0), (1, nk_r l1), (2, nk_i l2), (3, nk_i l3)] [] S R) : ∀ (l0 : Nat) (l1 : Nat) (l2 : Int) (l3 : Int) (S : nk_S) (R : Int × nk_S), nk_cl ja_Tt l0 = some 13 → nk_cl ja_Tt l1 = some 12 → ja_X13_prove_b238 rec143 rec205 l0 l1 l2 l3 S = some R → nk_K ja_Tt mi_Γ (mi_ev zs) 0 210 238 [(0, nk_r l0), (1, nk_r l1), (2, nk_i l2), (3, nk_i l3)] [] S R := by
  intro l0 l1 l2 l3 S R t_l0 t_l1 hr
  unfold ja_X13_prove_b238 at hr
  refine nk_p (i := .aload_n 0) (len := 1) (pc' := 239) mJ_210 (by decide +kernel) (ns_aload_n 0 rfl rfl) rfl ?_
  refine nk_getC (f := (4, 3, 1024)) (x := 99) (len := 3) (ci := 13) (k := 35) (pc' := 242) ja_okT mJ_210 (by decide +kernel) (by decide +kernel) (by decide +kernel) (by decide) t_l0 rfl ?_
  have t1 : nk_ar ja_Tt (ja_c l0 35) = some (3, 1024) := nk_ta ja_okT t_l0 (by decide +kernel)
  refine nk_p (i := .iload_n 3) (len := 1) (pc' := 243) mJ_210 (by decide +kernel) (ns_iload_n 3 rfl rfl) rfl ?_
  refine nk_p (i := .iconst 0) (len := 1) (pc' := 244) mJ_210 (by decide +kernel) (ns_iconst (c := 0) (by decide +kernel)) rfl ?_
  obtain ⟨h2, hr⟩ := nk_cke hr
  obtain ⟨S3, h4, hr⟩ := nk_lte hr
  refine nk_zast (len := 1) (N := 1024) (pc' := 245) mJ_210 (by decide +kernel) t1 h2.1 h2.2 (by decide) rfl rfl h4 ?_
  refine nk_p (i := .aload_n 0) (len := 1) (pc' := 246) mJ_210 (by decide +kernel) (ns_aload_n 0 rfl rfl) rfl ?_
  refine nk_p (i := .aload_n 1) (len := 1) (pc' := 247) mJ_210 (by decide +kernel) (ns_aload_n 1 rfl rfl) rfl ?_
  refine nk_p (i := .iload_n 3) (len := 1) (pc' := 248) mJ_210 (by decide +kernel) (ns_iload_n 3 rfl rfl) rfl ?_
  obtain ⟨r5, S6, h7, hr⟩ := nk_bde hr
  refine nk_callV (ci := 13) (n := 2) (x := 619) (len := 3) (j' := 187) (q' := 0) (r := r5) (S' := S6) (L2 := [(0, nk_r l0), (1, nk_r l1), (2, nk_i l3)]) (rest := []) (st' := []) (pc' := 251) mJ_210 (by decide +kernel) (by decide +kernel) rfl rfl t_l0 (Nat.le_of_ble_eq_true rfl) mJ_187 (Nat.le_of_ble_eq_true rfl) rfl (ja_X13_look_ok zs _ _ _ _ _ t_l0 t_l1 h7) rfl ?_
  obtain ⟨v8, h9, hr⟩ := nk_lte hr
  refine nk_p (i := .iinc 3 1) (len := 3) (pc' := 254) mJ_210 (by decide +kernel) (ns_iinc (c := 1) (L' := [(3, nk_i v8), (0, nk_r l0), (1, nk_r l1), (2, nk_i l2)]) 3 rfl (by decide +kernel) h9 rfl (by decide +kernel)) rfl ?_
  refine nk_p (i := .goto (-49)) (len := 3) (pc' := 205) mJ_210 (by decide +kernel) (ns_goto (by decide +kernel)) rfl ?_
  refine nk_sub [1, 2, 3, 0] (L' := [(0, nk_r l0), (1, nk_r l1), (2, nk_i l2), (3, nk_i v8)]) rfl ?_
  exact hrec205 _ _ _ _ _ _ t_l0 t_l1 hr
noncomputable def ja_X13_prove_b205 (rec143 : Nat → Nat → nk_S → Option (Int × nk_S)) (rec205 : Nat → Nat → Int → Int → nk_S → Option (Int × nk_S)) (l0 : Nat) (l1 : Nat) (l2 : Int) (l3 : Int) (S : nk_S) : Option (Int × nk_S) :=
  if (S.1 l1 3) ≤ l3 then
    rec143 l0 l1 S
  else
    if 0 ≤ l3 ∧ l3 < 1024 then
    if (S.1 (ja_c l1 34) l3.toNat) = 0 then
      nk_lt (nk_w (l3 + 1)) fun v3 =>
      rec205 l0 l1 l2 v3 S
    else
      if l2 = 0 then
        if (S.1 (ja_c l0 35) l3.toNat) = 0 then
          nk_lt (nk_w (l3 + 1)) fun v6 =>
          rec205 l0 l1 l2 v6 S
        else
          ja_X13_prove_b238 rec143 rec205 l0 l1 l2 l3 S
      else
        ja_X13_prove_b238 rec143 rec205 l0 l1 l2 l3 S
    else none
theorem ja_X13_prove_b205_ok (zs : List Int32) {rec143 : Nat → Nat → nk_S → Option (Int × nk_S)} (hrec143 : ∀ (l0 : Nat) (l1 : Nat) (S : nk_S) (R : Int × nk_S), nk_cl ja_Tt l0 = some 13 → nk_cl ja_Tt l1 = some 12 → rec143 l0 l1 S = some R → nk_K ja_Tt mi_Γ (mi_ev zs) 0 210 143 [(0, nk_r l0), (1, nk_r l1)] [] S R) {rec205 : Nat → Nat → Int → Int → nk_S → Option (Int × nk_S)} (hrec205 : ∀ (l0 : Nat) (l1 : Nat) (l2 : Int) (l3 : Int) (S : nk_S) (R : Int × nk_S), nk_cl ja_Tt l0 = some 13 → nk_cl ja_Tt l1 = some 12 → rec205 l0 l1 l2 l3 S = some R → nk_K ja_Tt mi_Γ (mi_ev zs) 0 210 205 [(0, nk_r l0), (1, nk_r l1), (2, nk_i l2), (3, nk_i l3)] [] S R) : ∀ (l0 : Nat) (l1 : Nat) (l2 : Int) (l3 : Int) (S : nk_S) (R : Int × nk_S), nk_cl ja_Tt l0 = some 13 → nk_cl ja_Tt l1 = some 12 → ja_X13_prove_b205 rec143 rec205 l0 l1 l2 l3 S = some R → nk_K ja_Tt mi_Γ (mi_ev zs) 0 210 205 [(0, nk_r l0), (1, nk_r l1), (2, nk_i l2), (3, nk_i l3)] [] S R := by
  intro l0 l1 l2 l3 S R t_l0 t_l1 hr
  unfold ja_X13_prove_b205 at hr
  refine nk_p (i := .iload_n 3) (len := 1) (pc' := 206) mJ_210 (by decide +kernel) (ns_iload_n 3 rfl rfl) rfl ?_
  refine nk_p (i := .aload_n 1) (len := 1) (pc' := 207) mJ_210 (by decide +kernel) (ns_aload_n 1 rfl rfl) rfl ?_
  refine nk_getI (y := (0, 0)) (x := 353) (len := 3) (ci := 12) (k := 3) (pc' := 210) ja_okT mJ_210 (by decide +kernel) (by decide +kernel) (by decide +kernel) t_l1 rfl ?_
  refine nk_icmp (c := .ge) (off := 47) (len := 3) (t := 257) (pc' := 213) mJ_210 (by decide +kernel) (by decide +kernel) rfl (fun hc => ?_) (fun hc => ?_)
  · have hr := nk_ifp (c := (S.1 l1 3) ≤ l3) hc hr
    refine nk_p (i := .goto (-114)) (len := 3) (pc' := 143) mJ_210 (by decide +kernel) (ns_goto (by decide +kernel)) rfl ?_
    refine nk_sub [0, 1] (L' := [(0, nk_r l0), (1, nk_r l1)]) rfl ?_
    exact hrec143 _ _ _ _ t_l0 t_l1 hr
  · have hr := nk_ifn (c := (S.1 l1 3) ≤ l3) hc hr
    refine nk_p (i := .aload_n 1) (len := 1) (pc' := 214) mJ_210 (by decide +kernel) (ns_aload_n 1 rfl rfl) rfl ?_
    refine nk_getC (f := (4, 3, 1024)) (x := 539) (len := 3) (ci := 12) (k := 34) (pc' := 217) ja_okT mJ_210 (by decide +kernel) (by decide +kernel) (by decide +kernel) (by decide) t_l1 rfl ?_
    have t1 : nk_ar ja_Tt (ja_c l1 34) = some (3, 1024) := nk_ta ja_okT t_l1 (by decide +kernel)
    refine nk_p (i := .iload_n 3) (len := 1) (pc' := 218) mJ_210 (by decide +kernel) (ns_iload_n 3 rfl rfl) rfl ?_
    obtain ⟨h2, hr⟩ := nk_cke hr
    refine nk_bald (t := 3) (len := 1) (N := 1024) (pc' := 219) mJ_210 (by decide +kernel) t1 (by decide) h2.1 h2.2 rfl rfl ?_
    refine nk_icond (c := .eq) (off := 32) (len := 3) (t := 251) (pc' := 222) mJ_210 (by decide +kernel) (by decide +kernel) rfl (fun hc => ?_) (fun hc => ?_)
    · have hr := nk_ifp (c := (S.1 (ja_c l1 34) l3.toNat) = 0) hc hr
      obtain ⟨v3, h4, hr⟩ := nk_lte hr
      refine nk_p (i := .iinc 3 1) (len := 3) (pc' := 254) mJ_210 (by decide +kernel) (ns_iinc (c := 1) (L' := [(3, nk_i v3), (0, nk_r l0), (1, nk_r l1), (2, nk_i l2)]) 3 rfl (by decide +kernel) h4 rfl (by decide +kernel)) rfl ?_
      refine nk_p (i := .goto (-49)) (len := 3) (pc' := 205) mJ_210 (by decide +kernel) (ns_goto (by decide +kernel)) rfl ?_
      refine nk_sub [1, 2, 3, 0] (L' := [(0, nk_r l0), (1, nk_r l1), (2, nk_i l2), (3, nk_i v3)]) rfl ?_
      exact hrec205 _ _ _ _ _ _ t_l0 t_l1 hr
    · have hr := nk_ifn (c := (S.1 (ja_c l1 34) l3.toNat) = 0) hc hr
      refine nk_p (i := .iload_n 2) (len := 1) (pc' := 223) mJ_210 (by decide +kernel) (ns_iload_n 2 rfl rfl) rfl ?_
      refine nk_icond (c := .ne) (off := 15) (len := 3) (t := 238) (pc' := 226) mJ_210 (by decide +kernel) (by decide +kernel) rfl (fun hc => ?_) (fun hc => ?_)
      · have hr := nk_ifn (c := l2 = 0) hc hr
        exact ja_X13_prove_b238_ok zs hrec143 hrec205 _ _ _ _ _ _ t_l0 t_l1 hr
      · have hr := nk_ifp (c := l2 = 0) (Decidable.of_not_not hc) hr
        refine nk_p (i := .aload_n 0) (len := 1) (pc' := 227) mJ_210 (by decide +kernel) (ns_aload_n 0 rfl rfl) rfl ?_
        refine nk_getC (f := (4, 3, 1024)) (x := 99) (len := 3) (ci := 13) (k := 35) (pc' := 230) ja_okT mJ_210 (by decide +kernel) (by decide +kernel) (by decide +kernel) (by decide) t_l0 rfl ?_
        have t5 : nk_ar ja_Tt (ja_c l0 35) = some (3, 1024) := nk_ta ja_okT t_l0 (by decide +kernel)
        refine nk_p (i := .iload_n 3) (len := 1) (pc' := 231) mJ_210 (by decide +kernel) (ns_iload_n 3 rfl rfl) rfl ?_
        refine nk_bald (t := 3) (len := 1) (N := 1024) (pc' := 232) mJ_210 (by decide +kernel) t5 (by decide) h2.1 h2.2 rfl rfl ?_
        refine nk_icond (c := .ne) (off := 6) (len := 3) (t := 238) (pc' := 235) mJ_210 (by decide +kernel) (by decide +kernel) rfl (fun hc => ?_) (fun hc => ?_)
        · have hr := nk_ifn (c := (S.1 (ja_c l0 35) l3.toNat) = 0) hc hr
          exact ja_X13_prove_b238_ok zs hrec143 hrec205 _ _ _ _ _ _ t_l0 t_l1 hr
        · have hr := nk_ifp (c := (S.1 (ja_c l0 35) l3.toNat) = 0) (Decidable.of_not_not hc) hr
          refine nk_p (i := .goto 16) (len := 3) (pc' := 251) mJ_210 (by decide +kernel) (ns_goto (by decide +kernel)) rfl ?_
          obtain ⟨v6, h7, hr⟩ := nk_lte hr
          refine nk_p (i := .iinc 3 1) (len := 3) (pc' := 254) mJ_210 (by decide +kernel) (ns_iinc (c := 1) (L' := [(3, nk_i v6), (0, nk_r l0), (1, nk_r l1), (2, nk_i l2)]) 3 rfl (by decide +kernel) h7 rfl (by decide +kernel)) rfl ?_
          refine nk_p (i := .goto (-49)) (len := 3) (pc' := 205) mJ_210 (by decide +kernel) (ns_goto (by decide +kernel)) rfl ?_
          refine nk_sub [1, 2, 3, 0] (L' := [(0, nk_r l0), (1, nk_r l1), (2, nk_i l2), (3, nk_i v6)]) rfl ?_
          exact hrec205 _ _ _ _ _ _ t_l0 t_l1 hr
noncomputable def ja_X13_prove_L205 (rec143 : Nat → Nat → nk_S → Option (Int × nk_S)) : Nat → Nat → Nat → Int → Int → nk_S → Option (Int × nk_S)
  | 0, _, _, _, _, _ => none
  | n + 1, l0, l1, l2, l3, S => ja_X13_prove_b205 rec143 (ja_X13_prove_L205 rec143 n) l0 l1 l2 l3 S
theorem ja_X13_prove_L205_ok (zs : List Int32) {rec143 : Nat → Nat → nk_S → Option (Int × nk_S)} (hrec143 : ∀ (l0 : Nat) (l1 : Nat) (S : nk_S) (R : Int × nk_S), nk_cl ja_Tt l0 = some 13 → nk_cl ja_Tt l1 = some 12 → rec143 l0 l1 S = some R → nk_K ja_Tt mi_Γ (mi_ev zs) 0 210 143 [(0, nk_r l0), (1, nk_r l1)] [] S R) : ∀ n : Nat, ∀ (l0 : Nat) (l1 : Nat) (l2 : Int) (l3 : Int) (S : nk_S) (R : Int × nk_S), nk_cl ja_Tt l0 = some 13 → nk_cl ja_Tt l1 = some 12 → ja_X13_prove_L205 rec143 n l0 l1 l2 l3 S = some R → nk_K ja_Tt mi_Γ (mi_ev zs) 0 210 205 [(0, nk_r l0), (1, nk_r l1), (2, nk_i l2), (3, nk_i l3)] [] S R := by
  intro n
  induction n with
  | zero => intro _ _ _ _ _ _ _ _ hr; cases hr
  | succ n ih => intro l0 l1 l2 l3 S R t_l0 t_l1 hr; exact ja_X13_prove_b205_ok zs hrec143 ih l0 l1 l2 l3 S R t_l0 t_l1 hr
noncomputable def ja_X13_prove_b174 (rec143 : Nat → Nat → nk_S → Option (Int × nk_S)) (rec174 : Nat → Nat → Int → Int → nk_S → Option (Int × nk_S)) (l0 : Nat) (l1 : Nat) (l2 : Int) (l3 : Int) (S : nk_S) : Option (Int × nk_S) :=
  if (S.1 l1 2) ≤ l3 then
    ja_X13_prove_L205 rec143 nk_big l0 l1 l2 0 S
  else
    if 0 ≤ l3 ∧ l3 < 48 then
    if (S.1 (ja_c l1 51) l3.toNat) = 0 then
      nk_lt (nk_w (l3 + 1)) fun v3 =>
      rec174 l0 l1 l2 v3 S
    else
      nk_bd (ja_X13_begin l0 l1 l3 S) fun r5 S6 =>
      nk_lt (nk_w (l3 + 1)) fun v8 =>
      rec174 l0 l1 l2 v8 S6
    else none
theorem ja_X13_prove_b174_ok (zs : List Int32) {rec143 : Nat → Nat → nk_S → Option (Int × nk_S)} (hrec143 : ∀ (l0 : Nat) (l1 : Nat) (S : nk_S) (R : Int × nk_S), nk_cl ja_Tt l0 = some 13 → nk_cl ja_Tt l1 = some 12 → rec143 l0 l1 S = some R → nk_K ja_Tt mi_Γ (mi_ev zs) 0 210 143 [(0, nk_r l0), (1, nk_r l1)] [] S R) {rec174 : Nat → Nat → Int → Int → nk_S → Option (Int × nk_S)} (hrec174 : ∀ (l0 : Nat) (l1 : Nat) (l2 : Int) (l3 : Int) (S : nk_S) (R : Int × nk_S), nk_cl ja_Tt l0 = some 13 → nk_cl ja_Tt l1 = some 12 → rec174 l0 l1 l2 l3 S = some R → nk_K ja_Tt mi_Γ (mi_ev zs) 0 210 174 [(0, nk_r l0), (1, nk_r l1), (2, nk_i l2), (3, nk_i l3)] [] S R) : ∀ (l0 : Nat) (l1 : Nat) (l2 : Int) (l3 : Int) (S : nk_S) (R : Int × nk_S), nk_cl ja_Tt l0 = some 13 → nk_cl ja_Tt l1 = some 12 → ja_X13_prove_b174 rec143 rec174 l0 l1 l2 l3 S = some R → nk_K ja_Tt mi_Γ (mi_ev zs) 0 210 174 [(0, nk_r l0), (1, nk_r l1), (2, nk_i l2), (3, nk_i l3)] [] S R := by
  intro l0 l1 l2 l3 S R t_l0 t_l1 hr
  unfold ja_X13_prove_b174 at hr
  refine nk_p (i := .iload_n 3) (len := 1) (pc' := 175) mJ_210 (by decide +kernel) (ns_iload_n 3 rfl rfl) rfl ?_
  refine nk_p (i := .aload_n 1) (len := 1) (pc' := 176) mJ_210 (by decide +kernel) (ns_aload_n 1 rfl rfl) rfl ?_
  refine nk_getI (y := (0, 0)) (x := 303) (len := 3) (ci := 12) (k := 2) (pc' := 179) ja_okT mJ_210 (by decide +kernel) (by decide +kernel) (by decide +kernel) t_l1 rfl ?_
  refine nk_icmp (c := .ge) (off := 24) (len := 3) (t := 203) (pc' := 182) mJ_210 (by decide +kernel) (by decide +kernel) rfl (fun hc => ?_) (fun hc => ?_)
  · have hr := nk_ifp (c := (S.1 l1 2) ≤ l3) hc hr
    refine nk_p (i := .iconst 0) (len := 1) (pc' := 204) mJ_210 (by decide +kernel) (ns_iconst (c := 0) (by decide +kernel)) rfl ?_
    refine nk_p (i := .istore_n 3) (len := 1) (pc' := 205) mJ_210 (by decide +kernel) (ns_istore_n (L' := [(3, nk_i 0), (0, nk_r l0), (1, nk_r l1), (2, nk_i l2)]) rfl rfl rfl (by decide +kernel)) rfl ?_
    refine nk_sub [1, 2, 3, 0] (L' := [(0, nk_r l0), (1, nk_r l1), (2, nk_i l2), (3, nk_i 0)]) rfl ?_
    exact ja_X13_prove_L205_ok zs hrec143 nk_big _ _ _ _ _ _ t_l0 t_l1 hr
  · have hr := nk_ifn (c := (S.1 l1 2) ≤ l3) hc hr
    refine nk_p (i := .aload_n 1) (len := 1) (pc' := 183) mJ_210 (by decide +kernel) (ns_aload_n 1 rfl rfl) rfl ?_
    refine nk_getC (f := (4, 3, 48)) (x := 610) (len := 3) (ci := 12) (k := 51) (pc' := 186) ja_okT mJ_210 (by decide +kernel) (by decide +kernel) (by decide +kernel) (by decide) t_l1 rfl ?_
    have t1 : nk_ar ja_Tt (ja_c l1 51) = some (3, 48) := nk_ta ja_okT t_l1 (by decide +kernel)
    refine nk_p (i := .iload_n 3) (len := 1) (pc' := 187) mJ_210 (by decide +kernel) (ns_iload_n 3 rfl rfl) rfl ?_
    obtain ⟨h2, hr⟩ := nk_cke hr
    refine nk_bald (t := 3) (len := 1) (N := 48) (pc' := 188) mJ_210 (by decide +kernel) t1 (by decide) h2.1 h2.2 rfl rfl ?_
    refine nk_icond (c := .eq) (off := 9) (len := 3) (t := 197) (pc' := 191) mJ_210 (by decide +kernel) (by decide +kernel) rfl (fun hc => ?_) (fun hc => ?_)
    · have hr := nk_ifp (c := (S.1 (ja_c l1 51) l3.toNat) = 0) hc hr
      obtain ⟨v3, h4, hr⟩ := nk_lte hr
      refine nk_p (i := .iinc 3 1) (len := 3) (pc' := 200) mJ_210 (by decide +kernel) (ns_iinc (c := 1) (L' := [(3, nk_i v3), (0, nk_r l0), (1, nk_r l1), (2, nk_i l2)]) 3 rfl (by decide +kernel) h4 rfl (by decide +kernel)) rfl ?_
      refine nk_p (i := .goto (-26)) (len := 3) (pc' := 174) mJ_210 (by decide +kernel) (ns_goto (by decide +kernel)) rfl ?_
      refine nk_sub [1, 2, 3, 0] (L' := [(0, nk_r l0), (1, nk_r l1), (2, nk_i l2), (3, nk_i v3)]) rfl ?_
      exact hrec174 _ _ _ _ _ _ t_l0 t_l1 hr
    · have hr := nk_ifn (c := (S.1 (ja_c l1 51) l3.toNat) = 0) hc hr
      refine nk_p (i := .aload_n 0) (len := 1) (pc' := 192) mJ_210 (by decide +kernel) (ns_aload_n 0 rfl rfl) rfl ?_
      refine nk_p (i := .aload_n 1) (len := 1) (pc' := 193) mJ_210 (by decide +kernel) (ns_aload_n 1 rfl rfl) rfl ?_
      refine nk_p (i := .iload_n 3) (len := 1) (pc' := 194) mJ_210 (by decide +kernel) (ns_iload_n 3 rfl rfl) rfl ?_
      obtain ⟨r5, S6, h7, hr⟩ := nk_bde hr
      refine nk_callV (ci := 13) (n := 2) (x := 616) (len := 3) (j' := 86) (q' := 0) (r := r5) (S' := S6) (L2 := [(0, nk_r l0), (1, nk_r l1), (2, nk_i l3)]) (rest := []) (st' := []) (pc' := 197) mJ_210 (by decide +kernel) (by decide +kernel) rfl rfl t_l0 (Nat.le_of_ble_eq_true rfl) mJ_86 (Nat.le_of_ble_eq_true rfl) rfl (ja_X13_begin_ok zs _ _ _ _ _ t_l0 t_l1 h7) rfl ?_
      obtain ⟨v8, h9, hr⟩ := nk_lte hr
      refine nk_p (i := .iinc 3 1) (len := 3) (pc' := 200) mJ_210 (by decide +kernel) (ns_iinc (c := 1) (L' := [(3, nk_i v8), (0, nk_r l0), (1, nk_r l1), (2, nk_i l2)]) 3 rfl (by decide +kernel) h9 rfl (by decide +kernel)) rfl ?_
      refine nk_p (i := .goto (-26)) (len := 3) (pc' := 174) mJ_210 (by decide +kernel) (ns_goto (by decide +kernel)) rfl ?_
      refine nk_sub [1, 2, 3, 0] (L' := [(0, nk_r l0), (1, nk_r l1), (2, nk_i l2), (3, nk_i v8)]) rfl ?_
      exact hrec174 _ _ _ _ _ _ t_l0 t_l1 hr
noncomputable def ja_X13_prove_L174 (rec143 : Nat → Nat → nk_S → Option (Int × nk_S)) : Nat → Nat → Nat → Int → Int → nk_S → Option (Int × nk_S)
  | 0, _, _, _, _, _ => none
  | n + 1, l0, l1, l2, l3, S => ja_X13_prove_b174 rec143 (ja_X13_prove_L174 rec143 n) l0 l1 l2 l3 S
theorem ja_X13_prove_L174_ok (zs : List Int32) {rec143 : Nat → Nat → nk_S → Option (Int × nk_S)} (hrec143 : ∀ (l0 : Nat) (l1 : Nat) (S : nk_S) (R : Int × nk_S), nk_cl ja_Tt l0 = some 13 → nk_cl ja_Tt l1 = some 12 → rec143 l0 l1 S = some R → nk_K ja_Tt mi_Γ (mi_ev zs) 0 210 143 [(0, nk_r l0), (1, nk_r l1)] [] S R) : ∀ n : Nat, ∀ (l0 : Nat) (l1 : Nat) (l2 : Int) (l3 : Int) (S : nk_S) (R : Int × nk_S), nk_cl ja_Tt l0 = some 13 → nk_cl ja_Tt l1 = some 12 → ja_X13_prove_L174 rec143 n l0 l1 l2 l3 S = some R → nk_K ja_Tt mi_Γ (mi_ev zs) 0 210 174 [(0, nk_r l0), (1, nk_r l1), (2, nk_i l2), (3, nk_i l3)] [] S R := by
  intro n
  induction n with
  | zero => intro _ _ _ _ _ _ _ _ hr; cases hr
  | succ n ih => intro l0 l1 l2 l3 S R t_l0 t_l1 hr; exact ja_X13_prove_b174_ok zs hrec143 ih l0 l1 l2 l3 S R t_l0 t_l1 hr
noncomputable def ja_X13_prove_b157 (rec143 : Nat → Nat → nk_S → Option (Int × nk_S)) (l0 : Nat) (l1 : Nat) (S : nk_S) : Option (Int × nk_S) :=
  nk_lt (S.1 l0 37) fun v1 =>
  nk_lt (nk_wi S l0 36 0) fun S3 =>
  nk_lt (nk_wi S3 l0 37 0) fun S5 =>
  ja_X13_prove_L174 rec143 nk_big l0 l1 v1 0 S5
theorem ja_X13_prove_b157_ok (zs : List Int32) {rec143 : Nat → Nat → nk_S → Option (Int × nk_S)} (hrec143 : ∀ (l0 : Nat) (l1 : Nat) (S : nk_S) (R : Int × nk_S), nk_cl ja_Tt l0 = some 13 → nk_cl ja_Tt l1 = some 12 → rec143 l0 l1 S = some R → nk_K ja_Tt mi_Γ (mi_ev zs) 0 210 143 [(0, nk_r l0), (1, nk_r l1)] [] S R) : ∀ (l0 : Nat) (l1 : Nat) (S : nk_S) (R : Int × nk_S), nk_cl ja_Tt l0 = some 13 → nk_cl ja_Tt l1 = some 12 → ja_X13_prove_b157 rec143 l0 l1 S = some R → nk_K ja_Tt mi_Γ (mi_ev zs) 0 210 157 [(0, nk_r l0), (1, nk_r l1)] [] S R := by
  intro l0 l1 S R t_l0 t_l1 hr
  unfold ja_X13_prove_b157 at hr
  refine nk_p (i := .aload_n 0) (len := 1) (pc' := 158) mJ_210 (by decide +kernel) (ns_aload_n 0 rfl rfl) rfl ?_
  refine nk_getI (y := (0, 0)) (x := 585) (len := 3) (ci := 13) (k := 37) (pc' := 161) ja_okT mJ_210 (by decide +kernel) (by decide +kernel) (by decide +kernel) t_l0 rfl ?_
  obtain ⟨v1, h2, hr⟩ := nk_lte hr
  refine nk_p (i := .istore_n 2) (len := 1) (pc' := 162) mJ_210 (by decide +kernel) (ns_istore_n (L' := [(2, nk_i v1), (0, nk_r l0), (1, nk_r l1)]) h2 rfl rfl (by decide +kernel)) rfl ?_
  refine nk_p (i := .aload_n 0) (len := 1) (pc' := 163) mJ_210 (by decide +kernel) (ns_aload_n 1 rfl rfl) rfl ?_
  refine nk_p (i := .iconst 0) (len := 1) (pc' := 164) mJ_210 (by decide +kernel) (ns_iconst (c := 0) (by decide +kernel)) rfl ?_
  obtain ⟨S3, h4, hr⟩ := nk_lte hr
  refine nk_putI (y := (0, 0)) (ty := .boolean) (x := 545) (len := 3) (ci := 13) (k := 36) (pc' := 167) ja_okT mJ_210 (by decide +kernel) (by decide +kernel) (by decide +kernel) t_l0 (Or.inr ⟨rfl, by decide⟩) rfl h4 ?_
  refine nk_p (i := .aload_n 0) (len := 1) (pc' := 168) mJ_210 (by decide +kernel) (ns_aload_n 1 rfl rfl) rfl ?_
  refine nk_p (i := .iconst 0) (len := 1) (pc' := 169) mJ_210 (by decide +kernel) (ns_iconst (c := 0) (by decide +kernel)) rfl ?_
  obtain ⟨S5, h6, hr⟩ := nk_lte hr
  refine nk_putI (y := (0, 0)) (ty := .boolean) (x := 585) (len := 3) (ci := 13) (k := 37) (pc' := 172) ja_okT mJ_210 (by decide +kernel) (by decide +kernel) (by decide +kernel) t_l0 (Or.inr ⟨rfl, by decide⟩) rfl h6 ?_
  refine nk_p (i := .iconst 0) (len := 1) (pc' := 173) mJ_210 (by decide +kernel) (ns_iconst (c := 0) (by decide +kernel)) rfl ?_
  refine nk_p (i := .istore_n 3) (len := 1) (pc' := 174) mJ_210 (by decide +kernel) (ns_istore_n (L' := [(3, nk_i 0), (2, nk_i v1), (0, nk_r l0), (1, nk_r l1)]) rfl rfl rfl (by decide +kernel)) rfl ?_
  refine nk_sub [2, 3, 1, 0] (L' := [(0, nk_r l0), (1, nk_r l1), (2, nk_i v1), (3, nk_i 0)]) rfl ?_
  exact ja_X13_prove_L174_ok zs hrec143 nk_big _ _ _ _ _ _ t_l0 t_l1 hr
noncomputable def ja_X13_prove_b143 (rec143 : Nat → Nat → nk_S → Option (Int × nk_S)) (l0 : Nat) (l1 : Nat) (S : nk_S) : Option (Int × nk_S) :=
  if (S.1 l0 36) = 0 then
    if (S.1 l0 37) = 0 then
      some (0, S)
    else
      ja_X13_prove_b157 rec143 l0 l1 S
  else
    ja_X13_prove_b157 rec143 l0 l1 S
theorem ja_X13_prove_b143_ok (zs : List Int32) {rec143 : Nat → Nat → nk_S → Option (Int × nk_S)} (hrec143 : ∀ (l0 : Nat) (l1 : Nat) (S : nk_S) (R : Int × nk_S), nk_cl ja_Tt l0 = some 13 → nk_cl ja_Tt l1 = some 12 → rec143 l0 l1 S = some R → nk_K ja_Tt mi_Γ (mi_ev zs) 0 210 143 [(0, nk_r l0), (1, nk_r l1)] [] S R) : ∀ (l0 : Nat) (l1 : Nat) (S : nk_S) (R : Int × nk_S), nk_cl ja_Tt l0 = some 13 → nk_cl ja_Tt l1 = some 12 → ja_X13_prove_b143 rec143 l0 l1 S = some R → nk_K ja_Tt mi_Γ (mi_ev zs) 0 210 143 [(0, nk_r l0), (1, nk_r l1)] [] S R := by
  intro l0 l1 S R t_l0 t_l1 hr
  unfold ja_X13_prove_b143 at hr
  refine nk_p (i := .aload_n 0) (len := 1) (pc' := 144) mJ_210 (by decide +kernel) (ns_aload_n 0 rfl rfl) rfl ?_
  refine nk_getI (y := (0, 0)) (x := 545) (len := 3) (ci := 13) (k := 36) (pc' := 147) ja_okT mJ_210 (by decide +kernel) (by decide +kernel) (by decide +kernel) t_l0 rfl ?_
  refine nk_icond (c := .ne) (off := 10) (len := 3) (t := 157) (pc' := 150) mJ_210 (by decide +kernel) (by decide +kernel) rfl (fun hc => ?_) (fun hc => ?_)
  · have hr := nk_ifn (c := (S.1 l0 36) = 0) hc hr
    exact ja_X13_prove_b157_ok zs hrec143 _ _ _ _ t_l0 t_l1 hr
  · have hr := nk_ifp (c := (S.1 l0 36) = 0) (Decidable.of_not_not hc) hr
    refine nk_p (i := .aload_n 0) (len := 1) (pc' := 151) mJ_210 (by decide +kernel) (ns_aload_n 0 rfl rfl) rfl ?_
    refine nk_getI (y := (0, 0)) (x := 585) (len := 3) (ci := 13) (k := 37) (pc' := 154) ja_okT mJ_210 (by decide +kernel) (by decide +kernel) (by decide +kernel) t_l0 rfl ?_
    refine nk_icond (c := .eq) (off := 106) (len := 3) (t := 260) (pc' := 157) mJ_210 (by decide +kernel) (by decide +kernel) rfl (fun hc => ?_) (fun hc => ?_)
    · have hr := nk_ifp (c := (S.1 l0 37) = 0) hc hr
      cases hr
      exact nk_vret (len := 1) mJ_210 (by decide +kernel) rfl
    · have hr := nk_ifn (c := (S.1 l0 37) = 0) hc hr
      exact ja_X13_prove_b157_ok zs hrec143 _ _ _ _ t_l0 t_l1 hr
noncomputable def ja_X13_prove_L143 : Nat → Nat → Nat → nk_S → Option (Int × nk_S)
  | 0, _, _, _ => none
  | n + 1, l0, l1, S => ja_X13_prove_b143 (ja_X13_prove_L143 n) l0 l1 S
theorem ja_X13_prove_L143_ok (zs : List Int32) : ∀ n : Nat, ∀ (l0 : Nat) (l1 : Nat) (S : nk_S) (R : Int × nk_S), nk_cl ja_Tt l0 = some 13 → nk_cl ja_Tt l1 = some 12 → ja_X13_prove_L143 n l0 l1 S = some R → nk_K ja_Tt mi_Γ (mi_ev zs) 0 210 143 [(0, nk_r l0), (1, nk_r l1)] [] S R := by
  intro n
  induction n with
  | zero => intro _ _ _ _ _ _ hr; cases hr
  | succ n ih => intro l0 l1 S R t_l0 t_l1 hr; exact ja_X13_prove_b143_ok zs ih l0 l1 S R t_l0 t_l1 hr
noncomputable def ja_X13_prove_b119 (rec88 : Nat → Nat → Int → nk_S → Option (Int × nk_S)) (l0 : Nat) (l1 : Nat) (l2 : Int) (s0 : Nat) (s1 : Int) (s2 : Int) (S : nk_S) : Option (Int × nk_S) :=
  if 0 ≤ s1 ∧ s1 < 48 then
  if s2 = 0 ∨ s2 = 1 then
  nk_lt (nk_wi S s0 s1.toNat s2) fun S2 =>
  if 0 ≤ l2 ∧ l2 < 48 then
  nk_lt (nk_wi S2 (ja_c l1 52) l2.toNat 0) fun S7 =>
  nk_lt (nk_w (l2 + 1)) fun v9 =>
  rec88 l0 l1 v9 S7
  else none
  else none
  else none
theorem ja_X13_prove_b119_ok (zs : List Int32) {rec88 : Nat → Nat → Int → nk_S → Option (Int × nk_S)} (hrec88 : ∀ (l0 : Nat) (l1 : Nat) (l2 : Int) (S : nk_S) (R : Int × nk_S), nk_cl ja_Tt l0 = some 13 → nk_cl ja_Tt l1 = some 12 → rec88 l0 l1 l2 S = some R → nk_K ja_Tt mi_Γ (mi_ev zs) 0 210 88 [(0, nk_r l0), (1, nk_r l1), (2, nk_i l2)] [] S R) : ∀ (l0 : Nat) (l1 : Nat) (l2 : Int) (s0 : Nat) (s1 : Int) (s2 : Int) (S : nk_S) (R : Int × nk_S), nk_cl ja_Tt l0 = some 13 → nk_cl ja_Tt l1 = some 12 → nk_ar ja_Tt s0 = some (3, 48) → ja_X13_prove_b119 rec88 l0 l1 l2 s0 s1 s2 S = some R → nk_K ja_Tt mi_Γ (mi_ev zs) 0 210 119 [(0, nk_r l0), (1, nk_r l1), (2, nk_i l2)] [nk_i s2, nk_i s1, nk_r s0] S R := by
  intro l0 l1 l2 s0 s1 s2 S R t_l0 t_l1 t_s0 hr
  unfold ja_X13_prove_b119 at hr
  obtain ⟨h1, hr⟩ := nk_cke hr
  obtain ⟨h4, hr⟩ := nk_cke hr
  obtain ⟨S2, h3, hr⟩ := nk_lte hr
  refine nk_zast (len := 1) (N := 48) (pc' := 120) mJ_210 (by decide +kernel) t_s0 h1.1 h1.2 h4 rfl rfl h3 ?_
  refine nk_p (i := .aload_n 1) (len := 1) (pc' := 121) mJ_210 (by decide +kernel) (ns_aload_n 1 rfl rfl) rfl ?_
  refine nk_getC (f := (4, 2, 48)) (x := 613) (len := 3) (ci := 12) (k := 52) (pc' := 124) ja_okT mJ_210 (by decide +kernel) (by decide +kernel) (by decide +kernel) (by decide) t_l1 rfl ?_
  have t5 : nk_ar ja_Tt (ja_c l1 52) = some (2, 48) := nk_ta ja_okT t_l1 (by decide +kernel)
  refine nk_p (i := .iload_n 2) (len := 1) (pc' := 125) mJ_210 (by decide +kernel) (ns_iload_n 2 rfl rfl) rfl ?_
  refine nk_p (i := .lconst 0) (len := 1) (pc' := 126) mJ_210 (by decide +kernel) (ns_lconst (c := 0) (by decide +kernel)) rfl ?_
  obtain ⟨h6, hr⟩ := nk_cke hr
  obtain ⟨S7, h8, hr⟩ := nk_lte hr
  refine nk_last (len := 1) (N := 48) (pc' := 127) mJ_210 (by decide +kernel) t5 h6.1 h6.2 rfl rfl h8 ?_
  obtain ⟨v9, h10, hr⟩ := nk_lte hr
  refine nk_p (i := .iinc 2 1) (len := 3) (pc' := 130) mJ_210 (by decide +kernel) (ns_iinc (c := 1) (L' := [(2, nk_i v9), (0, nk_r l0), (1, nk_r l1)]) 2 rfl (by decide +kernel) h10 rfl (by decide +kernel)) rfl ?_
  refine nk_p (i := .goto (-42)) (len := 3) (pc' := 88) mJ_210 (by decide +kernel) (ns_goto (by decide +kernel)) rfl ?_
  refine nk_sub [1, 2, 0] (L' := [(0, nk_r l0), (1, nk_r l1), (2, nk_i v9)]) rfl ?_
  exact hrec88 _ _ _ _ _ t_l0 t_l1 hr
noncomputable def ja_X13_prove_b88 (rec88 : Nat → Nat → Int → nk_S → Option (Int × nk_S)) (l0 : Nat) (l1 : Nat) (l2 : Int) (S : nk_S) : Option (Int × nk_S) :=
  if 48 ≤ l2 then
    nk_lt (nk_wi S l0 36 1) fun S1 =>
    nk_lt (nk_wi S1 l0 37 0) fun S3 =>
    ja_X13_prove_L143 nk_big l0 l1 S3
  else
    if 0 ≤ l2 ∧ l2 < 48 then
    nk_lt (nk_wi S (ja_c l1 50) l2.toNat 0) fun S7 =>
    if l2 = (S7.1 l1 6) then
      ja_X13_prove_b119 rec88 l0 l1 l2 (ja_c l1 51) l2 1 S7
    else
      ja_X13_prove_b119 rec88 l0 l1 l2 (ja_c l1 51) l2 0 S7
    else none
theorem ja_X13_prove_b88_ok (zs : List Int32) {rec88 : Nat → Nat → Int → nk_S → Option (Int × nk_S)} (hrec88 : ∀ (l0 : Nat) (l1 : Nat) (l2 : Int) (S : nk_S) (R : Int × nk_S), nk_cl ja_Tt l0 = some 13 → nk_cl ja_Tt l1 = some 12 → rec88 l0 l1 l2 S = some R → nk_K ja_Tt mi_Γ (mi_ev zs) 0 210 88 [(0, nk_r l0), (1, nk_r l1), (2, nk_i l2)] [] S R) : ∀ (l0 : Nat) (l1 : Nat) (l2 : Int) (S : nk_S) (R : Int × nk_S), nk_cl ja_Tt l0 = some 13 → nk_cl ja_Tt l1 = some 12 → ja_X13_prove_b88 rec88 l0 l1 l2 S = some R → nk_K ja_Tt mi_Γ (mi_ev zs) 0 210 88 [(0, nk_r l0), (1, nk_r l1), (2, nk_i l2)] [] S R := by
  intro l0 l1 l2 S R t_l0 t_l1 hr
  unfold ja_X13_prove_b88 at hr
  refine nk_p (i := .iload_n 2) (len := 1) (pc' := 89) mJ_210 (by decide +kernel) (ns_iload_n 2 rfl rfl) rfl ?_
  refine nk_p (i := .bipush 48) (len := 2) (pc' := 91) mJ_210 (by decide +kernel) (ns_bipush (c := 48) (by decide +kernel)) rfl ?_
  refine nk_icmp (c := .ge) (off := 42) (len := 3) (t := 133) (pc' := 94) mJ_210 (by decide +kernel) (by decide +kernel) rfl (fun hc => ?_) (fun hc => ?_)
  · have hr := nk_ifp (c := 48 ≤ l2) hc hr
    refine nk_p (i := .aload_n 0) (len := 1) (pc' := 134) mJ_210 (by decide +kernel) (ns_aload_n 0 rfl rfl) rfl ?_
    refine nk_p (i := .iconst 1) (len := 1) (pc' := 135) mJ_210 (by decide +kernel) (ns_iconst (c := 1) (by decide +kernel)) rfl ?_
    obtain ⟨S1, h2, hr⟩ := nk_lte hr
    refine nk_putI (y := (0, 0)) (ty := .boolean) (x := 545) (len := 3) (ci := 13) (k := 36) (pc' := 138) ja_okT mJ_210 (by decide +kernel) (by decide +kernel) (by decide +kernel) t_l0 (Or.inr ⟨rfl, by decide⟩) rfl h2 ?_
    refine nk_p (i := .aload_n 0) (len := 1) (pc' := 139) mJ_210 (by decide +kernel) (ns_aload_n 0 rfl rfl) rfl ?_
    refine nk_p (i := .iconst 0) (len := 1) (pc' := 140) mJ_210 (by decide +kernel) (ns_iconst (c := 0) (by decide +kernel)) rfl ?_
    obtain ⟨S3, h4, hr⟩ := nk_lte hr
    refine nk_putI (y := (0, 0)) (ty := .boolean) (x := 585) (len := 3) (ci := 13) (k := 37) (pc' := 143) ja_okT mJ_210 (by decide +kernel) (by decide +kernel) (by decide +kernel) t_l0 (Or.inr ⟨rfl, by decide⟩) rfl h4 ?_
    refine nk_sub [0, 1] (L' := [(0, nk_r l0), (1, nk_r l1)]) rfl ?_
    exact ja_X13_prove_L143_ok zs nk_big _ _ _ _ t_l0 t_l1 hr
  · have hr := nk_ifn (c := 48 ≤ l2) hc hr
    refine nk_p (i := .aload_n 1) (len := 1) (pc' := 95) mJ_210 (by decide +kernel) (ns_aload_n 1 rfl rfl) rfl ?_
    refine nk_getC (f := (4, 3, 48)) (x := 607) (len := 3) (ci := 12) (k := 50) (pc' := 98) ja_okT mJ_210 (by decide +kernel) (by decide +kernel) (by decide +kernel) (by decide) t_l1 rfl ?_
    have t5 : nk_ar ja_Tt (ja_c l1 50) = some (3, 48) := nk_ta ja_okT t_l1 (by decide +kernel)
    refine nk_p (i := .iload_n 2) (len := 1) (pc' := 99) mJ_210 (by decide +kernel) (ns_iload_n 2 rfl rfl) rfl ?_
    refine nk_p (i := .iconst 0) (len := 1) (pc' := 100) mJ_210 (by decide +kernel) (ns_iconst (c := 0) (by decide +kernel)) rfl ?_
    obtain ⟨h6, hr⟩ := nk_cke hr
    obtain ⟨S7, h8, hr⟩ := nk_lte hr
    refine nk_zast (len := 1) (N := 48) (pc' := 101) mJ_210 (by decide +kernel) t5 h6.1 h6.2 (by decide) rfl rfl h8 ?_
    refine nk_p (i := .aload_n 1) (len := 1) (pc' := 102) mJ_210 (by decide +kernel) (ns_aload_n 1 rfl rfl) rfl ?_
    refine nk_getC (f := (4, 3, 48)) (x := 610) (len := 3) (ci := 12) (k := 51) (pc' := 105) ja_okT mJ_210 (by decide +kernel) (by decide +kernel) (by decide +kernel) (by decide) t_l1 rfl ?_
    have t9 : nk_ar ja_Tt (ja_c l1 51) = some (3, 48) := nk_ta ja_okT t_l1 (by decide +kernel)
    refine nk_p (i := .iload_n 2) (len := 1) (pc' := 106) mJ_210 (by decide +kernel) (ns_iload_n 2 rfl rfl) rfl ?_
    refine nk_p (i := .iload_n 2) (len := 1) (pc' := 107) mJ_210 (by decide +kernel) (ns_iload_n 2 rfl rfl) rfl ?_
    refine nk_p (i := .aload_n 1) (len := 1) (pc' := 108) mJ_210 (by decide +kernel) (ns_aload_n 1 rfl rfl) rfl ?_
    refine nk_getI (y := (0, 0)) (x := 453) (len := 3) (ci := 12) (k := 6) (pc' := 111) ja_okT mJ_210 (by decide +kernel) (by decide +kernel) (by decide +kernel) t_l1 rfl ?_
    refine nk_icmp (c := .ne) (off := 7) (len := 3) (t := 118) (pc' := 114) mJ_210 (by decide +kernel) (by decide +kernel) rfl (fun hc => ?_) (fun hc => ?_)
    · have hr := nk_ifn (c := l2 = (S7.1 l1 6)) hc hr
      refine nk_p (i := .iconst 0) (len := 1) (pc' := 119) mJ_210 (by decide +kernel) (ns_iconst (c := 0) (by decide +kernel)) rfl ?_
      exact ja_X13_prove_b119_ok zs hrec88 _ _ _ _ _ _ _ _ t_l0 t_l1 t9 hr
    · have hr := nk_ifp (c := l2 = (S7.1 l1 6)) (Decidable.of_not_not hc) hr
      refine nk_p (i := .iconst 1) (len := 1) (pc' := 115) mJ_210 (by decide +kernel) (ns_iconst (c := 1) (by decide +kernel)) rfl ?_
      refine nk_p (i := .goto 4) (len := 3) (pc' := 119) mJ_210 (by decide +kernel) (ns_goto (by decide +kernel)) rfl ?_
      exact ja_X13_prove_b119_ok zs hrec88 _ _ _ _ _ _ _ _ t_l0 t_l1 t9 hr
noncomputable def ja_X13_prove_L88 : Nat → Nat → Nat → Int → nk_S → Option (Int × nk_S)
  | 0, _, _, _, _ => none
  | n + 1, l0, l1, l2, S => ja_X13_prove_b88 (ja_X13_prove_L88 n) l0 l1 l2 S
theorem ja_X13_prove_L88_ok (zs : List Int32) : ∀ n : Nat, ∀ (l0 : Nat) (l1 : Nat) (l2 : Int) (S : nk_S) (R : Int × nk_S), nk_cl ja_Tt l0 = some 13 → nk_cl ja_Tt l1 = some 12 → ja_X13_prove_L88 n l0 l1 l2 S = some R → nk_K ja_Tt mi_Γ (mi_ev zs) 0 210 88 [(0, nk_r l0), (1, nk_r l1), (2, nk_i l2)] [] S R := by
  intro n
  induction n with
  | zero => intro _ _ _ _ _ _ _ hr; cases hr
  | succ n ih => intro l0 l1 l2 S R t_l0 t_l1 hr; exact ja_X13_prove_b88_ok zs ih l0 l1 l2 S R t_l0 t_l1 hr
noncomputable def ja_X13_prove_b45 (rec45 : Nat → Nat → Int → nk_S → Option (Int × nk_S)) (l0 : Nat) (l1 : Nat) (l2 : Int) (S : nk_S) : Option (Int × nk_S) :=
  if 3324 ≤ l2 then
    ja_X13_prove_L88 nk_big l0 l1 0 S
  else
    if 0 ≤ l2 ∧ l2 < 3324 then
    nk_lt (nk_wi S (ja_c l1 46) l2.toNat (nk_i2b 0)) fun S3 =>
    nk_lt (nk_wi S3 (ja_c l1 47) l2.toNat 0) fun S6 =>
    nk_lt (nk_wi S6 (ja_c l1 48) l2.toNat 0) fun S9 =>
    nk_lt (nk_wi S9 (ja_c l1 49) l2.toNat 0) fun S12 =>
    nk_lt (nk_w (l2 + 1)) fun v14 =>
    rec45 l0 l1 v14 S12
    else none
theorem ja_X13_prove_b45_ok (zs : List Int32) {rec45 : Nat → Nat → Int → nk_S → Option (Int × nk_S)} (hrec45 : ∀ (l0 : Nat) (l1 : Nat) (l2 : Int) (S : nk_S) (R : Int × nk_S), nk_cl ja_Tt l0 = some 13 → nk_cl ja_Tt l1 = some 12 → rec45 l0 l1 l2 S = some R → nk_K ja_Tt mi_Γ (mi_ev zs) 0 210 45 [(0, nk_r l0), (1, nk_r l1), (2, nk_i l2)] [] S R) : ∀ (l0 : Nat) (l1 : Nat) (l2 : Int) (S : nk_S) (R : Int × nk_S), nk_cl ja_Tt l0 = some 13 → nk_cl ja_Tt l1 = some 12 → ja_X13_prove_b45 rec45 l0 l1 l2 S = some R → nk_K ja_Tt mi_Γ (mi_ev zs) 0 210 45 [(0, nk_r l0), (1, nk_r l1), (2, nk_i l2)] [] S R := by
  intro l0 l1 l2 S R t_l0 t_l1 hr
  unfold ja_X13_prove_b45 at hr
  refine nk_p (i := .iload_n 2) (len := 1) (pc' := 46) mJ_210 (by decide +kernel) (ns_iload_n 2 rfl rfl) rfl ?_
  refine nk_p (i := .sipush 3324) (len := 3) (pc' := 49) mJ_210 (by decide +kernel) (ns_sipush (c := 3324) (by decide +kernel)) rfl ?_
  refine nk_icmp (c := .ge) (off := 37) (len := 3) (t := 86) (pc' := 52) mJ_210 (by decide +kernel) (by decide +kernel) rfl (fun hc => ?_) (fun hc => ?_)
  · have hr := nk_ifp (c := 3324 ≤ l2) hc hr
    refine nk_p (i := .iconst 0) (len := 1) (pc' := 87) mJ_210 (by decide +kernel) (ns_iconst (c := 0) (by decide +kernel)) rfl ?_
    refine nk_p (i := .istore_n 2) (len := 1) (pc' := 88) mJ_210 (by decide +kernel) (ns_istore_n (L' := [(2, nk_i 0), (0, nk_r l0), (1, nk_r l1)]) rfl rfl rfl (by decide +kernel)) rfl ?_
    refine nk_sub [1, 2, 0] (L' := [(0, nk_r l0), (1, nk_r l1), (2, nk_i 0)]) rfl ?_
    exact ja_X13_prove_L88_ok zs nk_big _ _ _ _ _ t_l0 t_l1 hr
  · have hr := nk_ifn (c := 3324 ≤ l2) hc hr
    refine nk_p (i := .aload_n 1) (len := 1) (pc' := 53) mJ_210 (by decide +kernel) (ns_aload_n 1 rfl rfl) rfl ?_
    refine nk_getC (f := (4, 0, 3324)) (x := 576) (len := 3) (ci := 12) (k := 46) (pc' := 56) ja_okT mJ_210 (by decide +kernel) (by decide +kernel) (by decide +kernel) (by decide) t_l1 rfl ?_
    have t1 : nk_ar ja_Tt (ja_c l1 46) = some (0, 3324) := nk_ta ja_okT t_l1 (by decide +kernel)
    refine nk_p (i := .iload_n 2) (len := 1) (pc' := 57) mJ_210 (by decide +kernel) (ns_iload_n 2 rfl rfl) rfl ?_
    refine nk_p (i := .iconst 0) (len := 1) (pc' := 58) mJ_210 (by decide +kernel) (ns_iconst (c := 0) (by decide +kernel)) rfl ?_
    obtain ⟨h2, hr⟩ := nk_cke hr
    obtain ⟨S3, h4, hr⟩ := nk_lte hr
    refine nk_bast (len := 1) (N := 3324) (pc' := 59) mJ_210 (by decide +kernel) t1 h2.1 h2.2 rfl rfl h4 ?_
    refine nk_p (i := .aload_n 1) (len := 1) (pc' := 60) mJ_210 (by decide +kernel) (ns_aload_n 1 rfl rfl) rfl ?_
    refine nk_getC (f := (4, 1, 3324)) (x := 579) (len := 3) (ci := 12) (k := 47) (pc' := 63) ja_okT mJ_210 (by decide +kernel) (by decide +kernel) (by decide +kernel) (by decide) t_l1 rfl ?_
    have t5 : nk_ar ja_Tt (ja_c l1 47) = some (1, 3324) := nk_ta ja_okT t_l1 (by decide +kernel)
    refine nk_p (i := .iload_n 2) (len := 1) (pc' := 64) mJ_210 (by decide +kernel) (ns_iload_n 2 rfl rfl) rfl ?_
    refine nk_p (i := .iconst 0) (len := 1) (pc' := 65) mJ_210 (by decide +kernel) (ns_iconst (c := 0) (by decide +kernel)) rfl ?_
    obtain ⟨S6, h7, hr⟩ := nk_lte hr
    refine nk_iast (len := 1) (N := 3324) (pc' := 66) mJ_210 (by decide +kernel) t5 h2.1 h2.2 rfl rfl h7 ?_
    refine nk_p (i := .aload_n 1) (len := 1) (pc' := 67) mJ_210 (by decide +kernel) (ns_aload_n 1 rfl rfl) rfl ?_
    refine nk_getC (f := (4, 1, 3324)) (x := 582) (len := 3) (ci := 12) (k := 48) (pc' := 70) ja_okT mJ_210 (by decide +kernel) (by decide +kernel) (by decide +kernel) (by decide) t_l1 rfl ?_
    have t8 : nk_ar ja_Tt (ja_c l1 48) = some (1, 3324) := nk_ta ja_okT t_l1 (by decide +kernel)
    refine nk_p (i := .iload_n 2) (len := 1) (pc' := 71) mJ_210 (by decide +kernel) (ns_iload_n 2 rfl rfl) rfl ?_
    refine nk_p (i := .iconst 0) (len := 1) (pc' := 72) mJ_210 (by decide +kernel) (ns_iconst (c := 0) (by decide +kernel)) rfl ?_
    obtain ⟨S9, h10, hr⟩ := nk_lte hr
    refine nk_iast (len := 1) (N := 3324) (pc' := 73) mJ_210 (by decide +kernel) t8 h2.1 h2.2 rfl rfl h10 ?_
    refine nk_p (i := .aload_n 1) (len := 1) (pc' := 74) mJ_210 (by decide +kernel) (ns_aload_n 1 rfl rfl) rfl ?_
    refine nk_getC (f := (4, 2, 3324)) (x := 588) (len := 3) (ci := 12) (k := 49) (pc' := 77) ja_okT mJ_210 (by decide +kernel) (by decide +kernel) (by decide +kernel) (by decide) t_l1 rfl ?_
    have t11 : nk_ar ja_Tt (ja_c l1 49) = some (2, 3324) := nk_ta ja_okT t_l1 (by decide +kernel)
    refine nk_p (i := .iload_n 2) (len := 1) (pc' := 78) mJ_210 (by decide +kernel) (ns_iload_n 2 rfl rfl) rfl ?_
    refine nk_p (i := .lconst 0) (len := 1) (pc' := 79) mJ_210 (by decide +kernel) (ns_lconst (c := 0) (by decide +kernel)) rfl ?_
    obtain ⟨S12, h13, hr⟩ := nk_lte hr
    refine nk_last (len := 1) (N := 3324) (pc' := 80) mJ_210 (by decide +kernel) t11 h2.1 h2.2 rfl rfl h13 ?_
    obtain ⟨v14, h15, hr⟩ := nk_lte hr
    refine nk_p (i := .iinc 2 1) (len := 3) (pc' := 83) mJ_210 (by decide +kernel) (ns_iinc (c := 1) (L' := [(2, nk_i v14), (0, nk_r l0), (1, nk_r l1)]) 2 rfl (by decide +kernel) h15 rfl (by decide +kernel)) rfl ?_
    refine nk_p (i := .goto (-38)) (len := 3) (pc' := 45) mJ_210 (by decide +kernel) (ns_goto (by decide +kernel)) rfl ?_
    refine nk_sub [1, 2, 0] (L' := [(0, nk_r l0), (1, nk_r l1), (2, nk_i v14)]) rfl ?_
    exact hrec45 _ _ _ _ _ t_l0 t_l1 hr
noncomputable def ja_X13_prove_L45 : Nat → Nat → Nat → Int → nk_S → Option (Int × nk_S)
  | 0, _, _, _, _ => none
  | n + 1, l0, l1, l2, S => ja_X13_prove_b45 (ja_X13_prove_L45 n) l0 l1 l2 S
theorem ja_X13_prove_L45_ok (zs : List Int32) : ∀ n : Nat, ∀ (l0 : Nat) (l1 : Nat) (l2 : Int) (S : nk_S) (R : Int × nk_S), nk_cl ja_Tt l0 = some 13 → nk_cl ja_Tt l1 = some 12 → ja_X13_prove_L45 n l0 l1 l2 S = some R → nk_K ja_Tt mi_Γ (mi_ev zs) 0 210 45 [(0, nk_r l0), (1, nk_r l1), (2, nk_i l2)] [] S R := by
  intro n
  induction n with
  | zero => intro _ _ _ _ _ _ _ hr; cases hr
  | succ n ih => intro l0 l1 l2 S R t_l0 t_l1 hr; exact ja_X13_prove_b45_ok zs ih l0 l1 l2 S R t_l0 t_l1 hr
noncomputable def ja_X13_prove_b2 (rec2 : Nat → Nat → Int → nk_S → Option (Int × nk_S)) (l0 : Nat) (l1 : Nat) (l2 : Int) (S : nk_S) : Option (Int × nk_S) :=
  if 1024 ≤ l2 then
    ja_X13_prove_L45 nk_big l0 l1 0 S
  else
    if 0 ≤ l2 ∧ l2 < 1024 then
    nk_lt (nk_wi S (ja_c l1 34) l2.toNat 0) fun S3 =>
    nk_lt (nk_wi S3 (ja_c l1 44) l2.toNat 0) fun S6 =>
    nk_lt (nk_wi S6 (ja_c l1 45) l2.toNat 0) fun S9 =>
    nk_lt (nk_wi S9 (ja_c l0 35) l2.toNat 0) fun S12 =>
    nk_lt (nk_w (l2 + 1)) fun v14 =>
    rec2 l0 l1 v14 S12
    else none
theorem ja_X13_prove_b2_ok (zs : List Int32) {rec2 : Nat → Nat → Int → nk_S → Option (Int × nk_S)} (hrec2 : ∀ (l0 : Nat) (l1 : Nat) (l2 : Int) (S : nk_S) (R : Int × nk_S), nk_cl ja_Tt l0 = some 13 → nk_cl ja_Tt l1 = some 12 → rec2 l0 l1 l2 S = some R → nk_K ja_Tt mi_Γ (mi_ev zs) 0 210 2 [(0, nk_r l0), (1, nk_r l1), (2, nk_i l2)] [] S R) : ∀ (l0 : Nat) (l1 : Nat) (l2 : Int) (S : nk_S) (R : Int × nk_S), nk_cl ja_Tt l0 = some 13 → nk_cl ja_Tt l1 = some 12 → ja_X13_prove_b2 rec2 l0 l1 l2 S = some R → nk_K ja_Tt mi_Γ (mi_ev zs) 0 210 2 [(0, nk_r l0), (1, nk_r l1), (2, nk_i l2)] [] S R := by
  intro l0 l1 l2 S R t_l0 t_l1 hr
  unfold ja_X13_prove_b2 at hr
  refine nk_p (i := .iload_n 2) (len := 1) (pc' := 3) mJ_210 (by decide +kernel) (ns_iload_n 2 rfl rfl) rfl ?_
  refine nk_p (i := .sipush 1024) (len := 3) (pc' := 6) mJ_210 (by decide +kernel) (ns_sipush (c := 1024) (by decide +kernel)) rfl ?_
  refine nk_icmp (c := .ge) (off := 37) (len := 3) (t := 43) (pc' := 9) mJ_210 (by decide +kernel) (by decide +kernel) rfl (fun hc => ?_) (fun hc => ?_)
  · have hr := nk_ifp (c := 1024 ≤ l2) hc hr
    refine nk_p (i := .iconst 0) (len := 1) (pc' := 44) mJ_210 (by decide +kernel) (ns_iconst (c := 0) (by decide +kernel)) rfl ?_
    refine nk_p (i := .istore_n 2) (len := 1) (pc' := 45) mJ_210 (by decide +kernel) (ns_istore_n (L' := [(2, nk_i 0), (0, nk_r l0), (1, nk_r l1)]) rfl rfl rfl (by decide +kernel)) rfl ?_
    refine nk_sub [1, 2, 0] (L' := [(0, nk_r l0), (1, nk_r l1), (2, nk_i 0)]) rfl ?_
    exact ja_X13_prove_L45_ok zs nk_big _ _ _ _ _ t_l0 t_l1 hr
  · have hr := nk_ifn (c := 1024 ≤ l2) hc hr
    refine nk_p (i := .aload_n 1) (len := 1) (pc' := 10) mJ_210 (by decide +kernel) (ns_aload_n 1 rfl rfl) rfl ?_
    refine nk_getC (f := (4, 3, 1024)) (x := 539) (len := 3) (ci := 12) (k := 34) (pc' := 13) ja_okT mJ_210 (by decide +kernel) (by decide +kernel) (by decide +kernel) (by decide) t_l1 rfl ?_
    have t1 : nk_ar ja_Tt (ja_c l1 34) = some (3, 1024) := nk_ta ja_okT t_l1 (by decide +kernel)
    refine nk_p (i := .iload_n 2) (len := 1) (pc' := 14) mJ_210 (by decide +kernel) (ns_iload_n 2 rfl rfl) rfl ?_
    refine nk_p (i := .iconst 0) (len := 1) (pc' := 15) mJ_210 (by decide +kernel) (ns_iconst (c := 0) (by decide +kernel)) rfl ?_
    obtain ⟨h2, hr⟩ := nk_cke hr
    obtain ⟨S3, h4, hr⟩ := nk_lte hr
    refine nk_zast (len := 1) (N := 1024) (pc' := 16) mJ_210 (by decide +kernel) t1 h2.1 h2.2 (by decide) rfl rfl h4 ?_
    refine nk_p (i := .aload_n 1) (len := 1) (pc' := 17) mJ_210 (by decide +kernel) (ns_aload_n 1 rfl rfl) rfl ?_
    refine nk_getC (f := (4, 1, 1024)) (x := 601) (len := 3) (ci := 12) (k := 44) (pc' := 20) ja_okT mJ_210 (by decide +kernel) (by decide +kernel) (by decide +kernel) (by decide) t_l1 rfl ?_
    have t5 : nk_ar ja_Tt (ja_c l1 44) = some (1, 1024) := nk_ta ja_okT t_l1 (by decide +kernel)
    refine nk_p (i := .iload_n 2) (len := 1) (pc' := 21) mJ_210 (by decide +kernel) (ns_iload_n 2 rfl rfl) rfl ?_
    refine nk_p (i := .iconst 0) (len := 1) (pc' := 22) mJ_210 (by decide +kernel) (ns_iconst (c := 0) (by decide +kernel)) rfl ?_
    obtain ⟨S6, h7, hr⟩ := nk_lte hr
    refine nk_iast (len := 1) (N := 1024) (pc' := 23) mJ_210 (by decide +kernel) t5 h2.1 h2.2 rfl rfl h7 ?_
    refine nk_p (i := .aload_n 1) (len := 1) (pc' := 24) mJ_210 (by decide +kernel) (ns_aload_n 1 rfl rfl) rfl ?_
    refine nk_getC (f := (4, 2, 1024)) (x := 604) (len := 3) (ci := 12) (k := 45) (pc' := 27) ja_okT mJ_210 (by decide +kernel) (by decide +kernel) (by decide +kernel) (by decide) t_l1 rfl ?_
    have t8 : nk_ar ja_Tt (ja_c l1 45) = some (2, 1024) := nk_ta ja_okT t_l1 (by decide +kernel)
    refine nk_p (i := .iload_n 2) (len := 1) (pc' := 28) mJ_210 (by decide +kernel) (ns_iload_n 2 rfl rfl) rfl ?_
    refine nk_p (i := .lconst 0) (len := 1) (pc' := 29) mJ_210 (by decide +kernel) (ns_lconst (c := 0) (by decide +kernel)) rfl ?_
    obtain ⟨S9, h10, hr⟩ := nk_lte hr
    refine nk_last (len := 1) (N := 1024) (pc' := 30) mJ_210 (by decide +kernel) t8 h2.1 h2.2 rfl rfl h10 ?_
    refine nk_p (i := .aload_n 0) (len := 1) (pc' := 31) mJ_210 (by decide +kernel) (ns_aload_n 0 rfl rfl) rfl ?_
    refine nk_getC (f := (4, 3, 1024)) (x := 99) (len := 3) (ci := 13) (k := 35) (pc' := 34) ja_okT mJ_210 (by decide +kernel) (by decide +kernel) (by decide +kernel) (by decide) t_l0 rfl ?_
    have t11 : nk_ar ja_Tt (ja_c l0 35) = some (3, 1024) := nk_ta ja_okT t_l0 (by decide +kernel)
    refine nk_p (i := .iload_n 2) (len := 1) (pc' := 35) mJ_210 (by decide +kernel) (ns_iload_n 2 rfl rfl) rfl ?_
    refine nk_p (i := .iconst 0) (len := 1) (pc' := 36) mJ_210 (by decide +kernel) (ns_iconst (c := 0) (by decide +kernel)) rfl ?_
    obtain ⟨S12, h13, hr⟩ := nk_lte hr
    refine nk_zast (len := 1) (N := 1024) (pc' := 37) mJ_210 (by decide +kernel) t11 h2.1 h2.2 (by decide) rfl rfl h13 ?_
    obtain ⟨v14, h15, hr⟩ := nk_lte hr
    refine nk_p (i := .iinc 2 1) (len := 3) (pc' := 40) mJ_210 (by decide +kernel) (ns_iinc (c := 1) (L' := [(2, nk_i v14), (0, nk_r l0), (1, nk_r l1)]) 2 rfl (by decide +kernel) h15 rfl (by decide +kernel)) rfl ?_
    refine nk_p (i := .goto (-38)) (len := 3) (pc' := 2) mJ_210 (by decide +kernel) (ns_goto (by decide +kernel)) rfl ?_
    refine nk_sub [1, 2, 0] (L' := [(0, nk_r l0), (1, nk_r l1), (2, nk_i v14)]) rfl ?_
    exact hrec2 _ _ _ _ _ t_l0 t_l1 hr
noncomputable def ja_X13_prove_L2 : Nat → Nat → Nat → Int → nk_S → Option (Int × nk_S)
  | 0, _, _, _, _ => none
  | n + 1, l0, l1, l2, S => ja_X13_prove_b2 (ja_X13_prove_L2 n) l0 l1 l2 S
theorem ja_X13_prove_L2_ok (zs : List Int32) : ∀ n : Nat, ∀ (l0 : Nat) (l1 : Nat) (l2 : Int) (S : nk_S) (R : Int × nk_S), nk_cl ja_Tt l0 = some 13 → nk_cl ja_Tt l1 = some 12 → ja_X13_prove_L2 n l0 l1 l2 S = some R → nk_K ja_Tt mi_Γ (mi_ev zs) 0 210 2 [(0, nk_r l0), (1, nk_r l1), (2, nk_i l2)] [] S R := by
  intro n
  induction n with
  | zero => intro _ _ _ _ _ _ _ hr; cases hr
  | succ n ih => intro l0 l1 l2 S R t_l0 t_l1 hr; exact ja_X13_prove_b2_ok zs ih l0 l1 l2 S R t_l0 t_l1 hr
noncomputable def ja_X13_prove (l0 : Nat) (l1 : Nat) (S : nk_S) : Option (Int × nk_S) :=
  ja_X13_prove_L2 nk_big l0 l1 0 S
theorem ja_X13_prove_ok (zs : List Int32) : ∀ (l0 : Nat) (l1 : Nat) (S : nk_S) (R : Int × nk_S), nk_cl ja_Tt l0 = some 13 → nk_cl ja_Tt l1 = some 12 → ja_X13_prove l0 l1 S = some R → nk_K ja_Tt mi_Γ (mi_ev zs) 0 210 0 [(0, nk_r l0), (1, nk_r l1)] [] S R := by
  intro l0 l1 S R t_l0 t_l1 hr
  unfold ja_X13_prove at hr
  refine nk_p (i := .iconst 0) (len := 1) (pc' := 1) mJ_210 (by decide +kernel) (ns_iconst (c := 0) (by decide +kernel)) rfl ?_
  refine nk_p (i := .istore_n 2) (len := 1) (pc' := 2) mJ_210 (by decide +kernel) (ns_istore_n (L' := [(2, nk_i 0), (0, nk_r l0), (1, nk_r l1)]) rfl rfl rfl (by decide +kernel)) rfl ?_
  refine nk_sub [1, 2, 0] (L' := [(0, nk_r l0), (1, nk_r l1), (2, nk_i 0)]) rfl ?_
  exact ja_X13_prove_L2_ok zs nk_big _ _ _ _ _ t_l0 t_l1 hr
/-! SafeCodeModel load ()I -/
noncomputable def ja_X13_load (l0 : Nat) (S : nk_S) : Option (Int × nk_S) :=
  nk_bd (ja_X13_fault l0 (S.2 l0 1) S) fun r2 S3 =>
  nk_lt (nk_wi S3 l0 7 0) fun S5 =>
  if r2 ≤ 0 then
    nk_bd (ja_X13_prove l0 (S5.2 l0 1) S5) fun r8 S9 =>
    nk_lt (nk_wr S9 l0 0 (S9.2 l0 1)) fun S13 =>
    nk_lt (nk_wr S13 l0 1 (S9.2 l0 0)) fun S15 =>
    nk_lt (nk_wi S15 l0 2 1) fun S17 =>
    some (0, S17)
  else
    some (r2, S5)
theorem ja_X13_load_ok (zs : List Int32) : ∀ (l0 : Nat) (S : nk_S) (R : Int × nk_S), nk_cl ja_Tt l0 = some 13 → ja_X13_load l0 S = some R → nk_K ja_Tt mi_Γ (mi_ev zs) 1 184 0 [(0, nk_r l0)] [] S R := by
  intro l0 S R t_l0 hr
  unfold ja_X13_load at hr
  refine nk_p (i := .aload_n 0) (len := 1) (pc' := 1) mJ_184 (by decide +kernel) (ns_aload_n 0 rfl rfl) rfl ?_
  refine nk_p (i := .aload_n 0) (len := 1) (pc' := 2) mJ_184 (by decide +kernel) (ns_aload_n 0 rfl rfl) rfl ?_
  refine nk_getM (cj := 12) (z := 0) (x := 16) (len := 3) (ci := 13) (k := 1) (pc' := 5) ja_okT mJ_184 (by decide +kernel) (by decide +kernel) (by decide +kernel) t_l0 rfl (fun t1 => ?_)
  obtain ⟨r2, S3, h4, hr⟩ := nk_bde hr
  refine nk_callV (ci := 13) (n := 1) (x := 787) (len := 3) (j' := 117) (q' := 1) (r := r2) (S' := S3) (L2 := [(0, nk_r l0), (1, nk_r (S.2 l0 1))]) (rest := []) (st' := [nk_i r2]) (pc' := 8) mJ_184 (by decide +kernel) (by decide +kernel) rfl rfl t_l0 (Nat.le_of_ble_eq_true rfl) mJ_117 (Nat.le_of_ble_eq_true rfl) rfl (ja_X13_fault_ok zs _ _ _ _ t_l0 t1 h4) rfl ?_
  refine nk_p (i := .istore_n 1) (len := 1) (pc' := 9) mJ_184 (by decide +kernel) (ns_istore_n (L' := [(1, nk_i r2), (0, nk_r l0)]) rfl rfl rfl (by decide +kernel)) rfl ?_
  refine nk_p (i := .aload_n 0) (len := 1) (pc' := 10) mJ_184 (by decide +kernel) (ns_aload_n 1 rfl rfl) rfl ?_
  refine nk_p (i := .iconst 0) (len := 1) (pc' := 11) mJ_184 (by decide +kernel) (ns_iconst (c := 0) (by decide +kernel)) rfl ?_
  obtain ⟨S5, h6, hr⟩ := nk_lte hr
  refine nk_putI (y := (0, 0)) (ty := .int) (x := 152) (len := 3) (ci := 13) (k := 7) (pc' := 14) ja_okT mJ_184 (by decide +kernel) (by decide +kernel) (by decide +kernel) t_l0 (Or.inl rfl) rfl h6 ?_
  refine nk_p (i := .iload_n 1) (len := 1) (pc' := 15) mJ_184 (by decide +kernel) (ns_iload_n 0 rfl rfl) rfl ?_
  refine nk_icond (c := .le) (off := 5) (len := 3) (t := 20) (pc' := 18) mJ_184 (by decide +kernel) (by decide +kernel) rfl (fun hc => ?_) (fun hc => ?_)
  · have hr := nk_ifp (c := r2 ≤ 0) hc hr
    refine nk_p (i := .aload_n 0) (len := 1) (pc' := 21) mJ_184 (by decide +kernel) (ns_aload_n 1 rfl rfl) rfl ?_
    refine nk_p (i := .aload_n 0) (len := 1) (pc' := 22) mJ_184 (by decide +kernel) (ns_aload_n 1 rfl rfl) rfl ?_
    refine nk_getM (cj := 12) (z := 0) (x := 16) (len := 3) (ci := 13) (k := 1) (pc' := 25) ja_okT mJ_184 (by decide +kernel) (by decide +kernel) (by decide +kernel) t_l0 rfl (fun t7 => ?_)
    obtain ⟨r8, S9, h10, hr⟩ := nk_bde hr
    refine nk_callV (ci := 13) (n := 1) (x := 790) (len := 3) (j' := 210) (q' := 0) (r := r8) (S' := S9) (L2 := [(0, nk_r l0), (1, nk_r (S5.2 l0 1))]) (rest := []) (st' := []) (pc' := 28) mJ_184 (by decide +kernel) (by decide +kernel) rfl rfl t_l0 (Nat.le_of_ble_eq_true rfl) mJ_210 (Nat.le_of_ble_eq_true rfl) rfl (ja_X13_prove_ok zs _ _ _ _ t_l0 t7 h10) rfl ?_
    refine nk_p (i := .aload_n 0) (len := 1) (pc' := 29) mJ_184 (by decide +kernel) (ns_aload_n 1 rfl rfl) rfl ?_
    refine nk_getM (cj := 12) (z := 0) (x := 12) (len := 3) (ci := 13) (k := 0) (pc' := 32) ja_okT mJ_184 (by decide +kernel) (by decide +kernel) (by decide +kernel) t_l0 rfl (fun t11 => ?_)
    refine nk_p (i := .astore_n 2) (len := 1) (pc' := 33) mJ_184 (by decide +kernel) (ns_astore_n (L' := [(2, nk_r (S9.2 l0 0)), (1, nk_i r2), (0, nk_r l0)]) rfl rfl (by decide +kernel)) rfl ?_
    refine nk_p (i := .aload_n 0) (len := 1) (pc' := 34) mJ_184 (by decide +kernel) (ns_aload_n 2 rfl rfl) rfl ?_
    refine nk_p (i := .aload_n 0) (len := 1) (pc' := 35) mJ_184 (by decide +kernel) (ns_aload_n 2 rfl rfl) rfl ?_
    refine nk_getM (cj := 12) (z := 0) (x := 16) (len := 3) (ci := 13) (k := 1) (pc' := 38) ja_okT mJ_184 (by decide +kernel) (by decide +kernel) (by decide +kernel) t_l0 rfl (fun t12 => ?_)
    obtain ⟨S13, h14, hr⟩ := nk_lte hr
    refine nk_putM (cj := 12) (z := 0) (on := "SafeCodeModel$Program") (x := 12) (len := 3) (ci := 13) (k := 0) (pc' := 41) ja_okT mJ_184 (by decide +kernel) (by decide +kernel) (by decide +kernel) t_l0 t12 rfl h14 ?_
    refine nk_p (i := .aload_n 0) (len := 1) (pc' := 42) mJ_184 (by decide +kernel) (ns_aload_n 2 rfl rfl) rfl ?_
    refine nk_p (i := .aload_n 2) (len := 1) (pc' := 43) mJ_184 (by decide +kernel) (ns_aload_n 0 rfl rfl) rfl ?_
    obtain ⟨S15, h16, hr⟩ := nk_lte hr
    refine nk_putM (cj := 12) (z := 0) (on := "SafeCodeModel$Program") (x := 16) (len := 3) (ci := 13) (k := 1) (pc' := 46) ja_okT mJ_184 (by decide +kernel) (by decide +kernel) (by decide +kernel) t_l0 t11 rfl h16 ?_
    refine nk_p (i := .aload_n 0) (len := 1) (pc' := 47) mJ_184 (by decide +kernel) (ns_aload_n 2 rfl rfl) rfl ?_
    refine nk_p (i := .iconst 1) (len := 1) (pc' := 48) mJ_184 (by decide +kernel) (ns_iconst (c := 1) (by decide +kernel)) rfl ?_
    obtain ⟨S17, h18, hr⟩ := nk_lte hr
    refine nk_putI (y := (0, 0)) (ty := .boolean) (x := 794) (len := 3) (ci := 13) (k := 2) (pc' := 51) ja_okT mJ_184 (by decide +kernel) (by decide +kernel) (by decide +kernel) t_l0 (Or.inr ⟨rfl, by decide⟩) rfl h18 ?_
    refine nk_p (i := .iconst 0) (len := 1) (pc' := 52) mJ_184 (by decide +kernel) (ns_iconst (c := 0) (by decide +kernel)) rfl ?_
    cases hr
    exact nk_iret (ty := .int) (len := 1) mJ_184 (by decide +kernel) rfl (nk_nar_i _)
  · have hr := nk_ifn (c := r2 ≤ 0) hc hr
    refine nk_p (i := .iload_n 1) (len := 1) (pc' := 19) mJ_184 (by decide +kernel) (ns_iload_n 0 rfl rfl) rfl ?_
    cases hr
    exact nk_iret (ty := .int) (len := 1) mJ_184 (by decide +kernel) rfl (nk_nar_i _)
/-! SafeCodeModel low (II)I -/
noncomputable def ja_X13_low (l0 : Nat) (l1 : Int) (l2 : Int) (S : nk_S) : Option (Int × nk_S) :=
  nk_bd (ja_X13_kind l0 l1 l2 S) fun r1 S2 =>
  if r1 = 1 then
    nk_bd (ja_X13_slot l0 l1 l2 S2) fun r6 S7 =>
    if 0 ≤ r6 ∧ r6 < 20480 then
    some ((S7.1 (ja_c (S2.2 l0 0) 36) r6.toNat), S7)
    else none
  else
    some (0, S2)
theorem ja_X13_low_ok (zs : List Int32) : ∀ (l0 : Nat) (l1 : Int) (l2 : Int) (S : nk_S) (R : Int × nk_S), nk_cl ja_Tt l0 = some 13 → ja_X13_low l0 l1 l2 S = some R → nk_K ja_Tt mi_Γ (mi_ev zs) 1 188 0 [(0, nk_r l0), (1, nk_i l1), (2, nk_i l2)] [] S R := by
  intro l0 l1 l2 S R t_l0 hr
  unfold ja_X13_low at hr
  refine nk_p (i := .aload_n 0) (len := 1) (pc' := 1) mJ_188 (by decide +kernel) (ns_aload_n 0 rfl rfl) rfl ?_
  refine nk_p (i := .iload_n 1) (len := 1) (pc' := 2) mJ_188 (by decide +kernel) (ns_iload_n 1 rfl rfl) rfl ?_
  refine nk_p (i := .iload_n 2) (len := 1) (pc' := 3) mJ_188 (by decide +kernel) (ns_iload_n 2 rfl rfl) rfl ?_
  obtain ⟨r1, S2, h3, hr⟩ := nk_bde hr
  refine nk_callV (ci := 13) (n := 2) (x := 803) (len := 3) (j' := 171) (q' := 1) (r := r1) (S' := S2) (L2 := [(0, nk_r l0), (1, nk_i l1), (2, nk_i l2)]) (rest := []) (st' := [nk_i r1]) (pc' := 6) mJ_188 (by decide +kernel) (by decide +kernel) rfl rfl t_l0 (Nat.le_of_ble_eq_true rfl) mJ_171 (Nat.le_of_ble_eq_true rfl) rfl (ja_X13_kind_ok zs _ _ _ _ _ t_l0 h3) rfl ?_
  refine nk_p (i := .iconst 1) (len := 1) (pc' := 7) mJ_188 (by decide +kernel) (ns_iconst (c := 1) (by decide +kernel)) rfl ?_
  refine nk_icmp (c := .ne) (off := 20) (len := 3) (t := 27) (pc' := 10) mJ_188 (by decide +kernel) (by decide +kernel) rfl (fun hc => ?_) (fun hc => ?_)
  · have hr := nk_ifn (c := r1 = 1) hc hr
    refine nk_p (i := .iconst 0) (len := 1) (pc' := 28) mJ_188 (by decide +kernel) (ns_iconst (c := 0) (by decide +kernel)) rfl ?_
    cases hr
    exact nk_iret (ty := .int) (len := 1) mJ_188 (by decide +kernel) rfl (nk_nar_i _)
  · have hr := nk_ifp (c := r1 = 1) (Decidable.of_not_not hc) hr
    refine nk_p (i := .aload_n 0) (len := 1) (pc' := 11) mJ_188 (by decide +kernel) (ns_aload_n 0 rfl rfl) rfl ?_
    refine nk_getM (cj := 12) (z := 0) (x := 12) (len := 3) (ci := 13) (k := 0) (pc' := 14) ja_okT mJ_188 (by decide +kernel) (by decide +kernel) (by decide +kernel) t_l0 rfl (fun t4 => ?_)
    refine nk_getC (f := (4, 1, 20480)) (x := 530) (len := 3) (ci := 12) (k := 36) (pc' := 17) ja_okT mJ_188 (by decide +kernel) (by decide +kernel) (by decide +kernel) (by decide) t4 rfl ?_
    have t5 : nk_ar ja_Tt (ja_c (S2.2 l0 0) 36) = some (1, 20480) := nk_ta ja_okT t4 (by decide +kernel)
    refine nk_p (i := .aload_n 0) (len := 1) (pc' := 18) mJ_188 (by decide +kernel) (ns_aload_n 0 rfl rfl) rfl ?_
    refine nk_p (i := .iload_n 1) (len := 1) (pc' := 19) mJ_188 (by decide +kernel) (ns_iload_n 1 rfl rfl) rfl ?_
    refine nk_p (i := .iload_n 2) (len := 1) (pc' := 20) mJ_188 (by decide +kernel) (ns_iload_n 2 rfl rfl) rfl ?_
    obtain ⟨r6, S7, h8, hr⟩ := nk_bde hr
    refine nk_callV (ci := 13) (n := 2) (x := 800) (len := 3) (j' := 227) (q' := 1) (r := r6) (S' := S7) (L2 := [(0, nk_r l0), (1, nk_i l1), (2, nk_i l2)]) (rest := [nk_r (ja_c (S2.2 l0 0) 36)]) (st' := [nk_i r6, nk_r (ja_c (S2.2 l0 0) 36)]) (pc' := 23) mJ_188 (by decide +kernel) (by decide +kernel) rfl rfl t_l0 (Nat.le_of_ble_eq_true rfl) mJ_227 (Nat.le_of_ble_eq_true rfl) rfl (ja_X13_slot_ok zs _ _ _ _ _ t_l0 h8) rfl ?_
    obtain ⟨h9, hr⟩ := nk_cke hr
    refine nk_iald (len := 1) (N := 20480) (pc' := 24) mJ_188 (by decide +kernel) t5 h9.1 h9.2 rfl rfl ?_
    refine nk_p (i := .goto 4) (len := 3) (pc' := 28) mJ_188 (by decide +kernel) (ns_goto (by decide +kernel)) rfl ?_
    cases hr
    exact nk_iret (ty := .int) (len := 1) mJ_188 (by decide +kernel) rfl (nk_nar_i _)
/-! SafeCodeModel make (III)V -/
noncomputable def ja_X13_make_b220 (l0 : Nat) (l6 : Int) (S : nk_S) : Option (Int × nk_S) :=
  nk_bd (ja_X13_push l0 l6 S) fun r1 S2 =>
  nk_bd (ja_X13_next l0 S2) fun r4 S5 =>
  some (0, S5)
theorem ja_X13_make_b220_ok (zs : List Int32) : ∀ (l0 : Nat) (l6 : Int) (S : nk_S) (R : Int × nk_S), nk_cl ja_Tt l0 = some 13 → ja_X13_make_b220 l0 l6 S = some R → nk_K ja_Tt mi_Γ (mi_ev zs) 0 192 220 [(0, nk_r l0), (6, nk_l l6)] [] S R := by
  intro l0 l6 S R t_l0 hr
  unfold ja_X13_make_b220 at hr
  refine nk_p (i := .aload_n 0) (len := 1) (pc' := 221) mJ_192 (by decide +kernel) (ns_aload_n 0 rfl rfl) rfl ?_
  refine nk_p (i := .lload 6) (len := 2) (pc' := 223) mJ_192 (by decide +kernel) (ns_lload 1 rfl) rfl ?_
  obtain ⟨r1, S2, h3, hr⟩ := nk_bde hr
  refine nk_callV (ci := 13) (n := 1) (x := 882) (len := 3) (j' := 211) (q' := 0) (r := r1) (S' := S2) (L2 := [(0, nk_r l0), (1, nk_l l6)]) (rest := []) (st' := []) (pc' := 226) mJ_192 (by decide +kernel) (by decide +kernel) rfl rfl t_l0 (Nat.le_of_ble_eq_true rfl) mJ_211 (Nat.le_of_ble_eq_true rfl) rfl (ja_X13_push_ok zs _ _ _ _ t_l0 h3) rfl ?_
  refine nk_p (i := .aload_n 0) (len := 1) (pc' := 227) mJ_192 (by decide +kernel) (ns_aload_n 0 rfl rfl) rfl ?_
  obtain ⟨r4, S5, h6, hr⟩ := nk_bde hr
  refine nk_callV (ci := 13) (n := 0) (x := 899) (len := 3) (j' := 194) (q' := 0) (r := r4) (S' := S5) (L2 := [(0, nk_r l0)]) (rest := []) (st' := []) (pc' := 230) mJ_192 (by decide +kernel) (by decide +kernel) rfl rfl t_l0 (Nat.le_of_ble_eq_true rfl) mJ_194 (Nat.le_of_ble_eq_true rfl) rfl (ja_X13_next_ok zs _ _ _ t_l0 h6) rfl ?_
  cases hr
  exact nk_vret (len := 1) mJ_192 (by decide +kernel) rfl
noncomputable def ja_X13_make_b145 (rec145 : Nat → Int → Int → Int → Int → nk_S → Option (Int × nk_S)) (l0 : Nat) (l4 : Int) (l6 : Int) (l8 : Int) (l9 : Int) (S : nk_S) : Option (Int × nk_S) :=
  if (S.1 (S.2 l0 0) 1) ≤ l9 then
    ja_X13_make_b220 l0 l6 S
  else
    if 0 ≤ l9 ∧ l9 < 48 then
    if (S.1 (ja_c (S.2 l0 0) 11) l9.toNat) = 0 then
      nk_bd (ja_X13_isAtOrBelow (S.2 l0 0) (nk_w (l4 - 8)) (S.1 (ja_c (S.2 l0 0) 10) l9.toNat) S) fun r10 S11 =>
      if r10 = 0 then
        nk_lt (nk_w (l9 + 1)) fun v13 =>
        rec145 l0 l4 l6 l8 v13 S11
      else
        if 0 ≤ (nk_w (l8 + (S11.1 (ja_c (S11.2 l0 0) 12) l9.toNat))) ∧ (nk_w (l8 + (S11.1 (ja_c (S11.2 l0 0) 12) l9.toNat))) < 12000 then
        nk_lt (nk_wi S11 (ja_c l0 49) (nk_w (l8 + (S11.1 (ja_c (S11.2 l0 0) 12) l9.toNat))).toNat 0) fun S19 =>
        nk_lt (nk_w (l9 + 1)) fun v21 =>
        rec145 l0 l4 l6 l8 v21 S19
        else none
    else
      nk_lt (nk_w (l9 + 1)) fun v5 =>
      rec145 l0 l4 l6 l8 v5 S
    else none
theorem ja_X13_make_b145_ok (zs : List Int32) {rec145 : Nat → Int → Int → Int → Int → nk_S → Option (Int × nk_S)} (hrec145 : ∀ (l0 : Nat) (l4 : Int) (l6 : Int) (l8 : Int) (l9 : Int) (S : nk_S) (R : Int × nk_S), nk_cl ja_Tt l0 = some 13 → rec145 l0 l4 l6 l8 l9 S = some R → nk_K ja_Tt mi_Γ (mi_ev zs) 0 192 145 [(0, nk_r l0), (4, nk_i l4), (6, nk_l l6), (8, nk_i l8), (9, nk_i l9)] [] S R) : ∀ (l0 : Nat) (l4 : Int) (l6 : Int) (l8 : Int) (l9 : Int) (S : nk_S) (R : Int × nk_S), nk_cl ja_Tt l0 = some 13 → ja_X13_make_b145 rec145 l0 l4 l6 l8 l9 S = some R → nk_K ja_Tt mi_Γ (mi_ev zs) 0 192 145 [(0, nk_r l0), (4, nk_i l4), (6, nk_l l6), (8, nk_i l8), (9, nk_i l9)] [] S R := by
  intro l0 l4 l6 l8 l9 S R t_l0 hr
  unfold ja_X13_make_b145 at hr
  refine nk_p (i := .iload 9) (len := 2) (pc' := 147) mJ_192 (by decide +kernel) (ns_iload 4 rfl) rfl ?_
  refine nk_p (i := .aload_n 0) (len := 1) (pc' := 148) mJ_192 (by decide +kernel) (ns_aload_n 0 rfl rfl) rfl ?_
  refine nk_getM (cj := 12) (z := 0) (x := 12) (len := 3) (ci := 13) (k := 0) (pc' := 151) ja_okT mJ_192 (by decide +kernel) (by decide +kernel) (by decide +kernel) t_l0 rfl (fun t1 => ?_)
  refine nk_getI (y := (0, 0)) (x := 293) (len := 3) (ci := 12) (k := 1) (pc' := 154) ja_okT mJ_192 (by decide +kernel) (by decide +kernel) (by decide +kernel) t1 rfl ?_
  refine nk_icmp (c := .ge) (off := 66) (len := 3) (t := 220) (pc' := 157) mJ_192 (by decide +kernel) (by decide +kernel) rfl (fun hc => ?_) (fun hc => ?_)
  · have hr := nk_ifp (c := (S.1 (S.2 l0 0) 1) ≤ l9) hc hr
    refine nk_sub [0, 2] (L' := [(0, nk_r l0), (6, nk_l l6)]) rfl ?_
    exact ja_X13_make_b220_ok zs _ _ _ _ t_l0 hr
  · have hr := nk_ifn (c := (S.1 (S.2 l0 0) 1) ≤ l9) hc hr
    refine nk_p (i := .aload_n 0) (len := 1) (pc' := 158) mJ_192 (by decide +kernel) (ns_aload_n 0 rfl rfl) rfl ?_
    refine nk_getM (cj := 12) (z := 0) (x := 12) (len := 3) (ci := 13) (k := 0) (pc' := 161) ja_okT mJ_192 (by decide +kernel) (by decide +kernel) (by decide +kernel) t_l0 rfl (fun t2 => ?_)
    refine nk_getC (f := (4, 1, 48)) (x := 324) (len := 3) (ci := 12) (k := 11) (pc' := 164) ja_okT mJ_192 (by decide +kernel) (by decide +kernel) (by decide +kernel) (by decide) t2 rfl ?_
    have t3 : nk_ar ja_Tt (ja_c (S.2 l0 0) 11) = some (1, 48) := nk_ta ja_okT t2 (by decide +kernel)
    refine nk_p (i := .iload 9) (len := 2) (pc' := 166) mJ_192 (by decide +kernel) (ns_iload 4 rfl) rfl ?_
    obtain ⟨h4, hr⟩ := nk_cke hr
    refine nk_iald (len := 1) (N := 48) (pc' := 167) mJ_192 (by decide +kernel) t3 h4.1 h4.2 rfl rfl ?_
    refine nk_icond (c := .ne) (off := 47) (len := 3) (t := 214) (pc' := 170) mJ_192 (by decide +kernel) (by decide +kernel) rfl (fun hc => ?_) (fun hc => ?_)
    · have hr := nk_ifn (c := (S.1 (ja_c (S.2 l0 0) 11) l9.toNat) = 0) hc hr
      obtain ⟨v5, h6, hr⟩ := nk_lte hr
      refine nk_p (i := .iinc 9 1) (len := 3) (pc' := 217) mJ_192 (by decide +kernel) (ns_iinc (c := 1) (L' := [(9, nk_i v5), (0, nk_r l0), (4, nk_i l4), (6, nk_l l6), (8, nk_i l8)]) 4 rfl (by decide +kernel) h6 rfl (by decide +kernel)) rfl ?_
      refine nk_p (i := .goto (-72)) (len := 3) (pc' := 145) mJ_192 (by decide +kernel) (ns_goto (by decide +kernel)) rfl ?_
      refine nk_sub [1, 2, 3, 4, 0] (L' := [(0, nk_r l0), (4, nk_i l4), (6, nk_l l6), (8, nk_i l8), (9, nk_i v5)]) rfl ?_
      exact hrec145 _ _ _ _ _ _ _ t_l0 hr
    · have hr := nk_ifp (c := (S.1 (ja_c (S.2 l0 0) 11) l9.toNat) = 0) (Decidable.of_not_not hc) hr
      refine nk_p (i := .aload_n 0) (len := 1) (pc' := 171) mJ_192 (by decide +kernel) (ns_aload_n 0 rfl rfl) rfl ?_
      refine nk_getM (cj := 12) (z := 0) (x := 12) (len := 3) (ci := 13) (k := 0) (pc' := 174) ja_okT mJ_192 (by decide +kernel) (by decide +kernel) (by decide +kernel) t_l0 rfl (fun t7 => ?_)
      refine nk_p (i := .iload 4) (len := 2) (pc' := 176) mJ_192 (by decide +kernel) (ns_iload 1 rfl) rfl ?_
      refine nk_p (i := .bipush 8) (len := 2) (pc' := 178) mJ_192 (by decide +kernel) (ns_bipush (c := 8) (by decide +kernel)) rfl ?_
      refine nk_p (i := .isub) (len := 1) (pc' := 179) mJ_192 (by decide +kernel) ns_isub rfl ?_
      refine nk_p (i := .aload_n 0) (len := 1) (pc' := 180) mJ_192 (by decide +kernel) (ns_aload_n 0 rfl rfl) rfl ?_
      refine nk_getM (cj := 12) (z := 0) (x := 12) (len := 3) (ci := 13) (k := 0) (pc' := 183) ja_okT mJ_192 (by decide +kernel) (by decide +kernel) (by decide +kernel) t_l0 rfl (fun t8 => ?_)
      refine nk_getC (f := (4, 1, 48)) (x := 296) (len := 3) (ci := 12) (k := 10) (pc' := 186) ja_okT mJ_192 (by decide +kernel) (by decide +kernel) (by decide +kernel) (by decide) t8 rfl ?_
      have t9 : nk_ar ja_Tt (ja_c (S.2 l0 0) 10) = some (1, 48) := nk_ta ja_okT t8 (by decide +kernel)
      refine nk_p (i := .iload 9) (len := 2) (pc' := 188) mJ_192 (by decide +kernel) (ns_iload 4 rfl) rfl ?_
      refine nk_iald (len := 1) (N := 48) (pc' := 189) mJ_192 (by decide +kernel) t9 h4.1 h4.2 rfl rfl ?_
      obtain ⟨r10, S11, h12, hr⟩ := nk_bde hr
      refine nk_callS (ci := 0) (n := 3) (x := 299) (len := 3) (j' := 142) (q' := 1) (r := r10) (S' := S11) (L2 := [(0, nk_r (S.2 l0 0)), (1, nk_i (nk_w (l4 - 8))), (2, nk_i (S.1 (ja_c (S.2 l0 0) 10) l9.toNat))]) (rest := []) (st' := [nk_i r10]) (pc' := 192) mJ_192 (by decide +kernel) (by decide +kernel) (Nat.le_of_ble_eq_true rfl) rfl rfl (Nat.le_of_ble_eq_true rfl) mJ_142 (Nat.le_of_ble_eq_true rfl) ja_Tpos rfl (ja_X13_isAtOrBelow_ok zs _ _ _ _ _ t8 h12) rfl ?_
      refine nk_icond (c := .eq) (off := 22) (len := 3) (t := 214) (pc' := 195) mJ_192 (by decide +kernel) (by decide +kernel) rfl (fun hc => ?_) (fun hc => ?_)
      · have hr := nk_ifp (c := r10 = 0) hc hr
        obtain ⟨v13, h14, hr⟩ := nk_lte hr
        refine nk_p (i := .iinc 9 1) (len := 3) (pc' := 217) mJ_192 (by decide +kernel) (ns_iinc (c := 1) (L' := [(9, nk_i v13), (0, nk_r l0), (4, nk_i l4), (6, nk_l l6), (8, nk_i l8)]) 4 rfl (by decide +kernel) h14 rfl (by decide +kernel)) rfl ?_
        refine nk_p (i := .goto (-72)) (len := 3) (pc' := 145) mJ_192 (by decide +kernel) (ns_goto (by decide +kernel)) rfl ?_
        refine nk_sub [1, 2, 3, 4, 0] (L' := [(0, nk_r l0), (4, nk_i l4), (6, nk_l l6), (8, nk_i l8), (9, nk_i v13)]) rfl ?_
        exact hrec145 _ _ _ _ _ _ _ t_l0 hr
      · have hr := nk_ifn (c := r10 = 0) hc hr
        refine nk_p (i := .aload_n 0) (len := 1) (pc' := 196) mJ_192 (by decide +kernel) (ns_aload_n 0 rfl rfl) rfl ?_
        refine nk_getC (f := (4, 2, 12000)) (x := 126) (len := 3) (ci := 13) (k := 49) (pc' := 199) ja_okT mJ_192 (by decide +kernel) (by decide +kernel) (by decide +kernel) (by decide) t_l0 rfl ?_
        have t15 : nk_ar ja_Tt (ja_c l0 49) = some (2, 12000) := nk_ta ja_okT t_l0 (by decide +kernel)
        refine nk_p (i := .iload 8) (len := 2) (pc' := 201) mJ_192 (by decide +kernel) (ns_iload 3 rfl) rfl ?_
        refine nk_p (i := .aload_n 0) (len := 1) (pc' := 202) mJ_192 (by decide +kernel) (ns_aload_n 0 rfl rfl) rfl ?_
        refine nk_getM (cj := 12) (z := 0) (x := 12) (len := 3) (ci := 13) (k := 0) (pc' := 205) ja_okT mJ_192 (by decide +kernel) (by decide +kernel) (by decide +kernel) t_l0 rfl (fun t16 => ?_)
        refine nk_getC (f := (4, 1, 48)) (x := 447) (len := 3) (ci := 12) (k := 12) (pc' := 208) ja_okT mJ_192 (by decide +kernel) (by decide +kernel) (by decide +kernel) (by decide) t16 rfl ?_
        have t17 : nk_ar ja_Tt (ja_c (S11.2 l0 0) 12) = some (1, 48) := nk_ta ja_okT t16 (by decide +kernel)
        refine nk_p (i := .iload 9) (len := 2) (pc' := 210) mJ_192 (by decide +kernel) (ns_iload 4 rfl) rfl ?_
        refine nk_iald (len := 1) (N := 48) (pc' := 211) mJ_192 (by decide +kernel) t17 h4.1 h4.2 rfl rfl ?_
        refine nk_p (i := .iadd) (len := 1) (pc' := 212) mJ_192 (by decide +kernel) ns_iadd rfl ?_
        refine nk_p (i := .lconst 0) (len := 1) (pc' := 213) mJ_192 (by decide +kernel) (ns_lconst (c := 0) (by decide +kernel)) rfl ?_
        obtain ⟨h18, hr⟩ := nk_cke hr
        obtain ⟨S19, h20, hr⟩ := nk_lte hr
        refine nk_last (len := 1) (N := 12000) (pc' := 214) mJ_192 (by decide +kernel) t15 h18.1 h18.2 rfl rfl h20 ?_
        obtain ⟨v21, h22, hr⟩ := nk_lte hr
        refine nk_p (i := .iinc 9 1) (len := 3) (pc' := 217) mJ_192 (by decide +kernel) (ns_iinc (c := 1) (L' := [(9, nk_i v21), (0, nk_r l0), (4, nk_i l4), (6, nk_l l6), (8, nk_i l8)]) 4 rfl (by decide +kernel) h22 rfl (by decide +kernel)) rfl ?_
        refine nk_p (i := .goto (-72)) (len := 3) (pc' := 145) mJ_192 (by decide +kernel) (ns_goto (by decide +kernel)) rfl ?_
        refine nk_sub [1, 2, 3, 4, 0] (L' := [(0, nk_r l0), (4, nk_i l4), (6, nk_l l6), (8, nk_i l8), (9, nk_i v21)]) rfl ?_
        exact hrec145 _ _ _ _ _ _ _ t_l0 hr
noncomputable def ja_X13_make_L145 : Nat → Nat → Int → Int → Int → Int → nk_S → Option (Int × nk_S)
  | 0, _, _, _, _, _, _ => none
  | n + 1, l0, l4, l6, l8, l9, S => ja_X13_make_b145 (ja_X13_make_L145 n) l0 l4 l6 l8 l9 S
theorem ja_X13_make_L145_ok (zs : List Int32) : ∀ n : Nat, ∀ (l0 : Nat) (l4 : Int) (l6 : Int) (l8 : Int) (l9 : Int) (S : nk_S) (R : Int × nk_S), nk_cl ja_Tt l0 = some 13 → ja_X13_make_L145 n l0 l4 l6 l8 l9 S = some R → nk_K ja_Tt mi_Γ (mi_ev zs) 0 192 145 [(0, nk_r l0), (4, nk_i l4), (6, nk_l l6), (8, nk_i l8), (9, nk_i l9)] [] S R := by
  intro n
  induction n with
  | zero => intro _ _ _ _ _ _ _ _ hr; cases hr
  | succ n ih => intro l0 l4 l6 l8 l9 S R t_l0 hr; exact ja_X13_make_b145_ok zs ih l0 l4 l6 l8 l9 S R t_l0 hr
noncomputable def ja_X13_make_b93 (rec93 : Nat → Int → Int → Int → Int → Int → Int → nk_S → Option (Int × nk_S)) (l0 : Nat) (l1 : Int) (l4 : Int) (l5 : Int) (l6 : Int) (l8 : Int) (l9 : Int) (S : nk_S) : Option (Int × nk_S) :=
  if l5 ≤ l9 then
    if l1 = 30 then
      ja_X13_make_L145 nk_big l0 l4 l6 l8 0 S
    else
      ja_X13_make_b220 l0 l6 S
  else
    if l1 = 31 then
      if l4 = 40 then
        if 0 ≤ (nk_w (l8 + l9)) ∧ (nk_w (l8 + l9)) < 12000 then
        nk_lt (nk_wi S (ja_c l0 49) (nk_w (l8 + l9)).toNat 0) fun S13 =>
        nk_lt (nk_w (l9 + 1)) fun v15 =>
        rec93 l0 l1 l4 l5 l6 l8 v15 S13
        else none
      else
        if 0 ≤ (nk_w (l8 + l9)) ∧ (nk_w (l8 + l9)) < 12000 then
        nk_lt (nk_wi S (ja_c l0 49) (nk_w (l8 + l9)).toNat 1099511627776) fun S8 =>
        nk_lt (nk_w (l9 + 1)) fun v10 =>
        rec93 l0 l1 l4 l5 l6 l8 v10 S8
        else none
    else
      if 0 ≤ (nk_w (l8 + l9)) ∧ (nk_w (l8 + l9)) < 12000 then
      nk_lt (nk_wi S (ja_c l0 49) (nk_w (l8 + l9)).toNat 1099511627776) fun S3 =>
      nk_lt (nk_w (l9 + 1)) fun v5 =>
      rec93 l0 l1 l4 l5 l6 l8 v5 S3
      else none
theorem ja_X13_make_b93_ok (zs : List Int32) {rec93 : Nat → Int → Int → Int → Int → Int → Int → nk_S → Option (Int × nk_S)} (hrec93 : ∀ (l0 : Nat) (l1 : Int) (l4 : Int) (l5 : Int) (l6 : Int) (l8 : Int) (l9 : Int) (S : nk_S) (R : Int × nk_S), nk_cl ja_Tt l0 = some 13 → rec93 l0 l1 l4 l5 l6 l8 l9 S = some R → nk_K ja_Tt mi_Γ (mi_ev zs) 0 192 93 [(0, nk_r l0), (1, nk_i l1), (4, nk_i l4), (5, nk_i l5), (6, nk_l l6), (8, nk_i l8), (9, nk_i l9)] [] S R) : ∀ (l0 : Nat) (l1 : Int) (l4 : Int) (l5 : Int) (l6 : Int) (l8 : Int) (l9 : Int) (S : nk_S) (R : Int × nk_S), nk_cl ja_Tt l0 = some 13 → ja_X13_make_b93 rec93 l0 l1 l4 l5 l6 l8 l9 S = some R → nk_K ja_Tt mi_Γ (mi_ev zs) 0 192 93 [(0, nk_r l0), (1, nk_i l1), (4, nk_i l4), (5, nk_i l5), (6, nk_l l6), (8, nk_i l8), (9, nk_i l9)] [] S R := by
  intro l0 l1 l4 l5 l6 l8 l9 S R t_l0 hr
  unfold ja_X13_make_b93 at hr
  refine nk_p (i := .iload 9) (len := 2) (pc' := 95) mJ_192 (by decide +kernel) (ns_iload 6 rfl) rfl ?_
  refine nk_p (i := .iload 5) (len := 2) (pc' := 97) mJ_192 (by decide +kernel) (ns_iload 3 rfl) rfl ?_
  refine nk_icmp (c := .ge) (off := 39) (len := 3) (t := 136) (pc' := 100) mJ_192 (by decide +kernel) (by decide +kernel) rfl (fun hc => ?_) (fun hc => ?_)
  · have hr := nk_ifp (c := l5 ≤ l9) hc hr
    refine nk_p (i := .iload_n 1) (len := 1) (pc' := 137) mJ_192 (by decide +kernel) (ns_iload_n 1 rfl rfl) rfl ?_
    refine nk_p (i := .bipush 30) (len := 2) (pc' := 139) mJ_192 (by decide +kernel) (ns_bipush (c := 30) (by decide +kernel)) rfl ?_
    refine nk_icmp (c := .ne) (off := 81) (len := 3) (t := 220) (pc' := 142) mJ_192 (by decide +kernel) (by decide +kernel) rfl (fun hc => ?_) (fun hc => ?_)
    · have hr := nk_ifn (c := l1 = 30) hc hr
      refine nk_sub [0, 4] (L' := [(0, nk_r l0), (6, nk_l l6)]) rfl ?_
      exact ja_X13_make_b220_ok zs _ _ _ _ t_l0 hr
    · have hr := nk_ifp (c := l1 = 30) (Decidable.of_not_not hc) hr
      refine nk_p (i := .iconst 0) (len := 1) (pc' := 143) mJ_192 (by decide +kernel) (ns_iconst (c := 0) (by decide +kernel)) rfl ?_
      refine nk_p (i := .istore 9) (len := 2) (pc' := 145) mJ_192 (by decide +kernel) (ns_istore (L' := [(9, nk_i 0), (0, nk_r l0), (1, nk_i l1), (4, nk_i l4), (5, nk_i l5), (6, nk_l l6), (8, nk_i l8)]) rfl rfl (by decide +kernel)) rfl ?_
      refine nk_sub [1, 3, 5, 6, 0] (L' := [(0, nk_r l0), (4, nk_i l4), (6, nk_l l6), (8, nk_i l8), (9, nk_i 0)]) rfl ?_
      exact ja_X13_make_L145_ok zs nk_big _ _ _ _ _ _ _ t_l0 hr
  · have hr := nk_ifn (c := l5 ≤ l9) hc hr
    refine nk_p (i := .aload_n 0) (len := 1) (pc' := 101) mJ_192 (by decide +kernel) (ns_aload_n 0 rfl rfl) rfl ?_
    refine nk_getC (f := (4, 2, 12000)) (x := 126) (len := 3) (ci := 13) (k := 49) (pc' := 104) ja_okT mJ_192 (by decide +kernel) (by decide +kernel) (by decide +kernel) (by decide) t_l0 rfl ?_
    have t1 : nk_ar ja_Tt (ja_c l0 49) = some (2, 12000) := nk_ta ja_okT t_l0 (by decide +kernel)
    refine nk_p (i := .iload 8) (len := 2) (pc' := 106) mJ_192 (by decide +kernel) (ns_iload 5 rfl) rfl ?_
    refine nk_p (i := .iload 9) (len := 2) (pc' := 108) mJ_192 (by decide +kernel) (ns_iload 6 rfl) rfl ?_
    refine nk_p (i := .iadd) (len := 1) (pc' := 109) mJ_192 (by decide +kernel) ns_iadd rfl ?_
    refine nk_p (i := .iload_n 1) (len := 1) (pc' := 110) mJ_192 (by decide +kernel) (ns_iload_n 1 rfl rfl) rfl ?_
    refine nk_p (i := .bipush 31) (len := 2) (pc' := 112) mJ_192 (by decide +kernel) (ns_bipush (c := 31) (by decide +kernel)) rfl ?_
    refine nk_icmp (c := .ne) (off := 14) (len := 3) (t := 126) (pc' := 115) mJ_192 (by decide +kernel) (by decide +kernel) rfl (fun hc => ?_) (fun hc => ?_)
    · have hr := nk_ifn (c := l1 = 31) hc hr
      refine nk_ldc2 (x := 846) (len := 3) (X := 1099511627776) (v := 1099511627776) (pc' := 129) mJ_192 (by decide +kernel) (by decide +kernel) (by decide +kernel) rfl ?_
      obtain ⟨h2, hr⟩ := nk_cke hr
      obtain ⟨S3, h4, hr⟩ := nk_lte hr
      refine nk_last (len := 1) (N := 12000) (pc' := 130) mJ_192 (by decide +kernel) t1 h2.1 h2.2 rfl rfl h4 ?_
      obtain ⟨v5, h6, hr⟩ := nk_lte hr
      refine nk_p (i := .iinc 9 1) (len := 3) (pc' := 133) mJ_192 (by decide +kernel) (ns_iinc (c := 1) (L' := [(9, nk_i v5), (0, nk_r l0), (1, nk_i l1), (4, nk_i l4), (5, nk_i l5), (6, nk_l l6), (8, nk_i l8)]) 6 rfl (by decide +kernel) h6 rfl (by decide +kernel)) rfl ?_
      refine nk_p (i := .goto (-40)) (len := 3) (pc' := 93) mJ_192 (by decide +kernel) (ns_goto (by decide +kernel)) rfl ?_
      refine nk_sub [1, 2, 3, 4, 5, 6, 0] (L' := [(0, nk_r l0), (1, nk_i l1), (4, nk_i l4), (5, nk_i l5), (6, nk_l l6), (8, nk_i l8), (9, nk_i v5)]) rfl ?_
      exact hrec93 _ _ _ _ _ _ _ _ _ t_l0 hr
    · have hr := nk_ifp (c := l1 = 31) (Decidable.of_not_not hc) hr
      refine nk_p (i := .iload 4) (len := 2) (pc' := 117) mJ_192 (by decide +kernel) (ns_iload 2 rfl) rfl ?_
      refine nk_p (i := .bipush 40) (len := 2) (pc' := 119) mJ_192 (by decide +kernel) (ns_bipush (c := 40) (by decide +kernel)) rfl ?_
      refine nk_icmp (c := .ne) (off := 7) (len := 3) (t := 126) (pc' := 122) mJ_192 (by decide +kernel) (by decide +kernel) rfl (fun hc => ?_) (fun hc => ?_)
      · have hr := nk_ifn (c := l4 = 40) hc hr
        refine nk_ldc2 (x := 846) (len := 3) (X := 1099511627776) (v := 1099511627776) (pc' := 129) mJ_192 (by decide +kernel) (by decide +kernel) (by decide +kernel) rfl ?_
        obtain ⟨h7, hr⟩ := nk_cke hr
        obtain ⟨S8, h9, hr⟩ := nk_lte hr
        refine nk_last (len := 1) (N := 12000) (pc' := 130) mJ_192 (by decide +kernel) t1 h7.1 h7.2 rfl rfl h9 ?_
        obtain ⟨v10, h11, hr⟩ := nk_lte hr
        refine nk_p (i := .iinc 9 1) (len := 3) (pc' := 133) mJ_192 (by decide +kernel) (ns_iinc (c := 1) (L' := [(9, nk_i v10), (0, nk_r l0), (1, nk_i l1), (4, nk_i l4), (5, nk_i l5), (6, nk_l l6), (8, nk_i l8)]) 6 rfl (by decide +kernel) h11 rfl (by decide +kernel)) rfl ?_
        refine nk_p (i := .goto (-40)) (len := 3) (pc' := 93) mJ_192 (by decide +kernel) (ns_goto (by decide +kernel)) rfl ?_
        refine nk_sub [1, 2, 3, 4, 5, 6, 0] (L' := [(0, nk_r l0), (1, nk_i l1), (4, nk_i l4), (5, nk_i l5), (6, nk_l l6), (8, nk_i l8), (9, nk_i v10)]) rfl ?_
        exact hrec93 _ _ _ _ _ _ _ _ _ t_l0 hr
      · have hr := nk_ifp (c := l4 = 40) (Decidable.of_not_not hc) hr
        refine nk_p (i := .lconst 0) (len := 1) (pc' := 123) mJ_192 (by decide +kernel) (ns_lconst (c := 0) (by decide +kernel)) rfl ?_
        refine nk_p (i := .goto 6) (len := 3) (pc' := 129) mJ_192 (by decide +kernel) (ns_goto (by decide +kernel)) rfl ?_
        obtain ⟨h12, hr⟩ := nk_cke hr
        obtain ⟨S13, h14, hr⟩ := nk_lte hr
        refine nk_last (len := 1) (N := 12000) (pc' := 130) mJ_192 (by decide +kernel) t1 h12.1 h12.2 rfl rfl h14 ?_
        obtain ⟨v15, h16, hr⟩ := nk_lte hr
        refine nk_p (i := .iinc 9 1) (len := 3) (pc' := 133) mJ_192 (by decide +kernel) (ns_iinc (c := 1) (L' := [(9, nk_i v15), (0, nk_r l0), (1, nk_i l1), (4, nk_i l4), (5, nk_i l5), (6, nk_l l6), (8, nk_i l8)]) 6 rfl (by decide +kernel) h16 rfl (by decide +kernel)) rfl ?_
        refine nk_p (i := .goto (-40)) (len := 3) (pc' := 93) mJ_192 (by decide +kernel) (ns_goto (by decide +kernel)) rfl ?_
        refine nk_sub [1, 2, 3, 4, 5, 6, 0] (L' := [(0, nk_r l0), (1, nk_i l1), (4, nk_i l4), (5, nk_i l5), (6, nk_l l6), (8, nk_i l8), (9, nk_i v15)]) rfl ?_
        exact hrec93 _ _ _ _ _ _ _ _ _ t_l0 hr
noncomputable def ja_X13_make_L93 : Nat → Nat → Int → Int → Int → Int → Int → Int → nk_S → Option (Int × nk_S)
  | 0, _, _, _, _, _, _, _, _ => none
  | n + 1, l0, l1, l4, l5, l6, l8, l9, S => ja_X13_make_b93 (ja_X13_make_L93 n) l0 l1 l4 l5 l6 l8 l9 S
theorem ja_X13_make_L93_ok (zs : List Int32) : ∀ n : Nat, ∀ (l0 : Nat) (l1 : Int) (l4 : Int) (l5 : Int) (l6 : Int) (l8 : Int) (l9 : Int) (S : nk_S) (R : Int × nk_S), nk_cl ja_Tt l0 = some 13 → ja_X13_make_L93 n l0 l1 l4 l5 l6 l8 l9 S = some R → nk_K ja_Tt mi_Γ (mi_ev zs) 0 192 93 [(0, nk_r l0), (1, nk_i l1), (4, nk_i l4), (5, nk_i l5), (6, nk_l l6), (8, nk_i l8), (9, nk_i l9)] [] S R := by
  intro n
  induction n with
  | zero => intro _ _ _ _ _ _ _ _ _ _ hr; cases hr
  | succ n ih => intro l0 l1 l4 l5 l6 l8 l9 S R t_l0 hr; exact ja_X13_make_b93_ok zs ih l0 l1 l4 l5 l6 l8 l9 S R t_l0 hr
noncomputable def ja_X13_make_b38 (l0 : Nat) (l1 : Int) (l2 : Int) (l3 : Int) (l4 : Int) (s0 : Int) (S : nk_S) : Option (Int × nk_S) :=
  if 0 ≤ s0 then
    nk_bd (ja_J9_min_7cf53 s0 12001 S) fun r1 S2 =>
    nk_bd (ja_X13_object l0 l4 l2 r1 l3 S2) fun r4 S5 =>
    if r4 = 0 then
      some (0, S5)
    else
      nk_bd (ja_X13_objectOf r4 S5) fun r8 S9 =>
      if 0 ≤ r8 ∧ r8 < 2000 then
      nk_lt (S9.1 (ja_c l0 47) r8.toNat) fun v12 =>
      ja_X13_make_L93 nk_big l0 l1 l4 s0 r4 v12 0 S9
      else none
  else
    nk_bd (ja_X13_raise l0 2 l3 S) fun r14 S15 =>
    some (0, S15)
theorem ja_X13_make_b38_ok (zs : List Int32) : ∀ (l0 : Nat) (l1 : Int) (l2 : Int) (l3 : Int) (l4 : Int) (s0 : Int) (S : nk_S) (R : Int × nk_S), nk_cl ja_Tt l0 = some 13 → ja_X13_make_b38 l0 l1 l2 l3 l4 s0 S = some R → nk_K ja_Tt mi_Γ (mi_ev zs) 0 192 38 [(0, nk_r l0), (1, nk_i l1), (2, nk_i l2), (3, nk_i l3), (4, nk_i l4)] [nk_i s0] S R := by
  intro l0 l1 l2 l3 l4 s0 S R t_l0 hr
  unfold ja_X13_make_b38 at hr
  refine nk_p (i := .istore 5) (len := 2) (pc' := 40) mJ_192 (by decide +kernel) (ns_istore (L' := [(5, nk_i s0), (0, nk_r l0), (1, nk_i l1), (2, nk_i l2), (3, nk_i l3), (4, nk_i l4)]) rfl rfl (by decide +kernel)) rfl ?_
  refine nk_p (i := .iload 5) (len := 2) (pc' := 42) mJ_192 (by decide +kernel) (ns_iload 0 rfl) rfl ?_
  refine nk_icond (c := .ge) (off := 10) (len := 3) (t := 52) (pc' := 45) mJ_192 (by decide +kernel) (by decide +kernel) rfl (fun hc => ?_) (fun hc => ?_)
  · have hr := nk_ifp (c := 0 ≤ s0) hc hr
    refine nk_p (i := .aload_n 0) (len := 1) (pc' := 53) mJ_192 (by decide +kernel) (ns_aload_n 1 rfl rfl) rfl ?_
    refine nk_p (i := .iload 4) (len := 2) (pc' := 55) mJ_192 (by decide +kernel) (ns_iload 5 rfl) rfl ?_
    refine nk_p (i := .iload_n 2) (len := 1) (pc' := 56) mJ_192 (by decide +kernel) (ns_iload_n 3 rfl rfl) rfl ?_
    refine nk_p (i := .iload 5) (len := 2) (pc' := 58) mJ_192 (by decide +kernel) (ns_iload 0 rfl) rfl ?_
    refine nk_p (i := .sipush 12001) (len := 3) (pc' := 61) mJ_192 (by decide +kernel) (ns_sipush (c := 12001) (by decide +kernel)) rfl ?_
    obtain ⟨r1, S2, h3, hr⟩ := nk_bde hr
    refine nk_callS (ci := 0) (n := 2) (x := 551) (len := 3) (j' := 18) (q' := 1) (r := r1) (S' := S2) (L2 := [(0, nk_i s0), (1, nk_i 12001)]) (rest := [nk_i l2, nk_i l4, nk_r l0]) (st' := [nk_i r1, nk_i l2, nk_i l4, nk_r l0]) (pc' := 64) mJ_192 (by decide +kernel) (by decide +kernel) (Nat.le_of_ble_eq_true rfl) rfl rfl (Nat.le_of_ble_eq_true rfl) mJ_18 (Nat.le_of_ble_eq_true rfl) ja_Tpos rfl (ja_J9_min_7cf53_ok zs _ _ _ _ h3) rfl ?_
    refine nk_p (i := .iload_n 3) (len := 1) (pc' := 65) mJ_192 (by decide +kernel) (ns_iload_n 4 rfl rfl) rfl ?_
    obtain ⟨r4, S5, h6, hr⟩ := nk_bde hr
    refine nk_callV (ci := 13) (n := 4) (x := 874) (len := 3) (j' := 199) (q' := 2) (r := r4) (S' := S5) (L2 := [(0, nk_r l0), (1, nk_i l4), (2, nk_i l2), (3, nk_i r1), (4, nk_i l3)]) (rest := []) (st' := [nk_l r4]) (pc' := 68) mJ_192 (by decide +kernel) (by decide +kernel) rfl rfl t_l0 (Nat.le_of_ble_eq_true rfl) mJ_199 (Nat.le_of_ble_eq_true rfl) rfl (ja_X13_object_ok zs _ _ _ _ _ _ _ t_l0 h6) rfl ?_
    refine nk_p (i := .lstore 6) (len := 2) (pc' := 70) mJ_192 (by decide +kernel) (ns_lstore (L' := [(6, nk_l r4), (5, nk_i s0), (0, nk_r l0), (1, nk_i l1), (2, nk_i l2), (3, nk_i l3), (4, nk_i l4)]) rfl rfl (by decide +kernel)) rfl ?_
    refine nk_p (i := .lload 6) (len := 2) (pc' := 72) mJ_192 (by decide +kernel) (ns_lload 0 rfl) rfl ?_
    refine nk_p (i := .lconst 0) (len := 1) (pc' := 73) mJ_192 (by decide +kernel) (ns_lconst (c := 0) (by decide +kernel)) rfl ?_
    refine nk_p (i := .lcmp) (len := 1) (pc' := 74) mJ_192 (by decide +kernel) ns_lcmp rfl ?_
    refine nk_lcond (c := .ne) (off := 4) (len := 3) (t := 78) (pc' := 77) mJ_192 (by decide +kernel) (by decide +kernel) rfl (fun hc => ?_) (fun hc => ?_)
    · have hr := nk_ifn (c := r4 = 0) hc hr
      refine nk_p (i := .aload_n 0) (len := 1) (pc' := 79) mJ_192 (by decide +kernel) (ns_aload_n 2 rfl rfl) rfl ?_
      refine nk_getC (f := (4, 1, 2000)) (x := 120) (len := 3) (ci := 13) (k := 47) (pc' := 82) ja_okT mJ_192 (by decide +kernel) (by decide +kernel) (by decide +kernel) (by decide) t_l0 rfl ?_
      have t7 : nk_ar ja_Tt (ja_c l0 47) = some (1, 2000) := nk_ta ja_okT t_l0 (by decide +kernel)
      refine nk_p (i := .lload 6) (len := 2) (pc' := 84) mJ_192 (by decide +kernel) (ns_lload 0 rfl) rfl ?_
      obtain ⟨r8, S9, h10, hr⟩ := nk_bde hr
      refine nk_callS (ci := 0) (n := 1) (x := 852) (len := 3) (j' := 200) (q' := 1) (r := r8) (S' := S9) (L2 := [(0, nk_l r4)]) (rest := [nk_r (ja_c l0 47)]) (st' := [nk_i r8, nk_r (ja_c l0 47)]) (pc' := 87) mJ_192 (by decide +kernel) (by decide +kernel) (Nat.le_of_ble_eq_true rfl) rfl rfl (Nat.le_of_ble_eq_true rfl) mJ_200 (Nat.le_of_ble_eq_true rfl) ja_Tpos rfl (ja_X13_objectOf_ok zs _ _ _ h10) rfl ?_
      obtain ⟨h11, hr⟩ := nk_cke hr
      refine nk_iald (len := 1) (N := 2000) (pc' := 88) mJ_192 (by decide +kernel) t7 h11.1 h11.2 rfl rfl ?_
      obtain ⟨v12, h13, hr⟩ := nk_lte hr
      refine nk_p (i := .istore 8) (len := 2) (pc' := 90) mJ_192 (by decide +kernel) (ns_istore (L' := [(8, nk_i v12), (6, nk_l r4), (5, nk_i s0), (0, nk_r l0), (1, nk_i l1), (2, nk_i l2), (3, nk_i l3), (4, nk_i l4)]) h13 rfl (by decide +kernel)) rfl ?_
      refine nk_p (i := .iconst 0) (len := 1) (pc' := 91) mJ_192 (by decide +kernel) (ns_iconst (c := 0) (by decide +kernel)) rfl ?_
      refine nk_p (i := .istore 9) (len := 2) (pc' := 93) mJ_192 (by decide +kernel) (ns_istore (L' := [(9, nk_i 0), (8, nk_i v12), (6, nk_l r4), (5, nk_i s0), (0, nk_r l0), (1, nk_i l1), (2, nk_i l2), (3, nk_i l3), (4, nk_i l4)]) rfl rfl (by decide +kernel)) rfl ?_
      refine nk_sub [4, 5, 8, 3, 2, 1, 0] (L' := [(0, nk_r l0), (1, nk_i l1), (4, nk_i l4), (5, nk_i s0), (6, nk_l r4), (8, nk_i v12), (9, nk_i 0)]) rfl ?_
      exact ja_X13_make_L93_ok zs nk_big _ _ _ _ _ _ _ _ _ t_l0 hr
    · have hr := nk_ifp (c := r4 = 0) (Decidable.of_not_not hc) hr
      cases hr
      exact nk_vret (len := 1) mJ_192 (by decide +kernel) rfl
  · have hr := nk_ifn (c := 0 ≤ s0) hc hr
    refine nk_p (i := .aload_n 0) (len := 1) (pc' := 46) mJ_192 (by decide +kernel) (ns_aload_n 1 rfl rfl) rfl ?_
    refine nk_p (i := .iconst 2) (len := 1) (pc' := 47) mJ_192 (by decide +kernel) (ns_iconst (c := 2) (by decide +kernel)) rfl ?_
    refine nk_p (i := .iload_n 3) (len := 1) (pc' := 48) mJ_192 (by decide +kernel) (ns_iload_n 4 rfl rfl) rfl ?_
    obtain ⟨r14, S15, h16, hr⟩ := nk_bde hr
    refine nk_callV (ci := 13) (n := 2) (x := 902) (len := 3) (j' := 214) (q' := 0) (r := r14) (S' := S15) (L2 := [(0, nk_r l0), (1, nk_i 2), (2, nk_i l3)]) (rest := []) (st' := []) (pc' := 51) mJ_192 (by decide +kernel) (by decide +kernel) rfl rfl t_l0 (Nat.le_of_ble_eq_true rfl) mJ_214 (Nat.le_of_ble_eq_true rfl) rfl (ja_X13_raise_ok zs _ _ _ _ _ t_l0 h16) rfl ?_
    cases hr
    exact nk_vret (len := 1) mJ_192 (by decide +kernel) rfl
noncomputable def ja_X13_make (l0 : Nat) (l1 : Int) (l2 : Int) (l3 : Int) (S : nk_S) : Option (Int × nk_S) :=
  if 0 ≤ l2 ∧ l2 < 54 then
  nk_lt (S.1 (ja_c (S.2 l0 0) 27) l2.toNat) fun v4 =>
  if l1 = 31 then
    nk_bd (ja_X13_pop l0 S) fun r9 S10 =>
    ja_X13_make_b38 l0 l1 l2 l3 v4 (nk_w r9) S10
  else
    if 0 ≤ (nk_w (v4 - 8)) ∧ (nk_w (v4 - 8)) < 32 then
    ja_X13_make_b38 l0 l1 l2 l3 v4 (S.1 (ja_c (S.2 l0 0) 9) (nk_w (v4 - 8)).toNat) S
    else none
  else none
theorem ja_X13_make_ok (zs : List Int32) : ∀ (l0 : Nat) (l1 : Int) (l2 : Int) (l3 : Int) (S : nk_S) (R : Int × nk_S), nk_cl ja_Tt l0 = some 13 → ja_X13_make l0 l1 l2 l3 S = some R → nk_K ja_Tt mi_Γ (mi_ev zs) 0 192 0 [(0, nk_r l0), (1, nk_i l1), (2, nk_i l2), (3, nk_i l3)] [] S R := by
  intro l0 l1 l2 l3 S R t_l0 hr
  unfold ja_X13_make at hr
  refine nk_p (i := .aload_n 0) (len := 1) (pc' := 1) mJ_192 (by decide +kernel) (ns_aload_n 0 rfl rfl) rfl ?_
  refine nk_getM (cj := 12) (z := 0) (x := 12) (len := 3) (ci := 13) (k := 0) (pc' := 4) ja_okT mJ_192 (by decide +kernel) (by decide +kernel) (by decide +kernel) t_l0 rfl (fun t1 => ?_)
  refine nk_getC (f := (4, 1, 54)) (x := 432) (len := 3) (ci := 12) (k := 27) (pc' := 7) ja_okT mJ_192 (by decide +kernel) (by decide +kernel) (by decide +kernel) (by decide) t1 rfl ?_
  have t2 : nk_ar ja_Tt (ja_c (S.2 l0 0) 27) = some (1, 54) := nk_ta ja_okT t1 (by decide +kernel)
  refine nk_p (i := .iload_n 2) (len := 1) (pc' := 8) mJ_192 (by decide +kernel) (ns_iload_n 2 rfl rfl) rfl ?_
  obtain ⟨h3, hr⟩ := nk_cke hr
  refine nk_iald (len := 1) (N := 54) (pc' := 9) mJ_192 (by decide +kernel) t2 h3.1 h3.2 rfl rfl ?_
  obtain ⟨v4, h5, hr⟩ := nk_lte hr
  refine nk_p (i := .istore 4) (len := 2) (pc' := 11) mJ_192 (by decide +kernel) (ns_istore (L' := [(4, nk_i v4), (0, nk_r l0), (1, nk_i l1), (2, nk_i l2), (3, nk_i l3)]) h5 rfl (by decide +kernel)) rfl ?_
  refine nk_p (i := .iload_n 1) (len := 1) (pc' := 12) mJ_192 (by decide +kernel) (ns_iload_n 2 rfl rfl) rfl ?_
  refine nk_p (i := .bipush 31) (len := 2) (pc' := 14) mJ_192 (by decide +kernel) (ns_bipush (c := 31) (by decide +kernel)) rfl ?_
  refine nk_icmp (c := .ne) (off := 11) (len := 3) (t := 25) (pc' := 17) mJ_192 (by decide +kernel) (by decide +kernel) rfl (fun hc => ?_) (fun hc => ?_)
  · have hr := nk_ifn (c := l1 = 31) hc hr
    refine nk_p (i := .aload_n 0) (len := 1) (pc' := 26) mJ_192 (by decide +kernel) (ns_aload_n 1 rfl rfl) rfl ?_
    refine nk_getM (cj := 12) (z := 0) (x := 12) (len := 3) (ci := 13) (k := 0) (pc' := 29) ja_okT mJ_192 (by decide +kernel) (by decide +kernel) (by decide +kernel) t_l0 rfl (fun t6 => ?_)
    refine nk_getC (f := (4, 1, 32)) (x := 444) (len := 3) (ci := 12) (k := 9) (pc' := 32) ja_okT mJ_192 (by decide +kernel) (by decide +kernel) (by decide +kernel) (by decide) t6 rfl ?_
    have t7 : nk_ar ja_Tt (ja_c (S.2 l0 0) 9) = some (1, 32) := nk_ta ja_okT t6 (by decide +kernel)
    refine nk_p (i := .iload 4) (len := 2) (pc' := 34) mJ_192 (by decide +kernel) (ns_iload 0 rfl) rfl ?_
    refine nk_p (i := .bipush 8) (len := 2) (pc' := 36) mJ_192 (by decide +kernel) (ns_bipush (c := 8) (by decide +kernel)) rfl ?_
    refine nk_p (i := .isub) (len := 1) (pc' := 37) mJ_192 (by decide +kernel) ns_isub rfl ?_
    obtain ⟨h8, hr⟩ := nk_cke hr
    refine nk_iald (len := 1) (N := 32) (pc' := 38) mJ_192 (by decide +kernel) t7 h8.1 h8.2 rfl rfl ?_
    refine nk_sub [1, 2, 3, 4, 0] (L' := [(0, nk_r l0), (1, nk_i l1), (2, nk_i l2), (3, nk_i l3), (4, nk_i v4)]) rfl ?_
    exact ja_X13_make_b38_ok zs _ _ _ _ _ _ _ _ t_l0 hr
  · have hr := nk_ifp (c := l1 = 31) (Decidable.of_not_not hc) hr
    refine nk_p (i := .aload_n 0) (len := 1) (pc' := 18) mJ_192 (by decide +kernel) (ns_aload_n 1 rfl rfl) rfl ?_
    obtain ⟨r9, S10, h11, hr⟩ := nk_bde hr
    refine nk_callV (ci := 13) (n := 0) (x := 885) (len := 3) (j' := 208) (q' := 2) (r := r9) (S' := S10) (L2 := [(0, nk_r l0)]) (rest := []) (st' := [nk_l r9]) (pc' := 21) mJ_192 (by decide +kernel) (by decide +kernel) rfl rfl t_l0 (Nat.le_of_ble_eq_true rfl) mJ_208 (Nat.le_of_ble_eq_true rfl) rfl (ja_X13_pop_ok zs _ _ _ t_l0 h11) rfl ?_
    refine nk_p (i := .l2i) (len := 1) (pc' := 22) mJ_192 (by decide +kernel) ns_l2i rfl ?_
    refine nk_p (i := .goto 16) (len := 3) (pc' := 38) mJ_192 (by decide +kernel) (ns_goto (by decide +kernel)) rfl ?_
    refine nk_sub [1, 2, 3, 4, 0] (L' := [(0, nk_r l0), (1, nk_i l1), (2, nk_i l2), (3, nk_i l3), (4, nk_i v4)]) rfl ?_
    exact ja_X13_make_b38_ok zs _ _ _ _ _ _ _ _ t_l0 hr
/-! SafeCodeModel objectStep (III)V -/
noncomputable def ja_X13_objectStep_b64 (l0 : Nat) (l1 : Int) (l2 : Int) (l3 : Int) (S : nk_S) : Option (Int × nk_S) :=
  nk_bd (ja_X13_make l0 l1 l2 l3 S) fun r1 S2 =>
  some (0, S2)
theorem ja_X13_objectStep_b64_ok (zs : List Int32) : ∀ (l0 : Nat) (l1 : Int) (l2 : Int) (l3 : Int) (S : nk_S) (R : Int × nk_S), nk_cl ja_Tt l0 = some 13 → ja_X13_objectStep_b64 l0 l1 l2 l3 S = some R → nk_K ja_Tt mi_Γ (mi_ev zs) 0 201 64 [(0, nk_r l0), (1, nk_i l1), (2, nk_i l2), (3, nk_i l3)] [] S R := by
  intro l0 l1 l2 l3 S R t_l0 hr
  unfold ja_X13_objectStep_b64 at hr
  refine nk_p (i := .aload_n 0) (len := 1) (pc' := 65) mJ_201 (by decide +kernel) (ns_aload_n 0 rfl rfl) rfl ?_
  refine nk_p (i := .iload_n 1) (len := 1) (pc' := 66) mJ_201 (by decide +kernel) (ns_iload_n 1 rfl rfl) rfl ?_
  refine nk_p (i := .iload_n 2) (len := 1) (pc' := 67) mJ_201 (by decide +kernel) (ns_iload_n 2 rfl rfl) rfl ?_
  refine nk_p (i := .iload_n 3) (len := 1) (pc' := 68) mJ_201 (by decide +kernel) (ns_iload_n 3 rfl rfl) rfl ?_
  obtain ⟨r1, S2, h3, hr⟩ := nk_bde hr
  refine nk_callV (ci := 13) (n := 3) (x := 905) (len := 3) (j' := 192) (q' := 0) (r := r1) (S' := S2) (L2 := [(0, nk_r l0), (1, nk_i l1), (2, nk_i l2), (3, nk_i l3)]) (rest := []) (st' := []) (pc' := 71) mJ_201 (by decide +kernel) (by decide +kernel) rfl rfl t_l0 (Nat.le_of_ble_eq_true rfl) mJ_192 (Nat.le_of_ble_eq_true rfl) rfl (ja_X13_make_ok zs _ _ _ _ _ _ t_l0 h3) rfl ?_
  cases hr
  exact nk_vret (len := 1) mJ_201 (by decide +kernel) rfl
noncomputable def ja_X13_objectStep_b116 (l0 : Nat) (l1 : Int) (l3 : Int) (S : nk_S) : Option (Int × nk_S) :=
  nk_bd (ja_X13_elementStep l0 l1 l3 S) fun r1 S2 =>
  some (0, S2)
theorem ja_X13_objectStep_b116_ok (zs : List Int32) : ∀ (l0 : Nat) (l1 : Int) (l3 : Int) (S : nk_S) (R : Int × nk_S), nk_cl ja_Tt l0 = some 13 → ja_X13_objectStep_b116 l0 l1 l3 S = some R → nk_K ja_Tt mi_Γ (mi_ev zs) 0 201 116 [(0, nk_r l0), (1, nk_i l1), (3, nk_i l3)] [] S R := by
  intro l0 l1 l3 S R t_l0 hr
  unfold ja_X13_objectStep_b116 at hr
  refine nk_p (i := .aload_n 0) (len := 1) (pc' := 117) mJ_201 (by decide +kernel) (ns_aload_n 0 rfl rfl) rfl ?_
  refine nk_p (i := .iload_n 1) (len := 1) (pc' := 118) mJ_201 (by decide +kernel) (ns_iload_n 1 rfl rfl) rfl ?_
  refine nk_p (i := .iload_n 3) (len := 1) (pc' := 119) mJ_201 (by decide +kernel) (ns_iload_n 2 rfl rfl) rfl ?_
  obtain ⟨r1, S2, h3, hr⟩ := nk_bde hr
  refine nk_callV (ci := 13) (n := 2) (x := 908) (len := 3) (j' := 109) (q' := 0) (r := r1) (S' := S2) (L2 := [(0, nk_r l0), (1, nk_i l1), (2, nk_i l3)]) (rest := []) (st' := []) (pc' := 122) mJ_201 (by decide +kernel) (by decide +kernel) rfl rfl t_l0 (Nat.le_of_ble_eq_true rfl) mJ_109 (Nat.le_of_ble_eq_true rfl) rfl (ja_X13_elementStep_ok zs _ _ _ _ _ t_l0 h3) rfl ?_
  cases hr
  exact nk_vret (len := 1) mJ_201 (by decide +kernel) rfl
noncomputable def ja_X13_objectStep_b212 (l0 : Nat) (S : nk_S) : Option (Int × nk_S) :=
  nk_bd (ja_X13_next l0 S) fun r1 S2 =>
  some (0, S2)
theorem ja_X13_objectStep_b212_ok (zs : List Int32) : ∀ (l0 : Nat) (S : nk_S) (R : Int × nk_S), nk_cl ja_Tt l0 = some 13 → ja_X13_objectStep_b212 l0 S = some R → nk_K ja_Tt mi_Γ (mi_ev zs) 0 201 212 [(0, nk_r l0)] [] S R := by
  intro l0 S R t_l0 hr
  unfold ja_X13_objectStep_b212 at hr
  refine nk_p (i := .aload_n 0) (len := 1) (pc' := 213) mJ_201 (by decide +kernel) (ns_aload_n 0 rfl rfl) rfl ?_
  obtain ⟨r1, S2, h3, hr⟩ := nk_bde hr
  refine nk_callV (ci := 13) (n := 0) (x := 899) (len := 3) (j' := 194) (q' := 0) (r := r1) (S' := S2) (L2 := [(0, nk_r l0)]) (rest := []) (st' := []) (pc' := 216) mJ_201 (by decide +kernel) (by decide +kernel) rfl rfl t_l0 (Nat.le_of_ble_eq_true rfl) mJ_194 (Nat.le_of_ble_eq_true rfl) rfl (ja_X13_next_ok zs _ _ _ t_l0 h3) rfl ?_
  cases hr
  exact nk_vret (len := 1) mJ_201 (by decide +kernel) rfl
noncomputable def ja_X13_objectStep_b137 (l0 : Nat) (l1 : Int) (l2 : Int) (l3 : Int) (s0 : Int) (S : nk_S) : Option (Int × nk_S) :=
  nk_bd (ja_X13_pop l0 S) fun r1 S2 =>
  if r1 = 1099511627776 then
    nk_bd (ja_X13_raise l0 0 l3 S2) fun r23 S24 =>
    some (0, S24)
  else
    nk_bd (ja_X13_objectOf r1 S2) fun r5 S6 =>
    if 0 ≤ r5 ∧ r5 < 2000 then
    if 0 ≤ l2 ∧ l2 < 48 then
    nk_lt (nk_w ((S6.1 (ja_c l0 47) r5.toNat) + (S6.1 (ja_c (S6.2 l0 0) 12) l2.toNat))) fun v12 =>
    if l1 = 36 then
      if 0 ≤ v12 ∧ v12 < 12000 then
      nk_lt (nk_wi S6 (ja_c l0 49) v12.toNat s0) fun S21 =>
      ja_X13_objectStep_b212 l0 S21
      else none
    else
      if 0 ≤ v12 ∧ v12 < 12000 then
      nk_bd (ja_X13_push l0 (S6.1 (ja_c l0 49) v12.toNat) S6) fun r16 S17 =>
      ja_X13_objectStep_b212 l0 S17
      else none
    else none
    else none
theorem ja_X13_objectStep_b137_ok (zs : List Int32) : ∀ (l0 : Nat) (l1 : Int) (l2 : Int) (l3 : Int) (s0 : Int) (S : nk_S) (R : Int × nk_S), nk_cl ja_Tt l0 = some 13 → ja_X13_objectStep_b137 l0 l1 l2 l3 s0 S = some R → nk_K ja_Tt mi_Γ (mi_ev zs) 0 201 137 [(0, nk_r l0), (1, nk_i l1), (2, nk_i l2), (3, nk_i l3)] [nk_l s0] S R := by
  intro l0 l1 l2 l3 s0 S R t_l0 hr
  unfold ja_X13_objectStep_b137 at hr
  refine nk_p (i := .lstore 6) (len := 2) (pc' := 139) mJ_201 (by decide +kernel) (ns_lstore (L' := [(6, nk_l s0), (0, nk_r l0), (1, nk_i l1), (2, nk_i l2), (3, nk_i l3)]) rfl rfl (by decide +kernel)) rfl ?_
  refine nk_p (i := .aload_n 0) (len := 1) (pc' := 140) mJ_201 (by decide +kernel) (ns_aload_n 1 rfl rfl) rfl ?_
  obtain ⟨r1, S2, h3, hr⟩ := nk_bde hr
  refine nk_callV (ci := 13) (n := 0) (x := 885) (len := 3) (j' := 208) (q' := 2) (r := r1) (S' := S2) (L2 := [(0, nk_r l0)]) (rest := []) (st' := [nk_l r1]) (pc' := 143) mJ_201 (by decide +kernel) (by decide +kernel) rfl rfl t_l0 (Nat.le_of_ble_eq_true rfl) mJ_208 (Nat.le_of_ble_eq_true rfl) rfl (ja_X13_pop_ok zs _ _ _ t_l0 h3) rfl ?_
  refine nk_p (i := .lstore 8) (len := 2) (pc' := 145) mJ_201 (by decide +kernel) (ns_lstore (L' := [(8, nk_l r1), (6, nk_l s0), (0, nk_r l0), (1, nk_i l1), (2, nk_i l2), (3, nk_i l3)]) rfl rfl (by decide +kernel)) rfl ?_
  refine nk_p (i := .lload 8) (len := 2) (pc' := 147) mJ_201 (by decide +kernel) (ns_lload 0 rfl) rfl ?_
  refine nk_ldc2 (x := 846) (len := 3) (X := 1099511627776) (v := 1099511627776) (pc' := 150) mJ_201 (by decide +kernel) (by decide +kernel) (by decide +kernel) rfl ?_
  refine nk_p (i := .lcmp) (len := 1) (pc' := 151) mJ_201 (by decide +kernel) ns_lcmp rfl ?_
  refine nk_lcond (c := .ne) (off := 10) (len := 3) (t := 161) (pc' := 154) mJ_201 (by decide +kernel) (by decide +kernel) rfl (fun hc => ?_) (fun hc => ?_)
  · have hr := nk_ifn (c := r1 = 1099511627776) hc hr
    refine nk_p (i := .aload_n 0) (len := 1) (pc' := 162) mJ_201 (by decide +kernel) (ns_aload_n 2 rfl rfl) rfl ?_
    refine nk_getC (f := (4, 1, 2000)) (x := 120) (len := 3) (ci := 13) (k := 47) (pc' := 165) ja_okT mJ_201 (by decide +kernel) (by decide +kernel) (by decide +kernel) (by decide) t_l0 rfl ?_
    have t4 : nk_ar ja_Tt (ja_c l0 47) = some (1, 2000) := nk_ta ja_okT t_l0 (by decide +kernel)
    refine nk_p (i := .lload 8) (len := 2) (pc' := 167) mJ_201 (by decide +kernel) (ns_lload 0 rfl) rfl ?_
    obtain ⟨r5, S6, h7, hr⟩ := nk_bde hr
    refine nk_callS (ci := 0) (n := 1) (x := 852) (len := 3) (j' := 200) (q' := 1) (r := r5) (S' := S6) (L2 := [(0, nk_l r1)]) (rest := [nk_r (ja_c l0 47)]) (st' := [nk_i r5, nk_r (ja_c l0 47)]) (pc' := 170) mJ_201 (by decide +kernel) (by decide +kernel) (Nat.le_of_ble_eq_true rfl) rfl rfl (Nat.le_of_ble_eq_true rfl) mJ_200 (Nat.le_of_ble_eq_true rfl) ja_Tpos rfl (ja_X13_objectOf_ok zs _ _ _ h7) rfl ?_
    obtain ⟨h8, hr⟩ := nk_cke hr
    refine nk_iald (len := 1) (N := 2000) (pc' := 171) mJ_201 (by decide +kernel) t4 h8.1 h8.2 rfl rfl ?_
    refine nk_p (i := .aload_n 0) (len := 1) (pc' := 172) mJ_201 (by decide +kernel) (ns_aload_n 2 rfl rfl) rfl ?_
    refine nk_getM (cj := 12) (z := 0) (x := 12) (len := 3) (ci := 13) (k := 0) (pc' := 175) ja_okT mJ_201 (by decide +kernel) (by decide +kernel) (by decide +kernel) t_l0 rfl (fun t9 => ?_)
    refine nk_getC (f := (4, 1, 48)) (x := 447) (len := 3) (ci := 12) (k := 12) (pc' := 178) ja_okT mJ_201 (by decide +kernel) (by decide +kernel) (by decide +kernel) (by decide) t9 rfl ?_
    have t10 : nk_ar ja_Tt (ja_c (S6.2 l0 0) 12) = some (1, 48) := nk_ta ja_okT t9 (by decide +kernel)
    refine nk_p (i := .iload_n 2) (len := 1) (pc' := 179) mJ_201 (by decide +kernel) (ns_iload_n 4 rfl rfl) rfl ?_
    obtain ⟨h11, hr⟩ := nk_cke hr
    refine nk_iald (len := 1) (N := 48) (pc' := 180) mJ_201 (by decide +kernel) t10 h11.1 h11.2 rfl rfl ?_
    refine nk_p (i := .iadd) (len := 1) (pc' := 181) mJ_201 (by decide +kernel) ns_iadd rfl ?_
    obtain ⟨v12, h13, hr⟩ := nk_lte hr
    refine nk_p (i := .istore 10) (len := 2) (pc' := 183) mJ_201 (by decide +kernel) (ns_istore (L' := [(10, nk_i v12), (8, nk_l r1), (6, nk_l s0), (0, nk_r l0), (1, nk_i l1), (2, nk_i l2), (3, nk_i l3)]) h13 rfl (by decide +kernel)) rfl ?_
    refine nk_p (i := .iload_n 1) (len := 1) (pc' := 184) mJ_201 (by decide +kernel) (ns_iload_n 4 rfl rfl) rfl ?_
    refine nk_p (i := .bipush 36) (len := 2) (pc' := 186) mJ_201 (by decide +kernel) (ns_bipush (c := 36) (by decide +kernel)) rfl ?_
    refine nk_icmp (c := .ne) (off := 15) (len := 3) (t := 201) (pc' := 189) mJ_201 (by decide +kernel) (by decide +kernel) rfl (fun hc => ?_) (fun hc => ?_)
    · have hr := nk_ifn (c := l1 = 36) hc hr
      refine nk_p (i := .aload_n 0) (len := 1) (pc' := 202) mJ_201 (by decide +kernel) (ns_aload_n 3 rfl rfl) rfl ?_
      refine nk_p (i := .aload_n 0) (len := 1) (pc' := 203) mJ_201 (by decide +kernel) (ns_aload_n 3 rfl rfl) rfl ?_
      refine nk_getC (f := (4, 2, 12000)) (x := 126) (len := 3) (ci := 13) (k := 49) (pc' := 206) ja_okT mJ_201 (by decide +kernel) (by decide +kernel) (by decide +kernel) (by decide) t_l0 rfl ?_
      have t14 : nk_ar ja_Tt (ja_c l0 49) = some (2, 12000) := nk_ta ja_okT t_l0 (by decide +kernel)
      refine nk_p (i := .iload 10) (len := 2) (pc' := 208) mJ_201 (by decide +kernel) (ns_iload 0 rfl) rfl ?_
      obtain ⟨h15, hr⟩ := nk_cke hr
      refine nk_lald (len := 1) (N := 12000) (pc' := 209) mJ_201 (by decide +kernel) t14 h15.1 h15.2 rfl rfl ?_
      obtain ⟨r16, S17, h18, hr⟩ := nk_bde hr
      refine nk_callV (ci := 13) (n := 1) (x := 882) (len := 3) (j' := 211) (q' := 0) (r := r16) (S' := S17) (L2 := [(0, nk_r l0), (1, nk_l (S6.1 (ja_c l0 49) v12.toNat))]) (rest := []) (st' := []) (pc' := 212) mJ_201 (by decide +kernel) (by decide +kernel) rfl rfl t_l0 (Nat.le_of_ble_eq_true rfl) mJ_211 (Nat.le_of_ble_eq_true rfl) rfl (ja_X13_push_ok zs _ _ _ _ t_l0 h18) rfl ?_
      refine nk_sub [3] (L' := [(0, nk_r l0)]) rfl ?_
      exact ja_X13_objectStep_b212_ok zs _ _ _ t_l0 hr
    · have hr := nk_ifp (c := l1 = 36) (Decidable.of_not_not hc) hr
      refine nk_p (i := .aload_n 0) (len := 1) (pc' := 190) mJ_201 (by decide +kernel) (ns_aload_n 3 rfl rfl) rfl ?_
      refine nk_getC (f := (4, 2, 12000)) (x := 126) (len := 3) (ci := 13) (k := 49) (pc' := 193) ja_okT mJ_201 (by decide +kernel) (by decide +kernel) (by decide +kernel) (by decide) t_l0 rfl ?_
      have t19 : nk_ar ja_Tt (ja_c l0 49) = some (2, 12000) := nk_ta ja_okT t_l0 (by decide +kernel)
      refine nk_p (i := .iload 10) (len := 2) (pc' := 195) mJ_201 (by decide +kernel) (ns_iload 0 rfl) rfl ?_
      refine nk_p (i := .lload 6) (len := 2) (pc' := 197) mJ_201 (by decide +kernel) (ns_lload 2 rfl) rfl ?_
      obtain ⟨h20, hr⟩ := nk_cke hr
      obtain ⟨S21, h22, hr⟩ := nk_lte hr
      refine nk_last (len := 1) (N := 12000) (pc' := 198) mJ_201 (by decide +kernel) t19 h20.1 h20.2 rfl rfl h22 ?_
      refine nk_p (i := .goto 14) (len := 3) (pc' := 212) mJ_201 (by decide +kernel) (ns_goto (by decide +kernel)) rfl ?_
      refine nk_sub [3] (L' := [(0, nk_r l0)]) rfl ?_
      exact ja_X13_objectStep_b212_ok zs _ _ _ t_l0 hr
  · have hr := nk_ifp (c := r1 = 1099511627776) (Decidable.of_not_not hc) hr
    refine nk_p (i := .aload_n 0) (len := 1) (pc' := 155) mJ_201 (by decide +kernel) (ns_aload_n 2 rfl rfl) rfl ?_
    refine nk_p (i := .iconst 0) (len := 1) (pc' := 156) mJ_201 (by decide +kernel) (ns_iconst (c := 0) (by decide +kernel)) rfl ?_
    refine nk_p (i := .iload_n 3) (len := 1) (pc' := 157) mJ_201 (by decide +kernel) (ns_iload_n 5 rfl rfl) rfl ?_
    obtain ⟨r23, S24, h25, hr⟩ := nk_bde hr
    refine nk_callV (ci := 13) (n := 2) (x := 902) (len := 3) (j' := 214) (q' := 0) (r := r23) (S' := S24) (L2 := [(0, nk_r l0), (1, nk_i 0), (2, nk_i l3)]) (rest := []) (st' := []) (pc' := 160) mJ_201 (by decide +kernel) (by decide +kernel) rfl rfl t_l0 (Nat.le_of_ble_eq_true rfl) mJ_214 (Nat.le_of_ble_eq_true rfl) rfl (ja_X13_raise_ok zs _ _ _ _ _ t_l0 h25) rfl ?_
    cases hr
    exact nk_vret (len := 1) mJ_201 (by decide +kernel) rfl
noncomputable def ja_X13_objectStep_b123 (l0 : Nat) (l1 : Int) (l2 : Int) (l3 : Int) (S : nk_S) : Option (Int × nk_S) :=
  if l1 = 36 then
    nk_bd (ja_X13_pop l0 S) fun r1 S2 =>
    ja_X13_objectStep_b137 l0 l1 l2 l3 r1 S2
  else
    ja_X13_objectStep_b137 l0 l1 l2 l3 0 S
theorem ja_X13_objectStep_b123_ok (zs : List Int32) : ∀ (l0 : Nat) (l1 : Int) (l2 : Int) (l3 : Int) (S : nk_S) (R : Int × nk_S), nk_cl ja_Tt l0 = some 13 → ja_X13_objectStep_b123 l0 l1 l2 l3 S = some R → nk_K ja_Tt mi_Γ (mi_ev zs) 0 201 123 [(0, nk_r l0), (1, nk_i l1), (2, nk_i l2), (3, nk_i l3)] [] S R := by
  intro l0 l1 l2 l3 S R t_l0 hr
  unfold ja_X13_objectStep_b123 at hr
  refine nk_p (i := .iload_n 1) (len := 1) (pc' := 124) mJ_201 (by decide +kernel) (ns_iload_n 1 rfl rfl) rfl ?_
  refine nk_p (i := .bipush 36) (len := 2) (pc' := 126) mJ_201 (by decide +kernel) (ns_bipush (c := 36) (by decide +kernel)) rfl ?_
  refine nk_icmp (c := .ne) (off := 10) (len := 3) (t := 136) (pc' := 129) mJ_201 (by decide +kernel) (by decide +kernel) rfl (fun hc => ?_) (fun hc => ?_)
  · have hr := nk_ifn (c := l1 = 36) hc hr
    refine nk_p (i := .lconst 0) (len := 1) (pc' := 137) mJ_201 (by decide +kernel) (ns_lconst (c := 0) (by decide +kernel)) rfl ?_
    exact ja_X13_objectStep_b137_ok zs _ _ _ _ _ _ _ t_l0 hr
  · have hr := nk_ifp (c := l1 = 36) (Decidable.of_not_not hc) hr
    refine nk_p (i := .aload_n 0) (len := 1) (pc' := 130) mJ_201 (by decide +kernel) (ns_aload_n 0 rfl rfl) rfl ?_
    obtain ⟨r1, S2, h3, hr⟩ := nk_bde hr
    refine nk_callV (ci := 13) (n := 0) (x := 885) (len := 3) (j' := 208) (q' := 2) (r := r1) (S' := S2) (L2 := [(0, nk_r l0)]) (rest := []) (st' := [nk_l r1]) (pc' := 133) mJ_201 (by decide +kernel) (by decide +kernel) rfl rfl t_l0 (Nat.le_of_ble_eq_true rfl) mJ_208 (Nat.le_of_ble_eq_true rfl) rfl (ja_X13_pop_ok zs _ _ _ t_l0 h3) rfl ?_
    refine nk_p (i := .goto 4) (len := 3) (pc' := 137) mJ_201 (by decide +kernel) (ns_goto (by decide +kernel)) rfl ?_
    exact ja_X13_objectStep_b137_ok zs _ _ _ _ _ _ _ t_l0 hr
noncomputable def ja_X13_objectStep_b309 (l0 : Nat) (s0 : Nat) (s1 : Int) (S : nk_S) : Option (Int × nk_S) :=
  nk_bd (ja_X13_push s0 s1 S) fun r1 S2 =>
  nk_bd (ja_X13_next l0 S2) fun r4 S5 =>
  some (0, S5)
theorem ja_X13_objectStep_b309_ok (zs : List Int32) : ∀ (l0 : Nat) (s0 : Nat) (s1 : Int) (S : nk_S) (R : Int × nk_S), nk_cl ja_Tt l0 = some 13 → nk_cl ja_Tt s0 = some 13 → ja_X13_objectStep_b309 l0 s0 s1 S = some R → nk_K ja_Tt mi_Γ (mi_ev zs) 0 201 309 [(0, nk_r l0)] [nk_l s1, nk_r s0] S R := by
  intro l0 s0 s1 S R t_l0 t_s0 hr
  unfold ja_X13_objectStep_b309 at hr
  obtain ⟨r1, S2, h3, hr⟩ := nk_bde hr
  refine nk_callV (ci := 13) (n := 1) (x := 882) (len := 3) (j' := 211) (q' := 0) (r := r1) (S' := S2) (L2 := [(0, nk_r s0), (1, nk_l s1)]) (rest := []) (st' := []) (pc' := 312) mJ_201 (by decide +kernel) (by decide +kernel) rfl rfl t_s0 (Nat.le_of_ble_eq_true rfl) mJ_211 (Nat.le_of_ble_eq_true rfl) rfl (ja_X13_push_ok zs _ _ _ _ t_s0 h3) rfl ?_
  refine nk_p (i := .aload_n 0) (len := 1) (pc' := 313) mJ_201 (by decide +kernel) (ns_aload_n 0 rfl rfl) rfl ?_
  obtain ⟨r4, S5, h6, hr⟩ := nk_bde hr
  refine nk_callV (ci := 13) (n := 0) (x := 899) (len := 3) (j' := 194) (q' := 0) (r := r4) (S' := S5) (L2 := [(0, nk_r l0)]) (rest := []) (st' := []) (pc' := 316) mJ_201 (by decide +kernel) (by decide +kernel) rfl rfl t_l0 (Nat.le_of_ble_eq_true rfl) mJ_194 (Nat.le_of_ble_eq_true rfl) rfl (ja_X13_next_ok zs _ _ _ t_l0 h6) rfl ?_
  cases hr
  exact nk_vret (len := 1) mJ_201 (by decide +kernel) rfl
noncomputable def ja_X13_objectStep_b287 (l0 : Nat) (l1 : Int) (l11 : Int) (l13 : Int) (S : nk_S) : Option (Int × nk_S) :=
  if l1 = 37 then
    ja_X13_objectStep_b309 l0 l0 l11 S
  else
    if l13 = 0 then
      ja_X13_objectStep_b309 l0 l0 0 S
    else
      ja_X13_objectStep_b309 l0 l0 1 S
theorem ja_X13_objectStep_b287_ok (zs : List Int32) : ∀ (l0 : Nat) (l1 : Int) (l11 : Int) (l13 : Int) (S : nk_S) (R : Int × nk_S), nk_cl ja_Tt l0 = some 13 → ja_X13_objectStep_b287 l0 l1 l11 l13 S = some R → nk_K ja_Tt mi_Γ (mi_ev zs) 0 201 287 [(0, nk_r l0), (1, nk_i l1), (11, nk_l l11), (13, nk_i l13)] [] S R := by
  intro l0 l1 l11 l13 S R t_l0 hr
  unfold ja_X13_objectStep_b287 at hr
  refine nk_p (i := .aload_n 0) (len := 1) (pc' := 288) mJ_201 (by decide +kernel) (ns_aload_n 0 rfl rfl) rfl ?_
  refine nk_p (i := .iload_n 1) (len := 1) (pc' := 289) mJ_201 (by decide +kernel) (ns_iload_n 1 rfl rfl) rfl ?_
  refine nk_p (i := .bipush 37) (len := 2) (pc' := 291) mJ_201 (by decide +kernel) (ns_bipush (c := 37) (by decide +kernel)) rfl ?_
  refine nk_icmp (c := .ne) (off := 8) (len := 3) (t := 299) (pc' := 294) mJ_201 (by decide +kernel) (by decide +kernel) rfl (fun hc => ?_) (fun hc => ?_)
  · have hr := nk_ifn (c := l1 = 37) hc hr
    refine nk_p (i := .iload 13) (len := 2) (pc' := 301) mJ_201 (by decide +kernel) (ns_iload 3 rfl) rfl ?_
    refine nk_icond (c := .eq) (off := 7) (len := 3) (t := 308) (pc' := 304) mJ_201 (by decide +kernel) (by decide +kernel) rfl (fun hc => ?_) (fun hc => ?_)
    · have hr := nk_ifp (c := l13 = 0) hc hr
      refine nk_p (i := .lconst 0) (len := 1) (pc' := 309) mJ_201 (by decide +kernel) (ns_lconst (c := 0) (by decide +kernel)) rfl ?_
      refine nk_sub [0] (L' := [(0, nk_r l0)]) rfl ?_
      exact ja_X13_objectStep_b309_ok zs _ _ _ _ _ t_l0 t_l0 hr
    · have hr := nk_ifn (c := l13 = 0) hc hr
      refine nk_p (i := .lconst 1) (len := 1) (pc' := 305) mJ_201 (by decide +kernel) (ns_lconst (c := 1) (by decide +kernel)) rfl ?_
      refine nk_p (i := .goto 4) (len := 3) (pc' := 309) mJ_201 (by decide +kernel) (ns_goto (by decide +kernel)) rfl ?_
      refine nk_sub [0] (L' := [(0, nk_r l0)]) rfl ?_
      exact ja_X13_objectStep_b309_ok zs _ _ _ _ _ t_l0 t_l0 hr
  · have hr := nk_ifp (c := l1 = 37) (Decidable.of_not_not hc) hr
    refine nk_p (i := .lload 11) (len := 2) (pc' := 296) mJ_201 (by decide +kernel) (ns_lload 2 rfl) rfl ?_
    refine nk_p (i := .goto 13) (len := 3) (pc' := 309) mJ_201 (by decide +kernel) (ns_goto (by decide +kernel)) rfl ?_
    refine nk_sub [0] (L' := [(0, nk_r l0)]) rfl ?_
    exact ja_X13_objectStep_b309_ok zs _ _ _ _ _ t_l0 t_l0 hr
noncomputable def ja_X13_objectStep_b258 (l0 : Nat) (l1 : Int) (l3 : Int) (l11 : Int) (s0 : Int) (S : nk_S) : Option (Int × nk_S) :=
  if l1 = 37 then
    if l11 = 1099511627776 then
      ja_X13_objectStep_b287 l0 l1 l11 s0 S
    else
      if s0 = 0 then
        nk_bd (ja_X13_raise l0 4 l3 S) fun r1 S2 =>
        some (0, S2)
      else
        ja_X13_objectStep_b287 l0 l1 l11 s0 S
  else
    ja_X13_objectStep_b287 l0 l1 l11 s0 S
theorem ja_X13_objectStep_b258_ok (zs : List Int32) : ∀ (l0 : Nat) (l1 : Int) (l3 : Int) (l11 : Int) (s0 : Int) (S : nk_S) (R : Int × nk_S), nk_cl ja_Tt l0 = some 13 → ja_X13_objectStep_b258 l0 l1 l3 l11 s0 S = some R → nk_K ja_Tt mi_Γ (mi_ev zs) 0 201 258 [(0, nk_r l0), (1, nk_i l1), (3, nk_i l3), (11, nk_l l11)] [nk_i s0] S R := by
  intro l0 l1 l3 l11 s0 S R t_l0 hr
  unfold ja_X13_objectStep_b258 at hr
  refine nk_p (i := .istore 13) (len := 2) (pc' := 260) mJ_201 (by decide +kernel) (ns_istore (L' := [(13, nk_i s0), (0, nk_r l0), (1, nk_i l1), (3, nk_i l3), (11, nk_l l11)]) rfl rfl (by decide +kernel)) rfl ?_
  refine nk_p (i := .iload_n 1) (len := 1) (pc' := 261) mJ_201 (by decide +kernel) (ns_iload_n 2 rfl rfl) rfl ?_
  refine nk_p (i := .bipush 37) (len := 2) (pc' := 263) mJ_201 (by decide +kernel) (ns_bipush (c := 37) (by decide +kernel)) rfl ?_
  refine nk_icmp (c := .ne) (off := 24) (len := 3) (t := 287) (pc' := 266) mJ_201 (by decide +kernel) (by decide +kernel) rfl (fun hc => ?_) (fun hc => ?_)
  · have hr := nk_ifn (c := l1 = 37) hc hr
    refine nk_sub [1, 2, 4, 0] (L' := [(0, nk_r l0), (1, nk_i l1), (11, nk_l l11), (13, nk_i s0)]) rfl ?_
    exact ja_X13_objectStep_b287_ok zs _ _ _ _ _ _ t_l0 hr
  · have hr := nk_ifp (c := l1 = 37) (Decidable.of_not_not hc) hr
    refine nk_p (i := .lload 11) (len := 2) (pc' := 268) mJ_201 (by decide +kernel) (ns_lload 4 rfl) rfl ?_
    refine nk_ldc2 (x := 846) (len := 3) (X := 1099511627776) (v := 1099511627776) (pc' := 271) mJ_201 (by decide +kernel) (by decide +kernel) (by decide +kernel) rfl ?_
    refine nk_p (i := .lcmp) (len := 1) (pc' := 272) mJ_201 (by decide +kernel) ns_lcmp rfl ?_
    refine nk_lcond (c := .eq) (off := 15) (len := 3) (t := 287) (pc' := 275) mJ_201 (by decide +kernel) (by decide +kernel) rfl (fun hc => ?_) (fun hc => ?_)
    · have hr := nk_ifp (c := l11 = 1099511627776) hc hr
      refine nk_sub [1, 2, 4, 0] (L' := [(0, nk_r l0), (1, nk_i l1), (11, nk_l l11), (13, nk_i s0)]) rfl ?_
      exact ja_X13_objectStep_b287_ok zs _ _ _ _ _ _ t_l0 hr
    · have hr := nk_ifn (c := l11 = 1099511627776) hc hr
      refine nk_p (i := .iload 13) (len := 2) (pc' := 277) mJ_201 (by decide +kernel) (ns_iload 0 rfl) rfl ?_
      refine nk_icond (c := .ne) (off := 10) (len := 3) (t := 287) (pc' := 280) mJ_201 (by decide +kernel) (by decide +kernel) rfl (fun hc => ?_) (fun hc => ?_)
      · have hr := nk_ifn (c := s0 = 0) hc hr
        refine nk_sub [1, 2, 4, 0] (L' := [(0, nk_r l0), (1, nk_i l1), (11, nk_l l11), (13, nk_i s0)]) rfl ?_
        exact ja_X13_objectStep_b287_ok zs _ _ _ _ _ _ t_l0 hr
      · have hr := nk_ifp (c := s0 = 0) (Decidable.of_not_not hc) hr
        refine nk_p (i := .aload_n 0) (len := 1) (pc' := 281) mJ_201 (by decide +kernel) (ns_aload_n 1 rfl rfl) rfl ?_
        refine nk_p (i := .iconst 4) (len := 1) (pc' := 282) mJ_201 (by decide +kernel) (ns_iconst (c := 4) (by decide +kernel)) rfl ?_
        refine nk_p (i := .iload_n 3) (len := 1) (pc' := 283) mJ_201 (by decide +kernel) (ns_iload_n 3 rfl rfl) rfl ?_
        obtain ⟨r1, S2, h3, hr⟩ := nk_bde hr
        refine nk_callV (ci := 13) (n := 2) (x := 902) (len := 3) (j' := 214) (q' := 0) (r := r1) (S' := S2) (L2 := [(0, nk_r l0), (1, nk_i 4), (2, nk_i l3)]) (rest := []) (st' := []) (pc' := 286) mJ_201 (by decide +kernel) (by decide +kernel) rfl rfl t_l0 (Nat.le_of_ble_eq_true rfl) mJ_214 (Nat.le_of_ble_eq_true rfl) rfl (ja_X13_raise_ok zs _ _ _ _ _ t_l0 h3) rfl ?_
        cases hr
        exact nk_vret (len := 1) mJ_201 (by decide +kernel) rfl
noncomputable def ja_X13_objectStep_b257 (l0 : Nat) (l1 : Int) (l3 : Int) (l11 : Int) (S : nk_S) : Option (Int × nk_S) :=
  ja_X13_objectStep_b258 l0 l1 l3 l11 0 S
theorem ja_X13_objectStep_b257_ok (zs : List Int32) : ∀ (l0 : Nat) (l1 : Int) (l3 : Int) (l11 : Int) (S : nk_S) (R : Int × nk_S), nk_cl ja_Tt l0 = some 13 → ja_X13_objectStep_b257 l0 l1 l3 l11 S = some R → nk_K ja_Tt mi_Γ (mi_ev zs) 0 201 257 [(0, nk_r l0), (1, nk_i l1), (3, nk_i l3), (11, nk_l l11)] [] S R := by
  intro l0 l1 l3 l11 S R t_l0 hr
  unfold ja_X13_objectStep_b257 at hr
  refine nk_p (i := .iconst 0) (len := 1) (pc' := 258) mJ_201 (by decide +kernel) (ns_iconst (c := 0) (by decide +kernel)) rfl ?_
  exact ja_X13_objectStep_b258_ok zs _ _ _ _ _ _ _ t_l0 hr
noncomputable def ja_X13_objectStep_b217 (l0 : Nat) (l1 : Int) (l2 : Int) (l3 : Int) (S : nk_S) : Option (Int × nk_S) :=
  nk_bd (ja_X13_pop l0 S) fun r1 S2 =>
  if r1 = 1099511627776 then
    ja_X13_objectStep_b257 l0 l1 l3 r1 S2
  else
    nk_bd (ja_X13_objectOf r1 S2) fun r6 S7 =>
    if 0 ≤ r6 ∧ r6 < 2000 then
    nk_bd (ja_X13_isBelow (S2.2 l0 0) (S7.1 (ja_c l0 45) r6.toNat) l2 S7) fun r10 S11 =>
    if r10 = 0 then
      ja_X13_objectStep_b257 l0 l1 l3 r1 S11
    else
      ja_X13_objectStep_b258 l0 l1 l3 r1 1 S11
    else none
theorem ja_X13_objectStep_b217_ok (zs : List Int32) : ∀ (l0 : Nat) (l1 : Int) (l2 : Int) (l3 : Int) (S : nk_S) (R : Int × nk_S), nk_cl ja_Tt l0 = some 13 → ja_X13_objectStep_b217 l0 l1 l2 l3 S = some R → nk_K ja_Tt mi_Γ (mi_ev zs) 0 201 217 [(0, nk_r l0), (1, nk_i l1), (2, nk_i l2), (3, nk_i l3)] [] S R := by
  intro l0 l1 l2 l3 S R t_l0 hr
  unfold ja_X13_objectStep_b217 at hr
  refine nk_p (i := .aload_n 0) (len := 1) (pc' := 218) mJ_201 (by decide +kernel) (ns_aload_n 0 rfl rfl) rfl ?_
  obtain ⟨r1, S2, h3, hr⟩ := nk_bde hr
  refine nk_callV (ci := 13) (n := 0) (x := 885) (len := 3) (j' := 208) (q' := 2) (r := r1) (S' := S2) (L2 := [(0, nk_r l0)]) (rest := []) (st' := [nk_l r1]) (pc' := 221) mJ_201 (by decide +kernel) (by decide +kernel) rfl rfl t_l0 (Nat.le_of_ble_eq_true rfl) mJ_208 (Nat.le_of_ble_eq_true rfl) rfl (ja_X13_pop_ok zs _ _ _ t_l0 h3) rfl ?_
  refine nk_p (i := .lstore 11) (len := 2) (pc' := 223) mJ_201 (by decide +kernel) (ns_lstore (L' := [(11, nk_l r1), (0, nk_r l0), (1, nk_i l1), (2, nk_i l2), (3, nk_i l3)]) rfl rfl (by decide +kernel)) rfl ?_
  refine nk_p (i := .lload 11) (len := 2) (pc' := 225) mJ_201 (by decide +kernel) (ns_lload 0 rfl) rfl ?_
  refine nk_ldc2 (x := 846) (len := 3) (X := 1099511627776) (v := 1099511627776) (pc' := 228) mJ_201 (by decide +kernel) (by decide +kernel) (by decide +kernel) rfl ?_
  refine nk_p (i := .lcmp) (len := 1) (pc' := 229) mJ_201 (by decide +kernel) ns_lcmp rfl ?_
  refine nk_lcond (c := .eq) (off := 28) (len := 3) (t := 257) (pc' := 232) mJ_201 (by decide +kernel) (by decide +kernel) rfl (fun hc => ?_) (fun hc => ?_)
  · have hr := nk_ifp (c := r1 = 1099511627776) hc hr
    refine nk_sub [1, 2, 4, 0] (L' := [(0, nk_r l0), (1, nk_i l1), (3, nk_i l3), (11, nk_l r1)]) rfl ?_
    exact ja_X13_objectStep_b257_ok zs _ _ _ _ _ _ t_l0 hr
  · have hr := nk_ifn (c := r1 = 1099511627776) hc hr
    refine nk_p (i := .aload_n 0) (len := 1) (pc' := 233) mJ_201 (by decide +kernel) (ns_aload_n 1 rfl rfl) rfl ?_
    refine nk_getM (cj := 12) (z := 0) (x := 12) (len := 3) (ci := 13) (k := 0) (pc' := 236) ja_okT mJ_201 (by decide +kernel) (by decide +kernel) (by decide +kernel) t_l0 rfl (fun t4 => ?_)
    refine nk_p (i := .aload_n 0) (len := 1) (pc' := 237) mJ_201 (by decide +kernel) (ns_aload_n 1 rfl rfl) rfl ?_
    refine nk_getC (f := (4, 1, 2000)) (x := 114) (len := 3) (ci := 13) (k := 45) (pc' := 240) ja_okT mJ_201 (by decide +kernel) (by decide +kernel) (by decide +kernel) (by decide) t_l0 rfl ?_
    have t5 : nk_ar ja_Tt (ja_c l0 45) = some (1, 2000) := nk_ta ja_okT t_l0 (by decide +kernel)
    refine nk_p (i := .lload 11) (len := 2) (pc' := 242) mJ_201 (by decide +kernel) (ns_lload 0 rfl) rfl ?_
    obtain ⟨r6, S7, h8, hr⟩ := nk_bde hr
    refine nk_callS (ci := 0) (n := 1) (x := 852) (len := 3) (j' := 200) (q' := 1) (r := r6) (S' := S7) (L2 := [(0, nk_l r1)]) (rest := [nk_r (ja_c l0 45), nk_r (S2.2 l0 0)]) (st' := [nk_i r6, nk_r (ja_c l0 45), nk_r (S2.2 l0 0)]) (pc' := 245) mJ_201 (by decide +kernel) (by decide +kernel) (Nat.le_of_ble_eq_true rfl) rfl rfl (Nat.le_of_ble_eq_true rfl) mJ_200 (Nat.le_of_ble_eq_true rfl) ja_Tpos rfl (ja_X13_objectOf_ok zs _ _ _ h8) rfl ?_
    obtain ⟨h9, hr⟩ := nk_cke hr
    refine nk_iald (len := 1) (N := 2000) (pc' := 246) mJ_201 (by decide +kernel) t5 h9.1 h9.2 rfl rfl ?_
    refine nk_p (i := .iload_n 2) (len := 1) (pc' := 247) mJ_201 (by decide +kernel) (ns_iload_n 3 rfl rfl) rfl ?_
    obtain ⟨r10, S11, h12, hr⟩ := nk_bde hr
    refine nk_callS (ci := 0) (n := 3) (x := 486) (len := 3) (j' := 143) (q' := 1) (r := r10) (S' := S11) (L2 := [(0, nk_r (S2.2 l0 0)), (1, nk_i (S7.1 (ja_c l0 45) r6.toNat)), (2, nk_i l2)]) (rest := []) (st' := [nk_i r10]) (pc' := 250) mJ_201 (by decide +kernel) (by decide +kernel) (Nat.le_of_ble_eq_true rfl) rfl rfl (Nat.le_of_ble_eq_true rfl) mJ_143 (Nat.le_of_ble_eq_true rfl) ja_Tpos rfl (ja_X13_isBelow_ok zs _ _ _ _ _ t4 h12) rfl ?_
    refine nk_icond (c := .eq) (off := 7) (len := 3) (t := 257) (pc' := 253) mJ_201 (by decide +kernel) (by decide +kernel) rfl (fun hc => ?_) (fun hc => ?_)
    · have hr := nk_ifp (c := r10 = 0) hc hr
      refine nk_sub [1, 2, 4, 0] (L' := [(0, nk_r l0), (1, nk_i l1), (3, nk_i l3), (11, nk_l r1)]) rfl ?_
      exact ja_X13_objectStep_b257_ok zs _ _ _ _ _ _ t_l0 hr
    · have hr := nk_ifn (c := r10 = 0) hc hr
      refine nk_p (i := .iconst 1) (len := 1) (pc' := 254) mJ_201 (by decide +kernel) (ns_iconst (c := 1) (by decide +kernel)) rfl ?_
      refine nk_p (i := .goto 4) (len := 3) (pc' := 258) mJ_201 (by decide +kernel) (ns_goto (by decide +kernel)) rfl ?_
      refine nk_sub [1, 2, 4, 0] (L' := [(0, nk_r l0), (1, nk_i l1), (3, nk_i l3), (11, nk_l r1)]) rfl ?_
      exact ja_X13_objectStep_b258_ok zs _ _ _ _ _ _ _ t_l0 hr
noncomputable def ja_X13_objectStep_b317 (l0 : Nat) (l1 : Int) (l2 : Int) (l3 : Int) (S : nk_S) : Option (Int × nk_S) :=
  nk_bd (ja_X13_callStep l0 l1 l2 l3 S) fun r1 S2 =>
  some (0, S2)
theorem ja_X13_objectStep_b317_ok (zs : List Int32) : ∀ (l0 : Nat) (l1 : Int) (l2 : Int) (l3 : Int) (S : nk_S) (R : Int × nk_S), nk_cl ja_Tt l0 = some 13 → ja_X13_objectStep_b317 l0 l1 l2 l3 S = some R → nk_K ja_Tt mi_Γ (mi_ev zs) 0 201 317 [(0, nk_r l0), (1, nk_i l1), (2, nk_i l2), (3, nk_i l3)] [] S R := by
  intro l0 l1 l2 l3 S R t_l0 hr
  unfold ja_X13_objectStep_b317 at hr
  refine nk_p (i := .aload_n 0) (len := 1) (pc' := 318) mJ_201 (by decide +kernel) (ns_aload_n 0 rfl rfl) rfl ?_
  refine nk_p (i := .iload_n 1) (len := 1) (pc' := 319) mJ_201 (by decide +kernel) (ns_iload_n 1 rfl rfl) rfl ?_
  refine nk_p (i := .iload_n 2) (len := 1) (pc' := 320) mJ_201 (by decide +kernel) (ns_iload_n 2 rfl rfl) rfl ?_
  refine nk_p (i := .iload_n 3) (len := 1) (pc' := 321) mJ_201 (by decide +kernel) (ns_iload_n 3 rfl rfl) rfl ?_
  obtain ⟨r1, S2, h3, hr⟩ := nk_bde hr
  refine nk_callV (ci := 13) (n := 3) (x := 911) (len := 3) (j' := 94) (q' := 0) (r := r1) (S' := S2) (L2 := [(0, nk_r l0), (1, nk_i l1), (2, nk_i l2), (3, nk_i l3)]) (rest := []) (st' := []) (pc' := 324) mJ_201 (by decide +kernel) (by decide +kernel) rfl rfl t_l0 (Nat.le_of_ble_eq_true rfl) mJ_94 (Nat.le_of_ble_eq_true rfl) rfl (ja_X13_callStep_ok zs _ _ _ _ _ _ t_l0 h3) rfl ?_
  cases hr
  exact nk_vret (len := 1) mJ_201 (by decide +kernel) rfl
noncomputable def ja_X13_objectStep_b369 (l0 : Nat) (l3 : Int) (l14 : Int) (S : nk_S) : Option (Int × nk_S) :=
  nk_bd (ja_X13_toss l0 l14 l3 S) fun r1 S2 =>
  some (0, S2)
theorem ja_X13_objectStep_b369_ok (zs : List Int32) : ∀ (l0 : Nat) (l3 : Int) (l14 : Int) (S : nk_S) (R : Int × nk_S), nk_cl ja_Tt l0 = some 13 → ja_X13_objectStep_b369 l0 l3 l14 S = some R → nk_K ja_Tt mi_Γ (mi_ev zs) 0 201 369 [(0, nk_r l0), (3, nk_i l3), (14, nk_l l14)] [] S R := by
  intro l0 l3 l14 S R t_l0 hr
  unfold ja_X13_objectStep_b369 at hr
  refine nk_p (i := .aload_n 0) (len := 1) (pc' := 370) mJ_201 (by decide +kernel) (ns_aload_n 0 rfl rfl) rfl ?_
  refine nk_p (i := .lload 14) (len := 2) (pc' := 372) mJ_201 (by decide +kernel) (ns_lload 2 rfl) rfl ?_
  refine nk_p (i := .iload_n 3) (len := 1) (pc' := 373) mJ_201 (by decide +kernel) (ns_iload_n 1 rfl rfl) rfl ?_
  obtain ⟨r1, S2, h3, hr⟩ := nk_bde hr
  refine nk_callV (ci := 13) (n := 2) (x := 878) (len := 3) (j' := 235) (q' := 0) (r := r1) (S' := S2) (L2 := [(0, nk_r l0), (1, nk_l l14), (3, nk_i l3)]) (rest := []) (st' := []) (pc' := 376) mJ_201 (by decide +kernel) (by decide +kernel) rfl rfl t_l0 (Nat.le_of_ble_eq_true rfl) mJ_235 (Nat.le_of_ble_eq_true rfl) rfl (ja_X13_toss_ok zs _ _ _ _ _ t_l0 h3) rfl ?_
  cases hr
  exact nk_vret (len := 1) mJ_201 (by decide +kernel) rfl
noncomputable def ja_X13_objectStep_b430 (l0 : Nat) (S : nk_S) : Option (Int × nk_S) :=
  nk_bd (ja_X13_next l0 S) fun r1 S2 =>
  some (0, S2)
theorem ja_X13_objectStep_b430_ok (zs : List Int32) : ∀ (l0 : Nat) (S : nk_S) (R : Int × nk_S), nk_cl ja_Tt l0 = some 13 → ja_X13_objectStep_b430 l0 S = some R → nk_K ja_Tt mi_Γ (mi_ev zs) 0 201 430 [(0, nk_r l0)] [] S R := by
  intro l0 S R t_l0 hr
  unfold ja_X13_objectStep_b430 at hr
  refine nk_p (i := .aload_n 0) (len := 1) (pc' := 431) mJ_201 (by decide +kernel) (ns_aload_n 0 rfl rfl) rfl ?_
  obtain ⟨r1, S2, h3, hr⟩ := nk_bde hr
  refine nk_callV (ci := 13) (n := 0) (x := 899) (len := 3) (j' := 194) (q' := 0) (r := r1) (S' := S2) (L2 := [(0, nk_r l0)]) (rest := []) (st' := []) (pc' := 434) mJ_201 (by decide +kernel) (by decide +kernel) rfl rfl t_l0 (Nat.le_of_ble_eq_true rfl) mJ_194 (Nat.le_of_ble_eq_true rfl) rfl (ja_X13_next_ok zs _ _ _ t_l0 h3) rfl ?_
  cases hr
  exact nk_vret (len := 1) mJ_201 (by decide +kernel) rfl
noncomputable def ja_X13_objectStep_b391 (l0 : Nat) (l1 : Int) (l3 : Int) (s0 : Int) (S : nk_S) : Option (Int × nk_S) :=
  if (S.1 l0 52) = 1 then
    nk_bd (ja_X13_ended l0 0 l3 S) fun r6 S7 =>
    some (0, S7)
  else
    nk_lt (nk_wi S l0 52 (nk_w ((S.1 l0 52) - 1))) fun S1 =>
    if l1 = 42 then
      nk_bd (ja_X13_push l0 s0 S1) fun r3 S4 =>
      ja_X13_objectStep_b430 l0 S4
    else
      ja_X13_objectStep_b430 l0 S1
theorem ja_X13_objectStep_b391_ok (zs : List Int32) : ∀ (l0 : Nat) (l1 : Int) (l3 : Int) (s0 : Int) (S : nk_S) (R : Int × nk_S), nk_cl ja_Tt l0 = some 13 → ja_X13_objectStep_b391 l0 l1 l3 s0 S = some R → nk_K ja_Tt mi_Γ (mi_ev zs) 0 201 391 [(0, nk_r l0), (1, nk_i l1), (3, nk_i l3)] [nk_l s0] S R := by
  intro l0 l1 l3 s0 S R t_l0 hr
  unfold ja_X13_objectStep_b391 at hr
  refine nk_p (i := .lstore 16) (len := 2) (pc' := 393) mJ_201 (by decide +kernel) (ns_lstore (L' := [(16, nk_l s0), (0, nk_r l0), (1, nk_i l1), (3, nk_i l3)]) rfl rfl (by decide +kernel)) rfl ?_
  refine nk_p (i := .aload_n 0) (len := 1) (pc' := 394) mJ_201 (by decide +kernel) (ns_aload_n 1 rfl rfl) rfl ?_
  refine nk_getI (y := (0, 0)) (x := 823) (len := 3) (ci := 13) (k := 52) (pc' := 397) ja_okT mJ_201 (by decide +kernel) (by decide +kernel) (by decide +kernel) t_l0 rfl ?_
  refine nk_p (i := .iconst 1) (len := 1) (pc' := 398) mJ_201 (by decide +kernel) (ns_iconst (c := 1) (by decide +kernel)) rfl ?_
  refine nk_icmp (c := .ne) (off := 10) (len := 3) (t := 408) (pc' := 401) mJ_201 (by decide +kernel) (by decide +kernel) rfl (fun hc => ?_) (fun hc => ?_)
  · have hr := nk_ifn (c := (S.1 l0 52) = 1) hc hr
    refine nk_p (i := .aload_n 0) (len := 1) (pc' := 409) mJ_201 (by decide +kernel) (ns_aload_n 1 rfl rfl) rfl ?_
    refine nk_p (i := .dup) (len := 1) (pc' := 410) mJ_201 (by decide +kernel) (ns_dup rfl) rfl ?_
    refine nk_getI (y := (0, 0)) (x := 823) (len := 3) (ci := 13) (k := 52) (pc' := 413) ja_okT mJ_201 (by decide +kernel) (by decide +kernel) (by decide +kernel) t_l0 rfl ?_
    refine nk_p (i := .iconst 1) (len := 1) (pc' := 414) mJ_201 (by decide +kernel) (ns_iconst (c := 1) (by decide +kernel)) rfl ?_
    refine nk_p (i := .isub) (len := 1) (pc' := 415) mJ_201 (by decide +kernel) ns_isub rfl ?_
    obtain ⟨S1, h2, hr⟩ := nk_lte hr
    refine nk_putI (y := (0, 0)) (ty := .int) (x := 823) (len := 3) (ci := 13) (k := 52) (pc' := 418) ja_okT mJ_201 (by decide +kernel) (by decide +kernel) (by decide +kernel) t_l0 (Or.inl rfl) rfl h2 ?_
    refine nk_p (i := .iload_n 1) (len := 1) (pc' := 419) mJ_201 (by decide +kernel) (ns_iload_n 2 rfl rfl) rfl ?_
    refine nk_p (i := .bipush 42) (len := 2) (pc' := 421) mJ_201 (by decide +kernel) (ns_bipush (c := 42) (by decide +kernel)) rfl ?_
    refine nk_icmp (c := .ne) (off := 9) (len := 3) (t := 430) (pc' := 424) mJ_201 (by decide +kernel) (by decide +kernel) rfl (fun hc => ?_) (fun hc => ?_)
    · have hr := nk_ifn (c := l1 = 42) hc hr
      refine nk_sub [1] (L' := [(0, nk_r l0)]) rfl ?_
      exact ja_X13_objectStep_b430_ok zs _ _ _ t_l0 hr
    · have hr := nk_ifp (c := l1 = 42) (Decidable.of_not_not hc) hr
      refine nk_p (i := .aload_n 0) (len := 1) (pc' := 425) mJ_201 (by decide +kernel) (ns_aload_n 1 rfl rfl) rfl ?_
      refine nk_p (i := .lload 16) (len := 2) (pc' := 427) mJ_201 (by decide +kernel) (ns_lload 0 rfl) rfl ?_
      obtain ⟨r3, S4, h5, hr⟩ := nk_bde hr
      refine nk_callV (ci := 13) (n := 1) (x := 882) (len := 3) (j' := 211) (q' := 0) (r := r3) (S' := S4) (L2 := [(0, nk_r l0), (1, nk_l s0)]) (rest := []) (st' := []) (pc' := 430) mJ_201 (by decide +kernel) (by decide +kernel) rfl rfl t_l0 (Nat.le_of_ble_eq_true rfl) mJ_211 (Nat.le_of_ble_eq_true rfl) rfl (ja_X13_push_ok zs _ _ _ _ t_l0 h5) rfl ?_
      refine nk_sub [1] (L' := [(0, nk_r l0)]) rfl ?_
      exact ja_X13_objectStep_b430_ok zs _ _ _ t_l0 hr
  · have hr := nk_ifp (c := (S.1 l0 52) = 1) (Decidable.of_not_not hc) hr
    refine nk_p (i := .aload_n 0) (len := 1) (pc' := 402) mJ_201 (by decide +kernel) (ns_aload_n 1 rfl rfl) rfl ?_
    refine nk_p (i := .iconst 0) (len := 1) (pc' := 403) mJ_201 (by decide +kernel) (ns_iconst (c := 0) (by decide +kernel)) rfl ?_
    refine nk_p (i := .iload_n 3) (len := 1) (pc' := 404) mJ_201 (by decide +kernel) (ns_iload_n 3 rfl rfl) rfl ?_
    obtain ⟨r6, S7, h8, hr⟩ := nk_bde hr
    refine nk_callV (ci := 13) (n := 2) (x := 871) (len := 3) (j' := 111) (q' := 0) (r := r6) (S' := S7) (L2 := [(0, nk_r l0), (1, nk_i 0), (2, nk_i l3)]) (rest := []) (st' := []) (pc' := 407) mJ_201 (by decide +kernel) (by decide +kernel) rfl rfl t_l0 (Nat.le_of_ble_eq_true rfl) mJ_111 (Nat.le_of_ble_eq_true rfl) rfl (ja_X13_ended_ok zs _ _ _ _ _ t_l0 h8) rfl ?_
    cases hr
    exact nk_vret (len := 1) mJ_201 (by decide +kernel) rfl
noncomputable def ja_X13_objectStep (l0 : Nat) (l1 : Int) (l2 : Int) (l3 : Int) (S : nk_S) : Option (Int × nk_S) :=
  if l1 = 30 then
    ja_X13_objectStep_b64 l0 l1 l2 l3 S
  else
  if l1 = 31 then
    ja_X13_objectStep_b64 l0 l1 l2 l3 S
  else
  if l1 = 32 then
    nk_bd (ja_X13_pop l0 S) fun r1 S2 =>
    if r1 = 1099511627776 then
      nk_bd (ja_X13_raise l0 0 l3 S2) fun r15 S16 =>
      some (0, S16)
    else
      nk_bd (ja_X13_objectOf r1 S2) fun r5 S6 =>
      if 0 ≤ r5 ∧ r5 < 2000 then
      nk_bd (ja_X13_push l0 (S6.1 (ja_c l0 48) r5.toNat) S6) fun r9 S10 =>
      nk_bd (ja_X13_next l0 S10) fun r12 S13 =>
      some (0, S13)
      else none
  else
  if l1 = 33 then
    ja_X13_objectStep_b116 l0 l1 l3 S
  else
  if l1 = 34 then
    ja_X13_objectStep_b116 l0 l1 l3 S
  else
  if l1 = 35 then
    ja_X13_objectStep_b123 l0 l1 l2 l3 S
  else
  if l1 = 36 then
    ja_X13_objectStep_b123 l0 l1 l2 l3 S
  else
  if l1 = 37 then
    ja_X13_objectStep_b217 l0 l1 l2 l3 S
  else
  if l1 = 38 then
    ja_X13_objectStep_b217 l0 l1 l2 l3 S
  else
  if l1 = 39 then
    ja_X13_objectStep_b317 l0 l1 l2 l3 S
  else
  if l1 = 40 then
    ja_X13_objectStep_b317 l0 l1 l2 l3 S
  else
  if l1 = 41 then
    nk_bd (ja_X13_pop l0 S) fun r18 S19 =>
    if r18 = 1099511627776 then
      nk_bd (ja_X13_raise l0 0 l3 S19) fun r26 S27 =>
      some (0, S27)
    else
      if 0 ≤ l3 ∧ l3 < 1024 then
      if (nk_iand (S19.1 (ja_c (S19.2 l0 0) 44) l3.toNat) 64) = 0 then
        nk_lt (nk_wi S19 l0 63 1) fun S24 =>
        ja_X13_objectStep_b369 l0 l3 r18 S24
      else
        ja_X13_objectStep_b369 l0 l3 r18 S19
      else none
  else
  if l1 = 42 then
    nk_bd (ja_X13_pop l0 S) fun r29 S30 =>
    ja_X13_objectStep_b391 l0 l1 l3 r29 S30
  else
    ja_X13_objectStep_b391 l0 l1 l3 0 S
theorem ja_X13_objectStep_ok (zs : List Int32) : ∀ (l0 : Nat) (l1 : Int) (l2 : Int) (l3 : Int) (S : nk_S) (R : Int × nk_S), nk_cl ja_Tt l0 = some 13 → ja_X13_objectStep l0 l1 l2 l3 S = some R → nk_K ja_Tt mi_Γ (mi_ev zs) 0 201 0 [(0, nk_r l0), (1, nk_i l1), (2, nk_i l2), (3, nk_i l3)] [] S R := by
  intro l0 l1 l2 l3 S R t_l0 hr
  unfold ja_X13_objectStep at hr
  refine nk_p (i := .iload_n 1) (len := 1) (pc' := 1) mJ_201 (by decide +kernel) (ns_iload_n 1 rfl rfl) rfl ?_
  by_cases hc0 : l1 = 30
  · have hr := nk_ifp hc0 hr
    refine nk_p (i := .tableswitch 376 30 41 #[63, 63, 71, 115, 115, 122, 122, 216, 216, 316, 316, 324]) (len := 63) (pc' := 64) mJ_201 (by decide +kernel) (ns_tsw (V := 30) hc0 (by decide +kernel)) rfl ?_
    exact ja_X13_objectStep_b64_ok zs _ _ _ _ _ _ t_l0 hr
  have hr := nk_ifn hc0 hr
  by_cases hc1 : l1 = 31
  · have hr := nk_ifp hc1 hr
    refine nk_p (i := .tableswitch 376 30 41 #[63, 63, 71, 115, 115, 122, 122, 216, 216, 316, 316, 324]) (len := 63) (pc' := 64) mJ_201 (by decide +kernel) (ns_tsw (V := 31) hc1 (by decide +kernel)) rfl ?_
    exact ja_X13_objectStep_b64_ok zs _ _ _ _ _ _ t_l0 hr
  have hr := nk_ifn hc1 hr
  by_cases hc2 : l1 = 32
  · have hr := nk_ifp hc2 hr
    refine nk_p (i := .tableswitch 376 30 41 #[63, 63, 71, 115, 115, 122, 122, 216, 216, 316, 316, 324]) (len := 63) (pc' := 72) mJ_201 (by decide +kernel) (ns_tsw (V := 32) hc2 (by decide +kernel)) rfl ?_
    refine nk_p (i := .aload_n 0) (len := 1) (pc' := 73) mJ_201 (by decide +kernel) (ns_aload_n 0 rfl rfl) rfl ?_
    obtain ⟨r1, S2, h3, hr⟩ := nk_bde hr
    refine nk_callV (ci := 13) (n := 0) (x := 885) (len := 3) (j' := 208) (q' := 2) (r := r1) (S' := S2) (L2 := [(0, nk_r l0)]) (rest := []) (st' := [nk_l r1]) (pc' := 76) mJ_201 (by decide +kernel) (by decide +kernel) rfl rfl t_l0 (Nat.le_of_ble_eq_true rfl) mJ_208 (Nat.le_of_ble_eq_true rfl) rfl (ja_X13_pop_ok zs _ _ _ t_l0 h3) rfl ?_
    refine nk_p (i := .lstore 4) (len := 2) (pc' := 78) mJ_201 (by decide +kernel) (ns_lstore (L' := [(4, nk_l r1), (0, nk_r l0), (1, nk_i l1), (2, nk_i l2), (3, nk_i l3)]) rfl rfl (by decide +kernel)) rfl ?_
    refine nk_p (i := .lload 4) (len := 2) (pc' := 80) mJ_201 (by decide +kernel) (ns_lload 0 rfl) rfl ?_
    refine nk_ldc2 (x := 846) (len := 3) (X := 1099511627776) (v := 1099511627776) (pc' := 83) mJ_201 (by decide +kernel) (by decide +kernel) (by decide +kernel) rfl ?_
    refine nk_p (i := .lcmp) (len := 1) (pc' := 84) mJ_201 (by decide +kernel) ns_lcmp rfl ?_
    refine nk_lcond (c := .ne) (off := 12) (len := 3) (t := 96) (pc' := 87) mJ_201 (by decide +kernel) (by decide +kernel) rfl (fun hc => ?_) (fun hc => ?_)
    · have hr := nk_ifn (c := r1 = 1099511627776) hc hr
      refine nk_p (i := .aload_n 0) (len := 1) (pc' := 97) mJ_201 (by decide +kernel) (ns_aload_n 1 rfl rfl) rfl ?_
      refine nk_p (i := .aload_n 0) (len := 1) (pc' := 98) mJ_201 (by decide +kernel) (ns_aload_n 1 rfl rfl) rfl ?_
      refine nk_getC (f := (4, 1, 2000)) (x := 123) (len := 3) (ci := 13) (k := 48) (pc' := 101) ja_okT mJ_201 (by decide +kernel) (by decide +kernel) (by decide +kernel) (by decide) t_l0 rfl ?_
      have t4 : nk_ar ja_Tt (ja_c l0 48) = some (1, 2000) := nk_ta ja_okT t_l0 (by decide +kernel)
      refine nk_p (i := .lload 4) (len := 2) (pc' := 103) mJ_201 (by decide +kernel) (ns_lload 0 rfl) rfl ?_
      obtain ⟨r5, S6, h7, hr⟩ := nk_bde hr
      refine nk_callS (ci := 0) (n := 1) (x := 852) (len := 3) (j' := 200) (q' := 1) (r := r5) (S' := S6) (L2 := [(0, nk_l r1)]) (rest := [nk_r (ja_c l0 48), nk_r l0]) (st' := [nk_i r5, nk_r (ja_c l0 48), nk_r l0]) (pc' := 106) mJ_201 (by decide +kernel) (by decide +kernel) (Nat.le_of_ble_eq_true rfl) rfl rfl (Nat.le_of_ble_eq_true rfl) mJ_200 (Nat.le_of_ble_eq_true rfl) ja_Tpos rfl (ja_X13_objectOf_ok zs _ _ _ h7) rfl ?_
      obtain ⟨h8, hr⟩ := nk_cke hr
      refine nk_iald (len := 1) (N := 2000) (pc' := 107) mJ_201 (by decide +kernel) t4 h8.1 h8.2 rfl rfl ?_
      refine nk_p (i := .i2l) (len := 1) (pc' := 108) mJ_201 (by decide +kernel) ns_i2l rfl ?_
      obtain ⟨r9, S10, h11, hr⟩ := nk_bde hr
      refine nk_callV (ci := 13) (n := 1) (x := 882) (len := 3) (j' := 211) (q' := 0) (r := r9) (S' := S10) (L2 := [(0, nk_r l0), (1, nk_l (S6.1 (ja_c l0 48) r5.toNat))]) (rest := []) (st' := []) (pc' := 111) mJ_201 (by decide +kernel) (by decide +kernel) rfl rfl t_l0 (Nat.le_of_ble_eq_true rfl) mJ_211 (Nat.le_of_ble_eq_true rfl) rfl (ja_X13_push_ok zs _ _ _ _ t_l0 h11) rfl ?_
      refine nk_p (i := .aload_n 0) (len := 1) (pc' := 112) mJ_201 (by decide +kernel) (ns_aload_n 1 rfl rfl) rfl ?_
      obtain ⟨r12, S13, h14, hr⟩ := nk_bde hr
      refine nk_callV (ci := 13) (n := 0) (x := 899) (len := 3) (j' := 194) (q' := 0) (r := r12) (S' := S13) (L2 := [(0, nk_r l0)]) (rest := []) (st' := []) (pc' := 115) mJ_201 (by decide +kernel) (by decide +kernel) rfl rfl t_l0 (Nat.le_of_ble_eq_true rfl) mJ_194 (Nat.le_of_ble_eq_true rfl) rfl (ja_X13_next_ok zs _ _ _ t_l0 h14) rfl ?_
      cases hr
      exact nk_vret (len := 1) mJ_201 (by decide +kernel) rfl
    · have hr := nk_ifp (c := r1 = 1099511627776) (Decidable.of_not_not hc) hr
      refine nk_p (i := .aload_n 0) (len := 1) (pc' := 88) mJ_201 (by decide +kernel) (ns_aload_n 1 rfl rfl) rfl ?_
      refine nk_p (i := .iconst 0) (len := 1) (pc' := 89) mJ_201 (by decide +kernel) (ns_iconst (c := 0) (by decide +kernel)) rfl ?_
      refine nk_p (i := .iload_n 3) (len := 1) (pc' := 90) mJ_201 (by decide +kernel) (ns_iload_n 4 rfl rfl) rfl ?_
      obtain ⟨r15, S16, h17, hr⟩ := nk_bde hr
      refine nk_callV (ci := 13) (n := 2) (x := 902) (len := 3) (j' := 214) (q' := 0) (r := r15) (S' := S16) (L2 := [(0, nk_r l0), (1, nk_i 0), (2, nk_i l3)]) (rest := []) (st' := []) (pc' := 93) mJ_201 (by decide +kernel) (by decide +kernel) rfl rfl t_l0 (Nat.le_of_ble_eq_true rfl) mJ_214 (Nat.le_of_ble_eq_true rfl) rfl (ja_X13_raise_ok zs _ _ _ _ _ t_l0 h17) rfl ?_
      refine nk_p (i := .goto 22) (len := 3) (pc' := 115) mJ_201 (by decide +kernel) (ns_goto (by decide +kernel)) rfl ?_
      cases hr
      exact nk_vret (len := 1) mJ_201 (by decide +kernel) rfl
  have hr := nk_ifn hc2 hr
  by_cases hc3 : l1 = 33
  · have hr := nk_ifp hc3 hr
    refine nk_p (i := .tableswitch 376 30 41 #[63, 63, 71, 115, 115, 122, 122, 216, 216, 316, 316, 324]) (len := 63) (pc' := 116) mJ_201 (by decide +kernel) (ns_tsw (V := 33) hc3 (by decide +kernel)) rfl ?_
    refine nk_sub [0, 1, 3] (L' := [(0, nk_r l0), (1, nk_i l1), (3, nk_i l3)]) rfl ?_
    exact ja_X13_objectStep_b116_ok zs _ _ _ _ _ t_l0 hr
  have hr := nk_ifn hc3 hr
  by_cases hc4 : l1 = 34
  · have hr := nk_ifp hc4 hr
    refine nk_p (i := .tableswitch 376 30 41 #[63, 63, 71, 115, 115, 122, 122, 216, 216, 316, 316, 324]) (len := 63) (pc' := 116) mJ_201 (by decide +kernel) (ns_tsw (V := 34) hc4 (by decide +kernel)) rfl ?_
    refine nk_sub [0, 1, 3] (L' := [(0, nk_r l0), (1, nk_i l1), (3, nk_i l3)]) rfl ?_
    exact ja_X13_objectStep_b116_ok zs _ _ _ _ _ t_l0 hr
  have hr := nk_ifn hc4 hr
  by_cases hc5 : l1 = 35
  · have hr := nk_ifp hc5 hr
    refine nk_p (i := .tableswitch 376 30 41 #[63, 63, 71, 115, 115, 122, 122, 216, 216, 316, 316, 324]) (len := 63) (pc' := 123) mJ_201 (by decide +kernel) (ns_tsw (V := 35) hc5 (by decide +kernel)) rfl ?_
    exact ja_X13_objectStep_b123_ok zs _ _ _ _ _ _ t_l0 hr
  have hr := nk_ifn hc5 hr
  by_cases hc6 : l1 = 36
  · have hr := nk_ifp hc6 hr
    refine nk_p (i := .tableswitch 376 30 41 #[63, 63, 71, 115, 115, 122, 122, 216, 216, 316, 316, 324]) (len := 63) (pc' := 123) mJ_201 (by decide +kernel) (ns_tsw (V := 36) hc6 (by decide +kernel)) rfl ?_
    exact ja_X13_objectStep_b123_ok zs _ _ _ _ _ _ t_l0 hr
  have hr := nk_ifn hc6 hr
  by_cases hc7 : l1 = 37
  · have hr := nk_ifp hc7 hr
    refine nk_p (i := .tableswitch 376 30 41 #[63, 63, 71, 115, 115, 122, 122, 216, 216, 316, 316, 324]) (len := 63) (pc' := 217) mJ_201 (by decide +kernel) (ns_tsw (V := 37) hc7 (by decide +kernel)) rfl ?_
    exact ja_X13_objectStep_b217_ok zs _ _ _ _ _ _ t_l0 hr
  have hr := nk_ifn hc7 hr
  by_cases hc8 : l1 = 38
  · have hr := nk_ifp hc8 hr
    refine nk_p (i := .tableswitch 376 30 41 #[63, 63, 71, 115, 115, 122, 122, 216, 216, 316, 316, 324]) (len := 63) (pc' := 217) mJ_201 (by decide +kernel) (ns_tsw (V := 38) hc8 (by decide +kernel)) rfl ?_
    exact ja_X13_objectStep_b217_ok zs _ _ _ _ _ _ t_l0 hr
  have hr := nk_ifn hc8 hr
  by_cases hc9 : l1 = 39
  · have hr := nk_ifp hc9 hr
    refine nk_p (i := .tableswitch 376 30 41 #[63, 63, 71, 115, 115, 122, 122, 216, 216, 316, 316, 324]) (len := 63) (pc' := 317) mJ_201 (by decide +kernel) (ns_tsw (V := 39) hc9 (by decide +kernel)) rfl ?_
    exact ja_X13_objectStep_b317_ok zs _ _ _ _ _ _ t_l0 hr
  have hr := nk_ifn hc9 hr
  by_cases hc10 : l1 = 40
  · have hr := nk_ifp hc10 hr
    refine nk_p (i := .tableswitch 376 30 41 #[63, 63, 71, 115, 115, 122, 122, 216, 216, 316, 316, 324]) (len := 63) (pc' := 317) mJ_201 (by decide +kernel) (ns_tsw (V := 40) hc10 (by decide +kernel)) rfl ?_
    exact ja_X13_objectStep_b317_ok zs _ _ _ _ _ _ t_l0 hr
  have hr := nk_ifn hc10 hr
  by_cases hc11 : l1 = 41
  · have hr := nk_ifp hc11 hr
    refine nk_p (i := .tableswitch 376 30 41 #[63, 63, 71, 115, 115, 122, 122, 216, 216, 316, 316, 324]) (len := 63) (pc' := 325) mJ_201 (by decide +kernel) (ns_tsw (V := 41) hc11 (by decide +kernel)) rfl ?_
    refine nk_p (i := .aload_n 0) (len := 1) (pc' := 326) mJ_201 (by decide +kernel) (ns_aload_n 0 rfl rfl) rfl ?_
    obtain ⟨r18, S19, h20, hr⟩ := nk_bde hr
    refine nk_callV (ci := 13) (n := 0) (x := 885) (len := 3) (j' := 208) (q' := 2) (r := r18) (S' := S19) (L2 := [(0, nk_r l0)]) (rest := []) (st' := [nk_l r18]) (pc' := 329) mJ_201 (by decide +kernel) (by decide +kernel) rfl rfl t_l0 (Nat.le_of_ble_eq_true rfl) mJ_208 (Nat.le_of_ble_eq_true rfl) rfl (ja_X13_pop_ok zs _ _ _ t_l0 h20) rfl ?_
    refine nk_p (i := .lstore 14) (len := 2) (pc' := 331) mJ_201 (by decide +kernel) (ns_lstore (L' := [(14, nk_l r18), (0, nk_r l0), (1, nk_i l1), (2, nk_i l2), (3, nk_i l3)]) rfl rfl (by decide +kernel)) rfl ?_
    refine nk_p (i := .lload 14) (len := 2) (pc' := 333) mJ_201 (by decide +kernel) (ns_lload 0 rfl) rfl ?_
    refine nk_ldc2 (x := 846) (len := 3) (X := 1099511627776) (v := 1099511627776) (pc' := 336) mJ_201 (by decide +kernel) (by decide +kernel) (by decide +kernel) rfl ?_
    refine nk_p (i := .lcmp) (len := 1) (pc' := 337) mJ_201 (by decide +kernel) ns_lcmp rfl ?_
    refine nk_lcond (c := .ne) (off := 12) (len := 3) (t := 349) (pc' := 340) mJ_201 (by decide +kernel) (by decide +kernel) rfl (fun hc => ?_) (fun hc => ?_)
    · have hr := nk_ifn (c := r18 = 1099511627776) hc hr
      refine nk_p (i := .aload_n 0) (len := 1) (pc' := 350) mJ_201 (by decide +kernel) (ns_aload_n 1 rfl rfl) rfl ?_
      refine nk_getM (cj := 12) (z := 0) (x := 12) (len := 3) (ci := 13) (k := 0) (pc' := 353) ja_okT mJ_201 (by decide +kernel) (by decide +kernel) (by decide +kernel) t_l0 rfl (fun t21 => ?_)
      refine nk_getC (f := (4, 1, 1024)) (x := 601) (len := 3) (ci := 12) (k := 44) (pc' := 356) ja_okT mJ_201 (by decide +kernel) (by decide +kernel) (by decide +kernel) (by decide) t21 rfl ?_
      have t22 : nk_ar ja_Tt (ja_c (S19.2 l0 0) 44) = some (1, 1024) := nk_ta ja_okT t21 (by decide +kernel)
      refine nk_p (i := .iload_n 3) (len := 1) (pc' := 357) mJ_201 (by decide +kernel) (ns_iload_n 4 rfl rfl) rfl ?_
      obtain ⟨h23, hr⟩ := nk_cke hr
      refine nk_iald (len := 1) (N := 1024) (pc' := 358) mJ_201 (by decide +kernel) t22 h23.1 h23.2 rfl rfl ?_
      refine nk_p (i := .bipush 64) (len := 2) (pc' := 360) mJ_201 (by decide +kernel) (ns_bipush (c := 64) (by decide +kernel)) rfl ?_
      refine nk_p (i := .iand) (len := 1) (pc' := 361) mJ_201 (by decide +kernel) ns_iand rfl ?_
      refine nk_icond (c := .ne) (off := 8) (len := 3) (t := 369) (pc' := 364) mJ_201 (by decide +kernel) (by decide +kernel) rfl (fun hc => ?_) (fun hc => ?_)
      · have hr := nk_ifn (c := (nk_iand (S19.1 (ja_c (S19.2 l0 0) 44) l3.toNat) 64) = 0) hc hr
        refine nk_sub [1, 4, 0] (L' := [(0, nk_r l0), (3, nk_i l3), (14, nk_l r18)]) rfl ?_
        exact ja_X13_objectStep_b369_ok zs _ _ _ _ _ t_l0 hr
      · have hr := nk_ifp (c := (nk_iand (S19.1 (ja_c (S19.2 l0 0) 44) l3.toNat) 64) = 0) (Decidable.of_not_not hc) hr
        refine nk_p (i := .aload_n 0) (len := 1) (pc' := 365) mJ_201 (by decide +kernel) (ns_aload_n 1 rfl rfl) rfl ?_
        refine nk_p (i := .iconst 1) (len := 1) (pc' := 366) mJ_201 (by decide +kernel) (ns_iconst (c := 1) (by decide +kernel)) rfl ?_
        obtain ⟨S24, h25, hr⟩ := nk_lte hr
        refine nk_putI (y := (0, 0)) (ty := .boolean) (x := 835) (len := 3) (ci := 13) (k := 63) (pc' := 369) ja_okT mJ_201 (by decide +kernel) (by decide +kernel) (by decide +kernel) t_l0 (Or.inr ⟨rfl, by decide⟩) rfl h25 ?_
        refine nk_sub [1, 4, 0] (L' := [(0, nk_r l0), (3, nk_i l3), (14, nk_l r18)]) rfl ?_
        exact ja_X13_objectStep_b369_ok zs _ _ _ _ _ t_l0 hr
    · have hr := nk_ifp (c := r18 = 1099511627776) (Decidable.of_not_not hc) hr
      refine nk_p (i := .aload_n 0) (len := 1) (pc' := 341) mJ_201 (by decide +kernel) (ns_aload_n 1 rfl rfl) rfl ?_
      refine nk_p (i := .iconst 0) (len := 1) (pc' := 342) mJ_201 (by decide +kernel) (ns_iconst (c := 0) (by decide +kernel)) rfl ?_
      refine nk_p (i := .iload_n 3) (len := 1) (pc' := 343) mJ_201 (by decide +kernel) (ns_iload_n 4 rfl rfl) rfl ?_
      obtain ⟨r26, S27, h28, hr⟩ := nk_bde hr
      refine nk_callV (ci := 13) (n := 2) (x := 902) (len := 3) (j' := 214) (q' := 0) (r := r26) (S' := S27) (L2 := [(0, nk_r l0), (1, nk_i 0), (2, nk_i l3)]) (rest := []) (st' := []) (pc' := 346) mJ_201 (by decide +kernel) (by decide +kernel) rfl rfl t_l0 (Nat.le_of_ble_eq_true rfl) mJ_214 (Nat.le_of_ble_eq_true rfl) rfl (ja_X13_raise_ok zs _ _ _ _ _ t_l0 h28) rfl ?_
      refine nk_p (i := .goto 30) (len := 3) (pc' := 376) mJ_201 (by decide +kernel) (ns_goto (by decide +kernel)) rfl ?_
      cases hr
      exact nk_vret (len := 1) mJ_201 (by decide +kernel) rfl
  have hr := nk_ifn hc11 hr
  refine nk_p (i := .tableswitch 376 30 41 #[63, 63, 71, 115, 115, 122, 122, 216, 216, 316, 316, 324]) (len := 63) (pc' := 377) mJ_201 (by decide +kernel) (ns_tsd (by omega) (by decide +kernel)) rfl ?_
  refine nk_p (i := .iload_n 1) (len := 1) (pc' := 378) mJ_201 (by decide +kernel) (ns_iload_n 1 rfl rfl) rfl ?_
  refine nk_p (i := .bipush 42) (len := 2) (pc' := 380) mJ_201 (by decide +kernel) (ns_bipush (c := 42) (by decide +kernel)) rfl ?_
  refine nk_icmp (c := .ne) (off := 10) (len := 3) (t := 390) (pc' := 383) mJ_201 (by decide +kernel) (by decide +kernel) rfl (fun hc => ?_) (fun hc => ?_)
  · have hr := nk_ifn (c := l1 = 42) hc hr
    refine nk_p (i := .lconst 0) (len := 1) (pc' := 391) mJ_201 (by decide +kernel) (ns_lconst (c := 0) (by decide +kernel)) rfl ?_
    refine nk_sub [0, 1, 3] (L' := [(0, nk_r l0), (1, nk_i l1), (3, nk_i l3)]) rfl ?_
    exact ja_X13_objectStep_b391_ok zs _ _ _ _ _ _ t_l0 hr
  · have hr := nk_ifp (c := l1 = 42) (Decidable.of_not_not hc) hr
    refine nk_p (i := .aload_n 0) (len := 1) (pc' := 384) mJ_201 (by decide +kernel) (ns_aload_n 0 rfl rfl) rfl ?_
    obtain ⟨r29, S30, h31, hr⟩ := nk_bde hr
    refine nk_callV (ci := 13) (n := 0) (x := 885) (len := 3) (j' := 208) (q' := 2) (r := r29) (S' := S30) (L2 := [(0, nk_r l0)]) (rest := []) (st' := [nk_l r29]) (pc' := 387) mJ_201 (by decide +kernel) (by decide +kernel) rfl rfl t_l0 (Nat.le_of_ble_eq_true rfl) mJ_208 (Nat.le_of_ble_eq_true rfl) rfl (ja_X13_pop_ok zs _ _ _ t_l0 h31) rfl ?_
    refine nk_p (i := .goto 4) (len := 3) (pc' := 391) mJ_201 (by decide +kernel) (ns_goto (by decide +kernel)) rfl ?_
    refine nk_sub [0, 1, 3] (L' := [(0, nk_r l0), (1, nk_i l1), (3, nk_i l3)]) rfl ?_
    exact ja_X13_objectStep_b391_ok zs _ _ _ _ _ _ t_l0 hr
/-! SafeCodeModel out (I)I -/
noncomputable def ja_X13_out (l0 : Nat) (l1 : Int) (S : nk_S) : Option (Int × nk_S) :=
  if l1 < 0 then
    some (0, S)
  else
    if (S.1 l0 57) ≤ l1 then
      some (0, S)
    else
      if 256 ≤ l1 then
        some (0, S)
      else
        if 0 ≤ l1 ∧ l1 < 256 then
        some ((S.1 (ja_c l0 51) l1.toNat), S)
        else none
theorem ja_X13_out_ok (zs : List Int32) : ∀ (l0 : Nat) (l1 : Int) (S : nk_S) (R : Int × nk_S), nk_cl ja_Tt l0 = some 13 → ja_X13_out l0 l1 S = some R → nk_K ja_Tt mi_Γ (mi_ev zs) 1 205 0 [(0, nk_r l0), (1, nk_i l1)] [] S R := by
  intro l0 l1 S R t_l0 hr
  unfold ja_X13_out at hr
  refine nk_p (i := .iload_n 1) (len := 1) (pc' := 1) mJ_205 (by decide +kernel) (ns_iload_n 1 rfl rfl) rfl ?_
  refine nk_icond (c := .lt) (off := 27) (len := 3) (t := 28) (pc' := 4) mJ_205 (by decide +kernel) (by decide +kernel) rfl (fun hc => ?_) (fun hc => ?_)
  · have hr := nk_ifp (c := l1 < 0) hc hr
    refine nk_p (i := .iconst 0) (len := 1) (pc' := 29) mJ_205 (by decide +kernel) (ns_iconst (c := 0) (by decide +kernel)) rfl ?_
    cases hr
    exact nk_iret (ty := .int) (len := 1) mJ_205 (by decide +kernel) rfl (nk_nar_i _)
  · have hr := nk_ifn (c := l1 < 0) hc hr
    refine nk_p (i := .iload_n 1) (len := 1) (pc' := 5) mJ_205 (by decide +kernel) (ns_iload_n 1 rfl rfl) rfl ?_
    refine nk_p (i := .aload_n 0) (len := 1) (pc' := 6) mJ_205 (by decide +kernel) (ns_aload_n 0 rfl rfl) rfl ?_
    refine nk_getI (y := (0, 0)) (x := 817) (len := 3) (ci := 13) (k := 57) (pc' := 9) ja_okT mJ_205 (by decide +kernel) (by decide +kernel) (by decide +kernel) t_l0 rfl ?_
    refine nk_icmp (c := .ge) (off := 19) (len := 3) (t := 28) (pc' := 12) mJ_205 (by decide +kernel) (by decide +kernel) rfl (fun hc => ?_) (fun hc => ?_)
    · have hr := nk_ifp (c := (S.1 l0 57) ≤ l1) hc hr
      refine nk_p (i := .iconst 0) (len := 1) (pc' := 29) mJ_205 (by decide +kernel) (ns_iconst (c := 0) (by decide +kernel)) rfl ?_
      cases hr
      exact nk_iret (ty := .int) (len := 1) mJ_205 (by decide +kernel) rfl (nk_nar_i _)
    · have hr := nk_ifn (c := (S.1 l0 57) ≤ l1) hc hr
      refine nk_p (i := .iload_n 1) (len := 1) (pc' := 13) mJ_205 (by decide +kernel) (ns_iload_n 1 rfl rfl) rfl ?_
      refine nk_p (i := .sipush 256) (len := 3) (pc' := 16) mJ_205 (by decide +kernel) (ns_sipush (c := 256) (by decide +kernel)) rfl ?_
      refine nk_icmp (c := .ge) (off := 12) (len := 3) (t := 28) (pc' := 19) mJ_205 (by decide +kernel) (by decide +kernel) rfl (fun hc => ?_) (fun hc => ?_)
      · have hr := nk_ifp (c := 256 ≤ l1) hc hr
        refine nk_p (i := .iconst 0) (len := 1) (pc' := 29) mJ_205 (by decide +kernel) (ns_iconst (c := 0) (by decide +kernel)) rfl ?_
        cases hr
        exact nk_iret (ty := .int) (len := 1) mJ_205 (by decide +kernel) rfl (nk_nar_i _)
      · have hr := nk_ifn (c := 256 ≤ l1) hc hr
        refine nk_p (i := .aload_n 0) (len := 1) (pc' := 20) mJ_205 (by decide +kernel) (ns_aload_n 0 rfl rfl) rfl ?_
        refine nk_getC (f := (4, 1, 256)) (x := 132) (len := 3) (ci := 13) (k := 51) (pc' := 23) ja_okT mJ_205 (by decide +kernel) (by decide +kernel) (by decide +kernel) (by decide) t_l0 rfl ?_
        have t1 : nk_ar ja_Tt (ja_c l0 51) = some (1, 256) := nk_ta ja_okT t_l0 (by decide +kernel)
        refine nk_p (i := .iload_n 1) (len := 1) (pc' := 24) mJ_205 (by decide +kernel) (ns_iload_n 1 rfl rfl) rfl ?_
        obtain ⟨h2, hr⟩ := nk_cke hr
        refine nk_iald (len := 1) (N := 256) (pc' := 25) mJ_205 (by decide +kernel) t1 h2.1 h2.2 rfl rfl ?_
        refine nk_p (i := .goto 4) (len := 3) (pc' := 29) mJ_205 (by decide +kernel) (ns_goto (by decide +kernel)) rfl ?_
        cases hr
        exact nk_iret (ty := .int) (len := 1) mJ_205 (by decide +kernel) rfl (nk_nar_i _)
/-! SafeCodeModel place ()I -/
noncomputable def ja_X13_place (l0 : Nat) (S : nk_S) : Option (Int × nk_S) :=
  some ((S.1 l0 59), S)
theorem ja_X13_place_ok (zs : List Int32) : ∀ (l0 : Nat) (S : nk_S) (R : Int × nk_S), nk_cl ja_Tt l0 = some 13 → ja_X13_place l0 S = some R → nk_K ja_Tt mi_Γ (mi_ev zs) 1 206 0 [(0, nk_r l0)] [] S R := by
  intro l0 S R t_l0 hr
  unfold ja_X13_place at hr
  refine nk_p (i := .aload_n 0) (len := 1) (pc' := 1) mJ_206 (by decide +kernel) (ns_aload_n 0 rfl rfl) rfl ?_
  refine nk_getI (y := (0, 0)) (x := 135) (len := 3) (ci := 13) (k := 59) (pc' := 4) ja_okT mJ_206 (by decide +kernel) (by decide +kernel) (by decide +kernel) t_l0 rfl ?_
  cases hr
  exact nk_iret (ty := .int) (len := 1) mJ_206 (by decide +kernel) rfl (nk_nar_i _)
/-! SafeCodeModel reckon (II)V -/
noncomputable def ja_X13_reckon_b174 (l0 : Nat) (s0 : Nat) (s1 : Int) (S : nk_S) : Option (Int × nk_S) :=
  nk_bd (ja_X13_push s0 s1 S) fun r1 S2 =>
  nk_bd (ja_X13_next l0 S2) fun r4 S5 =>
  some (0, S5)
theorem ja_X13_reckon_b174_ok (zs : List Int32) : ∀ (l0 : Nat) (s0 : Nat) (s1 : Int) (S : nk_S) (R : Int × nk_S), nk_cl ja_Tt l0 = some 13 → nk_cl ja_Tt s0 = some 13 → ja_X13_reckon_b174 l0 s0 s1 S = some R → nk_K ja_Tt mi_Γ (mi_ev zs) 0 218 174 [(0, nk_r l0)] [nk_l s1, nk_r s0] S R := by
  intro l0 s0 s1 S R t_l0 t_s0 hr
  unfold ja_X13_reckon_b174 at hr
  obtain ⟨r1, S2, h3, hr⟩ := nk_bde hr
  refine nk_callV (ci := 13) (n := 1) (x := 882) (len := 3) (j' := 211) (q' := 0) (r := r1) (S' := S2) (L2 := [(0, nk_r s0), (1, nk_l s1)]) (rest := []) (st' := []) (pc' := 177) mJ_218 (by decide +kernel) (by decide +kernel) rfl rfl t_s0 (Nat.le_of_ble_eq_true rfl) mJ_211 (Nat.le_of_ble_eq_true rfl) rfl (ja_X13_push_ok zs _ _ _ _ t_s0 h3) rfl ?_
  refine nk_p (i := .aload_n 0) (len := 1) (pc' := 178) mJ_218 (by decide +kernel) (ns_aload_n 0 rfl rfl) rfl ?_
  obtain ⟨r4, S5, h6, hr⟩ := nk_bde hr
  refine nk_callV (ci := 13) (n := 0) (x := 899) (len := 3) (j' := 194) (q' := 0) (r := r4) (S' := S5) (L2 := [(0, nk_r l0)]) (rest := []) (st' := []) (pc' := 181) mJ_218 (by decide +kernel) (by decide +kernel) rfl rfl t_l0 (Nat.le_of_ble_eq_true rfl) mJ_194 (Nat.le_of_ble_eq_true rfl) rfl (ja_X13_next_ok zs _ _ _ t_l0 h6) rfl ?_
  cases hr
  exact nk_vret (len := 1) mJ_218 (by decide +kernel) rfl
noncomputable def ja_X13_reckon_b65 (l0 : Nat) (l1 : Int) (l3 : Int) (l4 : Int) (s0 : Nat) (S : nk_S) : Option (Int × nk_S) :=
  if l1 = 10 then
    ja_X13_reckon_b174 l0 s0 (nk_w (l4 * l3)) S
  else
    if l1 = 11 then
      if ¬ l3 = 0 then
      ja_X13_reckon_b174 l0 s0 (nk_idiv l4 l3) S
      else none
    else
      if l1 = 12 then
        if ¬ l3 = 0 then
        ja_X13_reckon_b174 l0 s0 (nk_irem l4 l3) S
        else none
      else
        if l1 = 13 then
          ja_X13_reckon_b174 l0 s0 (nk_iand l4 l3) S
        else
          if l1 = 14 then
            ja_X13_reckon_b174 l0 s0 (nk_ior l4 l3) S
          else
            if l1 = 15 then
              ja_X13_reckon_b174 l0 s0 (nk_ixor l4 l3) S
            else
              if l1 = 16 then
                ja_X13_reckon_b174 l0 s0 (nk_ishl l4 (nk_iand l3 31)) S
              else
                ja_X13_reckon_b174 l0 s0 (nk_ishr l4 (nk_iand l3 31)) S
theorem ja_X13_reckon_b65_ok (zs : List Int32) : ∀ (l0 : Nat) (l1 : Int) (l3 : Int) (l4 : Int) (s0 : Nat) (S : nk_S) (R : Int × nk_S), nk_cl ja_Tt l0 = some 13 → nk_cl ja_Tt s0 = some 13 → ja_X13_reckon_b65 l0 l1 l3 l4 s0 S = some R → nk_K ja_Tt mi_Γ (mi_ev zs) 0 218 65 [(0, nk_r l0), (1, nk_i l1), (3, nk_i l3), (4, nk_i l4)] [nk_r s0] S R := by
  intro l0 l1 l3 l4 s0 S R t_l0 t_s0 hr
  unfold ja_X13_reckon_b65 at hr
  refine nk_p (i := .iload_n 1) (len := 1) (pc' := 66) mJ_218 (by decide +kernel) (ns_iload_n 1 rfl rfl) rfl ?_
  refine nk_p (i := .bipush 10) (len := 2) (pc' := 68) mJ_218 (by decide +kernel) (ns_bipush (c := 10) (by decide +kernel)) rfl ?_
  refine nk_icmp (c := .ne) (off := 11) (len := 3) (t := 79) (pc' := 71) mJ_218 (by decide +kernel) (by decide +kernel) rfl (fun hc => ?_) (fun hc => ?_)
  · have hr := nk_ifn (c := l1 = 10) hc hr
    refine nk_p (i := .iload_n 1) (len := 1) (pc' := 80) mJ_218 (by decide +kernel) (ns_iload_n 1 rfl rfl) rfl ?_
    refine nk_p (i := .bipush 11) (len := 2) (pc' := 82) mJ_218 (by decide +kernel) (ns_bipush (c := 11) (by decide +kernel)) rfl ?_
    refine nk_icmp (c := .ne) (off := 11) (len := 3) (t := 93) (pc' := 85) mJ_218 (by decide +kernel) (by decide +kernel) rfl (fun hc => ?_) (fun hc => ?_)
    · have hr := nk_ifn (c := l1 = 11) hc hr
      refine nk_p (i := .iload_n 1) (len := 1) (pc' := 94) mJ_218 (by decide +kernel) (ns_iload_n 1 rfl rfl) rfl ?_
      refine nk_p (i := .bipush 12) (len := 2) (pc' := 96) mJ_218 (by decide +kernel) (ns_bipush (c := 12) (by decide +kernel)) rfl ?_
      refine nk_icmp (c := .ne) (off := 11) (len := 3) (t := 107) (pc' := 99) mJ_218 (by decide +kernel) (by decide +kernel) rfl (fun hc => ?_) (fun hc => ?_)
      · have hr := nk_ifn (c := l1 = 12) hc hr
        refine nk_p (i := .iload_n 1) (len := 1) (pc' := 108) mJ_218 (by decide +kernel) (ns_iload_n 1 rfl rfl) rfl ?_
        refine nk_p (i := .bipush 13) (len := 2) (pc' := 110) mJ_218 (by decide +kernel) (ns_bipush (c := 13) (by decide +kernel)) rfl ?_
        refine nk_icmp (c := .ne) (off := 11) (len := 3) (t := 121) (pc' := 113) mJ_218 (by decide +kernel) (by decide +kernel) rfl (fun hc => ?_) (fun hc => ?_)
        · have hr := nk_ifn (c := l1 = 13) hc hr
          refine nk_p (i := .iload_n 1) (len := 1) (pc' := 122) mJ_218 (by decide +kernel) (ns_iload_n 1 rfl rfl) rfl ?_
          refine nk_p (i := .bipush 14) (len := 2) (pc' := 124) mJ_218 (by decide +kernel) (ns_bipush (c := 14) (by decide +kernel)) rfl ?_
          refine nk_icmp (c := .ne) (off := 11) (len := 3) (t := 135) (pc' := 127) mJ_218 (by decide +kernel) (by decide +kernel) rfl (fun hc => ?_) (fun hc => ?_)
          · have hr := nk_ifn (c := l1 = 14) hc hr
            refine nk_p (i := .iload_n 1) (len := 1) (pc' := 136) mJ_218 (by decide +kernel) (ns_iload_n 1 rfl rfl) rfl ?_
            refine nk_p (i := .bipush 15) (len := 2) (pc' := 138) mJ_218 (by decide +kernel) (ns_bipush (c := 15) (by decide +kernel)) rfl ?_
            refine nk_icmp (c := .ne) (off := 11) (len := 3) (t := 149) (pc' := 141) mJ_218 (by decide +kernel) (by decide +kernel) rfl (fun hc => ?_) (fun hc => ?_)
            · have hr := nk_ifn (c := l1 = 15) hc hr
              refine nk_p (i := .iload_n 1) (len := 1) (pc' := 150) mJ_218 (by decide +kernel) (ns_iload_n 1 rfl rfl) rfl ?_
              refine nk_p (i := .bipush 16) (len := 2) (pc' := 152) mJ_218 (by decide +kernel) (ns_bipush (c := 16) (by decide +kernel)) rfl ?_
              refine nk_icmp (c := .ne) (off := 14) (len := 3) (t := 166) (pc' := 155) mJ_218 (by decide +kernel) (by decide +kernel) rfl (fun hc => ?_) (fun hc => ?_)
              · have hr := nk_ifn (c := l1 = 16) hc hr
                refine nk_p (i := .iload 4) (len := 2) (pc' := 168) mJ_218 (by decide +kernel) (ns_iload 3 rfl) rfl ?_
                refine nk_p (i := .iload_n 3) (len := 1) (pc' := 169) mJ_218 (by decide +kernel) (ns_iload_n 2 rfl rfl) rfl ?_
                refine nk_p (i := .bipush 31) (len := 2) (pc' := 171) mJ_218 (by decide +kernel) (ns_bipush (c := 31) (by decide +kernel)) rfl ?_
                refine nk_p (i := .iand) (len := 1) (pc' := 172) mJ_218 (by decide +kernel) ns_iand rfl ?_
                refine nk_p (i := .ishr) (len := 1) (pc' := 173) mJ_218 (by decide +kernel) ns_ishr rfl ?_
                refine nk_p (i := .i2l) (len := 1) (pc' := 174) mJ_218 (by decide +kernel) ns_i2l rfl ?_
                refine nk_sub [0] (L' := [(0, nk_r l0)]) rfl ?_
                exact ja_X13_reckon_b174_ok zs _ _ _ _ _ t_l0 t_s0 hr
              · have hr := nk_ifp (c := l1 = 16) (Decidable.of_not_not hc) hr
                refine nk_p (i := .iload 4) (len := 2) (pc' := 157) mJ_218 (by decide +kernel) (ns_iload 3 rfl) rfl ?_
                refine nk_p (i := .iload_n 3) (len := 1) (pc' := 158) mJ_218 (by decide +kernel) (ns_iload_n 2 rfl rfl) rfl ?_
                refine nk_p (i := .bipush 31) (len := 2) (pc' := 160) mJ_218 (by decide +kernel) (ns_bipush (c := 31) (by decide +kernel)) rfl ?_
                refine nk_p (i := .iand) (len := 1) (pc' := 161) mJ_218 (by decide +kernel) ns_iand rfl ?_
                refine nk_p (i := .ishl) (len := 1) (pc' := 162) mJ_218 (by decide +kernel) ns_ishl rfl ?_
                refine nk_p (i := .i2l) (len := 1) (pc' := 163) mJ_218 (by decide +kernel) ns_i2l rfl ?_
                refine nk_p (i := .goto 11) (len := 3) (pc' := 174) mJ_218 (by decide +kernel) (ns_goto (by decide +kernel)) rfl ?_
                refine nk_sub [0] (L' := [(0, nk_r l0)]) rfl ?_
                exact ja_X13_reckon_b174_ok zs _ _ _ _ _ t_l0 t_s0 hr
            · have hr := nk_ifp (c := l1 = 15) (Decidable.of_not_not hc) hr
              refine nk_p (i := .iload 4) (len := 2) (pc' := 143) mJ_218 (by decide +kernel) (ns_iload 3 rfl) rfl ?_
              refine nk_p (i := .iload_n 3) (len := 1) (pc' := 144) mJ_218 (by decide +kernel) (ns_iload_n 2 rfl rfl) rfl ?_
              refine nk_p (i := .ixor) (len := 1) (pc' := 145) mJ_218 (by decide +kernel) ns_ixor rfl ?_
              refine nk_p (i := .i2l) (len := 1) (pc' := 146) mJ_218 (by decide +kernel) ns_i2l rfl ?_
              refine nk_p (i := .goto 28) (len := 3) (pc' := 174) mJ_218 (by decide +kernel) (ns_goto (by decide +kernel)) rfl ?_
              refine nk_sub [0] (L' := [(0, nk_r l0)]) rfl ?_
              exact ja_X13_reckon_b174_ok zs _ _ _ _ _ t_l0 t_s0 hr
          · have hr := nk_ifp (c := l1 = 14) (Decidable.of_not_not hc) hr
            refine nk_p (i := .iload 4) (len := 2) (pc' := 129) mJ_218 (by decide +kernel) (ns_iload 3 rfl) rfl ?_
            refine nk_p (i := .iload_n 3) (len := 1) (pc' := 130) mJ_218 (by decide +kernel) (ns_iload_n 2 rfl rfl) rfl ?_
            refine nk_p (i := .ior) (len := 1) (pc' := 131) mJ_218 (by decide +kernel) ns_ior rfl ?_
            refine nk_p (i := .i2l) (len := 1) (pc' := 132) mJ_218 (by decide +kernel) ns_i2l rfl ?_
            refine nk_p (i := .goto 42) (len := 3) (pc' := 174) mJ_218 (by decide +kernel) (ns_goto (by decide +kernel)) rfl ?_
            refine nk_sub [0] (L' := [(0, nk_r l0)]) rfl ?_
            exact ja_X13_reckon_b174_ok zs _ _ _ _ _ t_l0 t_s0 hr
        · have hr := nk_ifp (c := l1 = 13) (Decidable.of_not_not hc) hr
          refine nk_p (i := .iload 4) (len := 2) (pc' := 115) mJ_218 (by decide +kernel) (ns_iload 3 rfl) rfl ?_
          refine nk_p (i := .iload_n 3) (len := 1) (pc' := 116) mJ_218 (by decide +kernel) (ns_iload_n 2 rfl rfl) rfl ?_
          refine nk_p (i := .iand) (len := 1) (pc' := 117) mJ_218 (by decide +kernel) ns_iand rfl ?_
          refine nk_p (i := .i2l) (len := 1) (pc' := 118) mJ_218 (by decide +kernel) ns_i2l rfl ?_
          refine nk_p (i := .goto 56) (len := 3) (pc' := 174) mJ_218 (by decide +kernel) (ns_goto (by decide +kernel)) rfl ?_
          refine nk_sub [0] (L' := [(0, nk_r l0)]) rfl ?_
          exact ja_X13_reckon_b174_ok zs _ _ _ _ _ t_l0 t_s0 hr
      · have hr := nk_ifp (c := l1 = 12) (Decidable.of_not_not hc) hr
        refine nk_p (i := .iload 4) (len := 2) (pc' := 101) mJ_218 (by decide +kernel) (ns_iload 3 rfl) rfl ?_
        refine nk_p (i := .iload_n 3) (len := 1) (pc' := 102) mJ_218 (by decide +kernel) (ns_iload_n 2 rfl rfl) rfl ?_
        obtain ⟨h1, hr⟩ := nk_cke hr
        refine nk_p (i := .irem) (len := 1) (pc' := 103) mJ_218 (by decide +kernel) (ns_irem h1) rfl ?_
        refine nk_p (i := .i2l) (len := 1) (pc' := 104) mJ_218 (by decide +kernel) ns_i2l rfl ?_
        refine nk_p (i := .goto 70) (len := 3) (pc' := 174) mJ_218 (by decide +kernel) (ns_goto (by decide +kernel)) rfl ?_
        refine nk_sub [0] (L' := [(0, nk_r l0)]) rfl ?_
        exact ja_X13_reckon_b174_ok zs _ _ _ _ _ t_l0 t_s0 hr
    · have hr := nk_ifp (c := l1 = 11) (Decidable.of_not_not hc) hr
      refine nk_p (i := .iload 4) (len := 2) (pc' := 87) mJ_218 (by decide +kernel) (ns_iload 3 rfl) rfl ?_
      refine nk_p (i := .iload_n 3) (len := 1) (pc' := 88) mJ_218 (by decide +kernel) (ns_iload_n 2 rfl rfl) rfl ?_
      obtain ⟨h2, hr⟩ := nk_cke hr
      refine nk_p (i := .idiv) (len := 1) (pc' := 89) mJ_218 (by decide +kernel) (ns_idiv h2) rfl ?_
      refine nk_p (i := .i2l) (len := 1) (pc' := 90) mJ_218 (by decide +kernel) ns_i2l rfl ?_
      refine nk_p (i := .goto 84) (len := 3) (pc' := 174) mJ_218 (by decide +kernel) (ns_goto (by decide +kernel)) rfl ?_
      refine nk_sub [0] (L' := [(0, nk_r l0)]) rfl ?_
      exact ja_X13_reckon_b174_ok zs _ _ _ _ _ t_l0 t_s0 hr
  · have hr := nk_ifp (c := l1 = 10) (Decidable.of_not_not hc) hr
    refine nk_p (i := .iload 4) (len := 2) (pc' := 73) mJ_218 (by decide +kernel) (ns_iload 3 rfl) rfl ?_
    refine nk_p (i := .iload_n 3) (len := 1) (pc' := 74) mJ_218 (by decide +kernel) (ns_iload_n 2 rfl rfl) rfl ?_
    refine nk_p (i := .imul) (len := 1) (pc' := 75) mJ_218 (by decide +kernel) ns_imul rfl ?_
    refine nk_p (i := .i2l) (len := 1) (pc' := 76) mJ_218 (by decide +kernel) ns_i2l rfl ?_
    refine nk_p (i := .goto 98) (len := 3) (pc' := 174) mJ_218 (by decide +kernel) (ns_goto (by decide +kernel)) rfl ?_
    refine nk_sub [0] (L' := [(0, nk_r l0)]) rfl ?_
    exact ja_X13_reckon_b174_ok zs _ _ _ _ _ t_l0 t_s0 hr
noncomputable def ja_X13_reckon_b36 (l0 : Nat) (l1 : Int) (l3 : Int) (l4 : Int) (S : nk_S) : Option (Int × nk_S) :=
  if l1 = 8 then
    ja_X13_reckon_b174 l0 l0 (nk_w (l4 + l3)) S
  else
    if l1 = 9 then
      ja_X13_reckon_b174 l0 l0 (nk_w (l4 - l3)) S
    else
      ja_X13_reckon_b65 l0 l1 l3 l4 l0 S
theorem ja_X13_reckon_b36_ok (zs : List Int32) : ∀ (l0 : Nat) (l1 : Int) (l3 : Int) (l4 : Int) (S : nk_S) (R : Int × nk_S), nk_cl ja_Tt l0 = some 13 → ja_X13_reckon_b36 l0 l1 l3 l4 S = some R → nk_K ja_Tt mi_Γ (mi_ev zs) 0 218 36 [(0, nk_r l0), (1, nk_i l1), (3, nk_i l3), (4, nk_i l4)] [] S R := by
  intro l0 l1 l3 l4 S R t_l0 hr
  unfold ja_X13_reckon_b36 at hr
  refine nk_p (i := .aload_n 0) (len := 1) (pc' := 37) mJ_218 (by decide +kernel) (ns_aload_n 0 rfl rfl) rfl ?_
  refine nk_p (i := .iload_n 1) (len := 1) (pc' := 38) mJ_218 (by decide +kernel) (ns_iload_n 1 rfl rfl) rfl ?_
  refine nk_p (i := .bipush 8) (len := 2) (pc' := 40) mJ_218 (by decide +kernel) (ns_bipush (c := 8) (by decide +kernel)) rfl ?_
  refine nk_icmp (c := .ne) (off := 11) (len := 3) (t := 51) (pc' := 43) mJ_218 (by decide +kernel) (by decide +kernel) rfl (fun hc => ?_) (fun hc => ?_)
  · have hr := nk_ifn (c := l1 = 8) hc hr
    refine nk_p (i := .iload_n 1) (len := 1) (pc' := 52) mJ_218 (by decide +kernel) (ns_iload_n 1 rfl rfl) rfl ?_
    refine nk_p (i := .bipush 9) (len := 2) (pc' := 54) mJ_218 (by decide +kernel) (ns_bipush (c := 9) (by decide +kernel)) rfl ?_
    refine nk_icmp (c := .ne) (off := 11) (len := 3) (t := 65) (pc' := 57) mJ_218 (by decide +kernel) (by decide +kernel) rfl (fun hc => ?_) (fun hc => ?_)
    · have hr := nk_ifn (c := l1 = 9) hc hr
      exact ja_X13_reckon_b65_ok zs _ _ _ _ _ _ _ t_l0 t_l0 hr
    · have hr := nk_ifp (c := l1 = 9) (Decidable.of_not_not hc) hr
      refine nk_p (i := .iload 4) (len := 2) (pc' := 59) mJ_218 (by decide +kernel) (ns_iload 3 rfl) rfl ?_
      refine nk_p (i := .iload_n 3) (len := 1) (pc' := 60) mJ_218 (by decide +kernel) (ns_iload_n 2 rfl rfl) rfl ?_
      refine nk_p (i := .isub) (len := 1) (pc' := 61) mJ_218 (by decide +kernel) ns_isub rfl ?_
      refine nk_p (i := .i2l) (len := 1) (pc' := 62) mJ_218 (by decide +kernel) ns_i2l rfl ?_
      refine nk_p (i := .goto 112) (len := 3) (pc' := 174) mJ_218 (by decide +kernel) (ns_goto (by decide +kernel)) rfl ?_
      refine nk_sub [0] (L' := [(0, nk_r l0)]) rfl ?_
      exact ja_X13_reckon_b174_ok zs _ _ _ _ _ t_l0 t_l0 hr
  · have hr := nk_ifp (c := l1 = 8) (Decidable.of_not_not hc) hr
    refine nk_p (i := .iload 4) (len := 2) (pc' := 45) mJ_218 (by decide +kernel) (ns_iload 3 rfl) rfl ?_
    refine nk_p (i := .iload_n 3) (len := 1) (pc' := 46) mJ_218 (by decide +kernel) (ns_iload_n 2 rfl rfl) rfl ?_
    refine nk_p (i := .iadd) (len := 1) (pc' := 47) mJ_218 (by decide +kernel) ns_iadd rfl ?_
    refine nk_p (i := .i2l) (len := 1) (pc' := 48) mJ_218 (by decide +kernel) ns_i2l rfl ?_
    refine nk_p (i := .goto 126) (len := 3) (pc' := 174) mJ_218 (by decide +kernel) (ns_goto (by decide +kernel)) rfl ?_
    refine nk_sub [0] (L' := [(0, nk_r l0)]) rfl ?_
    exact ja_X13_reckon_b174_ok zs _ _ _ _ _ t_l0 t_l0 hr
noncomputable def ja_X13_reckon_b25 (l0 : Nat) (l1 : Int) (l2 : Int) (l3 : Int) (l4 : Int) (S : nk_S) : Option (Int × nk_S) :=
  if l3 = 0 then
    nk_bd (ja_X13_raise l0 3 l2 S) fun r1 S2 =>
    some (0, S2)
  else
    ja_X13_reckon_b36 l0 l1 l3 l4 S
theorem ja_X13_reckon_b25_ok (zs : List Int32) : ∀ (l0 : Nat) (l1 : Int) (l2 : Int) (l3 : Int) (l4 : Int) (S : nk_S) (R : Int × nk_S), nk_cl ja_Tt l0 = some 13 → ja_X13_reckon_b25 l0 l1 l2 l3 l4 S = some R → nk_K ja_Tt mi_Γ (mi_ev zs) 0 218 25 [(0, nk_r l0), (1, nk_i l1), (2, nk_i l2), (3, nk_i l3), (4, nk_i l4)] [] S R := by
  intro l0 l1 l2 l3 l4 S R t_l0 hr
  unfold ja_X13_reckon_b25 at hr
  refine nk_p (i := .iload_n 3) (len := 1) (pc' := 26) mJ_218 (by decide +kernel) (ns_iload_n 3 rfl rfl) rfl ?_
  refine nk_icond (c := .ne) (off := 10) (len := 3) (t := 36) (pc' := 29) mJ_218 (by decide +kernel) (by decide +kernel) rfl (fun hc => ?_) (fun hc => ?_)
  · have hr := nk_ifn (c := l3 = 0) hc hr
    refine nk_sub [0, 1, 3, 4] (L' := [(0, nk_r l0), (1, nk_i l1), (3, nk_i l3), (4, nk_i l4)]) rfl ?_
    exact ja_X13_reckon_b36_ok zs _ _ _ _ _ _ t_l0 hr
  · have hr := nk_ifp (c := l3 = 0) (Decidable.of_not_not hc) hr
    refine nk_p (i := .aload_n 0) (len := 1) (pc' := 30) mJ_218 (by decide +kernel) (ns_aload_n 0 rfl rfl) rfl ?_
    refine nk_p (i := .iconst 3) (len := 1) (pc' := 31) mJ_218 (by decide +kernel) (ns_iconst (c := 3) (by decide +kernel)) rfl ?_
    refine nk_p (i := .iload_n 2) (len := 1) (pc' := 32) mJ_218 (by decide +kernel) (ns_iload_n 2 rfl rfl) rfl ?_
    obtain ⟨r1, S2, h3, hr⟩ := nk_bde hr
    refine nk_callV (ci := 13) (n := 2) (x := 902) (len := 3) (j' := 214) (q' := 0) (r := r1) (S' := S2) (L2 := [(0, nk_r l0), (1, nk_i 3), (2, nk_i l2)]) (rest := []) (st' := []) (pc' := 35) mJ_218 (by decide +kernel) (by decide +kernel) rfl rfl t_l0 (Nat.le_of_ble_eq_true rfl) mJ_214 (Nat.le_of_ble_eq_true rfl) rfl (ja_X13_raise_ok zs _ _ _ _ _ t_l0 h3) rfl ?_
    cases hr
    exact nk_vret (len := 1) mJ_218 (by decide +kernel) rfl
noncomputable def ja_X13_reckon (l0 : Nat) (l1 : Int) (l2 : Int) (S : nk_S) : Option (Int × nk_S) :=
  nk_bd (ja_X13_pop l0 S) fun r1 S2 =>
  nk_lt (nk_w r1) fun v4 =>
  nk_bd (ja_X13_pop l0 S2) fun r6 S7 =>
  nk_lt (nk_w r6) fun v9 =>
  if l1 = 11 then
    ja_X13_reckon_b25 l0 l1 l2 v4 v9 S7
  else
    if l1 = 12 then
      ja_X13_reckon_b25 l0 l1 l2 v4 v9 S7
    else
      ja_X13_reckon_b36 l0 l1 v4 v9 S7
theorem ja_X13_reckon_ok (zs : List Int32) : ∀ (l0 : Nat) (l1 : Int) (l2 : Int) (S : nk_S) (R : Int × nk_S), nk_cl ja_Tt l0 = some 13 → ja_X13_reckon l0 l1 l2 S = some R → nk_K ja_Tt mi_Γ (mi_ev zs) 0 218 0 [(0, nk_r l0), (1, nk_i l1), (2, nk_i l2)] [] S R := by
  intro l0 l1 l2 S R t_l0 hr
  unfold ja_X13_reckon at hr
  refine nk_p (i := .aload_n 0) (len := 1) (pc' := 1) mJ_218 (by decide +kernel) (ns_aload_n 0 rfl rfl) rfl ?_
  obtain ⟨r1, S2, h3, hr⟩ := nk_bde hr
  refine nk_callV (ci := 13) (n := 0) (x := 885) (len := 3) (j' := 208) (q' := 2) (r := r1) (S' := S2) (L2 := [(0, nk_r l0)]) (rest := []) (st' := [nk_l r1]) (pc' := 4) mJ_218 (by decide +kernel) (by decide +kernel) rfl rfl t_l0 (Nat.le_of_ble_eq_true rfl) mJ_208 (Nat.le_of_ble_eq_true rfl) rfl (ja_X13_pop_ok zs _ _ _ t_l0 h3) rfl ?_
  refine nk_p (i := .l2i) (len := 1) (pc' := 5) mJ_218 (by decide +kernel) ns_l2i rfl ?_
  obtain ⟨v4, h5, hr⟩ := nk_lte hr
  refine nk_p (i := .istore_n 3) (len := 1) (pc' := 6) mJ_218 (by decide +kernel) (ns_istore_n (L' := [(3, nk_i v4), (0, nk_r l0), (1, nk_i l1), (2, nk_i l2)]) h5 rfl rfl (by decide +kernel)) rfl ?_
  refine nk_p (i := .aload_n 0) (len := 1) (pc' := 7) mJ_218 (by decide +kernel) (ns_aload_n 1 rfl rfl) rfl ?_
  obtain ⟨r6, S7, h8, hr⟩ := nk_bde hr
  refine nk_callV (ci := 13) (n := 0) (x := 885) (len := 3) (j' := 208) (q' := 2) (r := r6) (S' := S7) (L2 := [(0, nk_r l0)]) (rest := []) (st' := [nk_l r6]) (pc' := 10) mJ_218 (by decide +kernel) (by decide +kernel) rfl rfl t_l0 (Nat.le_of_ble_eq_true rfl) mJ_208 (Nat.le_of_ble_eq_true rfl) rfl (ja_X13_pop_ok zs _ _ _ t_l0 h8) rfl ?_
  refine nk_p (i := .l2i) (len := 1) (pc' := 11) mJ_218 (by decide +kernel) ns_l2i rfl ?_
  obtain ⟨v9, h10, hr⟩ := nk_lte hr
  refine nk_p (i := .istore 4) (len := 2) (pc' := 13) mJ_218 (by decide +kernel) (ns_istore (L' := [(4, nk_i v9), (3, nk_i v4), (0, nk_r l0), (1, nk_i l1), (2, nk_i l2)]) h10 rfl (by decide +kernel)) rfl ?_
  refine nk_p (i := .iload_n 1) (len := 1) (pc' := 14) mJ_218 (by decide +kernel) (ns_iload_n 3 rfl rfl) rfl ?_
  refine nk_p (i := .bipush 11) (len := 2) (pc' := 16) mJ_218 (by decide +kernel) (ns_bipush (c := 11) (by decide +kernel)) rfl ?_
  refine nk_icmp (c := .eq) (off := 9) (len := 3) (t := 25) (pc' := 19) mJ_218 (by decide +kernel) (by decide +kernel) rfl (fun hc => ?_) (fun hc => ?_)
  · have hr := nk_ifp (c := l1 = 11) hc hr
    refine nk_sub [2, 3, 4, 1, 0] (L' := [(0, nk_r l0), (1, nk_i l1), (2, nk_i l2), (3, nk_i v4), (4, nk_i v9)]) rfl ?_
    exact ja_X13_reckon_b25_ok zs _ _ _ _ _ _ _ t_l0 hr
  · have hr := nk_ifn (c := l1 = 11) hc hr
    refine nk_p (i := .iload_n 1) (len := 1) (pc' := 20) mJ_218 (by decide +kernel) (ns_iload_n 3 rfl rfl) rfl ?_
    refine nk_p (i := .bipush 12) (len := 2) (pc' := 22) mJ_218 (by decide +kernel) (ns_bipush (c := 12) (by decide +kernel)) rfl ?_
    refine nk_icmp (c := .ne) (off := 14) (len := 3) (t := 36) (pc' := 25) mJ_218 (by decide +kernel) (by decide +kernel) rfl (fun hc => ?_) (fun hc => ?_)
    · have hr := nk_ifn (c := l1 = 12) hc hr
      refine nk_sub [2, 3, 1, 0] (L' := [(0, nk_r l0), (1, nk_i l1), (3, nk_i v4), (4, nk_i v9)]) rfl ?_
      exact ja_X13_reckon_b36_ok zs _ _ _ _ _ _ t_l0 hr
    · have hr := nk_ifp (c := l1 = 12) (Decidable.of_not_not hc) hr
      refine nk_sub [2, 3, 4, 1, 0] (L' := [(0, nk_r l0), (1, nk_i l1), (2, nk_i l2), (3, nk_i v4), (4, nk_i v9)]) rfl ?_
      exact ja_X13_reckon_b25_ok zs _ _ _ _ _ _ _ t_l0 hr
/-! SafeCodeModel step (I)V -/
noncomputable def ja_X13_step_b538 (l0 : Nat) (S : nk_S) : Option (Int × nk_S) :=
  nk_bd (ja_X13_next l0 S) fun r1 S2 =>
  some (0, S2)
theorem ja_X13_step_b538_ok (zs : List Int32) : ∀ (l0 : Nat) (S : nk_S) (R : Int × nk_S), nk_cl ja_Tt l0 = some 13 → ja_X13_step_b538 l0 S = some R → nk_K ja_Tt mi_Γ (mi_ev zs) 0 228 538 [(0, nk_r l0)] [] S R := by
  intro l0 S R t_l0 hr
  unfold ja_X13_step_b538 at hr
  refine nk_p (i := .aload_n 0) (len := 1) (pc' := 539) mJ_228 (by decide +kernel) (ns_aload_n 0 rfl rfl) rfl ?_
  obtain ⟨r1, S2, h3, hr⟩ := nk_bde hr
  refine nk_callV (ci := 13) (n := 0) (x := 899) (len := 3) (j' := 194) (q' := 0) (r := r1) (S' := S2) (L2 := [(0, nk_r l0)]) (rest := []) (st' := []) (pc' := 542) mJ_228 (by decide +kernel) (by decide +kernel) rfl rfl t_l0 (Nat.le_of_ble_eq_true rfl) mJ_194 (Nat.le_of_ble_eq_true rfl) rfl (ja_X13_next_ok zs _ _ _ t_l0 h3) rfl ?_
  cases hr
  exact nk_vret (len := 1) mJ_228 (by decide +kernel) rfl
noncomputable def ja_X13_step_b530 (l0 : Nat) (l1 : Int) (l2 : Int) (l3 : Int) (S : nk_S) : Option (Int × nk_S) :=
  nk_bd (ja_X13_objectStep l0 l2 l3 l1 S) fun r1 S2 =>
  some (0, S2)
theorem ja_X13_step_b530_ok (zs : List Int32) : ∀ (l0 : Nat) (l1 : Int) (l2 : Int) (l3 : Int) (S : nk_S) (R : Int × nk_S), nk_cl ja_Tt l0 = some 13 → ja_X13_step_b530 l0 l1 l2 l3 S = some R → nk_K ja_Tt mi_Γ (mi_ev zs) 0 228 530 [(0, nk_r l0), (1, nk_i l1), (2, nk_i l2), (3, nk_i l3)] [] S R := by
  intro l0 l1 l2 l3 S R t_l0 hr
  unfold ja_X13_step_b530 at hr
  refine nk_p (i := .aload_n 0) (len := 1) (pc' := 531) mJ_228 (by decide +kernel) (ns_aload_n 0 rfl rfl) rfl ?_
  refine nk_p (i := .iload_n 2) (len := 1) (pc' := 532) mJ_228 (by decide +kernel) (ns_iload_n 2 rfl rfl) rfl ?_
  refine nk_p (i := .iload_n 3) (len := 1) (pc' := 533) mJ_228 (by decide +kernel) (ns_iload_n 3 rfl rfl) rfl ?_
  refine nk_p (i := .iload_n 1) (len := 1) (pc' := 534) mJ_228 (by decide +kernel) (ns_iload_n 1 rfl rfl) rfl ?_
  obtain ⟨r1, S2, h3, hr⟩ := nk_bde hr
  refine nk_callV (ci := 13) (n := 3) (x := 895) (len := 3) (j' := 201) (q' := 0) (r := r1) (S' := S2) (L2 := [(0, nk_r l0), (1, nk_i l2), (2, nk_i l3), (3, nk_i l1)]) (rest := []) (st' := []) (pc' := 537) mJ_228 (by decide +kernel) (by decide +kernel) rfl rfl t_l0 (Nat.le_of_ble_eq_true rfl) mJ_201 (Nat.le_of_ble_eq_true rfl) rfl (ja_X13_objectStep_ok zs _ _ _ _ _ _ t_l0 h3) rfl ?_
  cases hr
  exact nk_vret (len := 1) mJ_228 (by decide +kernel) rfl
noncomputable def ja_X13_step_b509 (l0 : Nat) (l1 : Int) (l2 : Int) (l3 : Int) (S : nk_S) : Option (Int × nk_S) :=
  if l2 < 20 then
    ja_X13_step_b530 l0 l1 l2 l3 S
  else
    if 29 < l2 then
      ja_X13_step_b530 l0 l1 l2 l3 S
    else
      nk_bd (ja_X13_branch l0 l2 l3 S) fun r1 S2 =>
      some (0, S2)
theorem ja_X13_step_b509_ok (zs : List Int32) : ∀ (l0 : Nat) (l1 : Int) (l2 : Int) (l3 : Int) (S : nk_S) (R : Int × nk_S), nk_cl ja_Tt l0 = some 13 → ja_X13_step_b509 l0 l1 l2 l3 S = some R → nk_K ja_Tt mi_Γ (mi_ev zs) 0 228 509 [(0, nk_r l0), (1, nk_i l1), (2, nk_i l2), (3, nk_i l3)] [] S R := by
  intro l0 l1 l2 l3 S R t_l0 hr
  unfold ja_X13_step_b509 at hr
  refine nk_p (i := .iload_n 2) (len := 1) (pc' := 510) mJ_228 (by decide +kernel) (ns_iload_n 2 rfl rfl) rfl ?_
  refine nk_p (i := .bipush 20) (len := 2) (pc' := 512) mJ_228 (by decide +kernel) (ns_bipush (c := 20) (by decide +kernel)) rfl ?_
  refine nk_icmp (c := .lt) (off := 18) (len := 3) (t := 530) (pc' := 515) mJ_228 (by decide +kernel) (by decide +kernel) rfl (fun hc => ?_) (fun hc => ?_)
  · have hr := nk_ifp (c := l2 < 20) hc hr
    exact ja_X13_step_b530_ok zs _ _ _ _ _ _ t_l0 hr
  · have hr := nk_ifn (c := l2 < 20) hc hr
    refine nk_p (i := .iload_n 2) (len := 1) (pc' := 516) mJ_228 (by decide +kernel) (ns_iload_n 2 rfl rfl) rfl ?_
    refine nk_p (i := .bipush 29) (len := 2) (pc' := 518) mJ_228 (by decide +kernel) (ns_bipush (c := 29) (by decide +kernel)) rfl ?_
    refine nk_icmp (c := .gt) (off := 12) (len := 3) (t := 530) (pc' := 521) mJ_228 (by decide +kernel) (by decide +kernel) rfl (fun hc => ?_) (fun hc => ?_)
    · have hr := nk_ifp (c := 29 < l2) hc hr
      exact ja_X13_step_b530_ok zs _ _ _ _ _ _ t_l0 hr
    · have hr := nk_ifn (c := 29 < l2) hc hr
      refine nk_p (i := .aload_n 0) (len := 1) (pc' := 522) mJ_228 (by decide +kernel) (ns_aload_n 0 rfl rfl) rfl ?_
      refine nk_p (i := .iload_n 2) (len := 1) (pc' := 523) mJ_228 (by decide +kernel) (ns_iload_n 2 rfl rfl) rfl ?_
      refine nk_p (i := .iload_n 3) (len := 1) (pc' := 524) mJ_228 (by decide +kernel) (ns_iload_n 3 rfl rfl) rfl ?_
      obtain ⟨r1, S2, h3, hr⟩ := nk_bde hr
      refine nk_callV (ci := 13) (n := 2) (x := 892) (len := 3) (j' := 91) (q' := 0) (r := r1) (S' := S2) (L2 := [(0, nk_r l0), (1, nk_i l2), (2, nk_i l3)]) (rest := []) (st' := []) (pc' := 527) mJ_228 (by decide +kernel) (by decide +kernel) rfl rfl t_l0 (Nat.le_of_ble_eq_true rfl) mJ_91 (Nat.le_of_ble_eq_true rfl) rfl (ja_X13_branch_ok zs _ _ _ _ _ t_l0 h3) rfl ?_
      refine nk_p (i := .goto 10) (len := 3) (pc' := 537) mJ_228 (by decide +kernel) (ns_goto (by decide +kernel)) rfl ?_
      cases hr
      exact nk_vret (len := 1) mJ_228 (by decide +kernel) rfl
noncomputable def ja_X13_step_b488 (l0 : Nat) (l1 : Int) (l2 : Int) (l3 : Int) (S : nk_S) : Option (Int × nk_S) :=
  if l2 < 8 then
    ja_X13_step_b509 l0 l1 l2 l3 S
  else
    if 17 < l2 then
      ja_X13_step_b509 l0 l1 l2 l3 S
    else
      nk_bd (ja_X13_reckon l0 l2 l1 S) fun r1 S2 =>
      some (0, S2)
theorem ja_X13_step_b488_ok (zs : List Int32) : ∀ (l0 : Nat) (l1 : Int) (l2 : Int) (l3 : Int) (S : nk_S) (R : Int × nk_S), nk_cl ja_Tt l0 = some 13 → ja_X13_step_b488 l0 l1 l2 l3 S = some R → nk_K ja_Tt mi_Γ (mi_ev zs) 0 228 488 [(0, nk_r l0), (1, nk_i l1), (2, nk_i l2), (3, nk_i l3)] [] S R := by
  intro l0 l1 l2 l3 S R t_l0 hr
  unfold ja_X13_step_b488 at hr
  refine nk_p (i := .iload_n 2) (len := 1) (pc' := 489) mJ_228 (by decide +kernel) (ns_iload_n 2 rfl rfl) rfl ?_
  refine nk_p (i := .bipush 8) (len := 2) (pc' := 491) mJ_228 (by decide +kernel) (ns_bipush (c := 8) (by decide +kernel)) rfl ?_
  refine nk_icmp (c := .lt) (off := 18) (len := 3) (t := 509) (pc' := 494) mJ_228 (by decide +kernel) (by decide +kernel) rfl (fun hc => ?_) (fun hc => ?_)
  · have hr := nk_ifp (c := l2 < 8) hc hr
    exact ja_X13_step_b509_ok zs _ _ _ _ _ _ t_l0 hr
  · have hr := nk_ifn (c := l2 < 8) hc hr
    refine nk_p (i := .iload_n 2) (len := 1) (pc' := 495) mJ_228 (by decide +kernel) (ns_iload_n 2 rfl rfl) rfl ?_
    refine nk_p (i := .bipush 17) (len := 2) (pc' := 497) mJ_228 (by decide +kernel) (ns_bipush (c := 17) (by decide +kernel)) rfl ?_
    refine nk_icmp (c := .gt) (off := 12) (len := 3) (t := 509) (pc' := 500) mJ_228 (by decide +kernel) (by decide +kernel) rfl (fun hc => ?_) (fun hc => ?_)
    · have hr := nk_ifp (c := 17 < l2) hc hr
      exact ja_X13_step_b509_ok zs _ _ _ _ _ _ t_l0 hr
    · have hr := nk_ifn (c := 17 < l2) hc hr
      refine nk_p (i := .aload_n 0) (len := 1) (pc' := 501) mJ_228 (by decide +kernel) (ns_aload_n 0 rfl rfl) rfl ?_
      refine nk_p (i := .iload_n 2) (len := 1) (pc' := 502) mJ_228 (by decide +kernel) (ns_iload_n 2 rfl rfl) rfl ?_
      refine nk_p (i := .iload_n 1) (len := 1) (pc' := 503) mJ_228 (by decide +kernel) (ns_iload_n 1 rfl rfl) rfl ?_
      obtain ⟨r1, S2, h3, hr⟩ := nk_bde hr
      refine nk_callV (ci := 13) (n := 2) (x := 889) (len := 3) (j' := 218) (q' := 0) (r := r1) (S' := S2) (L2 := [(0, nk_r l0), (1, nk_i l2), (2, nk_i l1)]) (rest := []) (st' := []) (pc' := 506) mJ_228 (by decide +kernel) (by decide +kernel) rfl rfl t_l0 (Nat.le_of_ble_eq_true rfl) mJ_218 (Nat.le_of_ble_eq_true rfl) rfl (ja_X13_reckon_ok zs _ _ _ _ _ t_l0 h3) rfl ?_
      refine nk_p (i := .goto 31) (len := 3) (pc' := 537) mJ_228 (by decide +kernel) (ns_goto (by decide +kernel)) rfl ?_
      cases hr
      exact nk_vret (len := 1) mJ_228 (by decide +kernel) rfl
noncomputable def ja_X13_step_b393 (l0 : Nat) (s0 : Nat) (s1 : Int) (S : nk_S) : Option (Int × nk_S) :=
  nk_bd (ja_X13_push s0 s1 S) fun r1 S2 =>
  if (S2.1 l0 55) ≤ (S2.1 l0 56) then
    ja_X13_step_b538 l0 S2
  else
    nk_lt (nk_wi S2 l0 56 (nk_w ((S2.1 l0 56) + 1))) fun S4 =>
    ja_X13_step_b538 l0 S4
theorem ja_X13_step_b393_ok (zs : List Int32) : ∀ (l0 : Nat) (s0 : Nat) (s1 : Int) (S : nk_S) (R : Int × nk_S), nk_cl ja_Tt l0 = some 13 → nk_cl ja_Tt s0 = some 13 → ja_X13_step_b393 l0 s0 s1 S = some R → nk_K ja_Tt mi_Γ (mi_ev zs) 0 228 393 [(0, nk_r l0)] [nk_l s1, nk_r s0] S R := by
  intro l0 s0 s1 S R t_l0 t_s0 hr
  unfold ja_X13_step_b393 at hr
  obtain ⟨r1, S2, h3, hr⟩ := nk_bde hr
  refine nk_callV (ci := 13) (n := 1) (x := 882) (len := 3) (j' := 211) (q' := 0) (r := r1) (S' := S2) (L2 := [(0, nk_r s0), (1, nk_l s1)]) (rest := []) (st' := []) (pc' := 396) mJ_228 (by decide +kernel) (by decide +kernel) rfl rfl t_s0 (Nat.le_of_ble_eq_true rfl) mJ_211 (Nat.le_of_ble_eq_true rfl) rfl (ja_X13_push_ok zs _ _ _ _ t_s0 h3) rfl ?_
  refine nk_p (i := .aload_n 0) (len := 1) (pc' := 397) mJ_228 (by decide +kernel) (ns_aload_n 0 rfl rfl) rfl ?_
  refine nk_getI (y := (0, 0)) (x := 814) (len := 3) (ci := 13) (k := 56) (pc' := 400) ja_okT mJ_228 (by decide +kernel) (by decide +kernel) (by decide +kernel) t_l0 rfl ?_
  refine nk_p (i := .aload_n 0) (len := 1) (pc' := 401) mJ_228 (by decide +kernel) (ns_aload_n 0 rfl rfl) rfl ?_
  refine nk_getI (y := (0, 0)) (x := 805) (len := 3) (ci := 13) (k := 55) (pc' := 404) ja_okT mJ_228 (by decide +kernel) (by decide +kernel) (by decide +kernel) t_l0 rfl ?_
  refine nk_icmp (c := .ge) (off := 134) (len := 3) (t := 538) (pc' := 407) mJ_228 (by decide +kernel) (by decide +kernel) rfl (fun hc => ?_) (fun hc => ?_)
  · have hr := nk_ifp (c := (S2.1 l0 55) ≤ (S2.1 l0 56)) hc hr
    exact ja_X13_step_b538_ok zs _ _ _ t_l0 hr
  · have hr := nk_ifn (c := (S2.1 l0 55) ≤ (S2.1 l0 56)) hc hr
    refine nk_p (i := .aload_n 0) (len := 1) (pc' := 408) mJ_228 (by decide +kernel) (ns_aload_n 0 rfl rfl) rfl ?_
    refine nk_p (i := .dup) (len := 1) (pc' := 409) mJ_228 (by decide +kernel) (ns_dup rfl) rfl ?_
    refine nk_getI (y := (0, 0)) (x := 814) (len := 3) (ci := 13) (k := 56) (pc' := 412) ja_okT mJ_228 (by decide +kernel) (by decide +kernel) (by decide +kernel) t_l0 rfl ?_
    refine nk_p (i := .iconst 1) (len := 1) (pc' := 413) mJ_228 (by decide +kernel) (ns_iconst (c := 1) (by decide +kernel)) rfl ?_
    refine nk_p (i := .iadd) (len := 1) (pc' := 414) mJ_228 (by decide +kernel) ns_iadd rfl ?_
    obtain ⟨S4, h5, hr⟩ := nk_lte hr
    refine nk_putI (y := (0, 0)) (ty := .int) (x := 814) (len := 3) (ci := 13) (k := 56) (pc' := 417) ja_okT mJ_228 (by decide +kernel) (by decide +kernel) (by decide +kernel) t_l0 (Or.inl rfl) rfl h5 ?_
    refine nk_p (i := .goto 121) (len := 3) (pc' := 538) mJ_228 (by decide +kernel) (ns_goto (by decide +kernel)) rfl ?_
    exact ja_X13_step_b538_ok zs _ _ _ t_l0 hr
noncomputable def ja_X13_step_b448 (l0 : Nat) (S : nk_S) : Option (Int × nk_S) :=
  nk_lt (nk_wi S l0 57 (nk_w ((S.1 l0 57) + 1))) fun S1 =>
  ja_X13_step_b538 l0 S1
theorem ja_X13_step_b448_ok (zs : List Int32) : ∀ (l0 : Nat) (S : nk_S) (R : Int × nk_S), nk_cl ja_Tt l0 = some 13 → ja_X13_step_b448 l0 S = some R → nk_K ja_Tt mi_Γ (mi_ev zs) 0 228 448 [(0, nk_r l0)] [] S R := by
  intro l0 S R t_l0 hr
  unfold ja_X13_step_b448 at hr
  refine nk_p (i := .aload_n 0) (len := 1) (pc' := 449) mJ_228 (by decide +kernel) (ns_aload_n 0 rfl rfl) rfl ?_
  refine nk_p (i := .dup) (len := 1) (pc' := 450) mJ_228 (by decide +kernel) (ns_dup rfl) rfl ?_
  refine nk_getI (y := (0, 0)) (x := 817) (len := 3) (ci := 13) (k := 57) (pc' := 453) ja_okT mJ_228 (by decide +kernel) (by decide +kernel) (by decide +kernel) t_l0 rfl ?_
  refine nk_p (i := .iconst 1) (len := 1) (pc' := 454) mJ_228 (by decide +kernel) (ns_iconst (c := 1) (by decide +kernel)) rfl ?_
  refine nk_p (i := .iadd) (len := 1) (pc' := 455) mJ_228 (by decide +kernel) ns_iadd rfl ?_
  obtain ⟨S1, h2, hr⟩ := nk_lte hr
  refine nk_putI (y := (0, 0)) (ty := .int) (x := 817) (len := 3) (ci := 13) (k := 57) (pc' := 458) ja_okT mJ_228 (by decide +kernel) (by decide +kernel) (by decide +kernel) t_l0 (Or.inl rfl) rfl h2 ?_
  refine nk_p (i := .goto 80) (len := 3) (pc' := 538) mJ_228 (by decide +kernel) (ns_goto (by decide +kernel)) rfl ?_
  exact ja_X13_step_b538_ok zs _ _ _ t_l0 hr
noncomputable def ja_X13_step (l0 : Nat) (l1 : Int) (S : nk_S) : Option (Int × nk_S) :=
  if 0 ≤ l1 ∧ l1 < 1024 then
  nk_lt (S.1 (ja_c (S.2 l0 0) 22) l1.toNat) fun v4 =>
  nk_lt (S.1 (ja_c (S.2 l0 0) 23) l1.toNat) fun v8 =>
  if v4 = 0 then
    nk_bd (ja_X13_push l0 v8 S) fun r10 S11 =>
    ja_X13_step_b538 l0 S11
  else
  if v4 = 1 then
    nk_bd (ja_X13_push l0 1099511627776 S) fun r13 S14 =>
    ja_X13_step_b538 l0 S14
  else
  if v4 = 2 then
    nk_bd (ja_X13_local l0 v8 S) fun r16 S17 =>
    nk_bd (ja_X13_push l0 r16 S17) fun r19 S20 =>
    ja_X13_step_b538 l0 S20
  else
  if v4 = 3 then
    nk_bd (ja_X13_pop l0 S) fun r23 S24 =>
    if 0 ≤ (nk_w ((nk_w ((nk_w ((S.1 l0 52) - 1)) * 12)) + v8)) ∧ (nk_w ((nk_w ((nk_w ((S.1 l0 52) - 1)) * 12)) + v8)) < 768 then
    nk_lt (nk_wi S24 (ja_c l0 41) (nk_w ((nk_w ((nk_w ((S.1 l0 52) - 1)) * 12)) + v8)).toNat r23) fun S27 =>
    ja_X13_step_b538 l0 S27
    else none
  else
  if v4 = 4 then
    nk_bd (ja_X13_local l0 v8 S) fun r30 S31 =>
    if 0 ≤ (nk_w ((nk_w ((nk_w ((S.1 l0 52) - 1)) * 12)) + v8)) ∧ (nk_w ((nk_w ((nk_w ((S.1 l0 52) - 1)) * 12)) + v8)) < 768 then
    nk_lt (nk_wi S31 (ja_c l0 41) (nk_w ((nk_w ((nk_w ((S.1 l0 52) - 1)) * 12)) + v8)).toNat (nk_w ((nk_w r30) + (S31.1 (ja_c (S31.2 l0 0) 24) l1.toNat)))) fun S36 =>
    ja_X13_step_b538 l0 S36
    else none
  else
  if v4 = 5 then
    nk_bd (ja_X13_pop l0 S) fun r38 S39 =>
    nk_bd (ja_X13_push l0 r38 S39) fun r41 S42 =>
    nk_bd (ja_X13_push l0 r38 S42) fun r44 S45 =>
    ja_X13_step_b538 l0 S45
  else
  if v4 = 6 then
    nk_bd (ja_X13_pop l0 S) fun r47 S48 =>
    ja_X13_step_b538 l0 S48
  else
  if v4 = 7 then
    nk_bd (ja_X13_pop l0 S) fun r50 S51 =>
    nk_bd (ja_X13_pop l0 S51) fun r53 S54 =>
    nk_bd (ja_X13_push l0 r50 S54) fun r56 S57 =>
    nk_bd (ja_X13_push l0 r53 S57) fun r59 S60 =>
    ja_X13_step_b538 l0 S60
  else
  if v4 = 8 then
    ja_X13_step_b488 l0 l1 v4 v8 S
  else
  if v4 = 9 then
    ja_X13_step_b488 l0 l1 v4 v8 S
  else
  if v4 = 10 then
    ja_X13_step_b488 l0 l1 v4 v8 S
  else
  if v4 = 11 then
    ja_X13_step_b488 l0 l1 v4 v8 S
  else
  if v4 = 12 then
    ja_X13_step_b488 l0 l1 v4 v8 S
  else
  if v4 = 13 then
    ja_X13_step_b488 l0 l1 v4 v8 S
  else
  if v4 = 14 then
    ja_X13_step_b488 l0 l1 v4 v8 S
  else
  if v4 = 15 then
    ja_X13_step_b488 l0 l1 v4 v8 S
  else
  if v4 = 16 then
    ja_X13_step_b488 l0 l1 v4 v8 S
  else
  if v4 = 17 then
    ja_X13_step_b488 l0 l1 v4 v8 S
  else
  if v4 = 18 then
    nk_bd (ja_X13_pop l0 S) fun r62 S63 =>
    nk_bd (ja_X13_push l0 (nk_w (-(nk_w r62))) S63) fun r65 S66 =>
    ja_X13_step_b538 l0 S66
  else
  if v4 = 19 then
    if 0 ≤ (nk_w ((S.1 l0 52) - 1)) ∧ (nk_w ((S.1 l0 52) - 1)) < 64 then
    nk_lt (nk_wi S (ja_c l0 44) (nk_w ((S.1 l0 52) - 1)).toNat v8) fun S70 =>
    some (0, S70)
    else none
  else
  if v4 = 20 then
    ja_X13_step_b488 l0 l1 v4 v8 S
  else
  if v4 = 21 then
    ja_X13_step_b488 l0 l1 v4 v8 S
  else
  if v4 = 22 then
    ja_X13_step_b488 l0 l1 v4 v8 S
  else
  if v4 = 23 then
    ja_X13_step_b488 l0 l1 v4 v8 S
  else
  if v4 = 24 then
    ja_X13_step_b488 l0 l1 v4 v8 S
  else
  if v4 = 25 then
    ja_X13_step_b488 l0 l1 v4 v8 S
  else
  if v4 = 26 then
    ja_X13_step_b488 l0 l1 v4 v8 S
  else
  if v4 = 27 then
    ja_X13_step_b488 l0 l1 v4 v8 S
  else
  if v4 = 28 then
    ja_X13_step_b488 l0 l1 v4 v8 S
  else
  if v4 = 29 then
    ja_X13_step_b488 l0 l1 v4 v8 S
  else
  if v4 = 30 then
    ja_X13_step_b488 l0 l1 v4 v8 S
  else
  if v4 = 31 then
    ja_X13_step_b488 l0 l1 v4 v8 S
  else
  if v4 = 32 then
    ja_X13_step_b488 l0 l1 v4 v8 S
  else
  if v4 = 33 then
    ja_X13_step_b488 l0 l1 v4 v8 S
  else
  if v4 = 34 then
    ja_X13_step_b488 l0 l1 v4 v8 S
  else
  if v4 = 35 then
    ja_X13_step_b488 l0 l1 v4 v8 S
  else
  if v4 = 36 then
    ja_X13_step_b488 l0 l1 v4 v8 S
  else
  if v4 = 37 then
    ja_X13_step_b488 l0 l1 v4 v8 S
  else
  if v4 = 38 then
    ja_X13_step_b488 l0 l1 v4 v8 S
  else
  if v4 = 39 then
    ja_X13_step_b488 l0 l1 v4 v8 S
  else
  if v4 = 40 then
    ja_X13_step_b488 l0 l1 v4 v8 S
  else
  if v4 = 41 then
    ja_X13_step_b488 l0 l1 v4 v8 S
  else
  if v4 = 42 then
    ja_X13_step_b488 l0 l1 v4 v8 S
  else
  if v4 = 43 then
    ja_X13_step_b488 l0 l1 v4 v8 S
  else
  if v4 = 44 then
    if (S.1 l0 55) ≤ (S.1 l0 56) then
      ja_X13_step_b393 l0 l0 0 S
    else
      if 0 ≤ (S.1 l0 56) ∧ (S.1 l0 56) < 256 then
      ja_X13_step_b393 l0 l0 (S.1 (ja_c l0 50) (S.1 l0 56).toNat) S
      else none
  else
  if v4 = 45 then
    nk_bd (ja_X13_pop l0 S) fun r74 S75 =>
    nk_lt (nk_w r74) fun v77 =>
    if 256 ≤ (S75.1 l0 57) then
      ja_X13_step_b448 l0 S75
    else
      if 0 ≤ (S75.1 l0 57) ∧ (S75.1 l0 57) < 256 then
      nk_lt (nk_wi S75 (ja_c l0 51) (S75.1 l0 57).toNat v77) fun S81 =>
      ja_X13_step_b448 l0 S81
      else none
  else
  ja_X13_step_b488 l0 l1 v4 v8 S
  else none
theorem ja_X13_step_ok (zs : List Int32) : ∀ (l0 : Nat) (l1 : Int) (S : nk_S) (R : Int × nk_S), nk_cl ja_Tt l0 = some 13 → ja_X13_step l0 l1 S = some R → nk_K ja_Tt mi_Γ (mi_ev zs) 0 228 0 [(0, nk_r l0), (1, nk_i l1)] [] S R := by
  intro l0 l1 S R t_l0 hr
  unfold ja_X13_step at hr
  refine nk_p (i := .aload_n 0) (len := 1) (pc' := 1) mJ_228 (by decide +kernel) (ns_aload_n 0 rfl rfl) rfl ?_
  refine nk_getM (cj := 12) (z := 0) (x := 12) (len := 3) (ci := 13) (k := 0) (pc' := 4) ja_okT mJ_228 (by decide +kernel) (by decide +kernel) (by decide +kernel) t_l0 rfl (fun t1 => ?_)
  refine nk_getC (f := (4, 1, 1024)) (x := 391) (len := 3) (ci := 12) (k := 22) (pc' := 7) ja_okT mJ_228 (by decide +kernel) (by decide +kernel) (by decide +kernel) (by decide) t1 rfl ?_
  have t2 : nk_ar ja_Tt (ja_c (S.2 l0 0) 22) = some (1, 1024) := nk_ta ja_okT t1 (by decide +kernel)
  refine nk_p (i := .iload_n 1) (len := 1) (pc' := 8) mJ_228 (by decide +kernel) (ns_iload_n 1 rfl rfl) rfl ?_
  obtain ⟨h3, hr⟩ := nk_cke hr
  refine nk_iald (len := 1) (N := 1024) (pc' := 9) mJ_228 (by decide +kernel) t2 h3.1 h3.2 rfl rfl ?_
  obtain ⟨v4, h5, hr⟩ := nk_lte hr
  refine nk_p (i := .istore_n 2) (len := 1) (pc' := 10) mJ_228 (by decide +kernel) (ns_istore_n (L' := [(2, nk_i v4), (0, nk_r l0), (1, nk_i l1)]) h5 rfl rfl (by decide +kernel)) rfl ?_
  refine nk_p (i := .aload_n 0) (len := 1) (pc' := 11) mJ_228 (by decide +kernel) (ns_aload_n 1 rfl rfl) rfl ?_
  refine nk_getM (cj := 12) (z := 0) (x := 12) (len := 3) (ci := 13) (k := 0) (pc' := 14) ja_okT mJ_228 (by decide +kernel) (by decide +kernel) (by decide +kernel) t_l0 rfl (fun t6 => ?_)
  refine nk_getC (f := (4, 1, 1024)) (x := 414) (len := 3) (ci := 12) (k := 23) (pc' := 17) ja_okT mJ_228 (by decide +kernel) (by decide +kernel) (by decide +kernel) (by decide) t6 rfl ?_
  have t7 : nk_ar ja_Tt (ja_c (S.2 l0 0) 23) = some (1, 1024) := nk_ta ja_okT t6 (by decide +kernel)
  refine nk_p (i := .iload_n 1) (len := 1) (pc' := 18) mJ_228 (by decide +kernel) (ns_iload_n 2 rfl rfl) rfl ?_
  refine nk_iald (len := 1) (N := 1024) (pc' := 19) mJ_228 (by decide +kernel) t7 h3.1 h3.2 rfl rfl ?_
  obtain ⟨v8, h9, hr⟩ := nk_lte hr
  refine nk_p (i := .istore_n 3) (len := 1) (pc' := 20) mJ_228 (by decide +kernel) (ns_istore_n (L' := [(3, nk_i v8), (2, nk_i v4), (0, nk_r l0), (1, nk_i l1)]) h9 rfl rfl (by decide +kernel)) rfl ?_
  refine nk_p (i := .iload_n 2) (len := 1) (pc' := 21) mJ_228 (by decide +kernel) (ns_iload_n 1 rfl rfl) rfl ?_
  by_cases hc0 : v4 = 0
  · have hr := nk_ifp hc0 hr
    refine nk_p (i := .tableswitch 467 0 45 #[199, 208, 218, 230, 253, 289, 310, 319, 467, 467, 467, 467, 467, 467, 467, 467, 467, 467, 453, 440, 467, 467, 467, 467, 467, 467, 467, 467, 467, 467, 467, 467, 467, 467, 467, 467, 467, 467, 467, 467, 467, 467, 467, 467, 346, 399]) (len := 199) (pc' := 220) mJ_228 (by decide +kernel) (ns_tsw (V := 0) hc0 (by decide +kernel)) rfl ?_
    refine nk_p (i := .aload_n 0) (len := 1) (pc' := 221) mJ_228 (by decide +kernel) (ns_aload_n 2 rfl rfl) rfl ?_
    refine nk_p (i := .iload_n 3) (len := 1) (pc' := 222) mJ_228 (by decide +kernel) (ns_iload_n 0 rfl rfl) rfl ?_
    refine nk_p (i := .i2l) (len := 1) (pc' := 223) mJ_228 (by decide +kernel) ns_i2l rfl ?_
    obtain ⟨r10, S11, h12, hr⟩ := nk_bde hr
    refine nk_callV (ci := 13) (n := 1) (x := 882) (len := 3) (j' := 211) (q' := 0) (r := r10) (S' := S11) (L2 := [(0, nk_r l0), (1, nk_l v8)]) (rest := []) (st' := []) (pc' := 226) mJ_228 (by decide +kernel) (by decide +kernel) rfl rfl t_l0 (Nat.le_of_ble_eq_true rfl) mJ_211 (Nat.le_of_ble_eq_true rfl) rfl (ja_X13_push_ok zs _ _ _ _ t_l0 h12) rfl ?_
    refine nk_p (i := .goto 312) (len := 3) (pc' := 538) mJ_228 (by decide +kernel) (ns_goto (by decide +kernel)) rfl ?_
    refine nk_sub [2] (L' := [(0, nk_r l0)]) rfl ?_
    exact ja_X13_step_b538_ok zs _ _ _ t_l0 hr
  have hr := nk_ifn hc0 hr
  by_cases hc1 : v4 = 1
  · have hr := nk_ifp hc1 hr
    refine nk_p (i := .tableswitch 467 0 45 #[199, 208, 218, 230, 253, 289, 310, 319, 467, 467, 467, 467, 467, 467, 467, 467, 467, 467, 453, 440, 467, 467, 467, 467, 467, 467, 467, 467, 467, 467, 467, 467, 467, 467, 467, 467, 467, 467, 467, 467, 467, 467, 467, 467, 346, 399]) (len := 199) (pc' := 229) mJ_228 (by decide +kernel) (ns_tsw (V := 1) hc1 (by decide +kernel)) rfl ?_
    refine nk_p (i := .aload_n 0) (len := 1) (pc' := 230) mJ_228 (by decide +kernel) (ns_aload_n 2 rfl rfl) rfl ?_
    refine nk_ldc2 (x := 846) (len := 3) (X := 1099511627776) (v := 1099511627776) (pc' := 233) mJ_228 (by decide +kernel) (by decide +kernel) (by decide +kernel) rfl ?_
    obtain ⟨r13, S14, h15, hr⟩ := nk_bde hr
    refine nk_callV (ci := 13) (n := 1) (x := 882) (len := 3) (j' := 211) (q' := 0) (r := r13) (S' := S14) (L2 := [(0, nk_r l0), (1, nk_l 1099511627776)]) (rest := []) (st' := []) (pc' := 236) mJ_228 (by decide +kernel) (by decide +kernel) rfl rfl t_l0 (Nat.le_of_ble_eq_true rfl) mJ_211 (Nat.le_of_ble_eq_true rfl) rfl (ja_X13_push_ok zs _ _ _ _ t_l0 h15) rfl ?_
    refine nk_p (i := .goto 302) (len := 3) (pc' := 538) mJ_228 (by decide +kernel) (ns_goto (by decide +kernel)) rfl ?_
    refine nk_sub [2] (L' := [(0, nk_r l0)]) rfl ?_
    exact ja_X13_step_b538_ok zs _ _ _ t_l0 hr
  have hr := nk_ifn hc1 hr
  by_cases hc2 : v4 = 2
  · have hr := nk_ifp hc2 hr
    refine nk_p (i := .tableswitch 467 0 45 #[199, 208, 218, 230, 253, 289, 310, 319, 467, 467, 467, 467, 467, 467, 467, 467, 467, 467, 453, 440, 467, 467, 467, 467, 467, 467, 467, 467, 467, 467, 467, 467, 467, 467, 467, 467, 467, 467, 467, 467, 467, 467, 467, 467, 346, 399]) (len := 199) (pc' := 239) mJ_228 (by decide +kernel) (ns_tsw (V := 2) hc2 (by decide +kernel)) rfl ?_
    refine nk_p (i := .aload_n 0) (len := 1) (pc' := 240) mJ_228 (by decide +kernel) (ns_aload_n 2 rfl rfl) rfl ?_
    refine nk_p (i := .aload_n 0) (len := 1) (pc' := 241) mJ_228 (by decide +kernel) (ns_aload_n 2 rfl rfl) rfl ?_
    refine nk_p (i := .iload_n 3) (len := 1) (pc' := 242) mJ_228 (by decide +kernel) (ns_iload_n 0 rfl rfl) rfl ?_
    obtain ⟨r16, S17, h18, hr⟩ := nk_bde hr
    refine nk_callV (ci := 13) (n := 1) (x := 856) (len := 3) (j' := 185) (q' := 2) (r := r16) (S' := S17) (L2 := [(0, nk_r l0), (1, nk_i v8)]) (rest := [nk_r l0]) (st' := [nk_l r16, nk_r l0]) (pc' := 245) mJ_228 (by decide +kernel) (by decide +kernel) rfl rfl t_l0 (Nat.le_of_ble_eq_true rfl) mJ_185 (Nat.le_of_ble_eq_true rfl) rfl (ja_X13_local_ok zs _ _ _ _ t_l0 h18) rfl ?_
    obtain ⟨r19, S20, h21, hr⟩ := nk_bde hr
    refine nk_callV (ci := 13) (n := 1) (x := 882) (len := 3) (j' := 211) (q' := 0) (r := r19) (S' := S20) (L2 := [(0, nk_r l0), (1, nk_l r16)]) (rest := []) (st' := []) (pc' := 248) mJ_228 (by decide +kernel) (by decide +kernel) rfl rfl t_l0 (Nat.le_of_ble_eq_true rfl) mJ_211 (Nat.le_of_ble_eq_true rfl) rfl (ja_X13_push_ok zs _ _ _ _ t_l0 h21) rfl ?_
    refine nk_p (i := .goto 290) (len := 3) (pc' := 538) mJ_228 (by decide +kernel) (ns_goto (by decide +kernel)) rfl ?_
    refine nk_sub [2] (L' := [(0, nk_r l0)]) rfl ?_
    exact ja_X13_step_b538_ok zs _ _ _ t_l0 hr
  have hr := nk_ifn hc2 hr
  by_cases hc3 : v4 = 3
  · have hr := nk_ifp hc3 hr
    refine nk_p (i := .tableswitch 467 0 45 #[199, 208, 218, 230, 253, 289, 310, 319, 467, 467, 467, 467, 467, 467, 467, 467, 467, 467, 453, 440, 467, 467, 467, 467, 467, 467, 467, 467, 467, 467, 467, 467, 467, 467, 467, 467, 467, 467, 467, 467, 467, 467, 467, 467, 346, 399]) (len := 199) (pc' := 251) mJ_228 (by decide +kernel) (ns_tsw (V := 3) hc3 (by decide +kernel)) rfl ?_
    refine nk_p (i := .aload_n 0) (len := 1) (pc' := 252) mJ_228 (by decide +kernel) (ns_aload_n 2 rfl rfl) rfl ?_
    refine nk_getC (f := (4, 2, 768)) (x := 102) (len := 3) (ci := 13) (k := 41) (pc' := 255) ja_okT mJ_228 (by decide +kernel) (by decide +kernel) (by decide +kernel) (by decide) t_l0 rfl ?_
    have t22 : nk_ar ja_Tt (ja_c l0 41) = some (2, 768) := nk_ta ja_okT t_l0 (by decide +kernel)
    refine nk_p (i := .aload_n 0) (len := 1) (pc' := 256) mJ_228 (by decide +kernel) (ns_aload_n 2 rfl rfl) rfl ?_
    refine nk_getI (y := (0, 0)) (x := 823) (len := 3) (ci := 13) (k := 52) (pc' := 259) ja_okT mJ_228 (by decide +kernel) (by decide +kernel) (by decide +kernel) t_l0 rfl ?_
    refine nk_p (i := .iconst 1) (len := 1) (pc' := 260) mJ_228 (by decide +kernel) (ns_iconst (c := 1) (by decide +kernel)) rfl ?_
    refine nk_p (i := .isub) (len := 1) (pc' := 261) mJ_228 (by decide +kernel) ns_isub rfl ?_
    refine nk_p (i := .bipush 12) (len := 2) (pc' := 263) mJ_228 (by decide +kernel) (ns_bipush (c := 12) (by decide +kernel)) rfl ?_
    refine nk_p (i := .imul) (len := 1) (pc' := 264) mJ_228 (by decide +kernel) ns_imul rfl ?_
    refine nk_p (i := .iload_n 3) (len := 1) (pc' := 265) mJ_228 (by decide +kernel) (ns_iload_n 0 rfl rfl) rfl ?_
    refine nk_p (i := .iadd) (len := 1) (pc' := 266) mJ_228 (by decide +kernel) ns_iadd rfl ?_
    refine nk_p (i := .aload_n 0) (len := 1) (pc' := 267) mJ_228 (by decide +kernel) (ns_aload_n 2 rfl rfl) rfl ?_
    obtain ⟨r23, S24, h25, hr⟩ := nk_bde hr
    refine nk_callV (ci := 13) (n := 0) (x := 885) (len := 3) (j' := 208) (q' := 2) (r := r23) (S' := S24) (L2 := [(0, nk_r l0)]) (rest := [nk_i (nk_w ((nk_w ((nk_w ((S.1 l0 52) - 1)) * 12)) + v8)), nk_r (ja_c l0 41)]) (st' := [nk_l r23, nk_i (nk_w ((nk_w ((nk_w ((S.1 l0 52) - 1)) * 12)) + v8)), nk_r (ja_c l0 41)]) (pc' := 270) mJ_228 (by decide +kernel) (by decide +kernel) rfl rfl t_l0 (Nat.le_of_ble_eq_true rfl) mJ_208 (Nat.le_of_ble_eq_true rfl) rfl (ja_X13_pop_ok zs _ _ _ t_l0 h25) rfl ?_
    obtain ⟨h26, hr⟩ := nk_cke hr
    obtain ⟨S27, h28, hr⟩ := nk_lte hr
    refine nk_last (len := 1) (N := 768) (pc' := 271) mJ_228 (by decide +kernel) t22 h26.1 h26.2 rfl rfl h28 ?_
    refine nk_p (i := .goto 267) (len := 3) (pc' := 538) mJ_228 (by decide +kernel) (ns_goto (by decide +kernel)) rfl ?_
    refine nk_sub [2] (L' := [(0, nk_r l0)]) rfl ?_
    exact ja_X13_step_b538_ok zs _ _ _ t_l0 hr
  have hr := nk_ifn hc3 hr
  by_cases hc4 : v4 = 4
  · have hr := nk_ifp hc4 hr
    refine nk_p (i := .tableswitch 467 0 45 #[199, 208, 218, 230, 253, 289, 310, 319, 467, 467, 467, 467, 467, 467, 467, 467, 467, 467, 453, 440, 467, 467, 467, 467, 467, 467, 467, 467, 467, 467, 467, 467, 467, 467, 467, 467, 467, 467, 467, 467, 467, 467, 467, 467, 346, 399]) (len := 199) (pc' := 274) mJ_228 (by decide +kernel) (ns_tsw (V := 4) hc4 (by decide +kernel)) rfl ?_
    refine nk_p (i := .aload_n 0) (len := 1) (pc' := 275) mJ_228 (by decide +kernel) (ns_aload_n 2 rfl rfl) rfl ?_
    refine nk_getC (f := (4, 2, 768)) (x := 102) (len := 3) (ci := 13) (k := 41) (pc' := 278) ja_okT mJ_228 (by decide +kernel) (by decide +kernel) (by decide +kernel) (by decide) t_l0 rfl ?_
    have t29 : nk_ar ja_Tt (ja_c l0 41) = some (2, 768) := nk_ta ja_okT t_l0 (by decide +kernel)
    refine nk_p (i := .aload_n 0) (len := 1) (pc' := 279) mJ_228 (by decide +kernel) (ns_aload_n 2 rfl rfl) rfl ?_
    refine nk_getI (y := (0, 0)) (x := 823) (len := 3) (ci := 13) (k := 52) (pc' := 282) ja_okT mJ_228 (by decide +kernel) (by decide +kernel) (by decide +kernel) t_l0 rfl ?_
    refine nk_p (i := .iconst 1) (len := 1) (pc' := 283) mJ_228 (by decide +kernel) (ns_iconst (c := 1) (by decide +kernel)) rfl ?_
    refine nk_p (i := .isub) (len := 1) (pc' := 284) mJ_228 (by decide +kernel) ns_isub rfl ?_
    refine nk_p (i := .bipush 12) (len := 2) (pc' := 286) mJ_228 (by decide +kernel) (ns_bipush (c := 12) (by decide +kernel)) rfl ?_
    refine nk_p (i := .imul) (len := 1) (pc' := 287) mJ_228 (by decide +kernel) ns_imul rfl ?_
    refine nk_p (i := .iload_n 3) (len := 1) (pc' := 288) mJ_228 (by decide +kernel) (ns_iload_n 0 rfl rfl) rfl ?_
    refine nk_p (i := .iadd) (len := 1) (pc' := 289) mJ_228 (by decide +kernel) ns_iadd rfl ?_
    refine nk_p (i := .aload_n 0) (len := 1) (pc' := 290) mJ_228 (by decide +kernel) (ns_aload_n 2 rfl rfl) rfl ?_
    refine nk_p (i := .iload_n 3) (len := 1) (pc' := 291) mJ_228 (by decide +kernel) (ns_iload_n 0 rfl rfl) rfl ?_
    obtain ⟨r30, S31, h32, hr⟩ := nk_bde hr
    refine nk_callV (ci := 13) (n := 1) (x := 856) (len := 3) (j' := 185) (q' := 2) (r := r30) (S' := S31) (L2 := [(0, nk_r l0), (1, nk_i v8)]) (rest := [nk_i (nk_w ((nk_w ((nk_w ((S.1 l0 52) - 1)) * 12)) + v8)), nk_r (ja_c l0 41)]) (st' := [nk_l r30, nk_i (nk_w ((nk_w ((nk_w ((S.1 l0 52) - 1)) * 12)) + v8)), nk_r (ja_c l0 41)]) (pc' := 294) mJ_228 (by decide +kernel) (by decide +kernel) rfl rfl t_l0 (Nat.le_of_ble_eq_true rfl) mJ_185 (Nat.le_of_ble_eq_true rfl) rfl (ja_X13_local_ok zs _ _ _ _ t_l0 h32) rfl ?_
    refine nk_p (i := .l2i) (len := 1) (pc' := 295) mJ_228 (by decide +kernel) ns_l2i rfl ?_
    refine nk_p (i := .aload_n 0) (len := 1) (pc' := 296) mJ_228 (by decide +kernel) (ns_aload_n 2 rfl rfl) rfl ?_
    refine nk_getM (cj := 12) (z := 0) (x := 12) (len := 3) (ci := 13) (k := 0) (pc' := 299) ja_okT mJ_228 (by decide +kernel) (by decide +kernel) (by decide +kernel) t_l0 rfl (fun t33 => ?_)
    refine nk_getC (f := (4, 1, 1024)) (x := 417) (len := 3) (ci := 12) (k := 24) (pc' := 302) ja_okT mJ_228 (by decide +kernel) (by decide +kernel) (by decide +kernel) (by decide) t33 rfl ?_
    have t34 : nk_ar ja_Tt (ja_c (S31.2 l0 0) 24) = some (1, 1024) := nk_ta ja_okT t33 (by decide +kernel)
    refine nk_p (i := .iload_n 1) (len := 1) (pc' := 303) mJ_228 (by decide +kernel) (ns_iload_n 3 rfl rfl) rfl ?_
    refine nk_iald (len := 1) (N := 1024) (pc' := 304) mJ_228 (by decide +kernel) t34 h3.1 h3.2 rfl rfl ?_
    refine nk_p (i := .iadd) (len := 1) (pc' := 305) mJ_228 (by decide +kernel) ns_iadd rfl ?_
    refine nk_p (i := .i2l) (len := 1) (pc' := 306) mJ_228 (by decide +kernel) ns_i2l rfl ?_
    obtain ⟨h35, hr⟩ := nk_cke hr
    obtain ⟨S36, h37, hr⟩ := nk_lte hr
    refine nk_last (len := 1) (N := 768) (pc' := 307) mJ_228 (by decide +kernel) t29 h35.1 h35.2 rfl rfl h37 ?_
    refine nk_p (i := .goto 231) (len := 3) (pc' := 538) mJ_228 (by decide +kernel) (ns_goto (by decide +kernel)) rfl ?_
    refine nk_sub [2] (L' := [(0, nk_r l0)]) rfl ?_
    exact ja_X13_step_b538_ok zs _ _ _ t_l0 hr
  have hr := nk_ifn hc4 hr
  by_cases hc5 : v4 = 5
  · have hr := nk_ifp hc5 hr
    refine nk_p (i := .tableswitch 467 0 45 #[199, 208, 218, 230, 253, 289, 310, 319, 467, 467, 467, 467, 467, 467, 467, 467, 467, 467, 453, 440, 467, 467, 467, 467, 467, 467, 467, 467, 467, 467, 467, 467, 467, 467, 467, 467, 467, 467, 467, 467, 467, 467, 467, 467, 346, 399]) (len := 199) (pc' := 310) mJ_228 (by decide +kernel) (ns_tsw (V := 5) hc5 (by decide +kernel)) rfl ?_
    refine nk_p (i := .aload_n 0) (len := 1) (pc' := 311) mJ_228 (by decide +kernel) (ns_aload_n 2 rfl rfl) rfl ?_
    obtain ⟨r38, S39, h40, hr⟩ := nk_bde hr
    refine nk_callV (ci := 13) (n := 0) (x := 885) (len := 3) (j' := 208) (q' := 2) (r := r38) (S' := S39) (L2 := [(0, nk_r l0)]) (rest := []) (st' := [nk_l r38]) (pc' := 314) mJ_228 (by decide +kernel) (by decide +kernel) rfl rfl t_l0 (Nat.le_of_ble_eq_true rfl) mJ_208 (Nat.le_of_ble_eq_true rfl) rfl (ja_X13_pop_ok zs _ _ _ t_l0 h40) rfl ?_
    refine nk_p (i := .lstore 4) (len := 2) (pc' := 316) mJ_228 (by decide +kernel) (ns_lstore (L' := [(4, nk_l r38), (3, nk_i v8), (2, nk_i v4), (0, nk_r l0), (1, nk_i l1)]) rfl rfl (by decide +kernel)) rfl ?_
    refine nk_p (i := .aload_n 0) (len := 1) (pc' := 317) mJ_228 (by decide +kernel) (ns_aload_n 3 rfl rfl) rfl ?_
    refine nk_p (i := .lload 4) (len := 2) (pc' := 319) mJ_228 (by decide +kernel) (ns_lload 0 rfl) rfl ?_
    obtain ⟨r41, S42, h43, hr⟩ := nk_bde hr
    refine nk_callV (ci := 13) (n := 1) (x := 882) (len := 3) (j' := 211) (q' := 0) (r := r41) (S' := S42) (L2 := [(0, nk_r l0), (1, nk_l r38)]) (rest := []) (st' := []) (pc' := 322) mJ_228 (by decide +kernel) (by decide +kernel) rfl rfl t_l0 (Nat.le_of_ble_eq_true rfl) mJ_211 (Nat.le_of_ble_eq_true rfl) rfl (ja_X13_push_ok zs _ _ _ _ t_l0 h43) rfl ?_
    refine nk_p (i := .aload_n 0) (len := 1) (pc' := 323) mJ_228 (by decide +kernel) (ns_aload_n 3 rfl rfl) rfl ?_
    refine nk_p (i := .lload 4) (len := 2) (pc' := 325) mJ_228 (by decide +kernel) (ns_lload 0 rfl) rfl ?_
    obtain ⟨r44, S45, h46, hr⟩ := nk_bde hr
    refine nk_callV (ci := 13) (n := 1) (x := 882) (len := 3) (j' := 211) (q' := 0) (r := r44) (S' := S45) (L2 := [(0, nk_r l0), (1, nk_l r38)]) (rest := []) (st' := []) (pc' := 328) mJ_228 (by decide +kernel) (by decide +kernel) rfl rfl t_l0 (Nat.le_of_ble_eq_true rfl) mJ_211 (Nat.le_of_ble_eq_true rfl) rfl (ja_X13_push_ok zs _ _ _ _ t_l0 h46) rfl ?_
    refine nk_p (i := .goto 210) (len := 3) (pc' := 538) mJ_228 (by decide +kernel) (ns_goto (by decide +kernel)) rfl ?_
    refine nk_sub [3] (L' := [(0, nk_r l0)]) rfl ?_
    exact ja_X13_step_b538_ok zs _ _ _ t_l0 hr
  have hr := nk_ifn hc5 hr
  by_cases hc6 : v4 = 6
  · have hr := nk_ifp hc6 hr
    refine nk_p (i := .tableswitch 467 0 45 #[199, 208, 218, 230, 253, 289, 310, 319, 467, 467, 467, 467, 467, 467, 467, 467, 467, 467, 453, 440, 467, 467, 467, 467, 467, 467, 467, 467, 467, 467, 467, 467, 467, 467, 467, 467, 467, 467, 467, 467, 467, 467, 467, 467, 346, 399]) (len := 199) (pc' := 331) mJ_228 (by decide +kernel) (ns_tsw (V := 6) hc6 (by decide +kernel)) rfl ?_
    refine nk_p (i := .aload_n 0) (len := 1) (pc' := 332) mJ_228 (by decide +kernel) (ns_aload_n 2 rfl rfl) rfl ?_
    obtain ⟨r47, S48, h49, hr⟩ := nk_bde hr
    refine nk_callV (ci := 13) (n := 0) (x := 885) (len := 3) (j' := 208) (q' := 2) (r := r47) (S' := S48) (L2 := [(0, nk_r l0)]) (rest := []) (st' := [nk_l r47]) (pc' := 335) mJ_228 (by decide +kernel) (by decide +kernel) rfl rfl t_l0 (Nat.le_of_ble_eq_true rfl) mJ_208 (Nat.le_of_ble_eq_true rfl) rfl (ja_X13_pop_ok zs _ _ _ t_l0 h49) rfl ?_
    refine nk_p (i := .lstore 6) (len := 2) (pc' := 337) mJ_228 (by decide +kernel) (ns_lstore (L' := [(6, nk_l r47), (3, nk_i v8), (2, nk_i v4), (0, nk_r l0), (1, nk_i l1)]) rfl rfl (by decide +kernel)) rfl ?_
    refine nk_p (i := .goto 201) (len := 3) (pc' := 538) mJ_228 (by decide +kernel) (ns_goto (by decide +kernel)) rfl ?_
    refine nk_sub [3] (L' := [(0, nk_r l0)]) rfl ?_
    exact ja_X13_step_b538_ok zs _ _ _ t_l0 hr
  have hr := nk_ifn hc6 hr
  by_cases hc7 : v4 = 7
  · have hr := nk_ifp hc7 hr
    refine nk_p (i := .tableswitch 467 0 45 #[199, 208, 218, 230, 253, 289, 310, 319, 467, 467, 467, 467, 467, 467, 467, 467, 467, 467, 453, 440, 467, 467, 467, 467, 467, 467, 467, 467, 467, 467, 467, 467, 467, 467, 467, 467, 467, 467, 467, 467, 467, 467, 467, 467, 346, 399]) (len := 199) (pc' := 340) mJ_228 (by decide +kernel) (ns_tsw (V := 7) hc7 (by decide +kernel)) rfl ?_
    refine nk_p (i := .aload_n 0) (len := 1) (pc' := 341) mJ_228 (by decide +kernel) (ns_aload_n 2 rfl rfl) rfl ?_
    obtain ⟨r50, S51, h52, hr⟩ := nk_bde hr
    refine nk_callV (ci := 13) (n := 0) (x := 885) (len := 3) (j' := 208) (q' := 2) (r := r50) (S' := S51) (L2 := [(0, nk_r l0)]) (rest := []) (st' := [nk_l r50]) (pc' := 344) mJ_228 (by decide +kernel) (by decide +kernel) rfl rfl t_l0 (Nat.le_of_ble_eq_true rfl) mJ_208 (Nat.le_of_ble_eq_true rfl) rfl (ja_X13_pop_ok zs _ _ _ t_l0 h52) rfl ?_
    refine nk_p (i := .lstore 8) (len := 2) (pc' := 346) mJ_228 (by decide +kernel) (ns_lstore (L' := [(8, nk_l r50), (3, nk_i v8), (2, nk_i v4), (0, nk_r l0), (1, nk_i l1)]) rfl rfl (by decide +kernel)) rfl ?_
    refine nk_p (i := .aload_n 0) (len := 1) (pc' := 347) mJ_228 (by decide +kernel) (ns_aload_n 3 rfl rfl) rfl ?_
    obtain ⟨r53, S54, h55, hr⟩ := nk_bde hr
    refine nk_callV (ci := 13) (n := 0) (x := 885) (len := 3) (j' := 208) (q' := 2) (r := r53) (S' := S54) (L2 := [(0, nk_r l0)]) (rest := []) (st' := [nk_l r53]) (pc' := 350) mJ_228 (by decide +kernel) (by decide +kernel) rfl rfl t_l0 (Nat.le_of_ble_eq_true rfl) mJ_208 (Nat.le_of_ble_eq_true rfl) rfl (ja_X13_pop_ok zs _ _ _ t_l0 h55) rfl ?_
    refine nk_p (i := .lstore 10) (len := 2) (pc' := 352) mJ_228 (by decide +kernel) (ns_lstore (L' := [(10, nk_l r53), (8, nk_l r50), (3, nk_i v8), (2, nk_i v4), (0, nk_r l0), (1, nk_i l1)]) rfl rfl (by decide +kernel)) rfl ?_
    refine nk_p (i := .aload_n 0) (len := 1) (pc' := 353) mJ_228 (by decide +kernel) (ns_aload_n 4 rfl rfl) rfl ?_
    refine nk_p (i := .lload 8) (len := 2) (pc' := 355) mJ_228 (by decide +kernel) (ns_lload 1 rfl) rfl ?_
    obtain ⟨r56, S57, h58, hr⟩ := nk_bde hr
    refine nk_callV (ci := 13) (n := 1) (x := 882) (len := 3) (j' := 211) (q' := 0) (r := r56) (S' := S57) (L2 := [(0, nk_r l0), (1, nk_l r50)]) (rest := []) (st' := []) (pc' := 358) mJ_228 (by decide +kernel) (by decide +kernel) rfl rfl t_l0 (Nat.le_of_ble_eq_true rfl) mJ_211 (Nat.le_of_ble_eq_true rfl) rfl (ja_X13_push_ok zs _ _ _ _ t_l0 h58) rfl ?_
    refine nk_p (i := .aload_n 0) (len := 1) (pc' := 359) mJ_228 (by decide +kernel) (ns_aload_n 4 rfl rfl) rfl ?_
    refine nk_p (i := .lload 10) (len := 2) (pc' := 361) mJ_228 (by decide +kernel) (ns_lload 0 rfl) rfl ?_
    obtain ⟨r59, S60, h61, hr⟩ := nk_bde hr
    refine nk_callV (ci := 13) (n := 1) (x := 882) (len := 3) (j' := 211) (q' := 0) (r := r59) (S' := S60) (L2 := [(0, nk_r l0), (1, nk_l r53)]) (rest := []) (st' := []) (pc' := 364) mJ_228 (by decide +kernel) (by decide +kernel) rfl rfl t_l0 (Nat.le_of_ble_eq_true rfl) mJ_211 (Nat.le_of_ble_eq_true rfl) rfl (ja_X13_push_ok zs _ _ _ _ t_l0 h61) rfl ?_
    refine nk_p (i := .goto 174) (len := 3) (pc' := 538) mJ_228 (by decide +kernel) (ns_goto (by decide +kernel)) rfl ?_
    refine nk_sub [4] (L' := [(0, nk_r l0)]) rfl ?_
    exact ja_X13_step_b538_ok zs _ _ _ t_l0 hr
  have hr := nk_ifn hc7 hr
  by_cases hc8 : v4 = 8
  · have hr := nk_ifp hc8 hr
    refine nk_p (i := .tableswitch 467 0 45 #[199, 208, 218, 230, 253, 289, 310, 319, 467, 467, 467, 467, 467, 467, 467, 467, 467, 467, 453, 440, 467, 467, 467, 467, 467, 467, 467, 467, 467, 467, 467, 467, 467, 467, 467, 467, 467, 467, 467, 467, 467, 467, 467, 467, 346, 399]) (len := 199) (pc' := 488) mJ_228 (by decide +kernel) (ns_tsw (V := 8) hc8 (by decide +kernel)) rfl ?_
    refine nk_sub [2, 3, 1, 0] (L' := [(0, nk_r l0), (1, nk_i l1), (2, nk_i v4), (3, nk_i v8)]) rfl ?_
    exact ja_X13_step_b488_ok zs _ _ _ _ _ _ t_l0 hr
  have hr := nk_ifn hc8 hr
  by_cases hc9 : v4 = 9
  · have hr := nk_ifp hc9 hr
    refine nk_p (i := .tableswitch 467 0 45 #[199, 208, 218, 230, 253, 289, 310, 319, 467, 467, 467, 467, 467, 467, 467, 467, 467, 467, 453, 440, 467, 467, 467, 467, 467, 467, 467, 467, 467, 467, 467, 467, 467, 467, 467, 467, 467, 467, 467, 467, 467, 467, 467, 467, 346, 399]) (len := 199) (pc' := 488) mJ_228 (by decide +kernel) (ns_tsw (V := 9) hc9 (by decide +kernel)) rfl ?_
    refine nk_sub [2, 3, 1, 0] (L' := [(0, nk_r l0), (1, nk_i l1), (2, nk_i v4), (3, nk_i v8)]) rfl ?_
    exact ja_X13_step_b488_ok zs _ _ _ _ _ _ t_l0 hr
  have hr := nk_ifn hc9 hr
  by_cases hc10 : v4 = 10
  · have hr := nk_ifp hc10 hr
    refine nk_p (i := .tableswitch 467 0 45 #[199, 208, 218, 230, 253, 289, 310, 319, 467, 467, 467, 467, 467, 467, 467, 467, 467, 467, 453, 440, 467, 467, 467, 467, 467, 467, 467, 467, 467, 467, 467, 467, 467, 467, 467, 467, 467, 467, 467, 467, 467, 467, 467, 467, 346, 399]) (len := 199) (pc' := 488) mJ_228 (by decide +kernel) (ns_tsw (V := 10) hc10 (by decide +kernel)) rfl ?_
    refine nk_sub [2, 3, 1, 0] (L' := [(0, nk_r l0), (1, nk_i l1), (2, nk_i v4), (3, nk_i v8)]) rfl ?_
    exact ja_X13_step_b488_ok zs _ _ _ _ _ _ t_l0 hr
  have hr := nk_ifn hc10 hr
  by_cases hc11 : v4 = 11
  · have hr := nk_ifp hc11 hr
    refine nk_p (i := .tableswitch 467 0 45 #[199, 208, 218, 230, 253, 289, 310, 319, 467, 467, 467, 467, 467, 467, 467, 467, 467, 467, 453, 440, 467, 467, 467, 467, 467, 467, 467, 467, 467, 467, 467, 467, 467, 467, 467, 467, 467, 467, 467, 467, 467, 467, 467, 467, 346, 399]) (len := 199) (pc' := 488) mJ_228 (by decide +kernel) (ns_tsw (V := 11) hc11 (by decide +kernel)) rfl ?_
    refine nk_sub [2, 3, 1, 0] (L' := [(0, nk_r l0), (1, nk_i l1), (2, nk_i v4), (3, nk_i v8)]) rfl ?_
    exact ja_X13_step_b488_ok zs _ _ _ _ _ _ t_l0 hr
  have hr := nk_ifn hc11 hr
  by_cases hc12 : v4 = 12
  · have hr := nk_ifp hc12 hr
    refine nk_p (i := .tableswitch 467 0 45 #[199, 208, 218, 230, 253, 289, 310, 319, 467, 467, 467, 467, 467, 467, 467, 467, 467, 467, 453, 440, 467, 467, 467, 467, 467, 467, 467, 467, 467, 467, 467, 467, 467, 467, 467, 467, 467, 467, 467, 467, 467, 467, 467, 467, 346, 399]) (len := 199) (pc' := 488) mJ_228 (by decide +kernel) (ns_tsw (V := 12) hc12 (by decide +kernel)) rfl ?_
    refine nk_sub [2, 3, 1, 0] (L' := [(0, nk_r l0), (1, nk_i l1), (2, nk_i v4), (3, nk_i v8)]) rfl ?_
    exact ja_X13_step_b488_ok zs _ _ _ _ _ _ t_l0 hr
  have hr := nk_ifn hc12 hr
  by_cases hc13 : v4 = 13
  · have hr := nk_ifp hc13 hr
    refine nk_p (i := .tableswitch 467 0 45 #[199, 208, 218, 230, 253, 289, 310, 319, 467, 467, 467, 467, 467, 467, 467, 467, 467, 467, 453, 440, 467, 467, 467, 467, 467, 467, 467, 467, 467, 467, 467, 467, 467, 467, 467, 467, 467, 467, 467, 467, 467, 467, 467, 467, 346, 399]) (len := 199) (pc' := 488) mJ_228 (by decide +kernel) (ns_tsw (V := 13) hc13 (by decide +kernel)) rfl ?_
    refine nk_sub [2, 3, 1, 0] (L' := [(0, nk_r l0), (1, nk_i l1), (2, nk_i v4), (3, nk_i v8)]) rfl ?_
    exact ja_X13_step_b488_ok zs _ _ _ _ _ _ t_l0 hr
  have hr := nk_ifn hc13 hr
  by_cases hc14 : v4 = 14
  · have hr := nk_ifp hc14 hr
    refine nk_p (i := .tableswitch 467 0 45 #[199, 208, 218, 230, 253, 289, 310, 319, 467, 467, 467, 467, 467, 467, 467, 467, 467, 467, 453, 440, 467, 467, 467, 467, 467, 467, 467, 467, 467, 467, 467, 467, 467, 467, 467, 467, 467, 467, 467, 467, 467, 467, 467, 467, 346, 399]) (len := 199) (pc' := 488) mJ_228 (by decide +kernel) (ns_tsw (V := 14) hc14 (by decide +kernel)) rfl ?_
    refine nk_sub [2, 3, 1, 0] (L' := [(0, nk_r l0), (1, nk_i l1), (2, nk_i v4), (3, nk_i v8)]) rfl ?_
    exact ja_X13_step_b488_ok zs _ _ _ _ _ _ t_l0 hr
  have hr := nk_ifn hc14 hr
  by_cases hc15 : v4 = 15
  · have hr := nk_ifp hc15 hr
    refine nk_p (i := .tableswitch 467 0 45 #[199, 208, 218, 230, 253, 289, 310, 319, 467, 467, 467, 467, 467, 467, 467, 467, 467, 467, 453, 440, 467, 467, 467, 467, 467, 467, 467, 467, 467, 467, 467, 467, 467, 467, 467, 467, 467, 467, 467, 467, 467, 467, 467, 467, 346, 399]) (len := 199) (pc' := 488) mJ_228 (by decide +kernel) (ns_tsw (V := 15) hc15 (by decide +kernel)) rfl ?_
    refine nk_sub [2, 3, 1, 0] (L' := [(0, nk_r l0), (1, nk_i l1), (2, nk_i v4), (3, nk_i v8)]) rfl ?_
    exact ja_X13_step_b488_ok zs _ _ _ _ _ _ t_l0 hr
  have hr := nk_ifn hc15 hr
  by_cases hc16 : v4 = 16
  · have hr := nk_ifp hc16 hr
    refine nk_p (i := .tableswitch 467 0 45 #[199, 208, 218, 230, 253, 289, 310, 319, 467, 467, 467, 467, 467, 467, 467, 467, 467, 467, 453, 440, 467, 467, 467, 467, 467, 467, 467, 467, 467, 467, 467, 467, 467, 467, 467, 467, 467, 467, 467, 467, 467, 467, 467, 467, 346, 399]) (len := 199) (pc' := 488) mJ_228 (by decide +kernel) (ns_tsw (V := 16) hc16 (by decide +kernel)) rfl ?_
    refine nk_sub [2, 3, 1, 0] (L' := [(0, nk_r l0), (1, nk_i l1), (2, nk_i v4), (3, nk_i v8)]) rfl ?_
    exact ja_X13_step_b488_ok zs _ _ _ _ _ _ t_l0 hr
  have hr := nk_ifn hc16 hr
  by_cases hc17 : v4 = 17
  · have hr := nk_ifp hc17 hr
    refine nk_p (i := .tableswitch 467 0 45 #[199, 208, 218, 230, 253, 289, 310, 319, 467, 467, 467, 467, 467, 467, 467, 467, 467, 467, 453, 440, 467, 467, 467, 467, 467, 467, 467, 467, 467, 467, 467, 467, 467, 467, 467, 467, 467, 467, 467, 467, 467, 467, 467, 467, 346, 399]) (len := 199) (pc' := 488) mJ_228 (by decide +kernel) (ns_tsw (V := 17) hc17 (by decide +kernel)) rfl ?_
    refine nk_sub [2, 3, 1, 0] (L' := [(0, nk_r l0), (1, nk_i l1), (2, nk_i v4), (3, nk_i v8)]) rfl ?_
    exact ja_X13_step_b488_ok zs _ _ _ _ _ _ t_l0 hr
  have hr := nk_ifn hc17 hr
  by_cases hc18 : v4 = 18
  · have hr := nk_ifp hc18 hr
    refine nk_p (i := .tableswitch 467 0 45 #[199, 208, 218, 230, 253, 289, 310, 319, 467, 467, 467, 467, 467, 467, 467, 467, 467, 467, 453, 440, 467, 467, 467, 467, 467, 467, 467, 467, 467, 467, 467, 467, 467, 467, 467, 467, 467, 467, 467, 467, 467, 467, 467, 467, 346, 399]) (len := 199) (pc' := 474) mJ_228 (by decide +kernel) (ns_tsw (V := 18) hc18 (by decide +kernel)) rfl ?_
    refine nk_p (i := .aload_n 0) (len := 1) (pc' := 475) mJ_228 (by decide +kernel) (ns_aload_n 2 rfl rfl) rfl ?_
    refine nk_p (i := .aload_n 0) (len := 1) (pc' := 476) mJ_228 (by decide +kernel) (ns_aload_n 2 rfl rfl) rfl ?_
    obtain ⟨r62, S63, h64, hr⟩ := nk_bde hr
    refine nk_callV (ci := 13) (n := 0) (x := 885) (len := 3) (j' := 208) (q' := 2) (r := r62) (S' := S63) (L2 := [(0, nk_r l0)]) (rest := [nk_r l0]) (st' := [nk_l r62, nk_r l0]) (pc' := 479) mJ_228 (by decide +kernel) (by decide +kernel) rfl rfl t_l0 (Nat.le_of_ble_eq_true rfl) mJ_208 (Nat.le_of_ble_eq_true rfl) rfl (ja_X13_pop_ok zs _ _ _ t_l0 h64) rfl ?_
    refine nk_p (i := .l2i) (len := 1) (pc' := 480) mJ_228 (by decide +kernel) ns_l2i rfl ?_
    refine nk_p (i := .ineg) (len := 1) (pc' := 481) mJ_228 (by decide +kernel) ns_ineg rfl ?_
    refine nk_p (i := .i2l) (len := 1) (pc' := 482) mJ_228 (by decide +kernel) ns_i2l rfl ?_
    obtain ⟨r65, S66, h67, hr⟩ := nk_bde hr
    refine nk_callV (ci := 13) (n := 1) (x := 882) (len := 3) (j' := 211) (q' := 0) (r := r65) (S' := S66) (L2 := [(0, nk_r l0), (1, nk_l (nk_w (-(nk_w r62))))]) (rest := []) (st' := []) (pc' := 485) mJ_228 (by decide +kernel) (by decide +kernel) rfl rfl t_l0 (Nat.le_of_ble_eq_true rfl) mJ_211 (Nat.le_of_ble_eq_true rfl) rfl (ja_X13_push_ok zs _ _ _ _ t_l0 h67) rfl ?_
    refine nk_p (i := .goto 53) (len := 3) (pc' := 538) mJ_228 (by decide +kernel) (ns_goto (by decide +kernel)) rfl ?_
    refine nk_sub [2] (L' := [(0, nk_r l0)]) rfl ?_
    exact ja_X13_step_b538_ok zs _ _ _ t_l0 hr
  have hr := nk_ifn hc18 hr
  by_cases hc19 : v4 = 19
  · have hr := nk_ifp hc19 hr
    refine nk_p (i := .tableswitch 467 0 45 #[199, 208, 218, 230, 253, 289, 310, 319, 467, 467, 467, 467, 467, 467, 467, 467, 467, 467, 453, 440, 467, 467, 467, 467, 467, 467, 467, 467, 467, 467, 467, 467, 467, 467, 467, 467, 467, 467, 467, 467, 467, 467, 467, 467, 346, 399]) (len := 199) (pc' := 461) mJ_228 (by decide +kernel) (ns_tsw (V := 19) hc19 (by decide +kernel)) rfl ?_
    refine nk_p (i := .aload_n 0) (len := 1) (pc' := 462) mJ_228 (by decide +kernel) (ns_aload_n 2 rfl rfl) rfl ?_
    refine nk_getC (f := (4, 1, 64)) (x := 111) (len := 3) (ci := 13) (k := 44) (pc' := 465) ja_okT mJ_228 (by decide +kernel) (by decide +kernel) (by decide +kernel) (by decide) t_l0 rfl ?_
    have t68 : nk_ar ja_Tt (ja_c l0 44) = some (1, 64) := nk_ta ja_okT t_l0 (by decide +kernel)
    refine nk_p (i := .aload_n 0) (len := 1) (pc' := 466) mJ_228 (by decide +kernel) (ns_aload_n 2 rfl rfl) rfl ?_
    refine nk_getI (y := (0, 0)) (x := 823) (len := 3) (ci := 13) (k := 52) (pc' := 469) ja_okT mJ_228 (by decide +kernel) (by decide +kernel) (by decide +kernel) t_l0 rfl ?_
    refine nk_p (i := .iconst 1) (len := 1) (pc' := 470) mJ_228 (by decide +kernel) (ns_iconst (c := 1) (by decide +kernel)) rfl ?_
    refine nk_p (i := .isub) (len := 1) (pc' := 471) mJ_228 (by decide +kernel) ns_isub rfl ?_
    refine nk_p (i := .iload_n 3) (len := 1) (pc' := 472) mJ_228 (by decide +kernel) (ns_iload_n 0 rfl rfl) rfl ?_
    obtain ⟨h69, hr⟩ := nk_cke hr
    obtain ⟨S70, h71, hr⟩ := nk_lte hr
    refine nk_iast (len := 1) (N := 64) (pc' := 473) mJ_228 (by decide +kernel) t68 h69.1 h69.2 rfl rfl h71 ?_
    cases hr
    exact nk_vret (len := 1) mJ_228 (by decide +kernel) rfl
  have hr := nk_ifn hc19 hr
  by_cases hc20 : v4 = 20
  · have hr := nk_ifp hc20 hr
    refine nk_p (i := .tableswitch 467 0 45 #[199, 208, 218, 230, 253, 289, 310, 319, 467, 467, 467, 467, 467, 467, 467, 467, 467, 467, 453, 440, 467, 467, 467, 467, 467, 467, 467, 467, 467, 467, 467, 467, 467, 467, 467, 467, 467, 467, 467, 467, 467, 467, 467, 467, 346, 399]) (len := 199) (pc' := 488) mJ_228 (by decide +kernel) (ns_tsw (V := 20) hc20 (by decide +kernel)) rfl ?_
    refine nk_sub [2, 3, 1, 0] (L' := [(0, nk_r l0), (1, nk_i l1), (2, nk_i v4), (3, nk_i v8)]) rfl ?_
    exact ja_X13_step_b488_ok zs _ _ _ _ _ _ t_l0 hr
  have hr := nk_ifn hc20 hr
  by_cases hc21 : v4 = 21
  · have hr := nk_ifp hc21 hr
    refine nk_p (i := .tableswitch 467 0 45 #[199, 208, 218, 230, 253, 289, 310, 319, 467, 467, 467, 467, 467, 467, 467, 467, 467, 467, 453, 440, 467, 467, 467, 467, 467, 467, 467, 467, 467, 467, 467, 467, 467, 467, 467, 467, 467, 467, 467, 467, 467, 467, 467, 467, 346, 399]) (len := 199) (pc' := 488) mJ_228 (by decide +kernel) (ns_tsw (V := 21) hc21 (by decide +kernel)) rfl ?_
    refine nk_sub [2, 3, 1, 0] (L' := [(0, nk_r l0), (1, nk_i l1), (2, nk_i v4), (3, nk_i v8)]) rfl ?_
    exact ja_X13_step_b488_ok zs _ _ _ _ _ _ t_l0 hr
  have hr := nk_ifn hc21 hr
  by_cases hc22 : v4 = 22
  · have hr := nk_ifp hc22 hr
    refine nk_p (i := .tableswitch 467 0 45 #[199, 208, 218, 230, 253, 289, 310, 319, 467, 467, 467, 467, 467, 467, 467, 467, 467, 467, 453, 440, 467, 467, 467, 467, 467, 467, 467, 467, 467, 467, 467, 467, 467, 467, 467, 467, 467, 467, 467, 467, 467, 467, 467, 467, 346, 399]) (len := 199) (pc' := 488) mJ_228 (by decide +kernel) (ns_tsw (V := 22) hc22 (by decide +kernel)) rfl ?_
    refine nk_sub [2, 3, 1, 0] (L' := [(0, nk_r l0), (1, nk_i l1), (2, nk_i v4), (3, nk_i v8)]) rfl ?_
    exact ja_X13_step_b488_ok zs _ _ _ _ _ _ t_l0 hr
  have hr := nk_ifn hc22 hr
  by_cases hc23 : v4 = 23
  · have hr := nk_ifp hc23 hr
    refine nk_p (i := .tableswitch 467 0 45 #[199, 208, 218, 230, 253, 289, 310, 319, 467, 467, 467, 467, 467, 467, 467, 467, 467, 467, 453, 440, 467, 467, 467, 467, 467, 467, 467, 467, 467, 467, 467, 467, 467, 467, 467, 467, 467, 467, 467, 467, 467, 467, 467, 467, 346, 399]) (len := 199) (pc' := 488) mJ_228 (by decide +kernel) (ns_tsw (V := 23) hc23 (by decide +kernel)) rfl ?_
    refine nk_sub [2, 3, 1, 0] (L' := [(0, nk_r l0), (1, nk_i l1), (2, nk_i v4), (3, nk_i v8)]) rfl ?_
    exact ja_X13_step_b488_ok zs _ _ _ _ _ _ t_l0 hr
  have hr := nk_ifn hc23 hr
  by_cases hc24 : v4 = 24
  · have hr := nk_ifp hc24 hr
    refine nk_p (i := .tableswitch 467 0 45 #[199, 208, 218, 230, 253, 289, 310, 319, 467, 467, 467, 467, 467, 467, 467, 467, 467, 467, 453, 440, 467, 467, 467, 467, 467, 467, 467, 467, 467, 467, 467, 467, 467, 467, 467, 467, 467, 467, 467, 467, 467, 467, 467, 467, 346, 399]) (len := 199) (pc' := 488) mJ_228 (by decide +kernel) (ns_tsw (V := 24) hc24 (by decide +kernel)) rfl ?_
    refine nk_sub [2, 3, 1, 0] (L' := [(0, nk_r l0), (1, nk_i l1), (2, nk_i v4), (3, nk_i v8)]) rfl ?_
    exact ja_X13_step_b488_ok zs _ _ _ _ _ _ t_l0 hr
  have hr := nk_ifn hc24 hr
  by_cases hc25 : v4 = 25
  · have hr := nk_ifp hc25 hr
    refine nk_p (i := .tableswitch 467 0 45 #[199, 208, 218, 230, 253, 289, 310, 319, 467, 467, 467, 467, 467, 467, 467, 467, 467, 467, 453, 440, 467, 467, 467, 467, 467, 467, 467, 467, 467, 467, 467, 467, 467, 467, 467, 467, 467, 467, 467, 467, 467, 467, 467, 467, 346, 399]) (len := 199) (pc' := 488) mJ_228 (by decide +kernel) (ns_tsw (V := 25) hc25 (by decide +kernel)) rfl ?_
    refine nk_sub [2, 3, 1, 0] (L' := [(0, nk_r l0), (1, nk_i l1), (2, nk_i v4), (3, nk_i v8)]) rfl ?_
    exact ja_X13_step_b488_ok zs _ _ _ _ _ _ t_l0 hr
  have hr := nk_ifn hc25 hr
  by_cases hc26 : v4 = 26
  · have hr := nk_ifp hc26 hr
    refine nk_p (i := .tableswitch 467 0 45 #[199, 208, 218, 230, 253, 289, 310, 319, 467, 467, 467, 467, 467, 467, 467, 467, 467, 467, 453, 440, 467, 467, 467, 467, 467, 467, 467, 467, 467, 467, 467, 467, 467, 467, 467, 467, 467, 467, 467, 467, 467, 467, 467, 467, 346, 399]) (len := 199) (pc' := 488) mJ_228 (by decide +kernel) (ns_tsw (V := 26) hc26 (by decide +kernel)) rfl ?_
    refine nk_sub [2, 3, 1, 0] (L' := [(0, nk_r l0), (1, nk_i l1), (2, nk_i v4), (3, nk_i v8)]) rfl ?_
    exact ja_X13_step_b488_ok zs _ _ _ _ _ _ t_l0 hr
  have hr := nk_ifn hc26 hr
  by_cases hc27 : v4 = 27
  · have hr := nk_ifp hc27 hr
    refine nk_p (i := .tableswitch 467 0 45 #[199, 208, 218, 230, 253, 289, 310, 319, 467, 467, 467, 467, 467, 467, 467, 467, 467, 467, 453, 440, 467, 467, 467, 467, 467, 467, 467, 467, 467, 467, 467, 467, 467, 467, 467, 467, 467, 467, 467, 467, 467, 467, 467, 467, 346, 399]) (len := 199) (pc' := 488) mJ_228 (by decide +kernel) (ns_tsw (V := 27) hc27 (by decide +kernel)) rfl ?_
    refine nk_sub [2, 3, 1, 0] (L' := [(0, nk_r l0), (1, nk_i l1), (2, nk_i v4), (3, nk_i v8)]) rfl ?_
    exact ja_X13_step_b488_ok zs _ _ _ _ _ _ t_l0 hr
  have hr := nk_ifn hc27 hr
  by_cases hc28 : v4 = 28
  · have hr := nk_ifp hc28 hr
    refine nk_p (i := .tableswitch 467 0 45 #[199, 208, 218, 230, 253, 289, 310, 319, 467, 467, 467, 467, 467, 467, 467, 467, 467, 467, 453, 440, 467, 467, 467, 467, 467, 467, 467, 467, 467, 467, 467, 467, 467, 467, 467, 467, 467, 467, 467, 467, 467, 467, 467, 467, 346, 399]) (len := 199) (pc' := 488) mJ_228 (by decide +kernel) (ns_tsw (V := 28) hc28 (by decide +kernel)) rfl ?_
    refine nk_sub [2, 3, 1, 0] (L' := [(0, nk_r l0), (1, nk_i l1), (2, nk_i v4), (3, nk_i v8)]) rfl ?_
    exact ja_X13_step_b488_ok zs _ _ _ _ _ _ t_l0 hr
  have hr := nk_ifn hc28 hr
  by_cases hc29 : v4 = 29
  · have hr := nk_ifp hc29 hr
    refine nk_p (i := .tableswitch 467 0 45 #[199, 208, 218, 230, 253, 289, 310, 319, 467, 467, 467, 467, 467, 467, 467, 467, 467, 467, 453, 440, 467, 467, 467, 467, 467, 467, 467, 467, 467, 467, 467, 467, 467, 467, 467, 467, 467, 467, 467, 467, 467, 467, 467, 467, 346, 399]) (len := 199) (pc' := 488) mJ_228 (by decide +kernel) (ns_tsw (V := 29) hc29 (by decide +kernel)) rfl ?_
    refine nk_sub [2, 3, 1, 0] (L' := [(0, nk_r l0), (1, nk_i l1), (2, nk_i v4), (3, nk_i v8)]) rfl ?_
    exact ja_X13_step_b488_ok zs _ _ _ _ _ _ t_l0 hr
  have hr := nk_ifn hc29 hr
  by_cases hc30 : v4 = 30
  · have hr := nk_ifp hc30 hr
    refine nk_p (i := .tableswitch 467 0 45 #[199, 208, 218, 230, 253, 289, 310, 319, 467, 467, 467, 467, 467, 467, 467, 467, 467, 467, 453, 440, 467, 467, 467, 467, 467, 467, 467, 467, 467, 467, 467, 467, 467, 467, 467, 467, 467, 467, 467, 467, 467, 467, 467, 467, 346, 399]) (len := 199) (pc' := 488) mJ_228 (by decide +kernel) (ns_tsw (V := 30) hc30 (by decide +kernel)) rfl ?_
    refine nk_sub [2, 3, 1, 0] (L' := [(0, nk_r l0), (1, nk_i l1), (2, nk_i v4), (3, nk_i v8)]) rfl ?_
    exact ja_X13_step_b488_ok zs _ _ _ _ _ _ t_l0 hr
  have hr := nk_ifn hc30 hr
  by_cases hc31 : v4 = 31
  · have hr := nk_ifp hc31 hr
    refine nk_p (i := .tableswitch 467 0 45 #[199, 208, 218, 230, 253, 289, 310, 319, 467, 467, 467, 467, 467, 467, 467, 467, 467, 467, 453, 440, 467, 467, 467, 467, 467, 467, 467, 467, 467, 467, 467, 467, 467, 467, 467, 467, 467, 467, 467, 467, 467, 467, 467, 467, 346, 399]) (len := 199) (pc' := 488) mJ_228 (by decide +kernel) (ns_tsw (V := 31) hc31 (by decide +kernel)) rfl ?_
    refine nk_sub [2, 3, 1, 0] (L' := [(0, nk_r l0), (1, nk_i l1), (2, nk_i v4), (3, nk_i v8)]) rfl ?_
    exact ja_X13_step_b488_ok zs _ _ _ _ _ _ t_l0 hr
  have hr := nk_ifn hc31 hr
  by_cases hc32 : v4 = 32
  · have hr := nk_ifp hc32 hr
    refine nk_p (i := .tableswitch 467 0 45 #[199, 208, 218, 230, 253, 289, 310, 319, 467, 467, 467, 467, 467, 467, 467, 467, 467, 467, 453, 440, 467, 467, 467, 467, 467, 467, 467, 467, 467, 467, 467, 467, 467, 467, 467, 467, 467, 467, 467, 467, 467, 467, 467, 467, 346, 399]) (len := 199) (pc' := 488) mJ_228 (by decide +kernel) (ns_tsw (V := 32) hc32 (by decide +kernel)) rfl ?_
    refine nk_sub [2, 3, 1, 0] (L' := [(0, nk_r l0), (1, nk_i l1), (2, nk_i v4), (3, nk_i v8)]) rfl ?_
    exact ja_X13_step_b488_ok zs _ _ _ _ _ _ t_l0 hr
  have hr := nk_ifn hc32 hr
  by_cases hc33 : v4 = 33
  · have hr := nk_ifp hc33 hr
    refine nk_p (i := .tableswitch 467 0 45 #[199, 208, 218, 230, 253, 289, 310, 319, 467, 467, 467, 467, 467, 467, 467, 467, 467, 467, 453, 440, 467, 467, 467, 467, 467, 467, 467, 467, 467, 467, 467, 467, 467, 467, 467, 467, 467, 467, 467, 467, 467, 467, 467, 467, 346, 399]) (len := 199) (pc' := 488) mJ_228 (by decide +kernel) (ns_tsw (V := 33) hc33 (by decide +kernel)) rfl ?_
    refine nk_sub [2, 3, 1, 0] (L' := [(0, nk_r l0), (1, nk_i l1), (2, nk_i v4), (3, nk_i v8)]) rfl ?_
    exact ja_X13_step_b488_ok zs _ _ _ _ _ _ t_l0 hr
  have hr := nk_ifn hc33 hr
  by_cases hc34 : v4 = 34
  · have hr := nk_ifp hc34 hr
    refine nk_p (i := .tableswitch 467 0 45 #[199, 208, 218, 230, 253, 289, 310, 319, 467, 467, 467, 467, 467, 467, 467, 467, 467, 467, 453, 440, 467, 467, 467, 467, 467, 467, 467, 467, 467, 467, 467, 467, 467, 467, 467, 467, 467, 467, 467, 467, 467, 467, 467, 467, 346, 399]) (len := 199) (pc' := 488) mJ_228 (by decide +kernel) (ns_tsw (V := 34) hc34 (by decide +kernel)) rfl ?_
    refine nk_sub [2, 3, 1, 0] (L' := [(0, nk_r l0), (1, nk_i l1), (2, nk_i v4), (3, nk_i v8)]) rfl ?_
    exact ja_X13_step_b488_ok zs _ _ _ _ _ _ t_l0 hr
  have hr := nk_ifn hc34 hr
  by_cases hc35 : v4 = 35
  · have hr := nk_ifp hc35 hr
    refine nk_p (i := .tableswitch 467 0 45 #[199, 208, 218, 230, 253, 289, 310, 319, 467, 467, 467, 467, 467, 467, 467, 467, 467, 467, 453, 440, 467, 467, 467, 467, 467, 467, 467, 467, 467, 467, 467, 467, 467, 467, 467, 467, 467, 467, 467, 467, 467, 467, 467, 467, 346, 399]) (len := 199) (pc' := 488) mJ_228 (by decide +kernel) (ns_tsw (V := 35) hc35 (by decide +kernel)) rfl ?_
    refine nk_sub [2, 3, 1, 0] (L' := [(0, nk_r l0), (1, nk_i l1), (2, nk_i v4), (3, nk_i v8)]) rfl ?_
    exact ja_X13_step_b488_ok zs _ _ _ _ _ _ t_l0 hr
  have hr := nk_ifn hc35 hr
  by_cases hc36 : v4 = 36
  · have hr := nk_ifp hc36 hr
    refine nk_p (i := .tableswitch 467 0 45 #[199, 208, 218, 230, 253, 289, 310, 319, 467, 467, 467, 467, 467, 467, 467, 467, 467, 467, 453, 440, 467, 467, 467, 467, 467, 467, 467, 467, 467, 467, 467, 467, 467, 467, 467, 467, 467, 467, 467, 467, 467, 467, 467, 467, 346, 399]) (len := 199) (pc' := 488) mJ_228 (by decide +kernel) (ns_tsw (V := 36) hc36 (by decide +kernel)) rfl ?_
    refine nk_sub [2, 3, 1, 0] (L' := [(0, nk_r l0), (1, nk_i l1), (2, nk_i v4), (3, nk_i v8)]) rfl ?_
    exact ja_X13_step_b488_ok zs _ _ _ _ _ _ t_l0 hr
  have hr := nk_ifn hc36 hr
  by_cases hc37 : v4 = 37
  · have hr := nk_ifp hc37 hr
    refine nk_p (i := .tableswitch 467 0 45 #[199, 208, 218, 230, 253, 289, 310, 319, 467, 467, 467, 467, 467, 467, 467, 467, 467, 467, 453, 440, 467, 467, 467, 467, 467, 467, 467, 467, 467, 467, 467, 467, 467, 467, 467, 467, 467, 467, 467, 467, 467, 467, 467, 467, 346, 399]) (len := 199) (pc' := 488) mJ_228 (by decide +kernel) (ns_tsw (V := 37) hc37 (by decide +kernel)) rfl ?_
    refine nk_sub [2, 3, 1, 0] (L' := [(0, nk_r l0), (1, nk_i l1), (2, nk_i v4), (3, nk_i v8)]) rfl ?_
    exact ja_X13_step_b488_ok zs _ _ _ _ _ _ t_l0 hr
  have hr := nk_ifn hc37 hr
  by_cases hc38 : v4 = 38
  · have hr := nk_ifp hc38 hr
    refine nk_p (i := .tableswitch 467 0 45 #[199, 208, 218, 230, 253, 289, 310, 319, 467, 467, 467, 467, 467, 467, 467, 467, 467, 467, 453, 440, 467, 467, 467, 467, 467, 467, 467, 467, 467, 467, 467, 467, 467, 467, 467, 467, 467, 467, 467, 467, 467, 467, 467, 467, 346, 399]) (len := 199) (pc' := 488) mJ_228 (by decide +kernel) (ns_tsw (V := 38) hc38 (by decide +kernel)) rfl ?_
    refine nk_sub [2, 3, 1, 0] (L' := [(0, nk_r l0), (1, nk_i l1), (2, nk_i v4), (3, nk_i v8)]) rfl ?_
    exact ja_X13_step_b488_ok zs _ _ _ _ _ _ t_l0 hr
  have hr := nk_ifn hc38 hr
  by_cases hc39 : v4 = 39
  · have hr := nk_ifp hc39 hr
    refine nk_p (i := .tableswitch 467 0 45 #[199, 208, 218, 230, 253, 289, 310, 319, 467, 467, 467, 467, 467, 467, 467, 467, 467, 467, 453, 440, 467, 467, 467, 467, 467, 467, 467, 467, 467, 467, 467, 467, 467, 467, 467, 467, 467, 467, 467, 467, 467, 467, 467, 467, 346, 399]) (len := 199) (pc' := 488) mJ_228 (by decide +kernel) (ns_tsw (V := 39) hc39 (by decide +kernel)) rfl ?_
    refine nk_sub [2, 3, 1, 0] (L' := [(0, nk_r l0), (1, nk_i l1), (2, nk_i v4), (3, nk_i v8)]) rfl ?_
    exact ja_X13_step_b488_ok zs _ _ _ _ _ _ t_l0 hr
  have hr := nk_ifn hc39 hr
  by_cases hc40 : v4 = 40
  · have hr := nk_ifp hc40 hr
    refine nk_p (i := .tableswitch 467 0 45 #[199, 208, 218, 230, 253, 289, 310, 319, 467, 467, 467, 467, 467, 467, 467, 467, 467, 467, 453, 440, 467, 467, 467, 467, 467, 467, 467, 467, 467, 467, 467, 467, 467, 467, 467, 467, 467, 467, 467, 467, 467, 467, 467, 467, 346, 399]) (len := 199) (pc' := 488) mJ_228 (by decide +kernel) (ns_tsw (V := 40) hc40 (by decide +kernel)) rfl ?_
    refine nk_sub [2, 3, 1, 0] (L' := [(0, nk_r l0), (1, nk_i l1), (2, nk_i v4), (3, nk_i v8)]) rfl ?_
    exact ja_X13_step_b488_ok zs _ _ _ _ _ _ t_l0 hr
  have hr := nk_ifn hc40 hr
  by_cases hc41 : v4 = 41
  · have hr := nk_ifp hc41 hr
    refine nk_p (i := .tableswitch 467 0 45 #[199, 208, 218, 230, 253, 289, 310, 319, 467, 467, 467, 467, 467, 467, 467, 467, 467, 467, 453, 440, 467, 467, 467, 467, 467, 467, 467, 467, 467, 467, 467, 467, 467, 467, 467, 467, 467, 467, 467, 467, 467, 467, 467, 467, 346, 399]) (len := 199) (pc' := 488) mJ_228 (by decide +kernel) (ns_tsw (V := 41) hc41 (by decide +kernel)) rfl ?_
    refine nk_sub [2, 3, 1, 0] (L' := [(0, nk_r l0), (1, nk_i l1), (2, nk_i v4), (3, nk_i v8)]) rfl ?_
    exact ja_X13_step_b488_ok zs _ _ _ _ _ _ t_l0 hr
  have hr := nk_ifn hc41 hr
  by_cases hc42 : v4 = 42
  · have hr := nk_ifp hc42 hr
    refine nk_p (i := .tableswitch 467 0 45 #[199, 208, 218, 230, 253, 289, 310, 319, 467, 467, 467, 467, 467, 467, 467, 467, 467, 467, 453, 440, 467, 467, 467, 467, 467, 467, 467, 467, 467, 467, 467, 467, 467, 467, 467, 467, 467, 467, 467, 467, 467, 467, 467, 467, 346, 399]) (len := 199) (pc' := 488) mJ_228 (by decide +kernel) (ns_tsw (V := 42) hc42 (by decide +kernel)) rfl ?_
    refine nk_sub [2, 3, 1, 0] (L' := [(0, nk_r l0), (1, nk_i l1), (2, nk_i v4), (3, nk_i v8)]) rfl ?_
    exact ja_X13_step_b488_ok zs _ _ _ _ _ _ t_l0 hr
  have hr := nk_ifn hc42 hr
  by_cases hc43 : v4 = 43
  · have hr := nk_ifp hc43 hr
    refine nk_p (i := .tableswitch 467 0 45 #[199, 208, 218, 230, 253, 289, 310, 319, 467, 467, 467, 467, 467, 467, 467, 467, 467, 467, 453, 440, 467, 467, 467, 467, 467, 467, 467, 467, 467, 467, 467, 467, 467, 467, 467, 467, 467, 467, 467, 467, 467, 467, 467, 467, 346, 399]) (len := 199) (pc' := 488) mJ_228 (by decide +kernel) (ns_tsw (V := 43) hc43 (by decide +kernel)) rfl ?_
    refine nk_sub [2, 3, 1, 0] (L' := [(0, nk_r l0), (1, nk_i l1), (2, nk_i v4), (3, nk_i v8)]) rfl ?_
    exact ja_X13_step_b488_ok zs _ _ _ _ _ _ t_l0 hr
  have hr := nk_ifn hc43 hr
  by_cases hc44 : v4 = 44
  · have hr := nk_ifp hc44 hr
    refine nk_p (i := .tableswitch 467 0 45 #[199, 208, 218, 230, 253, 289, 310, 319, 467, 467, 467, 467, 467, 467, 467, 467, 467, 467, 453, 440, 467, 467, 467, 467, 467, 467, 467, 467, 467, 467, 467, 467, 467, 467, 467, 467, 467, 467, 467, 467, 467, 467, 467, 467, 346, 399]) (len := 199) (pc' := 367) mJ_228 (by decide +kernel) (ns_tsw (V := 44) hc44 (by decide +kernel)) rfl ?_
    refine nk_p (i := .aload_n 0) (len := 1) (pc' := 368) mJ_228 (by decide +kernel) (ns_aload_n 2 rfl rfl) rfl ?_
    refine nk_p (i := .aload_n 0) (len := 1) (pc' := 369) mJ_228 (by decide +kernel) (ns_aload_n 2 rfl rfl) rfl ?_
    refine nk_getI (y := (0, 0)) (x := 814) (len := 3) (ci := 13) (k := 56) (pc' := 372) ja_okT mJ_228 (by decide +kernel) (by decide +kernel) (by decide +kernel) t_l0 rfl ?_
    refine nk_p (i := .aload_n 0) (len := 1) (pc' := 373) mJ_228 (by decide +kernel) (ns_aload_n 2 rfl rfl) rfl ?_
    refine nk_getI (y := (0, 0)) (x := 805) (len := 3) (ci := 13) (k := 55) (pc' := 376) ja_okT mJ_228 (by decide +kernel) (by decide +kernel) (by decide +kernel) t_l0 rfl ?_
    refine nk_icmp (c := .ge) (off := 16) (len := 3) (t := 392) (pc' := 379) mJ_228 (by decide +kernel) (by decide +kernel) rfl (fun hc => ?_) (fun hc => ?_)
    · have hr := nk_ifp (c := (S.1 l0 55) ≤ (S.1 l0 56)) hc hr
      refine nk_p (i := .lconst 0) (len := 1) (pc' := 393) mJ_228 (by decide +kernel) (ns_lconst (c := 0) (by decide +kernel)) rfl ?_
      refine nk_sub [2] (L' := [(0, nk_r l0)]) rfl ?_
      exact ja_X13_step_b393_ok zs _ _ _ _ _ t_l0 t_l0 hr
    · have hr := nk_ifn (c := (S.1 l0 55) ≤ (S.1 l0 56)) hc hr
      refine nk_p (i := .aload_n 0) (len := 1) (pc' := 380) mJ_228 (by decide +kernel) (ns_aload_n 2 rfl rfl) rfl ?_
      refine nk_getC (f := (4, 1, 256)) (x := 129) (len := 3) (ci := 13) (k := 50) (pc' := 383) ja_okT mJ_228 (by decide +kernel) (by decide +kernel) (by decide +kernel) (by decide) t_l0 rfl ?_
      have t72 : nk_ar ja_Tt (ja_c l0 50) = some (1, 256) := nk_ta ja_okT t_l0 (by decide +kernel)
      refine nk_p (i := .aload_n 0) (len := 1) (pc' := 384) mJ_228 (by decide +kernel) (ns_aload_n 2 rfl rfl) rfl ?_
      refine nk_getI (y := (0, 0)) (x := 814) (len := 3) (ci := 13) (k := 56) (pc' := 387) ja_okT mJ_228 (by decide +kernel) (by decide +kernel) (by decide +kernel) t_l0 rfl ?_
      obtain ⟨h73, hr⟩ := nk_cke hr
      refine nk_iald (len := 1) (N := 256) (pc' := 388) mJ_228 (by decide +kernel) t72 h73.1 h73.2 rfl rfl ?_
      refine nk_p (i := .i2l) (len := 1) (pc' := 389) mJ_228 (by decide +kernel) ns_i2l rfl ?_
      refine nk_p (i := .goto 4) (len := 3) (pc' := 393) mJ_228 (by decide +kernel) (ns_goto (by decide +kernel)) rfl ?_
      refine nk_sub [2] (L' := [(0, nk_r l0)]) rfl ?_
      exact ja_X13_step_b393_ok zs _ _ _ _ _ t_l0 t_l0 hr
  have hr := nk_ifn hc44 hr
  by_cases hc45 : v4 = 45
  · have hr := nk_ifp hc45 hr
    refine nk_p (i := .tableswitch 467 0 45 #[199, 208, 218, 230, 253, 289, 310, 319, 467, 467, 467, 467, 467, 467, 467, 467, 467, 467, 453, 440, 467, 467, 467, 467, 467, 467, 467, 467, 467, 467, 467, 467, 467, 467, 467, 467, 467, 467, 467, 467, 467, 467, 467, 467, 346, 399]) (len := 199) (pc' := 420) mJ_228 (by decide +kernel) (ns_tsw (V := 45) hc45 (by decide +kernel)) rfl ?_
    refine nk_p (i := .aload_n 0) (len := 1) (pc' := 421) mJ_228 (by decide +kernel) (ns_aload_n 2 rfl rfl) rfl ?_
    obtain ⟨r74, S75, h76, hr⟩ := nk_bde hr
    refine nk_callV (ci := 13) (n := 0) (x := 885) (len := 3) (j' := 208) (q' := 2) (r := r74) (S' := S75) (L2 := [(0, nk_r l0)]) (rest := []) (st' := [nk_l r74]) (pc' := 424) mJ_228 (by decide +kernel) (by decide +kernel) rfl rfl t_l0 (Nat.le_of_ble_eq_true rfl) mJ_208 (Nat.le_of_ble_eq_true rfl) rfl (ja_X13_pop_ok zs _ _ _ t_l0 h76) rfl ?_
    refine nk_p (i := .l2i) (len := 1) (pc' := 425) mJ_228 (by decide +kernel) ns_l2i rfl ?_
    obtain ⟨v77, h78, hr⟩ := nk_lte hr
    refine nk_p (i := .istore 12) (len := 2) (pc' := 427) mJ_228 (by decide +kernel) (ns_istore (L' := [(12, nk_i v77), (3, nk_i v8), (2, nk_i v4), (0, nk_r l0), (1, nk_i l1)]) h78 rfl (by decide +kernel)) rfl ?_
    refine nk_p (i := .aload_n 0) (len := 1) (pc' := 428) mJ_228 (by decide +kernel) (ns_aload_n 3 rfl rfl) rfl ?_
    refine nk_getI (y := (0, 0)) (x := 817) (len := 3) (ci := 13) (k := 57) (pc' := 431) ja_okT mJ_228 (by decide +kernel) (by decide +kernel) (by decide +kernel) t_l0 rfl ?_
    refine nk_p (i := .sipush 256) (len := 3) (pc' := 434) mJ_228 (by decide +kernel) (ns_sipush (c := 256) (by decide +kernel)) rfl ?_
    refine nk_icmp (c := .ge) (off := 14) (len := 3) (t := 448) (pc' := 437) mJ_228 (by decide +kernel) (by decide +kernel) rfl (fun hc => ?_) (fun hc => ?_)
    · have hr := nk_ifp (c := 256 ≤ (S75.1 l0 57)) hc hr
      refine nk_sub [3] (L' := [(0, nk_r l0)]) rfl ?_
      exact ja_X13_step_b448_ok zs _ _ _ t_l0 hr
    · have hr := nk_ifn (c := 256 ≤ (S75.1 l0 57)) hc hr
      refine nk_p (i := .aload_n 0) (len := 1) (pc' := 438) mJ_228 (by decide +kernel) (ns_aload_n 3 rfl rfl) rfl ?_
      refine nk_getC (f := (4, 1, 256)) (x := 132) (len := 3) (ci := 13) (k := 51) (pc' := 441) ja_okT mJ_228 (by decide +kernel) (by decide +kernel) (by decide +kernel) (by decide) t_l0 rfl ?_
      have t79 : nk_ar ja_Tt (ja_c l0 51) = some (1, 256) := nk_ta ja_okT t_l0 (by decide +kernel)
      refine nk_p (i := .aload_n 0) (len := 1) (pc' := 442) mJ_228 (by decide +kernel) (ns_aload_n 3 rfl rfl) rfl ?_
      refine nk_getI (y := (0, 0)) (x := 817) (len := 3) (ci := 13) (k := 57) (pc' := 445) ja_okT mJ_228 (by decide +kernel) (by decide +kernel) (by decide +kernel) t_l0 rfl ?_
      refine nk_p (i := .iload 12) (len := 2) (pc' := 447) mJ_228 (by decide +kernel) (ns_iload 0 rfl) rfl ?_
      obtain ⟨h80, hr⟩ := nk_cke hr
      obtain ⟨S81, h82, hr⟩ := nk_lte hr
      refine nk_iast (len := 1) (N := 256) (pc' := 448) mJ_228 (by decide +kernel) t79 h80.1 h80.2 rfl rfl h82 ?_
      refine nk_sub [3] (L' := [(0, nk_r l0)]) rfl ?_
      exact ja_X13_step_b448_ok zs _ _ _ t_l0 hr
  have hr := nk_ifn hc45 hr
  refine nk_p (i := .tableswitch 467 0 45 #[199, 208, 218, 230, 253, 289, 310, 319, 467, 467, 467, 467, 467, 467, 467, 467, 467, 467, 453, 440, 467, 467, 467, 467, 467, 467, 467, 467, 467, 467, 467, 467, 467, 467, 467, 467, 467, 467, 467, 467, 467, 467, 467, 467, 346, 399]) (len := 199) (pc' := 488) mJ_228 (by decide +kernel) (ns_tsd (by omega) (by decide +kernel)) rfl ?_
  refine nk_sub [2, 3, 1, 0] (L' := [(0, nk_r l0), (1, nk_i l1), (2, nk_i v4), (3, nk_i v8)]) rfl ?_
  exact ja_X13_step_b488_ok zs _ _ _ _ _ _ t_l0 hr
