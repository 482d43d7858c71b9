/-! SafeCode$Types holds (I)Z -/
noncomputable def ja_X9_holds_b223 (rec144 : Nat → Int → Int → Int → Int → Int → nk_S → Option (Int × nk_S)) (l0 : Nat) (l1 : Int) (l2 : Int) (l4 : Int) (l5 : Int) (l6 : Int) (s0 : Int) (S : nk_S) : Option (Int × nk_S) :=
  if s0 = 0 then
    some (0, S)
  else
    nk_lt (nk_w (l6 + 1)) fun v1 =>
    rec144 l0 l1 l2 l4 l5 v1 S
theorem ja_X9_holds_b223_ok (zs : List Int32) {rec144 : Nat → Int → Int → Int → Int → Int → nk_S → Option (Int × nk_S)} (hrec144 : ∀ (l0 : Nat) (l1 : Int) (l2 : Int) (l4 : Int) (l5 : Int) (l6 : Int) (S : nk_S) (R : Int × nk_S), nk_cl ja_Tt l0 = some 9 → rec144 l0 l1 l2 l4 l5 l6 S = some R → nk_K ja_Tt mi_Γ (mi_ev zs) 1 426 144 [(0, nk_r l0), (1, nk_i l1), (2, nk_i l2), (4, nk_i l4), (5, nk_i l5), (6, nk_i l6)] [] S R) : ∀ (l0 : Nat) (l1 : Int) (l2 : Int) (l4 : Int) (l5 : Int) (l6 : Int) (s0 : Int) (S : nk_S) (R : Int × nk_S), nk_cl ja_Tt l0 = some 9 → ja_X9_holds_b223 rec144 l0 l1 l2 l4 l5 l6 s0 S = some R → nk_K ja_Tt mi_Γ (mi_ev zs) 1 426 223 [(0, nk_r l0), (1, nk_i l1), (2, nk_i l2), (4, nk_i l4), (5, nk_i l5), (6, nk_i l6)] [nk_i s0] S R := by
  intro l0 l1 l2 l4 l5 l6 s0 S R t_l0 hr
  unfold ja_X9_holds_b223 at hr
  refine nk_p (i := .istore 7) (len := 2) (pc' := 225) mJ_426 (by decide +kernel) (ns_istore (L' := [(7, nk_i s0), (0, nk_r l0), (1, nk_i l1), (2, nk_i l2), (4, nk_i l4), (5, nk_i l5), (6, nk_i l6)]) rfl rfl (by decide +kernel)) rfl ?_
  refine nk_p (i := .iload 7) (len := 2) (pc' := 227) mJ_426 (by decide +kernel) (ns_iload 0 rfl) rfl ?_
  refine nk_icond (c := .ne) (off := 5) (len := 3) (t := 232) (pc' := 230) mJ_426 (by decide +kernel) (by decide +kernel) rfl (fun hc => ?_) (fun hc => ?_)
  · have hr := nk_ifn (c := s0 = 0) hc hr
    obtain ⟨v1, h2, hr⟩ := nk_lte hr
    refine nk_p (i := .iinc 6 1) (len := 3) (pc' := 235) mJ_426 (by decide +kernel) (ns_iinc (c := 1) (L' := [(6, nk_i v1), (7, nk_i s0), (0, nk_r l0), (1, nk_i l1), (2, nk_i l2), (4, nk_i l4), (5, nk_i l5)]) 6 rfl (by decide +kernel) h2 rfl (by decide +kernel)) rfl ?_
    refine nk_p (i := .goto (-91)) (len := 3) (pc' := 144) mJ_426 (by decide +kernel) (ns_goto (by decide +kernel)) rfl ?_
    refine nk_sub [2, 3, 4, 5, 6, 0] (L' := [(0, nk_r l0), (1, nk_i l1), (2, nk_i l2), (4, nk_i l4), (5, nk_i l5), (6, nk_i v1)]) rfl ?_
    exact hrec144 _ _ _ _ _ _ _ _ t_l0 hr
  · have hr := nk_ifp (c := s0 = 0) (Decidable.of_not_not hc) hr
    refine nk_p (i := .iconst 0) (len := 1) (pc' := 231) mJ_426 (by decide +kernel) (ns_iconst (c := 0) (by decide +kernel)) rfl ?_
    cases hr
    exact nk_iret (ty := .boolean) (len := 1) mJ_426 (by decide +kernel) rfl (nk_nar_z (by decide))
noncomputable def ja_X9_holds_b163 (rec144 : Nat → Int → Int → Int → Int → Int → nk_S → Option (Int × nk_S)) (l0 : Nat) (l1 : Int) (l2 : Int) (l4 : Int) (l5 : Int) (l6 : Int) (S : nk_S) : Option (Int × nk_S) :=
  if 0 ≤ (nk_w (l5 + l6)) ∧ (nk_w (l5 + l6)) < 20480 then
  nk_bd (ja_X9_suitsParameter l0 l1 l6 (S.1 (ja_c l0 3) (nk_w (l5 + l6)).toNat) S) fun r3 S4 =>
  ja_X9_holds_b223 rec144 l0 l1 l2 l4 l5 l6 r3 S4
  else none
theorem ja_X9_holds_b163_ok (zs : List Int32) {rec144 : Nat → Int → Int → Int → Int → Int → nk_S → Option (Int × nk_S)} (hrec144 : ∀ (l0 : Nat) (l1 : Int) (l2 : Int) (l4 : Int) (l5 : Int) (l6 : Int) (S : nk_S) (R : Int × nk_S), nk_cl ja_Tt l0 = some 9 → rec144 l0 l1 l2 l4 l5 l6 S = some R → nk_K ja_Tt mi_Γ (mi_ev zs) 1 426 144 [(0, nk_r l0), (1, nk_i l1), (2, nk_i l2), (4, nk_i l4), (5, nk_i l5), (6, nk_i l6)] [] S R) : ∀ (l0 : Nat) (l1 : Int) (l2 : Int) (l4 : Int) (l5 : Int) (l6 : Int) (S : nk_S) (R : Int × nk_S), nk_cl ja_Tt l0 = some 9 → ja_X9_holds_b163 rec144 l0 l1 l2 l4 l5 l6 S = some R → nk_K ja_Tt mi_Γ (mi_ev zs) 1 426 163 [(0, nk_r l0), (1, nk_i l1), (2, nk_i l2), (4, nk_i l4), (5, nk_i l5), (6, nk_i l6)] [] S R := by
  intro l0 l1 l2 l4 l5 l6 S R t_l0 hr
  unfold ja_X9_holds_b163 at hr
  refine nk_p (i := .aload_n 0) (len := 1) (pc' := 164) mJ_426 (by decide +kernel) (ns_aload_n 0 rfl rfl) rfl ?_
  refine nk_p (i := .iload_n 1) (len := 1) (pc' := 165) mJ_426 (by decide +kernel) (ns_iload_n 1 rfl rfl) rfl ?_
  refine nk_p (i := .iload 6) (len := 2) (pc' := 167) mJ_426 (by decide +kernel) (ns_iload 5 rfl) rfl ?_
  refine nk_p (i := .aload_n 0) (len := 1) (pc' := 168) mJ_426 (by decide +kernel) (ns_aload_n 0 rfl rfl) rfl ?_
  refine nk_getC (f := (4, 1, 20480)) (x := 15) (len := 3) (ci := 9) (k := 3) (pc' := 171) ja_okT mJ_426 (by decide +kernel) (by decide +kernel) (by decide +kernel) (by decide) t_l0 rfl ?_
  have t1 : nk_ar ja_Tt (ja_c l0 3) = some (1, 20480) := nk_ta ja_okT t_l0 (by decide +kernel)
  refine nk_p (i := .iload 5) (len := 2) (pc' := 173) mJ_426 (by decide +kernel) (ns_iload 4 rfl) rfl ?_
  refine nk_p (i := .iload 6) (len := 2) (pc' := 175) mJ_426 (by decide +kernel) (ns_iload 5 rfl) rfl ?_
  refine nk_p (i := .iadd) (len := 1) (pc' := 176) mJ_426 (by decide +kernel) ns_iadd rfl ?_
  obtain ⟨h2, hr⟩ := nk_cke hr
  refine nk_iald (len := 1) (N := 20480) (pc' := 177) mJ_426 (by decide +kernel) t1 h2.1 h2.2 rfl rfl ?_
  obtain ⟨r3, S4, h5, hr⟩ := nk_bde hr
  refine nk_callV (ci := 9) (n := 3) (x := 190) (len := 3) (j' := 433) (q' := 1) (r := r3) (S' := S4) (L2 := [(0, nk_r l0), (1, nk_i l1), (2, nk_i l6), (3, nk_i (S.1 (ja_c l0 3) (nk_w (l5 + l6)).toNat))]) (rest := []) (st' := [nk_i r3]) (pc' := 180) mJ_426 (by decide +kernel) (by decide +kernel) rfl rfl t_l0 (Nat.le_of_ble_eq_true rfl) mJ_433 (Nat.le_of_ble_eq_true rfl) rfl (ja_X9_suitsParameter_ok zs _ _ _ _ _ _ t_l0 h5) rfl ?_
  refine nk_p (i := .goto 43) (len := 3) (pc' := 223) mJ_426 (by decide +kernel) (ns_goto (by decide +kernel)) rfl ?_
  exact ja_X9_holds_b223_ok zs hrec144 _ _ _ _ _ _ _ _ _ t_l0 hr
noncomputable def ja_X9_holds_b144 (rec144 : Nat → Int → Int → Int → Int → Int → nk_S → Option (Int × nk_S)) (l0 : Nat) (l1 : Int) (l2 : Int) (l4 : Int) (l5 : Int) (l6 : Int) (S : nk_S) : Option (Int × nk_S) :=
  if l4 ≤ l6 then
    some (1, S)
  else
    if l2 = 39 then
      ja_X9_holds_b163 rec144 l0 l1 l2 l4 l5 l6 S
    else
      if l2 = 40 then
        ja_X9_holds_b163 rec144 l0 l1 l2 l4 l5 l6 S
      else
        if 0 ≤ l2 ∧ l2 < 46 then
        if 0 ≤ l5 ∧ l5 < 20480 then
        if 0 ≤ (nk_w (l5 + l6)) ∧ (nk_w (l5 + l6)) < 20480 then
        nk_bd (ja_X9_suits l0 l1 (nk_iand (nk_ishr (((ja_ob 47).getD l2.toNat 0).toInt) (nk_w (4 * (nk_w ((nk_w (l4 - 1)) - l6))))) 15) (S.1 (ja_c l0 3) l5.toNat) (S.1 (ja_c l0 3) (nk_w (l5 + l6)).toNat) S) fun r5 S6 =>
        ja_X9_holds_b223 rec144 l0 l1 l2 l4 l5 l6 r5 S6
        else none
        else none
        else none
theorem ja_X9_holds_b144_ok (zs : List Int32) {rec144 : Nat → Int → Int → Int → Int → Int → nk_S → Option (Int × nk_S)} (hrec144 : ∀ (l0 : Nat) (l1 : Int) (l2 : Int) (l4 : Int) (l5 : Int) (l6 : Int) (S : nk_S) (R : Int × nk_S), nk_cl ja_Tt l0 = some 9 → rec144 l0 l1 l2 l4 l5 l6 S = some R → nk_K ja_Tt mi_Γ (mi_ev zs) 1 426 144 [(0, nk_r l0), (1, nk_i l1), (2, nk_i l2), (4, nk_i l4), (5, nk_i l5), (6, nk_i l6)] [] S R) : ∀ (l0 : Nat) (l1 : Int) (l2 : Int) (l4 : Int) (l5 : Int) (l6 : Int) (S : nk_S) (R : Int × nk_S), nk_cl ja_Tt l0 = some 9 → ja_X9_holds_b144 rec144 l0 l1 l2 l4 l5 l6 S = some R → nk_K ja_Tt mi_Γ (mi_ev zs) 1 426 144 [(0, nk_r l0), (1, nk_i l1), (2, nk_i l2), (4, nk_i l4), (5, nk_i l5), (6, nk_i l6)] [] S R := by
  intro l0 l1 l2 l4 l5 l6 S R t_l0 hr
  unfold ja_X9_holds_b144 at hr
  refine nk_p (i := .iload 6) (len := 2) (pc' := 146) mJ_426 (by decide +kernel) (ns_iload 5 rfl) rfl ?_
  refine nk_p (i := .iload 4) (len := 2) (pc' := 148) mJ_426 (by decide +kernel) (ns_iload 3 rfl) rfl ?_
  refine nk_icmp (c := .ge) (off := 90) (len := 3) (t := 238) (pc' := 151) mJ_426 (by decide +kernel) (by decide +kernel) rfl (fun hc => ?_) (fun hc => ?_)
  · have hr := nk_ifp (c := l4 ≤ l6) hc hr
    refine nk_p (i := .iconst 1) (len := 1) (pc' := 239) mJ_426 (by decide +kernel) (ns_iconst (c := 1) (by decide +kernel)) rfl ?_
    cases hr
    exact nk_iret (ty := .boolean) (len := 1) mJ_426 (by decide +kernel) rfl (nk_nar_z (by decide))
  · have hr := nk_ifn (c := l4 ≤ l6) hc hr
    refine nk_p (i := .iload_n 2) (len := 1) (pc' := 152) mJ_426 (by decide +kernel) (ns_iload_n 2 rfl rfl) rfl ?_
    refine nk_p (i := .bipush 39) (len := 2) (pc' := 154) mJ_426 (by decide +kernel) (ns_bipush (c := 39) (by decide +kernel)) rfl ?_
    refine nk_icmp (c := .eq) (off := 9) (len := 3) (t := 163) (pc' := 157) mJ_426 (by decide +kernel) (by decide +kernel) rfl (fun hc => ?_) (fun hc => ?_)
    · have hr := nk_ifp (c := l2 = 39) hc hr
      exact ja_X9_holds_b163_ok zs hrec144 _ _ _ _ _ _ _ _ t_l0 hr
    · have hr := nk_ifn (c := l2 = 39) hc hr
      refine nk_p (i := .iload_n 2) (len := 1) (pc' := 158) mJ_426 (by decide +kernel) (ns_iload_n 2 rfl rfl) rfl ?_
      refine nk_p (i := .bipush 40) (len := 2) (pc' := 160) mJ_426 (by decide +kernel) (ns_bipush (c := 40) (by decide +kernel)) rfl ?_
      refine nk_icmp (c := .ne) (off := 23) (len := 3) (t := 183) (pc' := 163) mJ_426 (by decide +kernel) (by decide +kernel) rfl (fun hc => ?_) (fun hc => ?_)
      · have hr := nk_ifn (c := l2 = 40) hc hr
        refine nk_p (i := .aload_n 0) (len := 1) (pc' := 184) mJ_426 (by decide +kernel) (ns_aload_n 0 rfl rfl) rfl ?_
        refine nk_p (i := .iload_n 1) (len := 1) (pc' := 185) mJ_426 (by decide +kernel) (ns_iload_n 1 rfl rfl) rfl ?_
        refine nk_gsto (x := 194) (len := 3) (pc' := 188) (s1 := "SafeCode") (s2 := "WANTS") (s3 := "[I") (k := 47) mJ_426 (by decide +kernel) (by decide +kernel) rfl ?_
        refine nk_p (i := .iload_n 2) (len := 1) (pc' := 189) mJ_426 (by decide +kernel) (ns_iload_n 2 rfl rfl) rfl ?_
        obtain ⟨h1, hr⟩ := nk_cke hr
        refine nk_oiald (len := 1) (xs := ja_ob 47) (N := 46) (pc' := 190) mJ_426 (by decide +kernel) rfl h1.1 h1.2 rfl rfl ?_
        refine nk_p (i := .iconst 4) (len := 1) (pc' := 191) mJ_426 (by decide +kernel) (ns_iconst (c := 4) (by decide +kernel)) rfl ?_
        refine nk_p (i := .iload 4) (len := 2) (pc' := 193) mJ_426 (by decide +kernel) (ns_iload 3 rfl) rfl ?_
        refine nk_p (i := .iconst 1) (len := 1) (pc' := 194) mJ_426 (by decide +kernel) (ns_iconst (c := 1) (by decide +kernel)) rfl ?_
        refine nk_p (i := .isub) (len := 1) (pc' := 195) mJ_426 (by decide +kernel) ns_isub rfl ?_
        refine nk_p (i := .iload 6) (len := 2) (pc' := 197) mJ_426 (by decide +kernel) (ns_iload 5 rfl) rfl ?_
        refine nk_p (i := .isub) (len := 1) (pc' := 198) mJ_426 (by decide +kernel) ns_isub rfl ?_
        refine nk_p (i := .imul) (len := 1) (pc' := 199) mJ_426 (by decide +kernel) ns_imul rfl ?_
        refine nk_p (i := .ishr) (len := 1) (pc' := 200) mJ_426 (by decide +kernel) ns_ishr rfl ?_
        refine nk_p (i := .bipush 15) (len := 2) (pc' := 202) mJ_426 (by decide +kernel) (ns_bipush (c := 15) (by decide +kernel)) rfl ?_
        refine nk_p (i := .iand) (len := 1) (pc' := 203) mJ_426 (by decide +kernel) ns_iand rfl ?_
        refine nk_p (i := .aload_n 0) (len := 1) (pc' := 204) mJ_426 (by decide +kernel) (ns_aload_n 0 rfl rfl) rfl ?_
        refine nk_getC (f := (4, 1, 20480)) (x := 15) (len := 3) (ci := 9) (k := 3) (pc' := 207) ja_okT mJ_426 (by decide +kernel) (by decide +kernel) (by decide +kernel) (by decide) t_l0 rfl ?_
        have t2 : nk_ar ja_Tt (ja_c l0 3) = some (1, 20480) := nk_ta ja_okT t_l0 (by decide +kernel)
        refine nk_p (i := .iload 5) (len := 2) (pc' := 209) mJ_426 (by decide +kernel) (ns_iload 4 rfl) rfl ?_
        obtain ⟨h3, hr⟩ := nk_cke hr
        refine nk_iald (len := 1) (N := 20480) (pc' := 210) mJ_426 (by decide +kernel) t2 h3.1 h3.2 rfl rfl ?_
        refine nk_p (i := .aload_n 0) (len := 1) (pc' := 211) mJ_426 (by decide +kernel) (ns_aload_n 0 rfl rfl) rfl ?_
        refine nk_getC (f := (4, 1, 20480)) (x := 15) (len := 3) (ci := 9) (k := 3) (pc' := 214) ja_okT mJ_426 (by decide +kernel) (by decide +kernel) (by decide +kernel) (by decide) t_l0 rfl ?_
        refine nk_p (i := .iload 5) (len := 2) (pc' := 216) mJ_426 (by decide +kernel) (ns_iload 4 rfl) rfl ?_
        refine nk_p (i := .iload 6) (len := 2) (pc' := 218) mJ_426 (by decide +kernel) (ns_iload 5 rfl) rfl ?_
        refine nk_p (i := .iadd) (len := 1) (pc' := 219) mJ_426 (by decide +kernel) ns_iadd rfl ?_
        obtain ⟨h4, hr⟩ := nk_cke hr
        refine nk_iald (len := 1) (N := 20480) (pc' := 220) mJ_426 (by decide +kernel) t2 h4.1 h4.2 rfl rfl ?_
        obtain ⟨r5, S6, h7, hr⟩ := nk_bde hr
        refine nk_callV (ci := 9) (n := 4) (x := 197) (len := 3) (j' := 432) (q' := 1) (r := r5) (S' := S6) (L2 := [(0, nk_r l0), (1, nk_i l1), (2, nk_i (nk_iand (nk_ishr (((ja_ob 47).getD l2.toNat 0).toInt) (nk_w (4 * (nk_w ((nk_w (l4 - 1)) - l6))))) 15)), (3, nk_i (S.1 (ja_c l0 3) l5.toNat)), (4, nk_i (S.1 (ja_c l0 3) (nk_w (l5 + l6)).toNat))]) (rest := []) (st' := [nk_i r5]) (pc' := 223) mJ_426 (by decide +kernel) (by decide +kernel) rfl rfl t_l0 (Nat.le_of_ble_eq_true rfl) mJ_432 (Nat.le_of_ble_eq_true rfl) rfl (ja_X9_suits_ok zs _ _ _ _ _ _ _ t_l0 h7) rfl ?_
        exact ja_X9_holds_b223_ok zs hrec144 _ _ _ _ _ _ _ _ _ t_l0 hr
      · have hr := nk_ifp (c := l2 = 40) (Decidable.of_not_not hc) hr
        exact ja_X9_holds_b163_ok zs hrec144 _ _ _ _ _ _ _ _ t_l0 hr
noncomputable def ja_X9_holds_L144 : Nat → Nat → Int → Int → Int → Int → Int → nk_S → Option (Int × nk_S)
  | 0, _, _, _, _, _, _, _ => none
  | n + 1, l0, l1, l2, l4, l5, l6, S => ja_X9_holds_b144 (ja_X9_holds_L144 n) l0 l1 l2 l4 l5 l6 S
theorem ja_X9_holds_L144_ok (zs : List Int32) : ∀ n : Nat, ∀ (l0 : Nat) (l1 : Int) (l2 : Int) (l4 : Int) (l5 : Int) (l6 : Int) (S : nk_S) (R : Int × nk_S), nk_cl ja_Tt l0 = some 9 → ja_X9_holds_L144 n l0 l1 l2 l4 l5 l6 S = some R → nk_K ja_Tt mi_Γ (mi_ev zs) 1 426 144 [(0, nk_r l0), (1, nk_i l1), (2, nk_i l2), (4, nk_i l4), (5, nk_i l5), (6, nk_i l6)] [] S R := by
  intro n
  induction n with
  | zero => intro _ _ _ _ _ _ _ _ _ hr; cases hr
  | succ n ih => intro l0 l1 l2 l4 l5 l6 S R t_l0 hr; exact ja_X9_holds_b144_ok zs ih l0 l1 l2 l4 l5 l6 S R t_l0 hr
noncomputable def ja_X9_holds (l0 : Nat) (l1 : Int) (S : nk_S) : Option (Int × nk_S) :=
  if 0 ≤ l1 ∧ l1 < 1024 then
  nk_lt (S.1 (ja_c (S.2 l0 0) 4) l1.toNat) fun v4 =>
  nk_lt (nk_w (l1 * 20)) fun v6 =>
  if v4 = 2 then
    if 0 ≤ (nk_w (v6 + (S.1 (ja_c (S.2 l0 0) 5) l1.toNat))) ∧ (nk_w (v6 + (S.1 (ja_c (S.2 l0 0) 5) l1.toNat))) < 20480 then
    if (S.1 (ja_c l0 3) (nk_w (v6 + (S.1 (ja_c (S.2 l0 0) 5) l1.toNat))).toNat) = 0 then
      some (0, S)
    else
      some (1, S)
    else none
  else
    if v4 = 4 then
      if 0 ≤ (nk_w (v6 + (S.1 (ja_c (S.2 l0 0) 5) l1.toNat))) ∧ (nk_w (v6 + (S.1 (ja_c (S.2 l0 0) 5) l1.toNat))) < 20480 then
      if (S.1 (ja_c l0 3) (nk_w (v6 + (S.1 (ja_c (S.2 l0 0) 5) l1.toNat))).toNat) = 1 then
        some (1, S)
      else
        some (0, S)
      else none
    else
      if v4 = 43 then
        if 0 ≤ (S.1 (ja_c (S.2 l0 0) 8) l1.toNat) ∧ (S.1 (ja_c (S.2 l0 0) 8) l1.toNat) < 48 then
        if (S.1 (ja_c (ja_c (S.2 l0 0) 1) 7) (S.1 (ja_c (S.2 l0 0) 8) l1.toNat).toNat) = (-1) then
          some (1, S)
        else
          some (0, S)
        else none
      else
        nk_bd (ja_X3_takes (S.2 l0 0) l1 S) fun r9 S10 =>
        nk_lt (nk_w ((nk_w ((nk_w (v6 + 12)) + (S10.1 (ja_c (S10.2 l0 0) 9) l1.toNat))) - r9)) fun v14 =>
        ja_X9_holds_L144 nk_big l0 l1 v4 r9 v14 0 S10
  else none
theorem ja_X9_holds_ok (zs : List Int32) : ∀ (l0 : Nat) (l1 : Int) (S : nk_S) (R : Int × nk_S), nk_cl ja_Tt l0 = some 9 → ja_X9_holds l0 l1 S = some R → nk_K ja_Tt mi_Γ (mi_ev zs) 1 426 0 [(0, nk_r l0), (1, nk_i l1)] [] S R := by
  intro l0 l1 S R t_l0 hr
  unfold ja_X9_holds at hr
  refine nk_p (i := .aload_n 0) (len := 1) (pc' := 1) mJ_426 (by decide +kernel) (ns_aload_n 0 rfl rfl) rfl ?_
  refine nk_getM (cj := 3) (z := 0) (x := 28) (len := 3) (ci := 9) (k := 0) (pc' := 4) ja_okT mJ_426 (by decide +kernel) (by decide +kernel) (by decide +kernel) t_l0 rfl (fun t1 => ?_)
  refine nk_getC (f := (4, 1, 1024)) (x := 163) (len := 3) (ci := 3) (k := 4) (pc' := 7) ja_okT mJ_426 (by decide +kernel) (by decide +kernel) (by decide +kernel) (by decide) t1 rfl ?_
  have t2 : nk_ar ja_Tt (ja_c (S.2 l0 0) 4) = some (1, 1024) := nk_ta ja_okT t1 (by decide +kernel)
  refine nk_p (i := .iload_n 1) (len := 1) (pc' := 8) mJ_426 (by decide +kernel) (ns_iload_n 1 rfl rfl) rfl ?_
  obtain ⟨h3, hr⟩ := nk_cke hr
  refine nk_iald (len := 1) (N := 1024) (pc' := 9) mJ_426 (by decide +kernel) t2 h3.1 h3.2 rfl rfl ?_
  obtain ⟨v4, h5, hr⟩ := nk_lte hr
  refine nk_p (i := .istore_n 2) (len := 1) (pc' := 10) mJ_426 (by decide +kernel) (ns_istore_n (L' := [(2, nk_i v4), (0, nk_r l0), (1, nk_i l1)]) h5 rfl rfl (by decide +kernel)) rfl ?_
  refine nk_p (i := .iload_n 1) (len := 1) (pc' := 11) mJ_426 (by decide +kernel) (ns_iload_n 2 rfl rfl) rfl ?_
  refine nk_p (i := .bipush 20) (len := 2) (pc' := 13) mJ_426 (by decide +kernel) (ns_bipush (c := 20) (by decide +kernel)) rfl ?_
  refine nk_p (i := .imul) (len := 1) (pc' := 14) mJ_426 (by decide +kernel) ns_imul rfl ?_
  obtain ⟨v6, h7, hr⟩ := nk_lte hr
  refine nk_p (i := .istore_n 3) (len := 1) (pc' := 15) mJ_426 (by decide +kernel) (ns_istore_n (L' := [(3, nk_i v6), (2, nk_i v4), (0, nk_r l0), (1, nk_i l1)]) h7 rfl rfl (by decide +kernel)) rfl ?_
  refine nk_p (i := .iload_n 2) (len := 1) (pc' := 16) mJ_426 (by decide +kernel) (ns_iload_n 1 rfl rfl) rfl ?_
  refine nk_p (i := .iconst 2) (len := 1) (pc' := 17) mJ_426 (by decide +kernel) (ns_iconst (c := 2) (by decide +kernel)) rfl ?_
  refine nk_icmp (c := .ne) (off := 28) (len := 3) (t := 45) (pc' := 20) mJ_426 (by decide +kernel) (by decide +kernel) rfl (fun hc => ?_) (fun hc => ?_)
  · have hr := nk_ifn (c := v4 = 2) hc hr
    refine nk_p (i := .iload_n 2) (len := 1) (pc' := 46) mJ_426 (by decide +kernel) (ns_iload_n 1 rfl rfl) rfl ?_
    refine nk_p (i := .iconst 4) (len := 1) (pc' := 47) mJ_426 (by decide +kernel) (ns_iconst (c := 4) (by decide +kernel)) rfl ?_
    refine nk_icmp (c := .ne) (off := 29) (len := 3) (t := 76) (pc' := 50) mJ_426 (by decide +kernel) (by decide +kernel) rfl (fun hc => ?_) (fun hc => ?_)
    · have hr := nk_ifn (c := v4 = 4) hc hr
      refine nk_p (i := .iload_n 2) (len := 1) (pc' := 77) mJ_426 (by decide +kernel) (ns_iload_n 1 rfl rfl) rfl ?_
      refine nk_p (i := .bipush 43) (len := 2) (pc' := 79) mJ_426 (by decide +kernel) (ns_bipush (c := 43) (by decide +kernel)) rfl ?_
      refine nk_icmp (c := .ne) (off := 33) (len := 3) (t := 112) (pc' := 82) mJ_426 (by decide +kernel) (by decide +kernel) rfl (fun hc => ?_) (fun hc => ?_)
      · have hr := nk_ifn (c := v4 = 43) hc hr
        refine nk_p (i := .aload_n 0) (len := 1) (pc' := 113) mJ_426 (by decide +kernel) (ns_aload_n 2 rfl rfl) rfl ?_
        refine nk_getM (cj := 3) (z := 0) (x := 28) (len := 3) (ci := 9) (k := 0) (pc' := 116) ja_okT mJ_426 (by decide +kernel) (by decide +kernel) (by decide +kernel) t_l0 rfl (fun t8 => ?_)
        refine nk_p (i := .iload_n 1) (len := 1) (pc' := 117) mJ_426 (by decide +kernel) (ns_iload_n 3 rfl rfl) rfl ?_
        obtain ⟨r9, S10, h11, hr⟩ := nk_bde hr
        refine nk_callV (ci := 3) (n := 1) (x := 89) (len := 3) (j' := 308) (q' := 1) (r := r9) (S' := S10) (L2 := [(0, nk_r (S.2 l0 0)), (1, nk_i l1)]) (rest := []) (st' := [nk_i r9]) (pc' := 120) mJ_426 (by decide +kernel) (by decide +kernel) rfl rfl t8 (Nat.le_of_ble_eq_true rfl) mJ_308 (Nat.le_of_ble_eq_true rfl) rfl (ja_X3_takes_ok zs _ _ _ _ t8 h11) rfl ?_
        refine nk_p (i := .istore 4) (len := 2) (pc' := 122) mJ_426 (by decide +kernel) (ns_istore (L' := [(4, nk_i r9), (3, nk_i v6), (2, nk_i v4), (0, nk_r l0), (1, nk_i l1)]) rfl rfl (by decide +kernel)) rfl ?_
        refine nk_p (i := .iload_n 3) (len := 1) (pc' := 123) mJ_426 (by decide +kernel) (ns_iload_n 1 rfl rfl) rfl ?_
        refine nk_p (i := .bipush 12) (len := 2) (pc' := 125) mJ_426 (by decide +kernel) (ns_bipush (c := 12) (by decide +kernel)) rfl ?_
        refine nk_p (i := .iadd) (len := 1) (pc' := 126) mJ_426 (by decide +kernel) ns_iadd rfl ?_
        refine nk_p (i := .aload_n 0) (len := 1) (pc' := 127) mJ_426 (by decide +kernel) (ns_aload_n 3 rfl rfl) rfl ?_
        refine nk_getM (cj := 3) (z := 0) (x := 28) (len := 3) (ci := 9) (k := 0) (pc' := 130) ja_okT mJ_426 (by decide +kernel) (by decide +kernel) (by decide +kernel) t_l0 rfl (fun t12 => ?_)
        refine nk_getC (f := (4, 1, 1024)) (x := 80) (len := 3) (ci := 3) (k := 9) (pc' := 133) ja_okT mJ_426 (by decide +kernel) (by decide +kernel) (by decide +kernel) (by decide) t12 rfl ?_
        have t13 : nk_ar ja_Tt (ja_c (S10.2 l0 0) 9) = some (1, 1024) := nk_ta ja_okT t12 (by decide +kernel)
        refine nk_p (i := .iload_n 1) (len := 1) (pc' := 134) mJ_426 (by decide +kernel) (ns_iload_n 4 rfl rfl) rfl ?_
        refine nk_iald (len := 1) (N := 1024) (pc' := 135) mJ_426 (by decide +kernel) t13 h3.1 h3.2 rfl rfl ?_
        refine nk_p (i := .iadd) (len := 1) (pc' := 136) mJ_426 (by decide +kernel) ns_iadd rfl ?_
        refine nk_p (i := .iload 4) (len := 2) (pc' := 138) mJ_426 (by decide +kernel) (ns_iload 0 rfl) rfl ?_
        refine nk_p (i := .isub) (len := 1) (pc' := 139) mJ_426 (by decide +kernel) ns_isub rfl ?_
        obtain ⟨v14, h15, hr⟩ := nk_lte hr
        refine nk_p (i := .istore 5) (len := 2) (pc' := 141) mJ_426 (by decide +kernel) (ns_istore (L' := [(5, nk_i v14), (4, nk_i r9), (3, nk_i v6), (2, nk_i v4), (0, nk_r l0), (1, nk_i l1)]) h15 rfl (by decide +kernel)) rfl ?_
        refine nk_p (i := .iconst 0) (len := 1) (pc' := 142) mJ_426 (by decide +kernel) (ns_iconst (c := 0) (by decide +kernel)) rfl ?_
        refine nk_p (i := .istore 6) (len := 2) (pc' := 144) mJ_426 (by decide +kernel) (ns_istore (L' := [(6, nk_i 0), (5, nk_i v14), (4, nk_i r9), (3, nk_i v6), (2, nk_i v4), (0, nk_r l0), (1, nk_i l1)]) rfl rfl (by decide +kernel)) rfl ?_
        refine nk_sub [5, 6, 4, 2, 1, 0] (L' := [(0, nk_r l0), (1, nk_i l1), (2, nk_i v4), (4, nk_i r9), (5, nk_i v14), (6, nk_i 0)]) rfl ?_
        exact ja_X9_holds_L144_ok zs nk_big _ _ _ _ _ _ _ _ t_l0 hr
      · have hr := nk_ifp (c := v4 = 43) (Decidable.of_not_not hc) hr
        refine nk_p (i := .aload_n 0) (len := 1) (pc' := 83) mJ_426 (by decide +kernel) (ns_aload_n 2 rfl rfl) rfl ?_
        refine nk_getM (cj := 3) (z := 0) (x := 28) (len := 3) (ci := 9) (k := 0) (pc' := 86) ja_okT mJ_426 (by decide +kernel) (by decide +kernel) (by decide +kernel) t_l0 rfl (fun t16 => ?_)
        refine nk_getC (f := (2, 0, 0)) (x := 39) (len := 3) (ci := 3) (k := 1) (pc' := 89) ja_okT mJ_426 (by decide +kernel) (by decide +kernel) (by decide +kernel) (by decide) t16 rfl ?_
        have t17 : nk_cl ja_Tt (ja_c (S.2 l0 0) 1) = some 0 := nk_tc (y := 0) ja_okT t16 (by decide +kernel)
        refine nk_getC (f := (4, 1, 48)) (x := 187) (len := 3) (ci := 0) (k := 7) (pc' := 92) ja_okT mJ_426 (by decide +kernel) (by decide +kernel) (by decide +kernel) (by decide) t17 rfl ?_
        have t18 : nk_ar ja_Tt (ja_c (ja_c (S.2 l0 0) 1) 7) = some (1, 48) := nk_ta ja_okT t17 (by decide +kernel)
        refine nk_p (i := .aload_n 0) (len := 1) (pc' := 93) mJ_426 (by decide +kernel) (ns_aload_n 2 rfl rfl) rfl ?_
        refine nk_getM (cj := 3) (z := 0) (x := 28) (len := 3) (ci := 9) (k := 0) (pc' := 96) ja_okT mJ_426 (by decide +kernel) (by decide +kernel) (by decide +kernel) t_l0 rfl (fun t19 => ?_)
        refine nk_getC (f := (4, 1, 1024)) (x := 103) (len := 3) (ci := 3) (k := 8) (pc' := 99) ja_okT mJ_426 (by decide +kernel) (by decide +kernel) (by decide +kernel) (by decide) t19 rfl ?_
        have t20 : nk_ar ja_Tt (ja_c (S.2 l0 0) 8) = some (1, 1024) := nk_ta ja_okT t19 (by decide +kernel)
        refine nk_p (i := .iload_n 1) (len := 1) (pc' := 100) mJ_426 (by decide +kernel) (ns_iload_n 3 rfl rfl) rfl ?_
        refine nk_iald (len := 1) (N := 1024) (pc' := 101) mJ_426 (by decide +kernel) t20 h3.1 h3.2 rfl rfl ?_
        obtain ⟨h21, hr⟩ := nk_cke hr
        refine nk_iald (len := 1) (N := 48) (pc' := 102) mJ_426 (by decide +kernel) t18 h21.1 h21.2 rfl rfl ?_
        refine nk_p (i := .iconst (-1)) (len := 1) (pc' := 103) mJ_426 (by decide +kernel) (ns_iconst (c := (-1)) (by decide +kernel)) rfl ?_
        refine nk_icmp (c := .ne) (off := 7) (len := 3) (t := 110) (pc' := 106) mJ_426 (by decide +kernel) (by decide +kernel) rfl (fun hc => ?_) (fun hc => ?_)
        · have hr := nk_ifn (c := (S.1 (ja_c (ja_c (S.2 l0 0) 1) 7) (S.1 (ja_c (S.2 l0 0) 8) l1.toNat).toNat) = (-1)) hc hr
          refine nk_p (i := .iconst 0) (len := 1) (pc' := 111) mJ_426 (by decide +kernel) (ns_iconst (c := 0) (by decide +kernel)) rfl ?_
          cases hr
          exact nk_iret (ty := .boolean) (len := 1) mJ_426 (by decide +kernel) rfl (nk_nar_z (by decide))
        · have hr := nk_ifp (c := (S.1 (ja_c (ja_c (S.2 l0 0) 1) 7) (S.1 (ja_c (S.2 l0 0) 8) l1.toNat).toNat) = (-1)) (Decidable.of_not_not hc) hr
          refine nk_p (i := .iconst 1) (len := 1) (pc' := 107) mJ_426 (by decide +kernel) (ns_iconst (c := 1) (by decide +kernel)) rfl ?_
          refine nk_p (i := .goto 4) (len := 3) (pc' := 111) mJ_426 (by decide +kernel) (ns_goto (by decide +kernel)) rfl ?_
          cases hr
          exact nk_iret (ty := .boolean) (len := 1) mJ_426 (by decide +kernel) rfl (nk_nar_z (by decide))
    · have hr := nk_ifp (c := v4 = 4) (Decidable.of_not_not hc) hr
      refine nk_p (i := .aload_n 0) (len := 1) (pc' := 51) mJ_426 (by decide +kernel) (ns_aload_n 2 rfl rfl) rfl ?_
      refine nk_getC (f := (4, 1, 20480)) (x := 15) (len := 3) (ci := 9) (k := 3) (pc' := 54) ja_okT mJ_426 (by decide +kernel) (by decide +kernel) (by decide +kernel) (by decide) t_l0 rfl ?_
      have t22 : nk_ar ja_Tt (ja_c l0 3) = some (1, 20480) := nk_ta ja_okT t_l0 (by decide +kernel)
      refine nk_p (i := .iload_n 3) (len := 1) (pc' := 55) mJ_426 (by decide +kernel) (ns_iload_n 0 rfl rfl) rfl ?_
      refine nk_p (i := .aload_n 0) (len := 1) (pc' := 56) mJ_426 (by decide +kernel) (ns_aload_n 2 rfl rfl) rfl ?_
      refine nk_getM (cj := 3) (z := 0) (x := 28) (len := 3) (ci := 9) (k := 0) (pc' := 59) ja_okT mJ_426 (by decide +kernel) (by decide +kernel) (by decide +kernel) t_l0 rfl (fun t23 => ?_)
      refine nk_getC (f := (4, 1, 1024)) (x := 166) (len := 3) (ci := 3) (k := 5) (pc' := 62) ja_okT mJ_426 (by decide +kernel) (by decide +kernel) (by decide +kernel) (by decide) t23 rfl ?_
      have t24 : nk_ar ja_Tt (ja_c (S.2 l0 0) 5) = some (1, 1024) := nk_ta ja_okT t23 (by decide +kernel)
      refine nk_p (i := .iload_n 1) (len := 1) (pc' := 63) mJ_426 (by decide +kernel) (ns_iload_n 3 rfl rfl) rfl ?_
      refine nk_iald (len := 1) (N := 1024) (pc' := 64) mJ_426 (by decide +kernel) t24 h3.1 h3.2 rfl rfl ?_
      refine nk_p (i := .iadd) (len := 1) (pc' := 65) mJ_426 (by decide +kernel) ns_iadd rfl ?_
      obtain ⟨h25, hr⟩ := nk_cke hr
      refine nk_iald (len := 1) (N := 20480) (pc' := 66) mJ_426 (by decide +kernel) t22 h25.1 h25.2 rfl rfl ?_
      refine nk_p (i := .iconst 1) (len := 1) (pc' := 67) mJ_426 (by decide +kernel) (ns_iconst (c := 1) (by decide +kernel)) rfl ?_
      refine nk_icmp (c := .ne) (off := 7) (len := 3) (t := 74) (pc' := 70) mJ_426 (by decide +kernel) (by decide +kernel) rfl (fun hc => ?_) (fun hc => ?_)
      · have hr := nk_ifn (c := (S.1 (ja_c l0 3) (nk_w (v6 + (S.1 (ja_c (S.2 l0 0) 5) l1.toNat))).toNat) = 1) hc hr
        refine nk_p (i := .iconst 0) (len := 1) (pc' := 75) mJ_426 (by decide +kernel) (ns_iconst (c := 0) (by decide +kernel)) rfl ?_
        cases hr
        exact nk_iret (ty := .boolean) (len := 1) mJ_426 (by decide +kernel) rfl (nk_nar_z (by decide))
      · have hr := nk_ifp (c := (S.1 (ja_c l0 3) (nk_w (v6 + (S.1 (ja_c (S.2 l0 0) 5) l1.toNat))).toNat) = 1) (Decidable.of_not_not hc) hr
        refine nk_p (i := .iconst 1) (len := 1) (pc' := 71) mJ_426 (by decide +kernel) (ns_iconst (c := 1) (by decide +kernel)) rfl ?_
        refine nk_p (i := .goto 4) (len := 3) (pc' := 75) mJ_426 (by decide +kernel) (ns_goto (by decide +kernel)) rfl ?_
        cases hr
        exact nk_iret (ty := .boolean) (len := 1) mJ_426 (by decide +kernel) rfl (nk_nar_z (by decide))
  · have hr := nk_ifp (c := v4 = 2) (Decidable.of_not_not hc) hr
    refine nk_p (i := .aload_n 0) (len := 1) (pc' := 21) mJ_426 (by decide +kernel) (ns_aload_n 2 rfl rfl) rfl ?_
    refine nk_getC (f := (4, 1, 20480)) (x := 15) (len := 3) (ci := 9) (k := 3) (pc' := 24) ja_okT mJ_426 (by decide +kernel) (by decide +kernel) (by decide +kernel) (by decide) t_l0 rfl ?_
    have t26 : nk_ar ja_Tt (ja_c l0 3) = some (1, 20480) := nk_ta ja_okT t_l0 (by decide +kernel)
    refine nk_p (i := .iload_n 3) (len := 1) (pc' := 25) mJ_426 (by decide +kernel) (ns_iload_n 0 rfl rfl) rfl ?_
    refine nk_p (i := .aload_n 0) (len := 1) (pc' := 26) mJ_426 (by decide +kernel) (ns_aload_n 2 rfl rfl) rfl ?_
    refine nk_getM (cj := 3) (z := 0) (x := 28) (len := 3) (ci := 9) (k := 0) (pc' := 29) ja_okT mJ_426 (by decide +kernel) (by decide +kernel) (by decide +kernel) t_l0 rfl (fun t27 => ?_)
    refine nk_getC (f := (4, 1, 1024)) (x := 166) (len := 3) (ci := 3) (k := 5) (pc' := 32) ja_okT mJ_426 (by decide +kernel) (by decide +kernel) (by decide +kernel) (by decide) t27 rfl ?_
    have t28 : nk_ar ja_Tt (ja_c (S.2 l0 0) 5) = some (1, 1024) := nk_ta ja_okT t27 (by decide +kernel)
    refine nk_p (i := .iload_n 1) (len := 1) (pc' := 33) mJ_426 (by decide +kernel) (ns_iload_n 3 rfl rfl) rfl ?_
    refine nk_iald (len := 1) (N := 1024) (pc' := 34) mJ_426 (by decide +kernel) t28 h3.1 h3.2 rfl rfl ?_
    refine nk_p (i := .iadd) (len := 1) (pc' := 35) mJ_426 (by decide +kernel) ns_iadd rfl ?_
    obtain ⟨h29, hr⟩ := nk_cke hr
    refine nk_iald (len := 1) (N := 20480) (pc' := 36) mJ_426 (by decide +kernel) t26 h29.1 h29.2 rfl rfl ?_
    refine nk_icond (c := .eq) (off := 7) (len := 3) (t := 43) (pc' := 39) mJ_426 (by decide +kernel) (by decide +kernel) rfl (fun hc => ?_) (fun hc => ?_)
    · have hr := nk_ifp (c := (S.1 (ja_c l0 3) (nk_w (v6 + (S.1 (ja_c (S.2 l0 0) 5) l1.toNat))).toNat) = 0) hc hr
      refine nk_p (i := .iconst 0) (len := 1) (pc' := 44) mJ_426 (by decide +kernel) (ns_iconst (c := 0) (by decide +kernel)) rfl ?_
      cases hr
      exact nk_iret (ty := .boolean) (len := 1) mJ_426 (by decide +kernel) rfl (nk_nar_z (by decide))
    · have hr := nk_ifn (c := (S.1 (ja_c l0 3) (nk_w (v6 + (S.1 (ja_c (S.2 l0 0) 5) l1.toNat))).toNat) = 0) hc hr
      refine nk_p (i := .iconst 1) (len := 1) (pc' := 40) mJ_426 (by decide +kernel) (ns_iconst (c := 1) (by decide +kernel)) rfl ?_
      refine nk_p (i := .goto 4) (len := 3) (pc' := 44) mJ_426 (by decide +kernel) (ns_goto (by decide +kernel)) rfl ?_
      cases hr
      exact nk_iret (ty := .boolean) (len := 1) mJ_426 (by decide +kernel) rfl (nk_nar_z (by decide))
/-! SafeCode$Types wrongType (I)I -/
noncomputable def ja_X9_wrongType_b190 (rec190 : Nat → Int → Int → nk_S → Option (Int × nk_S)) (l0 : Nat) (l4 : Int) (l5 : Int) (S : nk_S) : Option (Int × nk_S) :=
  if l4 ≤ l5 then
    some ((-1), S)
  else
    if 0 ≤ l5 ∧ l5 < 1024 then
    if (S.1 (ja_c l0 4) l5.toNat) = 0 then
      nk_lt (nk_w (l5 + 1)) fun v3 =>
      rec190 l0 l4 v3 S
    else
      nk_bd (ja_X9_holds l0 l5 S) fun r5 S6 =>
      if r5 = 0 then
        some (l5, S6)
      else
        nk_lt (nk_w (l5 + 1)) fun v8 =>
        rec190 l0 l4 v8 S6
    else none
theorem ja_X9_wrongType_b190_ok (zs : List Int32) {rec190 : Nat → Int → Int → nk_S → Option (Int × nk_S)} (hrec190 : ∀ (l0 : Nat) (l4 : Int) (l5 : Int) (S : nk_S) (R : Int × nk_S), nk_cl ja_Tt l0 = some 9 → rec190 l0 l4 l5 S = some R → nk_K ja_Tt mi_Γ (mi_ev zs) 1 435 190 [(0, nk_r l0), (4, nk_i l4), (5, nk_i l5)] [] S R) : ∀ (l0 : Nat) (l4 : Int) (l5 : Int) (S : nk_S) (R : Int × nk_S), nk_cl ja_Tt l0 = some 9 → ja_X9_wrongType_b190 rec190 l0 l4 l5 S = some R → nk_K ja_Tt mi_Γ (mi_ev zs) 1 435 190 [(0, nk_r l0), (4, nk_i l4), (5, nk_i l5)] [] S R := by
  intro l0 l4 l5 S R t_l0 hr
  unfold ja_X9_wrongType_b190 at hr
  refine nk_p (i := .iload 5) (len := 2) (pc' := 192) mJ_435 (by decide +kernel) (ns_iload 2 rfl) rfl ?_
  refine nk_p (i := .iload 4) (len := 2) (pc' := 194) mJ_435 (by decide +kernel) (ns_iload 1 rfl) rfl ?_
  refine nk_icmp (c := .ge) (off := 31) (len := 3) (t := 225) (pc' := 197) mJ_435 (by decide +kernel) (by decide +kernel) rfl (fun hc => ?_) (fun hc => ?_)
  · have hr := nk_ifp (c := l4 ≤ l5) hc hr
    refine nk_p (i := .iconst (-1)) (len := 1) (pc' := 226) mJ_435 (by decide +kernel) (ns_iconst (c := (-1)) (by decide +kernel)) rfl ?_
    cases hr
    exact nk_iret (ty := .int) (len := 1) mJ_435 (by decide +kernel) rfl (nk_nar_i _)
  · have hr := nk_ifn (c := l4 ≤ l5) hc hr
    refine nk_p (i := .aload_n 0) (len := 1) (pc' := 198) mJ_435 (by decide +kernel) (ns_aload_n 0 rfl rfl) rfl ?_
    refine nk_getC (f := (4, 3, 1024)) (x := 18) (len := 3) (ci := 9) (k := 4) (pc' := 201) ja_okT mJ_435 (by decide +kernel) (by decide +kernel) (by decide +kernel) (by decide) t_l0 rfl ?_
    have t1 : nk_ar ja_Tt (ja_c l0 4) = some (3, 1024) := nk_ta ja_okT t_l0 (by decide +kernel)
    refine nk_p (i := .iload 5) (len := 2) (pc' := 203) mJ_435 (by decide +kernel) (ns_iload 2 rfl) rfl ?_
    obtain ⟨h2, hr⟩ := nk_cke hr
    refine nk_bald (t := 3) (len := 1) (N := 1024) (pc' := 204) mJ_435 (by decide +kernel) t1 (by decide) h2.1 h2.2 rfl rfl ?_
    refine nk_icond (c := .eq) (off := 15) (len := 3) (t := 219) (pc' := 207) mJ_435 (by decide +kernel) (by decide +kernel) rfl (fun hc => ?_) (fun hc => ?_)
    · have hr := nk_ifp (c := (S.1 (ja_c l0 4) l5.toNat) = 0) hc hr
      obtain ⟨v3, h4, hr⟩ := nk_lte hr
      refine nk_p (i := .iinc 5 1) (len := 3) (pc' := 222) mJ_435 (by decide +kernel) (ns_iinc (c := 1) (L' := [(5, nk_i v3), (0, nk_r l0), (4, nk_i l4)]) 2 rfl (by decide +kernel) h4 rfl (by decide +kernel)) rfl ?_
      refine nk_p (i := .goto (-32)) (len := 3) (pc' := 190) mJ_435 (by decide +kernel) (ns_goto (by decide +kernel)) rfl ?_
      refine nk_sub [1, 2, 0] (L' := [(0, nk_r l0), (4, nk_i l4), (5, nk_i v3)]) rfl ?_
      exact hrec190 _ _ _ _ _ t_l0 hr
    · have hr := nk_ifn (c := (S.1 (ja_c l0 4) l5.toNat) = 0) hc hr
      refine nk_p (i := .aload_n 0) (len := 1) (pc' := 208) mJ_435 (by decide +kernel) (ns_aload_n 0 rfl rfl) rfl ?_
      refine nk_p (i := .iload 5) (len := 2) (pc' := 210) mJ_435 (by decide +kernel) (ns_iload 2 rfl) rfl ?_
      obtain ⟨r5, S6, h7, hr⟩ := nk_bde hr
      refine nk_callV (ci := 9) (n := 1) (x := 143) (len := 3) (j' := 426) (q' := 1) (r := r5) (S' := S6) (L2 := [(0, nk_r l0), (1, nk_i l5)]) (rest := []) (st' := [nk_i r5]) (pc' := 213) mJ_435 (by decide +kernel) (by decide +kernel) rfl rfl t_l0 (Nat.le_of_ble_eq_true rfl) mJ_426 (Nat.le_of_ble_eq_true rfl) rfl (ja_X9_holds_ok zs _ _ _ _ t_l0 h7) rfl ?_
      refine nk_icond (c := .ne) (off := 6) (len := 3) (t := 219) (pc' := 216) mJ_435 (by decide +kernel) (by decide +kernel) rfl (fun hc => ?_) (fun hc => ?_)
      · have hr := nk_ifn (c := r5 = 0) hc hr
        obtain ⟨v8, h9, hr⟩ := nk_lte hr
        refine nk_p (i := .iinc 5 1) (len := 3) (pc' := 222) mJ_435 (by decide +kernel) (ns_iinc (c := 1) (L' := [(5, nk_i v8), (0, nk_r l0), (4, nk_i l4)]) 2 rfl (by decide +kernel) h9 rfl (by decide +kernel)) rfl ?_
        refine nk_p (i := .goto (-32)) (len := 3) (pc' := 190) mJ_435 (by decide +kernel) (ns_goto (by decide +kernel)) rfl ?_
        refine nk_sub [1, 2, 0] (L' := [(0, nk_r l0), (4, nk_i l4), (5, nk_i v8)]) rfl ?_
        exact hrec190 _ _ _ _ _ t_l0 hr
      · have hr := nk_ifp (c := r5 = 0) (Decidable.of_not_not hc) hr
        refine nk_p (i := .iload 5) (len := 2) (pc' := 218) mJ_435 (by decide +kernel) (ns_iload 2 rfl) rfl ?_
        cases hr
        exact nk_iret (ty := .int) (len := 1) mJ_435 (by decide +kernel) rfl (nk_nar_i _)
noncomputable def ja_X9_wrongType_L190 : Nat → Nat → Int → Int → nk_S → Option (Int × nk_S)
  | 0, _, _, _, _ => none
  | n + 1, l0, l4, l5, S => ja_X9_wrongType_b190 (ja_X9_wrongType_L190 n) l0 l4 l5 S
theorem ja_X9_wrongType_L190_ok (zs : List Int32) : ∀ n : Nat, ∀ (l0 : Nat) (l4 : Int) (l5 : Int) (S : nk_S) (R : Int × nk_S), nk_cl ja_Tt l0 = some 9 → ja_X9_wrongType_L190 n l0 l4 l5 S = some R → nk_K ja_Tt mi_Γ (mi_ev zs) 1 435 190 [(0, nk_r l0), (4, nk_i l4), (5, nk_i l5)] [] S R := by
  intro n
  induction n with
  | zero => intro _ _ _ _ _ _ hr; cases hr
  | succ n ih => intro l0 l4 l5 S R t_l0 hr; exact ja_X9_wrongType_b190_ok zs ih l0 l4 l5 S R t_l0 hr
noncomputable def ja_X9_wrongType_b141 (rec117 : Nat → Int → Int → Int → nk_S → Option (Int × nk_S)) (rec141 : Nat → Int → Int → Int → Int → nk_S → Option (Int × nk_S)) (l0 : Nat) (l3 : Int) (l4 : Int) (l5 : Int) (l7 : Int) (S : nk_S) : Option (Int × nk_S) :=
  if l4 ≤ l7 then
    nk_lt (nk_W (l5 + 1)) fun v1 =>
    rec117 l0 l3 l4 v1 S
  else
    if 0 ≤ l7 ∧ l7 < 1024 then
    if (S.1 (ja_c l0 5) l7.toNat) = 0 then
      nk_lt (nk_w (l7 + 1)) fun v5 =>
      rec141 l0 l3 l4 l5 v5 S
    else
      nk_lt (nk_wi S (ja_c l0 5) l7.toNat 0) fun S7 =>
      nk_bd (ja_X9_spreadTypes l0 l7 S7) fun r9 S10 =>
      nk_lt (nk_w (l7 + 1)) fun v12 =>
      rec141 l0 l3 l4 l5 v12 S10
    else none
theorem ja_X9_wrongType_b141_ok (zs : List Int32) {rec117 : Nat → Int → Int → Int → nk_S → Option (Int × nk_S)} (hrec117 : ∀ (l0 : Nat) (l3 : Int) (l4 : Int) (l5 : Int) (S : nk_S) (R : Int × nk_S), nk_cl ja_Tt l0 = some 9 → rec117 l0 l3 l4 l5 S = some R → nk_K ja_Tt mi_Γ (mi_ev zs) 1 435 117 [(0, nk_r l0), (3, nk_i l3), (4, nk_i l4), (5, nk_l l5)] [] S R) {rec141 : Nat → Int → Int → Int → Int → nk_S → Option (Int × nk_S)} (hrec141 : ∀ (l0 : Nat) (l3 : Int) (l4 : Int) (l5 : Int) (l7 : Int) (S : nk_S) (R : Int × nk_S), nk_cl ja_Tt l0 = some 9 → rec141 l0 l3 l4 l5 l7 S = some R → nk_K ja_Tt mi_Γ (mi_ev zs) 1 435 141 [(0, nk_r l0), (3, nk_i l3), (4, nk_i l4), (5, nk_l l5), (7, nk_i l7)] [] S R) : ∀ (l0 : Nat) (l3 : Int) (l4 : Int) (l5 : Int) (l7 : Int) (S : nk_S) (R : Int × nk_S), nk_cl ja_Tt l0 = some 9 → ja_X9_wrongType_b141 rec117 rec141 l0 l3 l4 l5 l7 S = some R → nk_K ja_Tt mi_Γ (mi_ev zs) 1 435 141 [(0, nk_r l0), (3, nk_i l3), (4, nk_i l4), (5, nk_l l5), (7, nk_i l7)] [] S R := by
  intro l0 l3 l4 l5 l7 S R t_l0 hr
  unfold ja_X9_wrongType_b141 at hr
  refine nk_p (i := .iload 7) (len := 2) (pc' := 143) mJ_435 (by decide +kernel) (ns_iload 4 rfl) rfl ?_
  refine nk_p (i := .iload 4) (len := 2) (pc' := 145) mJ_435 (by decide +kernel) (ns_iload 2 rfl) rfl ?_
  refine nk_icmp (c := .ge) (off := 33) (len := 3) (t := 178) (pc' := 148) mJ_435 (by decide +kernel) (by decide +kernel) rfl (fun hc => ?_) (fun hc => ?_)
  · have hr := nk_ifp (c := l4 ≤ l7) hc hr
    refine nk_p (i := .lload 5) (len := 2) (pc' := 180) mJ_435 (by decide +kernel) (ns_lload 3 rfl) rfl ?_
    refine nk_p (i := .lconst 1) (len := 1) (pc' := 181) mJ_435 (by decide +kernel) (ns_lconst (c := 1) (by decide +kernel)) rfl ?_
    refine nk_p (i := .ladd) (len := 1) (pc' := 182) mJ_435 (by decide +kernel) ns_ladd rfl ?_
    obtain ⟨v1, h2, hr⟩ := nk_lte hr
    refine nk_p (i := .lstore 5) (len := 2) (pc' := 184) mJ_435 (by decide +kernel) (ns_lstore (L' := [(5, nk_l v1), (0, nk_r l0), (3, nk_i l3), (4, nk_i l4), (7, nk_i l7)]) h2 rfl (by decide +kernel)) rfl ?_
    refine nk_p (i := .goto (-67)) (len := 3) (pc' := 117) mJ_435 (by decide +kernel) (ns_goto (by decide +kernel)) rfl ?_
    refine nk_sub [1, 2, 3, 0] (L' := [(0, nk_r l0), (3, nk_i l3), (4, nk_i l4), (5, nk_l v1)]) rfl ?_
    exact hrec117 _ _ _ _ _ _ t_l0 hr
  · have hr := nk_ifn (c := l4 ≤ l7) hc hr
    refine nk_p (i := .aload_n 0) (len := 1) (pc' := 149) mJ_435 (by decide +kernel) (ns_aload_n 0 rfl rfl) rfl ?_
    refine nk_getC (f := (4, 3, 1024)) (x := 22) (len := 3) (ci := 9) (k := 5) (pc' := 152) ja_okT mJ_435 (by decide +kernel) (by decide +kernel) (by decide +kernel) (by decide) t_l0 rfl ?_
    have t3 : nk_ar ja_Tt (ja_c l0 5) = some (3, 1024) := nk_ta ja_okT t_l0 (by decide +kernel)
    refine nk_p (i := .iload 7) (len := 2) (pc' := 154) mJ_435 (by decide +kernel) (ns_iload 4 rfl) rfl ?_
    obtain ⟨h4, hr⟩ := nk_cke hr
    refine nk_bald (t := 3) (len := 1) (N := 1024) (pc' := 155) mJ_435 (by decide +kernel) t3 (by decide) h4.1 h4.2 rfl rfl ?_
    refine nk_icond (c := .eq) (off := 17) (len := 3) (t := 172) (pc' := 158) mJ_435 (by decide +kernel) (by decide +kernel) rfl (fun hc => ?_) (fun hc => ?_)
    · have hr := nk_ifp (c := (S.1 (ja_c l0 5) l7.toNat) = 0) hc hr
      obtain ⟨v5, h6, hr⟩ := nk_lte hr
      refine nk_p (i := .iinc 7 1) (len := 3) (pc' := 175) mJ_435 (by decide +kernel) (ns_iinc (c := 1) (L' := [(7, nk_i v5), (0, nk_r l0), (3, nk_i l3), (4, nk_i l4), (5, nk_l l5)]) 4 rfl (by decide +kernel) h6 rfl (by decide +kernel)) rfl ?_
      refine nk_p (i := .goto (-34)) (len := 3) (pc' := 141) mJ_435 (by decide +kernel) (ns_goto (by decide +kernel)) rfl ?_
      refine nk_sub [1, 2, 3, 4, 0] (L' := [(0, nk_r l0), (3, nk_i l3), (4, nk_i l4), (5, nk_l l5), (7, nk_i v5)]) rfl ?_
      exact hrec141 _ _ _ _ _ _ _ t_l0 hr
    · have hr := nk_ifn (c := (S.1 (ja_c l0 5) l7.toNat) = 0) hc hr
      refine nk_p (i := .aload_n 0) (len := 1) (pc' := 159) mJ_435 (by decide +kernel) (ns_aload_n 0 rfl rfl) rfl ?_
      refine nk_getC (f := (4, 3, 1024)) (x := 22) (len := 3) (ci := 9) (k := 5) (pc' := 162) ja_okT mJ_435 (by decide +kernel) (by decide +kernel) (by decide +kernel) (by decide) t_l0 rfl ?_
      refine nk_p (i := .iload 7) (len := 2) (pc' := 164) mJ_435 (by decide +kernel) (ns_iload 4 rfl) rfl ?_
      refine nk_p (i := .iconst 0) (len := 1) (pc' := 165) mJ_435 (by decide +kernel) (ns_iconst (c := 0) (by decide +kernel)) rfl ?_
      obtain ⟨S7, h8, hr⟩ := nk_lte hr
      refine nk_zast (len := 1) (N := 1024) (pc' := 166) mJ_435 (by decide +kernel) t3 h4.1 h4.2 (by decide) rfl rfl h8 ?_
      refine nk_p (i := .aload_n 0) (len := 1) (pc' := 167) mJ_435 (by decide +kernel) (ns_aload_n 0 rfl rfl) rfl ?_
      refine nk_p (i := .iload 7) (len := 2) (pc' := 169) mJ_435 (by decide +kernel) (ns_iload 4 rfl) rfl ?_
      obtain ⟨r9, S10, h11, hr⟩ := nk_bde hr
      refine nk_callV (ci := 9) (n := 1) (x := 140) (len := 3) (j' := 431) (q' := 0) (r := r9) (S' := S10) (L2 := [(0, nk_r l0), (1, nk_i l7)]) (rest := []) (st' := []) (pc' := 172) mJ_435 (by decide +kernel) (by decide +kernel) rfl rfl t_l0 (Nat.le_of_ble_eq_true rfl) mJ_431 (Nat.le_of_ble_eq_true rfl) rfl (ja_X9_spreadTypes_ok zs _ _ _ _ t_l0 h11) rfl ?_
      obtain ⟨v12, h13, hr⟩ := nk_lte hr
      refine nk_p (i := .iinc 7 1) (len := 3) (pc' := 175) mJ_435 (by decide +kernel) (ns_iinc (c := 1) (L' := [(7, nk_i v12), (0, nk_r l0), (3, nk_i l3), (4, nk_i l4), (5, nk_l l5)]) 4 rfl (by decide +kernel) h13 rfl (by decide +kernel)) rfl ?_
      refine nk_p (i := .goto (-34)) (len := 3) (pc' := 141) mJ_435 (by decide +kernel) (ns_goto (by decide +kernel)) rfl ?_
      refine nk_sub [1, 2, 3, 4, 0] (L' := [(0, nk_r l0), (3, nk_i l3), (4, nk_i l4), (5, nk_l l5), (7, nk_i v12)]) rfl ?_
      exact hrec141 _ _ _ _ _ _ _ t_l0 hr
noncomputable def ja_X9_wrongType_L141 (rec117 : Nat → Int → Int → Int → nk_S → Option (Int × nk_S)) : Nat → Nat → Int → Int → Int → Int → nk_S → Option (Int × nk_S)
  | 0, _, _, _, _, _, _ => none
  | n + 1, l0, l3, l4, l5, l7, S => ja_X9_wrongType_b141 rec117 (ja_X9_wrongType_L141 rec117 n) l0 l3 l4 l5 l7 S
theorem ja_X9_wrongType_L141_ok (zs : List Int32) {rec117 : Nat → Int → Int → Int → nk_S → Option (Int × nk_S)} (hrec117 : ∀ (l0 : Nat) (l3 : Int) (l4 : Int) (l5 : Int) (S : nk_S) (R : Int × nk_S), nk_cl ja_Tt l0 = some 9 → rec117 l0 l3 l4 l5 S = some R → nk_K ja_Tt mi_Γ (mi_ev zs) 1 435 117 [(0, nk_r l0), (3, nk_i l3), (4, nk_i l4), (5, nk_l l5)] [] S R) : ∀ n : Nat, ∀ (l0 : Nat) (l3 : Int) (l4 : Int) (l5 : Int) (l7 : Int) (S : nk_S) (R : Int × nk_S), nk_cl ja_Tt l0 = some 9 → ja_X9_wrongType_L141 rec117 n l0 l3 l4 l5 l7 S = some R → nk_K ja_Tt mi_Γ (mi_ev zs) 1 435 141 [(0, nk_r l0), (3, nk_i l3), (4, nk_i l4), (5, nk_l l5), (7, nk_i l7)] [] S R := by
  intro n
  induction n with
  | zero => intro _ _ _ _ _ _ _ _ hr; cases hr
  | succ n ih => intro l0 l3 l4 l5 l7 S R t_l0 hr; exact ja_X9_wrongType_b141_ok zs hrec117 ih l0 l3 l4 l5 l7 S R t_l0 hr
noncomputable def ja_X9_wrongType_b117 (rec117 : Nat → Int → Int → Int → nk_S → Option (Int × nk_S)) (l0 : Nat) (l3 : Int) (l4 : Int) (l5 : Int) (S : nk_S) : Option (Int × nk_S) :=
  if 1099511627776 ≤ l5 then
    ja_X9_wrongType_L190 nk_big l0 l4 l3 S
  else
    if (S.1 l0 7) = 0 then
      ja_X9_wrongType_L190 nk_big l0 l4 l3 S
    else
      nk_lt (nk_wi S l0 7 0) fun S1 =>
      ja_X9_wrongType_L141 rec117 nk_big l0 l3 l4 l5 l3 S1
theorem ja_X9_wrongType_b117_ok (zs : List Int32) {rec117 : Nat → Int → Int → Int → nk_S → Option (Int × nk_S)} (hrec117 : ∀ (l0 : Nat) (l3 : Int) (l4 : Int) (l5 : Int) (S : nk_S) (R : Int × nk_S), nk_cl ja_Tt l0 = some 9 → rec117 l0 l3 l4 l5 S = some R → nk_K ja_Tt mi_Γ (mi_ev zs) 1 435 117 [(0, nk_r l0), (3, nk_i l3), (4, nk_i l4), (5, nk_l l5)] [] S R) : ∀ (l0 : Nat) (l3 : Int) (l4 : Int) (l5 : Int) (S : nk_S) (R : Int × nk_S), nk_cl ja_Tt l0 = some 9 → ja_X9_wrongType_b117 rec117 l0 l3 l4 l5 S = some R → nk_K ja_Tt mi_Γ (mi_ev zs) 1 435 117 [(0, nk_r l0), (3, nk_i l3), (4, nk_i l4), (5, nk_l l5)] [] S R := by
  intro l0 l3 l4 l5 S R t_l0 hr
  unfold ja_X9_wrongType_b117 at hr
  refine nk_p (i := .lload 5) (len := 2) (pc' := 119) mJ_435 (by decide +kernel) (ns_lload 3 rfl) rfl ?_
  refine nk_ldc2 (x := 66) (len := 3) (X := 1099511627776) (v := 1099511627776) (pc' := 122) mJ_435 (by decide +kernel) (by decide +kernel) (by decide +kernel) rfl ?_
  refine nk_p (i := .lcmp) (len := 1) (pc' := 123) mJ_435 (by decide +kernel) ns_lcmp rfl ?_
  refine nk_lcond (c := .ge) (off := 64) (len := 3) (t := 187) (pc' := 126) mJ_435 (by decide +kernel) (by decide +kernel) rfl (fun hc => ?_) (fun hc => ?_)
  · have hr := nk_ifp (c := 1099511627776 ≤ l5) hc hr
    refine nk_p (i := .iload_n 3) (len := 1) (pc' := 188) mJ_435 (by decide +kernel) (ns_iload_n 1 rfl rfl) rfl ?_
    refine nk_p (i := .istore 5) (len := 2) (pc' := 190) mJ_435 (by decide +kernel) (ns_istore (L' := [(5, nk_i l3), (0, nk_r l0), (3, nk_i l3), (4, nk_i l4)]) rfl rfl (by decide +kernel)) rfl ?_
    refine nk_sub [1, 3, 0] (L' := [(0, nk_r l0), (4, nk_i l4), (5, nk_i l3)]) rfl ?_
    exact ja_X9_wrongType_L190_ok zs nk_big _ _ _ _ _ t_l0 hr
  · have hr := nk_ifn (c := 1099511627776 ≤ l5) hc hr
    refine nk_p (i := .aload_n 0) (len := 1) (pc' := 127) mJ_435 (by decide +kernel) (ns_aload_n 0 rfl rfl) rfl ?_
    refine nk_getI (y := (0, 0)) (x := 62) (len := 3) (ci := 9) (k := 7) (pc' := 130) ja_okT mJ_435 (by decide +kernel) (by decide +kernel) (by decide +kernel) t_l0 rfl ?_
    refine nk_icond (c := .eq) (off := 57) (len := 3) (t := 187) (pc' := 133) mJ_435 (by decide +kernel) (by decide +kernel) rfl (fun hc => ?_) (fun hc => ?_)
    · have hr := nk_ifp (c := (S.1 l0 7) = 0) hc hr
      refine nk_p (i := .iload_n 3) (len := 1) (pc' := 188) mJ_435 (by decide +kernel) (ns_iload_n 1 rfl rfl) rfl ?_
      refine nk_p (i := .istore 5) (len := 2) (pc' := 190) mJ_435 (by decide +kernel) (ns_istore (L' := [(5, nk_i l3), (0, nk_r l0), (3, nk_i l3), (4, nk_i l4)]) rfl rfl (by decide +kernel)) rfl ?_
      refine nk_sub [1, 3, 0] (L' := [(0, nk_r l0), (4, nk_i l4), (5, nk_i l3)]) rfl ?_
      exact ja_X9_wrongType_L190_ok zs nk_big _ _ _ _ _ t_l0 hr
    · have hr := nk_ifn (c := (S.1 l0 7) = 0) hc hr
      refine nk_p (i := .aload_n 0) (len := 1) (pc' := 134) mJ_435 (by decide +kernel) (ns_aload_n 0 rfl rfl) rfl ?_
      refine nk_p (i := .iconst 0) (len := 1) (pc' := 135) mJ_435 (by decide +kernel) (ns_iconst (c := 0) (by decide +kernel)) rfl ?_
      obtain ⟨S1, h2, hr⟩ := nk_lte hr
      refine nk_putI (y := (0, 0)) (ty := .boolean) (x := 62) (len := 3) (ci := 9) (k := 7) (pc' := 138) ja_okT mJ_435 (by decide +kernel) (by decide +kernel) (by decide +kernel) t_l0 (Or.inr ⟨rfl, by decide⟩) rfl h2 ?_
      refine nk_p (i := .iload_n 3) (len := 1) (pc' := 139) mJ_435 (by decide +kernel) (ns_iload_n 1 rfl rfl) rfl ?_
      refine nk_p (i := .istore 7) (len := 2) (pc' := 141) mJ_435 (by decide +kernel) (ns_istore (L' := [(7, nk_i l3), (0, nk_r l0), (3, nk_i l3), (4, nk_i l4), (5, nk_l l5)]) rfl rfl (by decide +kernel)) rfl ?_
      refine nk_sub [1, 2, 3, 4, 0] (L' := [(0, nk_r l0), (3, nk_i l3), (4, nk_i l4), (5, nk_l l5), (7, nk_i l3)]) rfl ?_
      exact ja_X9_wrongType_L141_ok zs hrec117 nk_big _ _ _ _ _ _ _ t_l0 hr
noncomputable def ja_X9_wrongType_L117 : Nat → Nat → Int → Int → Int → nk_S → Option (Int × nk_S)
  | 0, _, _, _, _, _ => none
  | n + 1, l0, l3, l4, l5, S => ja_X9_wrongType_b117 (ja_X9_wrongType_L117 n) l0 l3 l4 l5 S
theorem ja_X9_wrongType_L117_ok (zs : List Int32) : ∀ n : Nat, ∀ (l0 : Nat) (l3 : Int) (l4 : Int) (l5 : Int) (S : nk_S) (R : Int × nk_S), nk_cl ja_Tt l0 = some 9 → ja_X9_wrongType_L117 n l0 l3 l4 l5 S = some R → nk_K ja_Tt mi_Γ (mi_ev zs) 1 435 117 [(0, nk_r l0), (3, nk_i l3), (4, nk_i l4), (5, nk_l l5)] [] S R := by
  intro n
  induction n with
  | zero => intro _ _ _ _ _ _ _ hr; cases hr
  | succ n ih => intro l0 l3 l4 l5 S R t_l0 hr; exact ja_X9_wrongType_b117_ok zs ih l0 l3 l4 l5 S R t_l0 hr
noncomputable def ja_X9_wrongType_b66 (rec66 : Nat → Int → Nat → Int → Int → Int → nk_S → Option (Int × nk_S)) (l0 : Nat) (l1 : Int) (l2 : Nat) (l3 : Int) (l4 : Int) (l5 : Int) (S : nk_S) : Option (Int × nk_S) :=
  if 0 ≤ l1 ∧ l1 < 48 then
  if (S.1 (ja_c l2 5) l1.toNat) ≤ l5 then
    nk_bd (ja_X9_arrive l0 l3 (S.1 (ja_c l2 8) l1.toNat) 0 S) fun r4 S5 =>
    nk_lt (nk_wi S5 l0 7 1) fun S7 =>
    ja_X9_wrongType_L117 nk_big l0 l3 l4 0 S7
  else
    nk_bd (ja_X0_parameter l2 l1 l5 S) fun r10 S11 =>
    if 0 ≤ l5 ∧ l5 < 20 then
    nk_lt (nk_wi S11 (ja_c l0 6) l5.toNat r10) fun S14 =>
    nk_lt (nk_w (l5 + 1)) fun v16 =>
    rec66 l0 l1 l2 l3 l4 v16 S14
    else none
  else none
theorem ja_X9_wrongType_b66_ok (zs : List Int32) {rec66 : Nat → Int → Nat → Int → Int → Int → nk_S → Option (Int × nk_S)} (hrec66 : ∀ (l0 : Nat) (l1 : Int) (l2 : Nat) (l3 : Int) (l4 : Int) (l5 : Int) (S : nk_S) (R : Int × nk_S), nk_cl ja_Tt l0 = some 9 → nk_cl ja_Tt l2 = some 0 → rec66 l0 l1 l2 l3 l4 l5 S = some R → nk_K ja_Tt mi_Γ (mi_ev zs) 1 435 66 [(0, nk_r l0), (1, nk_i l1), (2, nk_r l2), (3, nk_i l3), (4, nk_i l4), (5, nk_i l5)] [] S R) : ∀ (l0 : Nat) (l1 : Int) (l2 : Nat) (l3 : Int) (l4 : Int) (l5 : Int) (S : nk_S) (R : Int × nk_S), nk_cl ja_Tt l0 = some 9 → nk_cl ja_Tt l2 = some 0 → ja_X9_wrongType_b66 rec66 l0 l1 l2 l3 l4 l5 S = some R → nk_K ja_Tt mi_Γ (mi_ev zs) 1 435 66 [(0, nk_r l0), (1, nk_i l1), (2, nk_r l2), (3, nk_i l3), (4, nk_i l4), (5, nk_i l5)] [] S R := by
  intro l0 l1 l2 l3 l4 l5 S R t_l0 t_l2 hr
  unfold ja_X9_wrongType_b66 at hr
  refine nk_p (i := .iload 5) (len := 2) (pc' := 68) mJ_435 (by decide +kernel) (ns_iload 5 rfl) rfl ?_
  refine nk_p (i := .aload_n 2) (len := 1) (pc' := 69) mJ_435 (by decide +kernel) (ns_aload_n 2 rfl rfl) rfl ?_
  refine nk_getC (f := (4, 1, 48)) (x := 126) (len := 3) (ci := 0) (k := 5) (pc' := 72) ja_okT mJ_435 (by decide +kernel) (by decide +kernel) (by decide +kernel) (by decide) t_l2 rfl ?_
  have t1 : nk_ar ja_Tt (ja_c l2 5) = some (1, 48) := nk_ta ja_okT t_l2 (by decide +kernel)
  refine nk_p (i := .iload_n 1) (len := 1) (pc' := 73) mJ_435 (by decide +kernel) (ns_iload_n 1 rfl rfl) rfl ?_
  obtain ⟨h2, hr⟩ := nk_cke hr
  refine nk_iald (len := 1) (N := 48) (pc' := 74) mJ_435 (by decide +kernel) t1 h2.1 h2.2 rfl rfl ?_
  refine nk_icmp (c := .ge) (off := 23) (len := 3) (t := 97) (pc' := 77) mJ_435 (by decide +kernel) (by decide +kernel) rfl (fun hc => ?_) (fun hc => ?_)
  · have hr := nk_ifp (c := (S.1 (ja_c l2 5) l1.toNat) ≤ l5) hc hr
    refine nk_p (i := .aload_n 0) (len := 1) (pc' := 98) mJ_435 (by decide +kernel) (ns_aload_n 0 rfl rfl) rfl ?_
    refine nk_p (i := .iload_n 3) (len := 1) (pc' := 99) mJ_435 (by decide +kernel) (ns_iload_n 3 rfl rfl) rfl ?_
    refine nk_p (i := .aload_n 2) (len := 1) (pc' := 100) mJ_435 (by decide +kernel) (ns_aload_n 2 rfl rfl) rfl ?_
    refine nk_getC (f := (4, 1, 48)) (x := 133) (len := 3) (ci := 0) (k := 8) (pc' := 103) ja_okT mJ_435 (by decide +kernel) (by decide +kernel) (by decide +kernel) (by decide) t_l2 rfl ?_
    have t3 : nk_ar ja_Tt (ja_c l2 8) = some (1, 48) := nk_ta ja_okT t_l2 (by decide +kernel)
    refine nk_p (i := .iload_n 1) (len := 1) (pc' := 104) mJ_435 (by decide +kernel) (ns_iload_n 1 rfl rfl) rfl ?_
    refine nk_iald (len := 1) (N := 48) (pc' := 105) mJ_435 (by decide +kernel) t3 h2.1 h2.2 rfl rfl ?_
    refine nk_p (i := .iconst 0) (len := 1) (pc' := 106) mJ_435 (by decide +kernel) (ns_iconst (c := 0) (by decide +kernel)) rfl ?_
    obtain ⟨r4, S5, h6, hr⟩ := nk_bde hr
    refine nk_callV (ci := 9) (n := 3) (x := 136) (len := 3) (j' := 423) (q' := 0) (r := r4) (S' := S5) (L2 := [(0, nk_r l0), (1, nk_i l3), (2, nk_i (S.1 (ja_c l2 8) l1.toNat)), (3, nk_i 0)]) (rest := []) (st' := []) (pc' := 109) mJ_435 (by decide +kernel) (by decide +kernel) rfl rfl t_l0 (Nat.le_of_ble_eq_true rfl) mJ_423 (Nat.le_of_ble_eq_true rfl) rfl (ja_X9_arrive_ok zs _ _ _ _ _ _ t_l0 h6) rfl ?_
    refine nk_p (i := .aload_n 0) (len := 1) (pc' := 110) mJ_435 (by decide +kernel) (ns_aload_n 0 rfl rfl) rfl ?_
    refine nk_p (i := .iconst 1) (len := 1) (pc' := 111) mJ_435 (by decide +kernel) (ns_iconst (c := 1) (by decide +kernel)) rfl ?_
    obtain ⟨S7, h8, hr⟩ := nk_lte hr
    refine nk_putI (y := (0, 0)) (ty := .boolean) (x := 62) (len := 3) (ci := 9) (k := 7) (pc' := 114) ja_okT mJ_435 (by decide +kernel) (by decide +kernel) (by decide +kernel) t_l0 (Or.inr ⟨rfl, by decide⟩) rfl h8 ?_
    refine nk_p (i := .lconst 0) (len := 1) (pc' := 115) mJ_435 (by decide +kernel) (ns_lconst (c := 0) (by decide +kernel)) rfl ?_
    refine nk_p (i := .lstore 5) (len := 2) (pc' := 117) mJ_435 (by decide +kernel) (ns_lstore (L' := [(5, nk_l 0), (0, nk_r l0), (1, nk_i l1), (2, nk_r l2), (3, nk_i l3), (4, nk_i l4)]) rfl rfl (by decide +kernel)) rfl ?_
    refine nk_sub [1, 4, 5, 0] (L' := [(0, nk_r l0), (3, nk_i l3), (4, nk_i l4), (5, nk_l 0)]) rfl ?_
    exact ja_X9_wrongType_L117_ok zs nk_big _ _ _ _ _ _ t_l0 hr
  · have hr := nk_ifn (c := (S.1 (ja_c l2 5) l1.toNat) ≤ l5) hc hr
    refine nk_p (i := .aload_n 0) (len := 1) (pc' := 78) mJ_435 (by decide +kernel) (ns_aload_n 0 rfl rfl) rfl ?_
    refine nk_getC (f := (4, 1, 20)) (x := 25) (len := 3) (ci := 9) (k := 6) (pc' := 81) ja_okT mJ_435 (by decide +kernel) (by decide +kernel) (by decide +kernel) (by decide) t_l0 rfl ?_
    have t9 : nk_ar ja_Tt (ja_c l0 6) = some (1, 20) := nk_ta ja_okT t_l0 (by decide +kernel)
    refine nk_p (i := .iload 5) (len := 2) (pc' := 83) mJ_435 (by decide +kernel) (ns_iload 5 rfl) rfl ?_
    refine nk_p (i := .aload_n 2) (len := 1) (pc' := 84) mJ_435 (by decide +kernel) (ns_aload_n 2 rfl rfl) rfl ?_
    refine nk_p (i := .iload_n 1) (len := 1) (pc' := 85) mJ_435 (by decide +kernel) (ns_iload_n 1 rfl rfl) rfl ?_
    refine nk_p (i := .iload 5) (len := 2) (pc' := 87) mJ_435 (by decide +kernel) (ns_iload 5 rfl) rfl ?_
    obtain ⟨r10, S11, h12, hr⟩ := nk_bde hr
    refine nk_callV (ci := 0) (n := 2) (x := 129) (len := 3) (j' := 28) (q' := 1) (r := r10) (S' := S11) (L2 := [(0, nk_r l2), (1, nk_i l1), (2, nk_i l5)]) (rest := [nk_i l5, nk_r (ja_c l0 6)]) (st' := [nk_i r10, nk_i l5, nk_r (ja_c l0 6)]) (pc' := 90) mJ_435 (by decide +kernel) (by decide +kernel) rfl rfl t_l2 (Nat.le_of_ble_eq_true rfl) mJ_28 (Nat.le_of_ble_eq_true rfl) rfl (ja_X0_parameter_ok zs _ _ _ _ _ t_l2 h12) rfl ?_
    obtain ⟨h13, hr⟩ := nk_cke hr
    obtain ⟨S14, h15, hr⟩ := nk_lte hr
    refine nk_iast (len := 1) (N := 20) (pc' := 91) mJ_435 (by decide +kernel) t9 h13.1 h13.2 rfl rfl h15 ?_
    obtain ⟨v16, h17, hr⟩ := nk_lte hr
    refine nk_p (i := .iinc 5 1) (len := 3) (pc' := 94) mJ_435 (by decide +kernel) (ns_iinc (c := 1) (L' := [(5, nk_i v16), (0, nk_r l0), (1, nk_i l1), (2, nk_r l2), (3, nk_i l3), (4, nk_i l4)]) 5 rfl (by decide +kernel) h17 rfl (by decide +kernel)) rfl ?_
    refine nk_p (i := .goto (-28)) (len := 3) (pc' := 66) mJ_435 (by decide +kernel) (ns_goto (by decide +kernel)) rfl ?_
    refine nk_sub [1, 2, 3, 4, 5, 0] (L' := [(0, nk_r l0), (1, nk_i l1), (2, nk_r l2), (3, nk_i l3), (4, nk_i l4), (5, nk_i v16)]) rfl ?_
    exact hrec66 _ _ _ _ _ _ _ _ t_l0 t_l2 hr
noncomputable def ja_X9_wrongType_L66 : Nat → Nat → Int → Nat → Int → Int → Int → nk_S → Option (Int × nk_S)
  | 0, _, _, _, _, _, _, _ => none
  | n + 1, l0, l1, l2, l3, l4, l5, S => ja_X9_wrongType_b66 (ja_X9_wrongType_L66 n) l0 l1 l2 l3 l4 l5 S
theorem ja_X9_wrongType_L66_ok (zs : List Int32) : ∀ n : Nat, ∀ (l0 : Nat) (l1 : Int) (l2 : Nat) (l3 : Int) (l4 : Int) (l5 : Int) (S : nk_S) (R : Int × nk_S), nk_cl ja_Tt l0 = some 9 → nk_cl ja_Tt l2 = some 0 → ja_X9_wrongType_L66 n l0 l1 l2 l3 l4 l5 S = some R → nk_K ja_Tt mi_Γ (mi_ev zs) 1 435 66 [(0, nk_r l0), (1, nk_i l1), (2, nk_r l2), (3, nk_i l3), (4, nk_i l4), (5, nk_i l5)] [] S R := by
  intro n
  induction n with
  | zero => intro _ _ _ _ _ _ _ _ _ _ hr; cases hr
  | succ n ih => intro l0 l1 l2 l3 l4 l5 S R t_l0 t_l2 hr; exact ja_X9_wrongType_b66_ok zs ih l0 l1 l2 l3 l4 l5 S R t_l0 t_l2 hr
noncomputable def ja_X9_wrongType_b26 (rec26 : Nat → Int → Nat → Int → Int → Int → nk_S → Option (Int × nk_S)) (l0 : Nat) (l1 : Int) (l2 : Nat) (l3 : Int) (l4 : Int) (l5 : Int) (S : nk_S) : Option (Int × nk_S) :=
  if l4 ≤ l5 then
    nk_bd (ja_J7_fill_53178 (ja_c l0 6) 20 0 S) fun r2 S3 =>
    ja_X9_wrongType_L66 nk_big l0 l1 l2 l3 l4 0 S3
  else
    if 0 ≤ l5 ∧ l5 < 1024 then
    nk_lt (nk_wi S (ja_c l0 4) l5.toNat 0) fun S7 =>
    nk_lt (nk_wi S7 (ja_c l0 5) l5.toNat 0) fun S10 =>
    nk_lt (nk_w (l5 + 1)) fun v12 =>
    rec26 l0 l1 l2 l3 l4 v12 S10
    else none
theorem ja_X9_wrongType_b26_ok (zs : List Int32) {rec26 : Nat → Int → Nat → Int → Int → Int → nk_S → Option (Int × nk_S)} (hrec26 : ∀ (l0 : Nat) (l1 : Int) (l2 : Nat) (l3 : Int) (l4 : Int) (l5 : Int) (S : nk_S) (R : Int × nk_S), nk_cl ja_Tt l0 = some 9 → nk_cl ja_Tt l2 = some 0 → rec26 l0 l1 l2 l3 l4 l5 S = some R → nk_K ja_Tt mi_Γ (mi_ev zs) 1 435 26 [(0, nk_r l0), (1, nk_i l1), (2, nk_r l2), (3, nk_i l3), (4, nk_i l4), (5, nk_i l5)] [] S R) : ∀ (l0 : Nat) (l1 : Int) (l2 : Nat) (l3 : Int) (l4 : Int) (l5 : Int) (S : nk_S) (R : Int × nk_S), nk_cl ja_Tt l0 = some 9 → nk_cl ja_Tt l2 = some 0 → ja_X9_wrongType_b26 rec26 l0 l1 l2 l3 l4 l5 S = some R → nk_K ja_Tt mi_Γ (mi_ev zs) 1 435 26 [(0, nk_r l0), (1, nk_i l1), (2, nk_r l2), (3, nk_i l3), (4, nk_i l4), (5, nk_i l5)] [] S R := by
  intro l0 l1 l2 l3 l4 l5 S R t_l0 t_l2 hr
  unfold ja_X9_wrongType_b26 at hr
  refine nk_p (i := .iload 5) (len := 2) (pc' := 28) mJ_435 (by decide +kernel) (ns_iload 5 rfl) rfl ?_
  refine nk_p (i := .iload 4) (len := 2) (pc' := 30) mJ_435 (by decide +kernel) (ns_iload 4 rfl) rfl ?_
  refine nk_icmp (c := .ge) (off := 25) (len := 3) (t := 55) (pc' := 33) mJ_435 (by decide +kernel) (by decide +kernel) rfl (fun hc => ?_) (fun hc => ?_)
  · have hr := nk_ifp (c := l4 ≤ l5) hc hr
    refine nk_p (i := .aload_n 0) (len := 1) (pc' := 56) mJ_435 (by decide +kernel) (ns_aload_n 0 rfl rfl) rfl ?_
    refine nk_getC (f := (4, 1, 20)) (x := 25) (len := 3) (ci := 9) (k := 6) (pc' := 59) ja_okT mJ_435 (by decide +kernel) (by decide +kernel) (by decide +kernel) (by decide) t_l0 rfl ?_
    have t1 : nk_ar ja_Tt (ja_c l0 6) = some (1, 20) := nk_ta ja_okT t_l0 (by decide +kernel)
    refine nk_p (i := .iconst 0) (len := 1) (pc' := 60) mJ_435 (by decide +kernel) (ns_iconst (c := 0) (by decide +kernel)) rfl ?_
    obtain ⟨r2, S3, h4, hr⟩ := nk_bde hr
    refine nk_callS (ci := 0) (n := 2) (x := 120) (len := 3) (j' := 13) (q' := 0) (r := r2) (S' := S3) (L2 := [(0, nk_r (ja_c l0 6)), (1, nk_i 0)]) (rest := []) (st' := []) (pc' := 63) mJ_435 (by decide +kernel) (by decide +kernel) (Nat.le_of_ble_eq_true rfl) rfl rfl (Nat.le_of_ble_eq_true rfl) mJ_13 (Nat.le_of_ble_eq_true rfl) ja_Tpos rfl (ja_J7_fill_53178_ok zs _ _ _ _ _ t1 h4) rfl ?_
    refine nk_p (i := .iconst 0) (len := 1) (pc' := 64) mJ_435 (by decide +kernel) (ns_iconst (c := 0) (by decide +kernel)) rfl ?_
    refine nk_p (i := .istore 5) (len := 2) (pc' := 66) mJ_435 (by decide +kernel) (ns_istore (L' := [(5, nk_i 0), (0, nk_r l0), (1, nk_i l1), (2, nk_r l2), (3, nk_i l3), (4, nk_i l4)]) rfl rfl (by decide +kernel)) rfl ?_
    refine nk_sub [1, 2, 3, 4, 5, 0] (L' := [(0, nk_r l0), (1, nk_i l1), (2, nk_r l2), (3, nk_i l3), (4, nk_i l4), (5, nk_i 0)]) rfl ?_
    exact ja_X9_wrongType_L66_ok zs nk_big _ _ _ _ _ _ _ _ t_l0 t_l2 hr
  · have hr := nk_ifn (c := l4 ≤ l5) hc hr
    refine nk_p (i := .aload_n 0) (len := 1) (pc' := 34) mJ_435 (by decide +kernel) (ns_aload_n 0 rfl rfl) rfl ?_
    refine nk_getC (f := (4, 3, 1024)) (x := 18) (len := 3) (ci := 9) (k := 4) (pc' := 37) ja_okT mJ_435 (by decide +kernel) (by decide +kernel) (by decide +kernel) (by decide) t_l0 rfl ?_
    have t5 : nk_ar ja_Tt (ja_c l0 4) = some (3, 1024) := nk_ta ja_okT t_l0 (by decide +kernel)
    refine nk_p (i := .iload 5) (len := 2) (pc' := 39) mJ_435 (by decide +kernel) (ns_iload 5 rfl) rfl ?_
    refine nk_p (i := .iconst 0) (len := 1) (pc' := 40) mJ_435 (by decide +kernel) (ns_iconst (c := 0) (by decide +kernel)) rfl ?_
    obtain ⟨h6, hr⟩ := nk_cke hr
    obtain ⟨S7, h8, hr⟩ := nk_lte hr
    refine nk_zast (len := 1) (N := 1024) (pc' := 41) mJ_435 (by decide +kernel) t5 h6.1 h6.2 (by decide) rfl rfl h8 ?_
    refine nk_p (i := .aload_n 0) (len := 1) (pc' := 42) mJ_435 (by decide +kernel) (ns_aload_n 0 rfl rfl) rfl ?_
    refine nk_getC (f := (4, 3, 1024)) (x := 22) (len := 3) (ci := 9) (k := 5) (pc' := 45) ja_okT mJ_435 (by decide +kernel) (by decide +kernel) (by decide +kernel) (by decide) t_l0 rfl ?_
    have t9 : nk_ar ja_Tt (ja_c l0 5) = some (3, 1024) := nk_ta ja_okT t_l0 (by decide +kernel)
    refine nk_p (i := .iload 5) (len := 2) (pc' := 47) mJ_435 (by decide +kernel) (ns_iload 5 rfl) rfl ?_
    refine nk_p (i := .iconst 0) (len := 1) (pc' := 48) mJ_435 (by decide +kernel) (ns_iconst (c := 0) (by decide +kernel)) rfl ?_
    obtain ⟨S10, h11, hr⟩ := nk_lte hr
    refine nk_zast (len := 1) (N := 1024) (pc' := 49) mJ_435 (by decide +kernel) t9 h6.1 h6.2 (by decide) rfl rfl h11 ?_
    obtain ⟨v12, h13, hr⟩ := nk_lte hr
    refine nk_p (i := .iinc 5 1) (len := 3) (pc' := 52) mJ_435 (by decide +kernel) (ns_iinc (c := 1) (L' := [(5, nk_i v12), (0, nk_r l0), (1, nk_i l1), (2, nk_r l2), (3, nk_i l3), (4, nk_i l4)]) 5 rfl (by decide +kernel) h13 rfl (by decide +kernel)) rfl ?_
    refine nk_p (i := .goto (-26)) (len := 3) (pc' := 26) mJ_435 (by decide +kernel) (ns_goto (by decide +kernel)) rfl ?_
    refine nk_sub [1, 2, 3, 4, 5, 0] (L' := [(0, nk_r l0), (1, nk_i l1), (2, nk_r l2), (3, nk_i l3), (4, nk_i l4), (5, nk_i v12)]) rfl ?_
    exact hrec26 _ _ _ _ _ _ _ _ t_l0 t_l2 hr
noncomputable def ja_X9_wrongType_L26 : Nat → Nat → Int → Nat → Int → Int → Int → nk_S → Option (Int × nk_S)
  | 0, _, _, _, _, _, _, _ => none
  | n + 1, l0, l1, l2, l3, l4, l5, S => ja_X9_wrongType_b26 (ja_X9_wrongType_L26 n) l0 l1 l2 l3 l4 l5 S
theorem ja_X9_wrongType_L26_ok (zs : List Int32) : ∀ n : Nat, ∀ (l0 : Nat) (l1 : Int) (l2 : Nat) (l3 : Int) (l4 : Int) (l5 : Int) (S : nk_S) (R : Int × nk_S), nk_cl ja_Tt l0 = some 9 → nk_cl ja_Tt l2 = some 0 → ja_X9_wrongType_L26 n l0 l1 l2 l3 l4 l5 S = some R → nk_K ja_Tt mi_Γ (mi_ev zs) 1 435 26 [(0, nk_r l0), (1, nk_i l1), (2, nk_r l2), (3, nk_i l3), (4, nk_i l4), (5, nk_i l5)] [] S R := by
  intro n
  induction n with
  | zero => intro _ _ _ _ _ _ _ _ _ _ hr; cases hr
  | succ n ih => intro l0 l1 l2 l3 l4 l5 S R t_l0 t_l2 hr; exact ja_X9_wrongType_b26_ok zs ih l0 l1 l2 l3 l4 l5 S R t_l0 t_l2 hr
noncomputable def ja_X9_wrongType (l0 : Nat) (l1 : Int) (S : nk_S) : Option (Int × nk_S) :=
  if 0 ≤ l1 ∧ l1 < 48 then
  nk_lt (S.1 (ja_c (ja_c (S.2 l0 0) 1) 10) l1.toNat) fun v5 =>
  nk_lt (S.1 (ja_c (ja_c (S.2 l0 0) 1) 11) l1.toNat) fun v8 =>
  ja_X9_wrongType_L26 nk_big l0 l1 (ja_c (S.2 l0 0) 1) v5 v8 v5 S
  else none
theorem ja_X9_wrongType_ok (zs : List Int32) : ∀ (l0 : Nat) (l1 : Int) (S : nk_S) (R : Int × nk_S), nk_cl ja_Tt l0 = some 9 → ja_X9_wrongType l0 l1 S = some R → nk_K ja_Tt mi_Γ (mi_ev zs) 1 435 0 [(0, nk_r l0), (1, nk_i l1)] [] S R := by
  intro l0 l1 S R t_l0 hr
  unfold ja_X9_wrongType at hr
  refine nk_p (i := .aload_n 0) (len := 1) (pc' := 1) mJ_435 (by decide +kernel) (ns_aload_n 0 rfl rfl) rfl ?_
  refine nk_getM (cj := 3) (z := 0) (x := 28) (len := 3) (ci := 9) (k := 0) (pc' := 4) ja_okT mJ_435 (by decide +kernel) (by decide +kernel) (by decide +kernel) t_l0 rfl (fun t1 => ?_)
  refine nk_getC (f := (2, 0, 0)) (x := 39) (len := 3) (ci := 3) (k := 1) (pc' := 7) ja_okT mJ_435 (by decide +kernel) (by decide +kernel) (by decide +kernel) (by decide) t1 rfl ?_
  have t2 : nk_cl ja_Tt (ja_c (S.2 l0 0) 1) = some 0 := nk_tc (y := 0) ja_okT t1 (by decide +kernel)
  refine nk_p (i := .astore_n 2) (len := 1) (pc' := 8) mJ_435 (by decide +kernel) (ns_astore_n (L' := [(2, nk_r (ja_c (S.2 l0 0) 1)), (0, nk_r l0), (1, nk_i l1)]) rfl rfl (by decide +kernel)) rfl ?_
  refine nk_p (i := .aload_n 2) (len := 1) (pc' := 9) mJ_435 (by decide +kernel) (ns_aload_n 0 rfl rfl) rfl ?_
  refine nk_getC (f := (4, 1, 48)) (x := 56) (len := 3) (ci := 0) (k := 10) (pc' := 12) ja_okT mJ_435 (by decide +kernel) (by decide +kernel) (by decide +kernel) (by decide) t2 rfl ?_
  have t3 : nk_ar ja_Tt (ja_c (ja_c (S.2 l0 0) 1) 10) = some (1, 48) := nk_ta ja_okT t2 (by decide +kernel)
  refine nk_p (i := .iload_n 1) (len := 1) (pc' := 13) mJ_435 (by decide +kernel) (ns_iload_n 2 rfl rfl) rfl ?_
  obtain ⟨h4, hr⟩ := nk_cke hr
  refine nk_iald (len := 1) (N := 48) (pc' := 14) mJ_435 (by decide +kernel) t3 h4.1 h4.2 rfl rfl ?_
  obtain ⟨v5, h6, hr⟩ := nk_lte hr
  refine nk_p (i := .istore_n 3) (len := 1) (pc' := 15) mJ_435 (by decide +kernel) (ns_istore_n (L' := [(3, nk_i v5), (2, nk_r (ja_c (S.2 l0 0) 1)), (0, nk_r l0), (1, nk_i l1)]) h6 rfl rfl (by decide +kernel)) rfl ?_
  refine nk_p (i := .aload_n 2) (len := 1) (pc' := 16) mJ_435 (by decide +kernel) (ns_aload_n 1 rfl rfl) rfl ?_
  refine nk_getC (f := (4, 1, 48)) (x := 59) (len := 3) (ci := 0) (k := 11) (pc' := 19) ja_okT mJ_435 (by decide +kernel) (by decide +kernel) (by decide +kernel) (by decide) t2 rfl ?_
  have t7 : nk_ar ja_Tt (ja_c (ja_c (S.2 l0 0) 1) 11) = some (1, 48) := nk_ta ja_okT t2 (by decide +kernel)
  refine nk_p (i := .iload_n 1) (len := 1) (pc' := 20) mJ_435 (by decide +kernel) (ns_iload_n 3 rfl rfl) rfl ?_
  refine nk_iald (len := 1) (N := 48) (pc' := 21) mJ_435 (by decide +kernel) t7 h4.1 h4.2 rfl rfl ?_
  obtain ⟨v8, h9, hr⟩ := nk_lte hr
  refine nk_p (i := .istore 4) (len := 2) (pc' := 23) mJ_435 (by decide +kernel) (ns_istore (L' := [(4, nk_i v8), (3, nk_i v5), (2, nk_r (ja_c (S.2 l0 0) 1)), (0, nk_r l0), (1, nk_i l1)]) h9 rfl (by decide +kernel)) rfl ?_
  refine nk_p (i := .iload_n 3) (len := 1) (pc' := 24) mJ_435 (by decide +kernel) (ns_iload_n 1 rfl rfl) rfl ?_
  refine nk_p (i := .istore 5) (len := 2) (pc' := 26) mJ_435 (by decide +kernel) (ns_istore (L' := [(5, nk_i v5), (4, nk_i v8), (3, nk_i v5), (2, nk_r (ja_c (S.2 l0 0) 1)), (0, nk_r l0), (1, nk_i l1)]) rfl rfl (by decide +kernel)) rfl ?_
  refine nk_sub [4, 5, 3, 2, 1, 0] (L' := [(0, nk_r l0), (1, nk_i l1), (2, nk_r (ja_c (S.2 l0 0) 1)), (3, nk_i v5), (4, nk_i v8), (5, nk_i v5)]) rfl ?_
  exact ja_X9_wrongType_L26_ok zs nk_big _ _ _ _ _ _ _ _ t_l0 t2 hr
/-! SafeCode$Types firstWrong (LSafeCode$Program;)I -/
noncomputable def ja_X9_firstWrong_b45 (rec15 : Nat → Int → nk_S → Option (Int × nk_S)) (l0 : Nat) (l2 : Int) (l3 : Int) (S : nk_S) : Option (Int × nk_S) :=
  if l3 < 0 then
    nk_lt (nk_w (l2 + 1)) fun v1 =>
    rec15 l0 v1 S
  else
    some (l3, S)
theorem ja_X9_firstWrong_b45_ok (zs : List Int32) {rec15 : Nat → Int → nk_S → Option (Int × nk_S)} (hrec15 : ∀ (l0 : Nat) (l2 : Int) (S : nk_S) (R : Int × nk_S), nk_cl ja_Tt l0 = some 9 → rec15 l0 l2 S = some R → nk_K ja_Tt mi_Γ (mi_ev zs) 1 425 15 [(0, nk_r l0), (2, nk_i l2)] [] S R) : ∀ (l0 : Nat) (l2 : Int) (l3 : Int) (S : nk_S) (R : Int × nk_S), nk_cl ja_Tt l0 = some 9 → ja_X9_firstWrong_b45 rec15 l0 l2 l3 S = some R → nk_K ja_Tt mi_Γ (mi_ev zs) 1 425 45 [(0, nk_r l0), (2, nk_i l2), (3, nk_i l3)] [] S R := by
  intro l0 l2 l3 S R t_l0 hr
  unfold ja_X9_firstWrong_b45 at hr
  refine nk_p (i := .iload_n 3) (len := 1) (pc' := 46) mJ_425 (by decide +kernel) (ns_iload_n 2 rfl rfl) rfl ?_
  refine nk_icond (c := .lt) (off := 5) (len := 3) (t := 51) (pc' := 49) mJ_425 (by decide +kernel) (by decide +kernel) rfl (fun hc => ?_) (fun hc => ?_)
  · have hr := nk_ifp (c := l3 < 0) hc hr
    obtain ⟨v1, h2, hr⟩ := nk_lte hr
    refine nk_p (i := .iinc 2 1) (len := 3) (pc' := 54) mJ_425 (by decide +kernel) (ns_iinc (c := 1) (L' := [(2, nk_i v1), (0, nk_r l0), (3, nk_i l3)]) 1 rfl (by decide +kernel) h2 rfl (by decide +kernel)) rfl ?_
    refine nk_p (i := .goto (-39)) (len := 3) (pc' := 15) mJ_425 (by decide +kernel) (ns_goto (by decide +kernel)) rfl ?_
    refine nk_sub [1, 0] (L' := [(0, nk_r l0), (2, nk_i v1)]) rfl ?_
    exact hrec15 _ _ _ _ t_l0 hr
  · have hr := nk_ifn (c := l3 < 0) hc hr
    refine nk_p (i := .iload_n 3) (len := 1) (pc' := 50) mJ_425 (by decide +kernel) (ns_iload_n 2 rfl rfl) rfl ?_
    cases hr
    exact nk_iret (ty := .int) (len := 1) mJ_425 (by decide +kernel) rfl (nk_nar_i _)
noncomputable def ja_X9_firstWrong_b15 (rec15 : Nat → Int → nk_S → Option (Int × nk_S)) (l0 : Nat) (l2 : Int) (S : nk_S) : Option (Int × nk_S) :=
  if (S.1 (ja_c (S.2 l0 0) 1) 0) ≤ l2 then
    some ((-1), S)
  else
    nk_bd (ja_X9_wrongHeight l0 l2 S) fun r3 S4 =>
    if 0 ≤ r3 then
      ja_X9_firstWrong_b45 rec15 l0 l2 r3 S4
    else
      nk_bd (ja_X9_wrongType l0 l2 S4) fun r6 S7 =>
      ja_X9_firstWrong_b45 rec15 l0 l2 r6 S7
theorem ja_X9_firstWrong_b15_ok (zs : List Int32) {rec15 : Nat → Int → nk_S → Option (Int × nk_S)} (hrec15 : ∀ (l0 : Nat) (l2 : Int) (S : nk_S) (R : Int × nk_S), nk_cl ja_Tt l0 = some 9 → rec15 l0 l2 S = some R → nk_K ja_Tt mi_Γ (mi_ev zs) 1 425 15 [(0, nk_r l0), (2, nk_i l2)] [] S R) : ∀ (l0 : Nat) (l2 : Int) (S : nk_S) (R : Int × nk_S), nk_cl ja_Tt l0 = some 9 → ja_X9_firstWrong_b15 rec15 l0 l2 S = some R → nk_K ja_Tt mi_Γ (mi_ev zs) 1 425 15 [(0, nk_r l0), (2, nk_i l2)] [] S R := by
  intro l0 l2 S R t_l0 hr
  unfold ja_X9_firstWrong_b15 at hr
  refine nk_p (i := .iload_n 2) (len := 1) (pc' := 16) mJ_425 (by decide +kernel) (ns_iload_n 1 rfl rfl) rfl ?_
  refine nk_p (i := .aload_n 0) (len := 1) (pc' := 17) mJ_425 (by decide +kernel) (ns_aload_n 0 rfl rfl) rfl ?_
  refine nk_getM (cj := 3) (z := 0) (x := 28) (len := 3) (ci := 9) (k := 0) (pc' := 20) ja_okT mJ_425 (by decide +kernel) (by decide +kernel) (by decide +kernel) t_l0 rfl (fun t1 => ?_)
  refine nk_getC (f := (2, 0, 0)) (x := 39) (len := 3) (ci := 3) (k := 1) (pc' := 23) ja_okT mJ_425 (by decide +kernel) (by decide +kernel) (by decide +kernel) (by decide) t1 rfl ?_
  have t2 : nk_cl ja_Tt (ja_c (S.2 l0 0) 1) = some 0 := nk_tc (y := 0) ja_okT t1 (by decide +kernel)
  refine nk_getI (y := (0, 0)) (x := 43) (len := 3) (ci := 0) (k := 0) (pc' := 26) ja_okT mJ_425 (by decide +kernel) (by decide +kernel) (by decide +kernel) t2 rfl ?_
  refine nk_icmp (c := .ge) (off := 31) (len := 3) (t := 57) (pc' := 29) mJ_425 (by decide +kernel) (by decide +kernel) rfl (fun hc => ?_) (fun hc => ?_)
  · have hr := nk_ifp (c := (S.1 (ja_c (S.2 l0 0) 1) 0) ≤ l2) hc hr
    refine nk_p (i := .iconst (-1)) (len := 1) (pc' := 58) mJ_425 (by decide +kernel) (ns_iconst (c := (-1)) (by decide +kernel)) rfl ?_
    cases hr
    exact nk_iret (ty := .int) (len := 1) mJ_425 (by decide +kernel) rfl (nk_nar_i _)
  · have hr := nk_ifn (c := (S.1 (ja_c (S.2 l0 0) 1) 0) ≤ l2) hc hr
    refine nk_p (i := .aload_n 0) (len := 1) (pc' := 30) mJ_425 (by decide +kernel) (ns_aload_n 0 rfl rfl) rfl ?_
    refine nk_p (i := .iload_n 2) (len := 1) (pc' := 31) mJ_425 (by decide +kernel) (ns_iload_n 1 rfl rfl) rfl ?_
    obtain ⟨r3, S4, h5, hr⟩ := nk_bde hr
    refine nk_callV (ci := 9) (n := 1) (x := 49) (len := 3) (j' := 434) (q' := 1) (r := r3) (S' := S4) (L2 := [(0, nk_r l0), (1, nk_i l2)]) (rest := []) (st' := [nk_i r3]) (pc' := 34) mJ_425 (by decide +kernel) (by decide +kernel) rfl rfl t_l0 (Nat.le_of_ble_eq_true rfl) mJ_434 (Nat.le_of_ble_eq_true rfl) rfl (ja_X9_wrongHeight_ok zs _ _ _ _ t_l0 h5) rfl ?_
    refine nk_p (i := .istore_n 3) (len := 1) (pc' := 35) mJ_425 (by decide +kernel) (ns_istore_n (L' := [(3, nk_i r3), (0, nk_r l0), (2, nk_i l2)]) rfl rfl rfl (by decide +kernel)) rfl ?_
    refine nk_p (i := .iload_n 3) (len := 1) (pc' := 36) mJ_425 (by decide +kernel) (ns_iload_n 0 rfl rfl) rfl ?_
    refine nk_icond (c := .ge) (off := 9) (len := 3) (t := 45) (pc' := 39) mJ_425 (by decide +kernel) (by decide +kernel) rfl (fun hc => ?_) (fun hc => ?_)
    · have hr := nk_ifp (c := 0 ≤ r3) hc hr
      refine nk_sub [1, 2, 0] (L' := [(0, nk_r l0), (2, nk_i l2), (3, nk_i r3)]) rfl ?_
      exact ja_X9_firstWrong_b45_ok zs hrec15 _ _ _ _ _ t_l0 hr
    · have hr := nk_ifn (c := 0 ≤ r3) hc hr
      refine nk_p (i := .aload_n 0) (len := 1) (pc' := 40) mJ_425 (by decide +kernel) (ns_aload_n 1 rfl rfl) rfl ?_
      refine nk_p (i := .iload_n 2) (len := 1) (pc' := 41) mJ_425 (by decide +kernel) (ns_iload_n 2 rfl rfl) rfl ?_
      obtain ⟨r6, S7, h8, hr⟩ := nk_bde hr
      refine nk_callV (ci := 9) (n := 1) (x := 53) (len := 3) (j' := 435) (q' := 1) (r := r6) (S' := S7) (L2 := [(0, nk_r l0), (1, nk_i l2)]) (rest := []) (st' := [nk_i r6]) (pc' := 44) mJ_425 (by decide +kernel) (by decide +kernel) rfl rfl t_l0 (Nat.le_of_ble_eq_true rfl) mJ_435 (Nat.le_of_ble_eq_true rfl) rfl (ja_X9_wrongType_ok zs _ _ _ _ t_l0 h8) rfl ?_
      refine nk_p (i := .istore_n 3) (len := 1) (pc' := 45) mJ_425 (by decide +kernel) (ns_istore_n (L' := [(3, nk_i r6), (0, nk_r l0), (2, nk_i l2)]) rfl rfl rfl (by decide +kernel)) rfl ?_
      refine nk_sub [1, 2, 0] (L' := [(0, nk_r l0), (2, nk_i l2), (3, nk_i r6)]) rfl ?_
      exact ja_X9_firstWrong_b45_ok zs hrec15 _ _ _ _ _ t_l0 hr
noncomputable def ja_X9_firstWrong_L15 : Nat → Nat → Int → nk_S → Option (Int × nk_S)
  | 0, _, _, _ => none
  | n + 1, l0, l2, S => ja_X9_firstWrong_b15 (ja_X9_firstWrong_L15 n) l0 l2 S
theorem ja_X9_firstWrong_L15_ok (zs : List Int32) : ∀ n : Nat, ∀ (l0 : Nat) (l2 : Int) (S : nk_S) (R : Int × nk_S), nk_cl ja_Tt l0 = some 9 → ja_X9_firstWrong_L15 n l0 l2 S = some R → nk_K ja_Tt mi_Γ (mi_ev zs) 1 425 15 [(0, nk_r l0), (2, nk_i l2)] [] S R := by
  intro n
  induction n with
  | zero => intro _ _ _ _ _ hr; cases hr
  | succ n ih => intro l0 l2 S R t_l0 hr; exact ja_X9_firstWrong_b15_ok zs ih l0 l2 S R t_l0 hr
noncomputable def ja_X9_firstWrong (l0 : Nat) (l1 : Nat) (S : nk_S) : Option (Int × nk_S) :=
  nk_lt (nk_wr S l0 0 l1) fun S1 =>
  nk_lt (nk_wr S1 l0 1 (ja_c l1 0)) fun S4 =>
  ja_X9_firstWrong_L15 nk_big l0 0 S4
theorem ja_X9_firstWrong_ok (zs : List Int32) : ∀ (l0 : Nat) (l1 : Nat) (S : nk_S) (R : Int × nk_S), nk_cl ja_Tt l0 = some 9 → nk_cl ja_Tt l1 = some 3 → ja_X9_firstWrong l0 l1 S = some R → nk_K ja_Tt mi_Γ (mi_ev zs) 1 425 0 [(0, nk_r l0), (1, nk_r l1)] [] S R := by
  intro l0 l1 S R t_l0 t_l1 hr
  unfold ja_X9_firstWrong at hr
  refine nk_p (i := .aload_n 0) (len := 1) (pc' := 1) mJ_425 (by decide +kernel) (ns_aload_n 0 rfl rfl) rfl ?_
  refine nk_p (i := .aload_n 1) (len := 1) (pc' := 2) mJ_425 (by decide +kernel) (ns_aload_n 1 rfl rfl) rfl ?_
  obtain ⟨S1, h2, hr⟩ := nk_lte hr
  refine nk_putM (cj := 3) (z := 0) (on := "SafeCode$Program") (x := 28) (len := 3) (ci := 9) (k := 0) (pc' := 5) ja_okT mJ_425 (by decide +kernel) (by decide +kernel) (by decide +kernel) t_l0 t_l1 rfl h2 ?_
  refine nk_p (i := .aload_n 0) (len := 1) (pc' := 6) mJ_425 (by decide +kernel) (ns_aload_n 0 rfl rfl) rfl ?_
  refine nk_p (i := .aload_n 1) (len := 1) (pc' := 7) mJ_425 (by decide +kernel) (ns_aload_n 1 rfl rfl) rfl ?_
  refine nk_getC (f := (2, 1, 0)) (x := 32) (len := 3) (ci := 3) (k := 0) (pc' := 10) ja_okT mJ_425 (by decide +kernel) (by decide +kernel) (by decide +kernel) (by decide) t_l1 rfl ?_
  have t3 : nk_cl ja_Tt (ja_c l1 0) = some 1 := nk_tc (y := 0) ja_okT t_l1 (by decide +kernel)
  obtain ⟨S4, h5, hr⟩ := nk_lte hr
  refine nk_putM (cj := 1) (z := 0) (on := "SafeCode$Classes") (x := 38) (len := 3) (ci := 9) (k := 1) (pc' := 13) ja_okT mJ_425 (by decide +kernel) (by decide +kernel) (by decide +kernel) t_l0 t3 rfl h5 ?_
  refine nk_p (i := .iconst 0) (len := 1) (pc' := 14) mJ_425 (by decide +kernel) (ns_iconst (c := 0) (by decide +kernel)) rfl ?_
  refine nk_p (i := .istore_n 2) (len := 1) (pc' := 15) mJ_425 (by decide +kernel) (ns_istore_n (L' := [(2, nk_i 0), (0, nk_r l0), (1, nk_r l1)]) rfl rfl rfl (by decide +kernel)) rfl ?_
  refine nk_sub [1, 0] (L' := [(0, nk_r l0), (2, nk_i 0)]) rfl ?_
  exact ja_X9_firstWrong_L15_ok zs nk_big _ _ _ _ t_l0 hr
/-! SafeCode$Classes placeFields ()V -/
noncomputable def ja_X1_placeFields_b30 (rec5 : Nat → Int → Int → nk_S → Option (Int × nk_S)) (rec30 : Nat → Int → Int → nk_S → Option (Int × nk_S)) (l0 : Nat) (l1 : Int) (l2 : Int) (S : nk_S) : Option (Int × nk_S) :=
  if (S.1 l0 4) ≤ l1 then
    nk_lt (nk_w (l2 + 1)) fun v1 =>
    rec5 l0 l1 v1 S
  else
    if 0 ≤ l1 ∧ l1 < 48 then
    if (S.1 (ja_c l0 6) l1.toNat) = l2 then
      if 0 ≤ l2 ∧ l2 < 32 then
      nk_lt (nk_wi S (ja_c l0 8) l1.toNat (S.1 (ja_c l0 3) l2.toNat)) fun S10 =>
      nk_lt (nk_wi S10 (ja_c l0 3) l2.toNat (nk_w ((S10.1 (ja_c l0 3) l2.toNat) + 1))) fun S12 =>
      nk_lt (nk_w (l1 + 1)) fun v14 =>
      rec30 l0 v14 l2 S12
      else none
    else
      nk_lt (nk_w (l2 + 1)) fun v5 =>
      rec5 l0 l1 v5 S
    else none
theorem ja_X1_placeFields_b30_ok (zs : List Int32) {rec5 : Nat → Int → Int → nk_S → Option (Int × nk_S)} (hrec5 : ∀ (l0 : Nat) (l1 : Int) (l2 : Int) (S : nk_S) (R : Int × nk_S), nk_cl ja_Tt l0 = some 1 → rec5 l0 l1 l2 S = some R → nk_K ja_Tt mi_Γ (mi_ev zs) 0 259 5 [(0, nk_r l0), (1, nk_i l1), (2, nk_i l2)] [] S R) {rec30 : Nat → Int → Int → nk_S → Option (Int × nk_S)} (hrec30 : ∀ (l0 : Nat) (l1 : Int) (l2 : Int) (S : nk_S) (R : Int × nk_S), nk_cl ja_Tt l0 = some 1 → rec30 l0 l1 l2 S = some R → nk_K ja_Tt mi_Γ (mi_ev zs) 0 259 30 [(0, nk_r l0), (1, nk_i l1), (2, nk_i l2)] [] S R) : ∀ (l0 : Nat) (l1 : Int) (l2 : Int) (S : nk_S) (R : Int × nk_S), nk_cl ja_Tt l0 = some 1 → ja_X1_placeFields_b30 rec5 rec30 l0 l1 l2 S = some R → nk_K ja_Tt mi_Γ (mi_ev zs) 0 259 30 [(0, nk_r l0), (1, nk_i l1), (2, nk_i l2)] [] S R := by
  intro l0 l1 l2 S R t_l0 hr
  unfold ja_X1_placeFields_b30 at hr
  refine nk_p (i := .iload_n 1) (len := 1) (pc' := 31) mJ_259 (by decide +kernel) (ns_iload_n 1 rfl rfl) rfl ?_
  refine nk_p (i := .aload_n 0) (len := 1) (pc' := 32) mJ_259 (by decide +kernel) (ns_aload_n 0 rfl rfl) rfl ?_
  refine nk_getI (y := (0, 0)) (x := 37) (len := 3) (ci := 1) (k := 4) (pc' := 35) ja_okT mJ_259 (by decide +kernel) (by decide +kernel) (by decide +kernel) t_l0 rfl ?_
  refine nk_icmp (c := .ge) (off := 41) (len := 3) (t := 76) (pc' := 38) mJ_259 (by decide +kernel) (by decide +kernel) rfl (fun hc => ?_) (fun hc => ?_)
  · have hr := nk_ifp (c := (S.1 l0 4) ≤ l1) hc hr
    obtain ⟨v1, h2, hr⟩ := nk_lte hr
    refine nk_p (i := .iinc 2 1) (len := 3) (pc' := 79) mJ_259 (by decide +kernel) (ns_iinc (c := 1) (L' := [(2, nk_i v1), (0, nk_r l0), (1, nk_i l1)]) 2 rfl (by decide +kernel) h2 rfl (by decide +kernel)) rfl ?_
    refine nk_p (i := .goto (-74)) (len := 3) (pc' := 5) mJ_259 (by decide +kernel) (ns_goto (by decide +kernel)) rfl ?_
    refine nk_sub [1, 2, 0] (L' := [(0, nk_r l0), (1, nk_i l1), (2, nk_i v1)]) rfl ?_
    exact hrec5 _ _ _ _ _ t_l0 hr
  · have hr := nk_ifn (c := (S.1 l0 4) ≤ l1) hc hr
    refine nk_p (i := .aload_n 0) (len := 1) (pc' := 39) mJ_259 (by decide +kernel) (ns_aload_n 0 rfl rfl) rfl ?_
    refine nk_getC (f := (4, 1, 48)) (x := 24) (len := 3) (ci := 1) (k := 6) (pc' := 42) ja_okT mJ_259 (by decide +kernel) (by decide +kernel) (by decide +kernel) (by decide) t_l0 rfl ?_
    have t3 : nk_ar ja_Tt (ja_c l0 6) = some (1, 48) := nk_ta ja_okT t_l0 (by decide +kernel)
    refine nk_p (i := .iload_n 1) (len := 1) (pc' := 43) mJ_259 (by decide +kernel) (ns_iload_n 1 rfl rfl) rfl ?_
    obtain ⟨h4, hr⟩ := nk_cke hr
    refine nk_iald (len := 1) (N := 48) (pc' := 44) mJ_259 (by decide +kernel) t3 h4.1 h4.2 rfl rfl ?_
    refine nk_p (i := .iload_n 2) (len := 1) (pc' := 45) mJ_259 (by decide +kernel) (ns_iload_n 2 rfl rfl) rfl ?_
    refine nk_icmp (c := .ne) (off := 31) (len := 3) (t := 76) (pc' := 48) mJ_259 (by decide +kernel) (by decide +kernel) rfl (fun hc => ?_) (fun hc => ?_)
    · have hr := nk_ifn (c := (S.1 (ja_c l0 6) l1.toNat) = l2) hc hr
      obtain ⟨v5, h6, hr⟩ := nk_lte hr
      refine nk_p (i := .iinc 2 1) (len := 3) (pc' := 79) mJ_259 (by decide +kernel) (ns_iinc (c := 1) (L' := [(2, nk_i v5), (0, nk_r l0), (1, nk_i l1)]) 2 rfl (by decide +kernel) h6 rfl (by decide +kernel)) rfl ?_
      refine nk_p (i := .goto (-74)) (len := 3) (pc' := 5) mJ_259 (by decide +kernel) (ns_goto (by decide +kernel)) rfl ?_
      refine nk_sub [1, 2, 0] (L' := [(0, nk_r l0), (1, nk_i l1), (2, nk_i v5)]) rfl ?_
      exact hrec5 _ _ _ _ _ t_l0 hr
    · have hr := nk_ifp (c := (S.1 (ja_c l0 6) l1.toNat) = l2) (Decidable.of_not_not hc) hr
      refine nk_p (i := .aload_n 0) (len := 1) (pc' := 49) mJ_259 (by decide +kernel) (ns_aload_n 0 rfl rfl) rfl ?_
      refine nk_getC (f := (4, 1, 48)) (x := 30) (len := 3) (ci := 1) (k := 8) (pc' := 52) ja_okT mJ_259 (by decide +kernel) (by decide +kernel) (by decide +kernel) (by decide) t_l0 rfl ?_
      have t7 : nk_ar ja_Tt (ja_c l0 8) = some (1, 48) := nk_ta ja_okT t_l0 (by decide +kernel)
      refine nk_p (i := .iload_n 1) (len := 1) (pc' := 53) mJ_259 (by decide +kernel) (ns_iload_n 1 rfl rfl) rfl ?_
      refine nk_p (i := .aload_n 0) (len := 1) (pc' := 54) mJ_259 (by decide +kernel) (ns_aload_n 0 rfl rfl) rfl ?_
      refine nk_getC (f := (4, 1, 32)) (x := 18) (len := 3) (ci := 1) (k := 3) (pc' := 57) ja_okT mJ_259 (by decide +kernel) (by decide +kernel) (by decide +kernel) (by decide) t_l0 rfl ?_
      have t8 : nk_ar ja_Tt (ja_c l0 3) = some (1, 32) := nk_ta ja_okT t_l0 (by decide +kernel)
      refine nk_p (i := .iload_n 2) (len := 1) (pc' := 58) mJ_259 (by decide +kernel) (ns_iload_n 2 rfl rfl) rfl ?_
      obtain ⟨h9, hr⟩ := nk_cke hr
      refine nk_iald (len := 1) (N := 32) (pc' := 59) mJ_259 (by decide +kernel) t8 h9.1 h9.2 rfl rfl ?_
      obtain ⟨S10, h11, hr⟩ := nk_lte hr
      refine nk_iast (len := 1) (N := 48) (pc' := 60) mJ_259 (by decide +kernel) t7 h4.1 h4.2 rfl rfl h11 ?_
      refine nk_p (i := .aload_n 0) (len := 1) (pc' := 61) mJ_259 (by decide +kernel) (ns_aload_n 0 rfl rfl) rfl ?_
      refine nk_getC (f := (4, 1, 32)) (x := 18) (len := 3) (ci := 1) (k := 3) (pc' := 64) ja_okT mJ_259 (by decide +kernel) (by decide +kernel) (by decide +kernel) (by decide) t_l0 rfl ?_
      refine nk_p (i := .iload_n 2) (len := 1) (pc' := 65) mJ_259 (by decide +kernel) (ns_iload_n 2 rfl rfl) rfl ?_
      refine nk_p (i := .dup2) (len := 1) (pc' := 66) mJ_259 (by decide +kernel) (ns_dup2 rfl rfl) rfl ?_
      refine nk_iald (len := 1) (N := 32) (pc' := 67) mJ_259 (by decide +kernel) t8 h9.1 h9.2 rfl rfl ?_
      refine nk_p (i := .iconst 1) (len := 1) (pc' := 68) mJ_259 (by decide +kernel) (ns_iconst (c := 1) (by decide +kernel)) rfl ?_
      refine nk_p (i := .iadd) (len := 1) (pc' := 69) mJ_259 (by decide +kernel) ns_iadd rfl ?_
      obtain ⟨S12, h13, hr⟩ := nk_lte hr
      refine nk_iast (len := 1) (N := 32) (pc' := 70) mJ_259 (by decide +kernel) t8 h9.1 h9.2 rfl rfl h13 ?_
      obtain ⟨v14, h15, hr⟩ := nk_lte hr
      refine nk_p (i := .iinc 1 1) (len := 3) (pc' := 73) mJ_259 (by decide +kernel) (ns_iinc (c := 1) (L' := [(1, nk_i v14), (0, nk_r l0), (2, nk_i l2)]) 1 rfl (by decide +kernel) h15 rfl (by decide +kernel)) rfl ?_
      refine nk_p (i := .goto (-43)) (len := 3) (pc' := 30) mJ_259 (by decide +kernel) (ns_goto (by decide +kernel)) rfl ?_
      refine nk_sub [1, 0, 2] (L' := [(0, nk_r l0), (1, nk_i v14), (2, nk_i l2)]) rfl ?_
      exact hrec30 _ _ _ _ _ t_l0 hr
noncomputable def ja_X1_placeFields_L30 (rec5 : Nat → Int → Int → nk_S → Option (Int × nk_S)) : Nat → Nat → Int → Int → nk_S → Option (Int × nk_S)
  | 0, _, _, _, _ => none
  | n + 1, l0, l1, l2, S => ja_X1_placeFields_b30 rec5 (ja_X1_placeFields_L30 rec5 n) l0 l1 l2 S
theorem ja_X1_placeFields_L30_ok (zs : List Int32) {rec5 : Nat → Int → Int → nk_S → Option (Int × nk_S)} (hrec5 : ∀ (l0 : Nat) (l1 : Int) (l2 : Int) (S : nk_S) (R : Int × nk_S), nk_cl ja_Tt l0 = some 1 → rec5 l0 l1 l2 S = some R → nk_K ja_Tt mi_Γ (mi_ev zs) 0 259 5 [(0, nk_r l0), (1, nk_i l1), (2, nk_i l2)] [] S R) : ∀ n : Nat, ∀ (l0 : Nat) (l1 : Int) (l2 : Int) (S : nk_S) (R : Int × nk_S), nk_cl ja_Tt l0 = some 1 → ja_X1_placeFields_L30 rec5 n l0 l1 l2 S = some R → nk_K ja_Tt mi_Γ (mi_ev zs) 0 259 30 [(0, nk_r l0), (1, nk_i l1), (2, nk_i l2)] [] S R := by
  intro n
  induction n with
  | zero => intro _ _ _ _ _ _ hr; cases hr
  | succ n ih => intro l0 l1 l2 S R t_l0 hr; exact ja_X1_placeFields_b30_ok zs hrec5 ih l0 l1 l2 S R t_l0 hr
noncomputable def ja_X1_placeFields_b5 (rec5 : Nat → Int → Int → nk_S → Option (Int × nk_S)) (l0 : Nat) (l1 : Int) (l2 : Int) (S : nk_S) : Option (Int × nk_S) :=
  if (S.1 l0 0) ≤ l2 then
    some (0, S)
  else
    if 0 ≤ l2 ∧ l2 < 32 then
    if 0 ≤ (S.1 (ja_c l0 1) l2.toNat) ∧ (S.1 (ja_c l0 1) l2.toNat) < 32 then
    nk_lt (nk_wi S (ja_c l0 3) l2.toNat (S.1 (ja_c l0 3) (S.1 (ja_c l0 1) l2.toNat).toNat)) fun S5 =>
    ja_X1_placeFields_L30 rec5 nk_big l0 l1 l2 S5
    else none
    else none
theorem ja_X1_placeFields_b5_ok (zs : List Int32) {rec5 : Nat → Int → Int → nk_S → Option (Int × nk_S)} (hrec5 : ∀ (l0 : Nat) (l1 : Int) (l2 : Int) (S : nk_S) (R : Int × nk_S), nk_cl ja_Tt l0 = some 1 → rec5 l0 l1 l2 S = some R → nk_K ja_Tt mi_Γ (mi_ev zs) 0 259 5 [(0, nk_r l0), (1, nk_i l1), (2, nk_i l2)] [] S R) : ∀ (l0 : Nat) (l1 : Int) (l2 : Int) (S : nk_S) (R : Int × nk_S), nk_cl ja_Tt l0 = some 1 → ja_X1_placeFields_b5 rec5 l0 l1 l2 S = some R → nk_K ja_Tt mi_Γ (mi_ev zs) 0 259 5 [(0, nk_r l0), (1, nk_i l1), (2, nk_i l2)] [] S R := by
  intro l0 l1 l2 S R t_l0 hr
  unfold ja_X1_placeFields_b5 at hr
  refine nk_p (i := .iload_n 2) (len := 1) (pc' := 6) mJ_259 (by decide +kernel) (ns_iload_n 2 rfl rfl) rfl ?_
  refine nk_p (i := .aload_n 0) (len := 1) (pc' := 7) mJ_259 (by decide +kernel) (ns_aload_n 0 rfl rfl) rfl ?_
  refine nk_getI (y := (0, 0)) (x := 33) (len := 3) (ci := 1) (k := 0) (pc' := 10) ja_okT mJ_259 (by decide +kernel) (by decide +kernel) (by decide +kernel) t_l0 rfl ?_
  refine nk_icmp (c := .ge) (off := 72) (len := 3) (t := 82) (pc' := 13) mJ_259 (by decide +kernel) (by decide +kernel) rfl (fun hc => ?_) (fun hc => ?_)
  · have hr := nk_ifp (c := (S.1 l0 0) ≤ l2) hc hr
    cases hr
    exact nk_vret (len := 1) mJ_259 (by decide +kernel) rfl
  · have hr := nk_ifn (c := (S.1 l0 0) ≤ l2) hc hr
    refine nk_p (i := .aload_n 0) (len := 1) (pc' := 14) mJ_259 (by decide +kernel) (ns_aload_n 0 rfl rfl) rfl ?_
    refine nk_getC (f := (4, 1, 32)) (x := 18) (len := 3) (ci := 1) (k := 3) (pc' := 17) ja_okT mJ_259 (by decide +kernel) (by decide +kernel) (by decide +kernel) (by decide) t_l0 rfl ?_
    have t1 : nk_ar ja_Tt (ja_c l0 3) = some (1, 32) := nk_ta ja_okT t_l0 (by decide +kernel)
    refine nk_p (i := .iload_n 2) (len := 1) (pc' := 18) mJ_259 (by decide +kernel) (ns_iload_n 2 rfl rfl) rfl ?_
    refine nk_p (i := .aload_n 0) (len := 1) (pc' := 19) mJ_259 (by decide +kernel) (ns_aload_n 0 rfl rfl) rfl ?_
    refine nk_getC (f := (4, 1, 32)) (x := 18) (len := 3) (ci := 1) (k := 3) (pc' := 22) ja_okT mJ_259 (by decide +kernel) (by decide +kernel) (by decide +kernel) (by decide) t_l0 rfl ?_
    refine nk_p (i := .aload_n 0) (len := 1) (pc' := 23) mJ_259 (by decide +kernel) (ns_aload_n 0 rfl rfl) rfl ?_
    refine nk_getC (f := (4, 1, 32)) (x := 9) (len := 3) (ci := 1) (k := 1) (pc' := 26) ja_okT mJ_259 (by decide +kernel) (by decide +kernel) (by decide +kernel) (by decide) t_l0 rfl ?_
    have t2 : nk_ar ja_Tt (ja_c l0 1) = some (1, 32) := nk_ta ja_okT t_l0 (by decide +kernel)
    refine nk_p (i := .iload_n 2) (len := 1) (pc' := 27) mJ_259 (by decide +kernel) (ns_iload_n 2 rfl rfl) rfl ?_
    obtain ⟨h3, hr⟩ := nk_cke hr
    refine nk_iald (len := 1) (N := 32) (pc' := 28) mJ_259 (by decide +kernel) t2 h3.1 h3.2 rfl rfl ?_
    obtain ⟨h4, hr⟩ := nk_cke hr
    refine nk_iald (len := 1) (N := 32) (pc' := 29) mJ_259 (by decide +kernel) t1 h4.1 h4.2 rfl rfl ?_
    obtain ⟨S5, h6, hr⟩ := nk_lte hr
    refine nk_iast (len := 1) (N := 32) (pc' := 30) mJ_259 (by decide +kernel) t1 h3.1 h3.2 rfl rfl h6 ?_
    exact ja_X1_placeFields_L30_ok zs hrec5 nk_big _ _ _ _ _ t_l0 hr
noncomputable def ja_X1_placeFields_L5 : Nat → Nat → Int → Int → nk_S → Option (Int × nk_S)
  | 0, _, _, _, _ => none
  | n + 1, l0, l1, l2, S => ja_X1_placeFields_b5 (ja_X1_placeFields_L5 n) l0 l1 l2 S
theorem ja_X1_placeFields_L5_ok (zs : List Int32) : ∀ n : Nat, ∀ (l0 : Nat) (l1 : Int) (l2 : Int) (S : nk_S) (R : Int × nk_S), nk_cl ja_Tt l0 = some 1 → ja_X1_placeFields_L5 n l0 l1 l2 S = some R → nk_K ja_Tt mi_Γ (mi_ev zs) 0 259 5 [(0, nk_r l0), (1, nk_i l1), (2, nk_i l2)] [] S R := by
  intro n
  induction n with
  | zero => intro _ _ _ _ _ _ hr; cases hr
  | succ n ih => intro l0 l1 l2 S R t_l0 hr; exact ja_X1_placeFields_b5_ok zs ih l0 l1 l2 S R t_l0 hr
noncomputable def ja_X1_placeFields (l0 : Nat) (S : nk_S) : Option (Int × nk_S) :=
  ja_X1_placeFields_L5 nk_big l0 0 8 S
theorem ja_X1_placeFields_ok (zs : List Int32) : ∀ (l0 : Nat) (S : nk_S) (R : Int × nk_S), nk_cl ja_Tt l0 = some 1 → ja_X1_placeFields l0 S = some R → nk_K ja_Tt mi_Γ (mi_ev zs) 0 259 0 [(0, nk_r l0)] [] S R := by
  intro l0 S R t_l0 hr
  unfold ja_X1_placeFields at hr
  refine nk_p (i := .iconst 0) (len := 1) (pc' := 1) mJ_259 (by decide +kernel) (ns_iconst (c := 0) (by decide +kernel)) rfl ?_
  refine nk_p (i := .istore_n 1) (len := 1) (pc' := 2) mJ_259 (by decide +kernel) (ns_istore_n (L' := [(1, nk_i 0), (0, nk_r l0)]) rfl rfl rfl (by decide +kernel)) rfl ?_
  refine nk_p (i := .bipush 8) (len := 2) (pc' := 4) mJ_259 (by decide +kernel) (ns_bipush (c := 8) (by decide +kernel)) rfl ?_
  refine nk_p (i := .istore_n 2) (len := 1) (pc' := 5) mJ_259 (by decide +kernel) (ns_istore_n (L' := [(2, nk_i 8), (1, nk_i 0), (0, nk_r l0)]) rfl rfl rfl (by decide +kernel)) rfl ?_
  refine nk_sub [2, 1, 0] (L' := [(0, nk_r l0), (1, nk_i 0), (2, nk_i 8)]) rfl ?_
  exact ja_X1_placeFields_L5_ok zs nk_big _ _ _ _ _ t_l0 hr
/-! SafeCode$States clear ()V -/
noncomputable def ja_X7_clear_b2 (rec2 : Nat → Int → nk_S → Option (Int × nk_S)) (l0 : Nat) (l1 : Int) (S : nk_S) : Option (Int × nk_S) :=
  if 1024 ≤ l1 then
    nk_bd (ja_J7_fill_d0a16 (ja_c l0 3) 16 0 S) fun r2 S3 =>
    some (0, S3)
  else
    if 0 ≤ l1 ∧ l1 < 1024 then
    nk_lt (nk_wi S (ja_c l0 2) l1.toNat 0) fun S7 =>
    nk_lt (nk_w (l1 + 1)) fun v9 =>
    rec2 l0 v9 S7
    else none
theorem ja_X7_clear_b2_ok (zs : List Int32) {rec2 : Nat → Int → nk_S → Option (Int × nk_S)} (hrec2 : ∀ (l0 : Nat) (l1 : Int) (S : nk_S) (R : Int × nk_S), nk_cl ja_Tt l0 = some 7 → rec2 l0 l1 S = some R → nk_K ja_Tt mi_Γ (mi_ev zs) 0 399 2 [(0, nk_r l0), (1, nk_i l1)] [] S R) : ∀ (l0 : Nat) (l1 : Int) (S : nk_S) (R : Int × nk_S), nk_cl ja_Tt l0 = some 7 → ja_X7_clear_b2 rec2 l0 l1 S = some R → nk_K ja_Tt mi_Γ (mi_ev zs) 0 399 2 [(0, nk_r l0), (1, nk_i l1)] [] S R := by
  intro l0 l1 S R t_l0 hr
  unfold ja_X7_clear_b2 at hr
  refine nk_p (i := .iload_n 1) (len := 1) (pc' := 3) mJ_399 (by decide +kernel) (ns_iload_n 1 rfl rfl) rfl ?_
  refine nk_p (i := .sipush 1024) (len := 3) (pc' := 6) mJ_399 (by decide +kernel) (ns_sipush (c := 1024) (by decide +kernel)) rfl ?_
  refine nk_icmp (c := .ge) (off := 16) (len := 3) (t := 22) (pc' := 9) mJ_399 (by decide +kernel) (by decide +kernel) rfl (fun hc => ?_) (fun hc => ?_)
  · have hr := nk_ifp (c := 1024 ≤ l1) hc hr
    refine nk_p (i := .aload_n 0) (len := 1) (pc' := 23) mJ_399 (by decide +kernel) (ns_aload_n 0 rfl rfl) rfl ?_
    refine nk_getC (f := (4, 2, 16)) (x := 22) (len := 3) (ci := 7) (k := 3) (pc' := 26) ja_okT mJ_399 (by decide +kernel) (by decide +kernel) (by decide +kernel) (by decide) t_l0 rfl ?_
    have t1 : nk_ar ja_Tt (ja_c l0 3) = some (2, 16) := nk_ta ja_okT t_l0 (by decide +kernel)
    refine nk_p (i := .lconst 0) (len := 1) (pc' := 27) mJ_399 (by decide +kernel) (ns_lconst (c := 0) (by decide +kernel)) rfl ?_
    obtain ⟨r2, S3, h4, hr⟩ := nk_bde hr
    refine nk_callS (ci := 0) (n := 2) (x := 33) (len := 3) (j' := 14) (q' := 0) (r := r2) (S' := S3) (L2 := [(0, nk_r (ja_c l0 3)), (1, nk_l 0)]) (rest := []) (st' := []) (pc' := 30) mJ_399 (by decide +kernel) (by decide +kernel) (Nat.le_of_ble_eq_true rfl) rfl rfl (Nat.le_of_ble_eq_true rfl) mJ_14 (Nat.le_of_ble_eq_true rfl) ja_Tpos rfl (ja_J7_fill_d0a16_ok zs _ _ _ _ _ t1 h4) rfl ?_
    cases hr
    exact nk_vret (len := 1) mJ_399 (by decide +kernel) rfl
  · have hr := nk_ifn (c := 1024 ≤ l1) hc hr
    refine nk_p (i := .aload_n 0) (len := 1) (pc' := 10) mJ_399 (by decide +kernel) (ns_aload_n 0 rfl rfl) rfl ?_
    refine nk_getC (f := (4, 3, 1024)) (x := 18) (len := 3) (ci := 7) (k := 2) (pc' := 13) ja_okT mJ_399 (by decide +kernel) (by decide +kernel) (by decide +kernel) (by decide) t_l0 rfl ?_
    have t5 : nk_ar ja_Tt (ja_c l0 2) = some (3, 1024) := nk_ta ja_okT t_l0 (by decide +kernel)
    refine nk_p (i := .iload_n 1) (len := 1) (pc' := 14) mJ_399 (by decide +kernel) (ns_iload_n 1 rfl rfl) rfl ?_
    refine nk_p (i := .iconst 0) (len := 1) (pc' := 15) mJ_399 (by decide +kernel) (ns_iconst (c := 0) (by decide +kernel)) rfl ?_
    obtain ⟨h6, hr⟩ := nk_cke hr
    obtain ⟨S7, h8, hr⟩ := nk_lte hr
    refine nk_zast (len := 1) (N := 1024) (pc' := 16) mJ_399 (by decide +kernel) t5 h6.1 h6.2 (by decide) rfl rfl h8 ?_
    obtain ⟨v9, h10, hr⟩ := nk_lte hr
    refine nk_p (i := .iinc 1 1) (len := 3) (pc' := 19) mJ_399 (by decide +kernel) (ns_iinc (c := 1) (L' := [(1, nk_i v9), (0, nk_r l0)]) 1 rfl (by decide +kernel) h10 rfl (by decide +kernel)) rfl ?_
    refine nk_p (i := .goto (-17)) (len := 3) (pc' := 2) mJ_399 (by decide +kernel) (ns_goto (by decide +kernel)) rfl ?_
    refine nk_sub [1, 0] (L' := [(0, nk_r l0), (1, nk_i v9)]) rfl ?_
    exact hrec2 _ _ _ _ t_l0 hr
noncomputable def ja_X7_clear_L2 : Nat → Nat → Int → nk_S → Option (Int × nk_S)
  | 0, _, _, _ => none
  | n + 1, l0, l1, S => ja_X7_clear_b2 (ja_X7_clear_L2 n) l0 l1 S
theorem ja_X7_clear_L2_ok (zs : List Int32) : ∀ n : Nat, ∀ (l0 : Nat) (l1 : Int) (S : nk_S) (R : Int × nk_S), nk_cl ja_Tt l0 = some 7 → ja_X7_clear_L2 n l0 l1 S = some R → nk_K ja_Tt mi_Γ (mi_ev zs) 0 399 2 [(0, nk_r l0), (1, nk_i l1)] [] S R := by
  intro n
  induction n with
  | zero => intro _ _ _ _ _ hr; cases hr
  | succ n ih => intro l0 l1 S R t_l0 hr; exact ja_X7_clear_b2_ok zs ih l0 l1 S R t_l0 hr
noncomputable def ja_X7_clear (l0 : Nat) (S : nk_S) : Option (Int × nk_S) :=
  ja_X7_clear_L2 nk_big l0 0 S
theorem ja_X7_clear_ok (zs : List Int32) : ∀ (l0 : Nat) (S : nk_S) (R : Int × nk_S), nk_cl ja_Tt l0 = some 7 → ja_X7_clear l0 S = some R → nk_K ja_Tt mi_Γ (mi_ev zs) 0 399 0 [(0, nk_r l0)] [] S R := by
  intro l0 S R t_l0 hr
  unfold ja_X7_clear at hr
  refine nk_p (i := .iconst 0) (len := 1) (pc' := 1) mJ_399 (by decide +kernel) (ns_iconst (c := 0) (by decide +kernel)) rfl ?_
  refine nk_p (i := .istore_n 1) (len := 1) (pc' := 2) mJ_399 (by decide +kernel) (ns_istore_n (L' := [(1, nk_i 0), (0, nk_r l0)]) rfl rfl rfl (by decide +kernel)) rfl ?_
  refine nk_sub [1, 0] (L' := [(0, nk_r l0), (1, nk_i 0)]) rfl ?_
  exact ja_X7_clear_L2_ok zs nk_big _ _ _ _ t_l0 hr
/-! SafeCode$Store nothing (Z)J -/
noncomputable def ja_X8_nothing (l0 : Int) (S : nk_S) : Option (Int × nk_S) :=
  if l0 = 0 then
    some (0, S)
  else
    some (9223372034707292160, S)
theorem ja_X8_nothing_ok (zs : List Int32) : ∀ (l0 : Int) (S : nk_S) (R : Int × nk_S), ja_X8_nothing l0 S = some R → nk_K ja_Tt mi_Γ (mi_ev zs) 2 421 0 [(0, nk_i l0)] [] S R := by
  intro l0 S R hr
  unfold ja_X8_nothing at hr
  refine nk_p (i := .iload_n 0) (len := 1) (pc' := 1) mJ_421 (by decide +kernel) (ns_iload_n 0 rfl rfl) rfl ?_
  refine nk_icond (c := .eq) (off := 9) (len := 3) (t := 10) (pc' := 4) mJ_421 (by decide +kernel) (by decide +kernel) rfl (fun hc => ?_) (fun hc => ?_)
  · have hr := nk_ifp (c := l0 = 0) hc hr
    refine nk_p (i := .lconst 0) (len := 1) (pc' := 11) mJ_421 (by decide +kernel) (ns_lconst (c := 0) (by decide +kernel)) rfl ?_
    cases hr
    exact nk_lret (len := 1) mJ_421 (by decide +kernel) rfl
  · have hr := nk_ifn (c := l0 = 0) hc hr
    refine nk_ldc2 (x := 33) (len := 3) (X := 9223372034707292160) (v := 9223372034707292160) (pc' := 7) mJ_421 (by decide +kernel) (by decide +kernel) (by decide +kernel) rfl ?_
    refine nk_p (i := .goto 4) (len := 3) (pc' := 11) mJ_421 (by decide +kernel) (ns_goto (by decide +kernel)) rfl ?_
    cases hr
    exact nk_lret (len := 1) mJ_421 (by decide +kernel) rfl
/-! SafeCode$Store clear (LSafeCode$Program;)V -/
noncomputable def ja_X8_clear_b129 (rec100 : Nat → Nat → Int → nk_S → Option (Int × nk_S)) (l0 : Nat) (l1 : Nat) (l2 : Int) (s0 : Nat) (s1 : Int) (s2 : Int) (S : nk_S) : Option (Int × nk_S) :=
  nk_bd (ja_X8_nothing s2 S) fun r1 S2 =>
  if 0 ≤ s1 ∧ s1 < 48 then
  nk_lt (nk_wi S2 s0 s1.toNat r1) fun S5 =>
  if 0 ≤ l2 ∧ l2 < 48 then
  nk_lt (nk_wi S5 (ja_c l0 4) l2.toNat 0) fun S9 =>
  nk_lt (nk_wi S9 (ja_c l0 5) l2.toNat 0) fun S12 =>
  nk_lt (nk_w (l2 + 1)) fun v14 =>
  rec100 l0 l1 v14 S12
  else none
  else none
theorem ja_X8_clear_b129_ok (zs : List Int32) {rec100 : Nat → Nat → Int → nk_S → Option (Int × nk_S)} (hrec100 : ∀ (l0 : Nat) (l1 : Nat) (l2 : Int) (S : nk_S) (R : Int × nk_S), nk_cl ja_Tt l0 = some 8 → nk_cl ja_Tt l1 = some 3 → rec100 l0 l1 l2 S = some R → nk_K ja_Tt mi_Γ (mi_ev zs) 0 418 100 [(0, nk_r l0), (1, nk_r l1), (2, nk_i l2)] [] S R) : ∀ (l0 : Nat) (l1 : Nat) (l2 : Int) (s0 : Nat) (s1 : Int) (s2 : Int) (S : nk_S) (R : Int × nk_S), nk_cl ja_Tt l0 = some 8 → nk_cl ja_Tt l1 = some 3 → nk_ar ja_Tt s0 = some (2, 48) → ja_X8_clear_b129 rec100 l0 l1 l2 s0 s1 s2 S = some R → nk_K ja_Tt mi_Γ (mi_ev zs) 0 418 129 [(0, nk_r l0), (1, nk_r l1), (2, nk_i l2)] [nk_i s2, nk_i s1, nk_r s0] S R := by
  intro l0 l1 l2 s0 s1 s2 S R t_l0 t_l1 t_s0 hr
  unfold ja_X8_clear_b129 at hr
  obtain ⟨r1, S2, h3, hr⟩ := nk_bde hr
  refine nk_callS (ci := 0) (n := 1) (x := 45) (len := 3) (j' := 421) (q' := 2) (r := r1) (S' := S2) (L2 := [(0, nk_i s2)]) (rest := [nk_i s1, nk_r s0]) (st' := [nk_l r1, nk_i s1, nk_r s0]) (pc' := 132) mJ_418 (by decide +kernel) (by decide +kernel) (Nat.le_of_ble_eq_true rfl) rfl rfl (Nat.le_of_ble_eq_true rfl) mJ_421 (Nat.le_of_ble_eq_true rfl) ja_Tpos rfl (ja_X8_nothing_ok zs _ _ _ h3) rfl ?_
  obtain ⟨h4, hr⟩ := nk_cke hr
  obtain ⟨S5, h6, hr⟩ := nk_lte hr
  refine nk_last (len := 1) (N := 48) (pc' := 133) mJ_418 (by decide +kernel) t_s0 h4.1 h4.2 rfl rfl h6 ?_
  refine nk_p (i := .aload_n 0) (len := 1) (pc' := 134) mJ_418 (by decide +kernel) (ns_aload_n 0 rfl rfl) rfl ?_
  refine nk_getC (f := (4, 3, 48)) (x := 24) (len := 3) (ci := 8) (k := 4) (pc' := 137) ja_okT mJ_418 (by decide +kernel) (by decide +kernel) (by decide +kernel) (by decide) t_l0 rfl ?_
  have t7 : nk_ar ja_Tt (ja_c l0 4) = some (3, 48) := nk_ta ja_okT t_l0 (by decide +kernel)
  refine nk_p (i := .iload_n 2) (len := 1) (pc' := 138) mJ_418 (by decide +kernel) (ns_iload_n 2 rfl rfl) rfl ?_
  refine nk_p (i := .iconst 0) (len := 1) (pc' := 139) mJ_418 (by decide +kernel) (ns_iconst (c := 0) (by decide +kernel)) rfl ?_
  obtain ⟨h8, hr⟩ := nk_cke hr
  obtain ⟨S9, h10, hr⟩ := nk_lte hr
  refine nk_zast (len := 1) (N := 48) (pc' := 140) mJ_418 (by decide +kernel) t7 h8.1 h8.2 (by decide) rfl rfl h10 ?_
  refine nk_p (i := .aload_n 0) (len := 1) (pc' := 141) mJ_418 (by decide +kernel) (ns_aload_n 0 rfl rfl) rfl ?_
  refine nk_getC (f := (4, 2, 48)) (x := 28) (len := 3) (ci := 8) (k := 5) (pc' := 144) ja_okT mJ_418 (by decide +kernel) (by decide +kernel) (by decide +kernel) (by decide) t_l0 rfl ?_
  have t11 : nk_ar ja_Tt (ja_c l0 5) = some (2, 48) := nk_ta ja_okT t_l0 (by decide +kernel)
  refine nk_p (i := .iload_n 2) (len := 1) (pc' := 145) mJ_418 (by decide +kernel) (ns_iload_n 2 rfl rfl) rfl ?_
  refine nk_p (i := .lconst 0) (len := 1) (pc' := 146) mJ_418 (by decide +kernel) (ns_lconst (c := 0) (by decide +kernel)) rfl ?_
  obtain ⟨S12, h13, hr⟩ := nk_lte hr
  refine nk_last (len := 1) (N := 48) (pc' := 147) mJ_418 (by decide +kernel) t11 h8.1 h8.2 rfl rfl h13 ?_
  obtain ⟨v14, h15, hr⟩ := nk_lte hr
  refine nk_p (i := .iinc 2 1) (len := 3) (pc' := 150) mJ_418 (by decide +kernel) (ns_iinc (c := 1) (L' := [(2, nk_i v14), (0, nk_r l0), (1, nk_r l1)]) 2 rfl (by decide +kernel) h15 rfl (by decide +kernel)) rfl ?_
  refine nk_p (i := .goto (-50)) (len := 3) (pc' := 100) mJ_418 (by decide +kernel) (ns_goto (by decide +kernel)) rfl ?_
  refine nk_sub [1, 2, 0] (L' := [(0, nk_r l0), (1, nk_r l1), (2, nk_i v14)]) rfl ?_
  exact hrec100 _ _ _ _ _ t_l0 t_l1 hr
noncomputable def ja_X8_clear_b100 (rec100 : Nat → Nat → Int → nk_S → Option (Int × nk_S)) (l0 : Nat) (l1 : Nat) (l2 : Int) (S : nk_S) : Option (Int × nk_S) :=
  if 48 ≤ l2 then
    some (0, S)
  else
    if 0 ≤ l2 ∧ l2 < 48 then
    if (S.1 (ja_c (ja_c l1 1) 7) l2.toNat) = 1 then
      ja_X8_clear_b129 rec100 l0 l1 l2 (ja_c l0 3) l2 1 S
    else
      ja_X8_clear_b129 rec100 l0 l1 l2 (ja_c l0 3) l2 0 S
    else none
theorem ja_X8_clear_b100_ok (zs : List Int32) {rec100 : Nat → Nat → Int → nk_S → Option (Int × nk_S)} (hrec100 : ∀ (l0 : Nat) (l1 : Nat) (l2 : Int) (S : nk_S) (R : Int × nk_S), nk_cl ja_Tt l0 = some 8 → nk_cl ja_Tt l1 = some 3 → rec100 l0 l1 l2 S = some R → nk_K ja_Tt mi_Γ (mi_ev zs) 0 418 100 [(0, nk_r l0), (1, nk_r l1), (2, nk_i l2)] [] S R) : ∀ (l0 : Nat) (l1 : Nat) (l2 : Int) (S : nk_S) (R : Int × nk_S), nk_cl ja_Tt l0 = some 8 → nk_cl ja_Tt l1 = some 3 → ja_X8_clear_b100 rec100 l0 l1 l2 S = some R → nk_K ja_Tt mi_Γ (mi_ev zs) 0 418 100 [(0, nk_r l0), (1, nk_r l1), (2, nk_i l2)] [] S R := by
  intro l0 l1 l2 S R t_l0 t_l1 hr
  unfold ja_X8_clear_b100 at hr
  refine nk_p (i := .iload_n 2) (len := 1) (pc' := 101) mJ_418 (by decide +kernel) (ns_iload_n 2 rfl rfl) rfl ?_
  refine nk_p (i := .bipush 48) (len := 2) (pc' := 103) mJ_418 (by decide +kernel) (ns_bipush (c := 48) (by decide +kernel)) rfl ?_
  refine nk_icmp (c := .ge) (off := 50) (len := 3) (t := 153) (pc' := 106) mJ_418 (by decide +kernel) (by decide +kernel) rfl (fun hc => ?_) (fun hc => ?_)
  · have hr := nk_ifp (c := 48 ≤ l2) hc hr
    cases hr
    exact nk_vret (len := 1) mJ_418 (by decide +kernel) rfl
  · have hr := nk_ifn (c := 48 ≤ l2) hc hr
    refine nk_p (i := .aload_n 0) (len := 1) (pc' := 107) mJ_418 (by decide +kernel) (ns_aload_n 0 rfl rfl) rfl ?_
    refine nk_getC (f := (4, 2, 48)) (x := 21) (len := 3) (ci := 8) (k := 3) (pc' := 110) ja_okT mJ_418 (by decide +kernel) (by decide +kernel) (by decide +kernel) (by decide) t_l0 rfl ?_
    have t1 : nk_ar ja_Tt (ja_c l0 3) = some (2, 48) := nk_ta ja_okT t_l0 (by decide +kernel)
    refine nk_p (i := .iload_n 2) (len := 1) (pc' := 111) mJ_418 (by decide +kernel) (ns_iload_n 2 rfl rfl) rfl ?_
    refine nk_p (i := .aload_n 1) (len := 1) (pc' := 112) mJ_418 (by decide +kernel) (ns_aload_n 1 rfl rfl) rfl ?_
    refine nk_getC (f := (2, 0, 0)) (x := 62) (len := 3) (ci := 3) (k := 1) (pc' := 115) ja_okT mJ_418 (by decide +kernel) (by decide +kernel) (by decide +kernel) (by decide) t_l1 rfl ?_
    have t2 : nk_cl ja_Tt (ja_c l1 1) = some 0 := nk_tc (y := 0) ja_okT t_l1 (by decide +kernel)
    refine nk_getC (f := (4, 1, 48)) (x := 66) (len := 3) (ci := 0) (k := 7) (pc' := 118) ja_okT mJ_418 (by decide +kernel) (by decide +kernel) (by decide +kernel) (by decide) t2 rfl ?_
    have t3 : nk_ar ja_Tt (ja_c (ja_c l1 1) 7) = some (1, 48) := nk_ta ja_okT t2 (by decide +kernel)
    refine nk_p (i := .iload_n 2) (len := 1) (pc' := 119) mJ_418 (by decide +kernel) (ns_iload_n 2 rfl rfl) rfl ?_
    obtain ⟨h4, hr⟩ := nk_cke hr
    refine nk_iald (len := 1) (N := 48) (pc' := 120) mJ_418 (by decide +kernel) t3 h4.1 h4.2 rfl rfl ?_
    refine nk_p (i := .iconst 1) (len := 1) (pc' := 121) mJ_418 (by decide +kernel) (ns_iconst (c := 1) (by decide +kernel)) rfl ?_
    refine nk_icmp (c := .ne) (off := 7) (len := 3) (t := 128) (pc' := 124) mJ_418 (by decide +kernel) (by decide +kernel) rfl (fun hc => ?_) (fun hc => ?_)
    · have hr := nk_ifn (c := (S.1 (ja_c (ja_c l1 1) 7) l2.toNat) = 1) hc hr
      refine nk_p (i := .iconst 0) (len := 1) (pc' := 129) mJ_418 (by decide +kernel) (ns_iconst (c := 0) (by decide +kernel)) rfl ?_
      exact ja_X8_clear_b129_ok zs hrec100 _ _ _ _ _ _ _ _ t_l0 t_l1 t1 hr
    · have hr := nk_ifp (c := (S.1 (ja_c (ja_c l1 1) 7) l2.toNat) = 1) (Decidable.of_not_not hc) hr
      refine nk_p (i := .iconst 1) (len := 1) (pc' := 125) mJ_418 (by decide +kernel) (ns_iconst (c := 1) (by decide +kernel)) rfl ?_
      refine nk_p (i := .goto 4) (len := 3) (pc' := 129) mJ_418 (by decide +kernel) (ns_goto (by decide +kernel)) rfl ?_
      exact ja_X8_clear_b129_ok zs hrec100 _ _ _ _ _ _ _ _ t_l0 t_l1 t1 hr
noncomputable def ja_X8_clear_L100 : Nat → Nat → Nat → Int → nk_S → Option (Int × nk_S)
  | 0, _, _, _, _ => none
  | n + 1, l0, l1, l2, S => ja_X8_clear_b100 (ja_X8_clear_L100 n) l0 l1 l2 S
theorem ja_X8_clear_L100_ok (zs : List Int32) : ∀ n : Nat, ∀ (l0 : Nat) (l1 : Nat) (l2 : Int) (S : nk_S) (R : Int × nk_S), nk_cl ja_Tt l0 = some 8 → nk_cl ja_Tt l1 = some 3 → ja_X8_clear_L100 n l0 l1 l2 S = some R → nk_K ja_Tt mi_Γ (mi_ev zs) 0 418 100 [(0, nk_r l0), (1, nk_r l1), (2, nk_i l2)] [] S R := by
  intro n
  induction n with
  | zero => intro _ _ _ _ _ _ _ hr; cases hr
  | succ n ih => intro l0 l1 l2 S R t_l0 t_l1 hr; exact ja_X8_clear_b100_ok zs ih l0 l1 l2 S R t_l0 t_l1 hr
noncomputable def ja_X8_clear_b82 (rec2 : Nat → Nat → Int → nk_S → Option (Int × nk_S)) (rec43 : Nat → Nat → Int → Int → nk_S → Option (Int × nk_S)) (l0 : Nat) (l1 : Nat) (l2 : Int) (l3 : Int) (s0 : Nat) (s1 : Int) (s2 : Int) (S : nk_S) : Option (Int × nk_S) :=
  nk_bd (ja_X8_nothing s2 S) fun r1 S2 =>
  if 0 ≤ s1 ∧ s1 < 2304 then
  nk_lt (nk_wi S2 s0 s1.toNat r1) fun S5 =>
  nk_lt (nk_w (l3 + 1)) fun v7 =>
  rec43 l0 l1 l2 v7 S5
  else none
theorem ja_X8_clear_b82_ok (zs : List Int32) {rec2 : Nat → Nat → Int → nk_S → Option (Int × nk_S)} (hrec2 : ∀ (l0 : Nat) (l1 : Nat) (l2 : Int) (S : nk_S) (R : Int × nk_S), nk_cl ja_Tt l0 = some 8 → nk_cl ja_Tt l1 = some 3 → rec2 l0 l1 l2 S = some R → nk_K ja_Tt mi_Γ (mi_ev zs) 0 418 2 [(0, nk_r l0), (1, nk_r l1), (2, nk_i l2)] [] S R) {rec43 : Nat → Nat → Int → Int → nk_S → Option (Int × nk_S)} (hrec43 : ∀ (l0 : Nat) (l1 : Nat) (l2 : Int) (l3 : Int) (S : nk_S) (R : Int × nk_S), nk_cl ja_Tt l0 = some 8 → nk_cl ja_Tt l1 = some 3 → rec43 l0 l1 l2 l3 S = some R → nk_K ja_Tt mi_Γ (mi_ev zs) 0 418 43 [(0, nk_r l0), (1, nk_r l1), (2, nk_i l2), (3, nk_i l3)] [] S R) : ∀ (l0 : Nat) (l1 : Nat) (l2 : Int) (l3 : Int) (s0 : Nat) (s1 : Int) (s2 : Int) (S : nk_S) (R : Int × nk_S), nk_cl ja_Tt l0 = some 8 → nk_cl ja_Tt l1 = some 3 → nk_ar ja_Tt s0 = some (2, 2304) → ja_X8_clear_b82 rec2 rec43 l0 l1 l2 l3 s0 s1 s2 S = some R → nk_K ja_Tt mi_Γ (mi_ev zs) 0 418 82 [(0, nk_r l0), (1, nk_r l1), (2, nk_i l2), (3, nk_i l3)] [nk_i s2, nk_i s1, nk_r s0] S R := by
  intro l0 l1 l2 l3 s0 s1 s2 S R t_l0 t_l1 t_s0 hr
  unfold ja_X8_clear_b82 at hr
  obtain ⟨r1, S2, h3, hr⟩ := nk_bde hr
  refine nk_callS (ci := 0) (n := 1) (x := 45) (len := 3) (j' := 421) (q' := 2) (r := r1) (S' := S2) (L2 := [(0, nk_i s2)]) (rest := [nk_i s1, nk_r s0]) (st' := [nk_l r1, nk_i s1, nk_r s0]) (pc' := 85) mJ_418 (by decide +kernel) (by decide +kernel) (Nat.le_of_ble_eq_true rfl) rfl rfl (Nat.le_of_ble_eq_true rfl) mJ_421 (Nat.le_of_ble_eq_true rfl) ja_Tpos rfl (ja_X8_nothing_ok zs _ _ _ h3) rfl ?_
  obtain ⟨h4, hr⟩ := nk_cke hr
  obtain ⟨S5, h6, hr⟩ := nk_lte hr
  refine nk_last (len := 1) (N := 2304) (pc' := 86) mJ_418 (by decide +kernel) t_s0 h4.1 h4.2 rfl rfl h6 ?_
  obtain ⟨v7, h8, hr⟩ := nk_lte hr
  refine nk_p (i := .iinc 3 1) (len := 3) (pc' := 89) mJ_418 (by decide +kernel) (ns_iinc (c := 1) (L' := [(3, nk_i v7), (0, nk_r l0), (1, nk_r l1), (2, nk_i l2)]) 3 rfl (by decide +kernel) h8 rfl (by decide +kernel)) rfl ?_
  refine nk_p (i := .goto (-46)) (len := 3) (pc' := 43) mJ_418 (by decide +kernel) (ns_goto (by decide +kernel)) rfl ?_
  refine nk_sub [1, 2, 3, 0] (L' := [(0, nk_r l0), (1, nk_r l1), (2, nk_i l2), (3, nk_i v7)]) rfl ?_
  exact hrec43 _ _ _ _ _ _ t_l0 t_l1 hr
noncomputable def ja_X8_clear_b43 (rec2 : Nat → Nat → Int → nk_S → Option (Int × nk_S)) (rec43 : Nat → Nat → Int → Int → nk_S → Option (Int × nk_S)) (l0 : Nat) (l1 : Nat) (l2 : Int) (l3 : Int) (S : nk_S) : Option (Int × nk_S) :=
  if (S.1 (ja_c l1 0) 4) ≤ l3 then
    nk_lt (nk_w (l2 + 1)) fun v2 =>
    rec2 l0 l1 v2 S
  else
    if 0 ≤ l3 ∧ l3 < 48 then
    if (S.1 (ja_c (ja_c l1 0) 7) l3.toNat) = 1 then
      ja_X8_clear_b82 rec2 rec43 l0 l1 l2 l3 (ja_c l0 0) (nk_w ((nk_w (l2 * 48)) + l3)) 1 S
    else
      ja_X8_clear_b82 rec2 rec43 l0 l1 l2 l3 (ja_c l0 0) (nk_w ((nk_w (l2 * 48)) + l3)) 0 S
    else none
theorem ja_X8_clear_b43_ok (zs : List Int32) {rec2 : Nat → Nat → Int → nk_S → Option (Int × nk_S)} (hrec2 : ∀ (l0 : Nat) (l1 : Nat) (l2 : Int) (S : nk_S) (R : Int × nk_S), nk_cl ja_Tt l0 = some 8 → nk_cl ja_Tt l1 = some 3 → rec2 l0 l1 l2 S = some R → nk_K ja_Tt mi_Γ (mi_ev zs) 0 418 2 [(0, nk_r l0), (1, nk_r l1), (2, nk_i l2)] [] S R) {rec43 : Nat → Nat → Int → Int → nk_S → Option (Int × nk_S)} (hrec43 : ∀ (l0 : Nat) (l1 : Nat) (l2 : Int) (l3 : Int) (S : nk_S) (R : Int × nk_S), nk_cl ja_Tt l0 = some 8 → nk_cl ja_Tt l1 = some 3 → rec43 l0 l1 l2 l3 S = some R → nk_K ja_Tt mi_Γ (mi_ev zs) 0 418 43 [(0, nk_r l0), (1, nk_r l1), (2, nk_i l2), (3, nk_i l3)] [] S R) : ∀ (l0 : Nat) (l1 : Nat) (l2 : Int) (l3 : Int) (S : nk_S) (R : Int × nk_S), nk_cl ja_Tt l0 = some 8 → nk_cl ja_Tt l1 = some 3 → ja_X8_clear_b43 rec2 rec43 l0 l1 l2 l3 S = some R → nk_K ja_Tt mi_Γ (mi_ev zs) 0 418 43 [(0, nk_r l0), (1, nk_r l1), (2, nk_i l2), (3, nk_i l3)] [] S R := by
  intro l0 l1 l2 l3 S R t_l0 t_l1 hr
  unfold ja_X8_clear_b43 at hr
  refine nk_p (i := .iload_n 3) (len := 1) (pc' := 44) mJ_418 (by decide +kernel) (ns_iload_n 3 rfl rfl) rfl ?_
  refine nk_p (i := .aload_n 1) (len := 1) (pc' := 45) mJ_418 (by decide +kernel) (ns_aload_n 1 rfl rfl) rfl ?_
  refine nk_getC (f := (2, 1, 0)) (x := 49) (len := 3) (ci := 3) (k := 0) (pc' := 48) ja_okT mJ_418 (by decide +kernel) (by decide +kernel) (by decide +kernel) (by decide) t_l1 rfl ?_
  have t1 : nk_cl ja_Tt (ja_c l1 0) = some 1 := nk_tc (y := 0) ja_okT t_l1 (by decide +kernel)
  refine nk_getI (y := (0, 0)) (x := 53) (len := 3) (ci := 1) (k := 4) (pc' := 51) ja_okT mJ_418 (by decide +kernel) (by decide +kernel) (by decide +kernel) t1 rfl ?_
  refine nk_icmp (c := .ge) (off := 41) (len := 3) (t := 92) (pc' := 54) mJ_418 (by decide +kernel) (by decide +kernel) rfl (fun hc => ?_) (fun hc => ?_)
  · have hr := nk_ifp (c := (S.1 (ja_c l1 0) 4) ≤ l3) hc hr
    obtain ⟨v2, h3, hr⟩ := nk_lte hr
    refine nk_p (i := .iinc 2 1) (len := 3) (pc' := 95) mJ_418 (by decide +kernel) (ns_iinc (c := 1) (L' := [(2, nk_i v2), (0, nk_r l0), (1, nk_r l1), (3, nk_i l3)]) 2 rfl (by decide +kernel) h3 rfl (by decide +kernel)) rfl ?_
    refine nk_p (i := .goto (-93)) (len := 3) (pc' := 2) mJ_418 (by decide +kernel) (ns_goto (by decide +kernel)) rfl ?_
    refine nk_sub [1, 2, 0] (L' := [(0, nk_r l0), (1, nk_r l1), (2, nk_i v2)]) rfl ?_
    exact hrec2 _ _ _ _ _ t_l0 t_l1 hr
  · have hr := nk_ifn (c := (S.1 (ja_c l1 0) 4) ≤ l3) hc hr
    refine nk_p (i := .aload_n 0) (len := 1) (pc' := 55) mJ_418 (by decide +kernel) (ns_aload_n 0 rfl rfl) rfl ?_
    refine nk_getC (f := (4, 2, 2304)) (x := 9) (len := 3) (ci := 8) (k := 0) (pc' := 58) ja_okT mJ_418 (by decide +kernel) (by decide +kernel) (by decide +kernel) (by decide) t_l0 rfl ?_
    have t4 : nk_ar ja_Tt (ja_c l0 0) = some (2, 2304) := nk_ta ja_okT t_l0 (by decide +kernel)
    refine nk_p (i := .iload_n 2) (len := 1) (pc' := 59) mJ_418 (by decide +kernel) (ns_iload_n 2 rfl rfl) rfl ?_
    refine nk_p (i := .bipush 48) (len := 2) (pc' := 61) mJ_418 (by decide +kernel) (ns_bipush (c := 48) (by decide +kernel)) rfl ?_
    refine nk_p (i := .imul) (len := 1) (pc' := 62) mJ_418 (by decide +kernel) ns_imul rfl ?_
    refine nk_p (i := .iload_n 3) (len := 1) (pc' := 63) mJ_418 (by decide +kernel) (ns_iload_n 3 rfl rfl) rfl ?_
    refine nk_p (i := .iadd) (len := 1) (pc' := 64) mJ_418 (by decide +kernel) ns_iadd rfl ?_
    refine nk_p (i := .aload_n 1) (len := 1) (pc' := 65) mJ_418 (by decide +kernel) (ns_aload_n 1 rfl rfl) rfl ?_
    refine nk_getC (f := (2, 1, 0)) (x := 49) (len := 3) (ci := 3) (k := 0) (pc' := 68) ja_okT mJ_418 (by decide +kernel) (by decide +kernel) (by decide +kernel) (by decide) t_l1 rfl ?_
    refine nk_getC (f := (4, 1, 48)) (x := 59) (len := 3) (ci := 1) (k := 7) (pc' := 71) ja_okT mJ_418 (by decide +kernel) (by decide +kernel) (by decide +kernel) (by decide) t1 rfl ?_
    have t5 : nk_ar ja_Tt (ja_c (ja_c l1 0) 7) = some (1, 48) := nk_ta ja_okT t1 (by decide +kernel)
    refine nk_p (i := .iload_n 3) (len := 1) (pc' := 72) mJ_418 (by decide +kernel) (ns_iload_n 3 rfl rfl) rfl ?_
    obtain ⟨h6, hr⟩ := nk_cke hr
    refine nk_iald (len := 1) (N := 48) (pc' := 73) mJ_418 (by decide +kernel) t5 h6.1 h6.2 rfl rfl ?_
    refine nk_p (i := .iconst 1) (len := 1) (pc' := 74) mJ_418 (by decide +kernel) (ns_iconst (c := 1) (by decide +kernel)) rfl ?_
    refine nk_icmp (c := .ne) (off := 7) (len := 3) (t := 81) (pc' := 77) mJ_418 (by decide +kernel) (by decide +kernel) rfl (fun hc => ?_) (fun hc => ?_)
    · have hr := nk_ifn (c := (S.1 (ja_c (ja_c l1 0) 7) l3.toNat) = 1) hc hr
      refine nk_p (i := .iconst 0) (len := 1) (pc' := 82) mJ_418 (by decide +kernel) (ns_iconst (c := 0) (by decide +kernel)) rfl ?_
      exact ja_X8_clear_b82_ok zs hrec2 hrec43 _ _ _ _ _ _ _ _ _ t_l0 t_l1 t4 hr
    · have hr := nk_ifp (c := (S.1 (ja_c (ja_c l1 0) 7) l3.toNat) = 1) (Decidable.of_not_not hc) hr
      refine nk_p (i := .iconst 1) (len := 1) (pc' := 78) mJ_418 (by decide +kernel) (ns_iconst (c := 1) (by decide +kernel)) rfl ?_
      refine nk_p (i := .goto 4) (len := 3) (pc' := 82) mJ_418 (by decide +kernel) (ns_goto (by decide +kernel)) rfl ?_
      exact ja_X8_clear_b82_ok zs hrec2 hrec43 _ _ _ _ _ _ _ _ _ t_l0 t_l1 t4 hr
noncomputable def ja_X8_clear_L43 (rec2 : Nat → Nat → Int → nk_S → Option (Int × nk_S)) : Nat → Nat → Nat → Int → Int → nk_S → Option (Int × nk_S)
  | 0, _, _, _, _, _ => none
  | n + 1, l0, l1, l2, l3, S => ja_X8_clear_b43 rec2 (ja_X8_clear_L43 rec2 n) l0 l1 l2 l3 S
theorem ja_X8_clear_L43_ok (zs : List Int32) {rec2 : Nat → Nat → Int → nk_S → Option (Int × nk_S)} (hrec2 : ∀ (l0 : Nat) (l1 : Nat) (l2 : Int) (S : nk_S) (R : Int × nk_S), nk_cl ja_Tt l0 = some 8 → nk_cl ja_Tt l1 = some 3 → rec2 l0 l1 l2 S = some R → nk_K ja_Tt mi_Γ (mi_ev zs) 0 418 2 [(0, nk_r l0), (1, nk_r l1), (2, nk_i l2)] [] S R) : ∀ n : Nat, ∀ (l0 : Nat) (l1 : Nat) (l2 : Int) (l3 : Int) (S : nk_S) (R : Int × nk_S), nk_cl ja_Tt l0 = some 8 → nk_cl ja_Tt l1 = some 3 → ja_X8_clear_L43 rec2 n l0 l1 l2 l3 S = some R → nk_K ja_Tt mi_Γ (mi_ev zs) 0 418 43 [(0, nk_r l0), (1, nk_r l1), (2, nk_i l2), (3, nk_i l3)] [] S R := by
  intro n
  induction n with
  | zero => intro _ _ _ _ _ _ _ _ hr; cases hr
  | succ n ih => intro l0 l1 l2 l3 S R t_l0 t_l1 hr; exact ja_X8_clear_b43_ok zs hrec2 ih l0 l1 l2 l3 S R t_l0 t_l1 hr
noncomputable def ja_X8_clear_b37 (rec2 : Nat → Nat → Int → nk_S → Option (Int × nk_S)) (l0 : Nat) (l1 : Nat) (l2 : Int) (s0 : Nat) (s1 : Int) (s2 : Int) (S : nk_S) : Option (Int × nk_S) :=
  nk_bd (ja_X8_nothing s2 S) fun r1 S2 =>
  if 0 ≤ s1 ∧ s1 < 48 then
  nk_lt (nk_wi S2 s0 s1.toNat r1) fun S5 =>
  ja_X8_clear_L43 rec2 nk_big l0 l1 l2 0 S5
  else none
theorem ja_X8_clear_b37_ok (zs : List Int32) {rec2 : Nat → Nat → Int → nk_S → Option (Int × nk_S)} (hrec2 : ∀ (l0 : Nat) (l1 : Nat) (l2 : Int) (S : nk_S) (R : Int × nk_S), nk_cl ja_Tt l0 = some 8 → nk_cl ja_Tt l1 = some 3 → rec2 l0 l1 l2 S = some R → nk_K ja_Tt mi_Γ (mi_ev zs) 0 418 2 [(0, nk_r l0), (1, nk_r l1), (2, nk_i l2)] [] S R) : ∀ (l0 : Nat) (l1 : Nat) (l2 : Int) (s0 : Nat) (s1 : Int) (s2 : Int) (S : nk_S) (R : Int × nk_S), nk_cl ja_Tt l0 = some 8 → nk_cl ja_Tt l1 = some 3 → nk_ar ja_Tt s0 = some (2, 48) → ja_X8_clear_b37 rec2 l0 l1 l2 s0 s1 s2 S = some R → nk_K ja_Tt mi_Γ (mi_ev zs) 0 418 37 [(0, nk_r l0), (1, nk_r l1), (2, nk_i l2)] [nk_i s2, nk_i s1, nk_r s0] S R := by
  intro l0 l1 l2 s0 s1 s2 S R t_l0 t_l1 t_s0 hr
  unfold ja_X8_clear_b37 at hr
  obtain ⟨r1, S2, h3, hr⟩ := nk_bde hr
  refine nk_callS (ci := 0) (n := 1) (x := 45) (len := 3) (j' := 421) (q' := 2) (r := r1) (S' := S2) (L2 := [(0, nk_i s2)]) (rest := [nk_i s1, nk_r s0]) (st' := [nk_l r1, nk_i s1, nk_r s0]) (pc' := 40) mJ_418 (by decide +kernel) (by decide +kernel) (Nat.le_of_ble_eq_true rfl) rfl rfl (Nat.le_of_ble_eq_true rfl) mJ_421 (Nat.le_of_ble_eq_true rfl) ja_Tpos rfl (ja_X8_nothing_ok zs _ _ _ h3) rfl ?_
  obtain ⟨h4, hr⟩ := nk_cke hr
  obtain ⟨S5, h6, hr⟩ := nk_lte hr
  refine nk_last (len := 1) (N := 48) (pc' := 41) mJ_418 (by decide +kernel) t_s0 h4.1 h4.2 rfl rfl h6 ?_
  refine nk_p (i := .iconst 0) (len := 1) (pc' := 42) mJ_418 (by decide +kernel) (ns_iconst (c := 0) (by decide +kernel)) rfl ?_
  refine nk_p (i := .istore_n 3) (len := 1) (pc' := 43) mJ_418 (by decide +kernel) (ns_istore_n (L' := [(3, nk_i 0), (0, nk_r l0), (1, nk_r l1), (2, nk_i l2)]) rfl rfl rfl (by decide +kernel)) rfl ?_
  refine nk_sub [1, 2, 3, 0] (L' := [(0, nk_r l0), (1, nk_r l1), (2, nk_i l2), (3, nk_i 0)]) rfl ?_
  exact ja_X8_clear_L43_ok zs hrec2 nk_big _ _ _ _ _ _ t_l0 t_l1 hr
noncomputable def ja_X8_clear_b2 (rec2 : Nat → Nat → Int → nk_S → Option (Int × nk_S)) (l0 : Nat) (l1 : Nat) (l2 : Int) (S : nk_S) : Option (Int × nk_S) :=
  if 48 ≤ l2 then
    ja_X8_clear_L100 nk_big l0 l1 0 S
  else
    if 0 ≤ l2 ∧ l2 < 48 then
    nk_lt (nk_wi S (ja_c l0 2) l2.toNat 9223372034707292160) fun S3 =>
    if 0 ≤ l2 ∧ l2 < 54 then
    if (S3.1 (ja_c l1 11) l2.toNat) = 3 then
      ja_X8_clear_b37 rec2 l0 l1 l2 (ja_c l0 1) l2 1 S3
    else
      ja_X8_clear_b37 rec2 l0 l1 l2 (ja_c l0 1) l2 0 S3
    else none
    else none
theorem ja_X8_clear_b2_ok (zs : List Int32) {rec2 : Nat → Nat → Int → nk_S → Option (Int × nk_S)} (hrec2 : ∀ (l0 : Nat) (l1 : Nat) (l2 : Int) (S : nk_S) (R : Int × nk_S), nk_cl ja_Tt l0 = some 8 → nk_cl ja_Tt l1 = some 3 → rec2 l0 l1 l2 S = some R → nk_K ja_Tt mi_Γ (mi_ev zs) 0 418 2 [(0, nk_r l0), (1, nk_r l1), (2, nk_i l2)] [] S R) : ∀ (l0 : Nat) (l1 : Nat) (l2 : Int) (S : nk_S) (R : Int × nk_S), nk_cl ja_Tt l0 = some 8 → nk_cl ja_Tt l1 = some 3 → ja_X8_clear_b2 rec2 l0 l1 l2 S = some R → nk_K ja_Tt mi_Γ (mi_ev zs) 0 418 2 [(0, nk_r l0), (1, nk_r l1), (2, nk_i l2)] [] S R := by
  intro l0 l1 l2 S R t_l0 t_l1 hr
  unfold ja_X8_clear_b2 at hr
  refine nk_p (i := .iload_n 2) (len := 1) (pc' := 3) mJ_418 (by decide +kernel) (ns_iload_n 2 rfl rfl) rfl ?_
  refine nk_p (i := .bipush 48) (len := 2) (pc' := 5) mJ_418 (by decide +kernel) (ns_bipush (c := 48) (by decide +kernel)) rfl ?_
  refine nk_icmp (c := .ge) (off := 93) (len := 3) (t := 98) (pc' := 8) mJ_418 (by decide +kernel) (by decide +kernel) rfl (fun hc => ?_) (fun hc => ?_)
  · have hr := nk_ifp (c := 48 ≤ l2) hc hr
    refine nk_p (i := .iconst 0) (len := 1) (pc' := 99) mJ_418 (by decide +kernel) (ns_iconst (c := 0) (by decide +kernel)) rfl ?_
    refine nk_p (i := .istore_n 2) (len := 1) (pc' := 100) mJ_418 (by decide +kernel) (ns_istore_n (L' := [(2, nk_i 0), (0, nk_r l0), (1, nk_r l1)]) rfl rfl rfl (by decide +kernel)) rfl ?_
    refine nk_sub [1, 2, 0] (L' := [(0, nk_r l0), (1, nk_r l1), (2, nk_i 0)]) rfl ?_
    exact ja_X8_clear_L100_ok zs nk_big _ _ _ _ _ t_l0 t_l1 hr
  · have hr := nk_ifn (c := 48 ≤ l2) hc hr
    refine nk_p (i := .aload_n 0) (len := 1) (pc' := 9) mJ_418 (by decide +kernel) (ns_aload_n 0 rfl rfl) rfl ?_
    refine nk_getC (f := (4, 2, 48)) (x := 18) (len := 3) (ci := 8) (k := 2) (pc' := 12) ja_okT mJ_418 (by decide +kernel) (by decide +kernel) (by decide +kernel) (by decide) t_l0 rfl ?_
    have t1 : nk_ar ja_Tt (ja_c l0 2) = some (2, 48) := nk_ta ja_okT t_l0 (by decide +kernel)
    refine nk_p (i := .iload_n 2) (len := 1) (pc' := 13) mJ_418 (by decide +kernel) (ns_iload_n 2 rfl rfl) rfl ?_
    refine nk_ldc2 (x := 33) (len := 3) (X := 9223372034707292160) (v := 9223372034707292160) (pc' := 16) mJ_418 (by decide +kernel) (by decide +kernel) (by decide +kernel) rfl ?_
    obtain ⟨h2, hr⟩ := nk_cke hr
    obtain ⟨S3, h4, hr⟩ := nk_lte hr
    refine nk_last (len := 1) (N := 48) (pc' := 17) mJ_418 (by decide +kernel) t1 h2.1 h2.2 rfl rfl h4 ?_
    refine nk_p (i := .aload_n 0) (len := 1) (pc' := 18) mJ_418 (by decide +kernel) (ns_aload_n 0 rfl rfl) rfl ?_
    refine nk_getC (f := (4, 2, 48)) (x := 15) (len := 3) (ci := 8) (k := 1) (pc' := 21) ja_okT mJ_418 (by decide +kernel) (by decide +kernel) (by decide +kernel) (by decide) t_l0 rfl ?_
    have t5 : nk_ar ja_Tt (ja_c l0 1) = some (2, 48) := nk_ta ja_okT t_l0 (by decide +kernel)
    refine nk_p (i := .iload_n 2) (len := 1) (pc' := 22) mJ_418 (by decide +kernel) (ns_iload_n 2 rfl rfl) rfl ?_
    refine nk_p (i := .aload_n 1) (len := 1) (pc' := 23) mJ_418 (by decide +kernel) (ns_aload_n 1 rfl rfl) rfl ?_
    refine nk_getC (f := (4, 1, 54)) (x := 39) (len := 3) (ci := 3) (k := 11) (pc' := 26) ja_okT mJ_418 (by decide +kernel) (by decide +kernel) (by decide +kernel) (by decide) t_l1 rfl ?_
    have t6 : nk_ar ja_Tt (ja_c l1 11) = some (1, 54) := nk_ta ja_okT t_l1 (by decide +kernel)
    refine nk_p (i := .iload_n 2) (len := 1) (pc' := 27) mJ_418 (by decide +kernel) (ns_iload_n 2 rfl rfl) rfl ?_
    obtain ⟨h7, hr⟩ := nk_cke hr
    refine nk_iald (len := 1) (N := 54) (pc' := 28) mJ_418 (by decide +kernel) t6 h7.1 h7.2 rfl rfl ?_
    refine nk_p (i := .iconst 3) (len := 1) (pc' := 29) mJ_418 (by decide +kernel) (ns_iconst (c := 3) (by decide +kernel)) rfl ?_
    refine nk_icmp (c := .ne) (off := 7) (len := 3) (t := 36) (pc' := 32) mJ_418 (by decide +kernel) (by decide +kernel) rfl (fun hc => ?_) (fun hc => ?_)
    · have hr := nk_ifn (c := (S3.1 (ja_c l1 11) l2.toNat) = 3) hc hr
      refine nk_p (i := .iconst 0) (len := 1) (pc' := 37) mJ_418 (by decide +kernel) (ns_iconst (c := 0) (by decide +kernel)) rfl ?_
      exact ja_X8_clear_b37_ok zs hrec2 _ _ _ _ _ _ _ _ t_l0 t_l1 t5 hr
    · have hr := nk_ifp (c := (S3.1 (ja_c l1 11) l2.toNat) = 3) (Decidable.of_not_not hc) hr
      refine nk_p (i := .iconst 1) (len := 1) (pc' := 33) mJ_418 (by decide +kernel) (ns_iconst (c := 1) (by decide +kernel)) rfl ?_
      refine nk_p (i := .goto 4) (len := 3) (pc' := 37) mJ_418 (by decide +kernel) (ns_goto (by decide +kernel)) rfl ?_
      exact ja_X8_clear_b37_ok zs hrec2 _ _ _ _ _ _ _ _ t_l0 t_l1 t5 hr
noncomputable def ja_X8_clear_L2 : Nat → Nat → Nat → Int → nk_S → Option (Int × nk_S)
  | 0, _, _, _, _ => none
  | n + 1, l0, l1, l2, S => ja_X8_clear_b2 (ja_X8_clear_L2 n) l0 l1 l2 S
theorem ja_X8_clear_L2_ok (zs : List Int32) : ∀ n : Nat, ∀ (l0 : Nat) (l1 : Nat) (l2 : Int) (S : nk_S) (R : Int × nk_S), nk_cl ja_Tt l0 = some 8 → nk_cl ja_Tt l1 = some 3 → ja_X8_clear_L2 n l0 l1 l2 S = some R → nk_K ja_Tt mi_Γ (mi_ev zs) 0 418 2 [(0, nk_r l0), (1, nk_r l1), (2, nk_i l2)] [] S R := by
  intro n
  induction n with
  | zero => intro _ _ _ _ _ _ _ hr; cases hr
  | succ n ih => intro l0 l1 l2 S R t_l0 t_l1 hr; exact ja_X8_clear_b2_ok zs ih l0 l1 l2 S R t_l0 t_l1 hr
noncomputable def ja_X8_clear (l0 : Nat) (l1 : Nat) (S : nk_S) : Option (Int × nk_S) :=
  ja_X8_clear_L2 nk_big l0 l1 0 S
theorem ja_X8_clear_ok (zs : List Int32) : ∀ (l0 : Nat) (l1 : Nat) (S : nk_S) (R : Int × nk_S), nk_cl ja_Tt l0 = some 8 → nk_cl ja_Tt l1 = some 3 → ja_X8_clear l0 l1 S = some R → nk_K ja_Tt mi_Γ (mi_ev zs) 0 418 0 [(0, nk_r l0), (1, nk_r l1)] [] S R := by
  intro l0 l1 S R t_l0 t_l1 hr
  unfold ja_X8_clear at hr
  refine nk_p (i := .iconst 0) (len := 1) (pc' := 1) mJ_418 (by decide +kernel) (ns_iconst (c := 0) (by decide +kernel)) rfl ?_
  refine nk_p (i := .istore_n 2) (len := 1) (pc' := 2) mJ_418 (by decide +kernel) (ns_istore_n (L' := [(2, nk_i 0), (0, nk_r l0), (1, nk_r l1)]) rfl rfl rfl (by decide +kernel)) rfl ?_
  refine nk_sub [1, 2, 0] (L' := [(0, nk_r l0), (1, nk_r l1), (2, nk_i 0)]) rfl ?_
  exact ja_X8_clear_L2_ok zs nk_big _ _ _ _ _ t_l0 t_l1 hr
/-! SafeCode$Program sitesBelow (I)J -/
noncomputable def ja_X3_sitesBelow_b28 (rec5 : Nat → Int → Int → Int → nk_S → Option (Int × nk_S)) (l0 : Nat) (l1 : Int) (l2 : Int) (l4 : Int) (S : nk_S) : Option (Int × nk_S) :=
  if 0 ≤ l4 ∧ l4 < 54 then
  nk_bd (ja_X1_isBelow (ja_c l0 0) (S.1 (ja_c l0 11) l4.toNat) l1 S) fun r4 S5 =>
  if r4 = 0 then
    nk_lt (nk_w (l4 + 1)) fun v7 =>
    rec5 l0 l1 l2 v7 S5
  else
    nk_lt (nk_lor l2 (nk_lshl 1 l4)) fun v9 =>
    nk_lt (nk_w (l4 + 1)) fun v11 =>
    rec5 l0 l1 v9 v11 S5
  else none
theorem ja_X3_sitesBelow_b28_ok (zs : List Int32) {rec5 : Nat → Int → Int → Int → nk_S → Option (Int × nk_S)} (hrec5 : ∀ (l0 : Nat) (l1 : Int) (l2 : Int) (l4 : Int) (S : nk_S) (R : Int × nk_S), nk_cl ja_Tt l0 = some 3 → rec5 l0 l1 l2 l4 S = some R → nk_K ja_Tt mi_Γ (mi_ev zs) 2 307 5 [(0, nk_r l0), (1, nk_i l1), (2, nk_l l2), (4, nk_i l4)] [] S R) : ∀ (l0 : Nat) (l1 : Int) (l2 : Int) (l4 : Int) (S : nk_S) (R : Int × nk_S), nk_cl ja_Tt l0 = some 3 → ja_X3_sitesBelow_b28 rec5 l0 l1 l2 l4 S = some R → nk_K ja_Tt mi_Γ (mi_ev zs) 2 307 28 [(0, nk_r l0), (1, nk_i l1), (2, nk_l l2), (4, nk_i l4)] [] S R := by
  intro l0 l1 l2 l4 S R t_l0 hr
  unfold ja_X3_sitesBelow_b28 at hr
  refine nk_p (i := .aload_n 0) (len := 1) (pc' := 29) mJ_307 (by decide +kernel) (ns_aload_n 0 rfl rfl) rfl ?_
  refine nk_getC (f := (2, 1, 0)) (x := 12) (len := 3) (ci := 3) (k := 0) (pc' := 32) ja_okT mJ_307 (by decide +kernel) (by decide +kernel) (by decide +kernel) (by decide) t_l0 rfl ?_
  have t1 : nk_cl ja_Tt (ja_c l0 0) = some 1 := nk_tc (y := 0) ja_okT t_l0 (by decide +kernel)
  refine nk_p (i := .aload_n 0) (len := 1) (pc' := 33) mJ_307 (by decide +kernel) (ns_aload_n 0 rfl rfl) rfl ?_
  refine nk_getC (f := (4, 1, 54)) (x := 51) (len := 3) (ci := 3) (k := 11) (pc' := 36) ja_okT mJ_307 (by decide +kernel) (by decide +kernel) (by decide +kernel) (by decide) t_l0 rfl ?_
  have t2 : nk_ar ja_Tt (ja_c l0 11) = some (1, 54) := nk_ta ja_okT t_l0 (by decide +kernel)
  refine nk_p (i := .iload 4) (len := 2) (pc' := 38) mJ_307 (by decide +kernel) (ns_iload 3 rfl) rfl ?_
  obtain ⟨h3, hr⟩ := nk_cke hr
  refine nk_iald (len := 1) (N := 54) (pc' := 39) mJ_307 (by decide +kernel) t2 h3.1 h3.2 rfl rfl ?_
  refine nk_p (i := .iload_n 1) (len := 1) (pc' := 40) mJ_307 (by decide +kernel) (ns_iload_n 1 rfl rfl) rfl ?_
  obtain ⟨r4, S5, h6, hr⟩ := nk_bde hr
  refine nk_callV (ci := 1) (n := 2) (x := 104) (len := 3) (j' := 256) (q' := 1) (r := r4) (S' := S5) (L2 := [(0, nk_r (ja_c l0 0)), (1, nk_i (S.1 (ja_c l0 11) l4.toNat)), (2, nk_i l1)]) (rest := []) (st' := [nk_i r4]) (pc' := 43) mJ_307 (by decide +kernel) (by decide +kernel) rfl rfl t1 (Nat.le_of_ble_eq_true rfl) mJ_256 (Nat.le_of_ble_eq_true rfl) rfl (ja_X1_isBelow_ok zs _ _ _ _ _ t1 h6) rfl ?_
  refine nk_icond (c := .eq) (off := 10) (len := 3) (t := 53) (pc' := 46) mJ_307 (by decide +kernel) (by decide +kernel) rfl (fun hc => ?_) (fun hc => ?_)
  · have hr := nk_ifp (c := r4 = 0) hc hr
    obtain ⟨v7, h8, hr⟩ := nk_lte hr
    refine nk_p (i := .iinc 4 1) (len := 3) (pc' := 56) mJ_307 (by decide +kernel) (ns_iinc (c := 1) (L' := [(4, nk_i v7), (0, nk_r l0), (1, nk_i l1), (2, nk_l l2)]) 3 rfl (by decide +kernel) h8 rfl (by decide +kernel)) rfl ?_
    refine nk_p (i := .goto (-51)) (len := 3) (pc' := 5) mJ_307 (by decide +kernel) (ns_goto (by decide +kernel)) rfl ?_
    refine nk_sub [1, 2, 3, 0] (L' := [(0, nk_r l0), (1, nk_i l1), (2, nk_l l2), (4, nk_i v7)]) rfl ?_
    exact hrec5 _ _ _ _ _ _ t_l0 hr
  · have hr := nk_ifn (c := r4 = 0) hc hr
    refine nk_p (i := .lload_n 2) (len := 1) (pc' := 47) mJ_307 (by decide +kernel) (ns_lload_n 2 rfl rfl) rfl ?_
    refine nk_p (i := .lconst 1) (len := 1) (pc' := 48) mJ_307 (by decide +kernel) (ns_lconst (c := 1) (by decide +kernel)) rfl ?_
    refine nk_p (i := .iload 4) (len := 2) (pc' := 50) mJ_307 (by decide +kernel) (ns_iload 3 rfl) rfl ?_
    refine nk_p (i := .lshl) (len := 1) (pc' := 51) mJ_307 (by decide +kernel) ns_lshl rfl ?_
    refine nk_p (i := .lor) (len := 1) (pc' := 52) mJ_307 (by decide +kernel) ns_lor rfl ?_
    obtain ⟨v9, h10, hr⟩ := nk_lte hr
    refine nk_p (i := .lstore_n 2) (len := 1) (pc' := 53) mJ_307 (by decide +kernel) (ns_lstore_n (L' := [(2, nk_l v9), (0, nk_r l0), (1, nk_i l1), (4, nk_i l4)]) h10 rfl rfl (by decide +kernel)) rfl ?_
    obtain ⟨v11, h12, hr⟩ := nk_lte hr
    refine nk_p (i := .iinc 4 1) (len := 3) (pc' := 56) mJ_307 (by decide +kernel) (ns_iinc (c := 1) (L' := [(4, nk_i v11), (2, nk_l v9), (0, nk_r l0), (1, nk_i l1)]) 3 rfl (by decide +kernel) h12 rfl (by decide +kernel)) rfl ?_
    refine nk_p (i := .goto (-51)) (len := 3) (pc' := 5) mJ_307 (by decide +kernel) (ns_goto (by decide +kernel)) rfl ?_
    refine nk_sub [2, 3, 1, 0] (L' := [(0, nk_r l0), (1, nk_i l1), (2, nk_l v9), (4, nk_i v11)]) rfl ?_
    exact hrec5 _ _ _ _ _ _ t_l0 hr
noncomputable def ja_X3_sitesBelow_b5 (rec5 : Nat → Int → Int → Int → nk_S → Option (Int × nk_S)) (l0 : Nat) (l1 : Int) (l2 : Int) (l4 : Int) (S : nk_S) : Option (Int × nk_S) :=
  if 54 ≤ l4 then
    some (l2, S)
  else
    if l4 < (S.1 l0 10) then
      ja_X3_sitesBelow_b28 rec5 l0 l1 l2 l4 S
    else
      if l4 < 48 then
        nk_lt (nk_w (l4 + 1)) fun v1 =>
        rec5 l0 l1 l2 v1 S
      else
        ja_X3_sitesBelow_b28 rec5 l0 l1 l2 l4 S
theorem ja_X3_sitesBelow_b5_ok (zs : List Int32) {rec5 : Nat → Int → Int → Int → nk_S → Option (Int × nk_S)} (hrec5 : ∀ (l0 : Nat) (l1 : Int) (l2 : Int) (l4 : Int) (S : nk_S) (R : Int × nk_S), nk_cl ja_Tt l0 = some 3 → rec5 l0 l1 l2 l4 S = some R → nk_K ja_Tt mi_Γ (mi_ev zs) 2 307 5 [(0, nk_r l0), (1, nk_i l1), (2, nk_l l2), (4, nk_i l4)] [] S R) : ∀ (l0 : Nat) (l1 : Int) (l2 : Int) (l4 : Int) (S : nk_S) (R : Int × nk_S), nk_cl ja_Tt l0 = some 3 → ja_X3_sitesBelow_b5 rec5 l0 l1 l2 l4 S = some R → nk_K ja_Tt mi_Γ (mi_ev zs) 2 307 5 [(0, nk_r l0), (1, nk_i l1), (2, nk_l l2), (4, nk_i l4)] [] S R := by
  intro l0 l1 l2 l4 S R t_l0 hr
  unfold ja_X3_sitesBelow_b5 at hr
  refine nk_p (i := .iload 4) (len := 2) (pc' := 7) mJ_307 (by decide +kernel) (ns_iload 3 rfl) rfl ?_
  refine nk_p (i := .bipush 54) (len := 2) (pc' := 9) mJ_307 (by decide +kernel) (ns_bipush (c := 54) (by decide +kernel)) rfl ?_
  refine nk_icmp (c := .ge) (off := 50) (len := 3) (t := 59) (pc' := 12) mJ_307 (by decide +kernel) (by decide +kernel) rfl (fun hc => ?_) (fun hc => ?_)
  · have hr := nk_ifp (c := 54 ≤ l4) hc hr
    refine nk_p (i := .lload_n 2) (len := 1) (pc' := 60) mJ_307 (by decide +kernel) (ns_lload_n 2 rfl rfl) rfl ?_
    cases hr
    exact nk_lret (len := 1) mJ_307 (by decide +kernel) rfl
  · have hr := nk_ifn (c := 54 ≤ l4) hc hr
    refine nk_p (i := .iload 4) (len := 2) (pc' := 14) mJ_307 (by decide +kernel) (ns_iload 3 rfl) rfl ?_
    refine nk_p (i := .aload_n 0) (len := 1) (pc' := 15) mJ_307 (by decide +kernel) (ns_aload_n 0 rfl rfl) rfl ?_
    refine nk_getI (y := (0, 0)) (x := 75) (len := 3) (ci := 3) (k := 10) (pc' := 18) ja_okT mJ_307 (by decide +kernel) (by decide +kernel) (by decide +kernel) t_l0 rfl ?_
    refine nk_icmp (c := .lt) (off := 10) (len := 3) (t := 28) (pc' := 21) mJ_307 (by decide +kernel) (by decide +kernel) rfl (fun hc => ?_) (fun hc => ?_)
    · have hr := nk_ifp (c := l4 < (S.1 l0 10)) hc hr
      exact ja_X3_sitesBelow_b28_ok zs hrec5 _ _ _ _ _ _ t_l0 hr
    · have hr := nk_ifn (c := l4 < (S.1 l0 10)) hc hr
      refine nk_p (i := .iload 4) (len := 2) (pc' := 23) mJ_307 (by decide +kernel) (ns_iload 3 rfl) rfl ?_
      refine nk_p (i := .bipush 48) (len := 2) (pc' := 25) mJ_307 (by decide +kernel) (ns_bipush (c := 48) (by decide +kernel)) rfl ?_
      refine nk_icmp (c := .lt) (off := 28) (len := 3) (t := 53) (pc' := 28) mJ_307 (by decide +kernel) (by decide +kernel) rfl (fun hc => ?_) (fun hc => ?_)
      · have hr := nk_ifp (c := l4 < 48) hc hr
        obtain ⟨v1, h2, hr⟩ := nk_lte hr
        refine nk_p (i := .iinc 4 1) (len := 3) (pc' := 56) mJ_307 (by decide +kernel) (ns_iinc (c := 1) (L' := [(4, nk_i v1), (0, nk_r l0), (1, nk_i l1), (2, nk_l l2)]) 3 rfl (by decide +kernel) h2 rfl (by decide +kernel)) rfl ?_
        refine nk_p (i := .goto (-51)) (len := 3) (pc' := 5) mJ_307 (by decide +kernel) (ns_goto (by decide +kernel)) rfl ?_
        refine nk_sub [1, 2, 3, 0] (L' := [(0, nk_r l0), (1, nk_i l1), (2, nk_l l2), (4, nk_i v1)]) rfl ?_
        exact hrec5 _ _ _ _ _ _ t_l0 hr
      · have hr := nk_ifn (c := l4 < 48) hc hr
        exact ja_X3_sitesBelow_b28_ok zs hrec5 _ _ _ _ _ _ t_l0 hr
noncomputable def ja_X3_sitesBelow_L5 : Nat → Nat → Int → Int → Int → nk_S → Option (Int × nk_S)
  | 0, _, _, _, _, _ => none
  | n + 1, l0, l1, l2, l4, S => ja_X3_sitesBelow_b5 (ja_X3_sitesBelow_L5 n) l0 l1 l2 l4 S
theorem ja_X3_sitesBelow_L5_ok (zs : List Int32) : ∀ n : Nat, ∀ (l0 : Nat) (l1 : Int) (l2 : Int) (l4 : Int) (S : nk_S) (R : Int × nk_S), nk_cl ja_Tt l0 = some 3 → ja_X3_sitesBelow_L5 n l0 l1 l2 l4 S = some R → nk_K ja_Tt mi_Γ (mi_ev zs) 2 307 5 [(0, nk_r l0), (1, nk_i l1), (2, nk_l l2), (4, nk_i l4)] [] S R := by
  intro n
  induction n with
  | zero => intro _ _ _ _ _ _ _ hr; cases hr
  | succ n ih => intro l0 l1 l2 l4 S R t_l0 hr; exact ja_X3_sitesBelow_b5_ok zs ih l0 l1 l2 l4 S R t_l0 hr
noncomputable def ja_X3_sitesBelow (l0 : Nat) (l1 : Int) (S : nk_S) : Option (Int × nk_S) :=
  ja_X3_sitesBelow_L5 nk_big l0 l1 0 0 S
theorem ja_X3_sitesBelow_ok (zs : List Int32) : ∀ (l0 : Nat) (l1 : Int) (S : nk_S) (R : Int × nk_S), nk_cl ja_Tt l0 = some 3 → ja_X3_sitesBelow l0 l1 S = some R → nk_K ja_Tt mi_Γ (mi_ev zs) 2 307 0 [(0, nk_r l0), (1, nk_i l1)] [] S R := by
  intro l0 l1 S R t_l0 hr
  unfold ja_X3_sitesBelow at hr
  refine nk_p (i := .lconst 0) (len := 1) (pc' := 1) mJ_307 (by decide +kernel) (ns_lconst (c := 0) (by decide +kernel)) rfl ?_
  refine nk_p (i := .lstore_n 2) (len := 1) (pc' := 2) mJ_307 (by decide +kernel) (ns_lstore_n (L' := [(2, nk_l 0), (0, nk_r l0), (1, nk_i l1)]) rfl rfl rfl (by decide +kernel)) rfl ?_
  refine nk_p (i := .iconst 0) (len := 1) (pc' := 3) mJ_307 (by decide +kernel) (ns_iconst (c := 0) (by decide +kernel)) rfl ?_
  refine nk_p (i := .istore 4) (len := 2) (pc' := 5) mJ_307 (by decide +kernel) (ns_istore (L' := [(4, nk_i 0), (2, nk_l 0), (0, nk_r l0), (1, nk_i l1)]) rfl rfl (by decide +kernel)) rfl ?_
  refine nk_sub [2, 3, 1, 0] (L' := [(0, nk_r l0), (1, nk_i l1), (2, nk_l 0), (4, nk_i 0)]) rfl ?_
  exact ja_X3_sitesBelow_L5_ok zs nk_big _ _ _ _ _ _ t_l0 hr
/-! SafeCode$Proof bodiesMeant (I)J -/
noncomputable def ja_X4_bodiesMeant_b35 (rec35 : Nat → Int → Int → Int → Int → nk_S → Option (Int × nk_S)) (l0 : Nat) (l1 : Int) (l2 : Int) (l3 : Int) (l5 : Int) (S : nk_S) : Option (Int × nk_S) :=
  if (S.1 (ja_c (S.2 l0 0) 0) 0) ≤ l5 then
    some (l3, S)
  else
    if 0 ≤ l1 ∧ l1 < 1024 then
    if (S.1 (ja_c (S.2 l0 0) 4) l1.toNat) = 40 then
      nk_bd (ja_X0_running (ja_c (S.2 l0 0) 1) l5 l2 S) fun r8 S9 =>
      if 0 ≤ r8 then
        nk_lt (nk_lor l3 (nk_lshl 1 r8)) fun v11 =>
        nk_lt (nk_w (l5 + 1)) fun v13 =>
        rec35 l0 l1 l2 v11 v13 S9
      else
        nk_lt (nk_lor l3 0) fun v15 =>
        nk_lt (nk_w (l5 + 1)) fun v17 =>
        rec35 l0 l1 l2 v15 v17 S9
    else
      some (l3, S)
    else none
theorem ja_X4_bodiesMeant_b35_ok (zs : List Int32) {rec35 : Nat → Int → Int → Int → Int → nk_S → Option (Int × nk_S)} (hrec35 : ∀ (l0 : Nat) (l1 : Int) (l2 : Int) (l3 : Int) (l5 : Int) (S : nk_S) (R : Int × nk_S), nk_cl ja_Tt l0 = some 4 → rec35 l0 l1 l2 l3 l5 S = some R → nk_K ja_Tt mi_Γ (mi_ev zs) 2 310 35 [(0, nk_r l0), (1, nk_i l1), (2, nk_i l2), (3, nk_l l3), (5, nk_i l5)] [] S R) : ∀ (l0 : Nat) (l1 : Int) (l2 : Int) (l3 : Int) (l5 : Int) (S : nk_S) (R : Int × nk_S), nk_cl ja_Tt l0 = some 4 → ja_X4_bodiesMeant_b35 rec35 l0 l1 l2 l3 l5 S = some R → nk_K ja_Tt mi_Γ (mi_ev zs) 2 310 35 [(0, nk_r l0), (1, nk_i l1), (2, nk_i l2), (3, nk_l l3), (5, nk_i l5)] [] S R := by
  intro l0 l1 l2 l3 l5 S R t_l0 hr
  unfold ja_X4_bodiesMeant_b35 at hr
  refine nk_p (i := .iload 5) (len := 2) (pc' := 37) mJ_310 (by decide +kernel) (ns_iload 4 rfl) rfl ?_
  refine nk_p (i := .aload_n 0) (len := 1) (pc' := 38) mJ_310 (by decide +kernel) (ns_aload_n 0 rfl rfl) rfl ?_
  refine nk_getM (cj := 3) (z := 0) (x := 42) (len := 3) (ci := 4) (k := 0) (pc' := 41) ja_okT mJ_310 (by decide +kernel) (by decide +kernel) (by decide +kernel) t_l0 rfl (fun t1 => ?_)
  refine nk_getC (f := (2, 1, 0)) (x := 53) (len := 3) (ci := 3) (k := 0) (pc' := 44) ja_okT mJ_310 (by decide +kernel) (by decide +kernel) (by decide +kernel) (by decide) t1 rfl ?_
  have t2 : nk_cl ja_Tt (ja_c (S.2 l0 0) 0) = some 1 := nk_tc (y := 0) ja_okT t1 (by decide +kernel)
  refine nk_getI (y := (0, 0)) (x := 142) (len := 3) (ci := 1) (k := 0) (pc' := 47) ja_okT mJ_310 (by decide +kernel) (by decide +kernel) (by decide +kernel) t2 rfl ?_
  refine nk_icmp (c := .ge) (off := 54) (len := 3) (t := 101) (pc' := 50) mJ_310 (by decide +kernel) (by decide +kernel) rfl (fun hc => ?_) (fun hc => ?_)
  · have hr := nk_ifp (c := (S.1 (ja_c (S.2 l0 0) 0) 0) ≤ l5) hc hr
    refine nk_p (i := .lload_n 3) (len := 1) (pc' := 102) mJ_310 (by decide +kernel) (ns_lload_n 3 rfl rfl) rfl ?_
    cases hr
    exact nk_lret (len := 1) mJ_310 (by decide +kernel) rfl
  · have hr := nk_ifn (c := (S.1 (ja_c (S.2 l0 0) 0) 0) ≤ l5) hc hr
    refine nk_p (i := .aload_n 0) (len := 1) (pc' := 51) mJ_310 (by decide +kernel) (ns_aload_n 0 rfl rfl) rfl ?_
    refine nk_getM (cj := 3) (z := 0) (x := 42) (len := 3) (ci := 4) (k := 0) (pc' := 54) ja_okT mJ_310 (by decide +kernel) (by decide +kernel) (by decide +kernel) t_l0 rfl (fun t3 => ?_)
    refine nk_getC (f := (4, 1, 1024)) (x := 110) (len := 3) (ci := 3) (k := 4) (pc' := 57) ja_okT mJ_310 (by decide +kernel) (by decide +kernel) (by decide +kernel) (by decide) t3 rfl ?_
    have t4 : nk_ar ja_Tt (ja_c (S.2 l0 0) 4) = some (1, 1024) := nk_ta ja_okT t3 (by decide +kernel)
    refine nk_p (i := .iload_n 1) (len := 1) (pc' := 58) mJ_310 (by decide +kernel) (ns_iload_n 1 rfl rfl) rfl ?_
    obtain ⟨h5, hr⟩ := nk_cke hr
    refine nk_iald (len := 1) (N := 1024) (pc' := 59) mJ_310 (by decide +kernel) t4 h5.1 h5.2 rfl rfl ?_
    refine nk_p (i := .bipush 40) (len := 2) (pc' := 61) mJ_310 (by decide +kernel) (ns_bipush (c := 40) (by decide +kernel)) rfl ?_
    refine nk_icmp (c := .ne) (off := 40) (len := 3) (t := 101) (pc' := 64) mJ_310 (by decide +kernel) (by decide +kernel) rfl (fun hc => ?_) (fun hc => ?_)
    · have hr := nk_ifn (c := (S.1 (ja_c (S.2 l0 0) 4) l1.toNat) = 40) hc hr
      refine nk_p (i := .lload_n 3) (len := 1) (pc' := 102) mJ_310 (by decide +kernel) (ns_lload_n 3 rfl rfl) rfl ?_
      cases hr
      exact nk_lret (len := 1) mJ_310 (by decide +kernel) rfl
    · have hr := nk_ifp (c := (S.1 (ja_c (S.2 l0 0) 4) l1.toNat) = 40) (Decidable.of_not_not hc) hr
      refine nk_p (i := .aload_n 0) (len := 1) (pc' := 65) mJ_310 (by decide +kernel) (ns_aload_n 0 rfl rfl) rfl ?_
      refine nk_getM (cj := 3) (z := 0) (x := 42) (len := 3) (ci := 4) (k := 0) (pc' := 68) ja_okT mJ_310 (by decide +kernel) (by decide +kernel) (by decide +kernel) t_l0 rfl (fun t6 => ?_)
      refine nk_getC (f := (2, 0, 0)) (x := 71) (len := 3) (ci := 3) (k := 1) (pc' := 71) ja_okT mJ_310 (by decide +kernel) (by decide +kernel) (by decide +kernel) (by decide) t6 rfl ?_
      have t7 : nk_cl ja_Tt (ja_c (S.2 l0 0) 1) = some 0 := nk_tc (y := 0) ja_okT t6 (by decide +kernel)
      refine nk_p (i := .iload 5) (len := 2) (pc' := 73) mJ_310 (by decide +kernel) (ns_iload 4 rfl) rfl ?_
      refine nk_p (i := .iload_n 2) (len := 1) (pc' := 74) mJ_310 (by decide +kernel) (ns_iload_n 2 rfl rfl) rfl ?_
      obtain ⟨r8, S9, h10, hr⟩ := nk_bde hr
      refine nk_callV (ci := 0) (n := 2) (x := 143) (len := 3) (j' := 30) (q' := 1) (r := r8) (S' := S9) (L2 := [(0, nk_r (ja_c (S.2 l0 0) 1)), (1, nk_i l5), (2, nk_i l2)]) (rest := []) (st' := [nk_i r8]) (pc' := 77) mJ_310 (by decide +kernel) (by decide +kernel) rfl rfl t7 (Nat.le_of_ble_eq_true rfl) mJ_30 (Nat.le_of_ble_eq_true rfl) rfl (ja_X0_running_ok zs _ _ _ _ _ t7 h10) rfl ?_
      refine nk_p (i := .istore 6) (len := 2) (pc' := 79) mJ_310 (by decide +kernel) (ns_istore (L' := [(6, nk_i r8), (0, nk_r l0), (1, nk_i l1), (2, nk_i l2), (3, nk_l l3), (5, nk_i l5)]) rfl rfl (by decide +kernel)) rfl ?_
      refine nk_p (i := .lload_n 3) (len := 1) (pc' := 80) mJ_310 (by decide +kernel) (ns_lload_n 4 rfl rfl) rfl ?_
      refine nk_p (i := .iload 6) (len := 2) (pc' := 82) mJ_310 (by decide +kernel) (ns_iload 0 rfl) rfl ?_
      refine nk_icond (c := .ge) (off := 7) (len := 3) (t := 89) (pc' := 85) mJ_310 (by decide +kernel) (by decide +kernel) rfl (fun hc => ?_) (fun hc => ?_)
      · have hr := nk_ifp (c := 0 ≤ r8) hc hr
        refine nk_p (i := .lconst 1) (len := 1) (pc' := 90) mJ_310 (by decide +kernel) (ns_lconst (c := 1) (by decide +kernel)) rfl ?_
        refine nk_p (i := .iload 6) (len := 2) (pc' := 92) mJ_310 (by decide +kernel) (ns_iload 0 rfl) rfl ?_
        refine nk_p (i := .lshl) (len := 1) (pc' := 93) mJ_310 (by decide +kernel) ns_lshl rfl ?_
        refine nk_p (i := .lor) (len := 1) (pc' := 94) mJ_310 (by decide +kernel) ns_lor rfl ?_
        obtain ⟨v11, h12, hr⟩ := nk_lte hr
        refine nk_p (i := .lstore_n 3) (len := 1) (pc' := 95) mJ_310 (by decide +kernel) (ns_lstore_n (L' := [(3, nk_l v11), (6, nk_i r8), (0, nk_r l0), (1, nk_i l1), (2, nk_i l2), (5, nk_i l5)]) h12 rfl rfl (by decide +kernel)) rfl ?_
        obtain ⟨v13, h14, hr⟩ := nk_lte hr
        refine nk_p (i := .iinc 5 1) (len := 3) (pc' := 98) mJ_310 (by decide +kernel) (ns_iinc (c := 1) (L' := [(5, nk_i v13), (3, nk_l v11), (6, nk_i r8), (0, nk_r l0), (1, nk_i l1), (2, nk_i l2)]) 5 rfl (by decide +kernel) h14 rfl (by decide +kernel)) rfl ?_
        refine nk_p (i := .goto (-63)) (len := 3) (pc' := 35) mJ_310 (by decide +kernel) (ns_goto (by decide +kernel)) rfl ?_
        refine nk_sub [3, 4, 5, 1, 0] (L' := [(0, nk_r l0), (1, nk_i l1), (2, nk_i l2), (3, nk_l v11), (5, nk_i v13)]) rfl ?_
        exact hrec35 _ _ _ _ _ _ _ t_l0 hr
      · have hr := nk_ifn (c := 0 ≤ r8) hc hr
        refine nk_p (i := .lconst 0) (len := 1) (pc' := 86) mJ_310 (by decide +kernel) (ns_lconst (c := 0) (by decide +kernel)) rfl ?_
        refine nk_p (i := .goto 7) (len := 3) (pc' := 93) mJ_310 (by decide +kernel) (ns_goto (by decide +kernel)) rfl ?_
        refine nk_p (i := .lor) (len := 1) (pc' := 94) mJ_310 (by decide +kernel) ns_lor rfl ?_
        obtain ⟨v15, h16, hr⟩ := nk_lte hr
        refine nk_p (i := .lstore_n 3) (len := 1) (pc' := 95) mJ_310 (by decide +kernel) (ns_lstore_n (L' := [(3, nk_l v15), (6, nk_i r8), (0, nk_r l0), (1, nk_i l1), (2, nk_i l2), (5, nk_i l5)]) h16 rfl rfl (by decide +kernel)) rfl ?_
        obtain ⟨v17, h18, hr⟩ := nk_lte hr
        refine nk_p (i := .iinc 5 1) (len := 3) (pc' := 98) mJ_310 (by decide +kernel) (ns_iinc (c := 1) (L' := [(5, nk_i v17), (3, nk_l v15), (6, nk_i r8), (0, nk_r l0), (1, nk_i l1), (2, nk_i l2)]) 5 rfl (by decide +kernel) h18 rfl (by decide +kernel)) rfl ?_
        refine nk_p (i := .goto (-63)) (len := 3) (pc' := 35) mJ_310 (by decide +kernel) (ns_goto (by decide +kernel)) rfl ?_
        refine nk_sub [3, 4, 5, 1, 0] (L' := [(0, nk_r l0), (1, nk_i l1), (2, nk_i l2), (3, nk_l v15), (5, nk_i v17)]) rfl ?_
        exact hrec35 _ _ _ _ _ _ _ t_l0 hr
noncomputable def ja_X4_bodiesMeant_L35 : Nat → Nat → Int → Int → Int → Int → nk_S → Option (Int × nk_S)
  | 0, _, _, _, _, _, _ => none
  | n + 1, l0, l1, l2, l3, l5, S => ja_X4_bodiesMeant_b35 (ja_X4_bodiesMeant_L35 n) l0 l1 l2 l3 l5 S
theorem ja_X4_bodiesMeant_L35_ok (zs : List Int32) : ∀ n : Nat, ∀ (l0 : Nat) (l1 : Int) (l2 : Int) (l3 : Int) (l5 : Int) (S : nk_S) (R : Int × nk_S), nk_cl ja_Tt l0 = some 4 → ja_X4_bodiesMeant_L35 n l0 l1 l2 l3 l5 S = some R → nk_K ja_Tt mi_Γ (mi_ev zs) 2 310 35 [(0, nk_r l0), (1, nk_i l1), (2, nk_i l2), (3, nk_l l3), (5, nk_i l5)] [] S R := by
  intro n
  induction n with
  | zero => intro _ _ _ _ _ _ _ _ hr; cases hr
  | succ n ih => intro l0 l1 l2 l3 l5 S R t_l0 hr; exact ja_X4_bodiesMeant_b35_ok zs ih l0 l1 l2 l3 l5 S R t_l0 hr
noncomputable def ja_X4_bodiesMeant (l0 : Nat) (l1 : Int) (S : nk_S) : Option (Int × nk_S) :=
  if 0 ≤ l1 ∧ l1 < 1024 then
  nk_lt (S.1 (ja_c (S.2 l0 0) 5) l1.toNat) fun v4 =>
  if (S.1 (ja_c (S.2 l0 0) 4) l1.toNat) = 39 then
    nk_lt (nk_lshl 1 v4) fun v8 =>
    ja_X4_bodiesMeant_L35 nk_big l0 l1 v4 v8 0 S
  else
    ja_X4_bodiesMeant_L35 nk_big l0 l1 v4 0 0 S
  else none
theorem ja_X4_bodiesMeant_ok (zs : List Int32) : ∀ (l0 : Nat) (l1 : Int) (S : nk_S) (R : Int × nk_S), nk_cl ja_Tt l0 = some 4 → ja_X4_bodiesMeant l0 l1 S = some R → nk_K ja_Tt mi_Γ (mi_ev zs) 2 310 0 [(0, nk_r l0), (1, nk_i l1)] [] S R := by
  intro l0 l1 S R t_l0 hr
  unfold ja_X4_bodiesMeant at hr
  refine nk_p (i := .aload_n 0) (len := 1) (pc' := 1) mJ_310 (by decide +kernel) (ns_aload_n 0 rfl rfl) rfl ?_
  refine nk_getM (cj := 3) (z := 0) (x := 42) (len := 3) (ci := 4) (k := 0) (pc' := 4) ja_okT mJ_310 (by decide +kernel) (by decide +kernel) (by decide +kernel) t_l0 rfl (fun t1 => ?_)
  refine nk_getC (f := (4, 1, 1024)) (x := 113) (len := 3) (ci := 3) (k := 5) (pc' := 7) ja_okT mJ_310 (by decide +kernel) (by decide +kernel) (by decide +kernel) (by decide) t1 rfl ?_
  have t2 : nk_ar ja_Tt (ja_c (S.2 l0 0) 5) = some (1, 1024) := nk_ta ja_okT t1 (by decide +kernel)
  refine nk_p (i := .iload_n 1) (len := 1) (pc' := 8) mJ_310 (by decide +kernel) (ns_iload_n 1 rfl rfl) rfl ?_
  obtain ⟨h3, hr⟩ := nk_cke hr
  refine nk_iald (len := 1) (N := 1024) (pc' := 9) mJ_310 (by decide +kernel) t2 h3.1 h3.2 rfl rfl ?_
  obtain ⟨v4, h5, hr⟩ := nk_lte hr
  refine nk_p (i := .istore_n 2) (len := 1) (pc' := 10) mJ_310 (by decide +kernel) (ns_istore_n (L' := [(2, nk_i v4), (0, nk_r l0), (1, nk_i l1)]) h5 rfl rfl (by decide +kernel)) rfl ?_
  refine nk_p (i := .aload_n 0) (len := 1) (pc' := 11) mJ_310 (by decide +kernel) (ns_aload_n 1 rfl rfl) rfl ?_
  refine nk_getM (cj := 3) (z := 0) (x := 42) (len := 3) (ci := 4) (k := 0) (pc' := 14) ja_okT mJ_310 (by decide +kernel) (by decide +kernel) (by decide +kernel) t_l0 rfl (fun t6 => ?_)
  refine nk_getC (f := (4, 1, 1024)) (x := 110) (len := 3) (ci := 3) (k := 4) (pc' := 17) ja_okT mJ_310 (by decide +kernel) (by decide +kernel) (by decide +kernel) (by decide) t6 rfl ?_
  have t7 : nk_ar ja_Tt (ja_c (S.2 l0 0) 4) = some (1, 1024) := nk_ta ja_okT t6 (by decide +kernel)
  refine nk_p (i := .iload_n 1) (len := 1) (pc' := 18) mJ_310 (by decide +kernel) (ns_iload_n 2 rfl rfl) rfl ?_
  refine nk_iald (len := 1) (N := 1024) (pc' := 19) mJ_310 (by decide +kernel) t7 h3.1 h3.2 rfl rfl ?_
  refine nk_p (i := .bipush 39) (len := 2) (pc' := 21) mJ_310 (by decide +kernel) (ns_bipush (c := 39) (by decide +kernel)) rfl ?_
  refine nk_icmp (c := .ne) (off := 9) (len := 3) (t := 30) (pc' := 24) mJ_310 (by decide +kernel) (by decide +kernel) rfl (fun hc => ?_) (fun hc => ?_)
  · have hr := nk_ifn (c := (S.1 (ja_c (S.2 l0 0) 4) l1.toNat) = 39) hc hr
    refine nk_p (i := .lconst 0) (len := 1) (pc' := 31) mJ_310 (by decide +kernel) (ns_lconst (c := 0) (by decide +kernel)) rfl ?_
    refine nk_p (i := .lstore_n 3) (len := 1) (pc' := 32) mJ_310 (by decide +kernel) (ns_lstore_n (L' := [(3, nk_l 0), (2, nk_i v4), (0, nk_r l0), (1, nk_i l1)]) rfl rfl rfl (by decide +kernel)) rfl ?_
    refine nk_p (i := .iconst 0) (len := 1) (pc' := 33) mJ_310 (by decide +kernel) (ns_iconst (c := 0) (by decide +kernel)) rfl ?_
    refine nk_p (i := .istore 5) (len := 2) (pc' := 35) mJ_310 (by decide +kernel) (ns_istore (L' := [(5, nk_i 0), (3, nk_l 0), (2, nk_i v4), (0, nk_r l0), (1, nk_i l1)]) rfl rfl (by decide +kernel)) rfl ?_
    refine nk_sub [3, 4, 2, 1, 0] (L' := [(0, nk_r l0), (1, nk_i l1), (2, nk_i v4), (3, nk_l 0), (5, nk_i 0)]) rfl ?_
    exact ja_X4_bodiesMeant_L35_ok zs nk_big _ _ _ _ _ _ _ t_l0 hr
  · have hr := nk_ifp (c := (S.1 (ja_c (S.2 l0 0) 4) l1.toNat) = 39) (Decidable.of_not_not hc) hr
    refine nk_p (i := .lconst 1) (len := 1) (pc' := 25) mJ_310 (by decide +kernel) (ns_lconst (c := 1) (by decide +kernel)) rfl ?_
    refine nk_p (i := .iload_n 2) (len := 1) (pc' := 26) mJ_310 (by decide +kernel) (ns_iload_n 0 rfl rfl) rfl ?_
    refine nk_p (i := .lshl) (len := 1) (pc' := 27) mJ_310 (by decide +kernel) ns_lshl rfl ?_
    refine nk_p (i := .goto 4) (len := 3) (pc' := 31) mJ_310 (by decide +kernel) (ns_goto (by decide +kernel)) rfl ?_
    obtain ⟨v8, h9, hr⟩ := nk_lte hr
    refine nk_p (i := .lstore_n 3) (len := 1) (pc' := 32) mJ_310 (by decide +kernel) (ns_lstore_n (L' := [(3, nk_l v8), (2, nk_i v4), (0, nk_r l0), (1, nk_i l1)]) h9 rfl rfl (by decide +kernel)) rfl ?_
    refine nk_p (i := .iconst 0) (len := 1) (pc' := 33) mJ_310 (by decide +kernel) (ns_iconst (c := 0) (by decide +kernel)) rfl ?_
    refine nk_p (i := .istore 5) (len := 2) (pc' := 35) mJ_310 (by decide +kernel) (ns_istore (L' := [(5, nk_i 0), (3, nk_l v8), (2, nk_i v4), (0, nk_r l0), (1, nk_i l1)]) rfl rfl (by decide +kernel)) rfl ?_
    refine nk_sub [3, 4, 2, 1, 0] (L' := [(0, nk_r l0), (1, nk_i l1), (2, nk_i v4), (3, nk_l v8), (5, nk_i 0)]) rfl ?_
    exact ja_X4_bodiesMeant_L35_ok zs nk_big _ _ _ _ _ _ _ t_l0 hr
/-! SafeCode$Proof findSuiting ()V -/
noncomputable def ja_X4_findSuiting_b162 (rec162 : Nat → Int → nk_S → Option (Int × nk_S)) (l0 : Nat) (l1 : Int) (S : nk_S) : Option (Int × nk_S) :=
  if (S.1 (S.2 l0 0) 10) ≤ l1 then
    some (0, S)
  else
    if 0 ≤ l1 ∧ l1 < 54 then
    nk_bd (ja_X1_isArray (S.1 (ja_c (S.2 l0 0) 11) l1.toNat) S) fun r5 S6 =>
    if r5 = 0 then
      nk_lt (nk_w (l1 + 1)) fun v8 =>
      rec162 l0 v8 S6
    else
      nk_bd (ja_X1_element (S6.1 (ja_c (S6.2 l0 0) 11) l1.toNat) S6) fun r14 S15 =>
      nk_bd (ja_X3_sitesBelow (S6.2 l0 0) r14 S15) fun r17 S18 =>
      if 0 ≤ l1 ∧ l1 < 48 then
      nk_lt (nk_wi S18 (ja_c l0 8) l1.toNat r17) fun S21 =>
      nk_lt (nk_w (l1 + 1)) fun v23 =>
      rec162 l0 v23 S21
      else none
    else none
theorem ja_X4_findSuiting_b162_ok (zs : List Int32) {rec162 : Nat → Int → nk_S → Option (Int × nk_S)} (hrec162 : ∀ (l0 : Nat) (l1 : Int) (S : nk_S) (R : Int × nk_S), nk_cl ja_Tt l0 = some 4 → rec162 l0 l1 S = some R → nk_K ja_Tt mi_Γ (mi_ev zs) 0 319 162 [(0, nk_r l0), (1, nk_i l1)] [] S R) : ∀ (l0 : Nat) (l1 : Int) (S : nk_S) (R : Int × nk_S), nk_cl ja_Tt l0 = some 4 → ja_X4_findSuiting_b162 rec162 l0 l1 S = some R → nk_K ja_Tt mi_Γ (mi_ev zs) 0 319 162 [(0, nk_r l0), (1, nk_i l1)] [] S R := by
  intro l0 l1 S R t_l0 hr
  unfold ja_X4_findSuiting_b162 at hr
  refine nk_p (i := .iload_n 1) (len := 1) (pc' := 163) mJ_319 (by decide +kernel) (ns_iload_n 1 rfl rfl) rfl ?_
  refine nk_p (i := .aload_n 0) (len := 1) (pc' := 164) mJ_319 (by decide +kernel) (ns_aload_n 0 rfl rfl) rfl ?_
  refine nk_getM (cj := 3) (z := 0) (x := 42) (len := 3) (ci := 4) (k := 0) (pc' := 167) ja_okT mJ_319 (by decide +kernel) (by decide +kernel) (by decide +kernel) t_l0 rfl (fun t1 => ?_)
  refine nk_getI (y := (0, 0)) (x := 129) (len := 3) (ci := 3) (k := 10) (pc' := 170) ja_okT mJ_319 (by decide +kernel) (by decide +kernel) (by decide +kernel) t1 rfl ?_
  refine nk_icmp (c := .ge) (off := 49) (len := 3) (t := 219) (pc' := 173) mJ_319 (by decide +kernel) (by decide +kernel) rfl (fun hc => ?_) (fun hc => ?_)
  · have hr := nk_ifp (c := (S.1 (S.2 l0 0) 10) ≤ l1) hc hr
    cases hr
    exact nk_vret (len := 1) mJ_319 (by decide +kernel) rfl
  · have hr := nk_ifn (c := (S.1 (S.2 l0 0) 10) ≤ l1) hc hr
    refine nk_p (i := .aload_n 0) (len := 1) (pc' := 174) mJ_319 (by decide +kernel) (ns_aload_n 0 rfl rfl) rfl ?_
    refine nk_getM (cj := 3) (z := 0) (x := 42) (len := 3) (ci := 4) (k := 0) (pc' := 177) ja_okT mJ_319 (by decide +kernel) (by decide +kernel) (by decide +kernel) t_l0 rfl (fun t2 => ?_)
    refine nk_getC (f := (4, 1, 54)) (x := 132) (len := 3) (ci := 3) (k := 11) (pc' := 180) ja_okT mJ_319 (by decide +kernel) (by decide +kernel) (by decide +kernel) (by decide) t2 rfl ?_
    have t3 : nk_ar ja_Tt (ja_c (S.2 l0 0) 11) = some (1, 54) := nk_ta ja_okT t2 (by decide +kernel)
    refine nk_p (i := .iload_n 1) (len := 1) (pc' := 181) mJ_319 (by decide +kernel) (ns_iload_n 1 rfl rfl) rfl ?_
    obtain ⟨h4, hr⟩ := nk_cke hr
    refine nk_iald (len := 1) (N := 54) (pc' := 182) mJ_319 (by decide +kernel) t3 h4.1 h4.2 rfl rfl ?_
    obtain ⟨r5, S6, h7, hr⟩ := nk_bde hr
    refine nk_callS (ci := 0) (n := 1) (x := 135) (len := 3) (j' := 255) (q' := 1) (r := r5) (S' := S6) (L2 := [(0, nk_i (S.1 (ja_c (S.2 l0 0) 11) l1.toNat))]) (rest := []) (st' := [nk_i r5]) (pc' := 185) mJ_319 (by decide +kernel) (by decide +kernel) (Nat.le_of_ble_eq_true rfl) rfl rfl (Nat.le_of_ble_eq_true rfl) mJ_255 (Nat.le_of_ble_eq_true rfl) ja_Tpos rfl (ja_X1_isArray_ok zs _ _ _ h7) rfl ?_
    refine nk_icond (c := .eq) (off := 28) (len := 3) (t := 213) (pc' := 188) mJ_319 (by decide +kernel) (by decide +kernel) rfl (fun hc => ?_) (fun hc => ?_)
    · have hr := nk_ifp (c := r5 = 0) hc hr
      obtain ⟨v8, h9, hr⟩ := nk_lte hr
      refine nk_p (i := .iinc 1 1) (len := 3) (pc' := 216) mJ_319 (by decide +kernel) (ns_iinc (c := 1) (L' := [(1, nk_i v8), (0, nk_r l0)]) 1 rfl (by decide +kernel) h9 rfl (by decide +kernel)) rfl ?_
      refine nk_p (i := .goto (-54)) (len := 3) (pc' := 162) mJ_319 (by decide +kernel) (ns_goto (by decide +kernel)) rfl ?_
      refine nk_sub [1, 0] (L' := [(0, nk_r l0), (1, nk_i v8)]) rfl ?_
      exact hrec162 _ _ _ _ t_l0 hr
    · have hr := nk_ifn (c := r5 = 0) hc hr
      refine nk_p (i := .aload_n 0) (len := 1) (pc' := 189) mJ_319 (by decide +kernel) (ns_aload_n 0 rfl rfl) rfl ?_
      refine nk_getC (f := (4, 2, 48)) (x := 39) (len := 3) (ci := 4) (k := 8) (pc' := 192) ja_okT mJ_319 (by decide +kernel) (by decide +kernel) (by decide +kernel) (by decide) t_l0 rfl ?_
      have t10 : nk_ar ja_Tt (ja_c l0 8) = some (2, 48) := nk_ta ja_okT t_l0 (by decide +kernel)
      refine nk_p (i := .iload_n 1) (len := 1) (pc' := 193) mJ_319 (by decide +kernel) (ns_iload_n 1 rfl rfl) rfl ?_
      refine nk_p (i := .aload_n 0) (len := 1) (pc' := 194) mJ_319 (by decide +kernel) (ns_aload_n 0 rfl rfl) rfl ?_
      refine nk_getM (cj := 3) (z := 0) (x := 42) (len := 3) (ci := 4) (k := 0) (pc' := 197) ja_okT mJ_319 (by decide +kernel) (by decide +kernel) (by decide +kernel) t_l0 rfl (fun t11 => ?_)
      refine nk_p (i := .aload_n 0) (len := 1) (pc' := 198) mJ_319 (by decide +kernel) (ns_aload_n 0 rfl rfl) rfl ?_
      refine nk_getM (cj := 3) (z := 0) (x := 42) (len := 3) (ci := 4) (k := 0) (pc' := 201) ja_okT mJ_319 (by decide +kernel) (by decide +kernel) (by decide +kernel) t_l0 rfl (fun t12 => ?_)
      refine nk_getC (f := (4, 1, 54)) (x := 132) (len := 3) (ci := 3) (k := 11) (pc' := 204) ja_okT mJ_319 (by decide +kernel) (by decide +kernel) (by decide +kernel) (by decide) t12 rfl ?_
      have t13 : nk_ar ja_Tt (ja_c (S6.2 l0 0) 11) = some (1, 54) := nk_ta ja_okT t12 (by decide +kernel)
      refine nk_p (i := .iload_n 1) (len := 1) (pc' := 205) mJ_319 (by decide +kernel) (ns_iload_n 1 rfl rfl) rfl ?_
      refine nk_iald (len := 1) (N := 54) (pc' := 206) mJ_319 (by decide +kernel) t13 h4.1 h4.2 rfl rfl ?_
      obtain ⟨r14, S15, h16, hr⟩ := nk_bde hr
      refine nk_callS (ci := 0) (n := 1) (x := 139) (len := 3) (j' := 251) (q' := 1) (r := r14) (S' := S15) (L2 := [(0, nk_i (S6.1 (ja_c (S6.2 l0 0) 11) l1.toNat))]) (rest := [nk_r (S6.2 l0 0), nk_i l1, nk_r (ja_c l0 8)]) (st' := [nk_i r14, nk_r (S6.2 l0 0), nk_i l1, nk_r (ja_c l0 8)]) (pc' := 209) mJ_319 (by decide +kernel) (by decide +kernel) (Nat.le_of_ble_eq_true rfl) rfl rfl (Nat.le_of_ble_eq_true rfl) mJ_251 (Nat.le_of_ble_eq_true rfl) ja_Tpos rfl (ja_X1_element_ok zs _ _ _ h16) rfl ?_
      obtain ⟨r17, S18, h19, hr⟩ := nk_bde hr
      refine nk_callV (ci := 3) (n := 1) (x := 116) (len := 3) (j' := 307) (q' := 2) (r := r17) (S' := S18) (L2 := [(0, nk_r (S6.2 l0 0)), (1, nk_i r14)]) (rest := [nk_i l1, nk_r (ja_c l0 8)]) (st' := [nk_l r17, nk_i l1, nk_r (ja_c l0 8)]) (pc' := 212) mJ_319 (by decide +kernel) (by decide +kernel) rfl rfl t12 (Nat.le_of_ble_eq_true rfl) mJ_307 (Nat.le_of_ble_eq_true rfl) rfl (ja_X3_sitesBelow_ok zs _ _ _ _ t12 h19) rfl ?_
      obtain ⟨h20, hr⟩ := nk_cke hr
      obtain ⟨S21, h22, hr⟩ := nk_lte hr
      refine nk_last (len := 1) (N := 48) (pc' := 213) mJ_319 (by decide +kernel) t10 h20.1 h20.2 rfl rfl h22 ?_
      obtain ⟨v23, h24, hr⟩ := nk_lte hr
      refine nk_p (i := .iinc 1 1) (len := 3) (pc' := 216) mJ_319 (by decide +kernel) (ns_iinc (c := 1) (L' := [(1, nk_i v23), (0, nk_r l0)]) 1 rfl (by decide +kernel) h24 rfl (by decide +kernel)) rfl ?_
      refine nk_p (i := .goto (-54)) (len := 3) (pc' := 162) mJ_319 (by decide +kernel) (ns_goto (by decide +kernel)) rfl ?_
      refine nk_sub [1, 0] (L' := [(0, nk_r l0), (1, nk_i v23)]) rfl ?_
      exact hrec162 _ _ _ _ t_l0 hr
noncomputable def ja_X4_findSuiting_L162 : Nat → Nat → Int → nk_S → Option (Int × nk_S)
  | 0, _, _, _ => none
  | n + 1, l0, l1, S => ja_X4_findSuiting_b162 (ja_X4_findSuiting_L162 n) l0 l1 S
theorem ja_X4_findSuiting_L162_ok (zs : List Int32) : ∀ n : Nat, ∀ (l0 : Nat) (l1 : Int) (S : nk_S) (R : Int × nk_S), nk_cl ja_Tt l0 = some 4 → ja_X4_findSuiting_L162 n l0 l1 S = some R → nk_K ja_Tt mi_Γ (mi_ev zs) 0 319 162 [(0, nk_r l0), (1, nk_i l1)] [] S R := by
  intro n
  induction n with
  | zero => intro _ _ _ _ _ hr; cases hr
  | succ n ih => intro l0 l1 S R t_l0 hr; exact ja_X4_findSuiting_b162_ok zs ih l0 l1 S R t_l0 hr
noncomputable def ja_X4_findSuiting_b117 (rec117 : Nat → Int → nk_S → Option (Int × nk_S)) (l0 : Nat) (l1 : Int) (S : nk_S) : Option (Int × nk_S) :=
  if (S.1 (S.2 l0 0) 12) ≤ l1 then
    ja_X4_findSuiting_L162 nk_big l0 0 S
  else
    if 0 ≤ l1 ∧ l1 < 64 then
    nk_bd (ja_X3_sitesBelow (S.2 l0 0) (nk_w (4 + (nk_w (2 * (S.1 (ja_c (S.2 l0 0) 16) l1.toNat))))) S) fun r7 S8 =>
    nk_lt (nk_wi S8 (ja_c l0 7) l1.toNat r7) fun S10 =>
    nk_lt (nk_w (l1 + 1)) fun v12 =>
    rec117 l0 v12 S10
    else none
theorem ja_X4_findSuiting_b117_ok (zs : List Int32) {rec117 : Nat → Int → nk_S → Option (Int × nk_S)} (hrec117 : ∀ (l0 : Nat) (l1 : Int) (S : nk_S) (R : Int × nk_S), nk_cl ja_Tt l0 = some 4 → rec117 l0 l1 S = some R → nk_K ja_Tt mi_Γ (mi_ev zs) 0 319 117 [(0, nk_r l0), (1, nk_i l1)] [] S R) : ∀ (l0 : Nat) (l1 : Int) (S : nk_S) (R : Int × nk_S), nk_cl ja_Tt l0 = some 4 → ja_X4_findSuiting_b117 rec117 l0 l1 S = some R → nk_K ja_Tt mi_Γ (mi_ev zs) 0 319 117 [(0, nk_r l0), (1, nk_i l1)] [] S R := by
  intro l0 l1 S R t_l0 hr
  unfold ja_X4_findSuiting_b117 at hr
  refine nk_p (i := .iload_n 1) (len := 1) (pc' := 118) mJ_319 (by decide +kernel) (ns_iload_n 1 rfl rfl) rfl ?_
  refine nk_p (i := .aload_n 0) (len := 1) (pc' := 119) mJ_319 (by decide +kernel) (ns_aload_n 0 rfl rfl) rfl ?_
  refine nk_getM (cj := 3) (z := 0) (x := 42) (len := 3) (ci := 4) (k := 0) (pc' := 122) ja_okT mJ_319 (by decide +kernel) (by decide +kernel) (by decide +kernel) t_l0 rfl (fun t1 => ?_)
  refine nk_getI (y := (0, 0)) (x := 123) (len := 3) (ci := 3) (k := 12) (pc' := 125) ja_okT mJ_319 (by decide +kernel) (by decide +kernel) (by decide +kernel) t1 rfl ?_
  refine nk_icmp (c := .ge) (off := 35) (len := 3) (t := 160) (pc' := 128) mJ_319 (by decide +kernel) (by decide +kernel) rfl (fun hc => ?_) (fun hc => ?_)
  · have hr := nk_ifp (c := (S.1 (S.2 l0 0) 12) ≤ l1) hc hr
    refine nk_p (i := .iconst 0) (len := 1) (pc' := 161) mJ_319 (by decide +kernel) (ns_iconst (c := 0) (by decide +kernel)) rfl ?_
    refine nk_p (i := .istore_n 1) (len := 1) (pc' := 162) mJ_319 (by decide +kernel) (ns_istore_n (L' := [(1, nk_i 0), (0, nk_r l0)]) rfl rfl rfl (by decide +kernel)) rfl ?_
    refine nk_sub [1, 0] (L' := [(0, nk_r l0), (1, nk_i 0)]) rfl ?_
    exact ja_X4_findSuiting_L162_ok zs nk_big _ _ _ _ t_l0 hr
  · have hr := nk_ifn (c := (S.1 (S.2 l0 0) 12) ≤ l1) hc hr
    refine nk_p (i := .aload_n 0) (len := 1) (pc' := 129) mJ_319 (by decide +kernel) (ns_aload_n 0 rfl rfl) rfl ?_
    refine nk_getC (f := (4, 2, 64)) (x := 36) (len := 3) (ci := 4) (k := 7) (pc' := 132) ja_okT mJ_319 (by decide +kernel) (by decide +kernel) (by decide +kernel) (by decide) t_l0 rfl ?_
    have t2 : nk_ar ja_Tt (ja_c l0 7) = some (2, 64) := nk_ta ja_okT t_l0 (by decide +kernel)
    refine nk_p (i := .iload_n 1) (len := 1) (pc' := 133) mJ_319 (by decide +kernel) (ns_iload_n 1 rfl rfl) rfl ?_
    refine nk_p (i := .aload_n 0) (len := 1) (pc' := 134) mJ_319 (by decide +kernel) (ns_aload_n 0 rfl rfl) rfl ?_
    refine nk_getM (cj := 3) (z := 0) (x := 42) (len := 3) (ci := 4) (k := 0) (pc' := 137) ja_okT mJ_319 (by decide +kernel) (by decide +kernel) (by decide +kernel) t_l0 rfl (fun t3 => ?_)
    refine nk_p (i := .iconst 4) (len := 1) (pc' := 138) mJ_319 (by decide +kernel) (ns_iconst (c := 4) (by decide +kernel)) rfl ?_
    refine nk_p (i := .iconst 2) (len := 1) (pc' := 139) mJ_319 (by decide +kernel) (ns_iconst (c := 2) (by decide +kernel)) rfl ?_
    refine nk_p (i := .aload_n 0) (len := 1) (pc' := 140) mJ_319 (by decide +kernel) (ns_aload_n 0 rfl rfl) rfl ?_
    refine nk_getM (cj := 3) (z := 0) (x := 42) (len := 3) (ci := 4) (k := 0) (pc' := 143) ja_okT mJ_319 (by decide +kernel) (by decide +kernel) (by decide +kernel) t_l0 rfl (fun t4 => ?_)
    refine nk_getC (f := (4, 1, 64)) (x := 126) (len := 3) (ci := 3) (k := 16) (pc' := 146) ja_okT mJ_319 (by decide +kernel) (by decide +kernel) (by decide +kernel) (by decide) t4 rfl ?_
    have t5 : nk_ar ja_Tt (ja_c (S.2 l0 0) 16) = some (1, 64) := nk_ta ja_okT t4 (by decide +kernel)
    refine nk_p (i := .iload_n 1) (len := 1) (pc' := 147) mJ_319 (by decide +kernel) (ns_iload_n 1 rfl rfl) rfl ?_
    obtain ⟨h6, hr⟩ := nk_cke hr
    refine nk_iald (len := 1) (N := 64) (pc' := 148) mJ_319 (by decide +kernel) t5 h6.1 h6.2 rfl rfl ?_
    refine nk_p (i := .imul) (len := 1) (pc' := 149) mJ_319 (by decide +kernel) ns_imul rfl ?_
    refine nk_p (i := .iadd) (len := 1) (pc' := 150) mJ_319 (by decide +kernel) ns_iadd rfl ?_
    obtain ⟨r7, S8, h9, hr⟩ := nk_bde hr
    refine nk_callV (ci := 3) (n := 1) (x := 116) (len := 3) (j' := 307) (q' := 2) (r := r7) (S' := S8) (L2 := [(0, nk_r (S.2 l0 0)), (1, nk_i (nk_w (4 + (nk_w (2 * (S.1 (ja_c (S.2 l0 0) 16) l1.toNat))))))]) (rest := [nk_i l1, nk_r (ja_c l0 7)]) (st' := [nk_l r7, nk_i l1, nk_r (ja_c l0 7)]) (pc' := 153) mJ_319 (by decide +kernel) (by decide +kernel) rfl rfl t4 (Nat.le_of_ble_eq_true rfl) mJ_307 (Nat.le_of_ble_eq_true rfl) rfl (ja_X3_sitesBelow_ok zs _ _ _ _ t4 h9) rfl ?_
    obtain ⟨S10, h11, hr⟩ := nk_lte hr
    refine nk_last (len := 1) (N := 64) (pc' := 154) mJ_319 (by decide +kernel) t2 h6.1 h6.2 rfl rfl h11 ?_
    obtain ⟨v12, h13, hr⟩ := nk_lte hr
    refine nk_p (i := .iinc 1 1) (len := 3) (pc' := 157) mJ_319 (by decide +kernel) (ns_iinc (c := 1) (L' := [(1, nk_i v12), (0, nk_r l0)]) 1 rfl (by decide +kernel) h13 rfl (by decide +kernel)) rfl ?_
    refine nk_p (i := .goto (-40)) (len := 3) (pc' := 117) mJ_319 (by decide +kernel) (ns_goto (by decide +kernel)) rfl ?_
    refine nk_sub [1, 0] (L' := [(0, nk_r l0), (1, nk_i v12)]) rfl ?_
    exact hrec117 _ _ _ _ t_l0 hr
noncomputable def ja_X4_findSuiting_L117 : Nat → Nat → Int → nk_S → Option (Int × nk_S)
  | 0, _, _, _ => none
  | n + 1, l0, l1, S => ja_X4_findSuiting_b117 (ja_X4_findSuiting_L117 n) l0 l1 S
theorem ja_X4_findSuiting_L117_ok (zs : List Int32) : ∀ n : Nat, ∀ (l0 : Nat) (l1 : Int) (S : nk_S) (R : Int × nk_S), nk_cl ja_Tt l0 = some 4 → ja_X4_findSuiting_L117 n l0 l1 S = some R → nk_K ja_Tt mi_Γ (mi_ev zs) 0 319 117 [(0, nk_r l0), (1, nk_i l1)] [] S R := by
  intro n
  induction n with
  | zero => intro _ _ _ _ _ hr; cases hr
  | succ n ih => intro l0 l1 S R t_l0 hr; exact ja_X4_findSuiting_b117_ok zs ih l0 l1 S R t_l0 hr
noncomputable def ja_X4_findSuiting_b98 (rec2 : Nat → Int → nk_S → Option (Int × nk_S)) (l0 : Nat) (l1 : Int) (S : nk_S) : Option (Int × nk_S) :=
  nk_bd (ja_X4_bodiesMeant l0 l1 S) fun r2 S3 =>
  if 0 ≤ l1 ∧ l1 < 1024 then
  nk_lt (nk_wi S3 (ja_c l0 6) l1.toNat r2) fun S6 =>
  nk_lt (nk_w (l1 + 1)) fun v8 =>
  rec2 l0 v8 S6
  else none
theorem ja_X4_findSuiting_b98_ok (zs : List Int32) {rec2 : Nat → Int → nk_S → Option (Int × nk_S)} (hrec2 : ∀ (l0 : Nat) (l1 : Int) (S : nk_S) (R : Int × nk_S), nk_cl ja_Tt l0 = some 4 → rec2 l0 l1 S = some R → nk_K ja_Tt mi_Γ (mi_ev zs) 0 319 2 [(0, nk_r l0), (1, nk_i l1)] [] S R) : ∀ (l0 : Nat) (l1 : Int) (S : nk_S) (R : Int × nk_S), nk_cl ja_Tt l0 = some 4 → ja_X4_findSuiting_b98 rec2 l0 l1 S = some R → nk_K ja_Tt mi_Γ (mi_ev zs) 0 319 98 [(0, nk_r l0), (1, nk_i l1)] [] S R := by
  intro l0 l1 S R t_l0 hr
  unfold ja_X4_findSuiting_b98 at hr
  refine nk_p (i := .aload_n 0) (len := 1) (pc' := 99) mJ_319 (by decide +kernel) (ns_aload_n 0 rfl rfl) rfl ?_
  refine nk_getC (f := (4, 2, 1024)) (x := 33) (len := 3) (ci := 4) (k := 6) (pc' := 102) ja_okT mJ_319 (by decide +kernel) (by decide +kernel) (by decide +kernel) (by decide) t_l0 rfl ?_
  have t1 : nk_ar ja_Tt (ja_c l0 6) = some (2, 1024) := nk_ta ja_okT t_l0 (by decide +kernel)
  refine nk_p (i := .iload_n 1) (len := 1) (pc' := 103) mJ_319 (by decide +kernel) (ns_iload_n 1 rfl rfl) rfl ?_
  refine nk_p (i := .aload_n 0) (len := 1) (pc' := 104) mJ_319 (by decide +kernel) (ns_aload_n 0 rfl rfl) rfl ?_
  refine nk_p (i := .iload_n 1) (len := 1) (pc' := 105) mJ_319 (by decide +kernel) (ns_iload_n 1 rfl rfl) rfl ?_
  obtain ⟨r2, S3, h4, hr⟩ := nk_bde hr
  refine nk_callV (ci := 4) (n := 1) (x := 120) (len := 3) (j' := 310) (q' := 2) (r := r2) (S' := S3) (L2 := [(0, nk_r l0), (1, nk_i l1)]) (rest := [nk_i l1, nk_r (ja_c l0 6)]) (st' := [nk_l r2, nk_i l1, nk_r (ja_c l0 6)]) (pc' := 108) mJ_319 (by decide +kernel) (by decide +kernel) rfl rfl t_l0 (Nat.le_of_ble_eq_true rfl) mJ_310 (Nat.le_of_ble_eq_true rfl) rfl (ja_X4_bodiesMeant_ok zs _ _ _ _ t_l0 h4) rfl ?_
  obtain ⟨h5, hr⟩ := nk_cke hr
  obtain ⟨S6, h7, hr⟩ := nk_lte hr
  refine nk_last (len := 1) (N := 1024) (pc' := 109) mJ_319 (by decide +kernel) t1 h5.1 h5.2 rfl rfl h7 ?_
  obtain ⟨v8, h9, hr⟩ := nk_lte hr
  refine nk_p (i := .iinc 1 1) (len := 3) (pc' := 112) mJ_319 (by decide +kernel) (ns_iinc (c := 1) (L' := [(1, nk_i v8), (0, nk_r l0)]) 1 rfl (by decide +kernel) h9 rfl (by decide +kernel)) rfl ?_
  refine nk_p (i := .goto (-110)) (len := 3) (pc' := 2) mJ_319 (by decide +kernel) (ns_goto (by decide +kernel)) rfl ?_
  refine nk_sub [1, 0] (L' := [(0, nk_r l0), (1, nk_i v8)]) rfl ?_
  exact hrec2 _ _ _ _ t_l0 hr
noncomputable def ja_X4_findSuiting_b2 (rec2 : Nat → Int → nk_S → Option (Int × nk_S)) (l0 : Nat) (l1 : Int) (S : nk_S) : Option (Int × nk_S) :=
  if (S.1 (S.2 l0 0) 3) ≤ l1 then
    ja_X4_findSuiting_L117 nk_big l0 0 S
  else
    if 0 ≤ l1 ∧ l1 < 1024 then
    nk_lt (nk_wi S (ja_c l0 4) l1.toNat 0) fun S4 =>
    nk_lt (nk_wi S4 (ja_c l0 5) l1.toNat 0) fun S7 =>
    if 0 ≤ (S7.1 (ja_c (S7.2 l0 0) 4) l1.toNat) ∧ (S7.1 (ja_c (S7.2 l0 0) 4) l1.toNat) < 46 then
    if (((ja_ob 45).getD (S7.1 (ja_c (S7.2 l0 0) 4) l1.toNat).toNat 0).toInt) = 7 then
      nk_bd (ja_X3_sitesBelow (S7.2 l0 0) (S7.1 (ja_c (S7.2 l0 0) 5) l1.toNat) S7) fun r20 S21 =>
      nk_lt (nk_wi S21 (ja_c l0 6) l1.toNat r20) fun S23 =>
      nk_lt (nk_w (l1 + 1)) fun v25 =>
      rec2 l0 v25 S23
    else
      if (S7.1 (ja_c (S7.2 l0 0) 4) l1.toNat) = 39 then
        ja_X4_findSuiting_b98 rec2 l0 l1 S7
      else
        if (S7.1 (ja_c (S7.2 l0 0) 4) l1.toNat) = 40 then
          ja_X4_findSuiting_b98 rec2 l0 l1 S7
        else
          nk_lt (nk_w (l1 + 1)) fun v14 =>
          rec2 l0 v14 S7
    else none
    else none
theorem ja_X4_findSuiting_b2_ok (zs : List Int32) {rec2 : Nat → Int → nk_S → Option (Int × nk_S)} (hrec2 : ∀ (l0 : Nat) (l1 : Int) (S : nk_S) (R : Int × nk_S), nk_cl ja_Tt l0 = some 4 → rec2 l0 l1 S = some R → nk_K ja_Tt mi_Γ (mi_ev zs) 0 319 2 [(0, nk_r l0), (1, nk_i l1)] [] S R) : ∀ (l0 : Nat) (l1 : Int) (S : nk_S) (R : Int × nk_S), nk_cl ja_Tt l0 = some 4 → ja_X4_findSuiting_b2 rec2 l0 l1 S = some R → nk_K ja_Tt mi_Γ (mi_ev zs) 0 319 2 [(0, nk_r l0), (1, nk_i l1)] [] S R := by
  intro l0 l1 S R t_l0 hr
  unfold ja_X4_findSuiting_b2 at hr
  refine nk_p (i := .iload_n 1) (len := 1) (pc' := 3) mJ_319 (by decide +kernel) (ns_iload_n 1 rfl rfl) rfl ?_
  refine nk_p (i := .aload_n 0) (len := 1) (pc' := 4) mJ_319 (by decide +kernel) (ns_aload_n 0 rfl rfl) rfl ?_
  refine nk_getM (cj := 3) (z := 0) (x := 42) (len := 3) (ci := 4) (k := 0) (pc' := 7) ja_okT mJ_319 (by decide +kernel) (by decide +kernel) (by decide +kernel) t_l0 rfl (fun t1 => ?_)
  refine nk_getI (y := (0, 0)) (x := 104) (len := 3) (ci := 3) (k := 3) (pc' := 10) ja_okT mJ_319 (by decide +kernel) (by decide +kernel) (by decide +kernel) t1 rfl ?_
  refine nk_icmp (c := .ge) (off := 105) (len := 3) (t := 115) (pc' := 13) mJ_319 (by decide +kernel) (by decide +kernel) rfl (fun hc => ?_) (fun hc => ?_)
  · have hr := nk_ifp (c := (S.1 (S.2 l0 0) 3) ≤ l1) hc hr
    refine nk_p (i := .iconst 0) (len := 1) (pc' := 116) mJ_319 (by decide +kernel) (ns_iconst (c := 0) (by decide +kernel)) rfl ?_
    refine nk_p (i := .istore_n 1) (len := 1) (pc' := 117) mJ_319 (by decide +kernel) (ns_istore_n (L' := [(1, nk_i 0), (0, nk_r l0)]) rfl rfl rfl (by decide +kernel)) rfl ?_
    refine nk_sub [1, 0] (L' := [(0, nk_r l0), (1, nk_i 0)]) rfl ?_
    exact ja_X4_findSuiting_L117_ok zs nk_big _ _ _ _ t_l0 hr
  · have hr := nk_ifn (c := (S.1 (S.2 l0 0) 3) ≤ l1) hc hr
    refine nk_p (i := .aload_n 0) (len := 1) (pc' := 14) mJ_319 (by decide +kernel) (ns_aload_n 0 rfl rfl) rfl ?_
    refine nk_getC (f := (4, 1, 1024)) (x := 25) (len := 3) (ci := 4) (k := 4) (pc' := 17) ja_okT mJ_319 (by decide +kernel) (by decide +kernel) (by decide +kernel) (by decide) t_l0 rfl ?_
    have t2 : nk_ar ja_Tt (ja_c l0 4) = some (1, 1024) := nk_ta ja_okT t_l0 (by decide +kernel)
    refine nk_p (i := .iload_n 1) (len := 1) (pc' := 18) mJ_319 (by decide +kernel) (ns_iload_n 1 rfl rfl) rfl ?_
    refine nk_p (i := .iconst 0) (len := 1) (pc' := 19) mJ_319 (by decide +kernel) (ns_iconst (c := 0) (by decide +kernel)) rfl ?_
    obtain ⟨h3, hr⟩ := nk_cke hr
    obtain ⟨S4, h5, hr⟩ := nk_lte hr
    refine nk_iast (len := 1) (N := 1024) (pc' := 20) mJ_319 (by decide +kernel) t2 h3.1 h3.2 rfl rfl h5 ?_
    refine nk_p (i := .aload_n 0) (len := 1) (pc' := 21) mJ_319 (by decide +kernel) (ns_aload_n 0 rfl rfl) rfl ?_
    refine nk_getC (f := (4, 2, 1024)) (x := 29) (len := 3) (ci := 4) (k := 5) (pc' := 24) ja_okT mJ_319 (by decide +kernel) (by decide +kernel) (by decide +kernel) (by decide) t_l0 rfl ?_
    have t6 : nk_ar ja_Tt (ja_c l0 5) = some (2, 1024) := nk_ta ja_okT t_l0 (by decide +kernel)
    refine nk_p (i := .iload_n 1) (len := 1) (pc' := 25) mJ_319 (by decide +kernel) (ns_iload_n 1 rfl rfl) rfl ?_
    refine nk_p (i := .lconst 0) (len := 1) (pc' := 26) mJ_319 (by decide +kernel) (ns_lconst (c := 0) (by decide +kernel)) rfl ?_
    obtain ⟨S7, h8, hr⟩ := nk_lte hr
    refine nk_last (len := 1) (N := 1024) (pc' := 27) mJ_319 (by decide +kernel) t6 h3.1 h3.2 rfl rfl h8 ?_
    refine nk_gsto (x := 107) (len := 3) (pc' := 30) (s1 := "SafeCode") (s2 := "OPERANDS") (s3 := "[I") (k := 45) mJ_319 (by decide +kernel) (by decide +kernel) rfl ?_
    refine nk_p (i := .aload_n 0) (len := 1) (pc' := 31) mJ_319 (by decide +kernel) (ns_aload_n 0 rfl rfl) rfl ?_
    refine nk_getM (cj := 3) (z := 0) (x := 42) (len := 3) (ci := 4) (k := 0) (pc' := 34) ja_okT mJ_319 (by decide +kernel) (by decide +kernel) (by decide +kernel) t_l0 rfl (fun t9 => ?_)
    refine nk_getC (f := (4, 1, 1024)) (x := 110) (len := 3) (ci := 3) (k := 4) (pc' := 37) ja_okT mJ_319 (by decide +kernel) (by decide +kernel) (by decide +kernel) (by decide) t9 rfl ?_
    have t10 : nk_ar ja_Tt (ja_c (S7.2 l0 0) 4) = some (1, 1024) := nk_ta ja_okT t9 (by decide +kernel)
    refine nk_p (i := .iload_n 1) (len := 1) (pc' := 38) mJ_319 (by decide +kernel) (ns_iload_n 1 rfl rfl) rfl ?_
    refine nk_iald (len := 1) (N := 1024) (pc' := 39) mJ_319 (by decide +kernel) t10 h3.1 h3.2 rfl rfl ?_
    obtain ⟨h11, hr⟩ := nk_cke hr
    refine nk_oiald (len := 1) (xs := ja_ob 45) (N := 46) (pc' := 40) mJ_319 (by decide +kernel) rfl h11.1 h11.2 rfl rfl ?_
    refine nk_p (i := .bipush 7) (len := 2) (pc' := 42) mJ_319 (by decide +kernel) (ns_bipush (c := 7) (by decide +kernel)) rfl ?_
    refine nk_icmp (c := .ne) (off := 28) (len := 3) (t := 70) (pc' := 45) mJ_319 (by decide +kernel) (by decide +kernel) rfl (fun hc => ?_) (fun hc => ?_)
    · have hr := nk_ifn (c := (((ja_ob 45).getD (S7.1 (ja_c (S7.2 l0 0) 4) l1.toNat).toNat 0).toInt) = 7) hc hr
      refine nk_p (i := .aload_n 0) (len := 1) (pc' := 71) mJ_319 (by decide +kernel) (ns_aload_n 0 rfl rfl) rfl ?_
      refine nk_getM (cj := 3) (z := 0) (x := 42) (len := 3) (ci := 4) (k := 0) (pc' := 74) ja_okT mJ_319 (by decide +kernel) (by decide +kernel) (by decide +kernel) t_l0 rfl (fun t12 => ?_)
      refine nk_getC (f := (4, 1, 1024)) (x := 110) (len := 3) (ci := 3) (k := 4) (pc' := 77) ja_okT mJ_319 (by decide +kernel) (by decide +kernel) (by decide +kernel) (by decide) t12 rfl ?_
      refine nk_p (i := .iload_n 1) (len := 1) (pc' := 78) mJ_319 (by decide +kernel) (ns_iload_n 1 rfl rfl) rfl ?_
      refine nk_iald (len := 1) (N := 1024) (pc' := 79) mJ_319 (by decide +kernel) t10 h3.1 h3.2 rfl rfl ?_
      refine nk_p (i := .bipush 39) (len := 2) (pc' := 81) mJ_319 (by decide +kernel) (ns_bipush (c := 39) (by decide +kernel)) rfl ?_
      refine nk_icmp (c := .eq) (off := 17) (len := 3) (t := 98) (pc' := 84) mJ_319 (by decide +kernel) (by decide +kernel) rfl (fun hc => ?_) (fun hc => ?_)
      · have hr := nk_ifp (c := (S7.1 (ja_c (S7.2 l0 0) 4) l1.toNat) = 39) hc hr
        exact ja_X4_findSuiting_b98_ok zs hrec2 _ _ _ _ t_l0 hr
      · have hr := nk_ifn (c := (S7.1 (ja_c (S7.2 l0 0) 4) l1.toNat) = 39) hc hr
        refine nk_p (i := .aload_n 0) (len := 1) (pc' := 85) mJ_319 (by decide +kernel) (ns_aload_n 0 rfl rfl) rfl ?_
        refine nk_getM (cj := 3) (z := 0) (x := 42) (len := 3) (ci := 4) (k := 0) (pc' := 88) ja_okT mJ_319 (by decide +kernel) (by decide +kernel) (by decide +kernel) t_l0 rfl (fun t13 => ?_)
        refine nk_getC (f := (4, 1, 1024)) (x := 110) (len := 3) (ci := 3) (k := 4) (pc' := 91) ja_okT mJ_319 (by decide +kernel) (by decide +kernel) (by decide +kernel) (by decide) t13 rfl ?_
        refine nk_p (i := .iload_n 1) (len := 1) (pc' := 92) mJ_319 (by decide +kernel) (ns_iload_n 1 rfl rfl) rfl ?_
        refine nk_iald (len := 1) (N := 1024) (pc' := 93) mJ_319 (by decide +kernel) t10 h3.1 h3.2 rfl rfl ?_
        refine nk_p (i := .bipush 40) (len := 2) (pc' := 95) mJ_319 (by decide +kernel) (ns_bipush (c := 40) (by decide +kernel)) rfl ?_
        refine nk_icmp (c := .ne) (off := 14) (len := 3) (t := 109) (pc' := 98) mJ_319 (by decide +kernel) (by decide +kernel) rfl (fun hc => ?_) (fun hc => ?_)
        · have hr := nk_ifn (c := (S7.1 (ja_c (S7.2 l0 0) 4) l1.toNat) = 40) hc hr
          obtain ⟨v14, h15, hr⟩ := nk_lte hr
          refine nk_p (i := .iinc 1 1) (len := 3) (pc' := 112) mJ_319 (by decide +kernel) (ns_iinc (c := 1) (L' := [(1, nk_i v14), (0, nk_r l0)]) 1 rfl (by decide +kernel) h15 rfl (by decide +kernel)) rfl ?_
          refine nk_p (i := .goto (-110)) (len := 3) (pc' := 2) mJ_319 (by decide +kernel) (ns_goto (by decide +kernel)) rfl ?_
          refine nk_sub [1, 0] (L' := [(0, nk_r l0), (1, nk_i v14)]) rfl ?_
          exact hrec2 _ _ _ _ t_l0 hr
        · have hr := nk_ifp (c := (S7.1 (ja_c (S7.2 l0 0) 4) l1.toNat) = 40) (Decidable.of_not_not hc) hr
          exact ja_X4_findSuiting_b98_ok zs hrec2 _ _ _ _ t_l0 hr
    · have hr := nk_ifp (c := (((ja_ob 45).getD (S7.1 (ja_c (S7.2 l0 0) 4) l1.toNat).toNat 0).toInt) = 7) (Decidable.of_not_not hc) hr
      refine nk_p (i := .aload_n 0) (len := 1) (pc' := 46) mJ_319 (by decide +kernel) (ns_aload_n 0 rfl rfl) rfl ?_
      refine nk_getC (f := (4, 2, 1024)) (x := 33) (len := 3) (ci := 4) (k := 6) (pc' := 49) ja_okT mJ_319 (by decide +kernel) (by decide +kernel) (by decide +kernel) (by decide) t_l0 rfl ?_
      have t16 : nk_ar ja_Tt (ja_c l0 6) = some (2, 1024) := nk_ta ja_okT t_l0 (by decide +kernel)
      refine nk_p (i := .iload_n 1) (len := 1) (pc' := 50) mJ_319 (by decide +kernel) (ns_iload_n 1 rfl rfl) rfl ?_
      refine nk_p (i := .aload_n 0) (len := 1) (pc' := 51) mJ_319 (by decide +kernel) (ns_aload_n 0 rfl rfl) rfl ?_
      refine nk_getM (cj := 3) (z := 0) (x := 42) (len := 3) (ci := 4) (k := 0) (pc' := 54) ja_okT mJ_319 (by decide +kernel) (by decide +kernel) (by decide +kernel) t_l0 rfl (fun t17 => ?_)
      refine nk_p (i := .aload_n 0) (len := 1) (pc' := 55) mJ_319 (by decide +kernel) (ns_aload_n 0 rfl rfl) rfl ?_
      refine nk_getM (cj := 3) (z := 0) (x := 42) (len := 3) (ci := 4) (k := 0) (pc' := 58) ja_okT mJ_319 (by decide +kernel) (by decide +kernel) (by decide +kernel) t_l0 rfl (fun t18 => ?_)
      refine nk_getC (f := (4, 1, 1024)) (x := 113) (len := 3) (ci := 3) (k := 5) (pc' := 61) ja_okT mJ_319 (by decide +kernel) (by decide +kernel) (by decide +kernel) (by decide) t18 rfl ?_
      have t19 : nk_ar ja_Tt (ja_c (S7.2 l0 0) 5) = some (1, 1024) := nk_ta ja_okT t18 (by decide +kernel)
      refine nk_p (i := .iload_n 1) (len := 1) (pc' := 62) mJ_319 (by decide +kernel) (ns_iload_n 1 rfl rfl) rfl ?_
      refine nk_iald (len := 1) (N := 1024) (pc' := 63) mJ_319 (by decide +kernel) t19 h3.1 h3.2 rfl rfl ?_
      obtain ⟨r20, S21, h22, hr⟩ := nk_bde hr
      refine nk_callV (ci := 3) (n := 1) (x := 116) (len := 3) (j' := 307) (q' := 2) (r := r20) (S' := S21) (L2 := [(0, nk_r (S7.2 l0 0)), (1, nk_i (S7.1 (ja_c (S7.2 l0 0) 5) l1.toNat))]) (rest := [nk_i l1, nk_r (ja_c l0 6)]) (st' := [nk_l r20, nk_i l1, nk_r (ja_c l0 6)]) (pc' := 66) mJ_319 (by decide +kernel) (by decide +kernel) rfl rfl t18 (Nat.le_of_ble_eq_true rfl) mJ_307 (Nat.le_of_ble_eq_true rfl) rfl (ja_X3_sitesBelow_ok zs _ _ _ _ t18 h22) rfl ?_
      obtain ⟨S23, h24, hr⟩ := nk_lte hr
      refine nk_last (len := 1) (N := 1024) (pc' := 67) mJ_319 (by decide +kernel) t16 h3.1 h3.2 rfl rfl h24 ?_
      refine nk_p (i := .goto 42) (len := 3) (pc' := 109) mJ_319 (by decide +kernel) (ns_goto (by decide +kernel)) rfl ?_
      obtain ⟨v25, h26, hr⟩ := nk_lte hr
      refine nk_p (i := .iinc 1 1) (len := 3) (pc' := 112) mJ_319 (by decide +kernel) (ns_iinc (c := 1) (L' := [(1, nk_i v25), (0, nk_r l0)]) 1 rfl (by decide +kernel) h26 rfl (by decide +kernel)) rfl ?_
      refine nk_p (i := .goto (-110)) (len := 3) (pc' := 2) mJ_319 (by decide +kernel) (ns_goto (by decide +kernel)) rfl ?_
      refine nk_sub [1, 0] (L' := [(0, nk_r l0), (1, nk_i v25)]) rfl ?_
      exact hrec2 _ _ _ _ t_l0 hr
noncomputable def ja_X4_findSuiting_L2 : Nat → Nat → Int → nk_S → Option (Int × nk_S)
  | 0, _, _, _ => none
  | n + 1, l0, l1, S => ja_X4_findSuiting_b2 (ja_X4_findSuiting_L2 n) l0 l1 S
theorem ja_X4_findSuiting_L2_ok (zs : List Int32) : ∀ n : Nat, ∀ (l0 : Nat) (l1 : Int) (S : nk_S) (R : Int × nk_S), nk_cl ja_Tt l0 = some 4 → ja_X4_findSuiting_L2 n l0 l1 S = some R → nk_K ja_Tt mi_Γ (mi_ev zs) 0 319 2 [(0, nk_r l0), (1, nk_i l1)] [] S R := by
  intro n
  induction n with
  | zero => intro _ _ _ _ _ hr; cases hr
  | succ n ih => intro l0 l1 S R t_l0 hr; exact ja_X4_findSuiting_b2_ok zs ih l0 l1 S R t_l0 hr
noncomputable def ja_X4_findSuiting (l0 : Nat) (S : nk_S) : Option (Int × nk_S) :=
  ja_X4_findSuiting_L2 nk_big l0 0 S
theorem ja_X4_findSuiting_ok (zs : List Int32) : ∀ (l0 : Nat) (S : nk_S) (R : Int × nk_S), nk_cl ja_Tt l0 = some 4 → ja_X4_findSuiting l0 S = some R → nk_K ja_Tt mi_Γ (mi_ev zs) 0 319 0 [(0, nk_r l0)] [] S R := by
  intro l0 S R t_l0 hr
  unfold ja_X4_findSuiting at hr
  refine nk_p (i := .iconst 0) (len := 1) (pc' := 1) mJ_319 (by decide +kernel) (ns_iconst (c := 0) (by decide +kernel)) rfl ?_
  refine nk_p (i := .istore_n 1) (len := 1) (pc' := 2) mJ_319 (by decide +kernel) (ns_istore_n (L' := [(1, nk_i 0), (0, nk_r l0)]) rfl rfl rfl (by decide +kernel)) rfl ?_
  refine nk_sub [1, 0] (L' := [(0, nk_r l0), (1, nk_i 0)]) rfl ?_
  exact ja_X4_findSuiting_L2_ok zs nk_big _ _ _ _ t_l0 hr
/-! SafeCode$Ranges join (JJ)J -/
noncomputable def ja_X5_join_b54 (s0 : Int) (s1 : Int) (S : nk_S) : Option (Int × nk_S) :=
  some ((nk_lor s0 (nk_land s1 4294967295)), S)
theorem ja_X5_join_b54_ok (zs : List Int32) : ∀ (s0 : Int) (s1 : Int) (S : nk_S) (R : Int × nk_S), ja_X5_join_b54 s0 s1 S = some R → nk_K ja_Tt mi_Γ (mi_ev zs) 2 362 54 [] [nk_i s1, nk_l s0] S R := by
  intro s0 s1 S R hr
  unfold ja_X5_join_b54 at hr
  refine nk_p (i := .i2l) (len := 1) (pc' := 55) mJ_362 (by decide +kernel) ns_i2l rfl ?_
  refine nk_ldc2 (x := 17) (len := 3) (X := 4294967295) (v := 4294967295) (pc' := 58) mJ_362 (by decide +kernel) (by decide +kernel) (by decide +kernel) rfl ?_
  refine nk_p (i := .land) (len := 1) (pc' := 59) mJ_362 (by decide +kernel) ns_land rfl ?_
  refine nk_p (i := .lor) (len := 1) (pc' := 60) mJ_362 (by decide +kernel) ns_lor rfl ?_
  cases hr
  exact nk_lret (len := 1) mJ_362 (by decide +kernel) rfl
noncomputable def ja_X5_join_b36 (l6 : Int) (l7 : Int) (s0 : Int) (S : nk_S) : Option (Int × nk_S) :=
  if l6 ≤ l7 then
    ja_X5_join_b54 (nk_lshl s0 32) l7 S
  else
    ja_X5_join_b54 (nk_lshl s0 32) l6 S
theorem ja_X5_join_b36_ok (zs : List Int32) : ∀ (l6 : Int) (l7 : Int) (s0 : Int) (S : nk_S) (R : Int × nk_S), ja_X5_join_b36 l6 l7 s0 S = some R → nk_K ja_Tt mi_Γ (mi_ev zs) 2 362 36 [(6, nk_i l6), (7, nk_i l7)] [nk_i s0] S R := by
  intro l6 l7 s0 S R hr
  unfold ja_X5_join_b36 at hr
  refine nk_p (i := .i2l) (len := 1) (pc' := 37) mJ_362 (by decide +kernel) ns_i2l rfl ?_
  refine nk_p (i := .bipush 32) (len := 2) (pc' := 39) mJ_362 (by decide +kernel) (ns_bipush (c := 32) (by decide +kernel)) rfl ?_
  refine nk_p (i := .lshl) (len := 1) (pc' := 40) mJ_362 (by decide +kernel) ns_lshl rfl ?_
  refine nk_p (i := .iload 6) (len := 2) (pc' := 42) mJ_362 (by decide +kernel) (ns_iload 0 rfl) rfl ?_
  refine nk_p (i := .iload 7) (len := 2) (pc' := 44) mJ_362 (by decide +kernel) (ns_iload 1 rfl) rfl ?_
  refine nk_icmp (c := .le) (off := 8) (len := 3) (t := 52) (pc' := 47) mJ_362 (by decide +kernel) (by decide +kernel) rfl (fun hc => ?_) (fun hc => ?_)
  · have hr := nk_ifp (c := l6 ≤ l7) hc hr
    refine nk_p (i := .iload 7) (len := 2) (pc' := 54) mJ_362 (by decide +kernel) (ns_iload 1 rfl) rfl ?_
    refine nk_sub [] (L' := []) rfl ?_
    exact ja_X5_join_b54_ok zs _ _ _ _ hr
  · have hr := nk_ifn (c := l6 ≤ l7) hc hr
    refine nk_p (i := .iload 6) (len := 2) (pc' := 49) mJ_362 (by decide +kernel) (ns_iload 0 rfl) rfl ?_
    refine nk_p (i := .goto 5) (len := 3) (pc' := 54) mJ_362 (by decide +kernel) (ns_goto (by decide +kernel)) rfl ?_
    refine nk_sub [] (L' := []) rfl ?_
    exact ja_X5_join_b54_ok zs _ _ _ _ hr
noncomputable def ja_X5_join (l0 : Int) (l2 : Int) (S : nk_S) : Option (Int × nk_S) :=
  nk_lt (nk_w (nk_lshr l0 32)) fun v1 =>
  nk_lt (nk_w (nk_lshr l2 32)) fun v3 =>
  nk_lt (nk_w l0) fun v5 =>
  nk_lt (nk_w l2) fun v7 =>
  if v3 ≤ v1 then
    ja_X5_join_b36 v5 v7 v3 S
  else
    ja_X5_join_b36 v5 v7 v1 S
theorem ja_X5_join_ok (zs : List Int32) : ∀ (l0 : Int) (l2 : Int) (S : nk_S) (R : Int × nk_S), ja_X5_join l0 l2 S = some R → nk_K ja_Tt mi_Γ (mi_ev zs) 2 362 0 [(0, nk_l l0), (2, nk_l l2)] [] S R := by
  intro l0 l2 S R hr
  unfold ja_X5_join at hr
  refine nk_p (i := .lload_n 0) (len := 1) (pc' := 1) mJ_362 (by decide +kernel) (ns_lload_n 0 rfl rfl) rfl ?_
  refine nk_p (i := .bipush 32) (len := 2) (pc' := 3) mJ_362 (by decide +kernel) (ns_bipush (c := 32) (by decide +kernel)) rfl ?_
  refine nk_p (i := .lshr) (len := 1) (pc' := 4) mJ_362 (by decide +kernel) ns_lshr rfl ?_
  refine nk_p (i := .l2i) (len := 1) (pc' := 5) mJ_362 (by decide +kernel) ns_l2i rfl ?_
  obtain ⟨v1, h2, hr⟩ := nk_lte hr
  refine nk_p (i := .istore 4) (len := 2) (pc' := 7) mJ_362 (by decide +kernel) (ns_istore (L' := [(4, nk_i v1), (0, nk_l l0), (2, nk_l l2)]) h2 rfl (by decide +kernel)) rfl ?_
  refine nk_p (i := .lload_n 2) (len := 1) (pc' := 8) mJ_362 (by decide +kernel) (ns_lload_n 2 rfl rfl) rfl ?_
  refine nk_p (i := .bipush 32) (len := 2) (pc' := 10) mJ_362 (by decide +kernel) (ns_bipush (c := 32) (by decide +kernel)) rfl ?_
  refine nk_p (i := .lshr) (len := 1) (pc' := 11) mJ_362 (by decide +kernel) ns_lshr rfl ?_
  refine nk_p (i := .l2i) (len := 1) (pc' := 12) mJ_362 (by decide +kernel) ns_l2i rfl ?_
  obtain ⟨v3, h4, hr⟩ := nk_lte hr
  refine nk_p (i := .istore 5) (len := 2) (pc' := 14) mJ_362 (by decide +kernel) (ns_istore (L' := [(5, nk_i v3), (4, nk_i v1), (0, nk_l l0), (2, nk_l l2)]) h4 rfl (by decide +kernel)) rfl ?_
  refine nk_p (i := .lload_n 0) (len := 1) (pc' := 15) mJ_362 (by decide +kernel) (ns_lload_n 2 rfl rfl) rfl ?_
  refine nk_p (i := .l2i) (len := 1) (pc' := 16) mJ_362 (by decide +kernel) ns_l2i rfl ?_
  obtain ⟨v5, h6, hr⟩ := nk_lte hr
  refine nk_p (i := .istore 6) (len := 2) (pc' := 18) mJ_362 (by decide +kernel) (ns_istore (L' := [(6, nk_i v5), (5, nk_i v3), (4, nk_i v1), (0, nk_l l0), (2, nk_l l2)]) h6 rfl (by decide +kernel)) rfl ?_
  refine nk_p (i := .lload_n 2) (len := 1) (pc' := 19) mJ_362 (by decide +kernel) (ns_lload_n 4 rfl rfl) rfl ?_
  refine nk_p (i := .l2i) (len := 1) (pc' := 20) mJ_362 (by decide +kernel) ns_l2i rfl ?_
  obtain ⟨v7, h8, hr⟩ := nk_lte hr
  refine nk_p (i := .istore 7) (len := 2) (pc' := 22) mJ_362 (by decide +kernel) (ns_istore (L' := [(7, nk_i v7), (6, nk_i v5), (5, nk_i v3), (4, nk_i v1), (0, nk_l l0), (2, nk_l l2)]) h8 rfl (by decide +kernel)) rfl ?_
  refine nk_p (i := .iload 4) (len := 2) (pc' := 24) mJ_362 (by decide +kernel) (ns_iload 3 rfl) rfl ?_
  refine nk_p (i := .iload 5) (len := 2) (pc' := 26) mJ_362 (by decide +kernel) (ns_iload 2 rfl) rfl ?_
  refine nk_icmp (c := .ge) (off := 8) (len := 3) (t := 34) (pc' := 29) mJ_362 (by decide +kernel) (by decide +kernel) rfl (fun hc => ?_) (fun hc => ?_)
  · have hr := nk_ifp (c := v3 ≤ v1) hc hr
    refine nk_p (i := .iload 5) (len := 2) (pc' := 36) mJ_362 (by decide +kernel) (ns_iload 2 rfl) rfl ?_
    refine nk_sub [1, 0] (L' := [(6, nk_i v5), (7, nk_i v7)]) rfl ?_
    exact ja_X5_join_b36_ok zs _ _ _ _ _ hr
  · have hr := nk_ifn (c := v3 ≤ v1) hc hr
    refine nk_p (i := .iload 4) (len := 2) (pc' := 31) mJ_362 (by decide +kernel) (ns_iload 3 rfl) rfl ?_
    refine nk_p (i := .goto 5) (len := 3) (pc' := 36) mJ_362 (by decide +kernel) (ns_goto (by decide +kernel)) rfl ?_
    refine nk_sub [1, 0] (L' := [(6, nk_i v5), (7, nk_i v7)]) rfl ?_
    exact ja_X5_join_b36_ok zs _ _ _ _ _ hr
/-! SafeCode$States joinSlot (IJJZ)Z -/
noncomputable def ja_X7_joinSlot_b146 (l0 : Nat) (l1 : Int) (l7 : Int) (l9 : Int) (S : nk_S) : Option (Int × nk_S) :=
  if 0 ≤ l1 ∧ l1 < 20480 then
  nk_lt (nk_wi S (ja_c l0 0) l1.toNat l9) fun S3 =>
  nk_lt (nk_wi S3 (ja_c l0 1) l1.toNat l7) fun S6 =>
  some (1, S6)
  else none
theorem ja_X7_joinSlot_b146_ok (zs : List Int32) : ∀ (l0 : Nat) (l1 : Int) (l7 : Int) (l9 : Int) (S : nk_S) (R : Int × nk_S), nk_cl ja_Tt l0 = some 7 → ja_X7_joinSlot_b146 l0 l1 l7 l9 S = some R → nk_K ja_Tt mi_Γ (mi_ev zs) 1 405 146 [(0, nk_r l0), (1, nk_i l1), (7, nk_l l7), (9, nk_l l9)] [] S R := by
  intro l0 l1 l7 l9 S R t_l0 hr
  unfold ja_X7_joinSlot_b146 at hr
  refine nk_p (i := .aload_n 0) (len := 1) (pc' := 147) mJ_405 (by decide +kernel) (ns_aload_n 0 rfl rfl) rfl ?_
  refine nk_getC (f := (4, 2, 20480)) (x := 9) (len := 3) (ci := 7) (k := 0) (pc' := 150) ja_okT mJ_405 (by decide +kernel) (by decide +kernel) (by decide +kernel) (by decide) t_l0 rfl ?_
  have t1 : nk_ar ja_Tt (ja_c l0 0) = some (2, 20480) := nk_ta ja_okT t_l0 (by decide +kernel)
  refine nk_p (i := .iload_n 1) (len := 1) (pc' := 151) mJ_405 (by decide +kernel) (ns_iload_n 1 rfl rfl) rfl ?_
  refine nk_p (i := .lload 9) (len := 2) (pc' := 153) mJ_405 (by decide +kernel) (ns_lload 3 rfl) rfl ?_
  obtain ⟨h2, hr⟩ := nk_cke hr
  obtain ⟨S3, h4, hr⟩ := nk_lte hr
  refine nk_last (len := 1) (N := 20480) (pc' := 154) mJ_405 (by decide +kernel) t1 h2.1 h2.2 rfl rfl h4 ?_
  refine nk_p (i := .aload_n 0) (len := 1) (pc' := 155) mJ_405 (by decide +kernel) (ns_aload_n 0 rfl rfl) rfl ?_
  refine nk_getC (f := (4, 2, 20480)) (x := 15) (len := 3) (ci := 7) (k := 1) (pc' := 158) ja_okT mJ_405 (by decide +kernel) (by decide +kernel) (by decide +kernel) (by decide) t_l0 rfl ?_
  have t5 : nk_ar ja_Tt (ja_c l0 1) = some (2, 20480) := nk_ta ja_okT t_l0 (by decide +kernel)
  refine nk_p (i := .iload_n 1) (len := 1) (pc' := 159) mJ_405 (by decide +kernel) (ns_iload_n 1 rfl rfl) rfl ?_
  refine nk_p (i := .lload 7) (len := 2) (pc' := 161) mJ_405 (by decide +kernel) (ns_lload 2 rfl) rfl ?_
  obtain ⟨S6, h7, hr⟩ := nk_lte hr
  refine nk_last (len := 1) (N := 20480) (pc' := 162) mJ_405 (by decide +kernel) t5 h2.1 h2.2 rfl rfl h7 ?_
  refine nk_p (i := .iconst 1) (len := 1) (pc' := 163) mJ_405 (by decide +kernel) (ns_iconst (c := 1) (by decide +kernel)) rfl ?_
  cases hr
  exact nk_iret (ty := .boolean) (len := 1) mJ_405 (by decide +kernel) rfl (nk_nar_z (by decide))
noncomputable def ja_X7_joinSlot_b122 (l0 : Nat) (l1 : Int) (l7 : Int) (l11 : Int) (s0 : Int) (S : nk_S) : Option (Int × nk_S) :=
  if l7 = l11 then
    if 0 ≤ l1 ∧ l1 < 20480 then
    if s0 = (S.1 (ja_c l0 0) l1.toNat) then
      some (0, S)
    else
      ja_X7_joinSlot_b146 l0 l1 l7 s0 S
    else none
  else
    ja_X7_joinSlot_b146 l0 l1 l7 s0 S
theorem ja_X7_joinSlot_b122_ok (zs : List Int32) : ∀ (l0 : Nat) (l1 : Int) (l7 : Int) (l11 : Int) (s0 : Int) (S : nk_S) (R : Int × nk_S), nk_cl ja_Tt l0 = some 7 → ja_X7_joinSlot_b122 l0 l1 l7 l11 s0 S = some R → nk_K ja_Tt mi_Γ (mi_ev zs) 1 405 122 [(0, nk_r l0), (1, nk_i l1), (7, nk_l l7), (11, nk_l l11)] [nk_l s0] S R := by
  intro l0 l1 l7 l11 s0 S R t_l0 hr
  unfold ja_X7_joinSlot_b122 at hr
  refine nk_p (i := .lstore 9) (len := 2) (pc' := 124) mJ_405 (by decide +kernel) (ns_lstore (L' := [(9, nk_l s0), (0, nk_r l0), (1, nk_i l1), (7, nk_l l7), (11, nk_l l11)]) rfl rfl (by decide +kernel)) rfl ?_
  refine nk_p (i := .lload 7) (len := 2) (pc' := 126) mJ_405 (by decide +kernel) (ns_lload 3 rfl) rfl ?_
  refine nk_p (i := .lload 11) (len := 2) (pc' := 128) mJ_405 (by decide +kernel) (ns_lload 4 rfl) rfl ?_
  refine nk_p (i := .lcmp) (len := 1) (pc' := 129) mJ_405 (by decide +kernel) ns_lcmp rfl ?_
  refine nk_lcond (c := .ne) (off := 17) (len := 3) (t := 146) (pc' := 132) mJ_405 (by decide +kernel) (by decide +kernel) rfl (fun hc => ?_) (fun hc => ?_)
  · have hr := nk_ifn (c := l7 = l11) hc hr
    refine nk_sub [1, 2, 3, 0] (L' := [(0, nk_r l0), (1, nk_i l1), (7, nk_l l7), (9, nk_l s0)]) rfl ?_
    exact ja_X7_joinSlot_b146_ok zs _ _ _ _ _ _ t_l0 hr
  · have hr := nk_ifp (c := l7 = l11) (Decidable.of_not_not hc) hr
    refine nk_p (i := .lload 9) (len := 2) (pc' := 134) mJ_405 (by decide +kernel) (ns_lload 0 rfl) rfl ?_
    refine nk_p (i := .aload_n 0) (len := 1) (pc' := 135) mJ_405 (by decide +kernel) (ns_aload_n 1 rfl rfl) rfl ?_
    refine nk_getC (f := (4, 2, 20480)) (x := 9) (len := 3) (ci := 7) (k := 0) (pc' := 138) ja_okT mJ_405 (by decide +kernel) (by decide +kernel) (by decide +kernel) (by decide) t_l0 rfl ?_
    have t1 : nk_ar ja_Tt (ja_c l0 0) = some (2, 20480) := nk_ta ja_okT t_l0 (by decide +kernel)
    refine nk_p (i := .iload_n 1) (len := 1) (pc' := 139) mJ_405 (by decide +kernel) (ns_iload_n 2 rfl rfl) rfl ?_
    obtain ⟨h2, hr⟩ := nk_cke hr
    refine nk_lald (len := 1) (N := 20480) (pc' := 140) mJ_405 (by decide +kernel) t1 h2.1 h2.2 rfl rfl ?_
    refine nk_p (i := .lcmp) (len := 1) (pc' := 141) mJ_405 (by decide +kernel) ns_lcmp rfl ?_
    refine nk_lcond (c := .ne) (off := 5) (len := 3) (t := 146) (pc' := 144) mJ_405 (by decide +kernel) (by decide +kernel) rfl (fun hc => ?_) (fun hc => ?_)
    · have hr := nk_ifn (c := s0 = (S.1 (ja_c l0 0) l1.toNat)) hc hr
      refine nk_sub [1, 2, 3, 0] (L' := [(0, nk_r l0), (1, nk_i l1), (7, nk_l l7), (9, nk_l s0)]) rfl ?_
      exact ja_X7_joinSlot_b146_ok zs _ _ _ _ _ _ t_l0 hr
    · have hr := nk_ifp (c := s0 = (S.1 (ja_c l0 0) l1.toNat)) (Decidable.of_not_not hc) hr
      refine nk_p (i := .iconst 0) (len := 1) (pc' := 145) mJ_405 (by decide +kernel) (ns_iconst (c := 0) (by decide +kernel)) rfl ?_
      cases hr
      exact nk_iret (ty := .boolean) (len := 1) mJ_405 (by decide +kernel) rfl (nk_nar_z (by decide))
noncomputable def ja_X7_joinSlot_b73 (l0 : Nat) (l1 : Int) (l2 : Int) (l11 : Int) (s0 : Int) (S : nk_S) : Option (Int × nk_S) :=
  if (nk_land s0 4503599627370496) = 0 then
    if (nk_land s0 9007199254740992) = 0 then
      ja_X7_joinSlot_b122 l0 l1 s0 l11 0 S
    else
      if 0 ≤ l1 ∧ l1 < 20480 then
      ja_X7_joinSlot_b122 l0 l1 s0 l11 (nk_lor l2 (S.1 (ja_c l0 0) l1.toNat)) S
      else none
  else
    if 0 ≤ l1 ∧ l1 < 20480 then
    nk_bd (ja_X5_join l2 (S.1 (ja_c l0 0) l1.toNat) S) fun r5 S6 =>
    ja_X7_joinSlot_b122 l0 l1 s0 l11 r5 S6
    else none
theorem ja_X7_joinSlot_b73_ok (zs : List Int32) : ∀ (l0 : Nat) (l1 : Int) (l2 : Int) (l11 : Int) (s0 : Int) (S : nk_S) (R : Int × nk_S), nk_cl ja_Tt l0 = some 7 → ja_X7_joinSlot_b73 l0 l1 l2 l11 s0 S = some R → nk_K ja_Tt mi_Γ (mi_ev zs) 1 405 73 [(0, nk_r l0), (1, nk_i l1), (2, nk_l l2), (11, nk_l l11)] [nk_l s0] S R := by
  intro l0 l1 l2 l11 s0 S R t_l0 hr
  unfold ja_X7_joinSlot_b73 at hr
  refine nk_p (i := .lstore 7) (len := 2) (pc' := 75) mJ_405 (by decide +kernel) (ns_lstore (L' := [(7, nk_l s0), (0, nk_r l0), (1, nk_i l1), (2, nk_l l2), (11, nk_l l11)]) rfl rfl (by decide +kernel)) rfl ?_
  refine nk_p (i := .lload 7) (len := 2) (pc' := 77) mJ_405 (by decide +kernel) (ns_lload 0 rfl) rfl ?_
  refine nk_ldc2 (x := 98) (len := 3) (X := 4503599627370496) (v := 4503599627370496) (pc' := 80) mJ_405 (by decide +kernel) (by decide +kernel) (by decide +kernel) rfl ?_
  refine nk_p (i := .land) (len := 1) (pc' := 81) mJ_405 (by decide +kernel) ns_land rfl ?_
  refine nk_p (i := .lconst 0) (len := 1) (pc' := 82) mJ_405 (by decide +kernel) (ns_lconst (c := 0) (by decide +kernel)) rfl ?_
  refine nk_p (i := .lcmp) (len := 1) (pc' := 83) mJ_405 (by decide +kernel) ns_lcmp rfl ?_
  refine nk_lcond (c := .eq) (off := 16) (len := 3) (t := 99) (pc' := 86) mJ_405 (by decide +kernel) (by decide +kernel) rfl (fun hc => ?_) (fun hc => ?_)
  · have hr := nk_ifp (c := (nk_land s0 4503599627370496) = 0) hc hr
    refine nk_p (i := .lload 7) (len := 2) (pc' := 101) mJ_405 (by decide +kernel) (ns_lload 0 rfl) rfl ?_
    refine nk_ldc2 (x := 103) (len := 3) (X := 9007199254740992) (v := 9007199254740992) (pc' := 104) mJ_405 (by decide +kernel) (by decide +kernel) (by decide +kernel) rfl ?_
    refine nk_p (i := .land) (len := 1) (pc' := 105) mJ_405 (by decide +kernel) ns_land rfl ?_
    refine nk_p (i := .lconst 0) (len := 1) (pc' := 106) mJ_405 (by decide +kernel) (ns_lconst (c := 0) (by decide +kernel)) rfl ?_
    refine nk_p (i := .lcmp) (len := 1) (pc' := 107) mJ_405 (by decide +kernel) ns_lcmp rfl ?_
    refine nk_lcond (c := .eq) (off := 14) (len := 3) (t := 121) (pc' := 110) mJ_405 (by decide +kernel) (by decide +kernel) rfl (fun hc => ?_) (fun hc => ?_)
    · have hr := nk_ifp (c := (nk_land s0 9007199254740992) = 0) hc hr
      refine nk_p (i := .lconst 0) (len := 1) (pc' := 122) mJ_405 (by decide +kernel) (ns_lconst (c := 0) (by decide +kernel)) rfl ?_
      refine nk_sub [1, 2, 0, 4] (L' := [(0, nk_r l0), (1, nk_i l1), (7, nk_l s0), (11, nk_l l11)]) rfl ?_
      exact ja_X7_joinSlot_b122_ok zs _ _ _ _ _ _ _ t_l0 hr
    · have hr := nk_ifn (c := (nk_land s0 9007199254740992) = 0) hc hr
      refine nk_p (i := .lload_n 2) (len := 1) (pc' := 111) mJ_405 (by decide +kernel) (ns_lload_n 3 rfl rfl) rfl ?_
      refine nk_p (i := .aload_n 0) (len := 1) (pc' := 112) mJ_405 (by decide +kernel) (ns_aload_n 1 rfl rfl) rfl ?_
      refine nk_getC (f := (4, 2, 20480)) (x := 9) (len := 3) (ci := 7) (k := 0) (pc' := 115) ja_okT mJ_405 (by decide +kernel) (by decide +kernel) (by decide +kernel) (by decide) t_l0 rfl ?_
      have t1 : nk_ar ja_Tt (ja_c l0 0) = some (2, 20480) := nk_ta ja_okT t_l0 (by decide +kernel)
      refine nk_p (i := .iload_n 1) (len := 1) (pc' := 116) mJ_405 (by decide +kernel) (ns_iload_n 2 rfl rfl) rfl ?_
      obtain ⟨h2, hr⟩ := nk_cke hr
      refine nk_lald (len := 1) (N := 20480) (pc' := 117) mJ_405 (by decide +kernel) t1 h2.1 h2.2 rfl rfl ?_
      refine nk_p (i := .lor) (len := 1) (pc' := 118) mJ_405 (by decide +kernel) ns_lor rfl ?_
      refine nk_p (i := .goto 4) (len := 3) (pc' := 122) mJ_405 (by decide +kernel) (ns_goto (by decide +kernel)) rfl ?_
      refine nk_sub [1, 2, 0, 4] (L' := [(0, nk_r l0), (1, nk_i l1), (7, nk_l s0), (11, nk_l l11)]) rfl ?_
      exact ja_X7_joinSlot_b122_ok zs _ _ _ _ _ _ _ t_l0 hr
  · have hr := nk_ifn (c := (nk_land s0 4503599627370496) = 0) hc hr
    refine nk_p (i := .lload_n 2) (len := 1) (pc' := 87) mJ_405 (by decide +kernel) (ns_lload_n 3 rfl rfl) rfl ?_
    refine nk_p (i := .aload_n 0) (len := 1) (pc' := 88) mJ_405 (by decide +kernel) (ns_aload_n 1 rfl rfl) rfl ?_
    refine nk_getC (f := (4, 2, 20480)) (x := 9) (len := 3) (ci := 7) (k := 0) (pc' := 91) ja_okT mJ_405 (by decide +kernel) (by decide +kernel) (by decide +kernel) (by decide) t_l0 rfl ?_
    have t3 : nk_ar ja_Tt (ja_c l0 0) = some (2, 20480) := nk_ta ja_okT t_l0 (by decide +kernel)
    refine nk_p (i := .iload_n 1) (len := 1) (pc' := 92) mJ_405 (by decide +kernel) (ns_iload_n 2 rfl rfl) rfl ?_
    obtain ⟨h4, hr⟩ := nk_cke hr
    refine nk_lald (len := 1) (N := 20480) (pc' := 93) mJ_405 (by decide +kernel) t3 h4.1 h4.2 rfl rfl ?_
    obtain ⟨r5, S6, h7, hr⟩ := nk_bde hr
    refine nk_callS (ci := 0) (n := 2) (x := 100) (len := 3) (j' := 362) (q' := 2) (r := r5) (S' := S6) (L2 := [(0, nk_l l2), (2, nk_l (S.1 (ja_c l0 0) l1.toNat))]) (rest := []) (st' := [nk_l r5]) (pc' := 96) mJ_405 (by decide +kernel) (by decide +kernel) (Nat.le_of_ble_eq_true rfl) rfl rfl (Nat.le_of_ble_eq_true rfl) mJ_362 (Nat.le_of_ble_eq_true rfl) ja_Tpos rfl (ja_X5_join_ok zs _ _ _ _ h7) rfl ?_
    refine nk_p (i := .goto 26) (len := 3) (pc' := 122) mJ_405 (by decide +kernel) (ns_goto (by decide +kernel)) rfl ?_
    refine nk_sub [1, 2, 0, 4] (L' := [(0, nk_r l0), (1, nk_i l1), (7, nk_l s0), (11, nk_l l11)]) rfl ?_
    exact ja_X7_joinSlot_b122_ok zs _ _ _ _ _ _ _ t_l0 hr
noncomputable def ja_X7_joinSlot_b41 (l0 : Nat) (l1 : Int) (l2 : Int) (l4 : Int) (l11 : Int) (s0 : Int) (S : nk_S) : Option (Int × nk_S) :=
  if (nk_land (nk_lxor l4 l11) 13510798882111488) = 0 then
    ja_X7_joinSlot_b73 l0 l1 l2 l11 (nk_land (nk_land l4 l11) (nk_lor 13792273858822143 s0)) S
  else
    ja_X7_joinSlot_b73 l0 l1 l2 l11 0 S
theorem ja_X7_joinSlot_b41_ok (zs : List Int32) : ∀ (l0 : Nat) (l1 : Int) (l2 : Int) (l4 : Int) (l11 : Int) (s0 : Int) (S : nk_S) (R : Int × nk_S), nk_cl ja_Tt l0 = some 7 → ja_X7_joinSlot_b41 l0 l1 l2 l4 l11 s0 S = some R → nk_K ja_Tt mi_Γ (mi_ev zs) 1 405 41 [(0, nk_r l0), (1, nk_i l1), (2, nk_l l2), (4, nk_l l4), (11, nk_l l11)] [nk_l s0] S R := by
  intro l0 l1 l2 l4 l11 s0 S R t_l0 hr
  unfold ja_X7_joinSlot_b41 at hr
  refine nk_p (i := .lstore 13) (len := 2) (pc' := 43) mJ_405 (by decide +kernel) (ns_lstore (L' := [(13, nk_l s0), (0, nk_r l0), (1, nk_i l1), (2, nk_l l2), (4, nk_l l4), (11, nk_l l11)]) rfl rfl (by decide +kernel)) rfl ?_
  refine nk_p (i := .lload 4) (len := 2) (pc' := 45) mJ_405 (by decide +kernel) (ns_lload 4 rfl) rfl ?_
  refine nk_p (i := .lload 11) (len := 2) (pc' := 47) mJ_405 (by decide +kernel) (ns_lload 5 rfl) rfl ?_
  refine nk_p (i := .lxor) (len := 1) (pc' := 48) mJ_405 (by decide +kernel) ns_lxor rfl ?_
  refine nk_ldc2 (x := 92) (len := 3) (X := 13510798882111488) (v := 13510798882111488) (pc' := 51) mJ_405 (by decide +kernel) (by decide +kernel) (by decide +kernel) rfl ?_
  refine nk_p (i := .land) (len := 1) (pc' := 52) mJ_405 (by decide +kernel) ns_land rfl ?_
  refine nk_p (i := .lconst 0) (len := 1) (pc' := 53) mJ_405 (by decide +kernel) (ns_lconst (c := 0) (by decide +kernel)) rfl ?_
  refine nk_p (i := .lcmp) (len := 1) (pc' := 54) mJ_405 (by decide +kernel) ns_lcmp rfl ?_
  refine nk_lcond (c := .eq) (off := 7) (len := 3) (t := 61) (pc' := 57) mJ_405 (by decide +kernel) (by decide +kernel) rfl (fun hc => ?_) (fun hc => ?_)
  · have hr := nk_ifp (c := (nk_land (nk_lxor l4 l11) 13510798882111488) = 0) hc hr
    refine nk_p (i := .lload 4) (len := 2) (pc' := 63) mJ_405 (by decide +kernel) (ns_lload 4 rfl) rfl ?_
    refine nk_p (i := .lload 11) (len := 2) (pc' := 65) mJ_405 (by decide +kernel) (ns_lload 5 rfl) rfl ?_
    refine nk_p (i := .land) (len := 1) (pc' := 66) mJ_405 (by decide +kernel) ns_land rfl ?_
    refine nk_ldc2 (x := 96) (len := 3) (X := 13792273858822143) (v := 13792273858822143) (pc' := 69) mJ_405 (by decide +kernel) (by decide +kernel) (by decide +kernel) rfl ?_
    refine nk_p (i := .lload 13) (len := 2) (pc' := 71) mJ_405 (by decide +kernel) (ns_lload 0 rfl) rfl ?_
    refine nk_p (i := .lor) (len := 1) (pc' := 72) mJ_405 (by decide +kernel) ns_lor rfl ?_
    refine nk_p (i := .land) (len := 1) (pc' := 73) mJ_405 (by decide +kernel) ns_land rfl ?_
    refine nk_sub [1, 2, 3, 5] (L' := [(0, nk_r l0), (1, nk_i l1), (2, nk_l l2), (11, nk_l l11)]) rfl ?_
    exact ja_X7_joinSlot_b73_ok zs _ _ _ _ _ _ _ t_l0 hr
  · have hr := nk_ifn (c := (nk_land (nk_lxor l4 l11) 13510798882111488) = 0) hc hr
    refine nk_p (i := .lconst 0) (len := 1) (pc' := 58) mJ_405 (by decide +kernel) (ns_lconst (c := 0) (by decide +kernel)) rfl ?_
    refine nk_p (i := .goto 15) (len := 3) (pc' := 73) mJ_405 (by decide +kernel) (ns_goto (by decide +kernel)) rfl ?_
    refine nk_sub [1, 2, 3, 5] (L' := [(0, nk_r l0), (1, nk_i l1), (2, nk_l l2), (11, nk_l l11)]) rfl ?_
    exact ja_X7_joinSlot_b73_ok zs _ _ _ _ _ _ _ t_l0 hr
noncomputable def ja_X7_joinSlot (l0 : Nat) (l1 : Int) (l2 : Int) (l4 : Int) (l6 : Int) (S : nk_S) : Option (Int × nk_S) :=
  if l6 = 0 then
    if 0 ≤ l1 ∧ l1 < 20480 then
    nk_lt (S.1 (ja_c l0 1) l1.toNat) fun v3 =>
    if (nk_land (nk_lxor l4 v3) 4222124650659840) = 0 then
      ja_X7_joinSlot_b41 l0 l1 l2 l4 v3 4222124650659840 S
    else
      ja_X7_joinSlot_b41 l0 l1 l2 l4 v3 0 S
    else none
  else
    ja_X7_joinSlot_b146 l0 l1 l4 l2 S
theorem ja_X7_joinSlot_ok (zs : List Int32) : ∀ (l0 : Nat) (l1 : Int) (l2 : Int) (l4 : Int) (l6 : Int) (S : nk_S) (R : Int × nk_S), nk_cl ja_Tt l0 = some 7 → ja_X7_joinSlot l0 l1 l2 l4 l6 S = some R → nk_K ja_Tt mi_Γ (mi_ev zs) 1 405 0 [(0, nk_r l0), (1, nk_i l1), (2, nk_l l2), (4, nk_l l4), (6, nk_i l6)] [] S R := by
  intro l0 l1 l2 l4 l6 S R t_l0 hr
  unfold ja_X7_joinSlot at hr
  refine nk_p (i := .lload 4) (len := 2) (pc' := 2) mJ_405 (by decide +kernel) (ns_lload 3 rfl) rfl ?_
  refine nk_p (i := .lstore 7) (len := 2) (pc' := 4) mJ_405 (by decide +kernel) (ns_lstore (L' := [(7, nk_l l4), (0, nk_r l0), (1, nk_i l1), (2, nk_l l2), (4, nk_l l4), (6, nk_i l6)]) rfl rfl (by decide +kernel)) rfl ?_
  refine nk_p (i := .lload_n 2) (len := 1) (pc' := 5) mJ_405 (by decide +kernel) (ns_lload_n 3 rfl rfl) rfl ?_
  refine nk_p (i := .lstore 9) (len := 2) (pc' := 7) mJ_405 (by decide +kernel) (ns_lstore (L' := [(9, nk_l l2), (7, nk_l l4), (0, nk_r l0), (1, nk_i l1), (2, nk_l l2), (4, nk_l l4), (6, nk_i l6)]) rfl rfl (by decide +kernel)) rfl ?_
  refine nk_p (i := .iload 6) (len := 2) (pc' := 9) mJ_405 (by decide +kernel) (ns_iload 6 rfl) rfl ?_
  refine nk_icond (c := .ne) (off := 137) (len := 3) (t := 146) (pc' := 12) mJ_405 (by decide +kernel) (by decide +kernel) rfl (fun hc => ?_) (fun hc => ?_)
  · have hr := nk_ifn (c := l6 = 0) hc hr
    refine nk_sub [2, 3, 1, 0] (L' := [(0, nk_r l0), (1, nk_i l1), (7, nk_l l4), (9, nk_l l2)]) rfl ?_
    exact ja_X7_joinSlot_b146_ok zs _ _ _ _ _ _ t_l0 hr
  · have hr := nk_ifp (c := l6 = 0) (Decidable.of_not_not hc) hr
    refine nk_p (i := .aload_n 0) (len := 1) (pc' := 13) mJ_405 (by decide +kernel) (ns_aload_n 2 rfl rfl) rfl ?_
    refine nk_getC (f := (4, 2, 20480)) (x := 15) (len := 3) (ci := 7) (k := 1) (pc' := 16) ja_okT mJ_405 (by decide +kernel) (by decide +kernel) (by decide +kernel) (by decide) t_l0 rfl ?_
    have t1 : nk_ar ja_Tt (ja_c l0 1) = some (2, 20480) := nk_ta ja_okT t_l0 (by decide +kernel)
    refine nk_p (i := .iload_n 1) (len := 1) (pc' := 17) mJ_405 (by decide +kernel) (ns_iload_n 3 rfl rfl) rfl ?_
    obtain ⟨h2, hr⟩ := nk_cke hr
    refine nk_lald (len := 1) (N := 20480) (pc' := 18) mJ_405 (by decide +kernel) t1 h2.1 h2.2 rfl rfl ?_
    obtain ⟨v3, h4, hr⟩ := nk_lte hr
    refine nk_p (i := .lstore 11) (len := 2) (pc' := 20) mJ_405 (by decide +kernel) (ns_lstore (L' := [(11, nk_l v3), (9, nk_l l2), (7, nk_l l4), (0, nk_r l0), (1, nk_i l1), (2, nk_l l2), (4, nk_l l4), (6, nk_i l6)]) h4 rfl (by decide +kernel)) rfl ?_
    refine nk_p (i := .lload 4) (len := 2) (pc' := 22) mJ_405 (by decide +kernel) (ns_lload 6 rfl) rfl ?_
    refine nk_p (i := .lload 11) (len := 2) (pc' := 24) mJ_405 (by decide +kernel) (ns_lload 0 rfl) rfl ?_
    refine nk_p (i := .lxor) (len := 1) (pc' := 25) mJ_405 (by decide +kernel) ns_lxor rfl ?_
    refine nk_ldc2 (x := 94) (len := 3) (X := 4222124650659840) (v := 4222124650659840) (pc' := 28) mJ_405 (by decide +kernel) (by decide +kernel) (by decide +kernel) rfl ?_
    refine nk_p (i := .land) (len := 1) (pc' := 29) mJ_405 (by decide +kernel) ns_land rfl ?_
    refine nk_p (i := .lconst 0) (len := 1) (pc' := 30) mJ_405 (by decide +kernel) (ns_lconst (c := 0) (by decide +kernel)) rfl ?_
    refine nk_p (i := .lcmp) (len := 1) (pc' := 31) mJ_405 (by decide +kernel) ns_lcmp rfl ?_
    refine nk_lcond (c := .ne) (off := 9) (len := 3) (t := 40) (pc' := 34) mJ_405 (by decide +kernel) (by decide +kernel) rfl (fun hc => ?_) (fun hc => ?_)
    · have hr := nk_ifn (c := (nk_land (nk_lxor l4 v3) 4222124650659840) = 0) hc hr
      refine nk_p (i := .lconst 0) (len := 1) (pc' := 41) mJ_405 (by decide +kernel) (ns_lconst (c := 0) (by decide +kernel)) rfl ?_
      refine nk_sub [3, 4, 5, 6, 0] (L' := [(0, nk_r l0), (1, nk_i l1), (2, nk_l l2), (4, nk_l l4), (11, nk_l v3)]) rfl ?_
      exact ja_X7_joinSlot_b41_ok zs _ _ _ _ _ _ _ _ t_l0 hr
    · have hr := nk_ifp (c := (nk_land (nk_lxor l4 v3) 4222124650659840) = 0) (Decidable.of_not_not hc) hr
      refine nk_ldc2 (x := 94) (len := 3) (X := 4222124650659840) (v := 4222124650659840) (pc' := 37) mJ_405 (by decide +kernel) (by decide +kernel) (by decide +kernel) rfl ?_
      refine nk_p (i := .goto 4) (len := 3) (pc' := 41) mJ_405 (by decide +kernel) (ns_goto (by decide +kernel)) rfl ?_
      refine nk_sub [3, 4, 5, 6, 0] (L' := [(0, nk_r l0), (1, nk_i l1), (2, nk_l l2), (4, nk_l l4), (11, nk_l v3)]) rfl ?_
      exact ja_X7_joinSlot_b41_ok zs _ _ _ _ _ _ _ _ t_l0 hr
/-! SafeCode$States wake (I)V -/
noncomputable def ja_X7_wake (l0 : Nat) (l1 : Int) (S : nk_S) : Option (Int × nk_S) :=
  if 0 ≤ (nk_ishr l1 6) ∧ (nk_ishr l1 6) < 16 then
  nk_lt (nk_wi S (ja_c l0 3) (nk_ishr l1 6).toNat (nk_lor (S.1 (ja_c l0 3) (nk_ishr l1 6).toNat) (nk_lshl 1 (nk_iand l1 63)))) fun S3 =>
  some (0, S3)
  else none
theorem ja_X7_wake_ok (zs : List Int32) : ∀ (l0 : Nat) (l1 : Int) (S : nk_S) (R : Int × nk_S), nk_cl ja_Tt l0 = some 7 → ja_X7_wake l0 l1 S = some R → nk_K ja_Tt mi_Γ (mi_ev zs) 0 412 0 [(0, nk_r l0), (1, nk_i l1)] [] S R := by
  intro l0 l1 S R t_l0 hr
  unfold ja_X7_wake at hr
  refine nk_p (i := .aload_n 0) (len := 1) (pc' := 1) mJ_412 (by decide +kernel) (ns_aload_n 0 rfl rfl) rfl ?_
  refine nk_getC (f := (4, 2, 16)) (x := 22) (len := 3) (ci := 7) (k := 3) (pc' := 4) ja_okT mJ_412 (by decide +kernel) (by decide +kernel) (by decide +kernel) (by decide) t_l0 rfl ?_
  have t1 : nk_ar ja_Tt (ja_c l0 3) = some (2, 16) := nk_ta ja_okT t_l0 (by decide +kernel)
  refine nk_p (i := .iload_n 1) (len := 1) (pc' := 5) mJ_412 (by decide +kernel) (ns_iload_n 1 rfl rfl) rfl ?_
  refine nk_p (i := .bipush 6) (len := 2) (pc' := 7) mJ_412 (by decide +kernel) (ns_bipush (c := 6) (by decide +kernel)) rfl ?_
  refine nk_p (i := .ishr) (len := 1) (pc' := 8) mJ_412 (by decide +kernel) ns_ishr rfl ?_
  refine nk_p (i := .dup2) (len := 1) (pc' := 9) mJ_412 (by decide +kernel) (ns_dup2 rfl rfl) rfl ?_
  obtain ⟨h2, hr⟩ := nk_cke hr
  refine nk_lald (len := 1) (N := 16) (pc' := 10) mJ_412 (by decide +kernel) t1 h2.1 h2.2 rfl rfl ?_
  refine nk_p (i := .lconst 1) (len := 1) (pc' := 11) mJ_412 (by decide +kernel) (ns_lconst (c := 1) (by decide +kernel)) rfl ?_
  refine nk_p (i := .iload_n 1) (len := 1) (pc' := 12) mJ_412 (by decide +kernel) (ns_iload_n 1 rfl rfl) rfl ?_
  refine nk_p (i := .bipush 63) (len := 2) (pc' := 14) mJ_412 (by decide +kernel) (ns_bipush (c := 63) (by decide +kernel)) rfl ?_
  refine nk_p (i := .iand) (len := 1) (pc' := 15) mJ_412 (by decide +kernel) ns_iand rfl ?_
  refine nk_p (i := .lshl) (len := 1) (pc' := 16) mJ_412 (by decide +kernel) ns_lshl rfl ?_
  refine nk_p (i := .lor) (len := 1) (pc' := 17) mJ_412 (by decide +kernel) ns_lor rfl ?_
  obtain ⟨S3, h4, hr⟩ := nk_lte hr
  refine nk_last (len := 1) (N := 16) (pc' := 18) mJ_412 (by decide +kernel) t1 h2.1 h2.2 rfl rfl h4 ?_
  cases hr
  exact nk_vret (len := 1) mJ_412 (by decide +kernel) rfl
/-! SafeCode$States enter (IIIIJ)V -/
noncomputable def ja_X7_enter_b117 (rec29 : Nat → Int → Int → Int → Int → Int → Int → Int → Int → Int → nk_S → Option (Int × nk_S)) (l0 : Nat) (l1 : Int) (l2 : Int) (l3 : Int) (l4 : Int) (l5 : Int) (l7 : Int) (l8 : Int) (l9 : Int) (l10 : Int) (l12 : Int) (s0 : Int) (S : nk_S) : Option (Int × nk_S) :=
  nk_bd (ja_X7_joinSlot l0 (nk_w (l9 + l10)) l12 s0 l7 S) fun r1 S2 =>
  nk_lt (nk_ior l8 r1) fun v4 =>
  nk_lt (nk_w (l10 + 1)) fun v6 =>
  rec29 l0 l1 l2 l3 l4 l5 l7 v4 l9 v6 S2
theorem ja_X7_enter_b117_ok (zs : List Int32) {rec29 : Nat → Int → Int → Int → Int → Int → Int → Int → Int → Int → nk_S → Option (Int × nk_S)} (hrec29 : ∀ (l0 : Nat) (l1 : Int) (l2 : Int) (l3 : Int) (l4 : Int) (l5 : Int) (l7 : Int) (l8 : Int) (l9 : Int) (l10 : Int) (S : nk_S) (R : Int × nk_S), nk_cl ja_Tt l0 = some 7 → rec29 l0 l1 l2 l3 l4 l5 l7 l8 l9 l10 S = some R → nk_K ja_Tt mi_Γ (mi_ev zs) 0 402 29 [(0, nk_r l0), (1, nk_i l1), (2, nk_i l2), (3, nk_i l3), (4, nk_i l4), (5, nk_l l5), (7, nk_i l7), (8, nk_i l8), (9, nk_i l9), (10, nk_i l10)] [] S R) : ∀ (l0 : Nat) (l1 : Int) (l2 : Int) (l3 : Int) (l4 : Int) (l5 : Int) (l7 : Int) (l8 : Int) (l9 : Int) (l10 : Int) (l12 : Int) (s0 : Int) (S : nk_S) (R : Int × nk_S), nk_cl ja_Tt l0 = some 7 → ja_X7_enter_b117 rec29 l0 l1 l2 l3 l4 l5 l7 l8 l9 l10 l12 s0 S = some R → nk_K ja_Tt mi_Γ (mi_ev zs) 0 402 117 [(0, nk_r l0), (1, nk_i l1), (2, nk_i l2), (3, nk_i l3), (4, nk_i l4), (5, nk_l l5), (7, nk_i l7), (8, nk_i l8), (9, nk_i l9), (10, nk_i l10), (12, nk_l l12)] [nk_l s0] S R := by
  intro l0 l1 l2 l3 l4 l5 l7 l8 l9 l10 l12 s0 S R t_l0 hr
  unfold ja_X7_enter_b117 at hr
  refine nk_p (i := .lstore 14) (len := 2) (pc' := 119) mJ_402 (by decide +kernel) (ns_lstore (L' := [(14, nk_l s0), (0, nk_r l0), (1, nk_i l1), (2, nk_i l2), (3, nk_i l3), (4, nk_i l4), (5, nk_l l5), (7, nk_i l7), (8, nk_i l8), (9, nk_i l9), (10, nk_i l10), (12, nk_l l12)]) rfl rfl (by decide +kernel)) rfl ?_
  refine nk_p (i := .iload 8) (len := 2) (pc' := 121) mJ_402 (by decide +kernel) (ns_iload 8 rfl) rfl ?_
  refine nk_p (i := .aload_n 0) (len := 1) (pc' := 122) mJ_402 (by decide +kernel) (ns_aload_n 1 rfl rfl) rfl ?_
  refine nk_p (i := .iload 9) (len := 2) (pc' := 124) mJ_402 (by decide +kernel) (ns_iload 9 rfl) rfl ?_
  refine nk_p (i := .iload 10) (len := 2) (pc' := 126) mJ_402 (by decide +kernel) (ns_iload 10 rfl) rfl ?_
  refine nk_p (i := .iadd) (len := 1) (pc' := 127) mJ_402 (by decide +kernel) ns_iadd rfl ?_
  refine nk_p (i := .lload 12) (len := 2) (pc' := 129) mJ_402 (by decide +kernel) (ns_lload 11 rfl) rfl ?_
  refine nk_p (i := .lload 14) (len := 2) (pc' := 131) mJ_402 (by decide +kernel) (ns_lload 0 rfl) rfl ?_
  refine nk_p (i := .iload 7) (len := 2) (pc' := 133) mJ_402 (by decide +kernel) (ns_iload 7 rfl) rfl ?_
  obtain ⟨r1, S2, h3, hr⟩ := nk_bde hr
  refine nk_callV (ci := 7) (n := 4) (x := 85) (len := 3) (j' := 405) (q' := 1) (r := r1) (S' := S2) (L2 := [(0, nk_r l0), (1, nk_i (nk_w (l9 + l10))), (2, nk_l l12), (4, nk_l s0), (6, nk_i l7)]) (rest := [nk_i l8]) (st' := [nk_i r1, nk_i l8]) (pc' := 136) mJ_402 (by decide +kernel) (by decide +kernel) rfl rfl t_l0 (Nat.le_of_ble_eq_true rfl) mJ_405 (Nat.le_of_ble_eq_true rfl) rfl (ja_X7_joinSlot_ok zs _ _ _ _ _ _ _ t_l0 h3) rfl ?_
  refine nk_p (i := .ior) (len := 1) (pc' := 137) mJ_402 (by decide +kernel) ns_ior rfl ?_
  obtain ⟨v4, h5, hr⟩ := nk_lte hr
  refine nk_p (i := .istore 8) (len := 2) (pc' := 139) mJ_402 (by decide +kernel) (ns_istore (L' := [(8, nk_i v4), (14, nk_l s0), (0, nk_r l0), (1, nk_i l1), (2, nk_i l2), (3, nk_i l3), (4, nk_i l4), (5, nk_l l5), (7, nk_i l7), (9, nk_i l9), (10, nk_i l10), (12, nk_l l12)]) h5 rfl (by decide +kernel)) rfl ?_
  obtain ⟨v6, h7, hr⟩ := nk_lte hr
  refine nk_p (i := .iinc 10 1) (len := 3) (pc' := 142) mJ_402 (by decide +kernel) (ns_iinc (c := 1) (L' := [(10, nk_i v6), (8, nk_i v4), (14, nk_l s0), (0, nk_r l0), (1, nk_i l1), (2, nk_i l2), (3, nk_i l3), (4, nk_i l4), (5, nk_l l5), (7, nk_i l7), (9, nk_i l9), (12, nk_l l12)]) 10 rfl (by decide +kernel) h7 rfl (by decide +kernel)) rfl ?_
  refine nk_p (i := .goto (-113)) (len := 3) (pc' := 29) mJ_402 (by decide +kernel) (ns_goto (by decide +kernel)) rfl ?_
  refine nk_sub [3, 4, 5, 6, 7, 8, 9, 1, 10, 0] (L' := [(0, nk_r l0), (1, nk_i l1), (2, nk_i l2), (3, nk_i l3), (4, nk_i l4), (5, nk_l l5), (7, nk_i l7), (8, nk_i v4), (9, nk_i l9), (10, nk_i v6)]) rfl ?_
  exact hrec29 _ _ _ _ _ _ _ _ _ _ _ _ t_l0 hr
noncomputable def ja_X7_enter_b93 (rec29 : Nat → Int → Int → Int → Int → Int → Int → Int → Int → Int → nk_S → Option (Int × nk_S)) (l0 : Nat) (l1 : Int) (l2 : Int) (l3 : Int) (l4 : Int) (l5 : Int) (l7 : Int) (l8 : Int) (l9 : Int) (l10 : Int) (l11 : Int) (s0 : Int) (S : nk_S) : Option (Int × nk_S) :=
  if l11 = 0 then
    ja_X7_enter_b117 rec29 l0 l1 l2 l3 l4 l5 l7 l8 l9 l10 s0 0 S
  else
    if 0 ≤ (nk_w (l3 + l10)) ∧ (nk_w (l3 + l10)) < 20 then
    ja_X7_enter_b117 rec29 l0 l1 l2 l3 l4 l5 l7 l8 l9 l10 s0 (nk_land (S.1 (ja_c l0 5) (nk_w (l3 + l10)).toNat) 13510798882111488) S
    else none
theorem ja_X7_enter_b93_ok (zs : List Int32) {rec29 : Nat → Int → Int → Int → Int → Int → Int → Int → Int → Int → nk_S → Option (Int × nk_S)} (hrec29 : ∀ (l0 : Nat) (l1 : Int) (l2 : Int) (l3 : Int) (l4 : Int) (l5 : Int) (l7 : Int) (l8 : Int) (l9 : Int) (l10 : Int) (S : nk_S) (R : Int × nk_S), nk_cl ja_Tt l0 = some 7 → rec29 l0 l1 l2 l3 l4 l5 l7 l8 l9 l10 S = some R → nk_K ja_Tt mi_Γ (mi_ev zs) 0 402 29 [(0, nk_r l0), (1, nk_i l1), (2, nk_i l2), (3, nk_i l3), (4, nk_i l4), (5, nk_l l5), (7, nk_i l7), (8, nk_i l8), (9, nk_i l9), (10, nk_i l10)] [] S R) : ∀ (l0 : Nat) (l1 : Int) (l2 : Int) (l3 : Int) (l4 : Int) (l5 : Int) (l7 : Int) (l8 : Int) (l9 : Int) (l10 : Int) (l11 : Int) (s0 : Int) (S : nk_S) (R : Int × nk_S), nk_cl ja_Tt l0 = some 7 → ja_X7_enter_b93 rec29 l0 l1 l2 l3 l4 l5 l7 l8 l9 l10 l11 s0 S = some R → nk_K ja_Tt mi_Γ (mi_ev zs) 0 402 93 [(0, nk_r l0), (1, nk_i l1), (2, nk_i l2), (3, nk_i l3), (4, nk_i l4), (5, nk_l l5), (7, nk_i l7), (8, nk_i l8), (9, nk_i l9), (10, nk_i l10), (11, nk_i l11)] [nk_l s0] S R := by
  intro l0 l1 l2 l3 l4 l5 l7 l8 l9 l10 l11 s0 S R t_l0 hr
  unfold ja_X7_enter_b93 at hr
  refine nk_p (i := .lstore 12) (len := 2) (pc' := 95) mJ_402 (by decide +kernel) (ns_lstore (L' := [(12, nk_l s0), (0, nk_r l0), (1, nk_i l1), (2, nk_i l2), (3, nk_i l3), (4, nk_i l4), (5, nk_l l5), (7, nk_i l7), (8, nk_i l8), (9, nk_i l9), (10, nk_i l10), (11, nk_i l11)]) rfl rfl (by decide +kernel)) rfl ?_
  refine nk_p (i := .iload 11) (len := 2) (pc' := 97) mJ_402 (by decide +kernel) (ns_iload 11 rfl) rfl ?_
  refine nk_icond (c := .eq) (off := 19) (len := 3) (t := 116) (pc' := 100) mJ_402 (by decide +kernel) (by decide +kernel) rfl (fun hc => ?_) (fun hc => ?_)
  · have hr := nk_ifp (c := l11 = 0) hc hr
    refine nk_p (i := .lconst 0) (len := 1) (pc' := 117) mJ_402 (by decide +kernel) (ns_lconst (c := 0) (by decide +kernel)) rfl ?_
    refine nk_sub [1, 2, 3, 4, 5, 6, 7, 8, 9, 10, 0] (L' := [(0, nk_r l0), (1, nk_i l1), (2, nk_i l2), (3, nk_i l3), (4, nk_i l4), (5, nk_l l5), (7, nk_i l7), (8, nk_i l8), (9, nk_i l9), (10, nk_i l10), (12, nk_l s0)]) rfl ?_
    exact ja_X7_enter_b117_ok zs hrec29 _ _ _ _ _ _ _ _ _ _ _ _ _ _ t_l0 hr
  · have hr := nk_ifn (c := l11 = 0) hc hr
    refine nk_p (i := .aload_n 0) (len := 1) (pc' := 101) mJ_402 (by decide +kernel) (ns_aload_n 1 rfl rfl) rfl ?_
    refine nk_getC (f := (4, 2, 20)) (x := 28) (len := 3) (ci := 7) (k := 5) (pc' := 104) ja_okT mJ_402 (by decide +kernel) (by decide +kernel) (by decide +kernel) (by decide) t_l0 rfl ?_
    have t1 : nk_ar ja_Tt (ja_c l0 5) = some (2, 20) := nk_ta ja_okT t_l0 (by decide +kernel)
    refine nk_p (i := .iload_n 3) (len := 1) (pc' := 105) mJ_402 (by decide +kernel) (ns_iload_n 4 rfl rfl) rfl ?_
    refine nk_p (i := .iload 10) (len := 2) (pc' := 107) mJ_402 (by decide +kernel) (ns_iload 10 rfl) rfl ?_
    refine nk_p (i := .iadd) (len := 1) (pc' := 108) mJ_402 (by decide +kernel) ns_iadd rfl ?_
    obtain ⟨h2, hr⟩ := nk_cke hr
    refine nk_lald (len := 1) (N := 20) (pc' := 109) mJ_402 (by decide +kernel) t1 h2.1 h2.2 rfl rfl ?_
    refine nk_ldc2 (x := 92) (len := 3) (X := 13510798882111488) (v := 13510798882111488) (pc' := 112) mJ_402 (by decide +kernel) (by decide +kernel) (by decide +kernel) rfl ?_
    refine nk_p (i := .land) (len := 1) (pc' := 113) mJ_402 (by decide +kernel) ns_land rfl ?_
    refine nk_p (i := .goto 4) (len := 3) (pc' := 117) mJ_402 (by decide +kernel) (ns_goto (by decide +kernel)) rfl ?_
    refine nk_sub [1, 2, 3, 4, 5, 6, 7, 8, 9, 10, 0] (L' := [(0, nk_r l0), (1, nk_i l1), (2, nk_i l2), (3, nk_i l3), (4, nk_i l4), (5, nk_l l5), (7, nk_i l7), (8, nk_i l8), (9, nk_i l9), (10, nk_i l10), (12, nk_l s0)]) rfl ?_
    exact ja_X7_enter_b117_ok zs hrec29 _ _ _ _ _ _ _ _ _ _ _ _ _ _ t_l0 hr
noncomputable def ja_X7_enter_b84 (rec29 : Nat → Int → Int → Int → Int → Int → Int → Int → Int → Int → nk_S → Option (Int × nk_S)) (l0 : Nat) (l1 : Int) (l2 : Int) (l3 : Int) (l4 : Int) (l5 : Int) (l7 : Int) (l8 : Int) (l9 : Int) (l10 : Int) (l11 : Int) (S : nk_S) : Option (Int × nk_S) :=
  if 0 ≤ (nk_w (l3 + l10)) ∧ (nk_w (l3 + l10)) < 20 then
  ja_X7_enter_b93 rec29 l0 l1 l2 l3 l4 l5 l7 l8 l9 l10 l11 (S.1 (ja_c l0 4) (nk_w (l3 + l10)).toNat) S
  else none
theorem ja_X7_enter_b84_ok (zs : List Int32) {rec29 : Nat → Int → Int → Int → Int → Int → Int → Int → Int → Int → nk_S → Option (Int × nk_S)} (hrec29 : ∀ (l0 : Nat) (l1 : Int) (l2 : Int) (l3 : Int) (l4 : Int) (l5 : Int) (l7 : Int) (l8 : Int) (l9 : Int) (l10 : Int) (S : nk_S) (R : Int × nk_S), nk_cl ja_Tt l0 = some 7 → rec29 l0 l1 l2 l3 l4 l5 l7 l8 l9 l10 S = some R → nk_K ja_Tt mi_Γ (mi_ev zs) 0 402 29 [(0, nk_r l0), (1, nk_i l1), (2, nk_i l2), (3, nk_i l3), (4, nk_i l4), (5, nk_l l5), (7, nk_i l7), (8, nk_i l8), (9, nk_i l9), (10, nk_i l10)] [] S R) : ∀ (l0 : Nat) (l1 : Int) (l2 : Int) (l3 : Int) (l4 : Int) (l5 : Int) (l7 : Int) (l8 : Int) (l9 : Int) (l10 : Int) (l11 : Int) (S : nk_S) (R : Int × nk_S), nk_cl ja_Tt l0 = some 7 → ja_X7_enter_b84 rec29 l0 l1 l2 l3 l4 l5 l7 l8 l9 l10 l11 S = some R → nk_K ja_Tt mi_Γ (mi_ev zs) 0 402 84 [(0, nk_r l0), (1, nk_i l1), (2, nk_i l2), (3, nk_i l3), (4, nk_i l4), (5, nk_l l5), (7, nk_i l7), (8, nk_i l8), (9, nk_i l9), (10, nk_i l10), (11, nk_i l11)] [] S R := by
  intro l0 l1 l2 l3 l4 l5 l7 l8 l9 l10 l11 S R t_l0 hr
  unfold ja_X7_enter_b84 at hr
  refine nk_p (i := .aload_n 0) (len := 1) (pc' := 85) mJ_402 (by decide +kernel) (ns_aload_n 0 rfl rfl) rfl ?_
  refine nk_getC (f := (4, 2, 20)) (x := 25) (len := 3) (ci := 7) (k := 4) (pc' := 88) ja_okT mJ_402 (by decide +kernel) (by decide +kernel) (by decide +kernel) (by decide) t_l0 rfl ?_
  have t1 : nk_ar ja_Tt (ja_c l0 4) = some (2, 20) := nk_ta ja_okT t_l0 (by decide +kernel)
  refine nk_p (i := .iload_n 3) (len := 1) (pc' := 89) mJ_402 (by decide +kernel) (ns_iload_n 3 rfl rfl) rfl ?_
  refine nk_p (i := .iload 10) (len := 2) (pc' := 91) mJ_402 (by decide +kernel) (ns_iload 9 rfl) rfl ?_
  refine nk_p (i := .iadd) (len := 1) (pc' := 92) mJ_402 (by decide +kernel) ns_iadd rfl ?_
  obtain ⟨h2, hr⟩ := nk_cke hr
  refine nk_lald (len := 1) (N := 20) (pc' := 93) mJ_402 (by decide +kernel) t1 h2.1 h2.2 rfl rfl ?_
  exact ja_X7_enter_b93_ok zs hrec29 _ _ _ _ _ _ _ _ _ _ _ _ _ _ t_l0 hr
noncomputable def ja_X7_enter_b56 (rec29 : Nat → Int → Int → Int → Int → Int → Int → Int → Int → Int → nk_S → Option (Int × nk_S)) (l0 : Nat) (l1 : Int) (l2 : Int) (l3 : Int) (l4 : Int) (l5 : Int) (l7 : Int) (l8 : Int) (l9 : Int) (l10 : Int) (s0 : Int) (S : nk_S) : Option (Int × nk_S) :=
  if s0 = 0 then
    ja_X7_enter_b93 rec29 l0 l1 l2 l3 l4 l5 l7 l8 l9 l10 s0 0 S
  else
    if l10 = 0 then
      if l5 = 0 then
        ja_X7_enter_b84 rec29 l0 l1 l2 l3 l4 l5 l7 l8 l9 l10 s0 S
      else
        ja_X7_enter_b93 rec29 l0 l1 l2 l3 l4 l5 l7 l8 l9 l10 s0 l5 S
    else
      ja_X7_enter_b84 rec29 l0 l1 l2 l3 l4 l5 l7 l8 l9 l10 s0 S
theorem ja_X7_enter_b56_ok (zs : List Int32) {rec29 : Nat → Int → Int → Int → Int → Int → Int → Int → Int → Int → nk_S → Option (Int × nk_S)} (hrec29 : ∀ (l0 : Nat) (l1 : Int) (l2 : Int) (l3 : Int) (l4 : Int) (l5 : Int) (l7 : Int) (l8 : Int) (l9 : Int) (l10 : Int) (S : nk_S) (R : Int × nk_S), nk_cl ja_Tt l0 = some 7 → rec29 l0 l1 l2 l3 l4 l5 l7 l8 l9 l10 S = some R → nk_K ja_Tt mi_Γ (mi_ev zs) 0 402 29 [(0, nk_r l0), (1, nk_i l1), (2, nk_i l2), (3, nk_i l3), (4, nk_i l4), (5, nk_l l5), (7, nk_i l7), (8, nk_i l8), (9, nk_i l9), (10, nk_i l10)] [] S R) : ∀ (l0 : Nat) (l1 : Int) (l2 : Int) (l3 : Int) (l4 : Int) (l5 : Int) (l7 : Int) (l8 : Int) (l9 : Int) (l10 : Int) (s0 : Int) (S : nk_S) (R : Int × nk_S), nk_cl ja_Tt l0 = some 7 → ja_X7_enter_b56 rec29 l0 l1 l2 l3 l4 l5 l7 l8 l9 l10 s0 S = some R → nk_K ja_Tt mi_Γ (mi_ev zs) 0 402 56 [(0, nk_r l0), (1, nk_i l1), (2, nk_i l2), (3, nk_i l3), (4, nk_i l4), (5, nk_l l5), (7, nk_i l7), (8, nk_i l8), (9, nk_i l9), (10, nk_i l10)] [nk_i s0] S R := by
  intro l0 l1 l2 l3 l4 l5 l7 l8 l9 l10 s0 S R t_l0 hr
  unfold ja_X7_enter_b56 at hr
  refine nk_p (i := .istore 11) (len := 2) (pc' := 58) mJ_402 (by decide +kernel) (ns_istore (L' := [(11, nk_i s0), (0, nk_r l0), (1, nk_i l1), (2, nk_i l2), (3, nk_i l3), (4, nk_i l4), (5, nk_l l5), (7, nk_i l7), (8, nk_i l8), (9, nk_i l9), (10, nk_i l10)]) rfl rfl (by decide +kernel)) rfl ?_
  refine nk_p (i := .iload 11) (len := 2) (pc' := 60) mJ_402 (by decide +kernel) (ns_iload 0 rfl) rfl ?_
  refine nk_icond (c := .ne) (off := 7) (len := 3) (t := 67) (pc' := 63) mJ_402 (by decide +kernel) (by decide +kernel) rfl (fun hc => ?_) (fun hc => ?_)
  · have hr := nk_ifn (c := s0 = 0) hc hr
    refine nk_p (i := .iload 10) (len := 2) (pc' := 69) mJ_402 (by decide +kernel) (ns_iload 10 rfl) rfl ?_
    refine nk_icond (c := .ne) (off := 15) (len := 3) (t := 84) (pc' := 72) mJ_402 (by decide +kernel) (by decide +kernel) rfl (fun hc => ?_) (fun hc => ?_)
    · have hr := nk_ifn (c := l10 = 0) hc hr
      refine nk_sub [1, 2, 3, 4, 5, 6, 7, 8, 9, 10, 0] (L' := [(0, nk_r l0), (1, nk_i l1), (2, nk_i l2), (3, nk_i l3), (4, nk_i l4), (5, nk_l l5), (7, nk_i l7), (8, nk_i l8), (9, nk_i l9), (10, nk_i l10), (11, nk_i s0)]) rfl ?_
      exact ja_X7_enter_b84_ok zs hrec29 _ _ _ _ _ _ _ _ _ _ _ _ _ t_l0 hr
    · have hr := nk_ifp (c := l10 = 0) (Decidable.of_not_not hc) hr
      refine nk_p (i := .lload 5) (len := 2) (pc' := 74) mJ_402 (by decide +kernel) (ns_lload 6 rfl) rfl ?_
      refine nk_p (i := .lconst 0) (len := 1) (pc' := 75) mJ_402 (by decide +kernel) (ns_lconst (c := 0) (by decide +kernel)) rfl ?_
      refine nk_p (i := .lcmp) (len := 1) (pc' := 76) mJ_402 (by decide +kernel) ns_lcmp rfl ?_
      refine nk_lcond (c := .eq) (off := 8) (len := 3) (t := 84) (pc' := 79) mJ_402 (by decide +kernel) (by decide +kernel) rfl (fun hc => ?_) (fun hc => ?_)
      · have hr := nk_ifp (c := l5 = 0) hc hr
        refine nk_sub [1, 2, 3, 4, 5, 6, 7, 8, 9, 10, 0] (L' := [(0, nk_r l0), (1, nk_i l1), (2, nk_i l2), (3, nk_i l3), (4, nk_i l4), (5, nk_l l5), (7, nk_i l7), (8, nk_i l8), (9, nk_i l9), (10, nk_i l10), (11, nk_i s0)]) rfl ?_
        exact ja_X7_enter_b84_ok zs hrec29 _ _ _ _ _ _ _ _ _ _ _ _ _ t_l0 hr
      · have hr := nk_ifn (c := l5 = 0) hc hr
        refine nk_p (i := .lload 5) (len := 2) (pc' := 81) mJ_402 (by decide +kernel) (ns_lload 6 rfl) rfl ?_
        refine nk_p (i := .goto 12) (len := 3) (pc' := 93) mJ_402 (by decide +kernel) (ns_goto (by decide +kernel)) rfl ?_
        refine nk_sub [1, 2, 3, 4, 5, 6, 7, 8, 9, 10, 0] (L' := [(0, nk_r l0), (1, nk_i l1), (2, nk_i l2), (3, nk_i l3), (4, nk_i l4), (5, nk_l l5), (7, nk_i l7), (8, nk_i l8), (9, nk_i l9), (10, nk_i l10), (11, nk_i s0)]) rfl ?_
        exact ja_X7_enter_b93_ok zs hrec29 _ _ _ _ _ _ _ _ _ _ _ _ _ _ t_l0 hr
  · have hr := nk_ifp (c := s0 = 0) (Decidable.of_not_not hc) hr
    refine nk_p (i := .lconst 0) (len := 1) (pc' := 64) mJ_402 (by decide +kernel) (ns_lconst (c := 0) (by decide +kernel)) rfl ?_
    refine nk_p (i := .goto 29) (len := 3) (pc' := 93) mJ_402 (by decide +kernel) (ns_goto (by decide +kernel)) rfl ?_
    refine nk_sub [1, 2, 3, 4, 5, 6, 7, 8, 9, 10, 0] (L' := [(0, nk_r l0), (1, nk_i l1), (2, nk_i l2), (3, nk_i l3), (4, nk_i l4), (5, nk_l l5), (7, nk_i l7), (8, nk_i l8), (9, nk_i l9), (10, nk_i l10), (11, nk_i s0)]) rfl ?_
    exact ja_X7_enter_b93_ok zs hrec29 _ _ _ _ _ _ _ _ _ _ _ _ _ _ t_l0 hr
noncomputable def ja_X7_enter_b55 (rec29 : Nat → Int → Int → Int → Int → Int → Int → Int → Int → Int → nk_S → Option (Int × nk_S)) (l0 : Nat) (l1 : Int) (l2 : Int) (l3 : Int) (l4 : Int) (l5 : Int) (l7 : Int) (l8 : Int) (l9 : Int) (l10 : Int) (S : nk_S) : Option (Int × nk_S) :=
  ja_X7_enter_b56 rec29 l0 l1 l2 l3 l4 l5 l7 l8 l9 l10 0 S
theorem ja_X7_enter_b55_ok (zs : List Int32) {rec29 : Nat → Int → Int → Int → Int → Int → Int → Int → Int → Int → nk_S → Option (Int × nk_S)} (hrec29 : ∀ (l0 : Nat) (l1 : Int) (l2 : Int) (l3 : Int) (l4 : Int) (l5 : Int) (l7 : Int) (l8 : Int) (l9 : Int) (l10 : Int) (S : nk_S) (R : Int × nk_S), nk_cl ja_Tt l0 = some 7 → rec29 l0 l1 l2 l3 l4 l5 l7 l8 l9 l10 S = some R → nk_K ja_Tt mi_Γ (mi_ev zs) 0 402 29 [(0, nk_r l0), (1, nk_i l1), (2, nk_i l2), (3, nk_i l3), (4, nk_i l4), (5, nk_l l5), (7, nk_i l7), (8, nk_i l8), (9, nk_i l9), (10, nk_i l10)] [] S R) : ∀ (l0 : Nat) (l1 : Int) (l2 : Int) (l3 : Int) (l4 : Int) (l5 : Int) (l7 : Int) (l8 : Int) (l9 : Int) (l10 : Int) (S : nk_S) (R : Int × nk_S), nk_cl ja_Tt l0 = some 7 → ja_X7_enter_b55 rec29 l0 l1 l2 l3 l4 l5 l7 l8 l9 l10 S = some R → nk_K ja_Tt mi_Γ (mi_ev zs) 0 402 55 [(0, nk_r l0), (1, nk_i l1), (2, nk_i l2), (3, nk_i l3), (4, nk_i l4), (5, nk_l l5), (7, nk_i l7), (8, nk_i l8), (9, nk_i l9), (10, nk_i l10)] [] S R := by
  intro l0 l1 l2 l3 l4 l5 l7 l8 l9 l10 S R t_l0 hr
  unfold ja_X7_enter_b55 at hr
  refine nk_p (i := .iconst 0) (len := 1) (pc' := 56) mJ_402 (by decide +kernel) (ns_iconst (c := 0) (by decide +kernel)) rfl ?_
  exact ja_X7_enter_b56_ok zs hrec29 _ _ _ _ _ _ _ _ _ _ _ _ _ t_l0 hr
noncomputable def ja_X7_enter_b29 (rec29 : Nat → Int → Int → Int → Int → Int → Int → Int → Int → Int → nk_S → Option (Int × nk_S)) (l0 : Nat) (l1 : Int) (l2 : Int) (l3 : Int) (l4 : Int) (l5 : Int) (l7 : Int) (l8 : Int) (l9 : Int) (l10 : Int) (S : nk_S) : Option (Int × nk_S) :=
  if l2 ≤ l10 then
    if l8 = 0 then
      some (0, S)
    else
      if 0 ≤ l1 ∧ l1 < 1024 then
      nk_lt (nk_wi S (ja_c l0 2) l1.toNat 1) fun S3 =>
      nk_bd (ja_X7_wake l0 l1 S3) fun r5 S6 =>
      some (0, S6)
      else none
  else
    if l4 ≤ l10 then
      ja_X7_enter_b55 rec29 l0 l1 l2 l3 l4 l5 l7 l8 l9 l10 S
    else
      if 20 ≤ (nk_w (l3 + l10)) then
        ja_X7_enter_b55 rec29 l0 l1 l2 l3 l4 l5 l7 l8 l9 l10 S
      else
        ja_X7_enter_b56 rec29 l0 l1 l2 l3 l4 l5 l7 l8 l9 l10 1 S
theorem ja_X7_enter_b29_ok (zs : List Int32) {rec29 : Nat → Int → Int → Int → Int → Int → Int → Int → Int → Int → nk_S → Option (Int × nk_S)} (hrec29 : ∀ (l0 : Nat) (l1 : Int) (l2 : Int) (l3 : Int) (l4 : Int) (l5 : Int) (l7 : Int) (l8 : Int) (l9 : Int) (l10 : Int) (S : nk_S) (R : Int × nk_S), nk_cl ja_Tt l0 = some 7 → rec29 l0 l1 l2 l3 l4 l5 l7 l8 l9 l10 S = some R → nk_K ja_Tt mi_Γ (mi_ev zs) 0 402 29 [(0, nk_r l0), (1, nk_i l1), (2, nk_i l2), (3, nk_i l3), (4, nk_i l4), (5, nk_l l5), (7, nk_i l7), (8, nk_i l8), (9, nk_i l9), (10, nk_i l10)] [] S R) : ∀ (l0 : Nat) (l1 : Int) (l2 : Int) (l3 : Int) (l4 : Int) (l5 : Int) (l7 : Int) (l8 : Int) (l9 : Int) (l10 : Int) (S : nk_S) (R : Int × nk_S), nk_cl ja_Tt l0 = some 7 → ja_X7_enter_b29 rec29 l0 l1 l2 l3 l4 l5 l7 l8 l9 l10 S = some R → nk_K ja_Tt mi_Γ (mi_ev zs) 0 402 29 [(0, nk_r l0), (1, nk_i l1), (2, nk_i l2), (3, nk_i l3), (4, nk_i l4), (5, nk_l l5), (7, nk_i l7), (8, nk_i l8), (9, nk_i l9), (10, nk_i l10)] [] S R := by
  intro l0 l1 l2 l3 l4 l5 l7 l8 l9 l10 S R t_l0 hr
  unfold ja_X7_enter_b29 at hr
  refine nk_p (i := .iload 10) (len := 2) (pc' := 31) mJ_402 (by decide +kernel) (ns_iload 9 rfl) rfl ?_
  refine nk_p (i := .iload_n 2) (len := 1) (pc' := 32) mJ_402 (by decide +kernel) (ns_iload_n 2 rfl rfl) rfl ?_
  refine nk_icmp (c := .ge) (off := 113) (len := 3) (t := 145) (pc' := 35) mJ_402 (by decide +kernel) (by decide +kernel) rfl (fun hc => ?_) (fun hc => ?_)
  · have hr := nk_ifp (c := l2 ≤ l10) hc hr
    refine nk_p (i := .iload 8) (len := 2) (pc' := 147) mJ_402 (by decide +kernel) (ns_iload 7 rfl) rfl ?_
    refine nk_icond (c := .eq) (off := 15) (len := 3) (t := 162) (pc' := 150) mJ_402 (by decide +kernel) (by decide +kernel) rfl (fun hc => ?_) (fun hc => ?_)
    · have hr := nk_ifp (c := l8 = 0) hc hr
      cases hr
      exact nk_vret (len := 1) mJ_402 (by decide +kernel) rfl
    · have hr := nk_ifn (c := l8 = 0) hc hr
      refine nk_p (i := .aload_n 0) (len := 1) (pc' := 151) mJ_402 (by decide +kernel) (ns_aload_n 0 rfl rfl) rfl ?_
      refine nk_getC (f := (4, 3, 1024)) (x := 18) (len := 3) (ci := 7) (k := 2) (pc' := 154) ja_okT mJ_402 (by decide +kernel) (by decide +kernel) (by decide +kernel) (by decide) t_l0 rfl ?_
      have t1 : nk_ar ja_Tt (ja_c l0 2) = some (3, 1024) := nk_ta ja_okT t_l0 (by decide +kernel)
      refine nk_p (i := .iload_n 1) (len := 1) (pc' := 155) mJ_402 (by decide +kernel) (ns_iload_n 1 rfl rfl) rfl ?_
      refine nk_p (i := .iconst 1) (len := 1) (pc' := 156) mJ_402 (by decide +kernel) (ns_iconst (c := 1) (by decide +kernel)) rfl ?_
      obtain ⟨h2, hr⟩ := nk_cke hr
      obtain ⟨S3, h4, hr⟩ := nk_lte hr
      refine nk_zast (len := 1) (N := 1024) (pc' := 157) mJ_402 (by decide +kernel) t1 h2.1 h2.2 (by decide) rfl rfl h4 ?_
      refine nk_p (i := .aload_n 0) (len := 1) (pc' := 158) mJ_402 (by decide +kernel) (ns_aload_n 0 rfl rfl) rfl ?_
      refine nk_p (i := .iload_n 1) (len := 1) (pc' := 159) mJ_402 (by decide +kernel) (ns_iload_n 1 rfl rfl) rfl ?_
      obtain ⟨r5, S6, h7, hr⟩ := nk_bde hr
      refine nk_callV (ci := 7) (n := 1) (x := 89) (len := 3) (j' := 412) (q' := 0) (r := r5) (S' := S6) (L2 := [(0, nk_r l0), (1, nk_i l1)]) (rest := []) (st' := []) (pc' := 162) mJ_402 (by decide +kernel) (by decide +kernel) rfl rfl t_l0 (Nat.le_of_ble_eq_true rfl) mJ_412 (Nat.le_of_ble_eq_true rfl) rfl (ja_X7_wake_ok zs _ _ _ _ t_l0 h7) rfl ?_
      cases hr
      exact nk_vret (len := 1) mJ_402 (by decide +kernel) rfl
  · have hr := nk_ifn (c := l2 ≤ l10) hc hr
    refine nk_p (i := .iload 10) (len := 2) (pc' := 37) mJ_402 (by decide +kernel) (ns_iload 9 rfl) rfl ?_
    refine nk_p (i := .iload 4) (len := 2) (pc' := 39) mJ_402 (by decide +kernel) (ns_iload 4 rfl) rfl ?_
    refine nk_icmp (c := .ge) (off := 16) (len := 3) (t := 55) (pc' := 42) mJ_402 (by decide +kernel) (by decide +kernel) rfl (fun hc => ?_) (fun hc => ?_)
    · have hr := nk_ifp (c := l4 ≤ l10) hc hr
      exact ja_X7_enter_b55_ok zs hrec29 _ _ _ _ _ _ _ _ _ _ _ _ t_l0 hr
    · have hr := nk_ifn (c := l4 ≤ l10) hc hr
      refine nk_p (i := .iload_n 3) (len := 1) (pc' := 43) mJ_402 (by decide +kernel) (ns_iload_n 3 rfl rfl) rfl ?_
      refine nk_p (i := .iload 10) (len := 2) (pc' := 45) mJ_402 (by decide +kernel) (ns_iload 9 rfl) rfl ?_
      refine nk_p (i := .iadd) (len := 1) (pc' := 46) mJ_402 (by decide +kernel) ns_iadd rfl ?_
      refine nk_p (i := .bipush 20) (len := 2) (pc' := 48) mJ_402 (by decide +kernel) (ns_bipush (c := 20) (by decide +kernel)) rfl ?_
      refine nk_icmp (c := .ge) (off := 7) (len := 3) (t := 55) (pc' := 51) mJ_402 (by decide +kernel) (by decide +kernel) rfl (fun hc => ?_) (fun hc => ?_)
      · have hr := nk_ifp (c := 20 ≤ (nk_w (l3 + l10))) hc hr
        exact ja_X7_enter_b55_ok zs hrec29 _ _ _ _ _ _ _ _ _ _ _ _ t_l0 hr
      · have hr := nk_ifn (c := 20 ≤ (nk_w (l3 + l10))) hc hr
        refine nk_p (i := .iconst 1) (len := 1) (pc' := 52) mJ_402 (by decide +kernel) (ns_iconst (c := 1) (by decide +kernel)) rfl ?_
        refine nk_p (i := .goto 4) (len := 3) (pc' := 56) mJ_402 (by decide +kernel) (ns_goto (by decide +kernel)) rfl ?_
        exact ja_X7_enter_b56_ok zs hrec29 _ _ _ _ _ _ _ _ _ _ _ _ _ t_l0 hr
noncomputable def ja_X7_enter_L29 : Nat → Nat → Int → Int → Int → Int → Int → Int → Int → Int → Int → nk_S → Option (Int × nk_S)
  | 0, _, _, _, _, _, _, _, _, _, _, _ => none
  | n + 1, l0, l1, l2, l3, l4, l5, l7, l8, l9, l10, S => ja_X7_enter_b29 (ja_X7_enter_L29 n) l0 l1 l2 l3 l4 l5 l7 l8 l9 l10 S
theorem ja_X7_enter_L29_ok (zs : List Int32) : ∀ n : Nat, ∀ (l0 : Nat) (l1 : Int) (l2 : Int) (l3 : Int) (l4 : Int) (l5 : Int) (l7 : Int) (l8 : Int) (l9 : Int) (l10 : Int) (S : nk_S) (R : Int × nk_S), nk_cl ja_Tt l0 = some 7 → ja_X7_enter_L29 n l0 l1 l2 l3 l4 l5 l7 l8 l9 l10 S = some R → nk_K ja_Tt mi_Γ (mi_ev zs) 0 402 29 [(0, nk_r l0), (1, nk_i l1), (2, nk_i l2), (3, nk_i l3), (4, nk_i l4), (5, nk_l l5), (7, nk_i l7), (8, nk_i l8), (9, nk_i l9), (10, nk_i l10)] [] S R := by
  intro n
  induction n with
  | zero => intro _ _ _ _ _ _ _ _ _ _ _ _ _ hr; cases hr
  | succ n ih => intro l0 l1 l2 l3 l4 l5 l7 l8 l9 l10 S R t_l0 hr; exact ja_X7_enter_b29_ok zs ih l0 l1 l2 l3 l4 l5 l7 l8 l9 l10 S R t_l0 hr
noncomputable def ja_X7_enter_b14 (l0 : Nat) (l1 : Int) (l2 : Int) (l3 : Int) (l4 : Int) (l5 : Int) (s0 : Int) (S : nk_S) : Option (Int × nk_S) :=
  nk_lt (nk_w (l1 * 20)) fun v1 =>
  ja_X7_enter_L29 nk_big l0 l1 l2 l3 l4 l5 s0 s0 v1 0 S
theorem ja_X7_enter_b14_ok (zs : List Int32) : ∀ (l0 : Nat) (l1 : Int) (l2 : Int) (l3 : Int) (l4 : Int) (l5 : Int) (s0 : Int) (S : nk_S) (R : Int × nk_S), nk_cl ja_Tt l0 = some 7 → ja_X7_enter_b14 l0 l1 l2 l3 l4 l5 s0 S = some R → nk_K ja_Tt mi_Γ (mi_ev zs) 0 402 14 [(0, nk_r l0), (1, nk_i l1), (2, nk_i l2), (3, nk_i l3), (4, nk_i l4), (5, nk_l l5)] [nk_i s0] S R := by
  intro l0 l1 l2 l3 l4 l5 s0 S R t_l0 hr
  unfold ja_X7_enter_b14 at hr
  refine nk_p (i := .istore 7) (len := 2) (pc' := 16) mJ_402 (by decide +kernel) (ns_istore (L' := [(7, nk_i s0), (0, nk_r l0), (1, nk_i l1), (2, nk_i l2), (3, nk_i l3), (4, nk_i l4), (5, nk_l l5)]) rfl rfl (by decide +kernel)) rfl ?_
  refine nk_p (i := .iload 7) (len := 2) (pc' := 18) mJ_402 (by decide +kernel) (ns_iload 0 rfl) rfl ?_
  refine nk_p (i := .istore 8) (len := 2) (pc' := 20) mJ_402 (by decide +kernel) (ns_istore (L' := [(8, nk_i s0), (7, nk_i s0), (0, nk_r l0), (1, nk_i l1), (2, nk_i l2), (3, nk_i l3), (4, nk_i l4), (5, nk_l l5)]) rfl rfl (by decide +kernel)) rfl ?_
  refine nk_p (i := .iload_n 1) (len := 1) (pc' := 21) mJ_402 (by decide +kernel) (ns_iload_n 3 rfl rfl) rfl ?_
  refine nk_p (i := .bipush 20) (len := 2) (pc' := 23) mJ_402 (by decide +kernel) (ns_bipush (c := 20) (by decide +kernel)) rfl ?_
  refine nk_p (i := .imul) (len := 1) (pc' := 24) mJ_402 (by decide +kernel) ns_imul rfl ?_
  obtain ⟨v1, h2, hr⟩ := nk_lte hr
  refine nk_p (i := .istore 9) (len := 2) (pc' := 26) mJ_402 (by decide +kernel) (ns_istore (L' := [(9, nk_i v1), (8, nk_i s0), (7, nk_i s0), (0, nk_r l0), (1, nk_i l1), (2, nk_i l2), (3, nk_i l3), (4, nk_i l4), (5, nk_l l5)]) h2 rfl (by decide +kernel)) rfl ?_
  refine nk_p (i := .iconst 0) (len := 1) (pc' := 27) mJ_402 (by decide +kernel) (ns_iconst (c := 0) (by decide +kernel)) rfl ?_
  refine nk_p (i := .istore 10) (len := 2) (pc' := 29) mJ_402 (by decide +kernel) (ns_istore (L' := [(10, nk_i 0), (9, nk_i v1), (8, nk_i s0), (7, nk_i s0), (0, nk_r l0), (1, nk_i l1), (2, nk_i l2), (3, nk_i l3), (4, nk_i l4), (5, nk_l l5)]) rfl rfl (by decide +kernel)) rfl ?_
  refine nk_sub [4, 5, 6, 7, 8, 9, 3, 2, 1, 0] (L' := [(0, nk_r l0), (1, nk_i l1), (2, nk_i l2), (3, nk_i l3), (4, nk_i l4), (5, nk_l l5), (7, nk_i s0), (8, nk_i s0), (9, nk_i v1), (10, nk_i 0)]) rfl ?_
  exact ja_X7_enter_L29_ok zs nk_big _ _ _ _ _ _ _ _ _ _ _ _ t_l0 hr
noncomputable def ja_X7_enter (l0 : Nat) (l1 : Int) (l2 : Int) (l3 : Int) (l4 : Int) (l5 : Int) (S : nk_S) : Option (Int × nk_S) :=
  if 0 ≤ l1 ∧ l1 < 1024 then
  if (S.1 (ja_c l0 2) l1.toNat) = 0 then
    ja_X7_enter_b14 l0 l1 l2 l3 l4 l5 1 S
  else
    ja_X7_enter_b14 l0 l1 l2 l3 l4 l5 0 S
  else none
theorem ja_X7_enter_ok (zs : List Int32) : ∀ (l0 : Nat) (l1 : Int) (l2 : Int) (l3 : Int) (l4 : Int) (l5 : Int) (S : nk_S) (R : Int × nk_S), nk_cl ja_Tt l0 = some 7 → ja_X7_enter l0 l1 l2 l3 l4 l5 S = some R → nk_K ja_Tt mi_Γ (mi_ev zs) 0 402 0 [(0, nk_r l0), (1, nk_i l1), (2, nk_i l2), (3, nk_i l3), (4, nk_i l4), (5, nk_l l5)] [] S R := by
  intro l0 l1 l2 l3 l4 l5 S R t_l0 hr
  unfold ja_X7_enter at hr
  refine nk_p (i := .aload_n 0) (len := 1) (pc' := 1) mJ_402 (by decide +kernel) (ns_aload_n 0 rfl rfl) rfl ?_
  refine nk_getC (f := (4, 3, 1024)) (x := 18) (len := 3) (ci := 7) (k := 2) (pc' := 4) ja_okT mJ_402 (by decide +kernel) (by decide +kernel) (by decide +kernel) (by decide) t_l0 rfl ?_
  have t1 : nk_ar ja_Tt (ja_c l0 2) = some (3, 1024) := nk_ta ja_okT t_l0 (by decide +kernel)
  refine nk_p (i := .iload_n 1) (len := 1) (pc' := 5) mJ_402 (by decide +kernel) (ns_iload_n 1 rfl rfl) rfl ?_
  obtain ⟨h2, hr⟩ := nk_cke hr
  refine nk_bald (t := 3) (len := 1) (N := 1024) (pc' := 6) mJ_402 (by decide +kernel) t1 (by decide) h2.1 h2.2 rfl rfl ?_
  refine nk_icond (c := .ne) (off := 7) (len := 3) (t := 13) (pc' := 9) mJ_402 (by decide +kernel) (by decide +kernel) rfl (fun hc => ?_) (fun hc => ?_)
  · have hr := nk_ifn (c := (S.1 (ja_c l0 2) l1.toNat) = 0) hc hr
    refine nk_p (i := .iconst 0) (len := 1) (pc' := 14) mJ_402 (by decide +kernel) (ns_iconst (c := 0) (by decide +kernel)) rfl ?_
    exact ja_X7_enter_b14_ok zs _ _ _ _ _ _ _ _ _ t_l0 hr
  · have hr := nk_ifp (c := (S.1 (ja_c l0 2) l1.toNat) = 0) (Decidable.of_not_not hc) hr
    refine nk_p (i := .iconst 1) (len := 1) (pc' := 10) mJ_402 (by decide +kernel) (ns_iconst (c := 1) (by decide +kernel)) rfl ?_
    refine nk_p (i := .goto 4) (len := 3) (pc' := 14) mJ_402 (by decide +kernel) (ns_goto (by decide +kernel)) rfl ?_
    exact ja_X7_enter_b14_ok zs _ _ _ _ _ _ _ _ _ t_l0 hr
/-! SafeCode$States takeWaiting (I)I -/
noncomputable def ja_X7_takeWaiting_b15 (rec15 : Nat → Int → Int → nk_S → Option (Int × nk_S)) (l0 : Nat) (l2 : Int) (l4 : Int) (S : nk_S) : Option (Int × nk_S) :=
  if 16 ≤ l4 then
    some ((-1), S)
  else
    if 0 ≤ l4 ∧ l4 < 16 then
    nk_lt (nk_land l2 (S.1 (ja_c l0 3) l4.toNat)) fun v3 =>
    if v3 = 0 then
      nk_lt (nk_w (l4 + 1)) fun v5 =>
      rec15 l0 (-1) v5 S
    else
      nk_bd (ja_J13_lowestOneBit_067f4 v3 S) fun r7 S8 =>
      nk_lt (nk_wi S8 (ja_c l0 3) l4.toNat (nk_lxor (S.1 (ja_c l0 3) l4.toNat) r7)) fun S10 =>
      nk_bd (ja_J13_numberOfTrailingZeros_95d88 v3 S10) fun r12 S13 =>
      some ((nk_w ((nk_ishl l4 6) + r12)), S13)
    else none
theorem ja_X7_takeWaiting_b15_ok (zs : List Int32) {rec15 : Nat → Int → Int → nk_S → Option (Int × nk_S)} (hrec15 : ∀ (l0 : Nat) (l2 : Int) (l4 : Int) (S : nk_S) (R : Int × nk_S), nk_cl ja_Tt l0 = some 7 → rec15 l0 l2 l4 S = some R → nk_K ja_Tt mi_Γ (mi_ev zs) 1 411 15 [(0, nk_r l0), (2, nk_l l2), (4, nk_i l4)] [] S R) : ∀ (l0 : Nat) (l2 : Int) (l4 : Int) (S : nk_S) (R : Int × nk_S), nk_cl ja_Tt l0 = some 7 → ja_X7_takeWaiting_b15 rec15 l0 l2 l4 S = some R → nk_K ja_Tt mi_Γ (mi_ev zs) 1 411 15 [(0, nk_r l0), (2, nk_l l2), (4, nk_i l4)] [] S R := by
  intro l0 l2 l4 S R t_l0 hr
  unfold ja_X7_takeWaiting_b15 at hr
  refine nk_p (i := .iload 4) (len := 2) (pc' := 17) mJ_411 (by decide +kernel) (ns_iload 2 rfl) rfl ?_
  refine nk_p (i := .bipush 16) (len := 2) (pc' := 19) mJ_411 (by decide +kernel) (ns_bipush (c := 16) (by decide +kernel)) rfl ?_
  refine nk_icmp (c := .ge) (off := 54) (len := 3) (t := 73) (pc' := 22) mJ_411 (by decide +kernel) (by decide +kernel) rfl (fun hc => ?_) (fun hc => ?_)
  · have hr := nk_ifp (c := 16 ≤ l4) hc hr
    refine nk_p (i := .iconst (-1)) (len := 1) (pc' := 74) mJ_411 (by decide +kernel) (ns_iconst (c := (-1)) (by decide +kernel)) rfl ?_
    cases hr
    exact nk_iret (ty := .int) (len := 1) mJ_411 (by decide +kernel) rfl (nk_nar_i _)
  · have hr := nk_ifn (c := 16 ≤ l4) hc hr
    refine nk_p (i := .lload_n 2) (len := 1) (pc' := 23) mJ_411 (by decide +kernel) (ns_lload_n 1 rfl rfl) rfl ?_
    refine nk_p (i := .aload_n 0) (len := 1) (pc' := 24) mJ_411 (by decide +kernel) (ns_aload_n 0 rfl rfl) rfl ?_
    refine nk_getC (f := (4, 2, 16)) (x := 22) (len := 3) (ci := 7) (k := 3) (pc' := 27) ja_okT mJ_411 (by decide +kernel) (by decide +kernel) (by decide +kernel) (by decide) t_l0 rfl ?_
    have t1 : nk_ar ja_Tt (ja_c l0 3) = some (2, 16) := nk_ta ja_okT t_l0 (by decide +kernel)
    refine nk_p (i := .iload 4) (len := 2) (pc' := 29) mJ_411 (by decide +kernel) (ns_iload 2 rfl) rfl ?_
    obtain ⟨h2, hr⟩ := nk_cke hr
    refine nk_lald (len := 1) (N := 16) (pc' := 30) mJ_411 (by decide +kernel) t1 h2.1 h2.2 rfl rfl ?_
    refine nk_p (i := .land) (len := 1) (pc' := 31) mJ_411 (by decide +kernel) ns_land rfl ?_
    obtain ⟨v3, h4, hr⟩ := nk_lte hr
    refine nk_p (i := .lstore_n 2) (len := 1) (pc' := 32) mJ_411 (by decide +kernel) (ns_lstore_n (L' := [(2, nk_l v3), (0, nk_r l0), (4, nk_i l4)]) h4 rfl rfl (by decide +kernel)) rfl ?_
    refine nk_p (i := .lload_n 2) (len := 1) (pc' := 33) mJ_411 (by decide +kernel) (ns_lload_n 0 rfl rfl) rfl ?_
    refine nk_p (i := .lconst 0) (len := 1) (pc' := 34) mJ_411 (by decide +kernel) (ns_lconst (c := 0) (by decide +kernel)) rfl ?_
    refine nk_p (i := .lcmp) (len := 1) (pc' := 35) mJ_411 (by decide +kernel) ns_lcmp rfl ?_
    refine nk_lcond (c := .eq) (off := 28) (len := 3) (t := 63) (pc' := 38) mJ_411 (by decide +kernel) (by decide +kernel) rfl (fun hc => ?_) (fun hc => ?_)
    · have hr := nk_ifp (c := v3 = 0) hc hr
      refine nk_ldc2 (x := 39) (len := 3) (X := (-1)) (v := (-1)) (pc' := 66) mJ_411 (by decide +kernel) (by decide +kernel) (by decide +kernel) rfl ?_
      refine nk_p (i := .lstore_n 2) (len := 1) (pc' := 67) mJ_411 (by decide +kernel) (ns_lstore_n (L' := [(2, nk_l (-1)), (0, nk_r l0), (4, nk_i l4)]) rfl rfl rfl (by decide +kernel)) rfl ?_
      obtain ⟨v5, h6, hr⟩ := nk_lte hr
      refine nk_p (i := .iinc 4 1) (len := 3) (pc' := 70) mJ_411 (by decide +kernel) (ns_iinc (c := 1) (L' := [(4, nk_i v5), (2, nk_l (-1)), (0, nk_r l0)]) 2 rfl (by decide +kernel) h6 rfl (by decide +kernel)) rfl ?_
      refine nk_p (i := .goto (-55)) (len := 3) (pc' := 15) mJ_411 (by decide +kernel) (ns_goto (by decide +kernel)) rfl ?_
      refine nk_sub [2, 1, 0] (L' := [(0, nk_r l0), (2, nk_l (-1)), (4, nk_i v5)]) rfl ?_
      exact hrec15 _ _ _ _ _ t_l0 hr
    · have hr := nk_ifn (c := v3 = 0) hc hr
      refine nk_p (i := .aload_n 0) (len := 1) (pc' := 39) mJ_411 (by decide +kernel) (ns_aload_n 1 rfl rfl) rfl ?_
      refine nk_getC (f := (4, 2, 16)) (x := 22) (len := 3) (ci := 7) (k := 3) (pc' := 42) ja_okT mJ_411 (by decide +kernel) (by decide +kernel) (by decide +kernel) (by decide) t_l0 rfl ?_
      refine nk_p (i := .iload 4) (len := 2) (pc' := 44) mJ_411 (by decide +kernel) (ns_iload 2 rfl) rfl ?_
      refine nk_p (i := .dup2) (len := 1) (pc' := 45) mJ_411 (by decide +kernel) (ns_dup2 rfl rfl) rfl ?_
      refine nk_lald (len := 1) (N := 16) (pc' := 46) mJ_411 (by decide +kernel) t1 h2.1 h2.2 rfl rfl ?_
      refine nk_p (i := .lload_n 2) (len := 1) (pc' := 47) mJ_411 (by decide +kernel) (ns_lload_n 0 rfl rfl) rfl ?_
      obtain ⟨r7, S8, h9, hr⟩ := nk_bde hr
      refine nk_callS (ci := 0) (n := 1) (x := 41) (len := 3) (j' := 6) (q' := 2) (r := r7) (S' := S8) (L2 := [(0, nk_l v3)]) (rest := [nk_l (S.1 (ja_c l0 3) l4.toNat), nk_i l4, nk_r (ja_c l0 3)]) (st' := [nk_l r7, nk_l (S.1 (ja_c l0 3) l4.toNat), nk_i l4, nk_r (ja_c l0 3)]) (pc' := 50) mJ_411 (by decide +kernel) (by decide +kernel) (Nat.le_of_ble_eq_true rfl) rfl rfl (Nat.le_of_ble_eq_true rfl) mJ_6 (Nat.le_of_ble_eq_true rfl) ja_Tpos rfl (ja_J13_lowestOneBit_067f4_ok zs _ _ _ h9) rfl ?_
      refine nk_p (i := .lxor) (len := 1) (pc' := 51) mJ_411 (by decide +kernel) ns_lxor rfl ?_
      obtain ⟨S10, h11, hr⟩ := nk_lte hr
      refine nk_last (len := 1) (N := 16) (pc' := 52) mJ_411 (by decide +kernel) t1 h2.1 h2.2 rfl rfl h11 ?_
      refine nk_p (i := .iload 4) (len := 2) (pc' := 54) mJ_411 (by decide +kernel) (ns_iload 2 rfl) rfl ?_
      refine nk_p (i := .bipush 6) (len := 2) (pc' := 56) mJ_411 (by decide +kernel) (ns_bipush (c := 6) (by decide +kernel)) rfl ?_
      refine nk_p (i := .ishl) (len := 1) (pc' := 57) mJ_411 (by decide +kernel) ns_ishl rfl ?_
      refine nk_p (i := .lload_n 2) (len := 1) (pc' := 58) mJ_411 (by decide +kernel) (ns_lload_n 0 rfl rfl) rfl ?_
      obtain ⟨r12, S13, h14, hr⟩ := nk_bde hr
      refine nk_callS (ci := 0) (n := 1) (x := 47) (len := 3) (j' := 7) (q' := 1) (r := r12) (S' := S13) (L2 := [(0, nk_l v3)]) (rest := [nk_i (nk_ishl l4 6)]) (st' := [nk_i r12, nk_i (nk_ishl l4 6)]) (pc' := 61) mJ_411 (by decide +kernel) (by decide +kernel) (Nat.le_of_ble_eq_true rfl) rfl rfl (Nat.le_of_ble_eq_true rfl) mJ_7 (Nat.le_of_ble_eq_true rfl) ja_Tpos rfl (ja_J13_numberOfTrailingZeros_95d88_ok zs _ _ _ h14) rfl ?_
      refine nk_p (i := .iadd) (len := 1) (pc' := 62) mJ_411 (by decide +kernel) ns_iadd rfl ?_
      cases hr
      exact nk_iret (ty := .int) (len := 1) mJ_411 (by decide +kernel) rfl (nk_nar_i _)
noncomputable def ja_X7_takeWaiting_L15 : Nat → Nat → Int → Int → nk_S → Option (Int × nk_S)
  | 0, _, _, _, _ => none
  | n + 1, l0, l2, l4, S => ja_X7_takeWaiting_b15 (ja_X7_takeWaiting_L15 n) l0 l2 l4 S
theorem ja_X7_takeWaiting_L15_ok (zs : List Int32) : ∀ n : Nat, ∀ (l0 : Nat) (l2 : Int) (l4 : Int) (S : nk_S) (R : Int × nk_S), nk_cl ja_Tt l0 = some 7 → ja_X7_takeWaiting_L15 n l0 l2 l4 S = some R → nk_K ja_Tt mi_Γ (mi_ev zs) 1 411 15 [(0, nk_r l0), (2, nk_l l2), (4, nk_i l4)] [] S R := by
  intro n
  induction n with
  | zero => intro _ _ _ _ _ _ hr; cases hr
  | succ n ih => intro l0 l2 l4 S R t_l0 hr; exact ja_X7_takeWaiting_b15_ok zs ih l0 l2 l4 S R t_l0 hr
noncomputable def ja_X7_takeWaiting (l0 : Nat) (l1 : Int) (S : nk_S) : Option (Int × nk_S) :=
  nk_lt (nk_lshl (-1) (nk_iand l1 63)) fun v1 =>
  nk_lt (nk_ishr l1 6) fun v3 =>
  ja_X7_takeWaiting_L15 nk_big l0 v1 v3 S
theorem ja_X7_takeWaiting_ok (zs : List Int32) : ∀ (l0 : Nat) (l1 : Int) (S : nk_S) (R : Int × nk_S), nk_cl ja_Tt l0 = some 7 → ja_X7_takeWaiting l0 l1 S = some R → nk_K ja_Tt mi_Γ (mi_ev zs) 1 411 0 [(0, nk_r l0), (1, nk_i l1)] [] S R := by
  intro l0 l1 S R t_l0 hr
  unfold ja_X7_takeWaiting at hr
  refine nk_ldc2 (x := 39) (len := 3) (X := (-1)) (v := (-1)) (pc' := 3) mJ_411 (by decide +kernel) (by decide +kernel) (by decide +kernel) rfl ?_
  refine nk_p (i := .iload_n 1) (len := 1) (pc' := 4) mJ_411 (by decide +kernel) (ns_iload_n 1 rfl rfl) rfl ?_
  refine nk_p (i := .bipush 63) (len := 2) (pc' := 6) mJ_411 (by decide +kernel) (ns_bipush (c := 63) (by decide +kernel)) rfl ?_
  refine nk_p (i := .iand) (len := 1) (pc' := 7) mJ_411 (by decide +kernel) ns_iand rfl ?_
  refine nk_p (i := .lshl) (len := 1) (pc' := 8) mJ_411 (by decide +kernel) ns_lshl rfl ?_
  obtain ⟨v1, h2, hr⟩ := nk_lte hr
  refine nk_p (i := .lstore_n 2) (len := 1) (pc' := 9) mJ_411 (by decide +kernel) (ns_lstore_n (L' := [(2, nk_l v1), (0, nk_r l0), (1, nk_i l1)]) h2 rfl rfl (by decide +kernel)) rfl ?_
  refine nk_p (i := .iload_n 1) (len := 1) (pc' := 10) mJ_411 (by decide +kernel) (ns_iload_n 2 rfl rfl) rfl ?_
  refine nk_p (i := .bipush 6) (len := 2) (pc' := 12) mJ_411 (by decide +kernel) (ns_bipush (c := 6) (by decide +kernel)) rfl ?_
  refine nk_p (i := .ishr) (len := 1) (pc' := 13) mJ_411 (by decide +kernel) ns_ishr rfl ?_
  obtain ⟨v3, h4, hr⟩ := nk_lte hr
  refine nk_p (i := .istore 4) (len := 2) (pc' := 15) mJ_411 (by decide +kernel) (ns_istore (L' := [(4, nk_i v3), (2, nk_l v1), (0, nk_r l0), (1, nk_i l1)]) h4 rfl (by decide +kernel)) rfl ?_
  refine nk_sub [2, 1, 0] (L' := [(0, nk_r l0), (2, nk_l v1), (4, nk_i v3)]) rfl ?_
  exact ja_X7_takeWaiting_L15_ok zs nk_big _ _ _ _ _ t_l0 hr
