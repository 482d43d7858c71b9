/-! The law's start: what is outside, and the run. -/
abbrev mi_nw : Jvm.Cond := Jvm.Cond.and given_1 narrow_1
def mi_tm (i : Nat) : Term := match i with
  | 0 => .string "SafeCode$Words" 40
  | 1 => .string "SafeCode$Words" 46
  | 2 => .string "SafeCode$Words" 48
  | 3 => .string "SafeCodeModel" 197
  | 4 => .string "SafeCodeModel" 210
  | 5 => .string "SafeCodeModel" 212
  | 6 => .string "SafeCodeModel" 214
  | 7 => .string "SafeCodeModel" 220
  | 8 => .string "SafeCodeModel" 228
  | 9 => .string "SafeCodeModel" 230
  | 10 => .string "SafeCodeModel" 232
  | 11 => .string "SafeCodeModel" 234
  | 12 => .string "SafeCodeModel" 236
  | 13 => .string "SafeCodeModel" 244
  | 14 => .string "SafeCodeModel" 255
  | 15 => .string "SafeCodeModel" 246
  | 16 => .string "SafeCodeModel" 260
  | 17 => .string "SafeCodeModel" 262
  | 18 => .string "SafeCodeModel" 270
  | 19 => .string "SafeCodeModel" 456
  | _ => .string "SafeCodeModel" 458
def mi_sp (i : Nat) : Nat := ([205, 421, 485, 577, 589, 599, 609, 620, 636, 654, 673, 688, 704, 724, 742, 765, 998, 1064, 1088, 1188, 1215] : List Nat).getD i 0
def mi_sb : List (List Int32) := [[112, 117, 115, 104, 32, 110, 117, 108, 108, 32, 108, 111, 97, 100, 32, 115, 116, 111, 114, 101, 32, 105, 110, 99, 32, 100, 117, 112, 32, 112, 111, 112, 32, 115, 119, 97, 112, 32, 97, 100, 100, 32, 115, 117, 98, 32, 109, 117, 108, 32, 100, 105, 118, 32, 114, 101, 109, 32, 97, 110, 100, 32, 111, 114, 32, 120, 111, 114, 32, 115, 104, 108, 32, 115, 104, 114, 32, 110, 101, 103, 32, 103, 111, 116, 111, 32, 101, 113, 32, 110, 101, 32, 108, 116, 32, 108, 101, 32, 103, 116, 32, 103, 101, 32, 105, 115, 110, 117, 108, 108, 32, 110, 111, 116, 110, 117, 108, 108, 32, 115, 97, 109, 101, 32, 111, 116, 104, 101, 114, 32, 110, 101, 119, 32, 97, 114, 114, 97, 121, 32, 108, 101, 110, 103, 116, 104, 32, 97, 108, 111, 97, 100, 32, 97, 115, 116, 111, 114, 101, 32, 103, 101, 116, 32, 112, 117, 116, 32, 99, 97, 115, 116, 32, 105, 115, 32, 99, 97, 108, 108, 32, 115, 101, 110, 100, 32, 116, 104, 114, 111, 119, 32, 103, 105, 118, 101, 32, 98, 97, 99, 107, 32, 114, 101, 97, 100, 32, 119, 114, 105, 116, 101], [99, 97, 116, 99, 104, 32, 99, 108, 97, 115, 115, 32, 111, 102, 32, 102, 105, 101, 108, 100, 32, 115, 116, 97, 116, 105, 99, 32, 109, 101, 116, 104, 111, 100, 32, 105, 110, 116, 32, 110, 111, 110, 101, 32, 105, 110, 116, 91, 93, 32, 40, 32, 41, 32, 123, 32, 125, 32, 58], [79, 98, 106, 101, 99, 116, 32, 69, 114, 114, 111, 114, 32, 78, 117, 108, 108, 69, 114, 114, 111, 114, 32, 73, 110, 100, 101, 120, 69, 114, 114, 111, 114, 32, 83, 105, 122, 101, 69, 114, 114, 111, 114, 32, 68, 105, 118, 105, 100, 101, 69, 114, 114, 111, 114, 32, 67, 97, 115, 116, 69, 114, 114, 111, 114, 32, 83, 116, 111, 114, 101, 69, 114, 114, 111, 114, 32, 77, 97, 105, 110, 32, 109, 97, 105, 110], [99, 108, 97, 115, 115], [111, 102], [123], [125], [102, 105, 101, 108, 100], [115, 116, 97, 116, 105, 99], [109, 101, 116, 104, 111, 100], [40], [41], [110, 111, 110, 101], [58], [99, 97, 116, 99, 104], [32, 112, 117, 115, 104, 32, 110, 117, 108, 108, 32, 108, 111, 97, 100, 32, 115, 116, 111, 114, 101, 32, 105, 110, 99, 32, 100, 117, 112, 32, 112, 111, 112, 32, 115, 119, 97, 112, 32, 97, 100, 100, 32, 115, 117, 98, 32, 109, 117, 108, 32, 100, 105, 118, 32, 114, 101, 109, 32, 97, 110, 100, 32, 111, 114, 32, 120, 111, 114, 32, 115, 104, 108, 32, 115, 104, 114, 32, 110, 101, 103, 32, 103, 111, 116, 111, 32, 101, 113, 32, 110, 101, 32, 108, 116, 32, 108, 101, 32, 103, 116, 32, 103, 101, 32, 105, 115, 110, 117, 108, 108, 32, 110, 111, 116, 110, 117, 108, 108, 32, 115, 97, 109, 101, 32, 111, 116, 104, 101, 114, 32, 110, 101, 119, 32, 97, 114, 114, 97, 121, 32, 108, 101, 110, 103, 116, 104, 32, 97, 108, 111, 97, 100, 32, 97, 115, 116, 111, 114, 101, 32, 103, 101, 116, 32, 112, 117, 116, 32, 99, 97, 115, 116, 32, 105, 115, 32, 99, 97, 108, 108, 32, 115, 101, 110, 100, 32, 116, 104, 114, 111, 119, 32, 103, 105, 118, 101, 32, 98, 97, 99, 107, 32, 114, 101, 97, 100, 32, 119, 114, 105, 116, 101, 32], [78, 45, 75, 75, 73, 45, 45, 45, 45, 45, 45, 45, 45, 45, 45, 45, 45, 45, 45, 76, 76, 76, 76, 76, 76, 76, 76, 76, 76, 76, 67, 69, 45, 45, 45, 70, 70, 84, 84, 70, 70, 45, 45, 45, 45, 45], [105, 110, 116], [32, 79, 98, 106, 101, 99, 116, 32, 69, 114, 114, 111, 114, 32, 78, 117, 108, 108, 69, 114, 114, 111, 114, 32, 73, 110, 100, 101, 120, 69, 114, 114, 111, 114, 32, 83, 105, 122, 101, 69, 114, 114, 111, 114, 32, 68, 105, 118, 105, 100, 101, 69, 114, 114, 111, 114, 32, 67, 97, 115, 116, 69, 114, 114, 111, 114, 32, 83, 116, 111, 114, 101, 69, 114, 114, 111, 114, 32], [77, 97, 105, 110], [109, 97, 105, 110]]
def mi_sn : List Nat := [212, 59, 86, 5, 2, 1, 1, 5, 6, 6, 1, 1, 4, 1, 5, 214, 46, 3, 78, 4, 4]
def mi_f : List Jvm.Cond := flatC mi_nw
theorem mi_s1 : ∀ i, i < 21 → mi_sn.getD i 0 < 2 ^ 31 ∧ mi_f[mi_sp i]? = some (.exactly (mi_tm i) "java/lang/String") ∧ mi_f[mi_sp i + 1]? = some (.eq (.field (mi_tm i) "java/lang/String" "coder" "B") (.int 0)) ∧ mi_f[mi_sp i + 2]? = some (.arrayOf (.field (mi_tm i) "java/lang/String" "value" "[B") .byte) ∧ mi_f[mi_sp i + 3]? = some (.eq (.length (.field (mi_tm i) "java/lang/String" "value" "[B")) (.int (Int32.ofNat (mi_sn.getD i 0)))) := by decide +kernel
theorem mi_s2 : ∀ i, i < 21 → ∀ j, j < mi_sn.getD i 0 → mi_f[mi_sp i + 4 + j]? = some (.eq (.elem (.field (mi_tm i) "java/lang/String" "value" "[B") (.int (Int32.ofNat j))) (.int ((mi_sb.getD i []).getD j 0))) := by decide +kernel
def mi_np (i j : Nat) : Nat := ((([[0, 484, 575, 586, 595, 604, 614, 629, 646, 664, 678, 693, 712, 729, 751, 983, 1048, 1071, 1170, 1196, 1223], [484, 0, 576, 587, 596, 605, 615, 630, 647, 665, 679, 694, 713, 730, 752, 984, 1049, 1072, 1171, 1197, 1224], [575, 576, 0, 588, 597, 606, 616, 631, 648, 666, 680, 695, 714, 731, 753, 985, 1050, 1073, 1172, 1198, 1225], [586, 587, 588, 0, 598, 607, 617, 632, 649, 667, 681, 696, 715, 732, 754, 986, 1051, 1074, 1173, 1199, 1226], [595, 596, 597, 598, 0, 608, 618, 633, 650, 668, 682, 697, 716, 733, 755, 987, 1052, 1075, 1174, 1200, 1227], [604, 605, 606, 607, 608, 0, 619, 634, 651, 669, 683, 698, 717, 734, 756, 988, 1053, 1076, 1175, 1201, 1228], [614, 615, 616, 617, 618, 619, 0, 635, 652, 670, 684, 699, 718, 735, 757, 989, 1054, 1077, 1176, 1202, 1229], [629, 630, 631, 632, 633, 634, 635, 0, 653, 671, 685, 700, 719, 736, 758, 990, 1055, 1078, 1177, 1203, 1230], [646, 647, 648, 649, 650, 651, 652, 653, 0, 672, 686, 701, 720, 737, 759, 991, 1056, 1079, 1178, 1204, 1231], [664, 665, 666, 667, 668, 669, 670, 671, 672, 0, 687, 702, 721, 738, 760, 992, 1057, 1080, 1179, 1205, 1232], [678, 679, 680, 681, 682, 683, 684, 685, 686, 687, 0, 703, 722, 739, 761, 993, 1058, 1081, 1180, 1206, 1233], [693, 694, 695, 696, 697, 698, 699, 700, 701, 702, 703, 0, 723, 740, 762, 994, 1059, 1082, 1181, 1207, 1234], [712, 713, 714, 715, 716, 717, 718, 719, 720, 721, 722, 723, 0, 741, 763, 995, 1060, 1083, 1182, 1208, 1235], [729, 730, 731, 732, 733, 734, 735, 736, 737, 738, 739, 740, 741, 0, 764, 996, 1061, 1084, 1183, 1209, 1236], [751, 752, 753, 754, 755, 756, 757, 758, 759, 760, 761, 762, 763, 764, 0, 997, 1062, 1085, 1184, 1210, 1237], [983, 984, 985, 986, 987, 988, 989, 990, 991, 992, 993, 994, 995, 996, 997, 0, 1063, 1086, 1185, 1211, 1238], [1048, 1049, 1050, 1051, 1052, 1053, 1054, 1055, 1056, 1057, 1058, 1059, 1060, 1061, 1062, 1063, 0, 1087, 1186, 1212, 1239], [1071, 1072, 1073, 1074, 1075, 1076, 1077, 1078, 1079, 1080, 1081, 1082, 1083, 1084, 1085, 1086, 1087, 0, 1187, 1213, 1240], [1170, 1171, 1172, 1173, 1174, 1175, 1176, 1177, 1178, 1179, 1180, 1181, 1182, 1183, 1184, 1185, 1186, 1187, 0, 1214, 1241], [1196, 1197, 1198, 1199, 1200, 1201, 1202, 1203, 1204, 1205, 1206, 1207, 1208, 1209, 1210, 1211, 1212, 1213, 1214, 0, 1242], [1223, 1224, 1225, 1226, 1227, 1228, 1229, 1230, 1231, 1232, 1233, 1234, 1235, 1236, 1237, 1238, 1239, 1240, 1241, 1242, 0]] : List (List Nat)).getD i []).getD j 0)
theorem mi_s3 : ∀ i, i < 21 → ∀ j, j < 21 → i ≠ j → mi_f[mi_np i j]? = some (.not (.eq (mi_tm i) (mi_tm j))) ∨ mi_f[mi_np i j]? = some (.not (.eq (mi_tm j) (mi_tm i))) := by decide +kernel
theorem mi_dat {Ts : List Cond} {cl : List vw_C} {s : State} {args : Array Value} (hC : mi_Cok Ts cl) (hts : ∀ w ∈ Ts, w.before args s = true) : ∃ (D : va_G) (cy : Nat → ClassId), va_K D cl (mi_tys cy) s := by
  have h1 : ∀ k : Nat, ∃ (q : ClassId × (Nat → Nat)), ∀ r, cl[k]? = some r → u_Kn s r.1 r.2.1 r.2.2 q.1 q.2 := by
    intro k
    cases hk : cl[k]? with
    | none => exact ⟨(0, fun _ => 0), fun r h => by cases h⟩
    | some r0 =>
      obtain ⟨C, T, N⟩ := r0
      obtain ⟨f1, -, -, f4, -⟩ := hC.2.1 k C T N hk
      obtain ⟨c, iS, h⟩ := u_known hts f1 (hts _ f4)
      exact ⟨(c, iS), fun r h' => by cases h'; exact h⟩
  have h2 : ∀ ty : FieldType, Cond.arrayClass ty ∈ Ts → ∃ cA : ClassId, ArrOfT s cA ty ∧ s.vm.findClass ("[" ++ ty.toString) = some cA := by
    intro ty h
    obtain ⟨c, k, comp, e1, e2, e3⟩ := Cond.arrayClass_spec (hts _ h)
    exact ⟨c, fun n z => ⟨fun k h => (by cases h), k, e2, comp, e3⟩, e1⟩
  obtain ⟨-, -, t0, t1, t2, t3⟩ := hC
  obtain ⟨c0, a0, b0⟩ := h2 _ t0
  obtain ⟨c1, a1, b1⟩ := h2 _ t1
  obtain ⟨c2, a2, b2⟩ := h2 _ t2
  obtain ⟨c3, a3, b3⟩ := h2 _ t3
  refine ⟨(fun k => (h1 k).choose.1, fun k => (h1 k).choose.2), fun t => match t with | 0 => c0 | 1 => c1 | 2 => c2 | _ => c3, fun k r hk => (h1 k).choose_spec r hk, fun k r hk => ?_⟩
  match k, hk with
  | 0, hk => cases hk; exact ⟨a0, b0⟩
  | 1, hk => cases hk; exact ⟨a1, b1⟩
  | 2, hk => cases hk; exact ⟨a2, b2⟩
  | 3, hk => cases hk; exact ⟨a3, b3⟩
  | k + 4, hk => cases hk
def mi_tp (i : Nat) : Nat := ([58, 9, 107, 156] : List Nat).getD i 0
def mi_tl (i : Nat) : Nat := ([1296, 1088, 1302, 1382] : List Nat).getD i 0
def mi_tn (i : Nat) : String := match i with
  | 0 => "LEAVES"
  | 1 => "OPERANDS"
  | 2 => "TAKES"
  | _ => "WANTS"
def mi_tb : List (List Int32) := [[1, 1, 1, 0, 0, 2, 0, 2, 1, 1, 1, 1, 1, 1, 1, 1, 1, 1, 1, 0, 0, 0, 0, 0, 0, 0, 0, 0, 0, 0, 1, 1, 1, 1, 0, 1, 0, 1, 1, 0, 0, 0, 0, 0, 1, 0], [1, 0, 2, 2, 3, 0, 0, 0, 0, 0, 0, 0, 0, 0, 0, 0, 0, 0, 0, 4, 4, 4, 4, 4, 4, 4, 4, 4, 4, 4, 5, 6, 0, 0, 0, 8, 8, 7, 7, 8, 8, 0, 0, 0, 0, 0], [0, 0, 0, 1, 0, 1, 1, 2, 2, 2, 2, 2, 2, 2, 2, 2, 2, 2, 1, 0, 2, 2, 2, 2, 2, 2, 1, 1, 2, 2, 0, 1, 1, 2, 3, 1, 2, 1, 1, 0, 0, 1, 1, 0, 0, 1], [0, 0, 0, 4, 0, 4, 4, 68, 17, 17, 17, 17, 17, 17, 17, 17, 17, 17, 1, 0, 17, 17, 17, 17, 17, 17, 2, 2, 34, 34, 0, 1, 3, 49, 791, 5, 86, 2, 2, 0, 0, 8, 9, 0, 0, 1]]
theorem mi_t1 : ∀ i, i < 4 → mi_f[mi_tp i + 1]? = some (.arrayOf (.static "SafeCode" (mi_tn i) "[I") .int) ∧ mi_f[mi_tp i + 2]? = some (.eq (.length (.static "SafeCode" (mi_tn i) "[I")) (.int (Int32.ofNat 46))) ∧ lw_tbl[mi_tl i]? = some (.laysStatic "SafeCode" (mi_tn i) "[I") := by decide +kernel
theorem mi_t2 : ∀ i, i < 4 → ∀ j, j < 46 → mi_f[mi_tp i + 3 + j]? = some (.eq (.elem (.static "SafeCode" (mi_tn i) "[I") (.int (Int32.ofNat j))) (.int ((mi_tb.getD i []).getD j 0))) := by decide +kernel
def mi_ox (b : Nat) (adK adV : Nat → Nat) (fm : Option Nat) (st : Nat → Nat) (k : Nat) : Option Nat := if k = 0 then some b else if k = 43 then fm else if 43 < k then some (st (k - 44)) else if k % 2 = 1 then some (adK (k / 2)) else some (adV (k / 2 - 1))
theorem mi_env0 {s : State} {b L : Nat} {xs : Nat → Int32} (hts : ∀ w ∈ lw_tbl, w.before #[Value.ref b] s = true) (hX : va_X b L xs s s.heap) (hbl : b < s.heap.size) (hgv : mi_nw.before #[Value.ref b] s = true) : ∃ ox : Nat → Option Nat, ox 0 = some b ∧ mi_Env (mi_ev ((List.range L).map xs)) ox s.heap.size (fun q => s.heap.size ≤ q) s s.heap := by
  have hf := flat_of_before _ hgv
  have hf : ∀ (i : Nat) (w : Jvm.Cond), mi_f[i]? = some w → w.before #[Value.ref b] s = true := fun i w h => hf w (List.mem_of_getElem? h)
  have hA : ∀ a : Nat, a < s.heap.size → ¬ (fun q : Nat => s.heap.size ≤ q) a := fun a h => Nat.not_le.mpr h
  obtain ⟨adK, adV, hS, hT⟩ := vk_Sof (N := 21) (tm := mi_tm) (len := mi_sn) (byt := mi_sb) (A := fun q : Nat => s.heap.size ≤ q) (fun i h => (mi_s1 i h).1) (fun i h => hf _ _ (mi_s1 i h).2.1) (fun i h => hf _ _ (mi_s1 i h).2.2.1) (fun i h => hf _ _ (mi_s1 i h).2.2.2.1) (fun i h => hf _ _ (mi_s1 i h).2.2.2.2) (fun i h j hj => hf _ _ (mi_s2 i h j hj)) (fun i j h1 h2 h3 => (mi_s3 i h1 j h2 h3).imp (hf _ _) (hf _ _)) hA
  have hz1 : va_Z "java/lang/String" "COMPACT_STRINGS" "Z" (.int 1) (fun q : Nat => s.heap.size ≤ q) s s.heap := va_Zof (hts _ (List.mem_of_getElem? (i := 299) (by decide +kernel))) (hts _ (List.mem_of_getElem? (i := 250) (by decide +kernel))) (va_eqi (hf 4 _ (by decide +kernel))) hA
  have hz2 : ∃ fm : Option Nat, va_Z "jdk/internal/util/Preconditions" "SIOOBE_FORMATTER" "Ljava/util/function/BiFunction;" (va_rf fm) (fun q : Nat => s.heap.size ≤ q) s s.heap := by
    have h := va_Zqof (A := fun q : Nat => s.heap.size ≤ q) (hts (.laysStatic "jdk/internal/util/Preconditions" "SIOOBE_FORMATTER" "Ljava/util/function/BiFunction;") (List.mem_of_getElem? (i := 315) (by decide +kernel))) (hts _ (List.mem_of_getElem? (i := 252) (by decide +kernel))) (hf 5 _ (by decide +kernel)) hA
    rcases h with h | ⟨t, h⟩
    · exact ⟨none, h⟩
    · exact ⟨some t, h⟩
  obtain ⟨fm, hz2⟩ := hz2
  have hst0 : ∀ i : Nat, ∃ t : Nat, i < 4 → va_Z "SafeCode" (mi_tn i) "[I" (.ref t) (fun q : Nat => s.heap.size ≤ q) s s.heap ∧ va_T .int t 46 (fun j => .int ((mi_tb.getD i []).getD j 0)) (fun q : Nat => s.heap.size ≤ q) s s.heap := by
    intro i
    by_cases hi : i < 4
    · obtain ⟨t, ht, hT⟩ := va_Tof (tm := .static "SafeCode" (mi_tn i) "[I") (ty := .int) (N := 46) (f := fun j => .int ((mi_tb.getD i []).getD j 0)) (A := fun q : Nat => s.heap.size ≤ q) (by decide) (hf _ _ (mi_t1 i hi).1) (va_eqt (hf _ _ (mi_t1 i hi).2.1)) (fun j hj => va_eqt (hf _ _ (mi_t2 i hi j hj))) hA
      exact ⟨t, fun _ => ⟨va_Zref (hts _ (List.mem_of_getElem? (mi_t1 i hi).2.2)) (hts _ (List.mem_of_getElem? (i := 248) (by decide +kernel))) ht hA, hT⟩⟩
    · exact ⟨0, fun h => absurd h hi⟩
  obtain ⟨st, hst⟩ := Classical.axiomOfChoice hst0
  refine ⟨mi_ox b adK adV fm st, rfl, ?_, ?_, ?_, ?_, ?_⟩
  · intro q hq
    simp only [mi_ev, mi_e1, List.mem_cons, List.not_mem_nil, or_false] at hq
    rcases hq with rfl | rfl | rfl | rfl | rfl | rfl | rfl | rfl | rfl | rfl | rfl | rfl | rfl | rfl | rfl | rfl | rfl | rfl | rfl | rfl | rfl | rfl | rfl | rfl | rfl | rfl
    · obtain ⟨scr, h1, h2, h3, h4, h5⟩ := hX
      refine ⟨b, rfl, scr, h1, h2, h3, ?_, ?_, ?_, Nat.not_le.mpr hbl⟩
      · simp only [List.length_map, List.length_range]; omega
      · simp only [List.length_map, List.length_range]; rw [h4]
      · intro j hj
        simp only [List.length_map, List.length_range] at hj
        rw [h5 j hj]
        simp [hj]
    · exact ⟨adV 0, rfl, (hS.1 0 (by decide)).2.2.2⟩
    · exact ⟨adV 1, rfl, (hS.1 1 (by decide)).2.2.2⟩
    · exact ⟨adV 2, rfl, (hS.1 2 (by decide)).2.2.2⟩
    · exact ⟨adV 3, rfl, (hS.1 3 (by decide)).2.2.2⟩
    · exact ⟨adV 4, rfl, (hS.1 4 (by decide)).2.2.2⟩
    · exact ⟨adV 5, rfl, (hS.1 5 (by decide)).2.2.2⟩
    · exact ⟨adV 6, rfl, (hS.1 6 (by decide)).2.2.2⟩
    · exact ⟨adV 7, rfl, (hS.1 7 (by decide)).2.2.2⟩
    · exact ⟨adV 8, rfl, (hS.1 8 (by decide)).2.2.2⟩
    · exact ⟨adV 9, rfl, (hS.1 9 (by decide)).2.2.2⟩
    · exact ⟨adV 10, rfl, (hS.1 10 (by decide)).2.2.2⟩
    · exact ⟨adV 11, rfl, (hS.1 11 (by decide)).2.2.2⟩
    · exact ⟨adV 12, rfl, (hS.1 12 (by decide)).2.2.2⟩
    · exact ⟨adV 13, rfl, (hS.1 13 (by decide)).2.2.2⟩
    · exact ⟨adV 14, rfl, (hS.1 14 (by decide)).2.2.2⟩
    · exact ⟨adV 15, rfl, (hS.1 15 (by decide)).2.2.2⟩
    · exact ⟨adV 16, rfl, (hS.1 16 (by decide)).2.2.2⟩
    · exact ⟨adV 17, rfl, (hS.1 17 (by decide)).2.2.2⟩
    · exact ⟨adV 18, rfl, (hS.1 18 (by decide)).2.2.2⟩
    · exact ⟨adV 19, rfl, (hS.1 19 (by decide)).2.2.2⟩
    · exact ⟨adV 20, rfl, (hS.1 20 (by decide)).2.2.2⟩
    · exact ⟨st 0, rfl, (hst 0 (by decide)).2⟩
    · exact ⟨st 1, rfl, (hst 1 (by decide)).2⟩
    · exact ⟨st 2, rfl, (hst 2 (by decide)).2⟩
    · exact ⟨st 3, rfl, (hst 3 (by decide)).2⟩
  · intro q hq
    simp only [mi_ev, mi_e2, List.mem_cons, List.not_mem_nil, or_false] at hq
    rcases hq with rfl | rfl | rfl | rfl | rfl | rfl | rfl | rfl | rfl | rfl | rfl | rfl | rfl | rfl | rfl | rfl | rfl | rfl | rfl | rfl | rfl
    · exact ⟨adK 0, adV 0, rfl, rfl, (hS.1 0 (by decide)).1, (hS.1 0 (by decide)).2.2.1, (hS.1 0 (by decide)).2.1⟩
    · exact ⟨adK 1, adV 1, rfl, rfl, (hS.1 1 (by decide)).1, (hS.1 1 (by decide)).2.2.1, (hS.1 1 (by decide)).2.1⟩
    · exact ⟨adK 2, adV 2, rfl, rfl, (hS.1 2 (by decide)).1, (hS.1 2 (by decide)).2.2.1, (hS.1 2 (by decide)).2.1⟩
    · exact ⟨adK 3, adV 3, rfl, rfl, (hS.1 3 (by decide)).1, (hS.1 3 (by decide)).2.2.1, (hS.1 3 (by decide)).2.1⟩
    · exact ⟨adK 4, adV 4, rfl, rfl, (hS.1 4 (by decide)).1, (hS.1 4 (by decide)).2.2.1, (hS.1 4 (by decide)).2.1⟩
    · exact ⟨adK 5, adV 5, rfl, rfl, (hS.1 5 (by decide)).1, (hS.1 5 (by decide)).2.2.1, (hS.1 5 (by decide)).2.1⟩
    · exact ⟨adK 6, adV 6, rfl, rfl, (hS.1 6 (by decide)).1, (hS.1 6 (by decide)).2.2.1, (hS.1 6 (by decide)).2.1⟩
    · exact ⟨adK 7, adV 7, rfl, rfl, (hS.1 7 (by decide)).1, (hS.1 7 (by decide)).2.2.1, (hS.1 7 (by decide)).2.1⟩
    · exact ⟨adK 8, adV 8, rfl, rfl, (hS.1 8 (by decide)).1, (hS.1 8 (by decide)).2.2.1, (hS.1 8 (by decide)).2.1⟩
    · exact ⟨adK 9, adV 9, rfl, rfl, (hS.1 9 (by decide)).1, (hS.1 9 (by decide)).2.2.1, (hS.1 9 (by decide)).2.1⟩
    · exact ⟨adK 10, adV 10, rfl, rfl, (hS.1 10 (by decide)).1, (hS.1 10 (by decide)).2.2.1, (hS.1 10 (by decide)).2.1⟩
    · exact ⟨adK 11, adV 11, rfl, rfl, (hS.1 11 (by decide)).1, (hS.1 11 (by decide)).2.2.1, (hS.1 11 (by decide)).2.1⟩
    · exact ⟨adK 12, adV 12, rfl, rfl, (hS.1 12 (by decide)).1, (hS.1 12 (by decide)).2.2.1, (hS.1 12 (by decide)).2.1⟩
    · exact ⟨adK 13, adV 13, rfl, rfl, (hS.1 13 (by decide)).1, (hS.1 13 (by decide)).2.2.1, (hS.1 13 (by decide)).2.1⟩
    · exact ⟨adK 14, adV 14, rfl, rfl, (hS.1 14 (by decide)).1, (hS.1 14 (by decide)).2.2.1, (hS.1 14 (by decide)).2.1⟩
    · exact ⟨adK 15, adV 15, rfl, rfl, (hS.1 15 (by decide)).1, (hS.1 15 (by decide)).2.2.1, (hS.1 15 (by decide)).2.1⟩
    · exact ⟨adK 16, adV 16, rfl, rfl, (hS.1 16 (by decide)).1, (hS.1 16 (by decide)).2.2.1, (hS.1 16 (by decide)).2.1⟩
    · exact ⟨adK 17, adV 17, rfl, rfl, (hS.1 17 (by decide)).1, (hS.1 17 (by decide)).2.2.1, (hS.1 17 (by decide)).2.1⟩
    · exact ⟨adK 18, adV 18, rfl, rfl, (hS.1 18 (by decide)).1, (hS.1 18 (by decide)).2.2.1, (hS.1 18 (by decide)).2.1⟩
    · exact ⟨adK 19, adV 19, rfl, rfl, (hS.1 19 (by decide)).1, (hS.1 19 (by decide)).2.2.1, (hS.1 19 (by decide)).2.1⟩
    · exact ⟨adK 20, adV 20, rfl, rfl, (hS.1 20 (by decide)).1, (hS.1 20 (by decide)).2.2.1, (hS.1 20 (by decide)).2.1⟩
  · intro q hq
    simp only [mi_ev, mi_e3, List.mem_cons, List.not_mem_nil, or_false] at hq
    rcases hq with rfl | rfl | rfl | rfl | rfl | rfl
    · exact hz1
    · exact hz2
    · exact (hst 0 (by decide)).1
    · exact (hst 1 (by decide)).1
    · exact (hst 2 (by decide)).1
    · exact (hst 3 (by decide)).1
  · intro q hq
    simp only [mi_ev, mi_e4, List.mem_cons, List.not_mem_nil, or_false] at hq
    rcases hq with rfl | rfl | rfl | rfl | rfl | rfl | rfl | rfl | rfl | rfl | rfl | rfl | rfl | rfl | rfl | rfl | rfl | rfl | rfl | rfl | rfl
    · exact ⟨adK 0, rfl, vk_R.of (hts _ (List.mem_of_getElem? (i := 285) (by decide +kernel))) (hT 0 (by decide))⟩
    · exact ⟨adK 1, rfl, vk_R.of (hts _ (List.mem_of_getElem? (i := 338) (by decide +kernel))) (hT 1 (by decide))⟩
    · exact ⟨adK 2, rfl, vk_R.of (hts _ (List.mem_of_getElem? (i := 339) (by decide +kernel))) (hT 2 (by decide))⟩
    · exact ⟨adK 3, rfl, vk_R.of (hts _ (List.mem_of_getElem? (i := 2490) (by decide +kernel))) (hT 3 (by decide))⟩
    · exact ⟨adK 4, rfl, vk_R.of (hts _ (List.mem_of_getElem? (i := 2509) (by decide +kernel))) (hT 4 (by decide))⟩
    · exact ⟨adK 5, rfl, vk_R.of (hts _ (List.mem_of_getElem? (i := 2510) (by decide +kernel))) (hT 5 (by decide))⟩
    · exact ⟨adK 6, rfl, vk_R.of (hts _ (List.mem_of_getElem? (i := 2511) (by decide +kernel))) (hT 6 (by decide))⟩
    · exact ⟨adK 7, rfl, vk_R.of (hts _ (List.mem_of_getElem? (i := 2516) (by decide +kernel))) (hT 7 (by decide))⟩
    · exact ⟨adK 8, rfl, vk_R.of (hts _ (List.mem_of_getElem? (i := 2529) (by decide +kernel))) (hT 8 (by decide))⟩
    · exact ⟨adK 9, rfl, vk_R.of (hts _ (List.mem_of_getElem? (i := 2530) (by decide +kernel))) (hT 9 (by decide))⟩
    · exact ⟨adK 10, rfl, vk_R.of (hts _ (List.mem_of_getElem? (i := 2531) (by decide +kernel))) (hT 10 (by decide))⟩
    · exact ⟨adK 11, rfl, vk_R.of (hts _ (List.mem_of_getElem? (i := 2532) (by decide +kernel))) (hT 11 (by decide))⟩
    · exact ⟨adK 12, rfl, vk_R.of (hts _ (List.mem_of_getElem? (i := 2533) (by decide +kernel))) (hT 12 (by decide))⟩
    · exact ⟨adK 13, rfl, vk_R.of (hts _ (List.mem_of_getElem? (i := 2554) (by decide +kernel))) (hT 13 (by decide))⟩
    · exact ⟨adK 14, rfl, vk_R.of (hts _ (List.mem_of_getElem? (i := 2555) (by decide +kernel))) (hT 14 (by decide))⟩
    · exact ⟨adK 15, rfl, vk_R.of (hts _ (List.mem_of_getElem? (i := 2560) (by decide +kernel))) (hT 15 (by decide))⟩
    · exact ⟨adK 16, rfl, vk_R.of (hts _ (List.mem_of_getElem? (i := 2565) (by decide +kernel))) (hT 16 (by decide))⟩
    · exact ⟨adK 17, rfl, vk_R.of (hts _ (List.mem_of_getElem? (i := 2566) (by decide +kernel))) (hT 17 (by decide))⟩
    · exact ⟨adK 18, rfl, vk_R.of (hts _ (List.mem_of_getElem? (i := 2587) (by decide +kernel))) (hT 18 (by decide))⟩
    · exact ⟨adK 19, rfl, vk_R.of (hts _ (List.mem_of_getElem? (i := 2698) (by decide +kernel))) (hT 19 (by decide))⟩
    · exact ⟨adK 20, rfl, vk_R.of (hts _ (List.mem_of_getElem? (i := 2699) (by decide +kernel))) (hT 20 (by decide))⟩
  · intro w hw
    simp only [mi_ev, mi_e5, List.mem_cons, List.not_mem_nil, or_false] at hw
    rcases hw with rfl | rfl | rfl | rfl | rfl | rfl | rfl | rfl | rfl | rfl | rfl | rfl | rfl | rfl | rfl
    · exact va_Nw.of rfl (hts _ (List.mem_of_getElem? (i := 439) (by decide +kernel)))
    · exact va_Nw.of rfl (hts _ (List.mem_of_getElem? (i := 445) (by decide +kernel)))
    · exact va_Nw.of rfl (hts _ (List.mem_of_getElem? (i := 493) (by decide +kernel)))
    · exact va_Nw.of rfl (hts _ (List.mem_of_getElem? (i := 584) (by decide +kernel)))
    · exact va_Nw.of rfl (hts _ (List.mem_of_getElem? (i := 759) (by decide +kernel)))
    · exact va_Nw.of rfl (hts _ (List.mem_of_getElem? (i := 802) (by decide +kernel)))
    · exact va_Nw.of rfl (hts _ (List.mem_of_getElem? (i := 2059) (by decide +kernel)))
    · exact va_Nw.of rfl (hts _ (List.mem_of_getElem? (i := 385) (by decide +kernel)))
    · exact va_Nw.of rfl (hts _ (List.mem_of_getElem? (i := 1087) (by decide +kernel)))
    · exact va_Nw.of rfl (hts _ (List.mem_of_getElem? (i := 1295) (by decide +kernel)))
    · exact va_Nw.of rfl (hts _ (List.mem_of_getElem? (i := 1301) (by decide +kernel)))
    · exact va_Nw.of rfl (hts _ (List.mem_of_getElem? (i := 1315) (by decide +kernel)))
    · exact va_Nw.of rfl (hts _ (List.mem_of_getElem? (i := 1381) (by decide +kernel)))
    · exact va_Nw.of rfl (hts _ (List.mem_of_getElem? (i := 1417) (by decide +kernel)))
    · exact va_Nw.of rfl (hts _ (List.mem_of_getElem? (i := 1979) (by decide +kernel)))
/-- what is left: the small machine's run of the law -/
def mi_goal (N : Nat) : Prop := ∀ zs : List Int32, zs.length ≤ N → ∃ (n : Nat) (h' : List mi_C) (sl' : Nat), mi_run (fun j => mi_Gs[j]?) (mi_ev zs) n 0 (0, [(0, .retAddr 0)], []) [] 0 = some (some (.int 1), h', sl') ∧ h'.length ≤ 600000 ∧ sl' ≤ 7302250
set_option maxHeartbeats 4000000 in
theorem mi_begin (hgoal : mi_goal 3072) {p : Program} {e : Env} {s : State} {m : MethodId} {below : List Frame} {meth : Method} {c : Code} (l : Launch) {b L : Nat} {xs : Nat → Int32} (hL : L ≤ 3072) (C0 : lw_At p s m meth c b L xs) : W p l e room_1 s m #[Value.ref b] below meth c s.heap [] 0 0 (lw_Z below #[Value.ref b] s) (entryFrame m ([Value.ref b] : List Value).toArray 4) := by
  obtain ⟨hx, hb, hr, hml, hown, hts, hX, hbl, hlocks, hgv⟩ := id C0
  obtain ⟨n, h', sl', hrun, r1, r2⟩ := hgoal ((List.range L).map xs) (by simpa using hL)
  have hts2 : ∀ w ∈ lw_tbl.filter goodWord, w.before #[Value.ref b] s = true := fun w hw => hts w (List.mem_filter.mp hw).1
  obtain ⟨D, cy, hK⟩ := mi_dat (mi_tok ((List.range L).map xs)).2.1 hts2
  obtain ⟨ox, hox, hE⟩ := mi_env0 hts hX hbl hgv
  have hl := lv_entry ([.ref b]) (n := 4) (Nat.le_of_ble_eq_true rfl)
  rw [lg_entry_eq]
  generalize (lg_sl ([.ref b]) ++ List.replicate (4 - (lg_sl ([.ref b])).length) Slot.unset).toArray = ls at hl ⊢
  have hl2 : lv_has ls 4 (mi_rl ox s.heap.size [(0, .retAddr 0)]) := by
    simp only [mi_rl, List.map_cons, List.map_nil, mi_rv, hox]
    exact hl
  have hsim : mi_Sim D mi_cl cy ox s.heap.size (fun q => s.heap.size ≤ q) s [] s.heap [] 0 := ⟨hK, fun k q h => by simp [mi_pl] at h, ⟨fun i j p q h => by simp [mi_pl] at h, fun k q h => by simp [mi_pl] at h⟩, va_S.rf, rfl, fun _ h => h, fun _ h => h⟩
  refine mi_sound2 (mi_tok ((List.range L).map xs)) l n 0 (0, [(0, .retAddr 0)], []) [] 0 (some (.int 1)) h' sl' mG_0 hrun rfl p e room_1 s m #[Value.ref b] below meth c s.heap [] 0 0 _ D cy (fun q => s.heap.size ≤ q) ox s.heap.size ls hx hb hml hts2 hown (fun q => absurd q (by decide +kernel)) hE hl2 hsim (show 0 + (h'.length - 0) ≤ 600000 by omega) (show 0 + (sl' - 0) ≤ 7302250 by omega) (by decide +kernel) (by decide +kernel) ?_
  intro i len pc1 st1 ls1 H1 locs1 hd hn hret hs1
  cases i with
  | ireturn =>
    obtain rfl := mi_lenok_eq hn (n := 1) rfl
    simp only [mi_ret] at hret
    split at hret
    · rename_i ty v e1
      split at hret
      · cases hret
        refine va_forget (fun q hq => hs1.2.2.2.1.2.2 q hq) ?_
        refine W.widen (k := 600000) (n := 7302250) (by simpa using r1) (by simpa using r2) ?_
        exact lw_ret hx hb hr hlocks hd
      · cases hret
    · cases hret
  | lreturn =>
    simp only [mi_ret] at hret
    split at hret <;> cases hret
  | return_ =>
    simp only [mi_ret] at hret
    split at hret <;> cases hret
  | _ => simp [mi_ret] at hret
