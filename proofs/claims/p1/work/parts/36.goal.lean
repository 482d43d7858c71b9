/-! The law's run: all scripts of at most 6 ints. -/
theorem k1g_0 : k1h208[0]? = some (.inl (11, [.ref 1, .int 0, .int 0, .ref 2, .ref 13, .ref 49, .int 0, .int (-1), .ref 85, .ref 86, .ref 92, .ref 112, .int 0, .ref 113])) := rfl
theorem k1g_1 : k1h208[1]? = some (.inr (0, 16000, .inl [])) := rfl
theorem k1g_112 : k1h208[112]? = some (.inr (1, 256, .inl [])) := rfl
theorem k1g_113 : k1h208[113]? = some (.inl (2, [.ref 92, .ref 49, .ref 114, .ref 115, .ref 116, .int 0, .ref 117, .ref 118, .int 0, .ref 119, .ref 112, .int 0, .int 0, .int 0, .int 0, .int (-1), .int (-1), .int 0, .ref 120, .int 0])) := rfl
theorem k1g_121 : k1h208[121]? = some (.inl (13, [.ref 122, .ref 168, .int 0, .ref 214, .int 0, .int 0, .ref 215, .int 0, .ref 216, .ref 217, .int 0, .int 0, .int (-1), .ref 218, .ref 219, .ref 220, .ref 221, .ref 222, .ref 223, .int 0, .ref 224, .ref 225, .ref 226, .ref 227, .ref 228, .int 0, .ref 229, .ref 230, .ref 231, .ref 232, .ref 233, .ref 234, .ref 235, .ref 236, .ref 237, .ref 238, .int 0, .int 0, .int 0, .int 0, .long 0, .ref 239, .ref 240, .ref 241, .ref 242, .ref 243, .ref 244, .ref 245, .ref 246, .ref 247, .ref 248, .ref 249, .int 0, .int 0, .int 0, .int 0, .int 0, .int 0, .int 0, .int (-1), .int (-1), .int 0, .int 0, .int 0])) := rfl
theorem k1g_214 : k1h208[214]? = some (.inr (0, 16000, .inl [])) := rfl
theorem k1g_248 : k1h208[248]? = some (.inr (1, 256, .inl [])) := rfl
theorem mJ_36 : mi_Γ 36 = some mG_36 := rfl
theorem mJ_66 : mi_Γ 66 = some mG_66 := rfl
theorem lw_new {ev : mi_Ev} : mi_heap mG_0.2.2.2.2.2.1 ev (.new 10) 8 [(1, .ref 0), (0, .retAddr 0)] [] k1h205 238650 = some ((11, [(1, .ref 0), (0, .retAddr 0)], [.ref 121]), k1h205 ++ [.inl (13, [.null, .null, .int 0, .null, .int 0, .int 0, .null, .int 0, .null, .null, .int 0, .int 0, .int 0, .null, .null, .null, .null, .null, .null, .int 0, .null, .null, .null, .null, .null, .int 0, .null, .null, .null, .null, .null, .null, .null, .null, .null, .null, .int 0, .int 0, .int 0, .int 0, .long 0, .null, .null, .null, .null, .null, .null, .null, .null, .null, .null, .null, .int 0, .int 0, .int 0, .int 0, .int 0, .int 0, .int 0, .int 0, .int 0, .int 0, .int 0, .int 0])], 238714) := by
  have e : mG_0.2.2.2.2.2.1.2.2.1 10 = some (13, [.null, .null, .int 0, .null, .int 0, .int 0, .null, .int 0, .null, .null, .int 0, .int 0, .int 0, .null, .null, .null, .null, .null, .null, .int 0, .null, .null, .null, .null, .null, .int 0, .null, .null, .null, .null, .null, .null, .null, .null, .null, .null, .int 0, .int 0, .int 0, .int 0, .long 0, .null, .null, .null, .null, .null, .null, .null, .null, .null, .null, .null, .int 0, .int 0, .int 0, .int 0, .int 0, .int 0, .int 0, .int 0, .int 0, .int 0, .int 0, .int 0]) := by decide +kernel
  have e2 : k1h205.length = 121 := by decide +kernel
  simp only [mi_heap, e, e2] <;> rfl
theorem lw_head {P : Option Value → List mi_C → Nat → Prop} (zs : List Int32) (k : mi_ok P mi_Γ (mi_ev zs) 0 (18, [(3, .int 0), (2, .ref 121), (1, .ref 0), (0, .retAddr 0)], []) k1h208 805858) : mi_ok P mi_Γ (mi_ev zs) 0 (0, [(0, .retAddr 0)], []) [] 0 := by
  refine mk_h (M := mG_0) (i := .new 7) (len := 3) (f' := (3, [(0, .retAddr 0)], [.ref 0])) (h' := k1h0) (sl' := 14) mJ_0 (by decide +kernel) rfl rfl ?_
  refine mk_p (M := mG_0) (i := .dup) (len := 1) (f' := (4, [(0, .retAddr 0)], [.ref 0, .ref 0])) mJ_0 (by decide +kernel) rfl ?_
  refine mk_y (M := mG_0) (i := .invokespecial 9) (len := 3) (M' := mG_36) (j' := 36) (as := [.ref 0]) (rest := [.ref 0]) (r' := none) (h' := k1h205) (sl' := 238650) mJ_0 (by decide +kernel) rfl rfl rfl rfl rfl mJ_36 (Nat.le_of_ble_eq_true rfl) (by decide +kernel) (k1r1.ext zs) ?_
  show mi_ok _ mi_Γ (mi_ev zs) 0 (7, [(0, .retAddr 0)], [.ref 0]) k1h205 238650
  refine mk_p (M := mG_0) (i := .astore_n 1) (len := 1) (f' := (8, [(1, .ref 0), (0, .retAddr 0)], [])) mJ_0 (by decide +kernel) rfl ?_
  refine mk_h (M := mG_0) (i := .new 10) (len := 3) (f' := (11, [(1, .ref 0), (0, .retAddr 0)], [.ref 121])) (h' := k1h205 ++ [.inl (13, [.null, .null, .int 0, .null, .int 0, .int 0, .null, .int 0, .null, .null, .int 0, .int 0, .int 0, .null, .null, .null, .null, .null, .null, .int 0, .null, .null, .null, .null, .null, .int 0, .null, .null, .null, .null, .null, .null, .null, .null, .null, .null, .int 0, .int 0, .int 0, .int 0, .long 0, .null, .null, .null, .null, .null, .null, .null, .null, .null, .null, .null, .int 0, .int 0, .int 0, .int 0, .int 0, .int 0, .int 0, .int 0, .int 0, .int 0, .int 0, .int 0])]) (sl' := 238714) mJ_0 (by decide +kernel) rfl lw_new ?_
  rw [show k1h205 ++ [.inl (13, [.null, .null, .int 0, .null, .int 0, .int 0, .null, .int 0, .null, .null, .int 0, .int 0, .int 0, .null, .null, .null, .null, .null, .null, .int 0, .null, .null, .null, .null, .null, .int 0, .null, .null, .null, .null, .null, .null, .null, .null, .null, .null, .int 0, .int 0, .int 0, .int 0, .long 0, .null, .null, .null, .null, .null, .null, .null, .null, .null, .null, .null, .int 0, .int 0, .int 0, .int 0, .int 0, .int 0, .int 0, .int 0, .int 0, .int 0, .int 0, .int 0])] = k1h206 from mi_eqH_ok (by decide +kernel)]
  refine mk_p (M := mG_0) (i := .dup) (len := 1) (f' := (12, [(1, .ref 0), (0, .retAddr 0)], [.ref 121, .ref 121])) mJ_0 (by decide +kernel) rfl ?_
  refine mk_y (M := mG_0) (i := .invokespecial 12) (len := 3) (M' := mG_66) (j' := 66) (as := [.ref 121]) (rest := [.ref 121]) (r' := none) (h' := k1h208) (sl' := 805858) mJ_0 (by decide +kernel) rfl rfl rfl rfl rfl mJ_66 (Nat.le_of_ble_eq_true rfl) (by decide +kernel) (k1r261.ext zs) ?_
  show mi_ok _ mi_Γ (mi_ev zs) 0 (15, [(1, .ref 0), (0, .retAddr 0)], [.ref 121]) k1h208 805858
  refine mk_p (M := mG_0) (i := .astore_n 2) (len := 1) (f' := (16, [(2, .ref 121), (1, .ref 0), (0, .retAddr 0)], [])) mJ_0 (by decide +kernel) rfl ?_
  refine mk_v (M := mG_0) (i := .iconst 0) (len := 1) (pc' := 17) (v' := .int 0) (st' := []) mJ_0 (by decide +kernel) rfl (by decide +kernel) ?_
  refine mk_p (M := mG_0) (i := .istore_n 3) (len := 1) (f' := (18, [(3, .int 0), (2, .ref 121), (1, .ref 0), (0, .retAddr 0)], [])) mJ_0 (by decide +kernel) rfl ?_
  exact k
theorem lw_and (a : Int32) : ∃ k : Nat, k < 32 ∧ a &&& 31 = Int32.ofNat k := by
  refine ⟨(a &&& 31).toBitVec.toNat, ?_, ?_⟩
  · show (a.toBitVec &&& (31 : Int32).toBitVec).toNat < 32
    rw [BitVec.toNat_and]
    exact Nat.lt_of_le_of_lt Nat.and_le_right (by decide +kernel)
  · refine Int32.toBitVec_inj.mp ?_
    show (a &&& 31).toBitVec = BitVec.ofNat 32 (a &&& 31).toBitVec.toNat
    rw [BitVec.ofNat_toNat, BitVec.setWidth_eq]
theorem lw_one (a0 a1 a2 a3 a4 a5 : Int32) : mi_ok (mi_fin 250 805858) mi_Γ (mi_ev [a0, a1, a2, a3, a4, a5]) 0 (18, [(3, .int 0), (2, .ref 121), (1, .ref 0), (0, .retAddr 0)], []) k1h208 805858 := by
  obtain ⟨k, hk, e⟩ := lw_and a0
  have hl : k1h208.length = 250 := by decide +kernel
  match k, hk, e with
  | 0, _, e => exact lw1_0 a0 a1 a2 a3 a4 a5 e hl k1g_0 k1g_1 k1g_121 k1g_214
  | 1, _, e =>
    rcases Int.lt_trichotomy a1.toInt 0 with c | c | c
    · exact lw1_1n a0 a1 a2 a3 a4 a5 e (by have q := Int32.le_toInt a1; omega) (by omega) hl k1g_0 k1g_121
    · exact lw1_1z a0 a1 a2 a3 a4 a5 e (Int32.toInt_inj.mp (c.trans (by decide +kernel)))
    · exact lw1_1p a0 a1 a2 a3 a4 a5 e (by omega) (by have q := Int32.toInt_lt a1; omega) hl k1g_0 k1g_121
  | 2, _, e => exact lw1_2 a0 a1 a2 a3 a4 a5 e
  | 3, _, e => exact lw1_3 a0 a1 a2 a3 a4 a5 e hl k1g_0 k1g_121
  | 4, _, e => exact lw1_4 a0 a1 a2 a3 a4 a5 e hl k1g_0 k1g_121
  | 5, _, e => exact lw1_5 a0 a1 a2 a3 a4 a5 e hl k1g_0 k1g_121
  | 6, _, e => exact lw1_6 a0 a1 a2 a3 a4 a5 e hl k1g_0 k1g_121
  | 7, _, e => exact lw1_7 a0 a1 a2 a3 a4 a5 e hl k1g_0 k1g_121
  | 8, _, e => exact lw1_8 a0 a1 a2 a3 a4 a5 e hl k1g_0 k1g_121
  | 9, _, e => exact lw1_9 a0 a1 a2 a3 a4 a5 e hl k1g_0 k1g_121
  | 10, _, e => exact lw1_10 a0 a1 a2 a3 a4 a5 e hl k1g_0 k1g_121
  | 11, _, e => exact lw1_11 a0 a1 a2 a3 a4 a5 e hl k1g_0 k1g_121
  | 12, _, e =>
    by_cases d1 : a3.toInt < 0
    · exact lw1_12n a0 a1 a2 a3 a4 a5 e (by have q := Int32.le_toInt a3; omega) (by omega) hl k1g_0 k1g_121
    · by_cases d2 : 4 < a3.toInt
      · exact lw1_12p a0 a1 a2 a3 a4 a5 e (by omega) (by have q := Int32.toInt_lt a3; omega) hl k1g_0 k1g_121
      · by_cases d3 : a3.toInt = 0
        · exact lw1_12_0 a0 a1 a2 a3 a4 a5 e (by omega) (by omega) hl k1g_0 k1g_121
        · by_cases d4 : a3.toInt = 1
          · exact lw1_12_1 a0 a1 a2 a3 a4 a5 e (by omega) (by omega) hl k1g_0 k1g_121
          · by_cases d5 : a3.toInt = 2
            · exact lw1_12_2 a0 a1 a2 a3 a4 a5 e (by omega) (by omega) hl k1g_0 k1g_121
            · by_cases d6 : a3.toInt = 3
              · exact lw1_12_3 a0 a1 a2 a3 a4 a5 e (by omega) (by omega) hl k1g_0 k1g_121
              · exact lw1_12_4 a0 a1 a2 a3 a4 a5 e (by omega) (by omega) hl k1g_0 k1g_121
  | 13, _, e => exact lw1_13 a0 a1 a2 a3 a4 a5 e hl k1g_0 k1g_121
  | 14, _, e => exact lw1_14 a0 a1 a2 a3 a4 a5 e hl k1g_0 k1g_112 k1g_121 k1g_248
  | 15, _, e => exact lw1_15 a0 a1 a2 a3 a4 a5 e hl k1g_0 k1g_121
  | 16, _, e => exact lw1_16 a0 a1 a2 a3 a4 a5 e hl k1g_0 k1g_113 k1g_121
  | 17, _, e => exact lw1_17 a0 a1 a2 a3 a4 a5 e hl k1g_0 k1g_113 k1g_121
  | 18, _, e => exact lw1_18 a0 a1 a2 a3 a4 a5 e hl k1g_0 k1g_113 k1g_121
  | 19, _, e => exact lw1_19 a0 a1 a2 a3 a4 a5 e hl k1g_0 k1g_113 k1g_121
  | 20, _, e =>
    by_cases d1 : a1.toInt < 0
    · exact lw1_20n a0 a1 a2 a3 a4 a5 e (by have q := Int32.le_toInt a1; omega) (by omega) hl k1g_0 k1g_121
    · by_cases d2 : 255 < a1.toInt
      · exact lw1_20p a0 a1 a2 a3 a4 a5 e (by omega) (by have q := Int32.toInt_lt a1; omega) hl k1g_0 k1g_121
      · exact lw1_20m a0 a1 a2 a3 a4 a5 e (by omega) (by omega) hl k1g_0 k1g_113 k1g_121
  | 21, _, e => exact lw1_21 a0 a1 a2 a3 a4 a5 e hl k1g_0 k1g_113 k1g_121
  | 22, _, e => exact lw1_22 a0 a1 a2 a3 a4 a5 e hl k1g_0
  | 23, _, e => exact lw1_23 a0 a1 a2 a3 a4 a5 e hl k1g_0
  | 24, _, e => exact lw1_24 a0 a1 a2 a3 a4 a5 e hl k1g_0
  | 25, _, e => exact lw1_25 a0 a1 a2 a3 a4 a5 e hl k1g_0
  | 26, _, e => exact lw1_26 a0 a1 a2 a3 a4 a5 e hl k1g_0
  | 27, _, e => exact lw1_27 a0 a1 a2 a3 a4 a5 e hl k1g_0
  | 28, _, e => exact lw1_28 a0 a1 a2 a3 a4 a5 e hl k1g_0
  | 29, _, e => exact lw1_29 a0 a1 a2 a3 a4 a5 e hl k1g_0
  | 30, _, e => exact lw1_30 a0 a1 a2 a3 a4 a5 e hl k1g_0
  | 31, _, e => exact lw1_31 a0 a1 a2 a3 a4 a5 e hl k1g_0
  | n + 32, hk, _ => exact absurd hk (by omega)
theorem mi_goal_ok : mi_goal 6 := by
  intro zs hz
  have hl : k1h208.length = 250 := by decide +kernel
  have key : mi_ok (mi_fin 250 805858) mi_Γ (mi_ev zs) 0 (18, [(3, .int 0), (2, .ref 121), (1, .ref 0), (0, .retAddr 0)], []) k1h208 805858 := by
    match zs, hz with
    | [], _ => exact lws_0  hl
    | [a0], _ => exact lws_1 a0 hl
    | [a0, a1], _ => exact lws_2 a0 a1 hl
    | [a0, a1, a2], _ => exact lws_3 a0 a1 a2 hl
    | [a0, a1, a2, a3], _ => exact lws_4 a0 a1 a2 a3 hl
    | [a0, a1, a2, a3, a4], _ => exact lws_5 a0 a1 a2 a3 a4 hl
    | [a0, a1, a2, a3, a4, a5], _ => exact lw_one a0 a1 a2 a3 a4 a5
    | _ :: _ :: _ :: _ :: _ :: _ :: _ :: _, hz => exact absurd hz (by simp only [List.length_cons]; omega)
  obtain ⟨r, h', sl', ⟨n, e⟩, rfl, e2, e3⟩ := lw_head zs key
  exact ⟨n, h', sl', e, by omega, by omega⟩
