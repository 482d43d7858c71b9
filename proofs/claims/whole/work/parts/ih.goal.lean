/-! The goal: the small machine's run of the law. -/
theorem lw_new {ev : mi_Ev} : mi_heap mG_0.2.2.2.2.2.1 ev (.new 10) 8 [(1, .ref 0), (0, .retAddr 0)] [] k1h205 238650 = some ((11, [(1, .ref 0), (0, .retAddr 0)], [.ref 121]), k1h205 ++ [.inl (13, [.null, .null, .int 0, .null, .int 0, .int 0, .null, .int 0, .null, .null, .int 0, .int 0, .int 0, .null, .null, .null, .null, .null, .null, .int 0, .null, .null, .null, .null, .null, .int 0, .null, .null, .null, .null, .null, .null, .null, .null, .null, .null, .int 0, .int 0, .int 0, .int 0, .long 0, .null, .null, .null, .null, .null, .null, .null, .null, .null, .null, .null, .int 0, .int 0, .int 0, .int 0, .int 0, .int 0, .int 0, .int 0, .int 0, .int 0, .int 0, .int 0])], 238714) := by
  have e : mG_0.2.2.2.2.2.1.2.2.1 10 = some (13, [.null, .null, .int 0, .null, .int 0, .int 0, .null, .int 0, .null, .null, .int 0, .int 0, .int 0, .null, .null, .null, .null, .null, .null, .int 0, .null, .null, .null, .null, .null, .int 0, .null, .null, .null, .null, .null, .null, .null, .null, .null, .null, .int 0, .int 0, .int 0, .int 0, .long 0, .null, .null, .null, .null, .null, .null, .null, .null, .null, .null, .null, .int 0, .int 0, .int 0, .int 0, .int 0, .int 0, .int 0, .int 0, .int 0, .int 0, .int 0, .int 0]) := by decide +kernel
  have e2 : k1h205.length = 121 := by decide +kernel
  simp only [mi_heap, e, e2] <;> rfl
theorem lw_head {P : Option Value → List mi_C → Nat → Prop} (zs : List Int32) (k : mi_ok P mi_Γ (mi_ev zs) 0 (16, [(2, .ref 121), (1, .ref 0), (0, .retAddr 0)], []) k1h208 805858) : mi_ok P mi_Γ (mi_ev zs) 0 (0, [(0, .retAddr 0)], []) [] 0 := by
  refine mk_h (M := mG_0) (i := .new 7) (len := 3) (f' := (3, [(0, .retAddr 0)], [.ref 0])) (h' := k1h0) (sl' := 14) mJ_0 (by decide +kernel) rfl rfl ?_
  refine mk_p (M := mG_0) (i := .dup) (len := 1) (f' := (4, [(0, .retAddr 0)], [.ref 0, .ref 0])) mJ_0 (by decide +kernel) rfl ?_
  refine mk_y (M := mG_0) (i := .invokespecial 9) (len := 3) (M' := mG_62) (j' := 62) (as := [.ref 0]) (rest := [.ref 0]) (r' := none) (h' := k1h205) (sl' := 238650) mJ_0 (by decide +kernel) rfl rfl rfl rfl rfl mJ_62 (Nat.le_of_ble_eq_true rfl) (by decide +kernel) (k1r1.ext zs) ?_
  show mi_ok _ mi_Γ (mi_ev zs) 0 (7, [(0, .retAddr 0)], [.ref 0]) k1h205 238650
  refine mk_p (M := mG_0) (i := .astore_n 1) (len := 1) (f' := (8, [(1, .ref 0), (0, .retAddr 0)], [])) mJ_0 (by decide +kernel) rfl ?_
  refine mk_h (M := mG_0) (i := .new 10) (len := 3) (f' := (11, [(1, .ref 0), (0, .retAddr 0)], [.ref 121])) (h' := k1h205 ++ [.inl (13, [.null, .null, .int 0, .null, .int 0, .int 0, .null, .int 0, .null, .null, .int 0, .int 0, .int 0, .null, .null, .null, .null, .null, .null, .int 0, .null, .null, .null, .null, .null, .int 0, .null, .null, .null, .null, .null, .null, .null, .null, .null, .null, .int 0, .int 0, .int 0, .int 0, .long 0, .null, .null, .null, .null, .null, .null, .null, .null, .null, .null, .null, .int 0, .int 0, .int 0, .int 0, .int 0, .int 0, .int 0, .int 0, .int 0, .int 0, .int 0, .int 0])]) (sl' := 238714) mJ_0 (by decide +kernel) rfl lw_new ?_
  rw [show k1h205 ++ [.inl (13, [.null, .null, .int 0, .null, .int 0, .int 0, .null, .int 0, .null, .null, .int 0, .int 0, .int 0, .null, .null, .null, .null, .null, .null, .int 0, .null, .null, .null, .null, .null, .int 0, .null, .null, .null, .null, .null, .null, .null, .null, .null, .null, .int 0, .int 0, .int 0, .int 0, .long 0, .null, .null, .null, .null, .null, .null, .null, .null, .null, .null, .null, .int 0, .int 0, .int 0, .int 0, .int 0, .int 0, .int 0, .int 0, .int 0, .int 0, .int 0, .int 0])] = k1h206 from mi_eqH_ok (by decide +kernel)]
  refine mk_p (M := mG_0) (i := .dup) (len := 1) (f' := (12, [(1, .ref 0), (0, .retAddr 0)], [.ref 121, .ref 121])) mJ_0 (by decide +kernel) rfl ?_
  refine mk_y (M := mG_0) (i := .invokespecial 12) (len := 3) (M' := mG_136) (j' := 136) (as := [.ref 121]) (rest := [.ref 121]) (r' := none) (h' := k1h208) (sl' := 805858) mJ_0 (by decide +kernel) rfl rfl rfl rfl rfl mJ_136 (Nat.le_of_ble_eq_true rfl) (by decide +kernel) (k1r261.ext zs) ?_
  show mi_ok _ mi_Γ (mi_ev zs) 0 (15, [(1, .ref 0), (0, .retAddr 0)], [.ref 121]) k1h208 805858
  refine mk_p (M := mG_0) (i := .astore_n 2) (len := 1) (f' := (16, [(2, .ref 121), (1, .ref 0), (0, .retAddr 0)], [])) mJ_0 (by decide +kernel) rfl ?_
  exact k
theorem mi_goal_ok : mi_goal 3072 := by
  intro zs hz
  obtain ⟨S', hS⟩ := jR_law hz js_I
  have hK := ja_L_law_ok zs 0 121 (js_S k1h208) (1, S') rfl rfl hS
  have hk := hK [(2, .ref 121), (1, .ref 0), (0, .retAddr 0)] [] k1h208 805858 (fun q hq => by
    simp only [List.mem_cons, List.not_mem_nil, or_false] at hq
    rcases hq with rfl | rfl | rfl
    · exact ⟨.retAddr 0, rfl, rfl⟩
    · exact ⟨.ref 0, rfl, rfl⟩
    · exact ⟨.ref 121, rfl, rfl⟩) trivial js_k1
  obtain ⟨r, h', sl', ⟨n, hn⟩, ⟨y, e1, e2⟩, hrp, e3⟩ := lw_head zs hk
  have e2 : y.toInt = 1 := e2
  have ey : y = 1 := Int32.toInt_inj.mp (by rw [e2]; decide)
  rw [e1, ey] at hn
  refine ⟨n, h', sl', hn, ?_, by omega⟩
  have h250 : ja_Tt.length = 250 := by decide +kernel
  have := hrp.1
  omega
