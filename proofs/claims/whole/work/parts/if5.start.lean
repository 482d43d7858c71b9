/-! What is outside, and the run. -/
def mi_ox (b : Nat) (adK adV : Nat → Nat) (fm : Option Nat) (st : Nat → Nat) (k : Nat) : Option Nat := if k = 0 then some b else if k = 43 then fm else if 43 < k then some (st (k - 44)) else if k % 2 = 1 then some (adK (k / 2)) else some (adV (k / 2 - 1))
theorem mi_env0 {s : State} {b L : Nat} {xs : Nat → Int32} (hts : ∀ w ∈ lw_tbl, w.before #[Value.ref b] s = true) (hX : va_X b L xs s s.heap) (hbl : b < s.heap.size) (hgv : mi_nw.before #[Value.ref b] s = true) : ∃ ox : Nat → Option Nat, ox 0 = some b ∧ mi_Env (mi_ev ((List.range L).map xs)) ox s.heap.size (fun q => s.heap.size ≤ q) s s.heap := by
  have hf := flat_of_before _ hgv
  have hf : ∀ (i : Nat) (w : Jvm.Cond), mi_f[i]? = some w → w.before #[Value.ref b] s = true := fun i w h => hf w (List.mem_of_getElem? h)
  have hA : ∀ a : Nat, a < s.heap.size → ¬ (fun q : Nat => s.heap.size ≤ q) a := fun a h => Nat.not_le.mpr h
  obtain ⟨adK, adV, hS, hT⟩ := vk_Sof (N := 21) (tm := mi_tm) (len := mi_sn) (byt := mi_sb) (A := fun q : Nat => s.heap.size ≤ q) (fun i h => (mi_s1 i h).1) (fun i h => hf _ _ (mi_s1 i h).2.1) (fun i h => hf _ _ (mi_s1 i h).2.2.1) (fun i h => hf _ _ (mi_s1 i h).2.2.2.1) (fun i h => hf _ _ (mi_s1 i h).2.2.2.2) (fun i h j hj => hf _ _ (mi_s2 i h j hj)) (fun i j h1 h2 h3 => (mi_s3 i h1 j h2 h3).imp (hf _ _) (hf _ _)) hA
  have hz1 : va_Z "java/lang/String" "COMPACT_STRINGS" "Z" (.int 1) (fun q : Nat => s.heap.size ≤ q) s s.heap := va_Zof (hts _ (List.mem_of_getElem? (i := 299) (by decide +kernel))) (hts _ (List.mem_of_getElem? (i := 250) (by decide +kernel))) (va_eqi (hf 4 _ (by decide +kernel))) hA
  have hz2 : ∃ fm : Option Nat, va_Z "jdk/internal/util/Preconditions" "SIOOBE_FORMATTER" "Ljava/util/function/BiFunction;" (va_rf fm) (fun q : Nat => s.heap.size ≤ q) s s.heap := by
    have h := va_Zqof (A := fun q : Nat => s.heap.size ≤ q) (hts (.laysStatic "jdk/internal/util/Preconditions" "SIOOBE_FORMATTER" "Ljava/util/function/BiFunction;") (List.mem_of_getElem? (i := 315) (by decide +kernel))) (hts _ (List.mem_of_getElem? (i := 252) (by decide +kernel))) (hf 5 _ (by decide +kernel)) hA
    rcases h with h | ⟨t, h⟩
    · exact ⟨none, h⟩
    · exact ⟨some t, h⟩
  obtain ⟨fm, hz2⟩ := hz2
  have hst0 : ∀ i : Nat, ∃ t : Nat, i < 4 → va_Z "SafeCode" (mi_tn i) "[I" (.ref t) (fun q : Nat => s.heap.size ≤ q) s s.heap ∧ va_T .int t 46 (fun j => .int ((mi_tb.getD i []).getD j 0)) (fun q : Nat => s.heap.size ≤ q) s s.heap := by
    intro i
    by_cases hi : i < 4
    · obtain ⟨t, ht, hT⟩ := va_Tof (tm := .static "SafeCode" (mi_tn i) "[I") (ty := .int) (N := 46) (f := fun j => .int ((mi_tb.getD i []).getD j 0)) (A := fun q : Nat => s.heap.size ≤ q) (by decide) (hf _ _ (mi_t1 i hi).1) (va_eqt (hf _ _ (mi_t1 i hi).2.1)) (fun j hj => va_eqt (hf _ _ (mi_t2 i hi j hj))) hA
      exact ⟨t, fun _ => ⟨va_Zref (hts _ (List.mem_of_getElem? (mi_t1 i hi).2.2)) (hts _ (List.mem_of_getElem? (i := 248) (by decide +kernel))) ht hA, hT⟩⟩
    · exact ⟨0, fun h => absurd h hi⟩
  obtain ⟨st, hst⟩ := Classical.axiomOfChoice hst0
  refine ⟨mi_ox b adK adV fm st, rfl, ?_, ?_, ?_, ?_, ?_⟩
  · intro q hq
    simp only [mi_ev, mi_e1, List.mem_cons, List.not_mem_nil, or_false] at hq
    rcases hq with rfl | rfl | rfl | rfl | rfl | rfl | rfl | rfl | rfl | rfl | rfl | rfl | rfl | rfl | rfl | rfl | rfl | rfl | rfl | rfl | rfl | rfl | rfl | rfl | rfl | rfl
    · obtain ⟨scr, h1, h2, h3, h4, h5⟩ := hX
      refine ⟨b, rfl, scr, h1, h2, h3, ?_, ?_, ?_, Nat.not_le.mpr hbl⟩
      · simp only [List.length_map, List.length_range]; omega
      · simp only [List.length_map, List.length_range]; rw [h4]
      · intro j hj
        simp only [List.length_map, List.length_range] at hj
        rw [h5 j hj]
        simp [hj]
    · exact ⟨adV 0, rfl, (hS.1 0 (by decide)).2.2.2⟩
    · exact ⟨adV 1, rfl, (hS.1 1 (by decide)).2.2.2⟩
    · exact ⟨adV 2, rfl, (hS.1 2 (by decide)).2.2.2⟩
    · exact ⟨adV 3, rfl, (hS.1 3 (by decide)).2.2.2⟩
    · exact ⟨adV 4, rfl, (hS.1 4 (by decide)).2.2.2⟩
    · exact ⟨adV 5, rfl, (hS.1 5 (by decide)).2.2.2⟩
    · exact ⟨adV 6, rfl, (hS.1 6 (by decide)).2.2.2⟩
    · exact ⟨adV 7, rfl, (hS.1 7 (by decide)).2.2.2⟩
    · exact ⟨adV 8, rfl, (hS.1 8 (by decide)).2.2.2⟩
    · exact ⟨adV 9, rfl, (hS.1 9 (by decide)).2.2.2⟩
    · exact ⟨adV 10, rfl, (hS.1 10 (by decide)).2.2.2⟩
    · exact ⟨adV 11, rfl, (hS.1 11 (by decide)).2.2.2⟩
    · exact ⟨adV 12, rfl, (hS.1 12 (by decide)).2.2.2⟩
    · exact ⟨adV 13, rfl, (hS.1 13 (by decide)).2.2.2⟩
    · exact ⟨adV 14, rfl, (hS.1 14 (by decide)).2.2.2⟩
    · exact ⟨adV 15, rfl, (hS.1 15 (by decide)).2.2.2⟩
    · exact ⟨adV 16, rfl, (hS.1 16 (by decide)).2.2.2⟩
    · exact ⟨adV 17, rfl, (hS.1 17 (by decide)).2.2.2⟩
    · exact ⟨adV 18, rfl, (hS.1 18 (by decide)).2.2.2⟩
    · exact ⟨adV 19, rfl, (hS.1 19 (by decide)).2.2.2⟩
    · exact ⟨adV 20, rfl, (hS.1 20 (by decide)).2.2.2⟩
    · exact ⟨st 0, rfl, (hst 0 (by decide)).2⟩
    · exact ⟨st 1, rfl, (hst 1 (by decide)).2⟩
    · exact ⟨st 2, rfl, (hst 2 (by decide)).2⟩
    · exact ⟨st 3, rfl, (hst 3 (by decide)).2⟩
  · intro q hq
    simp only [mi_ev, mi_e2, List.mem_cons, List.not_mem_nil, or_false] at hq
    rcases hq with rfl | rfl | rfl | rfl | rfl | rfl | rfl | rfl | rfl | rfl | rfl | rfl | rfl | rfl | rfl | rfl | rfl | rfl | rfl | rfl | rfl
    · exact ⟨adK 0, adV 0, rfl, rfl, (hS.1 0 (by decide)).1, (hS.1 0 (by decide)).2.2.1, (hS.1 0 (by decide)).2.1⟩
    · exact ⟨adK 1, adV 1, rfl, rfl, (hS.1 1 (by decide)).1, (hS.1 1 (by decide)).2.2.1, (hS.1 1 (by decide)).2.1⟩
    · exact ⟨adK 2, adV 2, rfl, rfl, (hS.1 2 (by decide)).1, (hS.1 2 (by decide)).2.2.1, (hS.1 2 (by decide)).2.1⟩
    · exact ⟨adK 3, adV 3, rfl, rfl, (hS.1 3 (by decide)).1, (hS.1 3 (by decide)).2.2.1, (hS.1 3 (by decide)).2.1⟩
    · exact ⟨adK 4, adV 4, rfl, rfl, (hS.1 4 (by decide)).1, (hS.1 4 (by decide)).2.2.1, (hS.1 4 (by decide)).2.1⟩
    · exact ⟨adK 5, adV 5, rfl, rfl, (hS.1 5 (by decide)).1, (hS.1 5 (by decide)).2.2.1, (hS.1 5 (by decide)).2.1⟩
    · exact ⟨adK 6, adV 6, rfl, rfl, (hS.1 6 (by decide)).1, (hS.1 6 (by decide)).2.2.1, (hS.1 6 (by decide)).2.1⟩
    · exact ⟨adK 7, adV 7, rfl, rfl, (hS.1 7 (by decide)).1, (hS.1 7 (by decide)).2.2.1, (hS.1 7 (by decide)).2.1⟩
    · exact ⟨adK 8, adV 8, rfl, rfl, (hS.1 8 (by decide)).1, (hS.1 8 (by decide)).2.2.1, (hS.1 8 (by decide)).2.1⟩
    · exact ⟨adK 9, adV 9, rfl, rfl, (hS.1 9 (by decide)).1, (hS.1 9 (by decide)).2.2.1, (hS.1 9 (by decide)).2.1⟩
    · exact ⟨adK 10, adV 10, rfl, rfl, (hS.1 10 (by decide)).1, (hS.1 10 (by decide)).2.2.1, (hS.1 10 (by decide)).2.1⟩
    · exact ⟨adK 11, adV 11, rfl, rfl, (hS.1 11 (by decide)).1, (hS.1 11 (by decide)).2.2.1, (hS.1 11 (by decide)).2.1⟩
    · exact ⟨adK 12, adV 12, rfl, rfl, (hS.1 12 (by decide)).1, (hS.1 12 (by decide)).2.2.1, (hS.1 12 (by decide)).2.1⟩
    · exact ⟨adK 13, adV 13, rfl, rfl, (hS.1 13 (by decide)).1, (hS.1 13 (by decide)).2.2.1, (hS.1 13 (by decide)).2.1⟩
    · exact ⟨adK 14, adV 14, rfl, rfl, (hS.1 14 (by decide)).1, (hS.1 14 (by decide)).2.2.1, (hS.1 14 (by decide)).2.1⟩
    · exact ⟨adK 15, adV 15, rfl, rfl, (hS.1 15 (by decide)).1, (hS.1 15 (by decide)).2.2.1, (hS.1 15 (by decide)).2.1⟩
    · exact ⟨adK 16, adV 16, rfl, rfl, (hS.1 16 (by decide)).1, (hS.1 16 (by decide)).2.2.1, (hS.1 16 (by decide)).2.1⟩
    · exact ⟨adK 17, adV 17, rfl, rfl, (hS.1 17 (by decide)).1, (hS.1 17 (by decide)).2.2.1, (hS.1 17 (by decide)).2.1⟩
    · exact ⟨adK 18, adV 18, rfl, rfl, (hS.1 18 (by decide)).1, (hS.1 18 (by decide)).2.2.1, (hS.1 18 (by decide)).2.1⟩
    · exact ⟨adK 19, adV 19, rfl, rfl, (hS.1 19 (by decide)).1, (hS.1 19 (by decide)).2.2.1, (hS.1 19 (by decide)).2.1⟩
    · exact ⟨adK 20, adV 20, rfl, rfl, (hS.1 20 (by decide)).1, (hS.1 20 (by decide)).2.2.1, (hS.1 20 (by decide)).2.1⟩
  · intro q hq
    simp only [mi_ev, mi_e3, List.mem_cons, List.not_mem_nil, or_false] at hq
    rcases hq with rfl | rfl | rfl | rfl | rfl | rfl
    · exact hz1
    · exact hz2
    · exact (hst 0 (by decide)).1
    · exact (hst 1 (by decide)).1
    · exact (hst 2 (by decide)).1
    · exact (hst 3 (by decide)).1
  · intro q hq
    simp only [mi_ev, mi_e4, List.mem_cons, List.not_mem_nil, or_false] at hq
    rcases hq with rfl | rfl | rfl | rfl | rfl | rfl | rfl | rfl | rfl | rfl | rfl | rfl | rfl | rfl | rfl | rfl | rfl | rfl | rfl | rfl | rfl
    · exact ⟨adK 0, rfl, vk_R.of (hts _ (List.mem_of_getElem? (i := 285) (by decide +kernel))) (hT 0 (by decide))⟩
    · exact ⟨adK 1, rfl, vk_R.of (hts _ (List.mem_of_getElem? (i := 338) (by decide +kernel))) (hT 1 (by decide))⟩
    · exact ⟨adK 2, rfl, vk_R.of (hts _ (List.mem_of_getElem? (i := 339) (by decide +kernel))) (hT 2 (by decide))⟩
    · exact ⟨adK 3, rfl, vk_R.of (hts _ (List.mem_of_getElem? (i := 2490) (by decide +kernel))) (hT 3 (by decide))⟩
    · exact ⟨adK 4, rfl, vk_R.of (hts _ (List.mem_of_getElem? (i := 2509) (by decide +kernel))) (hT 4 (by decide))⟩
    · exact ⟨adK 5, rfl, vk_R.of (hts _ (List.mem_of_getElem? (i := 2510) (by decide +kernel))) (hT 5 (by decide))⟩
    · exact ⟨adK 6, rfl, vk_R.of (hts _ (List.mem_of_getElem? (i := 2511) (by decide +kernel))) (hT 6 (by decide))⟩
    · exact ⟨adK 7, rfl, vk_R.of (hts _ (List.mem_of_getElem? (i := 2516) (by decide +kernel))) (hT 7 (by decide))⟩
    · exact ⟨adK 8, rfl, vk_R.of (hts _ (List.mem_of_getElem? (i := 2529) (by decide +kernel))) (hT 8 (by decide))⟩
    · exact ⟨adK 9, rfl, vk_R.of (hts _ (List.mem_of_getElem? (i := 2530) (by decide +kernel))) (hT 9 (by decide))⟩
    · exact ⟨adK 10, rfl, vk_R.of (hts _ (List.mem_of_getElem? (i := 2531) (by decide +kernel))) (hT 10 (by decide))⟩
    · exact ⟨adK 11, rfl, vk_R.of (hts _ (List.mem_of_getElem? (i := 2532) (by decide +kernel))) (hT 11 (by decide))⟩
    · exact ⟨adK 12, rfl, vk_R.of (hts _ (List.mem_of_getElem? (i := 2533) (by decide +kernel))) (hT 12 (by decide))⟩
    · exact ⟨adK 13, rfl, vk_R.of (hts _ (List.mem_of_getElem? (i := 2554) (by decide +kernel))) (hT 13 (by decide))⟩
    · exact ⟨adK 14, rfl, vk_R.of (hts _ (List.mem_of_getElem? (i := 2555) (by decide +kernel))) (hT 14 (by decide))⟩
    · exact ⟨adK 15, rfl, vk_R.of (hts _ (List.mem_of_getElem? (i := 2560) (by decide +kernel))) (hT 15 (by decide))⟩
    · exact ⟨adK 16, rfl, vk_R.of (hts _ (List.mem_of_getElem? (i := 2565) (by decide +kernel))) (hT 16 (by decide))⟩
    · exact ⟨adK 17, rfl, vk_R.of (hts _ (List.mem_of_getElem? (i := 2566) (by decide +kernel))) (hT 17 (by decide))⟩
    · exact ⟨adK 18, rfl, vk_R.of (hts _ (List.mem_of_getElem? (i := 2587) (by decide +kernel))) (hT 18 (by decide))⟩
    · exact ⟨adK 19, rfl, vk_R.of (hts _ (List.mem_of_getElem? (i := 2698) (by decide +kernel))) (hT 19 (by decide))⟩
    · exact ⟨adK 20, rfl, vk_R.of (hts _ (List.mem_of_getElem? (i := 2699) (by decide +kernel))) (hT 20 (by decide))⟩
  · intro w hw
    simp only [mi_ev, mi_e5, List.mem_cons, List.not_mem_nil, or_false] at hw
    rcases hw with rfl | rfl | rfl | rfl | rfl | rfl | rfl | rfl | rfl | rfl | rfl | rfl | rfl | rfl | rfl
    · exact va_Nw.of rfl (hts _ (List.mem_of_getElem? (i := 439) (by decide +kernel)))
    · exact va_Nw.of rfl (hts _ (List.mem_of_getElem? (i := 445) (by decide +kernel)))
    · exact va_Nw.of rfl (hts _ (List.mem_of_getElem? (i := 493) (by decide +kernel)))
    · exact va_Nw.of rfl (hts _ (List.mem_of_getElem? (i := 584) (by decide +kernel)))
    · exact va_Nw.of rfl (hts _ (List.mem_of_getElem? (i := 759) (by decide +kernel)))
    · exact va_Nw.of rfl (hts _ (List.mem_of_getElem? (i := 802) (by decide +kernel)))
    · exact va_Nw.of rfl (hts _ (List.mem_of_getElem? (i := 2059) (by decide +kernel)))
    · exact va_Nw.of rfl (hts _ (List.mem_of_getElem? (i := 385) (by decide +kernel)))
    · exact va_Nw.of rfl (hts _ (List.mem_of_getElem? (i := 1087) (by decide +kernel)))
    · exact va_Nw.of rfl (hts _ (List.mem_of_getElem? (i := 1295) (by decide +kernel)))
    · exact va_Nw.of rfl (hts _ (List.mem_of_getElem? (i := 1301) (by decide +kernel)))
    · exact va_Nw.of rfl (hts _ (List.mem_of_getElem? (i := 1315) (by decide +kernel)))
    · exact va_Nw.of rfl (hts _ (List.mem_of_getElem? (i := 1381) (by decide +kernel)))
    · exact va_Nw.of rfl (hts _ (List.mem_of_getElem? (i := 1417) (by decide +kernel)))
    · exact va_Nw.of rfl (hts _ (List.mem_of_getElem? (i := 1979) (by decide +kernel)))
/-- what is left: the small machine's run of the law -/
def mi_goal (N : Nat) : Prop := ∀ zs : List Int32, zs.length ≤ N → ∃ (n : Nat) (h' : List mi_C) (sl' : Nat), mi_run (fun j => mi_Gs[j]?) (mi_ev zs) n 0 (0, [(0, .retAddr 0)], []) [] 0 = some (some (.int 1), h', sl') ∧ h'.length ≤ 600000 ∧ sl' ≤ 7302250
set_option maxHeartbeats 4000000 in
theorem mi_begin (hgoal : mi_goal 3072) {p : Program} {e : Env} {s : State} {m : MethodId} {below : List Frame} {meth : Method} {c : Code} (l : Launch) {b L : Nat} {xs : Nat → Int32} (hL : L ≤ 3072) (C0 : lw_At p s m meth c b L xs) : W p l e room_1 s m #[Value.ref b] below meth c s.heap [] 0 0 (lw_Z below #[Value.ref b] s) (entryFrame m ([Value.ref b] : List Value).toArray 4) := by
  obtain ⟨hx, hb, hr, hml, hown, hts, hX, hbl, hlocks, hgv⟩ := id C0
  obtain ⟨n, h', sl', hrun, r1, r2⟩ := hgoal ((List.range L).map xs) (by simpa using hL)
  have hts2 : ∀ w ∈ lw_tbl.filter goodWord, w.before #[Value.ref b] s = true := fun w hw => hts w (List.mem_filter.mp hw).1
  obtain ⟨D, cy, hK⟩ := mi_dat (mi_tok ((List.range L).map xs)).2.1 hts2
  obtain ⟨ox, hox, hE⟩ := mi_env0 hts hX hbl hgv
  have hl := lv_entry ([.ref b]) (n := 4) (Nat.le_of_ble_eq_true rfl)
  rw [lg_entry_eq]
  generalize (lg_sl ([.ref b]) ++ List.replicate (4 - (lg_sl ([.ref b])).length) Slot.unset).toArray = ls at hl ⊢
  have hl2 : lv_has ls 4 (mi_rl ox s.heap.size [(0, .retAddr 0)]) := by
    simp only [mi_rl, List.map_cons, List.map_nil, mi_rv, hox]
    exact hl
  have hsim : mi_Sim D mi_cl cy ox s.heap.size (fun q => s.heap.size ≤ q) s [] s.heap [] 0 := ⟨hK, fun k q h => by simp [mi_pl] at h, ⟨fun i j p q h => by simp [mi_pl] at h, fun k q h => by simp [mi_pl] at h⟩, va_S.rf, rfl, fun _ h => h, fun _ h => h⟩
  refine mi_sound2 (mi_tok ((List.range L).map xs)) l n 0 (0, [(0, .retAddr 0)], []) [] 0 (some (.int 1)) h' sl' mG_0 hrun rfl p e room_1 s m #[Value.ref b] below meth c s.heap [] 0 0 _ D cy (fun q => s.heap.size ≤ q) ox s.heap.size ls hx hb hml hts2 hown (fun q => absurd q (by decide +kernel)) hE hl2 hsim (show 0 + (h'.length - 0) ≤ 600000 by omega) (show 0 + (sl' - 0) ≤ 7302250 by omega) (by decide +kernel) (by decide +kernel) ?_
  intro i len pc1 st1 ls1 H1 locs1 hd hn hret hs1
  cases i with
  | ireturn =>
    obtain rfl := mi_lenok_eq hn (n := 1) rfl
    simp only [mi_ret] at hret
    split at hret
    · rename_i ty v e1
      split at hret
      · cases hret
        refine va_forget (fun q hq => hs1.2.2.2.1.2.2 q hq) ?_
        refine W.widen (k := 600000) (n := 7302250) (by simpa using r1) (by simpa using r2) ?_
        exact lw_ret hx hb hr hlocks hd
      · cases hret
    · cases hret
  | lreturn =>
    simp only [mi_ret] at hret
    split at hret <;> cases hret
  | return_ =>
    simp only [mi_ret] at hret
    split at hret <;> cases hret
  | _ => simp [mi_ret] at hret
