/-! The main row: by the length of the run. -/
theorem mi_low {D : va_G} {cl : List vw_C} {cy : Nat → ClassId} {ox : Nat → Option Nat} {b : Nat} {h : List mi_C} {H : Heap} (hP : va_P D cl (mi_pl ox b cy h) H) (h0 : 0 < h.length) : b + h.length ≤ H.size := by
  obtain ⟨c, hc⟩ : ∃ c, h[h.length - 1]? = some c := ⟨_, List.getElem?_eq_getElem (by omega)⟩
  have := (hP _ _ (mi_pl_get hc)).lt
  simp only at this
  omega
theorem mi_take_drop {st : List Value} {n : Nat} (h : n ≤ st.length) : ((st.take n).reverse).length = n := by
  rw [List.length_reverse, List.length_take]; omega
set_option maxHeartbeats 8000000 in
/-- a call: what its contract gives, the caller's world goes on with -/
theorem mi_after {Γ : Nat → Option mi_Me} {Ts : List Cond} {cl : List vw_C} {ev : mi_Ev} {p : Program} {l : Launch} {e : Env} {R : Room} {s : State} {m : MethodId} {args : Array Value} {below : List Frame} {meth : Method} {c : Code} {H : Heap} {locs : List Loc} {cells slots : Nat} {Q : State → Prop} {pc : Nat} {ls : Array Slot} {D : va_G} {cy : Nat → ClassId} {A : Nat → Prop} {ox : Nat → Option Nat} {b : Nat} {h h1 : List mi_C} {r : Option Value} {mc ms : Nat} {a : Array Value} {rest st0 : List Value}
    (hs : mi_Sim D cl cy ox b A s h H locs cells) (hsz : H.size = b + h.length) (hup : h.length ≤ h1.length) (hmc : mc = h1.length - h.length)
    (hr : va_Run p l e R s m args below meth c H locs cells slots mc ms (F0 m pc ls st0) (mi_rs ox b rest) (mi_Q (r.map (mi_rv ox b)) (fun t => va_P D cl (mi_pl ox b cy h1) t.heap ∧ va_D (va_A (mi_pl ox b cy h) (b + h.length)) (mi_pl ox b cy h1)) (va_A (mi_pl ox b cy h) (b + h.length)) a) (va_A (mi_pl ox b cy h) (b + h.length)))
    (kk : ∀ (H1 : Heap) (locs1 : List Loc), mi_Sim D cl cy ox b A s h1 H1 locs1 (cells + mc) → W p l e R s m args below meth c H1 locs1 (cells + mc) (slots + ms) Q (F0 m (pc + 3) ls (mi_rs ox b (r.toList ++ rest)))) : W p l e R s m args below meth c H locs cells slots Q (F0 m pc ls st0) := by
  obtain ⟨k1, k2, k3, k4, k5, k6, k7⟩ := hs
  have hAA : ∀ q, va_A (mi_pl ox b cy h) (b + h.length) q → A q := by
    intro q hq
    rcases hq with ⟨k, w, hk⟩ | hq
    · exact k3.2 k (q, w) hk
    · exact k6 q (Nat.le_trans k4.1 (by rw [hsz]; exact hq))
  refine mi_callW hr k4 (fun q _ hq => hAA q hq) hAA (fun t H1 locs1 ht hB hS => ?_)
  obtain ⟨hP1, hD1⟩ := hB
  rw [ht] at hP1
  have hst : mi_rs ox b (r.toList ++ rest) = (r.map (mi_rv ox b)).toList ++ mi_rs ox b rest := by
    cases r <;> simp [mi_rs]
  rw [← hst]
  exact kk H1 locs1 ⟨k1, hP1, hD1.weaken (fun k q _ hq => hAA _ hq), hS, by rw [hmc]; omega, k6, k7⟩
theorem mi_split {ox : Nat → Option Nat} {b n : Nat} {st rest : List Value} {v : Value} (h : st.drop n = v :: rest) : mi_rs ox b st = (mi_rs ox b (st.take n).reverse).reverse ++ mi_rv ox b v :: mi_rs ox b rest ∧ (mi_rs ox b (st.take n).reverse).length = n := by
  have hlen : n < st.length := by
    rcases Nat.lt_or_ge n st.length with q | q
    · exact q
    · rw [List.drop_eq_nil_of_le q] at h; cases h
  constructor
  · conv => lhs; rw [← List.take_append_drop n st, h]
    simp [mi_rs, List.map_reverse]
  · simp [mi_rs]; omega
theorem mi_splitS {ox : Nat → Option Nat} {b n : Nat} {st : List Value} (h : n ≤ st.length) : mi_rs ox b st = (mi_rs ox b (st.take n).reverse).reverse ++ mi_rs ox b (st.drop n) ∧ (mi_rs ox b (st.take n).reverse).length = n := by
  constructor
  · conv => lhs; rw [← List.take_append_drop n st]
    simp [mi_rs, List.map_reverse]
  · simp [mi_rs]; omega
theorem mi_good {Ts : List Cond} {w : Cond} (h : ∀ w ∈ Ts, (w.onTables && w.keeps) = true ∨ ∃ ty, w = .arrayClass ty) (hw : w ∈ Ts) : GoodIn Ts (w :: Ts) := by
  intro v hv
  rcases List.mem_cons.mp hv with rfl | hv
  · exact ⟨hw, h _ hw⟩
  · exact ⟨hv, h _ hv⟩
set_option maxHeartbeats 16000000 in
theorem mi_sound {Γ : Nat → Option mi_Me} {Ts : List Cond} {cl : List vw_C} {ev : mi_Ev} {fr lo : Nat → Nat} (ok : mi_Tok Γ Ts cl ev fr lo) (l : Launch) : ∀ n : Nat, mi_W Γ Ts cl ev fr lo l n := by
  intro n
  induction n with
  | zero => intro j f h sl r h' sl' M e; cases e
  | succ n ih =>
    intro j f h sl r h' sl' M e hj p e0 R s m args below meth c H locs cells slots Q D cy A ox b ls hx hb hml hts hown hin hE hl hs hr1 hr2 hfr hlo hk
    obtain ⟨pc, lv, st⟩ := f
    dsimp only at hl ⊢
    obtain ⟨ok1, ok2, ok3, ok4⟩ := id ok
    obtain ⟨m1, m2, m3, m4⟩ := ok4 j M hj
    rw [mi_run, hj] at e
    dsimp only at e
    split at e
    · cases e
    · rename_i i len hft
      obtain ⟨hd, hn⟩ := m2 _ (mi_ft_mem hft)
      dsimp only at hd hn
      split at e
      · rename_i f' hp
        obtain ⟨pc', lv', st'⟩ := f'
        exact mi_pure_W hx hb ox b hd hn hl hp (fun ls' hl' => ih j (pc', lv', st') h sl r h' sl' M e hj p e0 R s m args below meth c H locs cells slots Q D cy A ox b ls' hx hb hml hts hown hin hE hl' hs hr1 hr2 hfr hlo hk)
      · split at e
        · rename_i f' h1 sl1 hh
          obtain ⟨pc', lv', st'⟩ := f'
          have u1 := mi_heap_up hh
          have u2 := mi_run_up Γ ev _ _ _ _ _ _ _ _ e
          refine mi_heap_W hx hb hts hown hin ok2 m3 hE hd hn hl hs (by omega) (by omega) hh (fun H1 locs1 hs1 hl1 => ?_)
          have z1 : cells + (h1.length - h.length) + (h'.length - h1.length) = cells + (h'.length - h.length) := by omega
          have z2 : slots + (sl1 - sl) + (sl' - sl1) = slots + (sl' - sl) := by omega
          refine ih j (pc', lv', st') h1 sl1 r h' sl' M e hj p e0 R s m args below meth c H1 locs1 _ _ Q D cy A ox b ls hx hb hml hts hown hin hE hl1 hs1 (by omega) (by omega) hfr hlo ?_
          rw [z1, z2]
          exact hk
        · split at e
          · rename_i r1 hret
            cases e
            rw [Nat.sub_self, Nat.add_zero, Nat.sub_self, Nat.add_zero] at hk
            exact hk i len pc st ls H locs hd hn hret hs
          · split at e
            · rename_i st' h1 sl1 hh
              have u1 := mi_nat_up hh
              have u2 := mi_run_up Γ ev _ _ _ _ _ _ _ _ e
              refine mi_nat_W hx hb hml hts hown m4 hE hd hn hl hs hfr hlo (by omega) (by omega) hh (fun H1 locs1 hs1 => ?_)
              have z1 : cells + (h1.length - h.length) + (h'.length - h1.length) = cells + (h'.length - h.length) := by omega
              have z2 : slots + (sl1 - sl) + (sl' - sl1) = slots + (sl' - sl) := by omega
              refine ih j (pc + 3, lv, st') h1 sl1 r h' sl' M e hj p e0 R s m args below meth c H1 locs1 _ _ Q D cy A ox b ls hx hb hml hts hown hin hE hl hs1 (by omega) (by omega) hfr hlo ?_
              rw [z1, z2]
              exact hk
            · split at e
              · rename_i j' as rest hinv
                split at e
                · cases e
                · rename_i M' hj'
                  split at e
                  · rename_i hfit
                    split at e
                    · rename_i r1 h1 sl1 hcall
                      have u1 := mi_run_up Γ ev _ _ _ _ _ _ _ _ hcall
                      have u2 := mi_run_up Γ ev _ _ _ _ _ _ _ _ e
                      have hM := mi_Met (l := l) ok ih hcall hj' hfit.1 D cy ox b
                      refine mi_size fun hup => ?_
                      have hsz : H.size = b + h.length := by
                        have := mi_low hs.2.1 hfit.2
                        have := hs.2.2.2.2.1
                        omega
                      have z1 : cells + (h1.length - h.length) + (h'.length - h1.length) = cells + (h'.length - h.length) := by omega
                      have z2 : slots + (sl1 - sl) + (sl' - sl1) = slots + (sl' - sl) := by omega
                      have go : ∀ (H1 : Heap) (locs1 : List Loc), mi_Sim D cl cy ox b A s h1 H1 locs1 (cells + (h1.length - h.length)) → W p l e0 R s m args below meth c H1 locs1 (cells + (h1.length - h.length)) (slots + (sl1 - sl)) Q (F0 m (pc + 3) ls (mi_rs ox b (r1.toList ++ rest))) := by
                        intro H1 locs1 hs1
                        refine ih j (pc + 3, lv, r1.toList ++ rest) h1 sl1 r h' sl' M e hj p e0 R s m args below meth c H1 locs1 _ _ Q D cy A ox b ls hx hb hml hts hown hin hE hl hs1 (by omega) (by omega) hfr hlo ?_
                        rw [z1, z2]
                        exact hk
                      have hAA : ∀ q, va_A (mi_pl ox b cy h) (b + h.length) q → A q := by
                        intro q hq
                        rcases hq with ⟨k, w, hk⟩ | hq
                        · exact hs.2.2.1.2 k (q, w) hk
                        · exact hs.2.2.2.2.2.1 q (Nat.le_trans hs.2.2.2.1.1 (by rw [hsz]; exact hq))
                      have hpre : ∀ U : State, U.heap = H → s.WarmedH U.vm → va_Pc (mi_rs ox b as) (fun U => U.heap.size = b + h.length ∧ va_K D cl (mi_tys cy) U ∧ va_P D cl (mi_pl ox b cy h) U.heap ∧ va_D (fun _ => True) (mi_pl ox b cy h) ∧ mi_Env ev ox b (va_A (mi_pl ox b cy h) (b + h.length)) U U.heap) (mi_rs ox b as).toArray U := by
                        intro U hU hW
                        refine ⟨rfl, by rw [hU]; exact hsz, va_K.moved hW.alike hs.1, by rw [hU]; exact hs.2.1, hs.2.2.1.weaken (fun _ _ _ _ => trivial), ?_⟩
                        rw [hU]
                        refine hE.to hW.alike (fun _ _ _ _ q => q.warm hW) (fun w hw q => ?_) hs.2.2.2.1.2.1 hAA
                        obtain ⟨a1, i1, x1, h1, rfl⟩ | ⟨C1, T1, rfl⟩ | ⟨a1, i1, b1, n1, d1, h1, rfl⟩ := ok3 w hw
                        · exact q.warmM hW
                        · exact q.warmC hW
                        · exact q.warmF hW
                      have hblind : FrameBlind (va_Pc (mi_rs ox b as) (fun U => U.heap.size = b + h.length ∧ va_K D cl (mi_tys cy) U ∧ va_P D cl (mi_pl ox b cy h) U.heap ∧ va_D (fun _ => True) (mi_pl ox b cy h) ∧ mi_Env ev ox b (va_A (mi_pl ox b cy h) (b + h.length)) U U.heap)) := by
                        intro a U g mk q
                        obtain ⟨q1, q2, q3, q4, q5, q6⟩ := q
                        refine ⟨q1, q2, va_K.moved (u := U) (U := U.calling g mk a) (Vm.Alike.refl U.vm) q3, q4, q5, ?_⟩
                        refine q6.to (Vm.Alike.refl U.vm) (fun _ _ _ _ z => z.same rfl) (fun w hw z => ?_) (fun _ _ _ => rfl) (fun _ z => z)
                        obtain ⟨a1, i1, x1, h1, rfl⟩ | ⟨C1, T1, rfl⟩ | ⟨a1, i1, b1, n1, d1, h1, rfl⟩ := ok3 w hw
                        · exact z.same rfl rfl
                        · exact z.same rfl rfl
                        · exact z.same rfl rfl
                      cases i with
                      | invokevirtual x =>
                        obtain rfl := mi_lenok_eq hn (n := 3) rfl
                        simp only [mi_inv] at hinv
                        split at hinv
                        · rename_i j2 na ci hcl
                          split at hinv
                          · rename_i a rest2 hdr
                            split at hinv
                            · rename_i cj fs hc
                              split at hinv
                              · rename_i hcc
                                cases hinv
                                obtain ⟨rfl, hcat⟩ := hcc
                                obtain ⟨w1, w2, w3, w4, w5, -⟩ := (m4 _ _ _ _ _ hcl).2.2.2.2 M' hj' (by decide)
                                obtain ⟨v1, v2, C, T, N, v3, v4⟩ := w5 rfl
                                obtain ⟨y1, y2⟩ := mi_split (ox := ox) (b := b) hdr
                                exact mi_after (Γ := Γ) (Ts := Ts) (ev := ev) hs hsz u1.1 rfl (va_runV (C := C) (As := mi_rs ox b (st.take na).reverse) ⟨hx, hb, hml, hown, hts⟩ hM ⟨callB_of na hts (mi_good ok1 w2) rfl rfl rfl (hts _ w3) (hts _ v1) w1 ⟨Nat.le_trans w4.1 hfr, Nat.le_trans w4.2 hlo⟩, hts _ v2, hts _ v4⟩ ⟨hblind, va_recv hs.1 hs.2.1 v3 (mi_pl_get hc), hpre⟩ rfl y2 hl.1 y1 (lv_room (by rw [mi_rs_cat]; exact hcat)) hd ⟨by omega, by omega⟩) go
                              · cases hinv
                            · cases hinv
                          · cases hinv
                        · rename_i j2 na ci hcl
                          split at hinv
                          · rename_i a rest2 hdr
                            split at hinv
                            · rename_i kv hos
                              split at hinv
                              · rename_i hcat
                                cases hinv
                                obtain ⟨w1, w2, w3, w4, -, -, -, -, w5⟩ := (m4 _ _ _ _ _ hcl).2.2.2.2 M' hj' (by decide)
                                obtain ⟨v1, v2, v4⟩ := w5 rfl
                                obtain ⟨y1, y2⟩ := mi_split (ox := ox) (b := b) hdr
                                obtain ⟨ad, av, o1, -, o3, -⟩ := hE.2.1 _ (mi_os_mem hos)
                                have hrec : ∃ cellB : Cell, H[ad]? = some cellB ∧ cellB.vm.isStatics = false ∧ s.vm.findClass "java/lang/String" = some cellB.cls := by
                                  obtain ⟨cell, r1, r2, r3, -⟩ := o3.kept hs.2.2.2.1.2.1
                                  exact ⟨cell, r1, r2, r3⟩
                                rw [mi_rs_out _ o1] at hpre hblind hM
                                simp only [mi_rv, o1] at y1
                                exact mi_after (Γ := Γ) (Ts := Ts) (ev := ev) hs hsz u1.1 rfl (va_runV (C := "java/lang/String") (As := mi_rs ox b (st.take na).reverse) ⟨hx, hb, hml, hown, hts⟩ hM ⟨callB_of na hts (mi_good ok1 w2) rfl rfl rfl (hts _ w3) (hts _ v1) w1 ⟨Nat.le_trans w4.1 hfr, Nat.le_trans w4.2 hlo⟩, hts _ v2, hts _ v4⟩ ⟨hblind, hrec, hpre⟩ rfl y2 hl.1 y1 (lv_room (by rw [mi_rs_cat]; exact hcat)) hd ⟨by omega, by omega⟩) go
                              · cases hinv
                            · cases hinv
                          · cases hinv
                        · cases hinv
                      | invokespecial x =>
                        obtain rfl := mi_lenok_eq hn (n := 3) rfl
                        simp only [mi_inv] at hinv
                        split at hinv
                        · rename_i j2 na ci hcl
                          split at hinv
                          · rename_i a rest2 hdr
                            split at hinv
                            · rename_i hcat
                              cases hinv
                              obtain ⟨w1, w2, w3, w4, -, w5, -⟩ := (m4 _ _ _ _ _ hcl).2.2.2.2 M' hj' (by decide)
                              obtain ⟨v1, v2, v3, v4⟩ := w5 rfl
                              obtain ⟨y1, y2⟩ := mi_split (ox := ox) (b := b) hdr
                              rw [v4] at hM w2
                              exact mi_after (Γ := Γ) (Ts := Ts) (ev := ev) hs hsz u1.1 rfl (va_runI (As := mi_rs ox b (st.take na).reverse) ⟨hx, hb, hml, hown, hts⟩ hM ⟨callB_of na hts (mi_good ok1 w2) rfl rfl rfl (hts _ w3) (hts _ v1) w1 ⟨Nat.le_trans w4.1 hfr, Nat.le_trans w4.2 hlo⟩, v3, hts _ v2⟩ ⟨hblind, hpre⟩ rfl y2 hl.1 y1 (lv_room (by rw [mi_rs_cat]; exact hcat)) hd ⟨by omega, by omega⟩) go
                            · cases hinv
                          · cases hinv
                        · rename_i j2 na ci hcl
                          split at hinv
                          · rename_i a rest2 hdr
                            split at hinv
                            · rename_i hcat
                              cases hinv
                              obtain ⟨w1, w2, w3, w4, -, -, w5, -⟩ := (m4 _ _ _ _ _ hcl).2.2.2.2 M' hj' (by decide)
                              obtain ⟨⟨host, v1⟩, v2, v3, v4⟩ := w5 rfl
                              obtain ⟨y1, y2⟩ := mi_split (ox := ox) (b := b) hdr
                              rw [v4] at hM w2
                              exact mi_after (Γ := Γ) (Ts := Ts) (ev := ev) hs hsz u1.1 rfl (va_runIN (host := host) (As := mi_rs ox b (st.take na).reverse) ⟨hx, hb, hml, hown, hts⟩ hM ⟨va_cnB na hts (mi_good ok1 w2) rfl rfl rfl (hE.2.2.2.2 _ v1) (hts _ w3) w1 ⟨Nat.le_trans w4.1 hfr, Nat.le_trans w4.2 hlo⟩, v3, hts _ v2⟩ ⟨hblind, hpre⟩ rfl y2 hl.1 y1 (lv_room (by rw [mi_rs_cat]; exact hcat)) hd ⟨by omega, by omega⟩) go
                            · cases hinv
                          · cases hinv
                        · cases hinv
                      | invokestatic x =>
                        obtain rfl := mi_lenok_eq hn (n := 3) rfl
                        simp only [mi_inv] at hinv
                        split at hinv
                        · rename_i j2 na ci hcl
                          split at hinv
                          · rename_i hcc
                            cases hinv
                            obtain ⟨w1, w2, w3, w4, -, -, -, w5, -⟩ := (m4 _ _ _ _ _ hcl).2.2.2.2 M' hj' (by decide)
                            obtain ⟨v1, v2⟩ := w5 rfl
                            obtain ⟨y1, y2⟩ := mi_splitS (ox := ox) (b := b) hcc.1
                            exact mi_after (Γ := Γ) (Ts := Ts) (ev := ev) hs hsz u1.1 rfl (va_runS (As := mi_rs ox b (st.take na).reverse) ⟨hx, hb, hml, hown, hts⟩ hM ⟨callB_of na hts (mi_good ok1 w2) rfl rfl rfl (hts _ w3) (hts _ v1) w1 ⟨Nat.le_trans w4.1 hfr, Nat.le_trans w4.2 hlo⟩, hts _ v2⟩ ⟨hblind, hpre⟩ rfl y2 hl.1 y1 (lv_room (by rw [mi_rs_cat]; exact hcc.2)) hd ⟨by omega, by omega⟩) go
                          · cases hinv
                        · cases hinv
                      | _ => simp [mi_inv] at hinv
                    · cases e
                  · cases e
              · cases e
