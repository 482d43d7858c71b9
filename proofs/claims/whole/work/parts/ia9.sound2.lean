/-! The main row once more, for methods of which the machine has no entry of its own. -/
def mi_Tok2 (Γ : Nat → Option mi_Me) (Ts : List Cond) (cl : List vw_C) (ev : mi_Ev) (fr lo : Nat → Nat) : Prop :=
  (∀ w ∈ Ts, (w.onTables && w.keeps) = true ∨ ∃ ty, w = .arrayClass ty) ∧ mi_Cok Ts cl ∧ (∀ w ∈ ev.2.2.2.2, (∃ a i x h, w = .methodLinkNest a i x h) ∨ (∃ C T, w = .castable C T) ∨ ∃ a i b n d h, w = .fieldLinkNest a i b n d h) ∧
  ∀ (j : Nat) (M : mi_Me), Γ j = some M → plainFor M.1 = true ∧ (∀ q ∈ M.2.2.2.2.1, decode M.2.1 q.1 = .ok (q.2.1, q.2.2) ∧ mi_lenok q.2.1 q.2.2 = true) ∧ mi_Lok Ts cl ev M.1.cls (M.1.name == "<init>") M.2.2.2.2.2.1 ∧ mi_Kok Γ Ts cl ev fr lo j M
theorem mi_Met2 {Γ : Nat → Option mi_Me} {Ts : List Cond} {cl : List vw_C} {ev : mi_Ev} {fr lo : Nat → Nat} {l : Launch} {n : Nat} (ok : mi_Tok2 Γ Ts cl ev fr lo) (ih : mi_W Γ Ts cl ev fr lo l n) {j : Nat} {as : List Value} {h : List mi_C} {sl : Nat} {r : Option Value} {h' : List mi_C} {sl' : Nat} {M : mi_Me} (e : mi_run Γ ev n j (0, lv_args 0 as, []) h sl = some (r, h', sl')) (hj : Γ j = some M) (hlen : (lg_sl as).length ≤ M.2.2.1) (D : va_G) (cy : Nat → ClassId) (ox : Nat → Option Nat) (b : Nat) :
    Met l M.1 (Cond.code M.1 M.2.1 M.2.2.1 M.2.2.2.1 :: Ts) { frames := fr j, cells := h'.length - h.length, slots := sl' - sl, locals := lo j } (va_Pc (mi_rs ox b as) (fun U => U.heap.size = b + h.length ∧ va_K D cl (mi_tys cy) U ∧ va_P D cl (mi_pl ox b cy h) U.heap ∧ va_D (fun _ => True) (mi_pl ox b cy h) ∧ mi_Env ev ox b (va_A (mi_pl ox b cy h) (b + h.length)) U U.heap))
      (mi_Q (r.map (mi_rv ox b)) (fun t => va_P D cl (mi_pl ox b cy h') t.heap ∧ va_D (va_A (mi_pl ox b cy h) (b + h.length)) (mi_pl ox b cy h')) (va_A (mi_pl ox b cy h) (b + h.length))) (h'.length - h.length) (sl' - sl) (va_A (mi_pl ox b cy h) (b + h.length)) := by
  obtain ⟨ok1, ok2, ok3, ok4⟩ := ok
  obtain ⟨m1, m2, m3, m4⟩ := ok4 j M hj
  refine va_MetF (cc := M.2.1) (maxL := M.2.2.1) (ret := M.2.2.2.1) m1 rfl ?_
  intro p e0 s m args below meth c s₁ B hml hv
  obtain ⟨rfl, hsz, hK, hP, hD0, hE⟩ := hv
  have hx := B.exec
  have hb := B.bytes
  have hr := B.returns
  have hts := atoms_spec (ws := Cond.code M.1 M.2.1 M.2.2.1 M.2.2.2.1 :: Ts) B.pre
  have hown : s.vm.findClass M.1.cls = some m.cls := findClass_of_methodNamed B.named
  have hlocks := B.notSynchronized
  have hin : meth.name = M.1.name := (name_of_methodNamed B.named B.method).1
  have hl := lv_entry (mi_rs ox b as) (n := M.2.2.1) (by rw [mi_lg]; exact hlen)
  rw [lg_entry_eq]
  generalize (lg_sl (mi_rs ox b as) ++ List.replicate (M.2.2.1 - (lg_sl (mi_rs ox b as)).length) Slot.unset).toArray = ls at hl ⊢
  rw [mi_args] at hl
  have hsim : mi_Sim D cl cy ox b (va_A (mi_pl ox b cy h) (b + h.length)) s h s.heap [] 0 := by
    refine ⟨hK, hP, hD0.self, va_S.rf, by rw [hsz]; rfl, fun q hq => Or.inr (by rw [← hsz]; exact hq), fun q hq => ?_⟩
    rcases hq with ⟨k, w, hk⟩ | hq
    · rw [mi_pl, List.getElem?_mapIdx] at hk
      cases hc : h[k]? with
      | none => rw [hc] at hk; cases hk
      | some c0 =>
        rw [hc] at hk
        simp only [Option.map_some, Option.some.injEq, Prod.mk.injEq] at hk
        omega
    · omega
  refine ih j (0, lv_args 0 as, []) h sl r h' sl' M e hj p e0 _ s m _ below meth c s.heap [] 0 0 _ D cy _ ox b ls hx hb hml (fun w hw => hts w (List.mem_cons_of_mem _ hw)) hown (fun q => hin.trans (by simpa using q)) hE hl hsim (by rw [Nat.zero_add]; exact Nat.le_refl _) (by rw [Nat.zero_add]; exact Nat.le_refl _) (Nat.le_refl _) (Nat.le_refl _) ?_
  intro i len pc1 st1 ls1 H1 locs1 hd hn hret hs1
  obtain ⟨k1, k2, k3, k4, -⟩ := hs1
  rw [Nat.zero_add, Nat.zero_add]
  cases i with
  | ireturn =>
    obtain rfl := mi_lenok_eq hn (n := 1) rfl
    simp only [mi_ret] at hret
    split at hret
    · rename_i ty v e1
      split at hret
      · rename_i e2
        cases hret
        exact W.zret hx hb (hr.trans e1) e2 (fun t ht hW => ⟨⟨rfl, by rw [ht]; exact k2, k3⟩, k4.F ht⟩) k4.2.2 hd
      · cases hret
    · cases hret
  | lreturn =>
    obtain rfl := mi_lenok_eq hn (n := 1) rfl
    simp only [mi_ret] at hret
    split at hret
    · rename_i v e1
      cases hret
      exact W.lret hx hb (hr.trans e1) (fun t ht hW => ⟨⟨rfl, by rw [ht]; exact k2, k3⟩, k4.F ht⟩) k4.2.2 hd
    · cases hret
  | return_ =>
    obtain rfl := mi_lenok_eq hn (n := 1) rfl
    simp only [mi_ret] at hret
    split at hret
    · rename_i e1
      cases hret
      exact W.vret hx hb (hr.trans e1) (fun t ht hW => ⟨⟨rfl, by rw [ht]; exact k2, k3⟩, k4.F ht⟩) k4.2.2 hd
    · cases hret
  | _ => simp [mi_ret] at hret
set_option maxHeartbeats 16000000 in
theorem mi_sound2 {Γ : Nat → Option mi_Me} {Ts : List Cond} {cl : List vw_C} {ev : mi_Ev} {fr lo : Nat → Nat} (ok : mi_Tok2 Γ Ts cl ev fr lo) (l : Launch) : ∀ n : Nat, mi_W Γ Ts cl ev fr lo l n := by
  intro n
  induction n with
  | zero => intro j f h sl r h' sl' M e; cases e
  | succ n ih =>
    intro j f h sl r h' sl' M e hj p e0 R s m args below meth c H locs cells slots Q D cy A ox b ls hx hb hml hts hown hin hE hl hs hr1 hr2 hfr hlo hk
    obtain ⟨pc, lv, st⟩ := f
    dsimp only at hl ⊢
    obtain ⟨ok1, ok2, ok3, ok4⟩ := id ok
    obtain ⟨m1, m2, m3, m4⟩ := ok4 j M hj
    rw [mi_run, hj] at e
    dsimp only at e
    split at e
    · cases e
    · rename_i i len hft
      obtain ⟨hd, hn⟩ := m2 _ (mi_ft_mem hft)
      dsimp only at hd hn
      split at e
      · rename_i f' hp
        obtain ⟨pc', lv', st'⟩ := f'
        exact mi_pure_W hx hb ox b hd hn hl hp (fun ls' hl' => ih j (pc', lv', st') h sl r h' sl' M e hj p e0 R s m args below meth c H locs cells slots Q D cy A ox b ls' hx hb hml hts hown hin hE hl' hs hr1 hr2 hfr hlo hk)
      · split at e
        · rename_i f' h1 sl1 hh
          obtain ⟨pc', lv', st'⟩ := f'
          have u1 := mi_heap_up hh
          have u2 := mi_run_up Γ ev _ _ _ _ _ _ _ _ e
          refine mi_heap_W hx hb hts hown hin ok2 m3 hE hd hn hl hs (by omega) (by omega) hh (fun H1 locs1 hs1 hl1 => ?_)
          have z1 : cells + (h1.length - h.length) + (h'.length - h1.length) = cells + (h'.length - h.length) := by omega
          have z2 : slots + (sl1 - sl) + (sl' - sl1) = slots + (sl' - sl) := by omega
          refine ih j (pc', lv', st') h1 sl1 r h' sl' M e hj p e0 R s m args below meth c H1 locs1 _ _ Q D cy A ox b ls hx hb hml hts hown hin hE hl1 hs1 (by omega) (by omega) hfr hlo ?_
          rw [z1, z2]
          exact hk
        · split at e
          · rename_i r1 hret
            cases e
            rw [Nat.sub_self, Nat.add_zero, Nat.sub_self, Nat.add_zero] at hk
            exact hk i len pc st ls H locs hd hn hret hs
          · split at e
            · rename_i st' h1 sl1 hh
              have u1 := mi_nat_up hh
              have u2 := mi_run_up Γ ev _ _ _ _ _ _ _ _ e
              refine mi_nat_W hx hb hml hts hown m4 hE hd hn hl hs hfr hlo (by omega) (by omega) hh (fun H1 locs1 hs1 => ?_)
              have z1 : cells + (h1.length - h.length) + (h'.length - h1.length) = cells + (h'.length - h.length) := by omega
              have z2 : slots + (sl1 - sl) + (sl' - sl1) = slots + (sl' - sl) := by omega
              refine ih j (pc + 3, lv, st') h1 sl1 r h' sl' M e hj p e0 R s m args below meth c H1 locs1 _ _ Q D cy A ox b ls hx hb hml hts hown hin hE hl hs1 (by omega) (by omega) hfr hlo ?_
              rw [z1, z2]
              exact hk
            · split at e
              · rename_i j' as rest hinv
                split at e
                · cases e
                · rename_i M' hj'
                  split at e
                  · rename_i hfit
                    split at e
                    · rename_i r1 h1 sl1 hcall
                      have u1 := mi_run_up Γ ev _ _ _ _ _ _ _ _ hcall
                      have u2 := mi_run_up Γ ev _ _ _ _ _ _ _ _ e
                      have hM := mi_Met2 (l := l) ok ih hcall hj' hfit.1 D cy ox b
                      refine mi_size fun hup => ?_
                      have hsz : H.size = b + h.length := by
                        have := mi_low hs.2.1 hfit.2
                        have := hs.2.2.2.2.1
                        omega
                      have z1 : cells + (h1.length - h.length) + (h'.length - h1.length) = cells + (h'.length - h.length) := by omega
                      have z2 : slots + (sl1 - sl) + (sl' - sl1) = slots + (sl' - sl) := by omega
                      have go : ∀ (H1 : Heap) (locs1 : List Loc), mi_Sim D cl cy ox b A s h1 H1 locs1 (cells + (h1.length - h.length)) → W p l e0 R s m args below meth c H1 locs1 (cells + (h1.length - h.length)) (slots + (sl1 - sl)) Q (F0 m (pc + 3) ls (mi_rs ox b (r1.toList ++ rest))) := by
                        intro H1 locs1 hs1
                        refine ih j (pc + 3, lv, r1.toList ++ rest) h1 sl1 r h' sl' M e hj p e0 R s m args below meth c H1 locs1 _ _ Q D cy A ox b ls hx hb hml hts hown hin hE hl hs1 (by omega) (by omega) hfr hlo ?_
                        rw [z1, z2]
                        exact hk
                      have hAA : ∀ q, va_A (mi_pl ox b cy h) (b + h.length) q → A q := by
                        intro q hq
                        rcases hq with ⟨k, w, hk⟩ | hq
                        · exact hs.2.2.1.2 k (q, w) hk
                        · exact hs.2.2.2.2.2.1 q (Nat.le_trans hs.2.2.2.1.1 (by rw [hsz]; exact hq))
                      have hpre : ∀ U : State, U.heap = H → s.WarmedH U.vm → va_Pc (mi_rs ox b as) (fun U => U.heap.size = b + h.length ∧ va_K D cl (mi_tys cy) U ∧ va_P D cl (mi_pl ox b cy h) U.heap ∧ va_D (fun _ => True) (mi_pl ox b cy h) ∧ mi_Env ev ox b (va_A (mi_pl ox b cy h) (b + h.length)) U U.heap) (mi_rs ox b as).toArray U := by
                        intro U hU hW
                        refine ⟨rfl, by rw [hU]; exact hsz, va_K.moved hW.alike hs.1, by rw [hU]; exact hs.2.1, hs.2.2.1.weaken (fun _ _ _ _ => trivial), ?_⟩
                        rw [hU]
                        refine hE.to hW.alike (fun _ _ _ _ q => q.warm hW) (fun w hw q => ?_) hs.2.2.2.1.2.1 hAA
                        obtain ⟨a1, i1, x1, h1, rfl⟩ | ⟨C1, T1, rfl⟩ | ⟨a1, i1, b1, n1, d1, h1, rfl⟩ := ok3 w hw
                        · exact q.warmM hW
                        · exact q.warmC hW
                        · exact q.warmF hW
                      have hblind : FrameBlind (va_Pc (mi_rs ox b as) (fun U => U.heap.size = b + h.length ∧ va_K D cl (mi_tys cy) U ∧ va_P D cl (mi_pl ox b cy h) U.heap ∧ va_D (fun _ => True) (mi_pl ox b cy h) ∧ mi_Env ev ox b (va_A (mi_pl ox b cy h) (b + h.length)) U U.heap)) := by
                        intro a U g mk q
                        obtain ⟨q1, q2, q3, q4, q5, q6⟩ := q
                        refine ⟨q1, q2, va_K.moved (u := U) (U := U.calling g mk a) (Vm.Alike.refl U.vm) q3, q4, q5, ?_⟩
                        refine q6.to (Vm.Alike.refl U.vm) (fun _ _ _ _ z => z.same rfl) (fun w hw z => ?_) (fun _ _ _ => rfl) (fun _ z => z)
                        obtain ⟨a1, i1, x1, h1, rfl⟩ | ⟨C1, T1, rfl⟩ | ⟨a1, i1, b1, n1, d1, h1, rfl⟩ := ok3 w hw
                        · exact z.same rfl rfl
                        · exact z.same rfl rfl
                        · exact z.same rfl rfl
                      cases i with
                      | invokevirtual x =>
                        obtain rfl := mi_lenok_eq hn (n := 3) rfl
                        simp only [mi_inv] at hinv
                        split at hinv
                        · rename_i j2 na ci hcl
                          split at hinv
                          · rename_i a rest2 hdr
                            split at hinv
                            · rename_i cj fs hc
                              split at hinv
                              · rename_i hcc
                                cases hinv
                                obtain ⟨rfl, hcat⟩ := hcc
                                obtain ⟨w1, w2, w3, w4, w5, -⟩ := (m4 _ _ _ _ _ hcl).2.2.2.2 M' hj' (by decide)
                                obtain ⟨v1, v2, C, T, N, v3, v4⟩ := w5 rfl
                                obtain ⟨y1, y2⟩ := mi_split (ox := ox) (b := b) hdr
                                exact mi_after (Γ := Γ) (Ts := Ts) (ev := ev) hs hsz u1.1 rfl (va_runV (C := C) (As := mi_rs ox b (st.take na).reverse) ⟨hx, hb, hml, hown, hts⟩ hM ⟨callB_of na hts (mi_good ok1 w2) rfl rfl rfl (hts _ w3) (hts _ v1) w1 ⟨Nat.le_trans w4.1 hfr, Nat.le_trans w4.2 hlo⟩, hts _ v2, hts _ v4⟩ ⟨hblind, va_recv hs.1 hs.2.1 v3 (mi_pl_get hc), hpre⟩ rfl y2 hl.1 y1 (lv_room (by rw [mi_rs_cat]; exact hcat)) hd ⟨by omega, by omega⟩) go
                              · cases hinv
                            · cases hinv
                          · cases hinv
                        · rename_i j2 na ci hcl
                          split at hinv
                          · rename_i a rest2 hdr
                            split at hinv
                            · rename_i kv hos
                              split at hinv
                              · rename_i hcat
                                cases hinv
                                obtain ⟨w1, w2, w3, w4, -, -, -, -, w5⟩ := (m4 _ _ _ _ _ hcl).2.2.2.2 M' hj' (by decide)
                                obtain ⟨v1, v2, v4⟩ := w5 rfl
                                obtain ⟨y1, y2⟩ := mi_split (ox := ox) (b := b) hdr
                                obtain ⟨ad, av, o1, -, o3, -⟩ := hE.2.1 _ (mi_os_mem hos)
                                have hrec : ∃ cellB : Cell, H[ad]? = some cellB ∧ cellB.vm.isStatics = false ∧ s.vm.findClass "java/lang/String" = some cellB.cls := by
                                  obtain ⟨cell, r1, r2, r3, -⟩ := o3.kept hs.2.2.2.1.2.1
                                  exact ⟨cell, r1, r2, r3⟩
                                rw [mi_rs_out _ o1] at hpre hblind hM
                                simp only [mi_rv, o1] at y1
                                exact mi_after (Γ := Γ) (Ts := Ts) (ev := ev) hs hsz u1.1 rfl (va_runV (C := "java/lang/String") (As := mi_rs ox b (st.take na).reverse) ⟨hx, hb, hml, hown, hts⟩ hM ⟨callB_of na hts (mi_good ok1 w2) rfl rfl rfl (hts _ w3) (hts _ v1) w1 ⟨Nat.le_trans w4.1 hfr, Nat.le_trans w4.2 hlo⟩, hts _ v2, hts _ v4⟩ ⟨hblind, hrec, hpre⟩ rfl y2 hl.1 y1 (lv_room (by rw [mi_rs_cat]; exact hcat)) hd ⟨by omega, by omega⟩) go
                              · cases hinv
                            · cases hinv
                          · cases hinv
                        · cases hinv
                      | invokespecial x =>
                        obtain rfl := mi_lenok_eq hn (n := 3) rfl
                        simp only [mi_inv] at hinv
                        split at hinv
                        · rename_i j2 na ci hcl
                          split at hinv
                          · rename_i a rest2 hdr
                            split at hinv
                            · rename_i hcat
                              cases hinv
                              obtain ⟨w1, w2, w3, w4, -, w5, -⟩ := (m4 _ _ _ _ _ hcl).2.2.2.2 M' hj' (by decide)
                              obtain ⟨v1, v2, v3, v4⟩ := w5 rfl
                              obtain ⟨y1, y2⟩ := mi_split (ox := ox) (b := b) hdr
                              rw [v4] at hM w2
                              exact mi_after (Γ := Γ) (Ts := Ts) (ev := ev) hs hsz u1.1 rfl (va_runI (As := mi_rs ox b (st.take na).reverse) ⟨hx, hb, hml, hown, hts⟩ hM ⟨callB_of na hts (mi_good ok1 w2) rfl rfl rfl (hts _ w3) (hts _ v1) w1 ⟨Nat.le_trans w4.1 hfr, Nat.le_trans w4.2 hlo⟩, v3, hts _ v2⟩ ⟨hblind, hpre⟩ rfl y2 hl.1 y1 (lv_room (by rw [mi_rs_cat]; exact hcat)) hd ⟨by omega, by omega⟩) go
                            · cases hinv
                          · cases hinv
                        · rename_i j2 na ci hcl
                          split at hinv
                          · rename_i a rest2 hdr
                            split at hinv
                            · rename_i hcat
                              cases hinv
                              obtain ⟨w1, w2, w3, w4, -, -, w5, -⟩ := (m4 _ _ _ _ _ hcl).2.2.2.2 M' hj' (by decide)
                              obtain ⟨⟨host, v1⟩, v2, v3, v4⟩ := w5 rfl
                              obtain ⟨y1, y2⟩ := mi_split (ox := ox) (b := b) hdr
                              rw [v4] at hM w2
                              exact mi_after (Γ := Γ) (Ts := Ts) (ev := ev) hs hsz u1.1 rfl (va_runIN (host := host) (As := mi_rs ox b (st.take na).reverse) ⟨hx, hb, hml, hown, hts⟩ hM ⟨va_cnB na hts (mi_good ok1 w2) rfl rfl rfl (hE.2.2.2.2 _ v1) (hts _ w3) w1 ⟨Nat.le_trans w4.1 hfr, Nat.le_trans w4.2 hlo⟩, v3, hts _ v2⟩ ⟨hblind, hpre⟩ rfl y2 hl.1 y1 (lv_room (by rw [mi_rs_cat]; exact hcat)) hd ⟨by omega, by omega⟩) go
                            · cases hinv
                          · cases hinv
                        · cases hinv
                      | invokestatic x =>
                        obtain rfl := mi_lenok_eq hn (n := 3) rfl
                        simp only [mi_inv] at hinv
                        split at hinv
                        · rename_i j2 na ci hcl
                          split at hinv
                          · rename_i hcc
                            cases hinv
                            obtain ⟨w1, w2, w3, w4, -, -, -, w5, -⟩ := (m4 _ _ _ _ _ hcl).2.2.2.2 M' hj' (by decide)
                            obtain ⟨v1, v2⟩ := w5 rfl
                            obtain ⟨y1, y2⟩ := mi_splitS (ox := ox) (b := b) hcc.1
                            exact mi_after (Γ := Γ) (Ts := Ts) (ev := ev) hs hsz u1.1 rfl (va_runS (As := mi_rs ox b (st.take na).reverse) ⟨hx, hb, hml, hown, hts⟩ hM ⟨callB_of na hts (mi_good ok1 w2) rfl rfl rfl (hts _ w3) (hts _ v1) w1 ⟨Nat.le_trans w4.1 hfr, Nat.le_trans w4.2 hlo⟩, hts _ v2⟩ ⟨hblind, hpre⟩ rfl y2 hl.1 y1 (lv_room (by rw [mi_rs_cat]; exact hcc.2)) hd ⟨by omega, by omega⟩) go
                          · cases hinv
                        · cases hinv
                      | _ => simp [mi_inv] at hinv
                    · cases e
                  · cases e
              · cases e
theorem ck_m_ok2 {tb : List Cond} {cl : List vw_C} {ev : mi_Ev} {Gs : List mi_Me} {mq : List (Nat × Nat × Nat)} {fr lo : Nat → Nat} {j : Nat} {M : mi_Me} {L : mi_LC} {Ls : mi_Ls} (hp : plainFor M.1 = true) (h : L.all (ck_c tb ev Gs mq fr lo j M.1.cls) = true) (hk9 : L.all (fun e => decide (e.2.1.1 ≠ 9)) = true) (ht : ck_t M.2.1 M.2.2.2.2.1 = true) (hM : M.2.2.2.2.2.2 = mi_mc L) (hK : M.2.2.2.2.2.1 = mi_mk Ls) (hL : ck_L tb cl ev M.1.cls (M.1.name == "<init>") Ls = true)
    (hq : ∀ (j' : Nat) (M' : mi_Me) (kd n ci : Nat), Gs[j']? = some M' → mq[j']? = some (kd, n, ci) → kd ≠ 9 → mi_Qf (tb.filter goodWord) cl M' kd n ci ∧ Cond.code M'.1 M'.2.1 M'.2.2.1 M'.2.2.2.1 ∈ tb.filter goodWord) :
    plainFor M.1 = true ∧ (∀ q ∈ M.2.2.2.2.1, decode M.2.1 q.1 = .ok (q.2.1, q.2.2) ∧ mi_lenok q.2.1 q.2.2 = true) ∧ mi_Lok (tb.filter goodWord) cl ev M.1.cls (M.1.name == "<init>") M.2.2.2.2.2.1 ∧ mi_Kok (fun j => Gs[j]?) (tb.filter goodWord) cl ev fr lo j M := by
  refine ⟨hp, fun q hq => ?_, by rw [hK]; exact ck_L_ok hL, ck_c_ok hM h hq hk9⟩
  have := List.all_eq_true.mp ht q hq
  rw [Bool.and_eq_true] at this
  exact ⟨of_decide_eq_true this.1, this.2⟩
