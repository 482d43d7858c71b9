/-! The small machine's heap instructions are the machine's. -/
/-! a text constant by ldc_w -/
section MLW
variable {p : Program} {l : Launch} {e : Env} {R : Room} {s : State} {m : MethodId} {args : Array Value} {below : List Frame} {meth : Method} {c : Code} {H : Heap} {locs : List Loc} {cells slots : Nat} {Q : State → Prop}
variable {cc : ByteArray} {pc : Nat} {ls : Array Slot} {rest : List Value}
theorem mi_ldcwT {T : State} (X : Stand p l e R s m args below meth c T locs cells slots) (hexec : p.tables.exec = Jvm.exec) {own text : String} {index : Nat} {a : Addr} (hown : s.vm.findClass own = some m.cls)
    (hconst : (Cond.stringRef own index text).before args s = true) (hev : (Term.string own index).eval args s none [] s = some (.ref a)) {g : JFrame} (hg : g.method = m) (hdg : decode c.code g.pc = .ok (.ldc_w index, 3)) :
    ∀ target, Steps p.tables e below (T.setTop { g with pc := g.pc + 3, stack := .ref a :: g.stack }) target → Steps p.tables e below (T.setTop g) target := by
  obtain ⟨k, cf, i, a', hk, hcf, hcp, -, hr, hev'⟩ := Cond.stringRef_spec hown hconst
  cases hev.symm.trans hev'
  obtain ⟨k', hk', he⟩ := X.warmed.alike.2.2 _ _ hk
  have hr' : k'.resolved[index]? = some (some (.string a)) := by
    rcases X.warmed.entry hk hk' index with h | ⟨h, -⟩
    · rw [h]; exact hr
    · rw [hr] at h; cases h
  intro target hrest
  subst hg
  jvm_step X.here [hexec, hdg, ldc_w.wp_string (e := e) (s := T) (f := g) X.here.top hk' (by rw [he]; exact hcf) hcp hr']
  exact hrest
theorem mi_ldcwS (hexec : p.tables.exec = Jvm.exec) (hb : c.code = cc) {own tx : String} {index q : Nat} (hown : s.vm.findClass own = some m.cls) (hZ : vk_R own index tx q s) (hdg : decode cc pc = .ok (.ldc_w index, 3))
    (k : W p l e R s m args below meth c H locs cells slots Q (F0 m (pc + 3) ls (.ref q :: rest))) : W p l e R s m args below meth c H locs cells slots Q (F0 m pc ls rest) := by
  intro T hT X
  obtain ⟨t, a1, b1⟩ := k T hT X
  exact ⟨t, mi_ldcwT X hexec hown (text := tx) (a := q) hZ.1 hZ.2 (g := F0 m pc ls rest) rfl (by rw [hb]; exact hdg) t a1, b1⟩
end MLW
section MIW
variable {p : Program} {l : Launch} {e : Env} {R : Room} {s : State} {m : MethodId} {args : Array Value} {below : List Frame} {meth : Method} {c : Code} {H : Heap} {locs : List Loc} {cells slots : Nat} {Q : State → Prop}
variable {cc : ByteArray} {pc : Nat} {ls : Array Slot} {D : va_G} {cl : List vw_C} {cy : Nat → ClassId} {A : Nat → Prop}
theorem mi_Sim.upd {ox : Nat → Option Nat} {b a : Nat} {h : List mi_C} {c1 : mi_C} {H1 : Heap} {locs1 : List Loc} {w : va_E} (hs : mi_Sim D cl cy ox b A s h H locs cells) (hw : w = mi_E ox b cy c1) (hP : va_P D cl ((mi_pl ox b cy h).set a (b + a, w)) H1) (hD : va_D A ((mi_pl ox b cy h).set a (b + a, w))) (hS : va_S A s.heap H1 locs1) : mi_Sim D cl cy ox b A s (h.set a c1) H1 locs1 cells := by
  obtain ⟨k1, -, -, -, k5, k6, k7⟩ := hs
  subst hw
  rw [mi_pl_set] at hP hD
  exact ⟨k1, hP, hD, hS, by rw [List.length_set]; exact k5, k6, k7⟩
theorem mi_Sim.push {ox : Nat → Option Nat} {b q : Nat} {h : List mi_C} {c1 : mi_C} {H1 : Heap} {w : va_E} (hs : mi_Sim D cl cy ox b A s h H locs cells) (hw : w = mi_E ox b cy c1) (hq : q = b + h.length) (hP : va_P D cl (mi_pl ox b cy h ++ [(q, w)]) H1) (hD : va_D A (mi_pl ox b cy h ++ [(q, w)])) (hS : va_S A s.heap H1 locs) : mi_Sim D cl cy ox b A s (h ++ [c1]) H1 locs (cells + 1) := by
  obtain ⟨k1, -, -, -, k5, k6, k7⟩ := hs
  subst hw; subst hq
  rw [mi_pl_push] at hP hD
  exact ⟨k1, hP, hD, hS, by rw [List.length_append]; simp only [List.length_singleton]; omega, k6, k7⟩
theorem mi_lt {Ts : List Cond} {ox : Nat → Option Nat} {b a cj : Nat} {fs : List Value} {h : List mi_C} (hC : mi_Cok Ts cl) (hP : va_P D cl (mi_pl ox b cy h) H) (hc : h[a]? = some (.inl (cj, fs))) : cj < mi_cS := by
  obtain ⟨r, e4, -⟩ := hP a _ (mi_pl_get hc)
  exact Nat.lt_of_lt_of_le (List.getElem?_eq_some_iff.mp e4).1 hC.1
theorem mi_lt2 {Ts : List Cond} {q : vw_C} (hC : mi_Cok Ts cl) (hc : cl[mi_cS]? = some q) : False :=
  Nat.lt_irrefl _ (Nat.lt_of_lt_of_le (List.getElem?_eq_some_iff.mp hc).1 hC.1)
set_option maxHeartbeats 8000000 in
set_option maxRecDepth 4000 in
theorem mi_heap_W (hx : p.tables.exec = Jvm.exec) (hb : c.code = cc) {Ts : List Cond} (hts : ∀ w ∈ Ts, w.before args s = true) {own : String} (hown : s.vm.findClass own = some m.cls) {init : Bool} (hin : init = true → meth.name = "<init>") {K : mi_Lk} {ev : mi_Ev} (hC : mi_Cok Ts cl) (hK : mi_Lok Ts cl ev own init K)
    {ox : Nat → Option Nat} {b nL len : Nat} (hev : mi_Env ev ox b A s s.heap) {i : Instr} {lv lv' : mi_L} {st st' : List Value} {pc' sl sl' : Nat} {h h' : List mi_C} (hd : decode cc pc = .ok (i, len)) (hn : mi_lenok i len = true) (hl : lv_has ls nL (mi_rl ox b lv))
    (hs : mi_Sim D cl cy ox b A s h H locs cells) (hr1 : cells + (h'.length - h.length) ≤ R.cells) (hr2 : slots + (sl' - sl) ≤ R.slots) (hh : mi_heap K ev i pc lv st h sl = some ((pc', lv', st'), h', sl'))
    (k : ∀ (H1 : Heap) (locs1 : List Loc), mi_Sim D cl cy ox b A s h' H1 locs1 (cells + (h'.length - h.length)) → lv_has ls nL (mi_rl ox b lv') → W p l e R s m args below meth c H1 locs1 (cells + (h'.length - h.length)) (slots + (sl' - sl)) Q (F0 m pc' ls (mi_rs ox b st'))) : W p l e R s m args below meth c H locs cells slots Q (F0 m pc ls (mi_rs ox b st)) := by
  obtain ⟨k1, k2, k3, k4, k5, k6, k7⟩ := id hs
  cases i with
  | getfield x =>
    obtain rfl := mi_lenok_eq hn (n := 3) rfl
    simp only [mi_heap] at hh
    split at hh
    · rename_i ci kf a st1 hf
      split at hh
      · rename_i cj fs hc
        split at hh
        · rename_i v hv
          split at hh
          · rename_i he
            cases hh
            subst he
            obtain ⟨C, T, N, e1, e2, e3⟩ | ⟨e1, -⟩ | ⟨e1, -⟩ := hK.1 _ _ _ hf
            rotate_left
            · exact absurd (mi_lt hC k2 hc) (by rw [e1]; exact Nat.lt_irrefl _)
            · exact absurd (mi_lt hC k2 hc) (by rw [e1]; exact Nat.lt_irrefl _)
            simp only [Nat.sub_self, Nat.add_zero] at k
            exact va_get (a := b + a) hx hb hts (hC.2.1 _ _ _ _ e1).1 hown k1 k2 a (mi_pl_get hc) e1 kf e2 (hts _ e3) (fun _ q => q) (v := mi_rv ox b v) (by rw [List.getElem?_map, hv]; rfl) hd (k H locs hs hl)
          · cases hh
        · cases hh
      · cases hh
    · rename_i ci kf a st1 hf
      split at hh
      · rename_i v hv
        obtain ⟨ad, av, o1, o2, -, e9, e10⟩ := hev.2.1 _ (mi_os_mem hv)
        rw [mi_rs_out _ o1]
        split at hh
        · rename_i he
          cases hh
          obtain ⟨rfl, rfl⟩ := he
          simp only [Nat.sub_self, Nat.add_zero] at k
          obtain ⟨C, T, N, e1, -⟩ | ⟨-, -, e3⟩ | ⟨-, e2, -⟩ := hK.1 _ _ _ hf
          · exact (mi_lt2 hC e1).elim
          · rw [mi_rs_out _ o2] at k
            exact vk_getf hx hb e9 k4 hown (hts _ e3) (fun _ q => q) hd (k H locs hs hl)
          · cases e2
        · split at hh
          · rename_i he
            cases hh
            obtain ⟨rfl, rfl⟩ := he
            simp only [Nat.sub_self, Nat.add_zero] at k
            obtain ⟨C, T, N, e1, -⟩ | ⟨-, e2, -⟩ | ⟨-, -, e3⟩ := hK.1 _ _ _ hf
            · exact (mi_lt2 hC e1).elim
            · cases e2
            · exact vk_getf hx hb e10 k4 hown (hts _ e3) (fun _ q => q) hd (k H locs hs hl)
          · cases hh
      · cases hh
    · cases hh
  | putfield x =>
    obtain rfl := mi_lenok_eq hn (n := 3) rfl
    simp only [mi_heap] at hh
    split at hh
    · rename_i ci kf ty v a st1 hf
      split at hh
      · rename_i cj fs hc
        split at hh
        · rename_i he
          cases hh
          obtain ⟨rfl, e5, e6, e7⟩ := he
          obtain ⟨C, T, N, e1, e2, e3, e4, e8⟩ := hK.2.1 _ _ _ _ hf
          obtain ⟨f1, ⟨ty0, f2⟩, f3, -⟩ := hC.2.1 _ _ _ _ e1
          simp only [Nat.sub_self, Nat.add_zero, List.length_set] at k
          have key : ∀ (H1 : Heap) (locs1 : List Loc), va_P D cl ((mi_pl ox b cy h).set a (b + a, .inr (cj, (fs.map (mi_rv ox b)).set kf (mi_rv ox b v)))) H1 → va_D A ((mi_pl ox b cy h).set a (b + a, .inr (cj, (fs.map (mi_rv ox b)).set kf (mi_rv ox b v)))) → va_S A s.heap H1 locs1 → W p l e R s m args below meth c H1 locs1 cells slots Q (F0 m (pc + 3) ls (mi_rs ox b st')) :=
            fun H1 locs1 hP hD hS => k H1 locs1 (hs.upd (mi_E_setf ox b cy cj fs kf v) hP hD hS) hl
          cases hfin : (T kf).2.2.2 with
          | false => exact va_put (a := b + a) hx hb hts f1 ty0 f2 f3 hown k1 k2 k3 k4 a (mi_pl_get hc) e1 kf e2 (hts _ e3) (fun _ q => q) hfin e4 (mi_narrow ox b ty v e7) (mi_fits ox b ty v e6) (by rw [List.length_map]; exact e5) hd key
          | true => exact va_putF (a := b + a) hx hb hts f1 ty0 f2 f3 hown k1 k2 k3 k4 a (mi_pl_get hc) e1 kf e2 (hts _ e3) (fun _ q => q) hfin (hin (e8 hfin).1) (e8 hfin).2 e4 (mi_narrow ox b ty v e7) (mi_fits ox b ty v e6) (by rw [List.length_map]; exact e5) hd key
        · cases hh
      · cases hh
    · cases hh
  | iaload =>
    obtain rfl := mi_lenok_eq hn (n := 1) rfl
    simp only [mi_heap] at hh
    split at hh
    · rename_i j a st1
      split at hh
      · rename_i n xs hc
        split at hh
        · rename_i hj
          cases hh
          simp only [Nat.sub_self, Nat.add_zero] at k
          exact va_iald (a := b + a) hx hb k1 k2 a 1 (mi_pl_get hc) rfl (mi_in_eq hj) hd (k H locs hs hl)
        · cases hh
      · cases hh
    · rename_i j a st1
      split at hh
      · rename_i xs ho
        split at hh
        · rename_i hj
          cases hh
          simp only [Nat.sub_self, Nat.add_zero] at k
          obtain ⟨ad, o1, o2⟩ := hev.1 _ (mi_oa_mem ho)
          show W p l e R s m args below meth c H locs cells slots Q (F0 m pc ls (.int j :: mi_rs ox b (.retAddr a :: st1)))
          rw [mi_rs_out _ o1]
          exact va_ti hx hb o2 k4 (mi_in_eq hj) rfl hd (k H locs hs hl)
        · cases hh
      · cases hh
    · cases hh
  | laload =>
    obtain rfl := mi_lenok_eq hn (n := 1) rfl
    simp only [mi_heap] at hh
    split at hh
    · rename_i j a st1
      split at hh
      · rename_i n xs hc
        split at hh
        · rename_i hj
          cases hh
          simp only [Nat.sub_self, Nat.add_zero] at k
          exact va_lald (a := b + a) hx hb k1 k2 a 2 (mi_pl_get hc) rfl (mi_in_eq hj) hd (k H locs hs hl)
        · cases hh
      · cases hh
    · cases hh
  | baload =>
    obtain rfl := mi_lenok_eq hn (n := 1) rfl
    simp only [mi_heap] at hh
    split at hh
    · rename_i j a st1
      split at hh
      · rename_i n xs hc
        split at hh
        · rename_i hj
          cases hh
          simp only [Nat.sub_self, Nat.add_zero] at k
          exact va_bald (a := b + a) hx hb k1 k2 a 0 (mi_pl_get hc) rfl (mi_in_eq hj) hd (k H locs hs hl)
        · cases hh
      · rename_i n xs hc
        split at hh
        · rename_i hj
          cases hh
          simp only [Nat.sub_self, Nat.add_zero] at k
          exact va_zald (a := b + a) hx hb k1 k2 a 3 (mi_pl_get hc) rfl (mi_in_eq hj) hd (k H locs hs hl)
        · cases hh
      · cases hh
    · rename_i j a st1
      split at hh
      · rename_i xs ho
        split at hh
        · rename_i hj
          cases hh
          simp only [Nat.sub_self, Nat.add_zero] at k
          obtain ⟨ad, o1, o2⟩ := hev.1 _ (mi_oa_mem ho)
          show W p l e R s m args below meth c H locs cells slots Q (F0 m pc ls (.int j :: mi_rs ox b (.retAddr a :: st1)))
          rw [mi_rs_out _ o1]
          exact va_tb hx hb o2 k4 (mi_in_eq hj) rfl hd (k H locs hs hl)
        · cases hh
      · cases hh
    · cases hh
  | iastore =>
    obtain rfl := mi_lenok_eq hn (n := 1) rfl
    simp only [mi_heap] at hh
    split at hh
    · rename_i x j a st1
      split at hh
      · rename_i n xs hc
        split at hh
        · rename_i hj
          cases hh
          simp only [Nat.sub_self, Nat.add_zero, List.length_set] at k
          exact va_iast (a := b + a) hx hb k1 k2 k3 k4 a 1 (mi_pl_get hc) rfl (mi_in_eq hj) hd (fun H1 locs1 hP hD hS => k H1 locs1 (hs.upd (mi_E_seti ox b cy 1 n xs _ x) hP hD hS) hl)
        · cases hh
      · cases hh
    · cases hh
  | lastore =>
    obtain rfl := mi_lenok_eq hn (n := 1) rfl
    simp only [mi_heap] at hh
    split at hh
    · rename_i x j a st1
      split at hh
      · rename_i n xs hc
        split at hh
        · rename_i hj
          cases hh
          simp only [Nat.sub_self, Nat.add_zero, List.length_set] at k
          exact va_last (a := b + a) hx hb k1 k2 k3 k4 a 2 (mi_pl_get hc) rfl (mi_in_eq hj) hd (fun H1 locs1 hP hD hS => k H1 locs1 (hs.upd (mi_E_setl ox b cy 2 n xs _ x) hP hD hS) hl)
        · cases hh
      · cases hh
    · cases hh
  | bastore =>
    obtain rfl := mi_lenok_eq hn (n := 1) rfl
    simp only [mi_heap] at hh
    split at hh
    · rename_i x j a st1
      split at hh
      · rename_i n xs hc
        split at hh
        · rename_i hj
          cases hh
          simp only [Nat.sub_self, Nat.add_zero, List.length_set] at k
          exact va_bast (a := b + a) hx hb k1 k2 k3 k4 a 0 (mi_pl_get hc) rfl (mi_in_eq hj) hd (fun H1 locs1 hP hD hS => k H1 locs1 (hs.upd (mi_E_seti ox b cy 0 n xs _ _) hP hD hS) hl)
        · cases hh
      · rename_i n xs hc
        split at hh
        · rename_i hj
          cases hh
          simp only [Nat.sub_self, Nat.add_zero, List.length_set] at k
          exact va_zast (a := b + a) hx hb k1 k2 k3 k4 a 3 (mi_pl_get hc) rfl (mi_in_eq hj) hd (fun H1 locs1 hP hD hS => k H1 locs1 (hs.upd (mi_E_seti ox b cy 3 n xs _ _) hP hD hS) hl)
        · cases hh
      · cases hh
    · cases hh
  | arraylength =>
    obtain rfl := mi_lenok_eq hn (n := 1) rfl
    simp only [mi_heap] at hh
    split at hh
    · rename_i a st1
      split at hh
      · rename_i t n y hc
        split at hh
        · rename_i ht
          cases hh
          simp only [Nat.sub_self, Nat.add_zero] at k
          obtain ⟨ty, hty⟩ : ∃ ty, (mi_tys cy)[t]? = some (cy t, ty) := by
            match t, ht with
            | 0, _ => exact ⟨_, rfl⟩
            | 1, _ => exact ⟨_, rfl⟩
            | 2, _ => exact ⟨_, rfl⟩
            | 3, _ => exact ⟨_, rfl⟩
          obtain y | y := y
          · exact va_alen (a := b + a) hx hb k1 k2 a t (mi_pl_get hc) hty rfl hd (k H locs hs hl)
          · exact va_alen (a := b + a) hx hb k1 k2 a t (mi_pl_get hc) hty rfl hd (k H locs hs hl)
        · cases hh
      · cases hh
    · rename_i a st1
      split at hh
      · rename_i t xs ho
        cases hh
        simp only [Nat.sub_self, Nat.add_zero] at k
        obtain ⟨ad, o1, o2⟩ := hev.1 _ (mi_oa_mem ho)
        rw [mi_rs_out _ o1]
        exact va_tlen hx hb o2 k4 rfl hd (k H locs hs hl)
      · cases hh
    · cases hh
  | ldc x =>
    obtain rfl := mi_lenok_eq hn (n := 2) rfl
    simp only [mi_heap] at hh
    split at hh
    · rename_i v hv
      cases hh
      simp only [Nat.sub_self, Nat.add_zero] at k
      exact lv_ldc hx hb hown (hts _ (hK.2.2.2.1 _ _ hv)) hd (k H locs hs hl)
    · split at hh
      · rename_i tx kk hv
        cases hh
        simp only [Nat.sub_self, Nat.add_zero] at k
        obtain ⟨ad, o1, hz⟩ := hev.2.2.2.1 (own, x, tx, kk) (hK.2.2.2.2.2.1 x tx kk hv)
        rw [mi_rs_out _ o1] at k
        exact va_ldcS hx hb hown hz hd (k H locs hs hl)
      · cases hh
  | ldc_w x =>
    obtain rfl := mi_lenok_eq hn (n := 3) rfl
    simp only [mi_heap] at hh
    split at hh
    · rename_i v hv
      cases hh
      simp only [Nat.sub_self, Nat.add_zero] at k
      exact lv_ldcw hx hb hown (hts _ (hK.2.2.2.1 _ _ hv)) hd (k H locs hs hl)
    · split at hh
      · rename_i tx kk hv
        cases hh
        simp only [Nat.sub_self, Nat.add_zero] at k
        obtain ⟨ad, o1, hz⟩ := hev.2.2.2.1 (own, x, tx, kk) (hK.2.2.2.2.2.1 x tx kk hv)
        rw [mi_rs_out _ o1] at k
        exact mi_ldcwS hx hb hown hz hd (k H locs hs hl)
      · cases hh
  | ldc2_w x =>
    obtain rfl := mi_lenok_eq hn (n := 3) rfl
    simp only [mi_heap] at hh
    split at hh
    · rename_i v hv
      cases hh
      simp only [Nat.sub_self, Nat.add_zero] at k
      exact lv_ldc2 hx hb hown (hts _ (hK.2.2.2.2.1 _ _ hv)) hd (k H locs hs hl)
    · cases hh
  | getstatic x =>
    obtain rfl := mi_lenok_eq hn (n := 3) rfl
    simp only [mi_heap] at hh
    split at hh
    · rename_i C n d v hv
      cases hh
      obtain ⟨e1, e2⟩ := hK.2.2.2.2.2.2 _ _ _ _ _ hv
      simp only [Nat.sub_self, Nat.add_zero] at k
      have hz : va_Z C n d (mi_rv ox b v) A s s.heap := hev.2.2.1 (C, n, d, v) e1
      rcases e2 with e2 | ⟨host, e2⟩
      · exact va_gets hx hb hz k4 hown (hts _ e2) (fun _ q => q) hd (k H locs hs hl)
      · exact va_getsN hx hb hz k4 hown ((hev.2.2.2.2 _ e2).use rfl) (fun _ q => q) hd (k H locs hs hl)
    · cases hh
  | new x =>
    obtain rfl := mi_lenok_eq hn (n := 3) rfl
    simp only [mi_heap] at hh
    split at hh
    · rename_i ci fs hf
      cases hh
      obtain ⟨C, T, N, e1, e2, e3, ty, e4, e5⟩ := hK.2.2.1 _ _ _ hf
      obtain ⟨f1, -, -, f4, f5⟩ := hC.2.1 _ _ _ _ e1
      have z1 : (h ++ [(Sum.inl (ci, fs) : mi_C)]).length - h.length = 1 := by simp
      have z2 : sl + fs.length - sl = N := by omega
      rw [z1] at hr1 k
      rw [z2] at hr2 k
      have hfs : ∀ j, j < N → defaultValue (ty j) = vp_V (fs.map (mi_rv ox b)) j := by
        intro j hj
        have := e5 j hj
        simp only [vp_V, List.getD_eq_getElem?_getD, List.getElem?_map, this, Option.map_some, Option.getD_some]
        cases ty j <;> rfl
      refine va_new hx hb hts f1 ty e4 hown (hts _ e3) (hts _ f4) (hts _ f5) k1 k2 k3 k4 k6 e1 hfs hr1 hr2 hd (fun q H1 hP hD hS => ?_)
      refine mi_size fun hsz => ?_
      have hq := mi_fresh (s := s) (cells := cells) hD hP hsz k5 k7
      have hg := k H1 locs (hs.push (c1 := .inl (ci, fs)) rfl hq hP hD hS) hl
      subst hq
      exact hg
    · cases hh
  | newarray ty =>
    obtain rfl := mi_lenok_eq hn (n := 2) rfl
    simp only [mi_heap] at hh
    split at hh
    · rename_i t ee n st1 hat
      split at hh
      · cases hh
      · rename_i hnn
        cases hh
        have z1 : (h ++ [(Sum.inr (t, n.toNatClampNeg, ee) : mi_C)]).length - h.length = 1 := by simp
        have z2 : sl + n.toNatClampNeg - sl = n.toNatClampNeg := by omega
        rw [z1] at hr1 k
        rw [z2] at hr2 k
        have hn0 : ¬ n < 0 := fun q => hnn (Or.inl q)
        have hn1 : n.toNatClampNeg ≤ 60000000 := Nat.not_lt.mp fun q => hnn (Or.inr q)
        cases ty with
        | byte =>
          cases hat
          refine va_newa (atype := .byte) (ty := .byte) (a0 := (n.toNatClampNeg, .inl (fun j => ([] : List Int32).getD j 0))) hx hb (hts _ hC.2.2.1) rfl k1 k2 k3 k4 k6 (fun cA => rfl) hn0 rfl (by simp only [componentBytes]; omega) hr1 hr2 hd (fun q cA H1 hK1 hP hD hS => ?_)
          have hcA : cA = cy 0 := by
            have r1 : s.vm.findClass ("[" ++ (FieldType.byte).toString) = some (cy 0) := (k1.2 0 (cy 0, .byte) rfl).2
            have r2 : s.vm.findClass ("[" ++ (FieldType.byte).toString) = some cA := (hK1.2 4 (cA, .byte) rfl).2
            rw [r1] at r2
            exact (Option.some.inj r2).symm
          subst hcA
          refine mi_size fun hsz => ?_
          have hq := mi_fresh (s := s) (cells := cells) hD hP hsz k5 k7
          have hg := k H1 locs (hs.push (c1 := .inr (0, n.toNatClampNeg, .inl [])) rfl hq hP hD hS) hl
          subst hq
          exact hg
        | int =>
          cases hat
          refine va_newa (atype := .int) (ty := .int) (a0 := (n.toNatClampNeg, .inl (fun j => ([] : List Int32).getD j 0))) hx hb (hts _ hC.2.2.2.1) rfl k1 k2 k3 k4 k6 (fun cA => rfl) hn0 rfl (by simp only [componentBytes]; omega) hr1 hr2 hd (fun q cA H1 hK1 hP hD hS => ?_)
          have hcA : cA = cy 1 := by
            have r1 : s.vm.findClass ("[" ++ (FieldType.int).toString) = some (cy 1) := (k1.2 1 (cy 1, .int) rfl).2
            have r2 : s.vm.findClass ("[" ++ (FieldType.int).toString) = some cA := (hK1.2 4 (cA, .int) rfl).2
            rw [r1] at r2
            exact (Option.some.inj r2).symm
          subst hcA
          refine mi_size fun hsz => ?_
          have hq := mi_fresh (s := s) (cells := cells) hD hP hsz k5 k7
          have hg := k H1 locs (hs.push (c1 := .inr (1, n.toNatClampNeg, .inl [])) rfl hq hP hD hS) hl
          subst hq
          exact hg
        | long =>
          cases hat
          refine va_newa (atype := .long) (ty := .long) (a0 := (n.toNatClampNeg, .inr (.inl (fun j => ([] : List Int64).getD j 0)))) hx hb (hts _ hC.2.2.2.2.1) rfl k1 k2 k3 k4 k6 (fun cA => rfl) hn0 rfl (by simp only [componentBytes]; omega) hr1 hr2 hd (fun q cA H1 hK1 hP hD hS => ?_)
          have hcA : cA = cy 2 := by
            have r1 : s.vm.findClass ("[" ++ (FieldType.long).toString) = some (cy 2) := (k1.2 2 (cy 2, .long) rfl).2
            have r2 : s.vm.findClass ("[" ++ (FieldType.long).toString) = some cA := (hK1.2 4 (cA, .long) rfl).2
            rw [r1] at r2
            exact (Option.some.inj r2).symm
          subst hcA
          refine mi_size fun hsz => ?_
          have hq := mi_fresh (s := s) (cells := cells) hD hP hsz k5 k7
          have hg := k H1 locs (hs.push (c1 := .inr (2, n.toNatClampNeg, .inr [])) rfl hq hP hD hS) hl
          subst hq
          exact hg
        | boolean =>
          cases hat
          refine va_newa (atype := .boolean) (ty := .boolean) (a0 := (n.toNatClampNeg, .inl (fun j => ([] : List Int32).getD j 0))) hx hb (hts _ hC.2.2.2.2.2) rfl k1 k2 k3 k4 k6 (fun cA => rfl) hn0 rfl (by simp only [componentBytes]; omega) hr1 hr2 hd (fun q cA H1 hK1 hP hD hS => ?_)
          have hcA : cA = cy 3 := by
            have r1 : s.vm.findClass ("[" ++ (FieldType.boolean).toString) = some (cy 3) := (k1.2 3 (cy 3, .boolean) rfl).2
            have r2 : s.vm.findClass ("[" ++ (FieldType.boolean).toString) = some cA := (hK1.2 4 (cA, .boolean) rfl).2
            rw [r1] at r2
            exact (Option.some.inj r2).symm
          subst hcA
          refine mi_size fun hsz => ?_
          have hq := mi_fresh (s := s) (cells := cells) hD hP hsz k5 k7
          have hg := k H1 locs (hs.push (c1 := .inr (3, n.toNatClampNeg, .inl [])) rfl hq hP hD hS) hl
          subst hq
          exact hg
        | _ => cases hat
    · cases hh
  | _ => simp [mi_heap] at hh
end MIW
