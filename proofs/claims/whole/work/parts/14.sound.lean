/-! What the small machine runs, the machine does. -/
/-- a call as the tables have it -/
def mi_Kok (Γ : Nat → Option mi_Me) (Ts : List Cond) (cl : List vw_C) (ev : mi_Ev) (fr lo : Nat → Nat) (j : Nat) (M : mi_Me) : Prop := ∀ (x kd j' n ci : Nat), M.2.2.2.2.2.2 x = some (kd, j', n, ci) →
  (kd = 4 → Cond.methodLink M.1.cls x Lib.objectInit ∈ Ts ∧ Cond.instanceMethod Lib.objectInit ∈ Ts ∧ Cond.code Lib.objectInit ⟨#[0xb1]⟩ 1 none ∈ Ts ∧ 1 ≤ fr j ∧ 20 ≤ lo j) ∧
  (kd = 6 → Cond.methodLink M.1.cls x ⟨"[I", "clone", "()Ljava/lang/Object;"⟩ ∈ Ts ∧ Cond.sameMethod "[I" "java/lang/Object" "clone" "()Ljava/lang/Object;" ∈ Ts ∧ Cond.native ⟨"java/lang/Object", "clone", "()Ljava/lang/Object;"⟩ ∈ Ts ∧ Cond.instanceMethod ⟨"java/lang/Object", "clone", "()Ljava/lang/Object;"⟩ ∈ Ts ∧ Cond.selects "[I" ⟨"[I", "clone", "()Ljava/lang/Object;"⟩ ⟨"java/lang/Object", "clone", "()Ljava/lang/Object;"⟩ ∈ Ts ∧ Cond.castable "[I" "java/lang/Cloneable" ∈ ev.2.2.2.2 ∧ 1 ≤ fr j ∧ 22 ≤ lo j) ∧
  (kd = 7 → Cond.classLink M.1.cls x "[I" ∈ Ts) ∧
  (kd = 8 → Cond.methodLink M.1.cls x arraycopyName ∈ Ts ∧ Cond.native arraycopyName ∈ Ts ∧ Cond.static arraycopyName ∈ Ts ∧ Cond.initialized "java/lang/System" ∈ Ts ∧ 1 ≤ fr j ∧ 8 + (nativeFrameWords "java/lang/System" "arraycopy" 5 + 11) ≤ lo j) ∧
  ∀ M', Γ j' = some M' → kd ≠ 4 → (M'.1.cls ≠ "java/lang/invoke/MethodHandle" ∧ M'.1.cls ≠ "java/lang/invoke/VarHandle" ∧ (parseMethodDescriptor M'.1.desc).map (fun d => d.parameters.length) = some n) ∧ Cond.code M'.1 M'.2.1 M'.2.2.1 M'.2.2.2.1 ∈ Ts ∧ Cond.initialized M'.1.cls ∈ Ts ∧ (fr j' + 1 ≤ fr j ∧ 8 + (M'.2.2.1 + 11) + lo j' ≤ lo j) ∧
    (kd = 0 → Cond.methodLink M.1.cls x M'.1 ∈ Ts ∧ Cond.instanceMethod M'.1 ∈ Ts ∧ ∃ C T N, cl[ci]? = some (C, T, N) ∧ Cond.selects C M'.1 M'.1 ∈ Ts) ∧
    (kd = 1 → Cond.methodLink M.1.cls x M'.1 ∈ Ts ∧ Cond.instanceMethod M'.1 ∈ Ts ∧ M'.1.name = "<init>" ∧ M'.2.2.2.1 = none) ∧
    (kd = 2 → (∃ host, Cond.methodLinkNest M.1.cls x M'.1 host ∈ ev.2.2.2.2) ∧ Cond.instanceMethod M'.1 ∈ Ts ∧ M'.1.name = "<init>" ∧ M'.2.2.2.1 = none) ∧
    (kd = 3 → Cond.methodLink M.1.cls x M'.1 ∈ Ts ∧ Cond.static M'.1 ∈ Ts) ∧
    (kd = 5 → Cond.methodLink M.1.cls x M'.1 ∈ Ts ∧ Cond.instanceMethod M'.1 ∈ Ts ∧ Cond.selects "java/lang/String" M'.1 M'.1 ∈ Ts)
/-- all tables -/
def mi_Tok (Γ : Nat → Option mi_Me) (Ts : List Cond) (cl : List vw_C) (ev : mi_Ev) (fr lo : Nat → Nat) : Prop :=
  (∀ w ∈ Ts, (w.onTables && w.keeps) = true ∨ ∃ ty, w = .arrayClass ty) ∧ mi_Cok Ts cl ∧ (∀ w ∈ ev.2.2.2.2, (∃ a i x h, w = .methodLinkNest a i x h) ∨ (∃ C T, w = .castable C T) ∨ ∃ a i b n d h, w = .fieldLinkNest a i b n d h) ∧
  ∀ (j : Nat) (M : mi_Me), Γ j = some M → plainName M.1.cls = true ∧ (∀ q ∈ M.2.2.2.2.1, decode M.2.1 q.1 = .ok (q.2.1, q.2.2) ∧ mi_lenok q.2.1 q.2.2 = true) ∧ mi_Lok Ts cl ev M.1.cls (M.1.name == "<init>") M.2.2.2.2.2.1 ∧ mi_Kok Γ Ts cl ev fr lo j M
theorem mi_Env.to {ev : mi_Ev} {ox : Nat → Option Nat} {b : Nat} {A B : Nat → Prop} {s U : State} {H H1 : Heap} (h : mi_Env ev ox b A s H) (hal : s.vm.Alike U.vm) (hR : ∀ (own : String) (k : Nat) (tx : String) (a : Nat), vk_R own k tx a s → vk_R own k tx a U) (hN : ∀ w ∈ ev.2.2.2.2, va_Nw w s → va_Nw w U) (hq : ∀ a : Nat, a < H.size → ¬ A a → H1[a]? = H[a]?) (hAB : ∀ q, B q → A q) : mi_Env ev ox b B U H1 := by
  obtain ⟨h1, h2, h3, h4, h5⟩ := h
  refine ⟨fun q m => ?_, fun q m => ?_, fun q m => (((h3 q m).moved hal).kept hq).narrow hAB, fun q m => ?_, fun w m => hN w m (h5 w m)⟩
  · obtain ⟨a, e1, e2⟩ := h1 q m
    exact ⟨a, e1, ((e2.moved hal).kept hq).narrow hAB⟩
  · obtain ⟨a, v, e1, e2, a1, a2, a3⟩ := h2 q m
    exact ⟨a, v, e1, e2, ((a1.moved hal).kept hq).narrow hAB, ((a2.moved hal).kept hq).narrow hAB, ((a3.moved hal).kept hq).narrow hAB⟩
  · obtain ⟨a, e1, e2⟩ := h4 q m
    exact ⟨a, e1, hR _ _ _ _ e2⟩
theorem mi_lg (ox : Nat → Option Nat) (b : Nat) (vs : List Value) : (lg_sl (mi_rs ox b vs)).length = (lg_sl vs).length := by
  induction vs with
  | nil => rfl
  | cons v vs ih =>
    simp only [mi_rs, lg_sl, List.map_cons, List.flatMap_cons, List.length_append, mi_rv_cat] at ih ⊢
    rw [ih]
    split <;> rfl
theorem mi_args (ox : Nat → Option Nat) (b : Nat) (vs : List Value) : ∀ i : Nat, lv_args i (mi_rs ox b vs) = mi_rl ox b (lv_args i vs) := by
  induction vs with
  | nil => intro i; rfl
  | cons v vs ih =>
    intro i
    simp only [mi_rs, mi_rl, lv_args, List.map_cons, mi_rv_cat] at ih ⊢
    rw [ih]
theorem mi_rs_cat (ox : Nat → Option Nat) (b : Nat) (vs : List Value) : ((mi_rs ox b vs).map fun v => v.category).sum = mi_cat vs := by
  simp only [mi_rs, mi_cat, List.map_map]
  congr 2
  funext v
  exact mi_rv_cat ox b v
theorem mi_rs_cat2 (ox : Nat → Option Nat) (b : Nat) (vs : List Value) : (List.map (fun v => v.category) (List.map (mi_rv ox b) vs)).sum = mi_cat vs := mi_rs_cat ox b vs
def mi_Q (r : Option Value) (B : State → Prop) (A : Nat → Prop) : Array Value → State → Outcome → State → Prop := fun _ st oc t => (oc = .returned r ∧ B t) ∧ va_F A st t
theorem mi_callW {p : Program} {l : Launch} {e : Env} {R : Room} {s : State} {m : MethodId} {args : Array Value} {below : List Frame} {meth : Method} {c : Code} {H : Heap} {locs : List Loc} {cells slots : Nat} {Q : State → Prop} {pc : Nat} {ls : Array Slot} {rest st0 : List Value} {a : Array Value} {A0 A1 : Nat → Prop} {mc ms : Nat} {free : Addr → Prop} {r : Option Value} {B : State → Prop}
    (hr : va_Run p l e R s m args below meth c H locs cells slots mc ms (F0 m pc ls st0) rest (mi_Q r B A1 a) free) (hS : va_S A0 s.heap H locs) (hA : ∀ q, q < H.size → A1 q → A0 q) (hf : ∀ q, free q → A0 q)
    (kk : ∀ (t : State) (H1 : Heap) (locs1 : List Loc), t.heap = H1 → B t → va_S A0 s.heap H1 locs1 → W p l e R s m args below meth c H1 locs1 (cells + mc) (slots + ms) Q (F0 m (pc + 3) ls (r.toList ++ rest))) : W p l e R s m args below meth c H locs cells slots Q (F0 m pc ls st0) := by
  intro T hT X
  obtain ⟨v, st₀, t, T', L, h0, X', hL, e1, e2, ⟨⟨hv, hB⟩, hz, hk⟩, st⟩ := hr T hT X
  cases hv
  rw [h0] at hz hk
  have hS1 : va_S A0 s.heap T'.heap (locs ++ L) := by
    refine ⟨Nat.le_trans hS.1 (by rw [e1]; exact hz), fun q h1 h2 => ?_, fun q hq => ?_⟩
    · have h3 := Nat.lt_of_lt_of_le h1 hS.1
      rw [e1, hk q h3 (fun z => h2 (hA q h3 z))]
      exact hS.2.1 q h1 h2
    · exact (List.mem_append.mp hq).elim (hS.2.2 q) (fun h => hf _ (hL q h))
  obtain ⟨t2, a1, b1⟩ := kk t T'.heap (locs ++ L) e1.symm hB hS1 T' rfl X'
  exact ⟨t2, st t2 a1, b1⟩
/-- what is shown of all runs of length n -/
def mi_W (Γ : Nat → Option mi_Me) (Ts : List Cond) (cl : List vw_C) (ev : mi_Ev) (fr lo : Nat → Nat) (l : Launch) (n : Nat) : Prop := ∀ (j : Nat) (f : mi_Fr) (h : List mi_C) (sl : Nat) (r : Option Value) (h' : List mi_C) (sl' : Nat) (M : mi_Me), mi_run Γ ev n j f h sl = some (r, h', sl') → Γ j = some M →
  ∀ (p : Program) (e : Env) (R : Room) (s : State) (m : MethodId) (args : Array Value) (below : List Frame) (meth : Method) (c : Code) (H : Heap) (locs : List Loc) (cells slots : Nat) (Q : State → Prop) (D : va_G) (cy : Nat → ClassId) (A : Nat → Prop) (ox : Nat → Option Nat) (b : Nat) (ls : Array Slot), p.tables.exec = Jvm.exec → c.code = M.2.1 → c.maxLocals = M.2.2.1 → (∀ w ∈ Ts, w.before args s = true) → s.vm.findClass M.1.cls = some m.cls → ((M.1.name == "<init>") = true → meth.name = "<init>") → mi_Env ev ox b A s s.heap → lv_has ls M.2.2.1 (mi_rl ox b f.2.1) → mi_Sim D cl cy ox b A s h H locs cells → cells + (h'.length - h.length) ≤ R.cells → slots + (sl' - sl) ≤ R.slots → fr j ≤ R.frames → lo j ≤ R.locals →
  (∀ (i : Instr) (len pc1 : Nat) (st1 : List Value) (ls1 : Array Slot) (H1 : Heap) (locs1 : List Loc), decode M.2.1 pc1 = .ok (i, len) → mi_lenok i len = true → mi_ret M.2.2.2.1 i st1 = some r → mi_Sim D cl cy ox b A s h' H1 locs1 (cells + (h'.length - h.length)) → W p l e R s m args below meth c H1 locs1 (cells + (h'.length - h.length)) (slots + (sl' - sl)) Q (F0 m pc1 ls1 (mi_rs ox b st1))) →
  W p l e R s m args below meth c H locs cells slots Q (F0 m f.1 ls (mi_rs ox b f.2.2))
/-- a method's contract, out of its run -/
theorem mi_Met {Γ : Nat → Option mi_Me} {Ts : List Cond} {cl : List vw_C} {ev : mi_Ev} {fr lo : Nat → Nat} {l : Launch} {n : Nat} (ok : mi_Tok Γ Ts cl ev fr lo) (ih : mi_W Γ Ts cl ev fr lo l n) {j : Nat} {as : List Value} {h : List mi_C} {sl : Nat} {r : Option Value} {h' : List mi_C} {sl' : Nat} {M : mi_Me} (e : mi_run Γ ev n j (0, lv_args 0 as, []) h sl = some (r, h', sl')) (hj : Γ j = some M) (hlen : (lg_sl as).length ≤ M.2.2.1) (D : va_G) (cy : Nat → ClassId) (ox : Nat → Option Nat) (b : Nat) :
    Met l M.1 (Cond.code M.1 M.2.1 M.2.2.1 M.2.2.2.1 :: Ts) { frames := fr j, cells := h'.length - h.length, slots := sl' - sl, locals := lo j } (va_Pc (mi_rs ox b as) (fun U => U.heap.size = b + h.length ∧ va_K D cl (mi_tys cy) U ∧ va_P D cl (mi_pl ox b cy h) U.heap ∧ va_D (fun _ => True) (mi_pl ox b cy h) ∧ mi_Env ev ox b (va_A (mi_pl ox b cy h) (b + h.length)) U U.heap))
      (mi_Q (r.map (mi_rv ox b)) (fun t => va_P D cl (mi_pl ox b cy h') t.heap ∧ va_D (va_A (mi_pl ox b cy h) (b + h.length)) (mi_pl ox b cy h')) (va_A (mi_pl ox b cy h) (b + h.length))) (h'.length - h.length) (sl' - sl) (va_A (mi_pl ox b cy h) (b + h.length)) := by
  obtain ⟨ok1, ok2, ok3, ok4⟩ := ok
  obtain ⟨m1, m2, m3, m4⟩ := ok4 j M hj
  refine Met.ofW (cc := M.2.1) (maxL := M.2.2.1) (ret := M.2.2.2.1) m1 rfl ?_
  intro p e0 s m args below meth c s₁ B hml hv
  obtain ⟨rfl, hsz, hK, hP, hD0, hE⟩ := hv
  have hx := B.exec
  have hb := B.bytes
  have hr := B.returns
  have hts := atoms_spec (ws := Cond.code M.1 M.2.1 M.2.2.1 M.2.2.2.1 :: Ts) B.pre
  have hown : s.vm.findClass M.1.cls = some m.cls := findClass_of_methodNamed B.named
  have hlocks := B.notSynchronized
  have hin : meth.name = M.1.name := (name_of_methodNamed B.named B.method).1
  have hl := lv_entry (mi_rs ox b as) (n := M.2.2.1) (by rw [mi_lg]; exact hlen)
  rw [lg_entry_eq]
  generalize (lg_sl (mi_rs ox b as) ++ List.replicate (M.2.2.1 - (lg_sl (mi_rs ox b as)).length) Slot.unset).toArray = ls at hl ⊢
  rw [mi_args] at hl
  have hsim : mi_Sim D cl cy ox b (va_A (mi_pl ox b cy h) (b + h.length)) s h s.heap [] 0 := by
    refine ⟨hK, hP, hD0.self, va_S.rf, by rw [hsz]; rfl, fun q hq => Or.inr (by rw [← hsz]; exact hq), fun q hq => ?_⟩
    rcases hq with ⟨k, w, hk⟩ | hq
    · rw [mi_pl, List.getElem?_mapIdx] at hk
      cases hc : h[k]? with
      | none => rw [hc] at hk; cases hk
      | some c0 =>
        rw [hc] at hk
        simp only [Option.map_some, Option.some.injEq, Prod.mk.injEq] at hk
        omega
    · omega
  refine ih j (0, lv_args 0 as, []) h sl r h' sl' M e hj p e0 _ s m _ below meth c s.heap [] 0 0 _ D cy _ ox b ls hx hb hml (fun w hw => hts w (List.mem_cons_of_mem _ hw)) hown (fun q => hin.trans (by simpa using q)) hE hl hsim (by rw [Nat.zero_add]; exact Nat.le_refl _) (by rw [Nat.zero_add]; exact Nat.le_refl _) (Nat.le_refl _) (Nat.le_refl _) ?_
  intro i len pc1 st1 ls1 H1 locs1 hd hn hret hs1
  obtain ⟨k1, k2, k3, k4, -⟩ := hs1
  rw [Nat.zero_add, Nat.zero_add]
  cases i with
  | ireturn =>
    obtain rfl := mi_lenok_eq hn (n := 1) rfl
    simp only [mi_ret] at hret
    split at hret
    · rename_i ty v e1
      split at hret
      · rename_i e2
        cases hret
        exact W.zret hx hb (hr.trans e1) e2 (fun t ht hW => ⟨⟨rfl, by rw [ht]; exact k2, k3⟩, k4.F ht⟩) k4.2.2 hd
      · cases hret
    · cases hret
  | lreturn =>
    obtain rfl := mi_lenok_eq hn (n := 1) rfl
    simp only [mi_ret] at hret
    split at hret
    · rename_i v e1
      cases hret
      exact W.lret hx hb (hr.trans e1) (fun t ht hW => ⟨⟨rfl, by rw [ht]; exact k2, k3⟩, k4.F ht⟩) k4.2.2 hd
    · cases hret
  | return_ =>
    obtain rfl := mi_lenok_eq hn (n := 1) rfl
    simp only [mi_ret] at hret
    split at hret
    · rename_i e1
      cases hret
      exact W.vret hx hb (hr.trans e1) (fun t ht hW => ⟨⟨rfl, by rw [ht]; exact k2, k3⟩, k4.F ht⟩) k4.2.2 hd
    · cases hret
  | _ => simp [mi_ret] at hret
section MIN
variable {p : Program} {l : Launch} {e : Env} {R : Room} {s : State} {m : MethodId} {args : Array Value} {below : List Frame} {meth : Method} {c : Code} {H : Heap} {locs : List Loc} {cells slots : Nat} {Q : State → Prop}
variable {cc : ByteArray} {pc : Nat} {ls : Array Slot} {D : va_G} {cl : List vw_C} {cy : Nat → ClassId} {A : Nat → Prop}
theorem mi_ty_at {t : Nat} (h : t < 4) (cy : Nat → ClassId) : (mi_tys cy)[t]? = some (cy t, mi_ty t) := by
  match t, h with
  | 0, _ => rfl
  | 1, _ => rfl
  | 2, _ => rfl
  | 3, _ => rfl
theorem mi_ty_prim {t : Nat} : refKind (mi_ty t) = false := by
  match t with
  | 0 => rfl
  | 1 => rfl
  | 2 => rfl
  | n + 3 => rfl
set_option maxHeartbeats 8000000 in
theorem mi_nat_W {Γ : Nat → Option mi_Me} {Ts : List Cond} {ev : mi_Ev} {fr lo : Nat → Nat} {j : Nat} {M : mi_Me} (hx : p.tables.exec = Jvm.exec) (hb : c.code = cc) (hml : c.maxLocals = M.2.2.1) (hts : ∀ w ∈ Ts, w.before args s = true) (hown : s.vm.findClass M.1.cls = some m.cls) (hK : mi_Kok Γ Ts cl ev fr lo j M) {ox : Nat → Option Nat} {b len : Nat} (hev : mi_Env ev ox b A s s.heap) {i : Instr} {lv : mi_L} {st st' : List Value} {sl sl' : Nat} {h h' : List mi_C} (hd : decode cc pc = .ok (i, len)) (hn : mi_lenok i len = true) (hl : lv_has ls M.2.2.1 (mi_rl ox b lv)) (hs : mi_Sim D cl cy ox b A s h H locs cells)
    (hfr : fr j ≤ R.frames) (hlo : lo j ≤ R.locals) (hr1 : cells + (h'.length - h.length) ≤ R.cells) (hr2 : slots + (sl' - sl) ≤ R.slots) (hh : mi_nat M i st h sl = some (st', h', sl'))
    (k : ∀ (H1 : Heap) (locs1 : List Loc), mi_Sim D cl cy ox b A s h' H1 locs1 (cells + (h'.length - h.length)) → W p l e R s m args below meth c H1 locs1 (cells + (h'.length - h.length)) (slots + (sl' - sl)) Q (F0 m (pc + 3) ls (mi_rs ox b st'))) : W p l e R s m args below meth c H locs cells slots Q (F0 m pc ls (mi_rs ox b st)) := by
  obtain ⟨k1, k2, k3, k4, k5, k6, k7⟩ := id hs
  cases i with
  | invokespecial x =>
    simp only [mi_nat] at hh
    split at hh
    · rename_i q1 q2 q3 hcl
      split at hh
      · split at hh
        · rename_i hcat
          cases hh
          obtain rfl := mi_lenok_eq hn (n := 3) rfl
          obtain ⟨z1, z2, z3, z4, z5⟩ := (hK _ _ _ _ _ hcl).1 rfl
          simp only [Nat.sub_self, Nat.add_zero] at k
          refine W.objInit hx hb hown (hts _ z1) (hts _ z2) (hts _ z3) rfl (by rw [hml]; exact hl.1) rfl hd (by omega) ?_ (k H locs hs)
          show 2 * 0 + ((mi_rs ox b st').map fun v => v.category).sum + 12 ≤ R.locals
          rw [mi_rs_cat]
          omega
        · cases hh
      · cases hh
    · cases hh
  | invokevirtual x =>
    simp only [mi_nat] at hh
    split at hh
    · rename_i q1 q2 q3 hcl
      split at hh
      · rename_i a rest
        split at hh
        · rename_i n xs hc
          split at hh
          · rename_i hcat
            cases hh
            obtain rfl := mi_lenok_eq hn (n := 3) rfl
            obtain ⟨z1, z2, z3, z4, z5, z6, z7, z8⟩ := (hK _ _ _ _ _ hcl).2.1 rfl
            have y1 : (h ++ [(Sum.inr (1, n, .inl xs) : mi_C)]).length - h.length = 1 := by simp
            have y2 : sl + n - sl = n := by omega
            rw [y1] at hr1 k
            rw [y2] at hr2 k
            have hnm : s.vm.findClass "[I" = some (cy 1) := (k1.2 1 (cy 1, .int) rfl).2
            refine va_clone (x := (n, .inl (fun j => xs.getD j 0))) (a := b + a) hx hb (by rw [hml]; exact hl.1.symm) hown (hts _ z1) (hts _ z2) (hts _ z3) (hts _ z4) (hts _ z5) (hev.2.2.2.2 _ z6) k1 k2 k3 k4 k6 a 1 (mi_pl_get hc) rfl hnm (fun i v hv => ?_) (by omega) (by rw [mi_rs_cat2]; omega) hr1 hr2 hd (fun q H1 _ hP hD hS => ?_)
            · rw [vp_cell_i] at hv
              have hlt : i < n := by
                have := (Array.getElem?_eq_some_iff.mp hv).1
                rw [arrV_size] at this
                exact this
              rw [arrV_read _ _ hlt] at hv
              cases hv
              rfl
            · refine mi_size fun hsz => ?_
              have hq := mi_fresh (s := s) (cells := cells) hD hP hsz k5 k7
              have hg := k H1 locs (hs.push (c1 := .inr (1, n, .inl xs)) rfl hq hP hD hS)
              subst hq
              exact hg
          · cases hh
        · cases hh
      · cases hh
    · cases hh
  | checkcast x =>
    simp only [mi_nat] at hh
    split at hh
    · rename_i q1 q2 q3 hcl
      split at hh
      · rename_i a rest
        split at hh
        · rename_i n xs hc
          cases hh
          obtain rfl := mi_lenok_eq hn (n := 3) rfl
          have z1 := (hK _ _ _ _ _ hcl).2.2.1 rfl
          simp only [Nat.sub_self, Nat.add_zero] at k
          have hnm : s.vm.findClass "[I" = some (cy 1) := (k1.2 1 (cy 1, .int) rfl).2
          exact va_castA (a := b + a) hx hb hown (hts _ z1) k2 a (mi_pl_get hc) hnm hd (k H locs hs)
        · cases hh
      · cases hh
    · cases hh
  | invokestatic x =>
    simp only [mi_nat] at hh
    split at hh
    · rename_i q1 q2 q3 hcl
      obtain ⟨z1, z2, z3, z4, z5, z6⟩ := (hK _ _ _ _ _ hcl).2.2.2.1 rfl
      split at hh
      · rename_i n dp a sp a0 rest
        split at hh
        · rename_i t0 n0 xs t n1 ys hc0 hc1
          split at hh
          · rename_i hh2
            cases hh
            obtain ⟨rfl, y2, y3, y4, y5, y6, y7, y8, y9⟩ := hh2
            obtain rfl := mi_lenok_eq hn (n := 3) rfl
            simp only [Nat.sub_self, Nat.add_zero, List.length_set] at k
            refine va_copyi (a := b + a) (a0 := b + a0) hx hb (by rw [hml]; exact hl.1.symm) hown (hts _ z1) (hts _ z2) (hts _ z3) (hts _ z4) k1 k2 k3 k4 a0 a t0 t0 (mi_pl_get hc0) (mi_pl_get hc1) (mi_ty_at y2 cy) (mi_ty_at y2 cy) mi_ty_prim y3 y4 y5 y6 y7 (fun i hi => List.all_eq_true.mp y8 i (List.mem_range.mpr hi)) (by omega) (by rw [mi_rs_cat2]; omega) hd (fun H1 locs1 hP hD hS => ?_)
            refine k H1 locs1 (hs.upd ?_ hP hD hS)
            rw [← mi_cpy_get]
            rfl
          · cases hh
        · rename_i t0 n0 xs t n1 ys hc0 hc1
          split at hh
          · rename_i hh2
            cases hh
            obtain ⟨rfl, rfl, y3, y4, y5, y6, y7, y9⟩ := hh2
            obtain rfl := mi_lenok_eq hn (n := 3) rfl
            simp only [Nat.sub_self, Nat.add_zero, List.length_set] at k
            refine va_copyl (a := b + a) (a0 := b + a0) hx hb (by rw [hml]; exact hl.1.symm) hown (hts _ z1) (hts _ z2) (hts _ z3) (hts _ z4) k1 k2 k3 k4 a0 a 2 2 (mi_pl_get hc0) (mi_pl_get hc1) rfl rfl rfl y3 y4 y5 y6 y7 (fun i hi => rfl) (by omega) (by rw [mi_rs_cat2]; omega) hd (fun H1 locs1 hP hD hS => ?_)
            refine k H1 locs1 (hs.upd ?_ hP hD hS)
            rw [← mi_cpy_get]
            rfl
          · cases hh
        · cases hh
      · cases hh
    · cases hh
  | _ => simp [mi_nat] at hh
end MIN
