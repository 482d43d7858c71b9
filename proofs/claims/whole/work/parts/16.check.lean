/-! Tables that a program writes, and checks of them. -/
abbrev mi_L1 : Type := List (Nat × Nat × Nat × Nat)
abbrev mi_L2 : Type := List (Nat × Nat × Nat × FieldType × Nat)
abbrev mi_L3 : Type := List (Nat × Nat × List Value × Nat)
abbrev mi_L4 : Type := List (Nat × Int32 × Nat)
abbrev mi_L5 : Type := List (Nat × Int64 × Nat)
abbrev mi_L6 : Type := List (Nat × String × Nat)
abbrev mi_L7 : Type := List (Nat × (String × String × String × Value) × Nat)
abbrev mi_Ls : Type := mi_L1 × mi_L2 × mi_L3 × mi_L4 × mi_L5 × mi_L6 × mi_L7
def mi_fd {α : Type} (l : List (Nat × α)) (x : Nat) : Option α := (l.find? (fun q => q.1 == x)).map (fun q => q.2)
theorem mi_fd_mem {α : Type} {l : List (Nat × α)} {x : Nat} {v : α} (h : mi_fd l x = some v) : (x, v) ∈ l := by
  unfold mi_fd at h
  cases hf : l.find? (fun q => q.1 == x) with
  | none => rw [hf] at h; cases h
  | some q =>
    rw [hf] at h
    have h1 := List.find?_some hf
    have h2 := List.mem_of_find?_eq_some hf
    obtain ⟨a, w⟩ := q
    simp only [beq_iff_eq] at h1
    simp only [Option.map_some, Option.some.injEq] at h
    subst h1; subst h
    exact h2
def mi_mk (L : mi_Ls) : mi_Lk := (fun x => (mi_fd L.1 x).map (fun q => (q.1, q.2.1)), fun x => (mi_fd L.2.1 x).map (fun q => (q.1, q.2.1, q.2.2.1)), fun x => (mi_fd L.2.2.1 x).map (fun q => (q.1, q.2.1)), fun x => (mi_fd L.2.2.2.1 x).map (fun q => q.1), fun x => (mi_fd L.2.2.2.2.1 x).map (fun q => q.1), fun x => mi_fd L.2.2.2.2.2.1 x, fun x => (mi_fd L.2.2.2.2.2.2 x).map (fun q => q.1))
/-- a call with the places of its words -/
abbrev mi_LC : Type := List (Nat × (Nat × Nat × Nat × Nat) × List Nat × String)
def mi_mc (L : mi_LC) : Nat → Option mi_Call := fun x => (mi_fd L x).map (fun q => q.1)
section CK
variable (tb : List Cond) (cl : List vw_C) (ev : mi_Ev)
def ck_w (i : Nat) (w : Cond) : Bool := decide (tb[i]? = some w) && goodWord w
theorem ck_w_mem {tb : List Cond} {i : Nat} {w : Cond} (h : ck_w tb i w = true) : w ∈ tb.filter goodWord := by
  unfold ck_w at h
  rw [Bool.and_eq_true] at h
  exact List.mem_filter.mpr ⟨List.mem_of_getElem? (of_decide_eq_true h.1), h.2⟩
def ck_1 (own : String) (e : Nat × Nat × Nat × Nat) : Bool :=
  if e.2.1 = mi_cS then (if e.2.2.1 = 0 then ck_w tb e.2.2.2 (.fieldLink own e.1 "java/lang/String" "value" "[B") else decide (e.2.2.1 = 1) && ck_w tb e.2.2.2 (.fieldLink own e.1 "java/lang/String" "coder" "B")) else
  match cl[e.2.1]? with
  | some (_, T, N) => decide (e.2.2.1 < N) && ck_w tb e.2.2.2 (.fieldLink own e.1 (T e.2.2.1).1 (T e.2.2.1).2.1 (T e.2.2.1).2.2.1)
  | none => false
def ck_2 (own : String) (init : Bool) (e : Nat × Nat × Nat × FieldType × Nat) : Bool :=
  match cl[e.2.1]? with
  | some (_, T, N) => decide (e.2.2.1 < N) && ck_w tb e.2.2.2.2 (.fieldLink own e.1 (T e.2.2.1).1 (T e.2.2.1).2.1 (T e.2.2.1).2.2.1) && decide (parseFieldDescriptor (T e.2.2.1).2.2.1 = some e.2.2.2.1) && (!(T e.2.2.1).2.2.2 || (init && decide ((T e.2.2.1).1 = own)))
  | none => false
def ck_3 (own : String) (e : Nat × Nat × List Value × Nat) : Bool :=
  match cl[e.2.1]? with
  | some (C, T, N) => decide (e.2.2.1.length = N) && ck_w tb e.2.2.2 (.classLink own e.1 C) && (List.range N).all (fun k => match parseFieldDescriptor (T k).2.2.1 with
    | some ty => decide (e.2.2.1[k]? = some (defaultValue ty))
    | none => false)
  | none => false
def ck_L (own : String) (init : Bool) (L : mi_Ls) : Bool :=
  L.1.all (ck_1 tb cl own) && L.2.1.all (ck_2 tb cl own init) && L.2.2.1.all (ck_3 tb cl own) && L.2.2.2.1.all (fun e => ck_w tb e.2.2 (.constant own e.1 e.2.1)) && L.2.2.2.2.1.all (fun e => ck_w tb e.2.2 (.constantLong own e.1 e.2.1)) && L.2.2.2.2.2.1.all (fun e => decide ((own, e.1, e.2.1, e.2.2) ∈ ev.2.2.2.1)) && L.2.2.2.2.2.2.all (fun e => decide (e.2.1 ∈ ev.2.2.1) && (if e.2.2 = 999999 then decide (Cond.fieldLinkNest own e.1 e.2.1.1 e.2.1.2.1 e.2.1.2.2.1 "SafeCode" ∈ ev.2.2.2.2) else ck_w tb e.2.2 (.fieldLink own e.1 e.2.1.1 e.2.1.2.1 e.2.1.2.2.1)))
theorem ck_L_ok {tb : List Cond} {cl : List vw_C} {ev : mi_Ev} {own : String} {init : Bool} {L : mi_Ls} (h : ck_L tb cl ev own init L = true) : mi_Lok (tb.filter goodWord) cl ev own init (mi_mk L) := by
  unfold ck_L at h
  simp only [Bool.and_eq_true] at h
  obtain ⟨⟨⟨⟨⟨⟨h1, h2⟩, h3⟩, h4⟩, h5⟩, h6⟩, h7⟩ := h
  refine ⟨?_, ?_, ?_, ?_, ?_, ?_, ?_⟩
  · intro x ci k hx
    simp only [mi_mk, Option.map_eq_some_iff] at hx
    obtain ⟨q, hq, hqe⟩ := hx
    have hc := List.all_eq_true.mp h1 _ (mi_fd_mem hq)
    obtain ⟨a, b, i⟩ := q
    simp only [Prod.mk.injEq] at hqe
    obtain ⟨rfl, rfl⟩ := hqe
    unfold ck_1 at hc
    dsimp only at hc
    split at hc
    · rename_i e1
      split at hc
      · rename_i e2
        exact Or.inr (Or.inl ⟨e1, e2, ck_w_mem hc⟩)
      · rw [Bool.and_eq_true] at hc
        exact Or.inr (Or.inr ⟨e1, of_decide_eq_true hc.1, ck_w_mem hc.2⟩)
    · split at hc
      · rename_i C T N e2
        rw [Bool.and_eq_true] at hc
        exact Or.inl ⟨C, T, N, e2, of_decide_eq_true hc.1, ck_w_mem hc.2⟩
      · cases hc
  · intro x ci k ty hx
    simp only [mi_mk, Option.map_eq_some_iff] at hx
    obtain ⟨q, hq, hqe⟩ := hx
    have hc := List.all_eq_true.mp h2 _ (mi_fd_mem hq)
    obtain ⟨a, b, t, i⟩ := q
    simp only [Prod.mk.injEq] at hqe
    obtain ⟨rfl, rfl, rfl⟩ := hqe
    unfold ck_2 at hc
    dsimp only at hc
    split at hc
    · rename_i C T N e2
      simp only [Bool.and_eq_true] at hc
      obtain ⟨⟨⟨c1, c2⟩, c3⟩, c4⟩ := hc
      refine ⟨C, T, N, e2, of_decide_eq_true c1, ck_w_mem c2, of_decide_eq_true c3, fun hf => ?_⟩
      rw [hf] at c4
      simp only [Bool.not_true, Bool.false_or, Bool.and_eq_true] at c4
      exact ⟨c4.1, of_decide_eq_true c4.2⟩
    · cases hc
  · intro x ci fs hx
    simp only [mi_mk, Option.map_eq_some_iff] at hx
    obtain ⟨q, hq, hqe⟩ := hx
    have hc := List.all_eq_true.mp h3 _ (mi_fd_mem hq)
    obtain ⟨a, b, i⟩ := q
    simp only [Prod.mk.injEq] at hqe
    obtain ⟨rfl, rfl⟩ := hqe
    unfold ck_3 at hc
    dsimp only at hc
    split at hc
    · rename_i C T N e2
      simp only [Bool.and_eq_true] at hc
      obtain ⟨⟨c1, c2⟩, c3⟩ := hc
      have c4 : ∀ k, k < N → ∃ ty, parseFieldDescriptor (T k).2.2.1 = some ty ∧ b[k]? = some (defaultValue ty) := by
        intro k hk
        have c5 := List.all_eq_true.mp c3 k (List.mem_range.mpr hk)
        split at c5
        · rename_i ty hty
          exact ⟨ty, hty, of_decide_eq_true c5⟩
        · cases c5
      refine ⟨C, T, N, e2, of_decide_eq_true c1, ck_w_mem c2, fun k => (parseFieldDescriptor (T k).2.2.1).getD .int, fun k hk => ?_, fun k hk => ?_⟩
      · obtain ⟨ty, e1, -⟩ := c4 k hk
        dsimp only; rw [e1]; rfl
      · obtain ⟨ty, e1, e3⟩ := c4 k hk
        dsimp only; rw [e1]; exact e3
    · cases hc
  · intro x v hx
    simp only [mi_mk, Option.map_eq_some_iff] at hx
    obtain ⟨q, hq, rfl⟩ := hx
    exact ck_w_mem (List.all_eq_true.mp h4 _ (mi_fd_mem hq))
  · intro x v hx
    simp only [mi_mk, Option.map_eq_some_iff] at hx
    obtain ⟨q, hq, rfl⟩ := hx
    exact ck_w_mem (List.all_eq_true.mp h5 _ (mi_fd_mem hq))
  · intro x tx k hx
    exact of_decide_eq_true (List.all_eq_true.mp h6 _ (mi_fd_mem hx))
  · intro x C n d v hx
    simp only [mi_mk, Option.map_eq_some_iff] at hx
    obtain ⟨q, hq, hqe⟩ := hx
    obtain ⟨q1, i⟩ := q
    dsimp only at hqe
    subst hqe
    have hc := List.all_eq_true.mp h7 _ (mi_fd_mem hq)
    rw [Bool.and_eq_true] at hc
    refine ⟨of_decide_eq_true hc.1, ?_⟩
    have hc2 := hc.2
    split at hc2
    · exact Or.inr ⟨"SafeCode", of_decide_eq_true hc2⟩
    · exact Or.inl (ck_w_mem hc2)
/-- the classes -/
def ck_C (ix : List (List Nat × Nat × Nat)) (ia : List Nat) : Bool :=
  decide (cl.length ≤ mi_cS) && decide (ix.length = cl.length) && (cl.zip ix).all (fun q => (List.range q.1.2.2).all (fun k => ck_w tb (q.2.1.getD k 0) (u_lay q.1.1 q.1.2.1 k) && (parseFieldDescriptor (q.1.2.1 k).2.2.1).isSome && (List.range k).all (fun k2 => decide ((q.1.2.1 k).2.1 ≠ (q.1.2.1 k2).2.1))) && ck_w tb q.2.2.1 (.instantiable q.1.1 q.1.2.2) && ck_w tb q.2.2.2 (.initialized q.1.1)) &&
  ck_w tb (ia.getD 0 0) (.arrayClass .byte) && ck_w tb (ia.getD 1 0) (.arrayClass .int) && ck_w tb (ia.getD 2 0) (.arrayClass .long) && ck_w tb (ia.getD 3 0) (.arrayClass .boolean)
end CK
theorem ck_C_ok {tb : List Cond} {cl : List vw_C} {ix : List (List Nat × Nat × Nat)} {ia : List Nat} (h : ck_C tb cl ix ia = true) : mi_Cok (tb.filter goodWord) cl := by
  unfold ck_C at h
  simp only [Bool.and_eq_true] at h
  obtain ⟨⟨⟨⟨⟨⟨h1, h2⟩, h3⟩, a1⟩, a2⟩, a3⟩, a4⟩ := h
  refine ⟨of_decide_eq_true h1, ?_, ck_w_mem a1, ck_w_mem a2, ck_w_mem a3, ck_w_mem a4⟩
  intro ci C T N hc
  have hlt := (List.getElem?_eq_some_iff.mp hc).1
  have hl := of_decide_eq_true h2
  obtain ⟨y, hy⟩ : ∃ y, ix[ci]? = some y := ⟨_, List.getElem?_eq_getElem (by omega)⟩
  have hz : (cl.zip ix)[ci]? = some ((C, T, N), y) := by
    rw [List.getElem?_zip_eq_some]; exact ⟨hc, hy⟩
  have hq := List.all_eq_true.mp h3 _ (List.mem_of_getElem? hz)
  simp only [Bool.and_eq_true] at hq
  obtain ⟨⟨q1, q2⟩, q3⟩ := hq
  have key : ∀ k, k < N → u_lay C T k ∈ tb.filter goodWord ∧ (∃ ty, parseFieldDescriptor (T k).2.2.1 = some ty) ∧ ∀ k2, k2 < k → (T k).2.1 ≠ (T k2).2.1 := by
    intro k hk
    have := List.all_eq_true.mp q1 k (List.mem_range.mpr hk)
    simp only [Bool.and_eq_true] at this
    obtain ⟨⟨r1, r2⟩, r3⟩ := this
    exact ⟨ck_w_mem r1, Option.isSome_iff_exists.mp r2, fun k2 h2 => of_decide_eq_true (List.all_eq_true.mp r3 k2 (List.mem_range.mpr h2))⟩
  refine ⟨fun w hw => ?_, ⟨fun k => (parseFieldDescriptor (T k).2.2.1).getD .int, fun k hk => ?_⟩, fun a ha b hb hne => ?_, ck_w_mem q2, ck_w_mem q3⟩
  · unfold u_ws at hw
    obtain ⟨k, hk, rfl⟩ := List.mem_map.mp hw
    exact (key k (List.mem_range.mp hk)).1
  · obtain ⟨ty, e1⟩ := (key k hk).2.1
    dsimp only; rw [e1]; rfl
  · rcases Nat.lt_or_ge a b with q | q
    · exact fun e => (key b hb).2.2 a q e.symm
    · exact (key a ha).2.2 b (by omega)
/-- what is asked of a method that is called: its kind (0 of an object, 1 a constructor, 3 static, 5 of a text), its parameters, its class -/
def mi_Qf (Ts : List Cond) (cl : List vw_C) (M : mi_Me) (kd n ci : Nat) : Prop := (M.1.cls ≠ "java/lang/invoke/MethodHandle" ∧ M.1.cls ≠ "java/lang/invoke/VarHandle" ∧ (parseMethodDescriptor M.1.desc).map (fun d => d.parameters.length) = some n) ∧ Cond.initialized M.1.cls ∈ Ts ∧
  (kd = 0 → Cond.instanceMethod M.1 ∈ Ts ∧ ∃ C T N, cl[ci]? = some (C, T, N) ∧ Cond.selects C M.1 M.1 ∈ Ts) ∧ (kd = 1 → Cond.instanceMethod M.1 ∈ Ts ∧ M.1.name = "<init>" ∧ M.2.2.2.1 = none) ∧ (kd = 3 → Cond.static M.1 ∈ Ts) ∧ (kd = 5 → Cond.instanceMethod M.1 ∈ Ts ∧ Cond.selects "java/lang/String" M.1 M.1 ∈ Ts)
def ck_q (tb : List Cond) (cl : List vw_C) (M : mi_Me) (kd n ci : Nat) (ix : List Nat) : Bool :=
  decide (M.1.cls ≠ "java/lang/invoke/MethodHandle") && decide (M.1.cls ≠ "java/lang/invoke/VarHandle") && decide ((parseMethodDescriptor M.1.desc).map (fun d => d.parameters.length) = some n) && ck_w tb (ix.getD 0 0) (.initialized M.1.cls) &&
  (if kd = 0 then ck_w tb (ix.getD 1 0) (.instanceMethod M.1) && (match cl[ci]? with | some (C, _, _) => ck_w tb (ix.getD 2 0) (.selects C M.1 M.1) | none => false)
  else if kd = 1 then ck_w tb (ix.getD 1 0) (.instanceMethod M.1) && decide (M.1.name = "<init>") && decide (M.2.2.2.1 = none)
  else if kd = 3 then ck_w tb (ix.getD 1 0) (.static M.1)
  else decide (kd = 5) && ck_w tb (ix.getD 1 0) (.instanceMethod M.1) && ck_w tb (ix.getD 2 0) (.selects "java/lang/String" M.1 M.1))
theorem ck_q_ok {tb : List Cond} {cl : List vw_C} {M : mi_Me} {kd n ci : Nat} {ix : List Nat} (h : ck_q tb cl M kd n ci ix = true) : mi_Qf (tb.filter goodWord) cl M kd n ci := by
  unfold ck_q at h
  simp only [Bool.and_eq_true, decide_eq_true_eq] at h
  obtain ⟨⟨⟨⟨a1, a2⟩, a3⟩, a4⟩, a5⟩ := h
  refine ⟨⟨a1, a2, a3⟩, ck_w_mem a4, fun e => ?_, fun e => ?_, fun e => ?_, fun e => ?_⟩
  · subst e
    rw [if_pos rfl] at a5
    simp only [Bool.and_eq_true] at a5
    obtain ⟨b1, b2⟩ := a5
    split at b2
    · rename_i C T N hcl
      exact ⟨ck_w_mem b1, C, T, N, hcl, ck_w_mem b2⟩
    · cases b2
  · subst e
    rw [if_neg (by decide), if_pos rfl] at a5
    simp only [Bool.and_eq_true, decide_eq_true_eq] at a5
    exact ⟨ck_w_mem a5.1.1, a5.1.2, a5.2⟩
  · subst e
    rw [if_neg (by decide), if_neg (by decide), if_pos rfl] at a5
    exact ck_w_mem a5
  · subst e
    rw [if_neg (by decide), if_neg (by decide), if_neg (by decide)] at a5
    simp only [Bool.and_eq_true] at a5
    exact ⟨ck_w_mem a5.1.2, ck_w_mem a5.2⟩
/-- a call's check: its link at its place, the room -/
def ck_c (tb : List Cond) (ev : mi_Ev) (Gs : List mi_Me) (mq : List (Nat × Nat × Nat)) (fr lo : Nat → Nat) (j : Nat) (own : String) (e : Nat × (Nat × Nat × Nat × Nat) × List Nat × String) : Bool :=
  (if e.2.1.1 = 4 then ck_w tb (e.2.2.1.getD 0 0) (.methodLink own e.1 Lib.objectInit) && ck_w tb (e.2.2.1.getD 1 0) (.instanceMethod Lib.objectInit) && ck_w tb (e.2.2.1.getD 2 0) (.code Lib.objectInit ⟨#[0xb1]⟩ 1 none) && decide (1 ≤ fr j) && decide (20 ≤ lo j)
  else if e.2.1.1 = 6 then ck_w tb (e.2.2.1.getD 0 0) (.methodLink own e.1 ⟨"[I", "clone", "()Ljava/lang/Object;"⟩) && ck_w tb (e.2.2.1.getD 1 0) (.sameMethod "[I" "java/lang/Object" "clone" "()Ljava/lang/Object;") && ck_w tb (e.2.2.1.getD 2 0) (.native ⟨"java/lang/Object", "clone", "()Ljava/lang/Object;"⟩) && ck_w tb (e.2.2.1.getD 3 0) (.instanceMethod ⟨"java/lang/Object", "clone", "()Ljava/lang/Object;"⟩) && ck_w tb (e.2.2.1.getD 4 0) (.selects "[I" ⟨"[I", "clone", "()Ljava/lang/Object;"⟩ ⟨"java/lang/Object", "clone", "()Ljava/lang/Object;"⟩) && decide (Cond.castable "[I" "java/lang/Cloneable" ∈ ev.2.2.2.2) && decide (1 ≤ fr j) && decide (22 ≤ lo j) && (Gs[e.2.1.2.1]?).isNone
  else if e.2.1.1 = 7 then ck_w tb (e.2.2.1.getD 0 0) (.classLink own e.1 "[I") && (Gs[e.2.1.2.1]?).isNone
  else if e.2.1.1 = 8 then ck_w tb (e.2.2.1.getD 0 0) (.methodLink own e.1 arraycopyName) && ck_w tb (e.2.2.1.getD 1 0) (.native arraycopyName) && ck_w tb (e.2.2.1.getD 2 0) (.static arraycopyName) && ck_w tb (e.2.2.1.getD 3 0) (.initialized "java/lang/System") && decide (1 ≤ fr j) && decide (8 + (nativeFrameWords "java/lang/System" "arraycopy" 5 + 11) ≤ lo j) && (Gs[e.2.1.2.1]?).isNone
  else match Gs[e.2.1.2.1]?, mq[e.2.1.2.1]? with
    | some M', some (kd, n, ci) => decide (e.2.1.1 = kd ∧ e.2.1.1 ≠ 2 ∨ e.2.1.1 = 2 ∧ kd = 1) && decide (e.2.1.2.2.1 = n) && decide (e.2.1.1 = 0 → e.2.1.2.2.2 = ci) && decide (fr e.2.1.2.1 + 1 ≤ fr j) && decide (8 + (M'.2.2.1 + 11) + lo e.2.1.2.1 ≤ lo j) &&
      (if e.2.1.1 = 2 then decide (Cond.methodLinkNest own e.1 M'.1 e.2.2.2 ∈ ev.2.2.2.2) else ck_w tb (e.2.2.1.getD 0 0) (.methodLink own e.1 M'.1))
    | _, _ => false)
set_option maxHeartbeats 4000000 in
theorem ck_c_ok {tb : List Cond} {cl : List vw_C} {ev : mi_Ev} {Gs : List mi_Me} {mq : List (Nat × Nat × Nat)} {fr lo : Nat → Nat} {j : Nat} {M : mi_Me} {L : mi_LC} (hM : M.2.2.2.2.2.2 = mi_mc L) (h : L.all (ck_c tb ev Gs mq fr lo j M.1.cls) = true)
    (hq : ∀ (j' : Nat) (M' : mi_Me) (kd n ci : Nat), Gs[j']? = some M' → mq[j']? = some (kd, n, ci) → kd ≠ 9 → mi_Qf (tb.filter goodWord) cl M' kd n ci ∧ Cond.code M'.1 M'.2.1 M'.2.2.1 M'.2.2.2.1 ∈ tb.filter goodWord) (hk9 : L.all (fun e => decide (e.2.1.1 ≠ 9)) = true) : mi_Kok (fun j => Gs[j]?) (tb.filter goodWord) cl ev fr lo j M := by
  intro x kd j' n ci hx
  rw [hM] at hx
  simp only [mi_mc, Option.map_eq_some_iff] at hx
  obtain ⟨q, hq2, hqe⟩ := hx
  have hc := List.all_eq_true.mp h _ (mi_fd_mem hq2)
  have h9 := of_decide_eq_true (List.all_eq_true.mp hk9 _ (mi_fd_mem hq2))
  obtain ⟨c1, ws, hs⟩ := q
  dsimp only at hqe h9
  subst hqe
  unfold ck_c at hc
  dsimp only at hc h9
  split at hc
  · rename_i e4
    subst e4
    simp only [Bool.and_eq_true, decide_eq_true_eq] at hc
    obtain ⟨⟨⟨⟨a1, a2⟩, a3⟩, a4⟩, a5⟩ := hc
    exact ⟨fun _ => ⟨ck_w_mem a1, ck_w_mem a2, ck_w_mem a3, a4, a5⟩, fun e => absurd e (by decide), fun e => absurd e (by decide), fun e => absurd e (by decide), fun M' _ e => absurd rfl e⟩
  · rename_i n4
    split at hc
    · rename_i e6
      subst e6
      simp only [Bool.and_eq_true, decide_eq_true_eq] at hc
      obtain ⟨⟨⟨⟨⟨⟨⟨⟨a1, a2⟩, a3⟩, a4⟩, a5⟩, a6⟩, a7⟩, a8⟩, a9⟩ := hc
      exact ⟨fun e => absurd e (by decide), fun _ => ⟨ck_w_mem a1, ck_w_mem a2, ck_w_mem a3, ck_w_mem a4, ck_w_mem a5, a6, a7, a8⟩, fun e => absurd e (by decide), fun e => absurd e (by decide), fun M' hM' _ => by dsimp only at hM'; rw [hM'] at a9; cases a9⟩
    · split at hc
      · rename_i e7
        subst e7
        simp only [Bool.and_eq_true] at hc
        exact ⟨fun e => absurd e (by decide), fun e => absurd e (by decide), fun _ => ck_w_mem hc.1, fun e => absurd e (by decide), fun M' hM' _ => by have a9 := hc.2; dsimp only at hM'; rw [hM'] at a9; cases a9⟩
      · split at hc
        · rename_i e8
          subst e8
          simp only [Bool.and_eq_true, decide_eq_true_eq] at hc
          obtain ⟨⟨⟨⟨⟨⟨a1, a2⟩, a3⟩, a4⟩, a5⟩, a6⟩, a9⟩ := hc
          exact ⟨fun e => absurd e (by decide), fun e => absurd e (by decide), fun e => absurd e (by decide), fun _ => ⟨ck_w_mem a1, ck_w_mem a2, ck_w_mem a3, ck_w_mem a4, a5, a6⟩, fun M' hM' _ => by dsimp only at hM'; rw [hM'] at a9; cases a9⟩
        · rename_i n6 n7 n8
          split at hc
          · rename_i M2 k2 n2 c2 hM2 hmq
            simp only [Bool.and_eq_true, decide_eq_true_eq] at hc
            obtain ⟨⟨⟨⟨⟨a1, a2⟩, a3⟩, a4⟩, a5⟩, a6⟩ := hc
            refine ⟨fun e => absurd e n4, fun e => absurd e n6, fun e => absurd e n7, fun e => absurd e n8, fun M' hM' _ => ?_⟩
            dsimp only at hM'
            rw [hM2] at hM'
            cases hM'
            obtain ⟨⟨b1, b2, b3, b4, b5, b6⟩, b7⟩ := hq _ _ _ _ _ hM2 hmq (by rintro rfl; rcases a1 with a1 | ⟨-, a1⟩; exact h9 a1.1; cases a1)
            subst a2
            refine ⟨b1, b7, b2, ⟨a4, a5⟩, fun e => ?_, fun e => ?_, fun e => ?_, fun e => ?_, fun e => ?_⟩
            · subst e
              obtain ⟨d1, C, T, N, d2, d3⟩ := b3 (by omega)
              rw [if_neg (by decide)] at a6
              rw [← a3 rfl] at d2
              exact ⟨ck_w_mem a6, d1, C, T, N, d2, d3⟩
            · subst e
              obtain ⟨d1, d2, d3⟩ := b4 (by omega)
              rw [if_neg (by decide)] at a6
              exact ⟨ck_w_mem a6, d1, d2, d3⟩
            · subst e
              obtain ⟨d1, d2, d3⟩ := b4 (by omega)
              rw [if_pos rfl] at a6
              exact ⟨⟨hs, of_decide_eq_true a6⟩, d1, d2, d3⟩
            · subst e
              have d1 := b5 (by omega)
              rw [if_neg (by decide)] at a6
              exact ⟨ck_w_mem a6, d1⟩
            · subst e
              obtain ⟨d1, d2⟩ := b6 (by omega)
              rw [if_neg (by decide)] at a6
              exact ⟨ck_w_mem a6, d1, d2⟩
          · cases hc
/-- instructions as decode has them -/
def ck_t (code : ByteArray) (tab : List (Nat × Instr × Nat)) : Bool := tab.all (fun q => decide (decode code q.1 = .ok (q.2.1, q.2.2)) && mi_lenok q.2.1 q.2.2)
theorem ck_t_app {code : ByteArray} {a b : List (Nat × Instr × Nat)} (ha : ck_t code a = true) (hb : ck_t code b = true) : ck_t code (a ++ b) = true := by
  unfold ck_t at *
  rw [List.all_append, ha, hb]; rfl
theorem ck_m_ok {tb : List Cond} {cl : List vw_C} {ev : mi_Ev} {Gs : List mi_Me} {mq : List (Nat × Nat × Nat)} {fr lo : Nat → Nat} {j : Nat} {M : mi_Me} {L : mi_LC} {Ls : mi_Ls} (hp : plainName M.1.cls = true) (h : L.all (ck_c tb ev Gs mq fr lo j M.1.cls) = true) (hk9 : L.all (fun e => decide (e.2.1.1 ≠ 9)) = true) (ht : ck_t M.2.1 M.2.2.2.2.1 = true) (hM : M.2.2.2.2.2.2 = mi_mc L) (hK : M.2.2.2.2.2.1 = mi_mk Ls) (hL : ck_L tb cl ev M.1.cls (M.1.name == "<init>") Ls = true)
    (hq : ∀ (j' : Nat) (M' : mi_Me) (kd n ci : Nat), Gs[j']? = some M' → mq[j']? = some (kd, n, ci) → kd ≠ 9 → mi_Qf (tb.filter goodWord) cl M' kd n ci ∧ Cond.code M'.1 M'.2.1 M'.2.2.1 M'.2.2.2.1 ∈ tb.filter goodWord) :
    plainName M.1.cls = true ∧ (∀ q ∈ M.2.2.2.2.1, decode M.2.1 q.1 = .ok (q.2.1, q.2.2) ∧ mi_lenok q.2.1 q.2.2 = true) ∧ mi_Lok (tb.filter goodWord) cl ev M.1.cls (M.1.name == "<init>") M.2.2.2.2.2.1 ∧ mi_Kok (fun j => Gs[j]?) (tb.filter goodWord) cl ev fr lo j M := by
  refine ⟨hp, fun q hq => ?_, by rw [hK]; exact ck_L_ok hL, ck_c_ok hM h hq hk9⟩
  have := List.all_eq_true.mp ht q hq
  rw [Bool.and_eq_true] at this
  exact ⟨of_decide_eq_true this.1, this.2⟩
theorem mi_goodT (tb : List Cond) : ∀ w ∈ tb.filter goodWord, (w.onTables && w.keeps) = true ∨ ∃ ty, w = .arrayClass ty := fun _ hw => good_of_word (List.mem_filter.mp hw).2
