/-! The small machine: its heap, and the instructions that touch it. -/
/-- a cell: an object (its class's number, its fields), or an array (its type's number, its length, its first elements; all else is 0) -/
abbrev mi_C : Type := (Nat × List Value) ⊕ (Nat × Nat × (List Int32 ⊕ List Int64))
def mi_E (ox : Nat → Option Nat) (b : Nat) (cy : Nat → ClassId) : mi_C → va_E
  | .inl (ci, fs) => .inr (ci, fs.map (mi_rv ox b))
  | .inr (t, n, .inl xs) => .inl (cy t, n, .inl (fun j => xs.getD j 0))
  | .inr (t, n, .inr xs) => .inl (cy t, n, .inr (.inl (fun j => xs.getD j 0)))
def mi_pl (ox : Nat → Option Nat) (b : Nat) (cy : Nat → ClassId) (h : List mi_C) : va_W := h.mapIdx (fun j c => (b + j, mi_E ox b cy c))
theorem mi_pl_get {ox : Nat → Option Nat} {b : Nat} {cy : Nat → ClassId} {h : List mi_C} {a : Nat} {c : mi_C} (hc : h[a]? = some c) : (mi_pl ox b cy h)[a]? = some (b + a, mi_E ox b cy c) := by
  rw [mi_pl, List.getElem?_mapIdx, hc]; rfl
theorem mi_pl_set (ox : Nat → Option Nat) (b : Nat) (cy : Nat → ClassId) (h : List mi_C) (a : Nat) (c : mi_C) : (mi_pl ox b cy h).set a (b + a, mi_E ox b cy c) = mi_pl ox b cy (h.set a c) := by
  rw [mi_pl, mi_pl, List.mapIdx_set]
theorem mi_pl_push (ox : Nat → Option Nat) (b : Nat) (cy : Nat → ClassId) (h : List mi_C) (c : mi_C) : mi_pl ox b cy h ++ [(b + h.length, mi_E ox b cy c)] = mi_pl ox b cy (h ++ [c]) := by
  rw [mi_pl, mi_pl, List.mapIdx_concat]
def mi_sl {α : Type} (z : α) : List α → Nat → α → List α
  | [], 0, v => [v]
  | [], n + 1, v => z :: mi_sl z [] n v
  | _ :: xs, 0, v => v :: xs
  | x :: xs, n + 1, v => x :: mi_sl z xs n v
theorem mi_sl_get {α : Type} (z : α) : ∀ (xs : List α) (i : Nat) (v : α) (j : Nat), (mi_sl z xs i v).getD j z = if j = i then v else xs.getD j z
  | [], 0, v, 0 => by simp [mi_sl]
  | [], 0, v, j + 1 => by simp [mi_sl]
  | [], i + 1, v, 0 => by simp [mi_sl]
  | [], i + 1, v, j + 1 => by
    have h := mi_sl_get z [] i v j
    simpa [mi_sl] using h
  | x :: xs, 0, v, 0 => by simp [mi_sl]
  | x :: xs, 0, v, j + 1 => by simp [mi_sl]
  | x :: xs, i + 1, v, 0 => by simp [mi_sl]
  | x :: xs, i + 1, v, j + 1 => by
    have h := mi_sl_get z xs i v j
    simpa [mi_sl] using h
theorem mi_E_seti (ox : Nat → Option Nat) (b : Nat) (cy : Nat → ClassId) (t n : Nat) (xs : List Int32) (i : Nat) (v : Int32) : (.inl (cy t, n, .inl (upd (fun j => xs.getD j 0) i v)) : va_E) = mi_E ox b cy (.inr (t, n, .inl (mi_sl 0 xs i v))) := by
  show (_ : va_E) = .inl (cy t, n, .inl (fun j => (mi_sl 0 xs i v).getD j 0))
  congr 4
  funext j
  rw [mi_sl_get]; rfl
theorem mi_E_setl (ox : Nat → Option Nat) (b : Nat) (cy : Nat → ClassId) (t n : Nat) (xs : List Int64) (i : Nat) (v : Int64) : (.inl (cy t, n, .inr (.inl (vp_updL (fun j => xs.getD j 0) i v))) : va_E) = mi_E ox b cy (.inr (t, n, .inr (mi_sl 0 xs i v))) := by
  show (_ : va_E) = .inl (cy t, n, .inr (.inl (fun j => (mi_sl 0 xs i v).getD j 0)))
  congr 5
  funext j
  rw [mi_sl_get]; rfl
theorem mi_E_setf (ox : Nat → Option Nat) (b : Nat) (cy : Nat → ClassId) (ci : Nat) (fs : List Value) (k : Nat) (v : Value) : (.inr (ci, (fs.map (mi_rv ox b)).set k (mi_rv ox b v)) : va_E) = mi_E ox b cy (.inl (ci, fs.set k v)) := by
  show (_ : va_E) = .inr (ci, (fs.set k v).map (mi_rv ox b))
  rw [List.map_set]
def mi_tys (cy : Nat → ClassId) : List (ClassId × FieldType) := [(cy 0, .byte), (cy 1, .int), (cy 2, .long), (cy 3, .boolean)]
/-- how machine and small machine stand to each other: the world, what may be written, where cells come -/
def mi_Sim (D : va_G) (cl : List vw_C) (cy : Nat → ClassId) (ox : Nat → Option Nat) (b : Nat) (A : Nat → Prop) (s : State) (h : List mi_C) (H : Heap) (locs : List Loc) (cells : Nat) : Prop :=
  va_K D cl (mi_tys cy) s ∧ va_P D cl (mi_pl ox b cy h) H ∧ va_D A (mi_pl ox b cy h) ∧ va_S A s.heap H locs ∧ s.heap.size + cells = b + h.length ∧ (∀ q, s.heap.size ≤ q → A q) ∧ ∀ q, A q → b ≤ q
theorem mi_fits (ox : Nat → Option Nat) (b : Nat) (ty : FieldType) (v : Value) (h : fits ty v = true) : fits ty (mi_rv ox b v) = true := by
  cases v with
  | retAddr k => cases ty <;> cases h
  | _ => cases ty <;> first | exact h | rfl
theorem mi_narrow (ox : Nat → Option Nat) (b : Nat) (ty : FieldType) (v : Value) (h : narrow ty v = v) : narrow ty (mi_rv ox b v) = mi_rv ox b v := by
  cases v with
  | retAddr k => show narrow ty (va_rf (ox k)) = va_rf (ox k); cases ox k <;> cases ty <;> rfl
  | _ => cases ty <;> first | exact h | rfl
def mi_in (i : Int32) (n : Nat) : Bool := decide (¬ (i < 0 ∨ n ≤ i.toNatClampNeg))
theorem mi_in_eq {i : Int32} {n : Nat} (h : mi_in i n = true) : vp_in i n := by
  have h1 : ¬ (i < 0 ∨ n ≤ i.toNatClampNeg) := of_decide_eq_true h
  exact h1
/-- what a method's file links: fields to read, fields to write, classes to make, int and long constants, text constants, statics to read -/
abbrev mi_Lk : Type := (Nat → Option (Nat × Nat)) × (Nat → Option (Nat × Nat × FieldType)) × (Nat → Option (Nat × List Value)) × (Nat → Option Int32) × (Nat → Option Int64) × (Nat → Option (String × Nat)) × (Nat → Option (String × String × String × Value))
/-- what is outside of the world: arrays (number, type, elements), texts (number, number of their bytes), statics, text constants, words that are no tables' -/
abbrev mi_Ev : Type := List (Nat × Nat × List Int32) × List (Nat × Nat) × List (String × String × String × Value) × List (String × Nat × String × Nat) × List Cond
def mi_oa (ev : mi_Ev) (k : Nat) : Option (Nat × List Int32) := (ev.1.find? (fun q => q.1 == k)).map (fun q => q.2)
def mi_os (ev : mi_Ev) (k : Nat) : Option Nat := (ev.2.1.find? (fun q => q.1 == k)).map (fun q => q.2)
theorem mi_oa_mem {ev : mi_Ev} {k t : Nat} {xs : List Int32} (h : mi_oa ev k = some (t, xs)) : (k, t, xs) ∈ ev.1 := by
  unfold mi_oa at h
  cases hf : ev.1.find? (fun q => q.1 == k) with
  | none => rw [hf] at h; cases h
  | some q =>
    rw [hf] at h
    have h1 := List.find?_some hf
    have h2 := List.mem_of_find?_eq_some hf
    obtain ⟨a, w⟩ := q
    simp only [beq_iff_eq] at h1
    simp only [Option.map_some, Option.some.injEq] at h
    subst h1; subst h
    exact h2
theorem mi_os_mem {ev : mi_Ev} {k v : Nat} (h : mi_os ev k = some v) : (k, v) ∈ ev.2.1 := by
  unfold mi_os at h
  cases hf : ev.2.1.find? (fun q => q.1 == k) with
  | none => rw [hf] at h; cases h
  | some q =>
    rw [hf] at h
    have h1 := List.find?_some hf
    have h2 := List.mem_of_find?_eq_some hf
    obtain ⟨a, w⟩ := q
    simp only [beq_iff_eq] at h1
    simp only [Option.map_some, Option.some.injEq] at h
    subst h1; subst h
    exact h2
def mi_ty (t : Nat) : FieldType := match t with
  | 0 => .byte
  | 1 => .int
  | 2 => .long
  | _ => .boolean
/-- the number of the class of texts; its fields: 0 value, 1 coder -/
def mi_cS : Nat := 1000
def mi_Env (ev : mi_Ev) (ox : Nat → Option Nat) (b : Nat) (A : Nat → Prop) (s : State) (H : Heap) : Prop :=
  (∀ q ∈ ev.1, ∃ a, ox q.1 = some a ∧ va_T (mi_ty q.2.1) a q.2.2.length (fun j => .int (q.2.2.getD j 0)) A s H) ∧
  (∀ q ∈ ev.2.1, ∃ a v, ox q.1 = some a ∧ ox q.2 = some v ∧ va_O "java/lang/String" a A s H ∧ va_OF "java/lang/String" "value" "[B" (.ref v) a A s H ∧ va_OF "java/lang/String" "coder" "B" (.int 0) a A s H) ∧
  (∀ q ∈ ev.2.2.1, va_Z q.1 q.2.1 q.2.2.1 (mi_rv ox b q.2.2.2) A s H) ∧
  (∀ q ∈ ev.2.2.2.1, ∃ a, ox q.2.2.2 = some a ∧ vk_R q.1 q.2.1 q.2.2.1 a s) ∧
  ∀ w ∈ ev.2.2.2.2, va_Nw w s
theorem mi_rs_out {ox : Nat → Option Nat} {b k a : Nat} (st : List Value) (h : ox k = some a) : mi_rs ox b (.retAddr k :: st) = .ref a :: mi_rs ox b st := by
  simp only [mi_rs, List.map_cons, mi_rv, h]; rfl
def mi_at (a : ArrayType) : Option (Nat × (List Int32 ⊕ List Int64)) := match a with
  | .byte => some (0, .inl [])
  | .int => some (1, .inl [])
  | .long => some (2, .inr [])
  | .boolean => some (3, .inl [])
  | _ => none
/-- one instruction that touches the heap (or the file's constants): frame, cells and slots behind it -/
def mi_heap (K : mi_Lk) (ev : mi_Ev) (i : Instr) (pc : Nat) (lv : mi_L) (st : List Value) (h : List mi_C) (sl : Nat) : Option (mi_Fr × List mi_C × Nat) := match i with
  | .getfield x => match K.1 x, st with
    | some (ci, k), .ref a :: st => match h[a]? with
      | some (.inl (cj, fs)) => match fs[k]? with
        | some v => if cj = ci then some ((pc + 3, lv, v :: st), h, sl) else none
        | none => none
      | _ => none
    | some (ci, k), .retAddr a :: st => match mi_os ev a with
      | some v => if ci = mi_cS ∧ k = 0 then some ((pc + 3, lv, .retAddr v :: st), h, sl) else if ci = mi_cS ∧ k = 1 then some ((pc + 3, lv, .int 0 :: st), h, sl) else none
      | none => none
    | _, _ => none
  | .putfield x => match K.2.1 x, st with
    | some (ci, k, ty), v :: .ref a :: st => match h[a]? with
      | some (.inl (cj, fs)) => if cj = ci ∧ k < fs.length ∧ fits ty v = true ∧ narrow ty v = v then some ((pc + 3, lv, st), h.set a (.inl (cj, fs.set k v)), sl) else none
      | _ => none
    | _, _ => none
  | .iaload => match st with
    | .int j :: .ref a :: st => match h[a]? with
      | some (.inr (1, n, .inl xs)) => if mi_in j n = true then some ((pc + 1, lv, .int (xs.getD j.toNatClampNeg 0) :: st), h, sl) else none
      | _ => none
    | .int j :: .retAddr a :: st => match mi_oa ev a with
      | some (1, xs) => if mi_in j xs.length = true then some ((pc + 1, lv, .int (xs.getD j.toNatClampNeg 0) :: st), h, sl) else none
      | _ => none
    | _ => none
  | .laload => match st with
    | .int j :: .ref a :: st => match h[a]? with
      | some (.inr (2, n, .inr xs)) => if mi_in j n = true then some ((pc + 1, lv, .long (xs.getD j.toNatClampNeg 0) :: st), h, sl) else none
      | _ => none
    | _ => none
  | .baload => match st with
    | .int j :: .ref a :: st => match h[a]? with
      | some (.inr (0, n, .inl xs)) => if mi_in j n = true then some ((pc + 1, lv, .int (xs.getD j.toNatClampNeg 0) :: st), h, sl) else none
      | some (.inr (3, n, .inl xs)) => if mi_in j n = true then some ((pc + 1, lv, .int (xs.getD j.toNatClampNeg 0) :: st), h, sl) else none
      | _ => none
    | .int j :: .retAddr a :: st => match mi_oa ev a with
      | some (0, xs) => if mi_in j xs.length = true then some ((pc + 1, lv, .int (xs.getD j.toNatClampNeg 0) :: st), h, sl) else none
      | _ => none
    | _ => none
  | .iastore => match st with
    | .int x :: .int j :: .ref a :: st => match h[a]? with
      | some (.inr (1, n, .inl xs)) => if mi_in j n = true then some ((pc + 1, lv, st), h.set a (.inr (1, n, .inl (mi_sl 0 xs j.toNatClampNeg x))), sl) else none
      | _ => none
    | _ => none
  | .lastore => match st with
    | .long x :: .int j :: .ref a :: st => match h[a]? with
      | some (.inr (2, n, .inr xs)) => if mi_in j n = true then some ((pc + 1, lv, st), h.set a (.inr (2, n, .inr (mi_sl 0 xs j.toNatClampNeg x))), sl) else none
      | _ => none
    | _ => none
  | .bastore => match st with
    | .int x :: .int j :: .ref a :: st => match h[a]? with
      | some (.inr (0, n, .inl xs)) => if mi_in j n = true then some ((pc + 1, lv, st), h.set a (.inr (0, n, .inl (mi_sl 0 xs j.toNatClampNeg (vp_nar .byte x)))), sl) else none
      | some (.inr (3, n, .inl xs)) => if mi_in j n = true then some ((pc + 1, lv, st), h.set a (.inr (3, n, .inl (mi_sl 0 xs j.toNatClampNeg (vp_nar .boolean x)))), sl) else none
      | _ => none
    | _ => none
  | .arraylength => match st with
    | .ref a :: st => match h[a]? with
      | some (.inr (t, n, _)) => if t < 4 then some ((pc + 1, lv, .int (Int32.ofNat n) :: st), h, sl) else none
      | _ => none
    | .retAddr a :: st => match mi_oa ev a with
      | some (_, xs) => some ((pc + 1, lv, .int (Int32.ofNat xs.length) :: st), h, sl)
      | none => none
    | _ => none
  | .new x => match K.2.2.1 x with
    | some (ci, fs) => some ((pc + 3, lv, .ref h.length :: st), h ++ [.inl (ci, fs)], sl + fs.length)
    | none => none
  | .newarray ty => match mi_at ty, st with
    | some (t, e), .int n :: st => if n < 0 ∨ 60000000 < n.toNatClampNeg then none else some ((pc + 2, lv, .ref h.length :: st), h ++ [.inr (t, n.toNatClampNeg, e)], sl + n.toNatClampNeg)
    | _, _ => none
  | .ldc x => match K.2.2.2.1 x with
    | some v => some ((pc + 2, lv, .int v :: st), h, sl)
    | none => match K.2.2.2.2.2.1 x with
      | some (_, k) => some ((pc + 2, lv, .retAddr k :: st), h, sl)
      | none => none
  | .ldc_w x => match K.2.2.2.1 x with
    | some v => some ((pc + 3, lv, .int v :: st), h, sl)
    | none => match K.2.2.2.2.2.1 x with
      | some (_, k) => some ((pc + 3, lv, .retAddr k :: st), h, sl)
      | none => none
  | .ldc2_w x => match K.2.2.2.2.1 x with
    | some v => some ((pc + 3, lv, .long v :: st), h, sl)
    | none => none
  | .getstatic x => match K.2.2.2.2.2.2 x with
    | some (_, _, _, v) => some ((pc + 3, lv, v :: st), h, sl)
    | none => none
  | _ => none
/-- the file's links as the tables have them -/
def mi_Lok (Ts : List Cond) (cl : List vw_C) (ev : mi_Ev) (own : String) (init : Bool) (K : mi_Lk) : Prop :=
  (∀ x ci k, K.1 x = some (ci, k) → (∃ C T N, cl[ci]? = some (C, T, N) ∧ k < N ∧ Cond.fieldLink own x (T k).1 (T k).2.1 (T k).2.2.1 ∈ Ts) ∨ (ci = mi_cS ∧ k = 0 ∧ Cond.fieldLink own x "java/lang/String" "value" "[B" ∈ Ts) ∨ (ci = mi_cS ∧ k = 1 ∧ Cond.fieldLink own x "java/lang/String" "coder" "B" ∈ Ts)) ∧
  (∀ x ci k ty, K.2.1 x = some (ci, k, ty) → ∃ C T N, cl[ci]? = some (C, T, N) ∧ k < N ∧ Cond.fieldLink own x (T k).1 (T k).2.1 (T k).2.2.1 ∈ Ts ∧ parseFieldDescriptor (T k).2.2.1 = some ty ∧ ((T k).2.2.2 = true → init = true ∧ (T k).1 = own)) ∧
  (∀ x ci fs, K.2.2.1 x = some (ci, fs) → ∃ C T N, cl[ci]? = some (C, T, N) ∧ fs.length = N ∧ Cond.classLink own x C ∈ Ts ∧ ∃ ty : Nat → FieldType, (∀ k, k < N → parseFieldDescriptor (T k).2.2.1 = some (ty k)) ∧ ∀ k, k < N → fs[k]? = some (defaultValue (ty k))) ∧
  (∀ x v, K.2.2.2.1 x = some v → Jvm.Cond.constant own x v ∈ Ts) ∧ (∀ x v, K.2.2.2.2.1 x = some v → Jvm.Cond.constantLong own x v ∈ Ts) ∧
  (∀ x tx k, K.2.2.2.2.2.1 x = some (tx, k) → (own, x, tx, k) ∈ ev.2.2.2.1) ∧
  ∀ x C n d v, K.2.2.2.2.2.2 x = some (C, n, d, v) → (C, n, d, v) ∈ ev.2.2.1 ∧ (Cond.fieldLink own x C n d ∈ Ts ∨ ∃ host, Cond.fieldLinkNest own x C n d host ∈ ev.2.2.2.2)
/-- the classes as the tables have them -/
def mi_Cok (Ts : List Cond) (cl : List vw_C) : Prop := cl.length ≤ mi_cS ∧ (∀ (ci : Nat) (C : String) (T : u_T) (N : Nat), cl[ci]? = some (C, T, N) → (∀ w ∈ u_ws C T N, w ∈ Ts) ∧ (∃ ty : Nat → FieldType, ∀ k, k < N → parseFieldDescriptor (T k).2.2.1 = some (ty k)) ∧ (∀ a, a < N → ∀ b, b < N → a ≠ b → (T a).2.1 ≠ (T b).2.1) ∧ Cond.instantiable C N ∈ Ts ∧ Cond.initialized C ∈ Ts) ∧
  Cond.arrayClass .byte ∈ Ts ∧ Cond.arrayClass .int ∈ Ts ∧ Cond.arrayClass .long ∈ Ts ∧ Cond.arrayClass .boolean ∈ Ts
section MIH
variable {p : Program} {l : Launch} {e : Env} {R : Room} {s : State} {m : MethodId} {args : Array Value} {below : List Frame} {meth : Method} {c : Code} {H : Heap} {locs : List Loc} {cells slots : Nat} {Q : State → Prop}
variable {cc : ByteArray} {pc : Nat} {ls : Array Slot} {D : va_G} {cl : List vw_C} {cy : Nat → ClassId} {A : Nat → Prop}
theorem mi_size {g : JFrame} (k : H.size ≤ s.heap.size + cells → W p l e R s m args below meth c H locs cells slots Q g) : W p l e R s m args below meth c H locs cells slots Q g :=
  fun T hT X => k (by have h := X.same.2.2.1; rw [← hT]; exact h) T hT X
/-- a cell that was made stands where the next one must -/
theorem mi_fresh {ox : Nat → Option Nat} {b q : Nat} {h : List mi_C} {w : va_E} {H1 : Heap} (hD : va_D A (mi_pl ox b cy h ++ [(q, w)])) (hP : va_P D cl (mi_pl ox b cy h ++ [(q, w)]) H1) (hsz : H1.size ≤ s.heap.size + (cells + 1)) (hc : s.heap.size + cells = b + h.length) (hb : ∀ q, A q → b ≤ q) : q = b + h.length := by
  have hlen : (mi_pl ox b cy h).length = h.length := by simp [mi_pl]
  have hq : (mi_pl ox b cy h ++ [(q, w)])[h.length]? = some (q, w) := by rw [List.getElem?_append_right (by omega), hlen]; simp
  have h1 : q < H1.size := (hP _ _ hq).lt
  have h2 : b ≤ q := hb _ (hD.2 _ _ hq)
  rcases Nat.lt_or_ge (q - b) h.length with hlt | hge
  · exfalso
    obtain ⟨c0, hc0⟩ : ∃ c0, h[q - b]? = some c0 := ⟨_, List.getElem?_eq_getElem hlt⟩
    have hg := mi_pl_get (ox := ox) (b := b) (cy := cy) hc0
    have hg2 : (mi_pl ox b cy h ++ [(q, w)])[q - b]? = some (b + (q - b), mi_E ox b cy c0) := by rw [List.getElem?_append_left (by omega)]; exact hg
    have := hD.1 _ _ _ _ hg2 hq (by simp only; omega)
    omega
  · omega
end MIH
