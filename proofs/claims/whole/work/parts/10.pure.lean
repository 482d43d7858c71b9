/-! The small machine (mi_): values with addresses counted from the world's own base; an interpreter of the instructions that the program uses, and rows that carry its runs over to the machine. This part: instructions that touch no heap. -/
abbrev mi_L : Type := List (Nat × Value)
/-- the machine's value of one of the small machine: 'ref k' is the k-th cell that was made, 'retAddr k' a cell from outside (script, text, static row) -/
def mi_rv (ox : Nat → Option Nat) (b : Nat) : Value → Value
  | .ref k => .ref (b + k)
  | .int x => .int x
  | .long x => .long x
  | .float x => .float x
  | .double x => .double x
  | .null => .null
  | .retAddr k => va_rf (ox k)
def mi_rl (ox : Nat → Option Nat) (b : Nat) (lv : mi_L) : mi_L := lv.map (fun q => (q.1, mi_rv ox b q.2))
def mi_rs (ox : Nat → Option Nat) (b : Nat) (st : List Value) : List Value := st.map (mi_rv ox b)
theorem mi_rv_cat (ox : Nat → Option Nat) (b : Nat) (v : Value) : (mi_rv ox b v).category = v.category := by
  cases v with
  | retAddr k => show (va_rf (ox k)).category = 1; cases ox k <;> rfl
  | _ => rfl
def mi_get (lv : mi_L) (i : Nat) : Option Value := (lv.find? (fun q => q.1 == i)).map (fun q => q.2)
def mi_st1 (lv : mi_L) (i : Nat) (v : Value) : mi_L := (i, v) :: lv.filter (fun q => !(q.1 == i) && !(q.1 + 1 == i && q.2.category == 2))
def mi_st2 (lv : mi_L) (i : Nat) (v : Value) : mi_L := (i, v) :: lv.filter (fun q => !(q.1 == i) && (!(q.1 == i + 1) && !(q.1 + 1 == i && q.2.category == 2)))
theorem mi_rl_st1 (ox : Nat → Option Nat) (b : Nat) (lv : mi_L) (i : Nat) (v : Value) : (i, mi_rv ox b v) :: (mi_rl ox b lv).filter (fun q => !(q.1 == i) && !(q.1 + 1 == i && q.2.category == 2)) = mi_rl ox b (mi_st1 lv i v) := by
  simp only [mi_rl, mi_st1, List.map_cons, List.filter_map]
  congr 2
  refine List.filter_congr (fun q _ => ?_)
  simp only [Function.comp, mi_rv_cat]
theorem mi_rl_st2 (ox : Nat → Option Nat) (b : Nat) (lv : mi_L) (i : Nat) (v : Value) : (i, mi_rv ox b v) :: (mi_rl ox b lv).filter (fun q => !(q.1 == i) && (!(q.1 == i + 1) && !(q.1 + 1 == i && q.2.category == 2))) = mi_rl ox b (mi_st2 lv i v) := by
  simp only [mi_rl, mi_st2, List.map_cons, List.filter_map]
  congr 2
  refine List.filter_congr (fun q _ => ?_)
  simp only [Function.comp, mi_rv_cat]
theorem mi_get_mem {lv : mi_L} {i : Nat} {v : Value} (h : mi_get lv i = some v) : (i, v) ∈ lv := by
  unfold mi_get at h
  cases hf : lv.find? (fun q => q.1 == i) with
  | none => rw [hf] at h; cases h
  | some q =>
    rw [hf] at h
    have h1 := List.find?_some hf
    have h2 := List.mem_of_find?_eq_some hf
    obtain ⟨a, w⟩ := q
    simp only [beq_iff_eq] at h1
    simp only [Option.map_some, Option.some.injEq] at h
    subst h1; subst h
    exact h2
theorem mi_get_has {ox : Nat → Option Nat} {b nL : Nat} {ls : Array Slot} {lv : mi_L} {i : Nat} {v : Value} (hl : lv_has ls nL (mi_rl ox b lv)) (h : mi_get lv i = some v) : ls[i]? = some (.val (mi_rv ox b v)) :=
  hl.2.2 (i, mi_rv ox b v) (List.mem_map.mpr ⟨(i, v), mi_get_mem h, rfl⟩)
def mi_tg (pc : Nat) (off : Int) : Option Nat := if 0 ≤ (pc : Int) + off then some ((pc : Int) + off).toNat else none
theorem mi_tg_eq {pc t : Nat} {off : Int} (h : mi_tg pc off = some t) : (pc : Int) + off = (t : Int) := by
  unfold mi_tg at h
  split at h
  · cases h; omega
  · cases h
abbrev mi_Fr : Type := Nat × mi_L × List Value
def mi_br (q : Bool) (pc : Nat) (off : Int) (lv : mi_L) (st : List Value) : Option mi_Fr :=
  match mi_tg pc off with
  | some t => some (match q with | true => t | false => pc + 3, lv, st)
  | none => none
theorem mi_br_eq {q : Bool} {pc : Nat} {off : Int} {lv lv' : mi_L} {st st' : List Value} {pc' : Nat} (h : mi_br q pc off lv st = some (pc', lv', st')) : ∃ t : Nat, (pc : Int) + off = (t : Int) ∧ lv = lv' ∧ st = st' ∧ (q = true → t = pc') ∧ (q = false → pc + 3 = pc') := by
  unfold mi_br at h
  cases ht : mi_tg pc off with
  | none => rw [ht] at h; cases h
  | some t =>
    rw [ht] at h
    simp only [Option.some.injEq, Prod.mk.injEq] at h
    obtain ⟨h1, h2, h3⟩ := h
    refine ⟨t, mi_tg_eq ht, h2, h3, fun hq => ?_, fun hq => ?_⟩
    · subst hq; exact h1
    · subst hq; exact h1

/-- one instruction that touches no heap: the frame behind it -/
def mi_pure (nL : Nat) (i : Instr) (pc : Nat) (lv : mi_L) (st : List Value) : Option mi_Fr := match i with
  | .iload_n k => match mi_get lv k.val with
    | some (.int x) => some (pc + 1, lv, .int x :: st)
    | _ => none
  | .iload k => match mi_get lv k with
    | some (.int x) => some (pc + 2, lv, .int x :: st)
    | _ => none
  | .lload_n k => match mi_get lv k.val with
    | some (.long x) => some (pc + 1, lv, .long x :: st)
    | _ => none
  | .lload k => match mi_get lv k with
    | some (.long x) => some (pc + 2, lv, .long x :: st)
    | _ => none
  | .aload_n k => match mi_get lv k.val with
    | some (.ref x) => some (pc + 1, lv, .ref x :: st)
    | some (.retAddr x) => some (pc + 1, lv, .retAddr x :: st)
    | _ => none
  | .aload k => match mi_get lv k with
    | some (.ref x) => some (pc + 2, lv, .ref x :: st)
    | some (.retAddr x) => some (pc + 2, lv, .retAddr x :: st)
    | _ => none
  | .istore_n k => match st with
    | .int x :: st => if k.val < nL then some (pc + 1, mi_st1 lv k.val (.int x), st) else none
    | _ => none
  | .istore k => match st with
    | .int x :: st => if k < nL then some (pc + 2, mi_st1 lv k (.int x), st) else none
    | _ => none
  | .astore_n k => match st with
    | .ref x :: st => if k.val < nL then some (pc + 1, mi_st1 lv k.val (.ref x), st) else none
    | .retAddr x :: st => if k.val < nL then some (pc + 1, mi_st1 lv k.val (.retAddr x), st) else none
    | _ => none
  | .astore k => match st with
    | .ref x :: st => if k < nL then some (pc + 2, mi_st1 lv k (.ref x), st) else none
    | .retAddr x :: st => if k < nL then some (pc + 2, mi_st1 lv k (.retAddr x), st) else none
    | _ => none
  | .lstore_n k => match st with
    | .long x :: st => if k.val + 1 < nL then some (pc + 1, mi_st2 lv k.val (.long x), st) else none
    | _ => none
  | .lstore k => match st with
    | .long x :: st => if k + 1 < nL then some (pc + 2, mi_st2 lv k (.long x), st) else none
    | _ => none
  | .iinc k n => match mi_get lv k with
    | some (.int x) => if k < nL then some (pc + 3, mi_st1 lv k (.int (x + Int32.ofInt n)), st) else none
    | _ => none
  | .iconst n => some (pc + 1, lv, .int (Int32.ofInt n) :: st)
  | .bipush n => some (pc + 2, lv, .int (Int8.ofInt n).toInt32 :: st)
  | .sipush n => some (pc + 3, lv, .int (Int16.ofInt n).toInt32 :: st)
  | .lconst n => some (pc + 1, lv, .long (Int64.ofNat n.val) :: st)
  | .iadd => match st with
    | .int y :: .int x :: st => some (pc + 1, lv, .int (x + y) :: st)
    | _ => none
  | .isub => match st with
    | .int y :: .int x :: st => some (pc + 1, lv, .int (x - y) :: st)
    | _ => none
  | .imul => match st with
    | .int y :: .int x :: st => some (pc + 1, lv, .int (x * y) :: st)
    | _ => none
  | .iand => match st with
    | .int y :: .int x :: st => some (pc + 1, lv, .int (x &&& y) :: st)
    | _ => none
  | .ior => match st with
    | .int y :: .int x :: st => some (pc + 1, lv, .int (x ||| y) :: st)
    | _ => none
  | .ixor => match st with
    | .int y :: .int x :: st => some (pc + 1, lv, .int (x ^^^ y) :: st)
    | _ => none
  | .ishl => match st with
    | .int y :: .int x :: st => some (pc + 1, lv, .int (x <<< (y &&& 31)) :: st)
    | _ => none
  | .ishr => match st with
    | .int y :: .int x :: st => some (pc + 1, lv, .int (x >>> (y &&& 31)) :: st)
    | _ => none
  | .iushr => match st with
    | .int y :: .int x :: st => some (pc + 1, lv, .int ((x.toUInt32 >>> (y.toUInt32 &&& Int32.toUInt32 31)).toInt32) :: st)
    | _ => none
  | .ladd => match st with
    | .long y :: .long x :: st => some (pc + 1, lv, .long (x + y) :: st)
    | _ => none
  | .lsub => match st with
    | .long y :: .long x :: st => some (pc + 1, lv, .long (x - y) :: st)
    | _ => none
  | .lmul => match st with
    | .long y :: .long x :: st => some (pc + 1, lv, .long (x * y) :: st)
    | _ => none
  | .land => match st with
    | .long y :: .long x :: st => some (pc + 1, lv, .long (x &&& y) :: st)
    | _ => none
  | .lor => match st with
    | .long y :: .long x :: st => some (pc + 1, lv, .long (x ||| y) :: st)
    | _ => none
  | .lxor => match st with
    | .long y :: .long x :: st => some (pc + 1, lv, .long (x ^^^ y) :: st)
    | _ => none
  | .lshl => match st with
    | .int y :: .long x :: st => some (pc + 1, lv, .long (x <<< (y.toInt64 &&& 63)) :: st)
    | _ => none
  | .lshr => match st with
    | .int y :: .long x :: st => some (pc + 1, lv, .long (x >>> (y.toInt64 &&& 63)) :: st)
    | _ => none
  | .lushr => match st with
    | .int y :: .long x :: st => some (pc + 1, lv, .long ((x.toUInt64 >>> (y.toInt64.toUInt64 &&& Int64.toUInt64 63)).toInt64) :: st)
    | _ => none
  | .idiv => match st with
    | .int y :: .int x :: st => if y = 0 then none else some (pc + 1, lv, .int (x / y) :: st)
    | _ => none
  | .irem => match st with
    | .int y :: .int x :: st => if y = 0 then none else some (pc + 1, lv, .int (x - x / y * y) :: st)
    | _ => none
  | .ldiv => match st with
    | .long y :: .long x :: st => if y = 0 then none else some (pc + 1, lv, .long (x / y) :: st)
    | _ => none
  | .ineg => match st with
    | .int x :: st => some (pc + 1, lv, .int (-x) :: st)
    | _ => none
  | .lneg => match st with
    | .long x :: st => some (pc + 1, lv, .long (-x) :: st)
    | _ => none
  | .lcmp => match st with
    | .long y :: .long x :: st => some (pc + 1, lv, .int (lg_cmp x y) :: st)
    | _ => none
  | .i2l => match st with
    | .int x :: st => some (pc + 1, lv, .long x.toInt64 :: st)
    | _ => none
  | .l2i => match st with
    | .long x :: st => some (pc + 1, lv, .int x.toInt32 :: st)
    | _ => none
  | .i2b => match st with
    | .int x :: st => some (pc + 1, lv, .int x.toInt8.toInt32 :: st)
    | _ => none
  | .i2c => match st with
    | .int x :: st => some (pc + 1, lv, .int (x.toUInt32 % 65536).toInt32 :: st)
    | _ => none
  | .dup => match st with
    | v :: st => if v.category = 1 then some (pc + 1, lv, v :: v :: st) else none
    | _ => none
  | .pop => match st with
    | v :: st => if v.category = 1 then some (pc + 1, lv, st) else none
    | _ => none
  | .dup2 => match st with
    | v :: w :: st => if v.category = 1 ∧ w.category = 1 then some (pc + 1, lv, v :: w :: v :: w :: st) else none
    | _ => none
  | .if_icmp q off => match st with
    | .int y :: .int x :: st => mi_br (match q with | .eq => decide (x = y) | .ne => decide (¬ x = y) | .lt => decide (x < y) | .ge => decide (y ≤ x) | .gt => decide (y < x) | .le => decide (x ≤ y)) pc off lv st
    | _ => none
  | .ifCond q off => match st with
    | .int x :: st => mi_br (match q with | .eq => decide (x = 0) | .ne => decide (¬ x = 0) | .lt => decide (x < 0) | .ge => decide (0 ≤ x) | .gt => decide (0 < x) | .le => decide (x ≤ 0)) pc off lv st
    | _ => none
  | .goto off => (mi_tg pc off).map (fun t => (t, lv, st))
  | .tableswitch dflt lo hi offs => match st with
    | .int x :: st => if x.toInt < lo ∨ hi < x.toInt then (mi_tg pc dflt).map (fun t => (t, lv, st)) else
      match offs[(x.toInt - lo).toNat]? with
      | some off => (mi_tg pc off).map (fun t => (t, lv, st))
      | none => none
    | _ => none
  | .lookupswitch dflt ps => match st with
    | .int x :: st => if (ps.toList.zip (ps.toList.drop 1)).all (fun (a, next) => a.1 < next.1) = true then (mi_tg pc (Op.lookupswitch.offset ps.toList dflt x.toInt)).map (fun t => (t, lv, st)) else none
    | _ => none
  | _ => none
/-- the length that decode must tell -/
def mi_len (i : Instr) : Option Nat := match i with
  | .iload k | .lload k | .aload k | .istore k | .lstore k | .astore k => some 2
  | .iinc _ _ | .sipush _ | .if_icmp _ _ | .ifCond _ _ | .goto _ => some 3
  | .bipush _ => some 2
  | .tableswitch _ _ _ _ | .lookupswitch _ _ => none
  | .getfield _ | .putfield _ | .getstatic _ | .invokevirtual _ | .invokespecial _ | .invokestatic _ | .new _ | .ldc_w _ | .ldc2_w _ | .checkcast _ => some 3
  | .ldc _ | .newarray _ => some 2
  | _ => some 1
def mi_lenok (i : Instr) (len : Nat) : Bool := match mi_len i with
  | some n => n == len
  | none => true
theorem mi_lenok_eq {i : Instr} {len n : Nat} (h : mi_lenok i len = true) (hn : mi_len i = some n) : len = n := by
  unfold mi_lenok at h
  rw [hn] at h
  exact (beq_iff_eq.mp h).symm
section MIP
variable {p : Program} {l : Launch} {e : Env} {R : Room} {s : State} {m : MethodId} {args : Array Value} {below : List Frame} {meth : Method} {c : Code} {H : Heap} {locs : List Loc} {cells slots : Nat} {Q : State → Prop}
variable {cc : ByteArray} {pc : Nat} {ls : Array Slot}
set_option maxHeartbeats 4000000 in
/-- an instruction of the small machine is one of the machine -/
theorem mi_pure_W (hx : p.tables.exec = Jvm.exec) (hb : c.code = cc) (ox : Nat → Option Nat) (b : Nat) {nL len : Nat} {i : Instr} {lv lv' : mi_L} {st st' : List Value} {pc' : Nat} (hd : decode cc pc = .ok (i, len)) (hn : mi_lenok i len = true) (hl : lv_has ls nL (mi_rl ox b lv)) (h : mi_pure nL i pc lv st = some (pc', lv', st'))
    (k : ∀ ls' : Array Slot, lv_has ls' nL (mi_rl ox b lv') → W p l e R s m args below meth c H locs cells slots Q (F0 m pc' ls' (mi_rs ox b st'))) : W p l e R s m args below meth c H locs cells slots Q (F0 m pc ls (mi_rs ox b st)) := by
  cases i with
  | iload_n n =>
    obtain rfl := mi_lenok_eq hn (n := 1) rfl
    simp only [mi_pure] at h
    split at h
    · rename_i x hg
      cases h
      exact lv_iload_n hx hb hd rfl (mi_get_has hl hg) (k ls hl)
    · cases h
  | iload n =>
    obtain rfl := mi_lenok_eq hn (n := 2) rfl
    simp only [mi_pure] at h
    split at h
    · rename_i x hg
      cases h
      exact lv_iload hx hb hd (mi_get_has hl hg) (k ls hl)
    · cases h
  | lload_n n =>
    obtain rfl := mi_lenok_eq hn (n := 1) rfl
    simp only [mi_pure] at h
    split at h
    · rename_i x hg
      cases h
      exact lv_lload_n hx hb hd rfl (mi_get_has hl hg) (k ls hl)
    · cases h
  | lload n =>
    obtain rfl := mi_lenok_eq hn (n := 2) rfl
    simp only [mi_pure] at h
    split at h
    · rename_i x hg
      cases h
      exact lv_lload hx hb hd (mi_get_has hl hg) (k ls hl)
    · cases h
  | aload_n n =>
    obtain rfl := mi_lenok_eq hn (n := 1) rfl
    simp only [mi_pure] at h
    split at h
    · rename_i x hg
      cases h
      exact lv_aload_n hx hb hd rfl (mi_get_has hl hg) (k ls hl)
    · rename_i x hg
      cases h
      have hz := mi_get_has hl hg
      have hk := k ls hl
      simp only [mi_rs, List.map_cons, mi_rv] at hz hk ⊢
      cases hox : ox x with
      | none => rw [hox] at hz hk; exact lv_aload_nN hx hb hd rfl hz hk
      | some a => rw [hox] at hz hk; exact lv_aload_n hx hb hd rfl hz hk
    · cases h
  | aload n =>
    obtain rfl := mi_lenok_eq hn (n := 2) rfl
    simp only [mi_pure] at h
    split at h
    · rename_i x hg
      cases h
      exact lv_aload hx hb hd (mi_get_has hl hg) (k ls hl)
    · rename_i x hg
      cases h
      have hz := mi_get_has hl hg
      have hk := k ls hl
      simp only [mi_rs, List.map_cons, mi_rv] at hz hk ⊢
      cases hox : ox x with
      | none => rw [hox] at hz hk; exact lv_aloadN hx hb hd hz hk
      | some a => rw [hox] at hz hk; exact lv_aload hx hb hd hz hk
    · cases h
  | istore_n n =>
    obtain rfl := mi_lenok_eq hn (n := 1) rfl
    simp only [mi_pure] at h
    split at h
    · rename_i x st2
      split at h
      · rename_i hlt
        cases h
        exact lv_istore_n hx hb hd rfl hl hlt (mi_rl_st1 ox b lv _ (.int x)) k
      · cases h
    · cases h
  | istore n =>
    obtain rfl := mi_lenok_eq hn (n := 2) rfl
    simp only [mi_pure] at h
    split at h
    · rename_i x st2
      split at h
      · rename_i hlt
        cases h
        exact lv_istore hx hb hd hl hlt (mi_rl_st1 ox b lv _ (.int x)) k
      · cases h
    · cases h
  | astore_n n =>
    obtain rfl := mi_lenok_eq hn (n := 1) rfl
    simp only [mi_pure] at h
    split at h
    · rename_i x st2
      split at h
      · rename_i hlt
        cases h
        exact lv_astore_n hx hb hd rfl hl hlt (mi_rl_st1 ox b lv _ (.ref x)) k
      · cases h
    · rename_i x st2
      split at h
      · rename_i hlt
        cases h
        have hz := mi_rl_st1 ox b lv n.val (.retAddr x)
        simp only [mi_rs, List.map_cons, mi_rv] at hz ⊢
        cases hox : ox x with
        | none => rw [hox] at hz; exact lv_astore_nN hx hb hd rfl hl hlt hz k
        | some a => rw [hox] at hz; exact lv_astore_n hx hb hd rfl hl hlt hz k
      · cases h
    · cases h
  | astore n =>
    obtain rfl := mi_lenok_eq hn (n := 2) rfl
    simp only [mi_pure] at h
    split at h
    · rename_i x st2
      split at h
      · rename_i hlt
        cases h
        exact lv_astore hx hb hd hl hlt (mi_rl_st1 ox b lv _ (.ref x)) k
      · cases h
    · rename_i x st2
      split at h
      · rename_i hlt
        cases h
        have hz := mi_rl_st1 ox b lv n (.retAddr x)
        simp only [mi_rs, List.map_cons, mi_rv] at hz ⊢
        cases hox : ox x with
        | none => rw [hox] at hz; exact lv_astoreN hx hb hd hl hlt hz k
        | some a => rw [hox] at hz; exact lv_astore hx hb hd hl hlt hz k
      · cases h
    · cases h
  | lstore_n n =>
    obtain rfl := mi_lenok_eq hn (n := 1) rfl
    simp only [mi_pure] at h
    split at h
    · rename_i x st2
      split at h
      · rename_i hlt
        cases h
        exact lv_lstore_n hx hb hd rfl hl hlt (mi_rl_st2 ox b lv _ (.long x)) k
      · cases h
    · cases h
  | lstore n =>
    obtain rfl := mi_lenok_eq hn (n := 2) rfl
    simp only [mi_pure] at h
    split at h
    · rename_i x st2
      split at h
      · rename_i hlt
        cases h
        exact lv_lstore hx hb hd hl hlt (mi_rl_st2 ox b lv _ (.long x)) k
      · cases h
    · cases h
  | iinc n w =>
    obtain rfl := mi_lenok_eq hn (n := 3) rfl
    simp only [mi_pure] at h
    split at h
    · rename_i x hg
      split at h
      · rename_i hlt
        cases h
        obtain ⟨j, hj⟩ := List.mem_iff_getElem?.mp (List.mem_map.mpr ⟨(n, Value.int x), mi_get_mem hg, rfl⟩ : (n, Value.int x) ∈ mi_rl ox b lv)
        exact lv_iinc hx hb hd hl hj rfl hlt (mi_rl_st1 ox b lv n (.int (x + Int32.ofInt w))) k
      · cases h
    · cases h
  | iconst n =>
    obtain rfl := mi_lenok_eq hn (n := 1) rfl
    simp only [mi_pure] at h
    cases h
    exact lv_iconst hx hb hd rfl (k ls hl)
  | bipush n =>
    obtain rfl := mi_lenok_eq hn (n := 2) rfl
    simp only [mi_pure] at h
    cases h
    exact lv_bipush hx hb hd rfl (k ls hl)
  | sipush n =>
    obtain rfl := mi_lenok_eq hn (n := 3) rfl
    simp only [mi_pure] at h
    cases h
    exact lv_sipush hx hb hd rfl (k ls hl)
  | lconst n =>
    obtain rfl := mi_lenok_eq hn (n := 1) rfl
    simp only [mi_pure] at h
    cases h
    exact lv_lconst hx hb hd rfl (k ls hl)
  | iadd =>
    obtain rfl := mi_lenok_eq hn (n := 1) rfl
    simp only [mi_pure] at h
    split at h
    · cases h
      exact lv_iadd hx hb hd (k ls hl)
    · cases h
  | isub =>
    obtain rfl := mi_lenok_eq hn (n := 1) rfl
    simp only [mi_pure] at h
    split at h
    · cases h
      exact lv_isub hx hb hd (k ls hl)
    · cases h
  | imul =>
    obtain rfl := mi_lenok_eq hn (n := 1) rfl
    simp only [mi_pure] at h
    split at h
    · cases h
      exact lv_imul hx hb hd (k ls hl)
    · cases h
  | iand =>
    obtain rfl := mi_lenok_eq hn (n := 1) rfl
    simp only [mi_pure] at h
    split at h
    · cases h
      exact lv_iand hx hb hd (k ls hl)
    · cases h
  | ior =>
    obtain rfl := mi_lenok_eq hn (n := 1) rfl
    simp only [mi_pure] at h
    split at h
    · cases h
      exact lv_ior hx hb hd (k ls hl)
    · cases h
  | ixor =>
    obtain rfl := mi_lenok_eq hn (n := 1) rfl
    simp only [mi_pure] at h
    split at h
    · cases h
      exact lv_ixor hx hb hd (k ls hl)
    · cases h
  | ishl =>
    obtain rfl := mi_lenok_eq hn (n := 1) rfl
    simp only [mi_pure] at h
    split at h
    · cases h
      exact lv_ishl hx hb hd (k ls hl)
    · cases h
  | ishr =>
    obtain rfl := mi_lenok_eq hn (n := 1) rfl
    simp only [mi_pure] at h
    split at h
    · cases h
      exact lv_ishr hx hb hd (k ls hl)
    · cases h
  | iushr =>
    obtain rfl := mi_lenok_eq hn (n := 1) rfl
    simp only [mi_pure] at h
    split at h
    · cases h
      exact lv_iushr hx hb hd rfl (k ls hl)
    · cases h
  | ladd =>
    obtain rfl := mi_lenok_eq hn (n := 1) rfl
    simp only [mi_pure] at h
    split at h
    · cases h
      exact lv_ladd hx hb hd (k ls hl)
    · cases h
  | lsub =>
    obtain rfl := mi_lenok_eq hn (n := 1) rfl
    simp only [mi_pure] at h
    split at h
    · cases h
      exact lv_lsub hx hb hd (k ls hl)
    · cases h
  | lmul =>
    obtain rfl := mi_lenok_eq hn (n := 1) rfl
    simp only [mi_pure] at h
    split at h
    · cases h
      exact lv_lmul hx hb hd (k ls hl)
    · cases h
  | land =>
    obtain rfl := mi_lenok_eq hn (n := 1) rfl
    simp only [mi_pure] at h
    split at h
    · cases h
      exact lv_land hx hb hd (k ls hl)
    · cases h
  | lor =>
    obtain rfl := mi_lenok_eq hn (n := 1) rfl
    simp only [mi_pure] at h
    split at h
    · cases h
      exact lv_lor hx hb hd (k ls hl)
    · cases h
  | lxor =>
    obtain rfl := mi_lenok_eq hn (n := 1) rfl
    simp only [mi_pure] at h
    split at h
    · cases h
      exact lv_lxor hx hb hd (k ls hl)
    · cases h
  | lshl =>
    obtain rfl := mi_lenok_eq hn (n := 1) rfl
    simp only [mi_pure] at h
    split at h
    · cases h
      exact lv_lshl hx hb hd rfl (k ls hl)
    · cases h
  | lshr =>
    obtain rfl := mi_lenok_eq hn (n := 1) rfl
    simp only [mi_pure] at h
    split at h
    · cases h
      exact lv_lshr hx hb hd rfl (k ls hl)
    · cases h
  | lushr =>
    obtain rfl := mi_lenok_eq hn (n := 1) rfl
    simp only [mi_pure] at h
    split at h
    · cases h
      exact lv_lushr hx hb hd rfl (k ls hl)
    · cases h
  | ineg =>
    obtain rfl := mi_lenok_eq hn (n := 1) rfl
    simp only [mi_pure] at h
    split at h
    · cases h
      exact lv_ineg hx hb hd (k ls hl)
    · cases h
  | lneg =>
    obtain rfl := mi_lenok_eq hn (n := 1) rfl
    simp only [mi_pure] at h
    split at h
    · cases h
      exact lv_lneg hx hb hd (k ls hl)
    · cases h
  | i2l =>
    obtain rfl := mi_lenok_eq hn (n := 1) rfl
    simp only [mi_pure] at h
    split at h
    · cases h
      exact lv_i2l hx hb hd rfl (k ls hl)
    · cases h
  | l2i =>
    obtain rfl := mi_lenok_eq hn (n := 1) rfl
    simp only [mi_pure] at h
    split at h
    · cases h
      exact lv_l2i hx hb hd rfl (k ls hl)
    · cases h
  | i2b =>
    obtain rfl := mi_lenok_eq hn (n := 1) rfl
    simp only [mi_pure] at h
    split at h
    · cases h
      exact lv_i2b hx hb hd rfl (k ls hl)
    · cases h
  | i2c =>
    obtain rfl := mi_lenok_eq hn (n := 1) rfl
    simp only [mi_pure] at h
    split at h
    · cases h
      exact lv_i2c hx hb hd rfl (k ls hl)
    · cases h
  | lcmp =>
    obtain rfl := mi_lenok_eq hn (n := 1) rfl
    simp only [mi_pure] at h
    split at h
    · cases h
      exact W.lcmp hx hb hd (k ls hl)
    · cases h
  | idiv =>
    obtain rfl := mi_lenok_eq hn (n := 1) rfl
    simp only [mi_pure] at h
    split at h
    · split at h
      · cases h
      · rename_i hne
        cases h
        exact lv_idiv hx hb hd hne (k ls hl)
    · cases h
  | irem =>
    obtain rfl := mi_lenok_eq hn (n := 1) rfl
    simp only [mi_pure] at h
    split at h
    · split at h
      · cases h
      · rename_i hne
        cases h
        exact lv_irem hx hb hd hne (k ls hl)
    · cases h
  | ldiv =>
    obtain rfl := mi_lenok_eq hn (n := 1) rfl
    simp only [mi_pure] at h
    split at h
    · split at h
      · cases h
      · rename_i hne
        cases h
        exact lv_ldiv hx hb hd hne (k ls hl)
    · cases h
  | dup =>
    obtain rfl := mi_lenok_eq hn (n := 1) rfl
    simp only [mi_pure] at h
    split at h
    · split at h
      · rename_i hc
        cases h
        exact lv_dup hx hb hd (by rw [mi_rv_cat]; exact hc) (k ls hl)
      · cases h
    · cases h
  | pop =>
    obtain rfl := mi_lenok_eq hn (n := 1) rfl
    simp only [mi_pure] at h
    split at h
    · split at h
      · rename_i hc
        cases h
        exact lv_pop hx hb hd (by rw [mi_rv_cat]; exact hc) (k ls hl)
      · cases h
    · cases h
  | dup2 =>
    obtain rfl := mi_lenok_eq hn (n := 1) rfl
    simp only [mi_pure] at h
    split at h
    · split at h
      · rename_i hc
        cases h
        exact lv_dup2_11 hx hb hd (by rw [mi_rv_cat]; exact hc.1) (by rw [mi_rv_cat]; exact hc.2) (k ls hl)
      · cases h
    · cases h
  | if_icmp q off =>
    obtain rfl := mi_lenok_eq hn (n := 3) rfl
    simp only [mi_pure] at h
    split at h
    · cases q with
      | eq =>
        obtain ⟨t, e1, rfl, rfl, e2, e3⟩ := mi_br_eq h
        exact lv_icmp_eq (tgt := t) hx hb hd e1 (fun hc => by obtain rfl := e2 (decide_eq_true hc); exact k ls hl) (fun hc => by obtain rfl := e3 (decide_eq_false hc); exact k ls hl)
      | ne =>
        obtain ⟨t, e1, rfl, rfl, e2, e3⟩ := mi_br_eq h
        exact lv_icmp_ne (tgt := t) hx hb hd e1 (fun hc => by obtain rfl := e2 (decide_eq_true hc); exact k ls hl) (fun hc => by obtain rfl := e3 (decide_eq_false (fun q => q hc)); exact k ls hl)
      | lt =>
        obtain ⟨t, e1, rfl, rfl, e2, e3⟩ := mi_br_eq h
        exact lv_icmp_lt (tgt := t) hx hb hd e1 (fun hc => by obtain rfl := e2 (decide_eq_true hc); exact k ls hl) (fun hc => by obtain rfl := e3 (decide_eq_false hc); exact k ls hl)
      | ge =>
        obtain ⟨t, e1, rfl, rfl, e2, e3⟩ := mi_br_eq h
        exact lv_icmp_ge (tgt := t) hx hb hd e1 (fun hc => by obtain rfl := e2 (decide_eq_true hc); exact k ls hl) (fun hc => by obtain rfl := e3 (decide_eq_false hc); exact k ls hl)
      | gt =>
        obtain ⟨t, e1, rfl, rfl, e2, e3⟩ := mi_br_eq h
        exact lv_icmp_gt (tgt := t) hx hb hd e1 (fun hc => by obtain rfl := e2 (decide_eq_true hc); exact k ls hl) (fun hc => by obtain rfl := e3 (decide_eq_false hc); exact k ls hl)
      | le =>
        obtain ⟨t, e1, rfl, rfl, e2, e3⟩ := mi_br_eq h
        exact lv_icmp_le (tgt := t) hx hb hd e1 (fun hc => by obtain rfl := e2 (decide_eq_true hc); exact k ls hl) (fun hc => by obtain rfl := e3 (decide_eq_false hc); exact k ls hl)
    · cases h
  | ifCond q off =>
    obtain rfl := mi_lenok_eq hn (n := 3) rfl
    simp only [mi_pure] at h
    split at h
    · cases q with
      | eq =>
        obtain ⟨t, e1, rfl, rfl, e2, e3⟩ := mi_br_eq h
        exact lv_if_eq (tgt := t) hx hb hd e1 (fun hc => by obtain rfl := e2 (decide_eq_true hc); exact k ls hl) (fun hc => by obtain rfl := e3 (decide_eq_false hc); exact k ls hl)
      | ne =>
        obtain ⟨t, e1, rfl, rfl, e2, e3⟩ := mi_br_eq h
        exact lv_if_ne (tgt := t) hx hb hd e1 (fun hc => by obtain rfl := e2 (decide_eq_true hc); exact k ls hl) (fun hc => by obtain rfl := e3 (decide_eq_false (fun q => q hc)); exact k ls hl)
      | lt =>
        obtain ⟨t, e1, rfl, rfl, e2, e3⟩ := mi_br_eq h
        exact lv_if_lt (tgt := t) hx hb hd e1 (fun hc => by obtain rfl := e2 (decide_eq_true hc); exact k ls hl) (fun hc => by obtain rfl := e3 (decide_eq_false hc); exact k ls hl)
      | ge =>
        obtain ⟨t, e1, rfl, rfl, e2, e3⟩ := mi_br_eq h
        exact lv_if_ge (tgt := t) hx hb hd e1 (fun hc => by obtain rfl := e2 (decide_eq_true hc); exact k ls hl) (fun hc => by obtain rfl := e3 (decide_eq_false hc); exact k ls hl)
      | gt =>
        obtain ⟨t, e1, rfl, rfl, e2, e3⟩ := mi_br_eq h
        exact lv_if_gt (tgt := t) hx hb hd e1 (fun hc => by obtain rfl := e2 (decide_eq_true hc); exact k ls hl) (fun hc => by obtain rfl := e3 (decide_eq_false hc); exact k ls hl)
      | le =>
        obtain ⟨t, e1, rfl, rfl, e2, e3⟩ := mi_br_eq h
        exact lv_if_le (tgt := t) hx hb hd e1 (fun hc => by obtain rfl := e2 (decide_eq_true hc); exact k ls hl) (fun hc => by obtain rfl := e3 (decide_eq_false hc); exact k ls hl)
    · cases h
  | goto off =>
    obtain rfl := mi_lenok_eq hn (n := 3) rfl
    simp only [mi_pure] at h
    cases ht : mi_tg pc off with
    | none => simp [ht] at h
    | some t =>
      simp only [ht, Option.map_some, Option.some.injEq] at h
      cases h
      exact lv_goto hx hb hd (mi_tg_eq ht) (k ls hl)
  | tableswitch dflt lo hi offs =>
    simp only [mi_pure] at h
    split at h
    · split at h
      · rename_i hc
        cases ht : mi_tg pc dflt with
        | none => simp [ht] at h
        | some t =>
          simp only [ht, Option.map_some, Option.some.injEq] at h
          cases h
          exact lv_tableOut hx hb hd hc (mi_tg_eq ht) (k ls hl)
      · rename_i hc
        split at h
        · rename_i off ho
          cases ht : mi_tg pc off with
          | none => simp [ht] at h
          | some t =>
            simp only [ht, Option.map_some, Option.some.injEq] at h
            cases h
            exact lv_tableIn hx hb hd (fun q => hc (Or.inl q)) (fun q => hc (Or.inr q)) ho (mi_tg_eq ht) (k ls hl)
        · cases h
    · cases h
  | lookupswitch dflt ps =>
    simp only [mi_pure] at h
    split at h
    · rename_i x st1
      split at h
      · rename_i hc
        cases ht : mi_tg pc (Op.lookupswitch.offset ps.toList dflt x.toInt) with
        | none => simp [ht] at h
        | some t =>
          simp only [ht, Option.map_some, Option.some.injEq] at h
          cases h
          exact lv_lookup hx hb hd hc rfl (mi_tg_eq ht) (k ls hl)
      · cases h
    · cases h
  | _ => simp [mi_pure] at h
end MIP
