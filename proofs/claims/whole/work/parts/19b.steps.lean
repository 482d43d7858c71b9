/-! The second level: runs, and steps that touch no cell. -/
def nk_ret (q : Nat) (r : Option Value) (x : Int) : Prop := match q with
  | 0 => r = none
  | 1 => ∃ y : Int32, r = some (.int y) ∧ y.toInt = x
  | _ => ∃ y : Int64, r = some (.long y) ∧ y.toInt = x
/-- from this frame on, over cells that are as S tells, the method comes to the answer R.1 and leaves the cells as R.2 tells -/
def nk_K (T : List nk_D) (Γ : Nat → Option mi_Me) (ev : mi_Ev) (q j pc : Nat) (L : nk_L) (st : List nk_V) (S : nk_S) (R : Int × nk_S) : Prop :=
  ∀ (lv : mi_L) (vs : List Value) (h : List mi_C) (sl : Nat), nk_lr L lv → nk_sr st vs → nk_rp T S h → mi_ok (fun r h' sl' => nk_ret q r R.1 ∧ nk_rp T R.2 h' ∧ sl' = sl) Γ ev j (pc, lv, vs) h sl
def nk_st (nL : Nat) (i : Instr) (pc : Nat) (L : nk_L) (st : List nk_V) (pc' : Nat) (L' : nk_L) (st' : List nk_V) : Prop :=
  ∀ (lv : mi_L) (vs : List Value), nk_lr L lv → nk_sr st vs → ∃ (lv' : mi_L) (vs' : List Value), mi_pure nL i pc lv vs = some (pc', lv', vs') ∧ nk_lr L' lv' ∧ nk_sr st' vs'
abbrev nk_w (z : Int) : Int := z.bmod (2 ^ 32)
abbrev nk_W (z : Int) : Int := z.bmod (2 ^ 64)
def nk_iand (x y : Int) : Int := (Int32.ofInt x &&& Int32.ofInt y).toInt
def nk_ior (x y : Int) : Int := (Int32.ofInt x ||| Int32.ofInt y).toInt
def nk_ixor (x y : Int) : Int := (Int32.ofInt x ^^^ Int32.ofInt y).toInt
def nk_ishl (x y : Int) : Int := (Int32.ofInt x <<< (Int32.ofInt y &&& 31)).toInt
def nk_ishr (x y : Int) : Int := (Int32.ofInt x >>> (Int32.ofInt y &&& 31)).toInt
def nk_iushr (x y : Int) : Int := (((Int32.ofInt x).toUInt32 >>> ((Int32.ofInt y).toUInt32 &&& Int32.toUInt32 31)).toInt32).toInt
def nk_idiv (x y : Int) : Int := (Int32.ofInt x / Int32.ofInt y).toInt
def nk_irem (x y : Int) : Int := (Int32.ofInt x - Int32.ofInt x / Int32.ofInt y * Int32.ofInt y).toInt
def nk_i2b (x : Int) : Int := x.bmod (2 ^ 8)
def nk_i2c (x : Int) : Int := ((Int32.ofInt x).toUInt32 % 65536).toInt32.toInt
def nk_land (x y : Int) : Int := (Int64.ofInt x &&& Int64.ofInt y).toInt
def nk_lor (x y : Int) : Int := (Int64.ofInt x ||| Int64.ofInt y).toInt
def nk_lxor (x y : Int) : Int := (Int64.ofInt x ^^^ Int64.ofInt y).toInt
def nk_lshl (x y : Int) : Int := (Int64.ofInt x <<< ((Int32.ofInt y).toInt64 &&& 63)).toInt
def nk_lshr (x y : Int) : Int := (Int64.ofInt x >>> ((Int32.ofInt y).toInt64 &&& 63)).toInt
def nk_lushr (x y : Int) : Int := (((Int64.ofInt x).toUInt64 >>> ((Int32.ofInt y).toInt64.toUInt64 &&& Int64.toUInt64 63)).toInt64).toInt
def nk_ldiv (x y : Int) : Int := (Int64.ofInt x / Int64.ofInt y).toInt
def nk_cmp (x y : Int) : Int := if y < x then 1 else if x = y then 0 else -1
def nk_cq (q : Jvm.ClassFile.Cond) (x y : Int) : Prop := match q with
  | .eq => x = y
  | .ne => ¬ x = y
  | .lt => x < y
  | .ge => y ≤ x
  | .gt => y < x
  | .le => x ≤ y
def nk_if (b : Bool) (t f : Nat) : Nat := match b with
  | true => t
  | false => f
theorem nk_brk {B b : Bool} {pc t : Nat} {off : Int} {lv : mi_L} {st : List Value} (ht : mi_tg pc off = some t) (h : B = b) : mi_br B pc off lv st = some (nk_if b t (pc + 3), lv, st) := by
  subst h; rw [mi_br, ht]; cases B <;> rfl
theorem nk_lr_get {L : nk_L} {lv : mi_L} {p k : Nat} {v : nk_V} (h : nk_lr L lv) (hp : L[p]? = some (k, v)) : ∃ w, mi_get lv k = some w ∧ nk_vr v w := h (k, v) (List.mem_of_getElem? hp)
section NP
variable {nL pc : Nat} {L : nk_L} {st : List nk_V} {X Y : Int}
theorem ns_iload_n {n : Fin 4} {k : Nat} (p : Nat) (hp : L[p]? = some (k, nk_i X)) (hk : n.val = k) : nk_st nL (.iload_n n) pc L st (pc + 1) L (nk_i X :: st) := by
  intro lv vs hl hs
  subst hk
  obtain ⟨w, hg, y, rfl, e⟩ := nk_lr_get hl hp
  exact ⟨lv, .int y :: vs, by simp only [mi_pure, hg], hl, ⟨y, rfl, e⟩, hs⟩
theorem ns_iload {k : Nat} (p : Nat) (hp : L[p]? = some (k, nk_i X)) : nk_st nL (.iload k) pc L st (pc + 2) L (nk_i X :: st) := by
  intro lv vs hl hs
  obtain ⟨w, hg, y, rfl, e⟩ := nk_lr_get hl hp
  exact ⟨lv, .int y :: vs, by simp only [mi_pure, hg], hl, ⟨y, rfl, e⟩, hs⟩
theorem ns_lload_n {n : Fin 4} {k : Nat} (p : Nat) (hp : L[p]? = some (k, nk_l X)) (hk : n.val = k) : nk_st nL (.lload_n n) pc L st (pc + 1) L (nk_l X :: st) := by
  intro lv vs hl hs
  subst hk
  obtain ⟨w, hg, y, rfl, e⟩ := nk_lr_get hl hp
  exact ⟨lv, .long y :: vs, by simp only [mi_pure, hg], hl, ⟨y, rfl, e⟩, hs⟩
theorem ns_lload {k : Nat} (p : Nat) (hp : L[p]? = some (k, nk_l X)) : nk_st nL (.lload k) pc L st (pc + 2) L (nk_l X :: st) := by
  intro lv vs hl hs
  obtain ⟨w, hg, y, rfl, e⟩ := nk_lr_get hl hp
  exact ⟨lv, .long y :: vs, by simp only [mi_pure, hg], hl, ⟨y, rfl, e⟩, hs⟩
theorem ns_aload_n {n : Fin 4} {k a : Nat} (p : Nat) (hp : L[p]? = some (k, nk_r a)) (hk : n.val = k) : nk_st nL (.aload_n n) pc L st (pc + 1) L (nk_r a :: st) := by
  intro lv vs hl hs
  subst hk
  obtain ⟨w, hg, rfl⟩ := nk_lr_get hl hp
  exact ⟨lv, .ref a :: vs, by simp only [mi_pure, hg], hl, rfl, hs⟩
theorem ns_aload {k a : Nat} (p : Nat) (hp : L[p]? = some (k, nk_r a)) : nk_st nL (.aload k) pc L st (pc + 2) L (nk_r a :: st) := by
  intro lv vs hl hs
  obtain ⟨w, hg, rfl⟩ := nk_lr_get hl hp
  exact ⟨lv, .ref a :: vs, by simp only [mi_pure, hg], hl, rfl, hs⟩
theorem ns_oload_n {n : Fin 4} {k a : Nat} (p : Nat) (hp : L[p]? = some (k, nk_o a)) (hk : n.val = k) : nk_st nL (.aload_n n) pc L st (pc + 1) L (nk_o a :: st) := by
  intro lv vs hl hs
  subst hk
  obtain ⟨w, hg, rfl⟩ := nk_lr_get hl hp
  exact ⟨lv, .retAddr a :: vs, by simp only [mi_pure, hg], hl, rfl, hs⟩
theorem ns_istore_n {n : Fin 4} {k : Nat} {Z : Int} {L' : nk_L} (hz : Z = X) (hL : nk_up1 L k (nk_i Z) = L') (hk : n.val = k) (hn : k < nL) : nk_st nL (.istore_n n) pc L (nk_i X :: st) (pc + 1) L' st := by
  intro lv vs hl h0
  subst hk; subst hL; subst hz
  match vs, h0 with
  | w :: vs, ⟨⟨y, e1, e2⟩, hs⟩ =>
    subst e1
    exact ⟨mi_st1 lv n.val (.int y), vs, by simp only [mi_pure, hn, if_true], nk_lr_up1 hl ⟨y, rfl, e2⟩, hs⟩
theorem ns_istore {k : Nat} {Z : Int} {L' : nk_L} (hz : Z = X) (hL : nk_up1 L k (nk_i Z) = L') (hn : k < nL) : nk_st nL (.istore k) pc L (nk_i X :: st) (pc + 2) L' st := by
  intro lv vs hl h0
  subst hL; subst hz
  match vs, h0 with
  | w :: vs, ⟨⟨y, e1, e2⟩, hs⟩ =>
    subst e1
    exact ⟨mi_st1 lv k (.int y), vs, by simp only [mi_pure, hn, if_true], nk_lr_up1 hl ⟨y, rfl, e2⟩, hs⟩
theorem ns_lstore_n {n : Fin 4} {k : Nat} {Z : Int} {L' : nk_L} (hz : Z = X) (hL : nk_up2 L k (nk_l Z) = L') (hk : n.val = k) (hn : k + 1 < nL) : nk_st nL (.lstore_n n) pc L (nk_l X :: st) (pc + 1) L' st := by
  intro lv vs hl h0
  subst hk; subst hL; subst hz
  match vs, h0 with
  | w :: vs, ⟨⟨y, e1, e2⟩, hs⟩ =>
    subst e1
    exact ⟨mi_st2 lv n.val (.long y), vs, by simp only [mi_pure, hn, if_true], nk_lr_up2 hl ⟨y, rfl, e2⟩, hs⟩
theorem ns_lstore {k : Nat} {Z : Int} {L' : nk_L} (hz : Z = X) (hL : nk_up2 L k (nk_l Z) = L') (hn : k + 1 < nL) : nk_st nL (.lstore k) pc L (nk_l X :: st) (pc + 2) L' st := by
  intro lv vs hl h0
  subst hL; subst hz
  match vs, h0 with
  | w :: vs, ⟨⟨y, e1, e2⟩, hs⟩ =>
    subst e1
    exact ⟨mi_st2 lv k (.long y), vs, by simp only [mi_pure, hn, if_true], nk_lr_up2 hl ⟨y, rfl, e2⟩, hs⟩
theorem ns_astore_n {n : Fin 4} {k a : Nat} {L' : nk_L} (hL : nk_up1 L k (nk_r a) = L') (hk : n.val = k) (hn : k < nL) : nk_st nL (.astore_n n) pc L (nk_r a :: st) (pc + 1) L' st := by
  intro lv vs hl h0
  subst hk; subst hL
  match vs, h0 with
  | w :: vs, ⟨e1, hs⟩ =>
    cases e1
    exact ⟨mi_st1 lv n.val (.ref a), vs, by simp only [mi_pure, hn, if_true], nk_lr_up1 hl rfl, hs⟩
theorem ns_astore {k a : Nat} {L' : nk_L} (hL : nk_up1 L k (nk_r a) = L') (hn : k < nL) : nk_st nL (.astore k) pc L (nk_r a :: st) (pc + 2) L' st := by
  intro lv vs hl h0
  subst hL
  match vs, h0 with
  | w :: vs, ⟨e1, hs⟩ =>
    cases e1
    exact ⟨mi_st1 lv k (.ref a), vs, by simp only [mi_pure, hn, if_true], nk_lr_up1 hl rfl, hs⟩
theorem ns_iinc {k : Nat} {n c Z : Int} {L' : nk_L} (p : Nat) (hp : L[p]? = some (k, nk_i X)) (hc : (Int32.ofInt n).toInt = c) (hz : Z = nk_w (X + c)) (hL : nk_up1 L k (nk_i Z) = L') (hn : k < nL) : nk_st nL (.iinc k n) pc L st (pc + 3) L' st := by
  intro lv vs hl hs
  subst hL; subst hz
  obtain ⟨w, hg, y, rfl, e⟩ := nk_lr_get hl hp
  refine ⟨mi_st1 lv k (.int (y + Int32.ofInt n)), vs, by simp only [mi_pure, hg, hn, if_true], nk_lr_up1 hl ⟨_, rfl, ?_⟩, hs⟩
  rw [Int32.toInt_add, e, hc]
theorem ns_iconst {n c : Int} (hc : (Int32.ofInt n).toInt = c) : nk_st nL (.iconst n) pc L st (pc + 1) L (nk_i c :: st) :=
  fun lv vs hl hs => ⟨lv, _, rfl, hl, ⟨_, rfl, hc⟩, hs⟩
theorem ns_bipush {n c : Int} (hc : (Int8.ofInt n).toInt32.toInt = c) : nk_st nL (.bipush n) pc L st (pc + 2) L (nk_i c :: st) :=
  fun lv vs hl hs => ⟨lv, _, rfl, hl, ⟨_, rfl, hc⟩, hs⟩
theorem ns_sipush {n c : Int} (hc : (Int16.ofInt n).toInt32.toInt = c) : nk_st nL (.sipush n) pc L st (pc + 3) L (nk_i c :: st) :=
  fun lv vs hl hs => ⟨lv, _, rfl, hl, ⟨_, rfl, hc⟩, hs⟩
theorem ns_lconst {n : Fin 2} {c : Int} (hc : (Int64.ofNat n.val).toInt = c) : nk_st nL (.lconst n) pc L st (pc + 1) L (nk_l c :: st) :=
  fun lv vs hl hs => ⟨lv, _, rfl, hl, ⟨_, rfl, hc⟩, hs⟩
theorem ns_bi {i : Instr} (f : Int32 → Int32 → Int32) (F : Int → Int → Int) (h1 : ∀ lv vs x y, mi_pure nL i pc lv (.int y :: .int x :: vs) = some (pc + 1, lv, .int (f x y) :: vs)) (h2 : ∀ x y, (f x y).toInt = F x.toInt y.toInt) : nk_st nL i pc L (nk_i Y :: nk_i X :: st) (pc + 1) L (nk_i (F X Y) :: st) := by
  intro lv vs hl h0
  match vs, h0 with
  | w :: u :: vs, ⟨⟨y, e1, e2⟩, ⟨x, e3, e4⟩, hs⟩ =>
    subst e1; subst e3; subst e2; subst e4
    exact ⟨lv, _, h1 lv vs x y, hl, ⟨_, rfl, h2 x y⟩, hs⟩
theorem ns_bl {i : Instr} (f : Int64 → Int64 → Int64) (F : Int → Int → Int) (h1 : ∀ lv vs x y, mi_pure nL i pc lv (.long y :: .long x :: vs) = some (pc + 1, lv, .long (f x y) :: vs)) (h2 : ∀ x y, (f x y).toInt = F x.toInt y.toInt) : nk_st nL i pc L (nk_l Y :: nk_l X :: st) (pc + 1) L (nk_l (F X Y) :: st) := by
  intro lv vs hl h0
  match vs, h0 with
  | w :: u :: vs, ⟨⟨y, e1, e2⟩, ⟨x, e3, e4⟩, hs⟩ =>
    subst e1; subst e3; subst e2; subst e4
    exact ⟨lv, _, h1 lv vs x y, hl, ⟨_, rfl, h2 x y⟩, hs⟩
theorem ns_bs {i : Instr} (f : Int64 → Int32 → Int64) (F : Int → Int → Int) (h1 : ∀ lv vs x y, mi_pure nL i pc lv (.int y :: .long x :: vs) = some (pc + 1, lv, .long (f x y) :: vs)) (h2 : ∀ x y, (f x y).toInt = F x.toInt y.toInt) : nk_st nL i pc L (nk_i Y :: nk_l X :: st) (pc + 1) L (nk_l (F X Y) :: st) := by
  intro lv vs hl h0
  match vs, h0 with
  | w :: u :: vs, ⟨⟨y, e1, e2⟩, ⟨x, e3, e4⟩, hs⟩ =>
    subst e1; subst e3; subst e2; subst e4
    exact ⟨lv, _, h1 lv vs x y, hl, ⟨_, rfl, h2 x y⟩, hs⟩
theorem ns_iadd : nk_st nL .iadd pc L (nk_i Y :: nk_i X :: st) (pc + 1) L (nk_i (nk_w (X + Y)) :: st) := ns_bi (fun x y => x + y) (fun a b => nk_w (a + b)) (fun _ _ _ _ => rfl) Int32.toInt_add
theorem ns_isub : nk_st nL .isub pc L (nk_i Y :: nk_i X :: st) (pc + 1) L (nk_i (nk_w (X - Y)) :: st) := ns_bi (fun x y => x - y) (fun a b => nk_w (a - b)) (fun _ _ _ _ => rfl) Int32.toInt_sub
theorem ns_imul : nk_st nL .imul pc L (nk_i Y :: nk_i X :: st) (pc + 1) L (nk_i (nk_w (X * Y)) :: st) := ns_bi (fun x y => x * y) (fun a b => nk_w (a * b)) (fun _ _ _ _ => rfl) Int32.toInt_mul
theorem ns_iand : nk_st nL .iand pc L (nk_i Y :: nk_i X :: st) (pc + 1) L (nk_i (nk_iand X Y) :: st) := ns_bi (fun x y => x &&& y) nk_iand (fun _ _ _ _ => rfl) (fun x y => by simp only [nk_iand, Int32.ofInt_toInt])
theorem ns_ior : nk_st nL .ior pc L (nk_i Y :: nk_i X :: st) (pc + 1) L (nk_i (nk_ior X Y) :: st) := ns_bi (fun x y => x ||| y) nk_ior (fun _ _ _ _ => rfl) (fun x y => by simp only [nk_ior, Int32.ofInt_toInt])
theorem ns_ixor : nk_st nL .ixor pc L (nk_i Y :: nk_i X :: st) (pc + 1) L (nk_i (nk_ixor X Y) :: st) := ns_bi (fun x y => x ^^^ y) nk_ixor (fun _ _ _ _ => rfl) (fun x y => by simp only [nk_ixor, Int32.ofInt_toInt])
theorem ns_ishl : nk_st nL .ishl pc L (nk_i Y :: nk_i X :: st) (pc + 1) L (nk_i (nk_ishl X Y) :: st) := ns_bi (fun x y => x <<< (y &&& 31)) nk_ishl (fun _ _ _ _ => rfl) (fun x y => by simp only [nk_ishl, Int32.ofInt_toInt])
theorem ns_ishr : nk_st nL .ishr pc L (nk_i Y :: nk_i X :: st) (pc + 1) L (nk_i (nk_ishr X Y) :: st) := ns_bi (fun x y => x >>> (y &&& 31)) nk_ishr (fun _ _ _ _ => rfl) (fun x y => by simp only [nk_ishr, Int32.ofInt_toInt])
theorem ns_iushr : nk_st nL .iushr pc L (nk_i Y :: nk_i X :: st) (pc + 1) L (nk_i (nk_iushr X Y) :: st) := ns_bi (fun x y => (x.toUInt32 >>> (y.toUInt32 &&& Int32.toUInt32 31)).toInt32) nk_iushr (fun _ _ _ _ => rfl) (fun x y => by simp only [nk_iushr, Int32.ofInt_toInt])
theorem ns_ladd : nk_st nL .ladd pc L (nk_l Y :: nk_l X :: st) (pc + 1) L (nk_l (nk_W (X + Y)) :: st) := ns_bl (fun x y => x + y) (fun a b => nk_W (a + b)) (fun _ _ _ _ => rfl) Int64.toInt_add
theorem ns_lsub : nk_st nL .lsub pc L (nk_l Y :: nk_l X :: st) (pc + 1) L (nk_l (nk_W (X - Y)) :: st) := ns_bl (fun x y => x - y) (fun a b => nk_W (a - b)) (fun _ _ _ _ => rfl) Int64.toInt_sub
theorem ns_lmul : nk_st nL .lmul pc L (nk_l Y :: nk_l X :: st) (pc + 1) L (nk_l (nk_W (X * Y)) :: st) := ns_bl (fun x y => x * y) (fun a b => nk_W (a * b)) (fun _ _ _ _ => rfl) Int64.toInt_mul
theorem ns_land : nk_st nL .land pc L (nk_l Y :: nk_l X :: st) (pc + 1) L (nk_l (nk_land X Y) :: st) := ns_bl (fun x y => x &&& y) nk_land (fun _ _ _ _ => rfl) (fun x y => by simp only [nk_land, Int64.ofInt_toInt])
theorem ns_lor : nk_st nL .lor pc L (nk_l Y :: nk_l X :: st) (pc + 1) L (nk_l (nk_lor X Y) :: st) := ns_bl (fun x y => x ||| y) nk_lor (fun _ _ _ _ => rfl) (fun x y => by simp only [nk_lor, Int64.ofInt_toInt])
theorem ns_lxor : nk_st nL .lxor pc L (nk_l Y :: nk_l X :: st) (pc + 1) L (nk_l (nk_lxor X Y) :: st) := ns_bl (fun x y => x ^^^ y) nk_lxor (fun _ _ _ _ => rfl) (fun x y => by simp only [nk_lxor, Int64.ofInt_toInt])
theorem ns_lshl : nk_st nL .lshl pc L (nk_i Y :: nk_l X :: st) (pc + 1) L (nk_l (nk_lshl X Y) :: st) := ns_bs (fun x y => x <<< (y.toInt64 &&& 63)) nk_lshl (fun _ _ _ _ => rfl) (fun x y => by simp only [nk_lshl, Int64.ofInt_toInt, Int32.ofInt_toInt])
theorem ns_lshr : nk_st nL .lshr pc L (nk_i Y :: nk_l X :: st) (pc + 1) L (nk_l (nk_lshr X Y) :: st) := ns_bs (fun x y => x >>> (y.toInt64 &&& 63)) nk_lshr (fun _ _ _ _ => rfl) (fun x y => by simp only [nk_lshr, Int64.ofInt_toInt, Int32.ofInt_toInt])
theorem ns_lushr : nk_st nL .lushr pc L (nk_i Y :: nk_l X :: st) (pc + 1) L (nk_l (nk_lushr X Y) :: st) := ns_bs (fun x y => (x.toUInt64 >>> (y.toInt64.toUInt64 &&& Int64.toUInt64 63)).toInt64) nk_lushr (fun _ _ _ _ => rfl) (fun x y => by simp only [nk_lushr, Int64.ofInt_toInt, Int32.ofInt_toInt])
theorem ns_nz32 {y : Int32} (h : y.toInt ≠ 0) : ¬ y = 0 := fun e => h (by rw [e]; rfl)
theorem ns_nz64 {y : Int64} (h : y.toInt ≠ 0) : ¬ y = 0 := fun e => h (by rw [e]; rfl)
theorem ns_idiv (hy : Y ≠ 0) : nk_st nL .idiv pc L (nk_i Y :: nk_i X :: st) (pc + 1) L (nk_i (nk_idiv X Y) :: st) := by
  intro lv vs hl h0
  match vs, h0 with
  | w :: u :: vs, ⟨⟨y, e1, e2⟩, ⟨x, e3, e4⟩, hs⟩ =>
    subst e1; subst e3; subst e2; subst e4
    refine ⟨lv, .int (x / y) :: vs, ?_, hl, ⟨_, rfl, ?_⟩, hs⟩
    · simp only [mi_pure, if_neg (ns_nz32 hy)]
    · simp only [nk_idiv, Int32.ofInt_toInt]
theorem ns_irem (hy : Y ≠ 0) : nk_st nL .irem pc L (nk_i Y :: nk_i X :: st) (pc + 1) L (nk_i (nk_irem X Y) :: st) := by
  intro lv vs hl h0
  match vs, h0 with
  | w :: u :: vs, ⟨⟨y, e1, e2⟩, ⟨x, e3, e4⟩, hs⟩ =>
    subst e1; subst e3; subst e2; subst e4
    refine ⟨lv, .int (x - x / y * y) :: vs, ?_, hl, ⟨_, rfl, ?_⟩, hs⟩
    · simp only [mi_pure, if_neg (ns_nz32 hy)]
    · simp only [nk_irem, Int32.ofInt_toInt]
theorem ns_ldiv (hy : Y ≠ 0) : nk_st nL .ldiv pc L (nk_l Y :: nk_l X :: st) (pc + 1) L (nk_l (nk_ldiv X Y) :: st) := by
  intro lv vs hl h0
  match vs, h0 with
  | w :: u :: vs, ⟨⟨y, e1, e2⟩, ⟨x, e3, e4⟩, hs⟩ =>
    subst e1; subst e3; subst e2; subst e4
    refine ⟨lv, .long (x / y) :: vs, ?_, hl, ⟨_, rfl, ?_⟩, hs⟩
    · simp only [mi_pure, if_neg (ns_nz64 hy)]
    · simp only [nk_ldiv, Int64.ofInt_toInt]
theorem ns_un {i : Instr} (f : Int32 → Int32) (F : Int → Int) (h1 : ∀ lv vs x, mi_pure nL i pc lv (.int x :: vs) = some (pc + 1, lv, .int (f x) :: vs)) (h2 : ∀ x, (f x).toInt = F x.toInt) : nk_st nL i pc L (nk_i X :: st) (pc + 1) L (nk_i (F X) :: st) := by
  intro lv vs hl h0
  match vs, h0 with
  | w :: vs, ⟨⟨y, e1, e2⟩, hs⟩ =>
    subst e1; subst e2
    exact ⟨lv, _, h1 lv vs y, hl, ⟨_, rfl, h2 y⟩, hs⟩
theorem ns_ineg : nk_st nL .ineg pc L (nk_i X :: st) (pc + 1) L (nk_i (nk_w (-X)) :: st) := ns_un (fun x => -x) (fun a => nk_w (-a)) (fun _ _ _ => rfl) Int32.toInt_neg
theorem ns_i2b : nk_st nL .i2b pc L (nk_i X :: st) (pc + 1) L (nk_i (nk_i2b X) :: st) := ns_un (fun x => x.toInt8.toInt32) nk_i2b (fun _ _ _ => rfl) (fun x => by rw [Int8.toInt_toInt32, Int32.toInt_toInt8]; rfl)
theorem ns_i2c : nk_st nL .i2c pc L (nk_i X :: st) (pc + 1) L (nk_i (nk_i2c X) :: st) := ns_un (fun x => (x.toUInt32 % 65536).toInt32) nk_i2c (fun _ _ _ => rfl) (fun x => by simp only [nk_i2c, Int32.ofInt_toInt])
theorem ns_lneg : nk_st nL .lneg pc L (nk_l X :: st) (pc + 1) L (nk_l (nk_W (-X)) :: st) := by
  intro lv vs hl h0
  match vs, h0 with
  | w :: vs, ⟨⟨y, e1, e2⟩, hs⟩ =>
    subst e1; subst e2
    exact ⟨lv, .long (-y) :: vs, rfl, hl, ⟨_, rfl, Int64.toInt_neg y⟩, hs⟩
theorem ns_i2l : nk_st nL .i2l pc L (nk_i X :: st) (pc + 1) L (nk_l X :: st) := by
  intro lv vs hl h0
  match vs, h0 with
  | w :: vs, ⟨⟨y, e1, e2⟩, hs⟩ =>
    subst e1; subst e2
    exact ⟨lv, .long y.toInt64 :: vs, rfl, hl, ⟨_, rfl, Int32.toInt_toInt64 y⟩, hs⟩
theorem ns_l2i : nk_st nL .l2i pc L (nk_l X :: st) (pc + 1) L (nk_i (nk_w X) :: st) := by
  intro lv vs hl h0
  match vs, h0 with
  | w :: vs, ⟨⟨y, e1, e2⟩, hs⟩ =>
    subst e1; subst e2
    exact ⟨lv, .int y.toInt32 :: vs, rfl, hl, ⟨_, rfl, Int64.toInt_toInt32 y⟩, hs⟩
theorem ns_lcmp : nk_st nL .lcmp pc L (nk_l Y :: nk_l X :: st) (pc + 1) L (nk_i (nk_cmp X Y) :: st) := by
  intro lv vs hl h0
  match vs, h0 with
  | w :: u :: vs, ⟨⟨y, e1, e2⟩, ⟨x, e3, e4⟩, hs⟩ =>
    subst e1; subst e3; subst e2; subst e4
    refine ⟨lv, .int (lg_cmp x y) :: vs, rfl, hl, ⟨_, rfl, ?_⟩, hs⟩
    unfold lg_cmp nk_cmp
    by_cases h1 : x > y
    · rw [if_pos h1, if_pos (Int64.lt_iff_toInt_lt.mp h1)]; rfl
    · rw [if_neg h1, if_neg (fun e => h1 (Int64.lt_iff_toInt_lt.mpr e))]
      by_cases h2 : x = y
      · rw [if_pos h2, if_pos (by rw [h2])]; rfl
      · rw [if_neg h2, if_neg (fun e => h2 (Int64.toInt_inj.mp e))]; rfl
theorem ns_dup {v : nk_V} (h : nk_is2 v = false) : nk_st nL .dup pc L (v :: st) (pc + 1) L (v :: v :: st) := by
  intro lv vs hl h0
  match vs, h0 with
  | w :: vs, ⟨e, hs⟩ =>
    have hc := nk_vr_cat e
    rw [h] at hc; simp only [Bool.false_eq_true, if_false] at hc
    exact ⟨lv, w :: w :: vs, by simp only [mi_pure]; rw [if_pos hc], hl, e, e, hs⟩
theorem ns_pop {v : nk_V} (h : nk_is2 v = false) : nk_st nL .pop pc L (v :: st) (pc + 1) L st := by
  intro lv vs hl h0
  match vs, h0 with
  | w :: vs, ⟨e, hs⟩ =>
    have hc := nk_vr_cat e
    rw [h] at hc; simp only [Bool.false_eq_true, if_false] at hc
    exact ⟨lv, vs, by simp only [mi_pure]; rw [if_pos hc], hl, hs⟩
theorem ns_dup2 {v u : nk_V} (h : nk_is2 v = false) (h2 : nk_is2 u = false) : nk_st nL .dup2 pc L (v :: u :: st) (pc + 1) L (v :: u :: v :: u :: st) := by
  intro lv vs hl h0
  match vs, h0 with
  | w :: x :: vs, ⟨e, e2, hs⟩ =>
    have hc := nk_vr_cat e
    have hc2 := nk_vr_cat e2
    rw [h] at hc; simp only [Bool.false_eq_true, if_false] at hc
    rw [h2] at hc2; simp only [Bool.false_eq_true, if_false] at hc2
    exact ⟨lv, w :: x :: w :: x :: vs, by simp only [mi_pure]; rw [if_pos ⟨hc, hc2⟩], hl, e, e2, e, e2, hs⟩
theorem ns_goto {off : Int} {t : Nat} (ht : mi_tg pc off = some t) : nk_st nL (.goto off) pc L st t L st :=
  fun lv vs hl hs => ⟨lv, vs, by simp only [mi_pure, ht]; rfl, hl, hs⟩
theorem ns_icmp {q : Jvm.ClassFile.Cond} {off : Int} {t : Nat} (b : Bool) (ht : mi_tg pc off = some t) (hb : b = true ↔ nk_cq q X Y) : nk_st nL (.if_icmp q off) pc L (nk_i Y :: nk_i X :: st) (nk_if b t (pc + 3)) L st := by
  intro lv vs hl h0
  match vs, h0 with
  | w :: u :: vs, ⟨⟨y, e1, e2⟩, ⟨x, e3, e4⟩, hs⟩ =>
    subst e1; subst e3; subst e2; subst e4
    refine ⟨lv, vs, ?_, hl, hs⟩
    cases q <;> exact nk_brk ht (by rw [Bool.eq_iff_iff, hb]; simp only [nk_cq, decide_eq_true_eq, Int32.lt_iff_toInt_lt, Int32.le_iff_toInt_le, ← Int32.toInt_inj])
theorem ns_icond {q : Jvm.ClassFile.Cond} {off : Int} {t : Nat} (b : Bool) (ht : mi_tg pc off = some t) (hb : b = true ↔ nk_cq q X 0) : nk_st nL (.ifCond q off) pc L (nk_i X :: st) (nk_if b t (pc + 3)) L st := by
  intro lv vs hl h0
  match vs, h0 with
  | u :: vs, ⟨⟨x, e3, e4⟩, hs⟩ =>
    subst e3; subst e4
    refine ⟨lv, vs, ?_, hl, hs⟩
    have e0 : (0 : Int32).toInt = 0 := by decide +kernel
    cases q <;> exact nk_brk ht (by rw [Bool.eq_iff_iff, hb]; simp only [nk_cq, decide_eq_true_eq, Int32.lt_iff_toInt_lt, Int32.le_iff_toInt_le, ← Int32.toInt_inj, e0])
theorem ns_tsw {dflt lo hi : Int} {offs : Array Int} {t : Nat} {V : Int} (hx : X = V) (ht : (if V < lo ∨ hi < V then mi_tg pc dflt else match offs[(V - lo).toNat]? with | some off => mi_tg pc off | none => none) = some t) : nk_st nL (.tableswitch dflt lo hi offs) pc L (nk_i X :: st) t L st := by
  intro lv vs hl h0
  match vs, h0 with
  | u :: vs, ⟨⟨x, e3, e4⟩, hs⟩ =>
    subst e3; subst e4; subst hx
    refine ⟨lv, vs, ?_, hl, hs⟩
    simp only [mi_pure]
    split at ht
    · rename_i hc
      rw [if_pos hc, ht]; rfl
    · rename_i hc
      rw [if_neg hc]
      split at ht
      · rename_i off he
        rw [he]; dsimp only; rw [ht]; rfl
      · cases ht
theorem ns_tsd {dflt lo hi : Int} {offs : Array Int} {t : Nat} (hx : X < lo ∨ hi < X) (ht : mi_tg pc dflt = some t) : nk_st nL (.tableswitch dflt lo hi offs) pc L (nk_i X :: st) t L st := by
  intro lv vs hl h0
  match vs, h0 with
  | u :: vs, ⟨⟨x, e3, e4⟩, hs⟩ =>
    subst e3; subst e4
    refine ⟨lv, vs, ?_, hl, hs⟩
    simp only [mi_pure]
    rw [if_pos hx, ht]; rfl
theorem ns_lsw {dflt : Int} {ps : Array (Int × Int)} {t : Nat} {V : Int} (hx : X = V) (hp : (ps.toList.zip (ps.toList.drop 1)).all (fun (a, next) => a.1 < next.1) = true) (ht : mi_tg pc (Op.lookupswitch.offset ps.toList dflt V) = some t) : nk_st nL (.lookupswitch dflt ps) pc L (nk_i X :: st) t L st := by
  intro lv vs hl h0
  match vs, h0 with
  | u :: vs, ⟨⟨x, e3, e4⟩, hs⟩ =>
    subst e3; subst e4; subst hx
    refine ⟨lv, vs, ?_, hl, hs⟩
    simp only [mi_pure]
    rw [if_pos hp, ht]; rfl
theorem ns_lsd_off {dflt x : Int} : ∀ {ps : List (Int × Int)}, (∀ q ∈ ps, ¬ q.1 = x) → Op.lookupswitch.offset ps dflt x = dflt := by
  intro ps
  induction ps with
  | nil => intro _; rfl
  | cons q ps ih =>
    intro h
    have h1 := h q (List.mem_cons_self)
    have h2 := ih (fun r hr => h r (List.mem_cons_of_mem _ hr))
    obtain ⟨a, b⟩ := q
    rw [Op.lookupswitch.offset_cons, if_neg h1]
    exact h2
theorem ns_lsd {dflt : Int} {ps : Array (Int × Int)} {t : Nat} (hp : (ps.toList.zip (ps.toList.drop 1)).all (fun (a, next) => a.1 < next.1) = true) (hx : ∀ q ∈ ps.toList, ¬ q.1 = X) (ht : mi_tg pc dflt = some t) : nk_st nL (.lookupswitch dflt ps) pc L (nk_i X :: st) t L st := by
  intro lv vs hl h0
  match vs, h0 with
  | u :: vs, ⟨⟨x, e3, e4⟩, hs⟩ =>
    subst e3; subst e4
    refine ⟨lv, vs, ?_, hl, hs⟩
    simp only [mi_pure]
    rw [if_pos hp, ns_lsd_off hx, ht]; rfl
end NP
section NKK
variable {T : List nk_D} {Γ : Nat → Option mi_Me} {ev : mi_Ev} {q j pc pc' : Nat} {L L' : nk_L} {st st' : List nk_V} {S : nk_S} {R : Int × nk_S} {M : mi_Me} {i : Instr} {len : Nat} {X Y : Int}
/-- a step that touches no cell -/
theorem nk_p {pc0 : Nat} (hj : Γ j = some M) (hf : mi_ft M.2.2.2.2.1 pc = some (i, len)) (hs : nk_st M.2.2.1 i pc L st pc0 L' st') (hpc : pc0 = pc') (k : nk_K T Γ ev q j pc' L' st' S R) : nk_K T Γ ev q j pc L st S R := by
  subst hpc
  intro lv vs h sl hl hv hr
  obtain ⟨lv', vs', e, hl', hv'⟩ := hs lv vs hl hv
  exact mk_p hj hf e (k lv' vs' h sl hl' hv' hr)
/-- what is known of the locals is chosen -/
theorem nk_sub (is : List Nat) (hL : nk_sel L is = L') (k : nk_K T Γ ev q j pc L' st S R) : nk_K T Γ ev q j pc L st S R := by
  intro lv vs h sl hl hv hr
  subst hL
  exact k lv vs h sl (fun q hq => hl q (nk_sel_mem hq)) hv hr
theorem nk_icmp {c : Jvm.ClassFile.Cond} {off : Int} {t : Nat} (hj : Γ j = some M) (hf : mi_ft M.2.2.2.2.1 pc = some (.if_icmp c off, len)) (ht : mi_tg pc off = some t) (hpc : pc + 3 = pc') (a : nk_cq c X Y → nk_K T Γ ev q j t L st S R) (b : ¬ nk_cq c X Y → nk_K T Γ ev q j pc' L st S R) : nk_K T Γ ev q j pc L (nk_i Y :: nk_i X :: st) S R := by
  subst hpc
  by_cases h : nk_cq c X Y
  · exact nk_p hj hf (ns_icmp true ht ⟨fun _ => h, fun _ => rfl⟩) rfl (a h)
  · exact nk_p hj hf (ns_icmp false ht ⟨fun e => (by cases e), fun e => absurd e h⟩) rfl (b h)
theorem nk_icond {c : Jvm.ClassFile.Cond} {off : Int} {t : Nat} (hj : Γ j = some M) (hf : mi_ft M.2.2.2.2.1 pc = some (.ifCond c off, len)) (ht : mi_tg pc off = some t) (hpc : pc + 3 = pc') (a : nk_cq c X 0 → nk_K T Γ ev q j t L st S R) (b : ¬ nk_cq c X 0 → nk_K T Γ ev q j pc' L st S R) : nk_K T Γ ev q j pc L (nk_i X :: st) S R := by
  subst hpc
  by_cases h : nk_cq c X 0
  · exact nk_p hj hf (ns_icond true ht ⟨fun _ => h, fun _ => rfl⟩) rfl (a h)
  · exact nk_p hj hf (ns_icond false ht ⟨fun e => (by cases e), fun e => absurd e h⟩) rfl (b h)
theorem nk_cmp_q {c : Jvm.ClassFile.Cond} {x y : Int} : nk_cq c (nk_cmp x y) 0 ↔ nk_cq c x y := by
  unfold nk_cmp
  cases c <;> simp only [nk_cq] <;> (split <;> try split) <;> omega
/-- lcmp and the jump behind it -/
theorem nk_lcond {c : Jvm.ClassFile.Cond} {off : Int} {t : Nat} (hj : Γ j = some M) (hf : mi_ft M.2.2.2.2.1 pc = some (.ifCond c off, len)) (ht : mi_tg pc off = some t) (hpc : pc + 3 = pc') (a : nk_cq c X Y → nk_K T Γ ev q j t L st S R) (b : ¬ nk_cq c X Y → nk_K T Γ ev q j pc' L st S R) : nk_K T Γ ev q j pc L (nk_i (nk_cmp X Y) :: st) S R :=
  nk_icond hj hf ht hpc (fun h => a (nk_cmp_q.mp h)) (fun h => b (fun e => h (nk_cmp_q.mpr e)))
end NKK
