/-! The run: one machine for both sides. -/
/-- a value: 0 unset, 1 a number, 2 no object (0) or object n (n + 1) -/
abbrev jV : Type := Nat × Int
abbrev jM : Type := Nat × (Nat → Nat) × (Nat → Nat) × (Nat → Nat → jV) × (Nat × (Nat → Nat) × (Nat → Nat) × (Nat → jV)) × Nat × Nat × (Nat → Int)
abbrev jM.d (m : jM) : Nat := m.1
abbrev jM.pc (m : jM) : Nat → Nat := m.2.1
abbrev jM.hs (m : jM) : Nat → Nat := m.2.2.1
abbrev jM.vs (m : jM) : Nat → Nat → jV := m.2.2.2.1
abbrev jM.n (m : jM) : Nat := m.2.2.2.2.1.1
abbrev jM.si (m : jM) : Nat → Nat := m.2.2.2.2.1.2.1
abbrev jM.ba (m : jM) : Nat → Nat := m.2.2.2.2.1.2.2.1
abbrev jM.me (m : jM) : Nat → jV := m.2.2.2.2.1.2.2.2
abbrev jM.rd (m : jM) : Nat := m.2.2.2.2.2.1
abbrev jM.ow (m : jM) : Nat := m.2.2.2.2.2.2.1
abbrev jM.ou (m : jM) : Nat → Int := m.2.2.2.2.2.2.2
def gU {α : Type} (f : Nat → α) (k : Nat) (v : α) : Nat → α := fun i => if i = k then v else f i
theorem gU_at {α : Type} {f : Nat → α} {k : Nat} {v : α} : gU f k v k = v := if_pos rfl
theorem gU_ne {α : Type} {f : Nat → α} {k i : Nat} {v : α} (h : i ≠ k) : gU f k v i = f i := if_neg h
/-- a slot of the body that runs is written -/
def jM.sto (m : jM) (k : Nat) (v : jV) : jM := (m.d, m.pc, m.hs, gU m.vs m.d (gU (m.vs m.d) k v), m.2.2.2.2)
def jM.psh (m : jM) (v : jV) : jM := (m.d, m.pc, gU m.hs m.d (m.hs m.d + 1), gU m.vs m.d (gU (m.vs m.d) (12 + m.hs m.d) v), m.2.2.2.2)
def jM.drp (m : jM) (k : Nat) : jM := (m.d, m.pc, gU m.hs m.d (m.hs m.d - k), m.2.2.2)
def jM.go (m : jM) (j : Nat) : jM := (m.d, gU m.pc m.d j, m.2.2)
def jM.nxt (m : jM) : jM := m.go (m.pc m.d + 1)
def jM.lev (m : jM) (k : Nat) (v : jV) : jM := ((m.drp k).psh v).nxt
/-- a cell of the heap is written -/
def jM.wme (m : jM) (j : Nat) (v : jV) : jM := (m.d, m.pc, m.hs, m.vs, (m.n, m.si, m.ba, gU m.me j v), m.2.2.2.2.2)
/-- back to the body that called -/
def jM.bck (m : jM) : jM := (m.d - 1, m.2)
/-- the slot that stands there from the top on, 0 the highest -/
def jM.top (m : jM) (k : Nat) : jV := m.vs m.d (11 + m.hs m.d - k)
def jM.loc (m : jM) (k : Nat) : jV := m.vs m.d k
/-- how large an object is -/
def jM.ext (m : jM) (o : Nat) : Nat := m.ba (o + 1) - m.ba o
/-- what an instruction does: it goes on, raises an error, throws, ends the run -/
abbrev jE : Type := jM ⊕ Nat ⊕ Nat ⊕ Nat
def jE.go (m : jM) : jE := .inl m
def jE.rz (e : Nat) : jE := .inr (.inl e)
def jE.th (r : Nat) : jE := .inr (.inr (.inl r))
def jE.st (h : Nat) : jE := .inr (.inr (.inr h))
/-- what it calculates -/
def mCl (o : Nat) (a b : Int) : Int :=
  if o = 8 then nk_w (a + b) else if o = 9 then nk_w (a - b) else if o = 10 then nk_w (a * b) else if o = 11 then (if b = -1 then nk_w (-a) else nk_idiv a b) else if o = 12 then (if b = -1 then 0 else nk_irem a b) else if o = 13 then nk_iand a b else if o = 14 then nk_ior a b else if o = 15 then nk_ixor a b else if o = 16 then nk_ishl a (nk_iand b 31) else nk_ishr a (nk_iand b 31)
/-- does it go the way -/
def mWy (o : Nat) (a b : jV) : Bool :=
  if o = 20 ∨ o = 28 then decide (a.2 = b.2) else if o = 21 ∨ o = 29 then decide (a.2 ≠ b.2) else if o = 22 then decide (a.2 < b.2) else if o = 23 then decide (a.2 ≤ b.2) else if o = 24 then decide (b.2 < a.2) else if o = 25 then decide (b.2 ≤ a.2) else if o = 26 then decide (b.2 = 0) else decide (b.2 ≠ 0)
/-- where a field stands in an object -/
def fPl (p : jP) (f : Nat) : Nat := match p.2.2.1[f]? with
  | none => 0
  | some y => nUp p.2.1 p.2.2.1 y.2.1 + cntF (p.2.2.1.take f) y.2.1
/-- is a place of an object of a class a number's -/
def fNm (p : jP) (c q : Nat) : Bool := exB (fun f => match p.2.2.1[f]? with
  | none => false
  | some y => anc p.2.1 c y.2.1 && decide (y.2.2 = 1) && decide (fPl p f = q)) 48
/-- what a new object holds -/
def mIn (p : jP) (s q : Nat) : jV := if tAr (sTp p.2.2.2.2.1 s) = true then (if sTp p.2.2.2.2.1 s = 3 then (1, 0) else (2, 0)) else if fNm p (cl (sTp p.2.2.2.2.1 s)) q = true then (1, 0) else (2, 0)
/-- a new object, if there is room -/
def mMk (p : jP) (m : jM) (s sz : Nat) : Option jM := if 2000 ≤ m.n ∨ 12000 < m.ba m.n + sz then none else some (m.d, m.pc, m.hs, m.vs, (m.n + 1, gU m.si m.n s, gU m.ba (m.n + 1) (m.ba m.n + sz), fun j => if m.ba m.n ≤ j ∧ j < m.ba m.n + sz then mIn p s (j - m.ba m.n) else m.me j), m.2.2.2.2.2)
/-- the type of an object -/
def mTp (p : jP) (m : jM) (r : Int) : Int := sTp p.2.2.2.2.1 (m.si (r.toNat - 1))
/-- a body is entered -/
def mE0 (p : jP) (b : Nat) : Nat := match p.2.2.2.2.2[b]? with
  | none => 0
  | some e => e.1
def mEn (p : jP) (m : jM) (b n : Nat) : jM := (m.d + 1, gU m.pc (m.d + 1) (mE0 p b), gU (gU m.hs m.d (m.hs m.d - n)) (m.d + 1) 0, gU m.vs (m.d + 1) (fun k => if k < n then m.vs m.d (12 + m.hs m.d - n + k) else (0, 0)), m.2.2.2.2)
/-- what an instruction does -/
def mEf (p : jP) (inp : Nat → Int) (m : jM) (i : Nat) (x : jC) : jE :=
  if x.1 = 0 then jE.go (m.lev 0 (1, x.2.1))
  else if x.1 = 1 then jE.go (m.lev 0 (2, 0))
  else if x.1 = 2 then jE.go (m.lev 0 (m.loc x.2.1.toNat))
  else if x.1 = 3 then jE.go (((m.sto x.2.1.toNat (m.top 0)).drp 1).nxt)
  else if x.1 = 4 then jE.go ((m.sto x.2.1.toNat (1, nk_w ((m.loc x.2.1.toNat).2 + x.2.2.1))).nxt)
  else if x.1 = 5 then jE.go (m.lev 0 (m.top 0))
  else if x.1 = 6 then jE.go ((m.drp 1).nxt)
  else if x.1 = 7 then jE.go (((m.sto (11 + m.hs m.d) (m.top 1)).sto (10 + m.hs m.d) (m.top 0)).nxt)
  else if x.1 ≤ 17 then (if (x.1 = 11 ∨ x.1 = 12) ∧ (m.top 0).2 = 0 then jE.rz 3 else jE.go (m.lev 2 (1, mCl x.1 (m.top 1).2 (m.top 0).2)))
  else if x.1 = 18 then jE.go (m.lev 1 (1, nk_w (-(m.top 0).2)))
  else if x.1 = 19 then jE.go (m.go x.2.1.toNat)
  else if x.1 ≤ 29 then jE.go ((m.drp (tkT x.1)).go (if mWy x.1 (m.top 1) (m.top 0) = true then x.2.1.toNat else i + 1))
  else if x.1 = 30 then (match mMk p m x.2.2.1.toNat (nOf p.2.1 p.2.2.1 x.2.1.toNat) with
    | none => jE.st 3
    | some m' => jE.go (m'.lev 0 (2, ((m.n + 1 : Nat) : Int))))
  else if x.1 = 31 then (if (m.top 0).2 < 0 then jE.rz 2 else match mMk p m x.2.2.1.toNat (m.top 0).2.toNat with
    | none => jE.st 3
    | some m' => jE.go (m'.lev 1 (2, ((m.n + 1 : Nat) : Int))))
  else if x.1 = 32 then (if (m.top 0).2 = 0 then jE.rz 0 else jE.go (m.lev 1 (1, (m.ext ((m.top 0).2.toNat - 1) : Int))))
  else if x.1 = 33 then (if (m.top 1).2 = 0 then jE.rz 0 else if (m.top 0).2 < 0 ∨ (m.ext ((m.top 1).2.toNat - 1) : Int) ≤ (m.top 0).2 then jE.rz 1 else jE.go (m.lev 2 (m.me (m.ba ((m.top 1).2.toNat - 1) + (m.top 0).2.toNat))))
  else if x.1 = 34 then (if (m.top 2).2 = 0 then jE.rz 0 else if (m.top 1).2 < 0 ∨ (m.ext ((m.top 2).2.toNat - 1) : Int) ≤ (m.top 1).2 then jE.rz 1 else if tEl (mTp p m (m.top 2).2) ≠ 1 ∧ (m.top 0).2 ≠ 0 ∧ tLe p.2.1 (mTp p m (m.top 0).2) (tEl (mTp p m (m.top 2).2)) = false then jE.rz 5 else jE.go (((m.wme (m.ba ((m.top 2).2.toNat - 1) + (m.top 1).2.toNat) (m.top 0)).drp 3).nxt))
  else if x.1 = 35 then (if (m.top 0).2 = 0 then jE.rz 0 else jE.go (m.lev 1 (m.me (m.ba ((m.top 0).2.toNat - 1) + fPl p x.2.1.toNat))))
  else if x.1 = 36 then (if (m.top 1).2 = 0 then jE.rz 0 else jE.go (((m.wme (m.ba ((m.top 1).2.toNat - 1) + fPl p x.2.1.toNat) (m.top 0)).drp 2).nxt))
  else if x.1 = 37 then (if (m.top 0).2 = 0 ∨ tLe p.2.1 (mTp p m (m.top 0).2) x.2.1 = true then jE.go m.nxt else jE.rz 4)
  else if x.1 = 38 then jE.go (m.lev 1 (1, if (m.top 0).2 ≠ 0 ∧ tLe p.2.1 (mTp p m (m.top 0).2) x.2.1 = true then 1 else 0))
  else if x.1 = 39 then (if 63 ≤ m.d then jE.st 4 else jE.go (mEn p m x.2.1.toNat (tkX p.2.2.2.1 x)))
  else if x.1 = 40 then (if (m.top (tkX p.2.2.2.1 x - 1)).2 = 0 then jE.rz 0 else if 63 ≤ m.d then jE.st 4 else jE.go (mEn p m (match p.2.2.2.1[x.2.1.toNat]? with
    | none => 0
    | some y => (rnS p.2.1 p.2.2.2.1 (cl (mTp p m (m.top (tkX p.2.2.2.1 x - 1)).2)) y).toNat) (tkX p.2.2.2.1 x)))
  else if x.1 = 41 then (if (m.top 0).2 = 0 then jE.rz 0 else jE.th (m.top 0).2.toNat)
  else if x.1 = 42 then (if m.d = 0 then jE.st 0 else jE.go (m.bck.psh (m.top 0)).nxt)
  else if x.1 = 43 then (if m.d = 0 then jE.st 0 else jE.go m.bck.nxt)
  else if x.1 = 44 then jE.go (jM.lev (m.d, m.pc, m.hs, m.vs, m.2.2.2.2.1, m.rd + 1, m.2.2.2.2.2.2) 0 (1, inp m.rd))
  else jE.go ((jM.drp (m.d, m.pc, m.hs, m.vs, m.2.2.2.2.1, m.rd, m.ow + 1, if m.ow < 256 then gU m.ou m.ow (m.top 0).2 else m.ou) 1).nxt)
/-- the first catch that takes an object of a type -/
def mCt (p : jP) (i : Nat) (t : Int) : Nat → Nat → Option Nat
  | 0, _ => none
  | c + 1, k => match p.2.2.2.2.1.2.2.1[k]?, p.2.2.2.2.1.1[i]? with
    | some y, some x => if (y.1 = x.2.2.2.1 ∧ y.2.1 ≤ i ∧ i < y.2.2.1) ∧ tLe p.2.1 t (4 + 2 * (y.2.2.2.2 : Int)) = true then some y.2.2.2.1 else mCt p i t c (k + 1)
    | _, _ => mCt p i t c (k + 1)
/-- an object is thrown: the catch that takes it -/
def mTs (p : jP) (r : Nat) : Nat → jM → Option jM
  | 0, _ => none
  | c + 1, m => match mCt p (m.pc m.d) (sTp p.2.2.2.2.1 (m.si (r - 1))) p.2.2.2.2.1.2.2.1.length 0 with
    | some j => some (((m.drp (m.hs m.d)).psh (2, (r : Int))).go j)
    | none => if m.d = 0 then none else mTs p r c m.bck
/-- what comes of a step: the run goes on, or it ends -/
abbrev jT : Type := jM ⊕ (Nat × Int × jM)
/-- throws -/
def mTw (p : jP) (m : jM) (r : Nat) : jT := match mTs p r 64 m with
  | some m' => .inl m'
  | none => .inr (1, (m.si (r - 1) : Int), m)
/-- one step -/
def mSp (p : jP) (inp : Nat → Int) (m : jM) (i : Nat) (x : jC) : jT := match mEf p inp m i x with
  | .inl m' => .inl m'
  | .inr (.inr (.inr how)) => .inr (how, -1, m)
  | .inr (.inr (.inl r)) => mTw p m r
  | .inr (.inl e) => match mMk p m (48 + e) 0 with
    | none => .inr (3, -1, m)
    | some m' => mTw p m' (m.n + 1)
