/-! The run: one machine for both sides. -/
/-- a value: 0 unset, 1 a number, 2 no object (0) or object n (n + 1) -/
abbrev jV : Type := Nat × Int
structure jM where
  d : Nat
  pc : Nat → Nat
  hs : Nat → Nat
  vs : Nat → Nat → jV
  n : Nat
  si : Nat → Nat
  ba : Nat → Nat
  me : Nat → jV
  rd : Nat
  ow : Nat
  ou : Nat → Int
def gU {α : Type} (f : Nat → α) (k : Nat) (v : α) : Nat → α := fun i => if i = k then v else f i
theorem gU_at {α : Type} {f : Nat → α} {k : Nat} {v : α} : gU f k v k = v := if_pos rfl
theorem gU_ne {α : Type} {f : Nat → α} {k i : Nat} {v : α} (h : i ≠ k) : gU f k v i = f i := if_neg h
namespace jM
/-- a slot of the body that runs is written -/
def sto (m : jM) (k : Nat) (v : jV) : jM := { m with vs := gU m.vs m.d (gU (m.vs m.d) k v) }
def psh (m : jM) (v : jV) : jM := { m with hs := gU m.hs m.d (m.hs m.d + 1), vs := gU m.vs m.d (gU (m.vs m.d) (12 + m.hs m.d) v) }
def drp (m : jM) (k : Nat) : jM := { m with hs := gU m.hs m.d (m.hs m.d - k) }
def go (m : jM) (j : Nat) : jM := { m with pc := gU m.pc m.d j }
def nxt (m : jM) : jM := m.go (m.pc m.d + 1)
def lev (m : jM) (k : Nat) (v : jV) : jM := ((m.drp k).psh v).nxt
/-- the slot that stands there from the top on, 0 the highest -/
def top (m : jM) (k : Nat) : jV := m.vs m.d (11 + m.hs m.d - k)
def loc (m : jM) (k : Nat) : jV := m.vs m.d k
/-- how large an object is -/
def ext (m : jM) (o : Nat) : Nat := m.ba (o + 1) - m.ba o
end jM
/-- what an instruction does -/
inductive jE where
  | go (m : jM)
  | rz (e : Nat)
  | th (r : Nat)
  | st (how : Nat)
/-- what it calculates -/
def mCl (o : Nat) (a b : Int) : Int :=
  if o = 8 then nk_w (a + b) else if o = 9 then nk_w (a - b) else if o = 10 then nk_w (a * b) else if o = 11 then (if b = -1 then nk_w (-a) else nk_idiv a b) else if o = 12 then (if b = -1 then 0 else nk_irem a b) else if o = 13 then nk_iand a b else if o = 14 then nk_ior a b else if o = 15 then nk_ixor a b else if o = 16 then nk_ishl a (nk_iand b 31) else nk_ishr a (nk_iand b 31)
/-- does it go the way -/
def mWy (o : Nat) (a b : jV) : Bool :=
  if o = 20 ∨ o = 28 then decide (a.2 = b.2) else if o = 21 ∨ o = 29 then decide (a.2 ≠ b.2) else if o = 22 then decide (a.2 < b.2) else if o = 23 then decide (a.2 ≤ b.2) else if o = 24 then decide (b.2 < a.2) else if o = 25 then decide (b.2 ≤ a.2) else if o = 26 then decide (b.2 = 0) else decide (b.2 ≠ 0)
/-- where a field stands in an object -/
def fPl (p : jP) (f : Nat) : Nat := match p.2.2.1[f]? with
  | none => 0
  | some y => nUp p.2.1 p.2.2.1 y.2.1 + cntF (p.2.2.1.take f) y.2.1
/-- is a place of an object of a class a number's -/
def fNm (p : jP) (c q : Nat) : Bool := exB (fun f => match p.2.2.1[f]? with
  | none => false
  | some y => anc p.2.1 c y.2.1 && decide (y.2.2 = 1) && decide (fPl p f = q)) 48
/-- what a new object holds -/
def mIn (p : jP) (s q : Nat) : jV := if tAr (sTp p.2.2.2.2.1 s) = true then (if sTp p.2.2.2.2.1 s = 3 then (1, 0) else (2, 0)) else if fNm p (cl (sTp p.2.2.2.2.1 s)) q = true then (1, 0) else (2, 0)
/-- a new object, if there is room -/
def mMk (p : jP) (m : jM) (s sz : Nat) : Option jM := if 2000 ≤ m.n ∨ 12000 < m.ba m.n + sz then none else some { m with n := m.n + 1, si := gU m.si m.n s, ba := gU m.ba (m.n + 1) (m.ba m.n + sz), me := fun j => if m.ba m.n ≤ j ∧ j < m.ba m.n + sz then mIn p s (j - m.ba m.n) else m.me j }
/-- the type of an object -/
def mTp (p : jP) (m : jM) (r : Int) : Int := sTp p.2.2.2.2.1 (m.si (r.toNat - 1))
/-- a body is entered -/
def mE0 (p : jP) (b : Nat) : Nat := match p.2.2.2.2.2[b]? with
  | none => 0
  | some e => e.1
def mEn (p : jP) (m : jM) (b n : Nat) : jM := { m with d := m.d + 1, pc := gU m.pc (m.d + 1) (mE0 p b), hs := gU (gU m.hs m.d (m.hs m.d - n)) (m.d + 1) 0, vs := gU m.vs (m.d + 1) (fun k => if k < n then m.vs m.d (12 + m.hs m.d - n + k) else (0, 0)) }
/-- what an instruction does -/
def mEf (p : jP) (inp : Nat → Int) (m : jM) (i : Nat) (x : jC) : jE :=
  if x.1 = 0 then .go (m.lev 0 (1, x.2.1))
  else if x.1 = 1 then .go (m.lev 0 (2, 0))
  else if x.1 = 2 then .go (m.lev 0 (m.loc x.2.1.toNat))
  else if x.1 = 3 then .go (((m.sto x.2.1.toNat (m.top 0)).drp 1).nxt)
  else if x.1 = 4 then .go ((m.sto x.2.1.toNat (1, nk_w ((m.loc x.2.1.toNat).2 + x.2.2.1))).nxt)
  else if x.1 = 5 then .go (m.lev 0 (m.top 0))
  else if x.1 = 6 then .go ((m.drp 1).nxt)
  else if x.1 = 7 then .go (((m.sto (11 + m.hs m.d) (m.top 1)).sto (10 + m.hs m.d) (m.top 0)).nxt)
  else if x.1 ≤ 17 then (if (x.1 = 11 ∨ x.1 = 12) ∧ (m.top 0).2 = 0 then .rz 3 else .go (m.lev 2 (1, mCl x.1 (m.top 1).2 (m.top 0).2)))
  else if x.1 = 18 then .go (m.lev 1 (1, nk_w (-(m.top 0).2)))
  else if x.1 = 19 then .go (m.go x.2.1.toNat)
  else if x.1 ≤ 29 then .go ((m.drp (tkT x.1)).go (if mWy x.1 (m.top 1) (m.top 0) = true then x.2.1.toNat else i + 1))
  else if x.1 = 30 then (match mMk p m x.2.2.1.toNat (nOf p.2.1 p.2.2.1 x.2.1.toNat) with
    | none => .st 3
    | some m' => .go (m'.lev 0 (2, ((m.n + 1 : Nat) : Int))))
  else if x.1 = 31 then (if (m.top 0).2 < 0 then .rz 2 else match mMk p m x.2.2.1.toNat (m.top 0).2.toNat with
    | none => .st 3
    | some m' => .go (m'.lev 1 (2, ((m.n + 1 : Nat) : Int))))
  else if x.1 = 32 then (if (m.top 0).2 = 0 then .rz 0 else .go (m.lev 1 (1, (m.ext ((m.top 0).2.toNat - 1) : Int))))
  else if x.1 = 33 then (if (m.top 1).2 = 0 then .rz 0 else if (m.top 0).2 < 0 ∨ (m.ext ((m.top 1).2.toNat - 1) : Int) ≤ (m.top 0).2 then .rz 1 else .go (m.lev 2 (m.me (m.ba ((m.top 1).2.toNat - 1) + (m.top 0).2.toNat))))
  else if x.1 = 34 then (if (m.top 2).2 = 0 then .rz 0 else if (m.top 1).2 < 0 ∨ (m.ext ((m.top 2).2.toNat - 1) : Int) ≤ (m.top 1).2 then .rz 1 else if tEl (mTp p m (m.top 2).2) ≠ 1 ∧ (m.top 0).2 ≠ 0 ∧ tLe p.2.1 (mTp p m (m.top 0).2) (tEl (mTp p m (m.top 2).2)) = false then .rz 5 else .go ((({ m with me := gU m.me (m.ba ((m.top 2).2.toNat - 1) + (m.top 1).2.toNat) (m.top 0) } : jM).drp 3).nxt))
  else if x.1 = 35 then (if (m.top 0).2 = 0 then .rz 0 else .go (m.lev 1 (m.me (m.ba ((m.top 0).2.toNat - 1) + fPl p x.2.1.toNat))))
  else if x.1 = 36 then (if (m.top 1).2 = 0 then .rz 0 else .go ((({ m with me := gU m.me (m.ba ((m.top 1).2.toNat - 1) + fPl p x.2.1.toNat) (m.top 0) } : jM).drp 2).nxt))
  else if x.1 = 37 then (if (m.top 0).2 = 0 ∨ tLe p.2.1 (mTp p m (m.top 0).2) x.2.1 = true then .go m.nxt else .rz 4)
  else if x.1 = 38 then .go (m.lev 1 (1, if (m.top 0).2 ≠ 0 ∧ tLe p.2.1 (mTp p m (m.top 0).2) x.2.1 = true then 1 else 0))
  else if x.1 = 39 then (if 63 ≤ m.d then .st 4 else .go (mEn p m x.2.1.toNat (tkX p.2.2.2.1 x)))
  else if x.1 = 40 then (if (m.top (tkX p.2.2.2.1 x - 1)).2 = 0 then .rz 0 else if 63 ≤ m.d then .st 4 else .go (mEn p m (match p.2.2.2.1[x.2.1.toNat]? with
    | none => 0
    | some y => (rnS p.2.1 p.2.2.2.1 (cl (mTp p m (m.top (tkX p.2.2.2.1 x - 1)).2)) y).toNat) (tkX p.2.2.2.1 x)))
  else if x.1 = 41 then (if (m.top 0).2 = 0 then .rz 0 else .th (m.top 0).2.toNat)
  else if x.1 = 42 then (if m.d = 0 then .st 0 else .go (({ m with d := m.d - 1 } : jM).psh (m.top 0)).nxt)
  else if x.1 = 43 then (if m.d = 0 then .st 0 else .go ({ m with d := m.d - 1 } : jM).nxt)
  else if x.1 = 44 then .go (({ m with rd := m.rd + 1 } : jM).lev 0 (1, inp m.rd))
  else .go ((({ m with ow := m.ow + 1, ou := if m.ow < 256 then gU m.ou m.ow (m.top 0).2 else m.ou } : jM).drp 1).nxt)
/-- the first catch that takes an object of a type -/
def mCt (p : jP) (i : Nat) (t : Int) : Nat → Nat → Option Nat
  | 0, _ => none
  | c + 1, k => match p.2.2.2.2.1.2.2.1[k]?, p.2.2.2.2.1.1[i]? with
    | some y, some x => if (y.1 = x.2.2.2.1 ∧ y.2.1 ≤ i ∧ i < y.2.2.1) ∧ tLe p.2.1 t (4 + 2 * (y.2.2.2.2 : Int)) = true then some y.2.2.2.1 else mCt p i t c (k + 1)
    | _, _ => mCt p i t c (k + 1)
/-- an object is thrown: the catch that takes it -/
def mTs (p : jP) (r : Nat) : Nat → jM → Option jM
  | 0, _ => none
  | c + 1, m => match mCt p (m.pc m.d) (sTp p.2.2.2.2.1 (m.si (r - 1))) p.2.2.2.2.1.2.2.1.length 0 with
    | some j => some ((({ m with hs := gU m.hs m.d 0 } : jM).psh (2, (r : Int))).go j)
    | none => if m.d = 0 then none else mTs p r c { m with d := m.d - 1 }
/-- what comes of a step -/
inductive jT where
  | run (m : jM)
  | fin (how : Nat) (site : Int) (m : jM)
/-- throws -/
def mTw (p : jP) (m : jM) (r : Nat) : jT := match mTs p r 64 m with
  | some m' => .run m'
  | none => .fin 1 (m.si (r - 1) : Int) m
/-- one step -/
def mSp (p : jP) (inp : Nat → Int) (m : jM) (i : Nat) (x : jC) : jT := match mEf p inp m i x with
  | .go m' => .run m'
  | .st how => .fin how (-1) m
  | .th r => mTw p m r
  | .rz e => match mMk p m (48 + e) 0 with
    | none => .fin 3 (-1) m
    | some m' => mTw p m' (m.n + 1)
