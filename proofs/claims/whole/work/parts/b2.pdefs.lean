/-! The proof: what an instruction does to what is known. -/
abbrev jG : Type := (Nat → Option jW) × (Nat → Bool) × (Nat → Nat → Bool)
abbrev jZ : Type := (Int → Int) × (Int → Int) × jP × (Nat → Nat)
abbrev zDn (G : jZ) : Int → Int := G.1
abbrev zUp (G : jZ) : Int → Int := G.2.1
abbrev zUs (G : jZ) : List Int := G.2.2.1.2.1
abbrev zFl (G : jZ) : List (List Int × Nat × Int) := G.2.2.1.2.2.1
abbrev zBl (G : jZ) : List jB := G.2.2.1.2.2.2.1
abbrev zZ (G : jZ) : jL := G.2.2.1.2.2.2.2.1
abbrev zEl (G : jZ) : List (Nat × Nat × Nat × Nat) := G.2.2.1.2.2.2.2.2
abbrev zH (G : jZ) : Nat → Nat := G.2.2.2
def wRg (w : jW) (r : jR) : jW := (w.1, r, w.2.2)
def wSt (w : jW) (s : Nat → Bool) : jW := (w.1, w.2.1, s, w.2.2.2)
def wCp (w : jW) (c : Option Nat) : jW := (w.1, w.2.1, w.2.2.1, c, w.2.2.2.2)
def wFc (w : jW) (f : Nat → Bool) : jW := (w.1, w.2.1, w.2.2.1, w.2.2.2.1, f)
/-- without copy and facts -/
def wBr (w : jW) : jW := (w.1, w.2.1, w.2.2.1, none, noS)
def sMi (a c : Nat → Bool) : Nat → Bool := fun j => a j && !c j
def sEx (s : Nat → Bool) : Bool := exB s 63
/-- all sites -/
def sAl : Nat → Bool := fun j => decide (j < 54)
/-- of a copied local one bit -/
def oOn (c : Option Nat) (b : Nat) : Nat → Bool := match c with
  | none => noS
  | some k => onS (b + k)
/-- the type of a site -/
def sTp (z : jL) (s : Nat) : Int := if s < z.2.1.length then z.2.1.getD s 0 else 4 + 2 * ((s : Int) - 46)
def sVd (z : jL) (s : Nat) : Bool := decide (s < z.2.1.length) || (decide (48 ≤ s) && decide (s < 54))
/-- the sites of a type -/
def pB (us : List Int) (z : jL) (t : Int) : Nat → Bool := fun s => sVd z s && tLe us (sTp z s) t
/-- a local changes -/
def wCh (w : jW) (a : Nat) : jW := (w.1, w.2.1, w.2.2.1, (if w.2.2.2.1 = some a then none else w.2.2.2.1), fun j => w.2.2.2.2 j && !decide (j % 12 = a))
def qCh (u : jQ) (a : Nat) : jQ := fun s => wCh (u s) a
/-- the local that is copied keeps these sites -/
def qKp (u : jQ) (s : Nat) (K : Nat → Bool) : Option jQ := match (u s).2.2.2.1 with
  | none => some u
  | some k => if sEx (sAnd (u k).2.2.1 K) = true then some (qUp u k (wSt (u k) (sAnd (u k).2.2.1 K))) else none
/-- the local that is copied is narrowed -/
def qNr (u : jQ) (s : Nat) (r : jR) (f : Nat → Bool) : Option jQ := match (u s).2.2.2.1 with
  | none => some u
  | some k => match kCom (u k).2.1 r with
    | none => none
    | some q => some (qUp u k (wFc (wRg (u k) q) (sOr (u k).2.2.2.2 f)))
def pDr (u : jQ) (r : Nat) : Option jQ := if sEx (sAnd (u r).2.2.1 sAl) = true then qKp u r sAl else none
def oJ : Option jW → Option jW → Option jW
  | none, o => o
  | some a, none => some a
  | some a, some c => some (wJn a c)
/-- what the sites hold -/
def fJ (f : Nat → Option jW) (s : Nat → Bool) : Nat → Option jW
  | 0 => none
  | n + 1 => oJ (fJ f s n) (if s n = true then f n else none)
def iS (f : Nat → Bool) : Nat → Bool := fun j => decide (j < 36) && f j
/-- the comparing of numbers: what is known on a way -/
def pOrd (dn up : Int → Int) (u : jQ) (a c : Nat) (less : Bool) : Option jQ := match kCut dn up (u a).2.1 (-2147483648) ((u c).2.1.2 - (if less = true then 1 else 0)), kCut dn up (u c).2.1 ((u a).2.1.1 + (if less = true then 1 else 0)) 2147483647 with
  | some l, some r => some (qUp (qUp u a (wFc (wRg (u a) l) (fun j => (u a).2.2.2.2 j || (decide (j < 24) && (u c).2.2.2.2 j) || (less && decide (12 ≤ j) && decide (j < 24) && (u c).2.2.2.2 (j + 12)) || (less && oOn (u c).2.2.2.1 0 j)))) c (wRg (u c) r))
  | _, _ => none
def pEq (u : jQ) (a c : Nat) : Option jQ := match kCom (u a).2.1 (u c).2.1 with
  | some r => some (qUp (qUp u a (wFc (wRg (u a) r) (sOr (u a).2.2.2.2 (iS (sOr (u a).2.2.2.2 (u c).2.2.2.2))))) c (wFc (wRg (u c) r) (sOr (u c).2.2.2.2 (iS (sOr (u a).2.2.2.2 (u c).2.2.2.2)))))
  | none => none
def pNe (dn up : Int → Int) (u : jQ) (a c : Nat) : Option jQ := match kWo dn up (u a).2.1 (u c).2.1, kWo dn up (u c).2.1 (u a).2.1 with
  | some l, some r => some (qUp (qUp u a (wRg (u a) l)) c (wRg (u c) r))
  | _, _ => none
def qPs (u : jQ) (s : Nat) : Option jQ := qNr u s (u s).2.1 (iS (u s).2.2.2.2)
def oB {α β : Type} (o : Option α) (f : α → Option β) : Option β := match o with
  | none => none
  | some a => f a
/-- the way on which a relation holds -/
def pWy (dn up : Int → Int) (rl : Nat) (u : jQ) (h : Nat) : Option jQ :=
  if rl ≤ 25 then oB (if rl = 20 then pEq u (12 + h - 2) (12 + h - 1) else if rl = 21 then pNe dn up u (12 + h - 2) (12 + h - 1) else if rl = 22 then pOrd dn up u (12 + h - 2) (12 + h - 1) true else if rl = 23 then pOrd dn up u (12 + h - 2) (12 + h - 1) false else if rl = 24 then pOrd dn up u (12 + h - 1) (12 + h - 2) true else pOrd dn up u (12 + h - 1) (12 + h - 2) false) fun v => oB (qPs v (12 + h - 2)) fun v => qPs v (12 + h - 1)
  else if rl = 26 ∨ rl = 27 then (if sEx (sAnd (u (12 + h - 1)).2.2.1 (if rl = 26 then onS 62 else sAl)) = true then qKp u (12 + h - 1) (if rl = 26 then onS 62 else sAl) else none)
  else if rl = 28 then (if sEx (sAnd (u (12 + h - 2)).2.2.1 (u (12 + h - 1)).2.2.1) = true then oB (qKp u (12 + h - 2) (sAnd (u (12 + h - 2)).2.2.1 (u (12 + h - 1)).2.2.1)) fun v => qKp v (12 + h - 1) (sAnd (u (12 + h - 2)).2.2.1 (u (12 + h - 1)).2.2.1) else none)
  else some u
/-- what an array or field of a type holds at first -/
def wNl (t : Int) : jW := if t = 1 then wR (0, 0) else wS (onS 62)
/-- the lengths of what a slot means -/
def pLn (σ : jG) (s : Nat → Bool) : Option jW := fJ (fun k => σ.1 (2646 + k)) s 54
/-- is an index known to be below the length -/
def pUn (u : jQ) (r x : Nat) (l : jR) : Bool := (match (u r).2.2.2.1 with
  | none => false
  | some k => (u x).2.2.2.2 (12 + k)) || exB (fun j => (u x).2.2.2.2 j && (u r).2.2.2.2 (36 + j)) 12 || decide ((u x).2.1.2 < l.1)
/-- the index is looked at -/
def pIx (dn up : Int → Int) (σ : jG) (u : jQ) (r x : Nat) : Option jQ := match pLn σ (u r).2.2.1 with
  | none => none
  | some l => match kCut dn up (u x).2.1 0 (l.2.1.2 - 1) with
    | none => none
    | some q => qNr u x q (oOn (u r).2.2.2.1 12)
def pIr (σ : jG) (u : jQ) (r x : Nat) : Bool := match pLn σ (u r).2.2.1 with
  | none => false
  | some l => decide ((u x).2.1.1 < 0) || !pUn u r x l.2.1
/-- what an array of a site can hold of a slot -/
def pHl (us : List Int) (z : jL) (s : Nat) (w : jW) : Option jW := if w.1 = 1 then some (wBr w) else if sEx (sAnd w.2.2.1 (sOr (pB us z (tEl (sTp z s))) (onS 62))) = true then some (wS (sAnd w.2.2.1 (sOr (pB us z (tEl (sTp z s))) (onS 62)))) else none
/-- the bodies that a call can mean -/
def pMt (us : List Int) (bl : List jB) (z : jL) (x : jC) (u : jQ) (low b : Nat) : Bool := if x.1 = 39 then decide (b = x.2.1.toNat) else match bl[x.2.1.toNat]? with
  | none => false
  | some y => exB (fun s => (u low).2.2.1 s && decide (rnS us bl (cl (sTp z s)) y = (b : Int))) 54
/-- what comes back from a call -/
def pRt (σ : jG) (m : Nat → Bool) : Option jW := fJ (fun b => if σ.2.1 b = true then σ.1 (2700 + b) else none) m 48
/-- what is known behind an instruction that is no comparison -/
def pGo (G : jZ) (σ : jG) (x : jC) (h : Nat) (u : jQ) : Option jQ :=
  if x.1 = 0 then some (qUp u (12 + h) (wR (x.2.1, x.2.1)))
  else if x.1 = 1 then some (qUp u (12 + h) (wS (onS 62)))
  else if x.1 = 2 then some (qUp u (12 + h) (wCp (u x.2.1.toNat) (some x.2.1.toNat)))
  else if x.1 = 3 then some (qUp (qCh u x.2.1.toNat) x.2.1.toNat (wCp (wCh (u (12 + h - 1)) x.2.1.toNat) none))
  else if x.1 = 4 then some (qUp (qCh u x.2.1.toNat) x.2.1.toNat (wR (kPlus (zDn G) (zUp G) (u x.2.1.toNat).2.1 x.2.2.1)))
  else if x.1 = 5 then some (qUp u (12 + h) (u (12 + h - 1)))
  else if x.1 = 6 ∨ x.1 = 45 ∨ x.1 = 19 then some u
  else if x.1 = 7 then some (qUp (qUp u (12 + h - 1) (u (12 + h - 2))) (12 + h - 2) (u (12 + h - 1)))
  else if 8 ≤ x.1 ∧ x.1 ≤ 17 then oB (kCalc (zDn G) (zUp G) x.1 (u (12 + h - 2)).2.1 (u (12 + h - 1)).2.1) fun r => some (qUp u (12 + h - 2) (wR r))
  else if x.1 = 18 then some (qUp u (12 + h - 1) (wR (kNeg (zDn G) (zUp G) (u (12 + h - 1)).2.1)))
  else if x.1 = 30 then some (qUp u (12 + h) (wS (onS x.2.2.1.toNat)))
  else if x.1 = 31 then (if (u (12 + h - 1)).2.1.2 < 0 then none else some (qUp u (12 + h - 1) (wFc (wS (onS x.2.2.1.toNat)) (oOn (u (12 + h - 1)).2.2.2.1 36))))
  else if x.1 = 32 then oB (pDr u (12 + h - 1)) fun v => oB (pLn σ (u (12 + h - 1)).2.2.1) fun l => some (qUp v (12 + h - 1) (wFc (wR l.2.1) (oOn (u (12 + h - 1)).2.2.2.1 24)))
  else if x.1 = 33 then oB (pDr u (12 + h - 2)) fun v => oB (pIx (zDn G) (zUp G) σ v (12 + h - 2) (12 + h - 1)) fun v' => oB (fJ (fun s => σ.1 (2592 + s)) (u (12 + h - 2)).2.2.1 54) fun l => some (qUp v' (12 + h - 2) l)
  else if x.1 = 34 then oB (pDr u (12 + h - 3)) fun v => oB (pIx (zDn G) (zUp G) σ v (12 + h - 3) (12 + h - 2)) fun v' => if exB (fun s => (u (12 + h - 3)).2.2.1 s && (pHl (zUs G) (zZ G) s (u (12 + h - 1))).isSome) 54 = true then some v' else none
  else if x.1 = 35 then oB (pDr u (12 + h - 1)) fun v => oB (fJ (fun s => σ.1 (s * 48 + x.2.1.toNat)) (u (12 + h - 1)).2.2.1 54) fun l => some (qUp v (12 + h - 1) l)
  else if x.1 = 36 then pDr u (12 + h - 2)
  else if x.1 = 37 then (if sEx (sAnd (u (12 + h - 1)).2.2.1 (sOr (pB (zUs G) (zZ G) x.2.1) (onS 62))) = true then qKp (qUp u (12 + h - 1) (wSt (u (12 + h - 1)) (sAnd (u (12 + h - 1)).2.2.1 (sOr (pB (zUs G) (zZ G) x.2.1) (onS 62))))) (12 + h - 1) (sAnd (u (12 + h - 1)).2.2.1 (sOr (pB (zUs G) (zZ G) x.2.1) (onS 62))) else none)
  else if x.1 = 38 then some (qUp u (12 + h - 1) (wR ((if sEx (sMi (u (12 + h - 1)).2.2.1 (pB (zUs G) (zZ G) x.2.1)) = true then 0 else 1), (if sEx (sAnd (u (12 + h - 1)).2.2.1 (pB (zUs G) (zZ G) x.2.1)) = true then 1 else 0))))
  else if x.1 = 39 ∨ x.1 = 40 then oB (if x.1 = 40 then pDr u (12 + h - tkX (zBl G) x) else some u) fun v => if exB (fun b => pMt (zUs G) (zBl G) (zZ G) x u (12 + h - tkX (zBl G) x) b && σ.2.1 b) 48 = true then (if lvX (zBl G) x = 0 then some v else oB (pRt σ (pMt (zUs G) (zBl G) (zZ G) x u (12 + h - tkX (zBl G) x))) fun l => some (qUp v (12 + h - tkX (zBl G) x) l)) else none
  else if x.1 = 44 then some (qUp u (12 + h) (wR rAll))
  else none
/-- what an instruction adds to the table of values -/
def pCo (G : jZ) (σ : jG) (x : jC) (h : Nat) (u : jQ) (k : Nat) : Option jW :=
  if x.1 = 30 then (if k < 2592 ∧ k / 48 = x.2.2.1.toNat then oB ((zFl G)[k % 48]?) fun y => if anc (zUs G) x.2.1.toNat y.2.1 = true then some (wNl y.2.2) else none else none)
  else if x.1 = 31 then (if (u (12 + h - 1)).2.1.2 < 0 then none else if k = 2646 + x.2.2.1.toNat then some (wR (max (u (12 + h - 1)).2.1.1 0, (u (12 + h - 1)).2.1.2)) else if k = 2592 + x.2.2.1.toNat then some (wNl x.2.1) else none)
  else if x.1 = 34 then oB (pDr u (12 + h - 3)) fun v => oB (pIx (zDn G) (zUp G) σ v (12 + h - 3) (12 + h - 2)) fun _ => if 2592 ≤ k ∧ k < 2646 ∧ (u (12 + h - 3)).2.2.1 (k - 2592) = true then pHl (zUs G) (zZ G) (k - 2592) (u (12 + h - 1)) else none
  else if x.1 = 36 then oB (pDr u (12 + h - 2)) fun _ => if k < 2592 ∧ k % 48 = x.2.1.toNat ∧ (u (12 + h - 2)).2.2.1 (k / 48) = true then some (wBr (u (12 + h - 1))) else none
  else if x.1 = 42 then (if k = 2700 + x.2.2.2.1 then some (wBr (u (12 + h - 1))) else none)
  else none
/-- the errors that an instruction can raise -/
def pRz (G : jZ) (σ : jG) (x : jC) (h : Nat) (u : jQ) (e : Nat) : Bool :=
  if e = 0 then (if x.1 = 32 ∨ x.1 = 35 ∨ x.1 = 41 then (u (12 + h - 1)).2.2.1 62 else if x.1 = 33 ∨ x.1 = 36 then (u (12 + h - 2)).2.2.1 62 else if x.1 = 34 then (u (12 + h - 3)).2.2.1 62 else if x.1 = 40 then (u (12 + h - tkX (zBl G) x)).2.2.1 62 else false)
  else if e = 1 then (if x.1 = 33 then (match pDr u (12 + h - 2) with
    | none => false
    | some v => pIr σ v (12 + h - 2) (12 + h - 1)) else if x.1 = 34 then (match pDr u (12 + h - 3) with
    | none => false
    | some v => pIr σ v (12 + h - 3) (12 + h - 2)) else false)
  else if e = 2 then decide (x.1 = 31) && decide ((u (12 + h - 1)).2.1.1 < 0)
  else if e = 3 then decide (x.1 = 11 ∨ x.1 = 12) && (decide ((u (12 + h - 1)).2.1.1 ≤ 0) && decide (0 ≤ (u (12 + h - 1)).2.1.2))
  else if e = 4 then decide (x.1 = 37) && sEx (sMi (sMi (u (12 + h - 1)).2.2.1 (pB (zUs G) (zZ G) x.2.1)) (onS 62))
  else if e = 5 then (if x.1 = 34 then (match pDr u (12 + h - 3) with
    | none => false
    | some v => match pIx (zDn G) (zUp G) σ v (12 + h - 3) (12 + h - 2) with
      | none => false
      | some _ => decide ((u (12 + h - 1)).1 ≠ 1) && exB (fun s => (u (12 + h - 3)).2.2.1 s && sEx (sMi (u (12 + h - 1)).2.2.1 (sOr (pB (zUs G) (zZ G) (tEl (sTp (zZ G) s))) (onS 62)))) 54) else false)
  else false
/-- what is thrown beside the errors -/
def pTh (G : jZ) (σ : jG) (x : jC) (h : Nat) (u : jQ) : Nat → Bool := fun s =>
  if x.1 = 41 then sAnd (u (12 + h - 1)).2.2.1 sAl s
  else if x.1 = 39 then exB (fun b => pMt (zUs G) (zBl G) (zZ G) x u (12 + h - tkX (zBl G) x) b && σ.2.2 b s) 48
  else if x.1 = 40 then (pDr u (12 + h - tkX (zBl G) x)).isSome && exB (fun b => pMt (zUs G) (zBl G) (zZ G) x u (12 + h - tkX (zBl G) x) b && σ.2.2 b s) 48
  else false
/-- what is thrown -/
def pLs (G : jZ) (σ : jG) (x : jC) (h : Nat) (u : jQ) : Nat → Bool := fun s => pTh G σ x h u s || (decide (48 ≤ s) && decide (s < 54) && pRz G σ x h u (s - 48))
/-- what the catches leave of it -/
def pLf (us : List Int) (z : jL) (b i : Nat) (L : Nat → Bool) : Nat → Nat → Bool
  | 0 => L
  | k + 1 => match z.2.2.1[k]? with
    | none => pLf us z b i L k
    | some y => if y.1 = b ∧ y.2.1 ≤ i ∧ i < y.2.2.1 then sMi (pLf us z b i L k) (pB us z (4 + 2 * (y.2.2.2.2 : Int))) else pLf us z b i L k
/-- what leaves the body -/
def pEs (G : jZ) (σ : jG) (i : Nat) (x : jC) (h : Nat) (u : jQ) : Nat → Bool := pLf (zUs G) (zZ G) x.2.2.2.1 i (pLs G σ x h u) (zZ G).2.2.1.length
def ctr (o : Nat) : Nat := if 22 ≤ o ∧ o ≤ 25 then 47 - o else if o % 2 = 0 then o + 1 else o - 1
/-- the row at the beginning of a body -/
def pEn (y : jB) (u : jQ) (low : Nat) (ob : Option Nat) : jQ := fun k => if k < y.ps.length then (match ob with
  | some s => if k = 0 then wS (onS s) else wBr (u (low + k))
  | none => wBr (u (low + k))) else wU
/-- what goes where -/
def pEd (G : jZ) (σ : jG) (i : Nat) (x : jC) (u : jQ) (lc : Nat → Nat) (j : Nat) (w : jQ) : Prop :=
  (¬ (20 ≤ x.1 ∧ x.1 ≤ 29) ∧ ∃ v, pGo G σ x (zH G i) u = some v ∧ j = (if x.1 = 19 then x.2.1.toNat else i + 1) ∧ w = qRs (lc j) (zH G j) v)
  ∨ (20 ≤ x.1 ∧ x.1 ≤ 29 ∧ ∃ v, w = qRs (lc j) (zH G j) v ∧ ((pWy (zDn G) (zUp G) x.1 u (zH G i) = some v ∧ j = x.2.1.toNat) ∨ (pWy (zDn G) (zUp G) (ctr x.1) u (zH G i) = some v ∧ j = i + 1)))
  ∨ (∃ (k : Nat) (y : Nat × Nat × Nat × Nat × Nat), (zZ G).2.2.1[k]? = some y ∧ y.1 = x.2.2.2.1 ∧ y.2.1 ≤ i ∧ i < y.2.2.1 ∧ j = y.2.2.2.1 ∧ sEx (sAnd (pLf (zUs G) (zZ G) x.2.2.2.1 i (pLs G σ x (zH G i) u) k) (pB (zUs G) (zZ G) (4 + 2 * (y.2.2.2.2 : Int)))) = true ∧ w = qRs (lc j) (zH G j) (qUp u 12 (wS (sAnd (pLf (zUs G) (zZ G) x.2.2.2.1 i (pLs G σ x (zH G i) u) k) (pB (zUs G) (zZ G) (4 + 2 * (y.2.2.2.2 : Int)))))))
  ∨ (x.1 = 39 ∧ ∃ (y : jB) (e : Nat × Nat × Nat × Nat), (zBl G)[x.2.1.toNat]? = some y ∧ (zEl G)[x.2.1.toNat]? = some e ∧ j = e.1 ∧ w = qRs (lc j) (zH G j) (pEn y u (12 + zH G i - tkX (zBl G) x) none))
  ∨ (x.1 = 40 ∧ (pDr u (12 + zH G i - tkX (zBl G) x)).isSome = true ∧ ∃ (s b : Nat) (y y' : jB) (e : Nat × Nat × Nat × Nat), s < 54 ∧ (u (12 + zH G i - tkX (zBl G) x)).2.2.1 s = true ∧ (zBl G)[x.2.1.toNat]? = some y ∧ rnS (zUs G) (zBl G) (cl (sTp (zZ G) s)) y = (b : Int) ∧ (zBl G)[b]? = some y' ∧ (zEl G)[b]? = some e ∧ j = e.1 ∧ w = qRs (lc j) (zH G j) (pEn y' u (12 + zH G i - tkX (zBl G) x) (some s)))
