/-! Lines: one function for both sides. -/
/-- labels up to the closing brace: name, token, instruction; and how many instructions -/
def lbs (tx : List (List Int)) : Nat → Nat → Nat → List (List Int × Nat × Nat) × Nat
  | 0, _, k => ([], k)
  | d + 1, a, k => if fW tx 58 a = true then ([], k)
    else if fW tx 59 (a + 1) = true then ((tx.getD a [], a, k) :: (lbs tx d (a + 2) k).1, (lbs tx d (a + 2) k).2)
    else if fW tx 46 a = true then lbs tx d (a + 5) k
    else lbs tx d (fLine tx a).2 (k + 1)
/-- the first label of a name -/
def lfd (n : List Int) : List (List Int × Nat × Nat) → Option (Nat × Nat)
  | [] => none
  | x :: l => if x.1 = n then some x.2 else lfd n l
def lat (ls : List (List Int × Nat × Nat)) (n : List Int) : Int := match lfd n ls with
  | some q => (q.2 : Int)
  | none => -1
/-- an instruction: its number, two operands, body, token -/
abbrev jC : Type := Nat × Int × Int × Nat × Nat
/-- what the lines make: instructions, types of sites, catches (body, from, to, at, class), numbers -/
abbrev jL : Type := List jC × List Int × List (Nat × Nat × Nat × Nat × Nat) × List Int
section LSP
variable (tx ns : List (List Int)) (us : List Int) (fl : List (List Int × Nat × Int)) (bl : List jB) (ls : List (List Int × Nat × Nat)) (en : Nat) (b : Nat) (lc : Int)
/-- a member that a reference names -/
def oM (op : Nat) (l : List Int) : Option (Int × Int) :=
  if amx (l.take (dot l)) ns 0 < 0 then none
  else if op = 35 ∨ op = 36 then (if fdL us (amx (l.take (dot l)) ns 0).toNat (l.drop (dot l + 1)) fl 0 < 0 then none else some (fdL us (amx (l.take (dot l)) ns 0).toNat (l.drop (dot l + 1)) fl 0, amx (l.take (dot l)) ns 0))
  else match bl[(bdL us (amx (l.take (dot l)) ns 0).toNat (l.drop (dot l + 1)) bl 0 (-1)).toNat]? with
    | none => none
    | some x => if bdL us (amx (l.take (dot l)) ns 0).toNat (l.drop (dot l + 1)) bl 0 (-1) < 0 ∨ ¬ (x.me = decide (op = 40)) then none else some (bdL us (amx (l.take (dot l)) ns 0).toNat (l.drop (dot l + 1)) bl 0 (-1), amx (l.take (dot l)) ns 0)
/-- the operands of an instruction, from their first token -/
def oX (op a : Nat) : Option (Int × Int) := match fK op with
  | 1 => some (nval (tx.getD a []), 0)
  | 2 => if 0 ≤ nval (tx.getD a []) ∧ nval (tx.getD a []) < lc then some (nval (tx.getD a []), 0) else none
  | 3 => if 0 ≤ nval (tx.getD a []) ∧ nval (tx.getD a []) < lc then some (nval (tx.getD a []), nval (tx.getD (a + 1) [])) else none
  | 4 => if 0 ≤ lat ls (tx.getD a []) ∧ lat ls (tx.getD a []) < (en : Int) then some (lat ls (tx.getD a []), 0) else none
  | 5 => if 0 ≤ amx (tx.getD a []) ns 0 then some (amx (tx.getD a []) ns 0, 0) else none
  | 6 => if tyC ns (tx.getD a []) = -2 then none else some (tyC ns (tx.getD a []), 0)
  | 7 => if tyC ns (tx.getD a []) = -2 then none else some (tyC ns (tx.getD a []), 0)
  | 8 => oM ns us fl bl op (tx.getD a [])
  | _ => some (0, 0)
/-- the site's type that an instruction makes -/
def sTy (op : Nat) (x : Int) : List Int := if op = 30 then [4 + 2 * x] else if op = 31 then [if x = 1 then 3 else x + 1] else []
def nTh (op : Nat) (x y : Int) : List Int := if op = 0 then [x] else if op = 4 then [y] else []
/-- one more instruction -/
def psh (op a : Nat) (x y : Int) (z : jL) : jL := (z.1 ++ [(op, x, if op = 30 ∨ op = 31 then (z.2.1.length : Int) else y, b, a)], z.2.1 ++ sTy op x, z.2.2.1, z.2.2.2 ++ nTh op x y)
/-- a line -/
def lnS (a : Nat) (z : jL) : Option Nat × jL :=
  if fW tx 59 (a + 1) = true then (match lfd (tx.getD a []) ls with
    | some q => if q.1 = a then (none, z) else (some a, z)
    | none => (some a, z))
  else if fW tx 46 a = true then
    (if 64 ≤ z.2.2.1.length then (some a, z)
    else if lat ls (tx.getD (a + 1) []) < 0 then (some (a + 1), z)
    else if lat ls (tx.getD (a + 2) []) ≤ lat ls (tx.getD (a + 1) []) then (some (a + 2), z)
    else if lat ls (tx.getD (a + 3) []) < 0 ∨ (en : Int) ≤ lat ls (tx.getD (a + 3) []) then (some (a + 3), z)
    else if amx (tx.getD (a + 4) []) ns 0 < 0 ∨ anc us (amx (tx.getD (a + 4) []) ns 0).toNat 1 = false then (some (a + 4), z)
    else (none, (z.1, z.2.1, z.2.2.1 ++ [(b, (lat ls (tx.getD (a + 1) [])).toNat, (lat ls (tx.getD (a + 2) [])).toNat, (lat ls (tx.getD (a + 3) [])).toNat, (amx (tx.getD (a + 4) []) ns 0).toNat)], z.2.2.2)))
  else if 1024 ≤ z.1.length ∨ ((fO tx a = 30 ∨ fO tx a = 31) ∧ 48 ≤ z.2.1.length) then (some a, z)
  else match oX tx ns us fl bl ls en lc (fO tx a).toNat (a + 1) with
    | none => (some (a + 1), z)
    | some q => (none, psh b (fO tx a).toNat a q.1 q.2 z)
/-- does the body end by an instruction that nothing follows -/
def clz (st : Nat) (cl : List jC) : Bool := decide (st < cl.length) && (match cl[cl.length - 1]? with
  | some x => decide (x.1 = 19 ∨ x.1 = 41 ∨ x.1 = 42 ∨ x.1 = 43)
  | none => false)
def lnL (st : Nat) : Nat → Nat → jL → Option Nat × jL
  | 0, _, z => (none, z)
  | d + 1, a, z => if fW tx 58 a = true then (if clz st z.1 = true then (none, z) else (some a, z))
    else match lnS tx ns us fl bl ls en b lc a z with
      | (some y, w) => (some y, w)
      | (none, w) => lnL st d (fLine tx a).2 w
end LSP
/-- the lines of the bodies from one on; start, end, first catch, behind the last catch of each -/
def fLn (tx ns : List (List Int)) (us : List Int) (fl : List (List Int × Nat × Int)) (bl : List jB) : Nat → Nat → jL → List (Nat × Nat × Nat × Nat) → Option Nat × jL × List (Nat × Nat × Nat × Nat)
  | 0, _, z, el => (none, z, el)
  | d + 1, b, z, el => match bl[b]? with
    | none => (none, z, el)
    | some x => match lnL tx ns us fl bl (lbs tx 20000 (x.op + 1) z.1.length).1 (lbs tx 20000 (x.op + 1) z.1.length).2 b x.lc z.1.length 20000 (x.op + 1) z with
      | (some y, w) => (some y, w, el)
      | (none, w) => fLn tx ns us fl bl d (b + 1) w (el ++ [(z.1.length, (lbs tx 20000 (x.op + 1) z.1.length).2, z.2.2.1.length, w.2.2.1.length)])
section LSQ
variable {tx : List (List Int)}
theorem ln_kind {a : Nat} (h : (fLine tx a).1 = true) : (fW tx 59 (a + 1) = true ∧ fN tx a = true ∧ (fLine tx a).2 = a + 2) ∨ (fW tx 59 (a + 1) = false ∧ fW tx 46 a = true ∧ fN tx (a + 1) = true ∧ fN tx (a + 2) = true ∧ fN tx (a + 3) = true ∧ fC tx (a + 4) = true ∧ (fLine tx a).2 = a + 5) ∨ (fW tx 59 (a + 1) = false ∧ fW tx 46 a = false ∧ 0 ≤ fO tx a ∧ (fOp tx (fK (fO tx a).toNat) (a + 1)).1 = true ∧ (fLine tx a).2 = (fOp tx (fK (fO tx a).toNat) (a + 1)).2) := by
  unfold fLine at h ⊢
  cases h59 : fW tx 59 (a + 1) with
  | true =>
    left
    rw [h59, if_pos rfl] at h
    rw [if_pos rfl]
    obtain ⟨g1, g2, g3⟩ := sq_ok h
    obtain ⟨k1, k2⟩ := tk_ok g1
    rw [g3, k2]
    exact ⟨rfl, k1, rfl⟩
  | false =>
    right
    rw [h59, if_neg (by decide)] at h
    rw [if_neg (by decide)]
    cases h46 : fW tx 46 a with
    | true =>
      left
      rw [h46, if_pos rfl] at h
      rw [if_pos rfl]
      obtain ⟨g1, g2, g3⟩ := sq_ok h
      obtain ⟨k1, k2⟩ := tk_ok g1
      rw [k2] at g2 g3
      obtain ⟨h1, h2, h3⟩ := sq_ok g2
      obtain ⟨l1, l2⟩ := tk_ok h1
      rw [l2] at h2 h3
      obtain ⟨i1, i2, i3⟩ := sq_ok h2
      obtain ⟨m1, m2⟩ := tk_ok i1
      rw [m2] at i2 i3
      obtain ⟨n1, n2⟩ := tk_ok i2
      rw [g3, h3, i3, n2]
      exact ⟨rfl, rfl, k1, l1, m1, n1, rfl⟩
    | false =>
      right
      rw [h46, if_neg (by decide)] at h
      rw [if_neg (by decide)]
      by_cases q : 0 ≤ fO tx a
      · rw [if_pos q] at h
        rw [if_pos q]
        exact ⟨rfl, rfl, q, h, rfl⟩
      · rw [if_neg q] at h; cases h
/-- how many tokens the operands take -/
theorem op_len {k a : Nat} (hk : k < 9) (h : (fOp tx k a).1 = true) : (fOp tx k a).2 = a + (if k = 0 then 0 else if k = 3 then 2 else 1) := by
  have : k = 0 ∨ k = 1 ∨ k = 2 ∨ k = 3 ∨ k = 4 ∨ k = 5 ∨ k = 6 ∨ k = 7 ∨ k = 8 := by omega
  rcases this with rfl | rfl | rfl | rfl | rfl | rfl | rfl | rfl | rfl
  · rfl
  · exact (tk_ok h).2
  · exact (tk_ok h).2
  · have h' : (sq (tk (fU tx a) a) fun a => tk (fU tx a) a).1 = true := h
    obtain ⟨g1, g2, g3⟩ := sq_ok h'
    show (sq (tk (fU tx a) a) fun a => tk (fU tx a) a).2 = _
    rw [g3, (tk_ok g2).2, (tk_ok g1).2]
    rfl
  · exact (tk_ok h).2
  · exact (tk_ok h).2
  · exact (tk_ok h).2
  · exact (tk_ok h).2
  · exact (tk_ok h).2
theorem fO_at {a o : Nat} (h : fO tx a = (o : Int)) : o < 46 ∧ tx.getD a [] = fx.getD o [] := by
  have hr := fO_rg (tx := tx) a
  have h0 : 0 ≤ fO tx a := by omega
  unfold fO at h h0
  obtain ⟨k, k1, k2⟩ := amx_get (fx.take 46) 0 (by decide) h0
  have e : k = o := by omega
  subst e
  have hk := at_lt k2
  have hl : (fx.take 46).length = 46 := by decide
  refine ⟨by omega, ?_⟩
  rw [List.getElem?_take_of_lt (by omega)] at k2
  rw [List.getD_eq_getElem?_getD (l := fx), k2]
  rfl
end LSQ
