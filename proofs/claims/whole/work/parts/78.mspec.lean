/-! Members: one function for both sides. -/
section MSP
variable (tx ns : List (List Int)) (us : List Int)
/-- the types up to the closing bracket, and where it stands -/
def pT : Nat → Nat → List Int × Nat
  | 0, a => ([], a)
  | d + 1, a => if fW tx 56 a = true then ([], a) else (tyC ns (tx.getD a []) :: (pT d (a + 1)).1, (pT d (a + 1)).2)
end MSP
/-- where the first type is missing -/
def mis : List Int → Nat → Int
  | [], _ => -1
  | t :: l, a => if t = -2 then (a : Int) else mis l (a + 1)
/-- the body that a head tells -/
def nB (tx ns : List (List Int)) (c a : Nat) : jB := jB.mk (tx.getD (a + 1) []) c (fW tx 51 a) ((if fW tx 51 a = true then [((4 + 2 * c : Nat) : Int)] else []) ++ (pT tx ns 20000 (a + 3)).1) (tyC ns (tx.getD ((pT tx ns 20000 (a + 3)).2 + 1) [])) (nval (tx.getD ((pT tx ns 20000 (a + 3)).2 + 2) [])) ((pT tx ns 20000 (a + 3)).2 + 3) a
def mayB (o n : jB) : Bool := decide (o.ow ≠ n.ow ∧ o.me = true ∧ n.me = true ∧ o.ps.length = n.ps.length ∧ o.rs = n.rs ∧ o.ps.drop 1 = n.ps.drop 1)
def badB (us : List Int) (bl : List jB) (n : jB) : Bool := if bdL us n.ow n.nm bl 0 (-1) < 0 then false else match bl[(bdL us n.ow n.nm bl 0 (-1)).toNat]? with
  | some o => !(mayB o n)
  | none => true
def fStep (tx ns : List (List Int)) (us : List Int) (c a : Nat) (fl : List (List Int × Nat × Int)) : Option Nat × List (List Int × Nat × Int) :=
  if 0 ≤ fdL us c (tx.getD (a + 1) []) fl 0 ∨ 48 ≤ fl.length then (some (a + 1), fl)
  else if tyC ns (tx.getD (a + 2) []) = -2 then (some (a + 2), fl)
  else (none, fl ++ [(tx.getD (a + 1) [], c, tyC ns (tx.getD (a + 2) []))])
def bStep (tx ns : List (List Int)) (us : List Int) (c a : Nat) (bl : List jB) : Option Nat × List jB :=
  if 48 ≤ bl.length then (some (a + 1), bl)
  else if badB us bl (nB tx ns c a) = true then (some (a + 1), bl)
  else if 0 ≤ mis (pT tx ns 20000 (a + 3)).1 (a + 3) then (some (mis (pT tx ns 20000 (a + 3)).1 (a + 3)).toNat, bl)
  else if (nB tx ns c a).rs = -2 then (some ((pT tx ns 20000 (a + 3)).2 + 1), bl)
  else if (nB tx ns c a).lc < ((nB tx ns c a).ps.length : Int) ∨ 12 < (nB tx ns c a).lc then (some ((pT tx ns 20000 (a + 3)).2 + 2), bl)
  else (none, bl ++ [nB tx ns c a])
/-- the members of a class from a token on -/
def fMem (tx ns : List (List Int)) (us : List Int) (c : Nat) : Nat → Nat → List (List Int × Nat × Int) → List jB → Option Nat × List (List Int × Nat × Int) × List jB
  | 0, _, fl, bl => (none, fl, bl)
  | d + 1, a, fl, bl => if fW tx 58 a = true then (none, fl, bl)
    else if fW tx 49 a = true then (match fStep tx ns us c a fl with
      | (some y, l) => (some y, l, bl)
      | (none, l) => fMem tx ns us c d (fMember tx 20000 a).2 l bl)
    else (match bStep tx ns us c a bl with
      | (some y, l) => (some y, fl, l)
      | (none, l) => fMem tx ns us c d (fMember tx 20000 a).2 fl l)
/-- the members of the classes from one on -/
def fMcs (tx ns : List (List Int)) (us : List Int) : Nat → Nat → List (List Int × Nat × Int) → List jB → Option Nat × List (List Int × Nat × Int) × List jB
  | 0, _, fl, bl => (none, fl, bl)
  | d + 1, c, fl, bl => if ns.length ≤ c then (none, fl, bl) else (match fMem tx ns us c 20000 (cAt tx (c - 8) + 5) fl bl with
    | (some y, l, k) => (some y, l, k)
    | (none, l, k) => fMcs tx ns us d (c + 1) l k)
section MSQ
variable {tx ns : List (List Int)} {us : List Int}
theorem pT_ok : ∀ (d a : Nat), (fTypes tx d a).1 = true → (fTypes tx d a).2 = (pT tx ns d a).2 + 1 ∧ fW tx 56 (pT tx ns d a).2 = true ∧ (pT tx ns d a).2 < tx.length ∧ a ≤ (pT tx ns d a).2 ∧ (pT tx ns d a).1.length = (pT tx ns d a).2 - a ∧ (∀ t ∈ (pT tx ns d a).1, ∃ i, fT tx i = true ∧ i < tx.length ∧ t = tyC ns (tx.getD i [])) ∧ ∀ i, a ≤ i → i < (pT tx ns d a).2 → fT tx i = true := by
  intro d
  induction d with
  | zero => intro a h; cases h
  | succ d ih =>
    intro a h
    rw [fTypes] at h ⊢
    rw [pT]
    cases h56 : fW tx 56 a with
    | true =>
      simp only [if_true]
      exact ⟨trivial, h56, fW_T h56, Nat.le_refl _, (Nat.sub_self a).symm, fun t ht => (by cases ht), fun i h1 h2 => by omega⟩
    | false =>
      rw [h56] at h
      simp only [Bool.false_eq_true, if_false] at h ⊢
      obtain ⟨h1, h2, h3⟩ := sq_ok h
      obtain ⟨g1, g2⟩ := tk_ok h1
      rw [h3]
      rw [g2] at h2 ⊢
      obtain ⟨i1, i2, i3, i4, i5, i6, i7⟩ := ih (a + 1) h2
      refine ⟨i1, i2, i3, by omega, ?_, fun t ht => ?_, fun i x1 x2 => ?_⟩
      · rw [List.length_cons, i5]; omega
      · rcases List.mem_cons.mp ht with e | e
        · exact ⟨a, g1, by omega, e⟩
        · exact i6 t e
      · by_cases q : i = a
        · rw [q]; exact g1
        · exact i7 i (by omega) x2
/-- the tokens of a head -/
theorem hd_kind {a : Nat} (h : bodyAt tx a) : (fTypes tx 20000 (a + 3)).1 = true ∧ fN tx (a + 1) = true ∧ fW tx 55 (a + 2) = true ∧ (fW tx 53 ((pT tx ns 20000 (a + 3)).2 + 1) = true ∨ fT tx ((pT tx ns 20000 (a + 3)).2 + 1) = true) ∧ fU tx ((pT tx ns 20000 (a + 3)).2 + 2) = true ∧ fW tx 57 ((pT tx ns 20000 (a + 3)).2 + 3) = true ∧ (fHd tx 20000 (a + 1)).2 = (pT tx ns 20000 (a + 3)).2 + 4 := by
  have h3 := h.2.2.1
  unfold fHd fTl at h3 ⊢
  obtain ⟨a1, a2, a3⟩ := sq_ok h3
  rw [a3]
  obtain ⟨x1, x2⟩ := tk_ok a1
  rw [x2] at a2 ⊢
  obtain ⟨b1, b2, b3⟩ := sq_ok a2
  rw [b3]
  obtain ⟨y1, y2⟩ := tk_ok b1
  rw [y2] at b2 ⊢
  obtain ⟨c1, c2, c3⟩ := sq_ok b2
  rw [c3]
  obtain ⟨z1, z2, z3, -⟩ := pT_ok (ns := ns) 20000 (a + 3) c1
  rw [z1] at c2 ⊢
  obtain ⟨d1, d2, d3⟩ := sq_ok c2
  rw [d3]
  obtain ⟨u1, u2⟩ := tk_ok d1
  rw [u2] at d2 ⊢
  obtain ⟨e1, e2, e3⟩ := sq_ok d2
  rw [e3]
  obtain ⟨v1, v2⟩ := tk_ok e1
  rw [v2] at e2 ⊢
  obtain ⟨w1, w2⟩ := tk_ok e2
  rw [w2]
  rw [Bool.or_eq_true] at u1
  exact ⟨c1, x1, y1, u1, v1, w1, rfl⟩
end MSQ
