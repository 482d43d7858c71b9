/-! The reference's slots: what is known of a slot as nine numbers. -/
theorem iR_t (x : Int32) : iR x.toInt := by
  unfold iR
  have h1 := Int32.minValue_le_toInt x
  have h2 := Int32.toInt_le x
  have e1 : Int32.minValue.toInt = -2147483648 := by decide
  have e2 : Int32.maxValue.toInt = 2147483647 := by decide
  omega
theorem ib_and (x y : Int) (j : Nat) : ib (nk_iand x y) j = (ib x j && ib y j) := by
  unfold ib nk_iand
  rw [Int32.ofInt_toInt, Int32.toBitVec_and, BitVec.getLsbD_and]
theorem ib_xor (x y : Int) (j : Nat) : ib (nk_ixor x y) j = (ib x j ^^ ib y j) := by
  unfold ib nk_ixor
  rw [Int32.ofInt_toInt, Int32.toBitVec_xor, BitVec.getLsbD_xor]
theorem ib_m1 (j : Nat) (h : j < 32) : ib (-1) j = true := by
  have : ∀ j : Nat, j < 32 → ib (-1) j = true := by decide +kernel
  exact this j h
theorem ib_0 (j : Nat) (h : j < 32) : ib 0 j = false := by
  have : ∀ j : Nat, j < 32 → ib 0 j = false := by decide +kernel
  exact this j h
theorem iI {x : Int} (h : iR x) : (Int32.ofInt x).toInt = x := by
  rw [Int32.toInt_ofInt]
  unfold iR at h
  exact Int.bmod_eq_of_le (by show -(2147483648 : Int) ≤ x; omega) (by show x < (2147483648 : Int); omega)
theorem ib_ext {x y : Int} (hx : iR x) (hy : iR y) (h : ∀ j, j < 32 → ib x j = ib y j) : x = y := by
  have : (Int32.ofInt x).toBitVec = (Int32.ofInt y).toBitVec := BitVec.eq_of_getLsbD_eq (fun i hi => h i hi)
  have e : Int32.ofInt x = Int32.ofInt y := Int32.toBitVec_inj.mp this
  rw [← iI hx, ← iI hy, e]
theorem cI_and {x y : Int} {s t : Nat → Bool} (h : cI x s) (k : cI y t) : cI (nk_iand x y) (sAnd s t) := ⟨iR_t _, fun j hj => by rw [ib_and, h.2 j hj, k.2 j hj]; rfl⟩
theorem cI_not {x : Int} {s : Nat → Bool} (h : cI x s) : cI (nk_ixor x (-1)) (sNo s) := ⟨iR_t _, fun j hj => by
  rw [ib_xor, h.2 j hj, ib_m1 j hj]
  show (s j ^^ true) = !s j
  cases s j <;> rfl⟩
theorem cI_0 : cI 0 noS := ⟨by unfold iR; omega, fun j hj => by rw [ib_0 j hj]; rfl⟩
theorem cI_z {x : Int} {s : Nat → Bool} (h : cI x s) : x = 0 ↔ ∀ j, j < 32 → s j = false := by
  constructor
  · intro e j hj
    rw [← h.2 j hj, e, ib_0 j hj]
  · intro q
    exact ib_ext h.1 cI_0.1 (fun j hj => by rw [h.2 j hj, q j hj, ib_0 j hj])
/-- twelve facts as an int -/
def mI (x : Int) (f : Nat → Bool) (o : Nat) : Prop := cI x (fun j => decide (j < 12) && f (o + j))
def cpI : Option Nat → Int
  | none => -1
  | some k => (k : Int)
theorem cpI_u {a c : Option Nat} : cpI a = cpI c ↔ a = c := by
  cases a with
  | none =>
    cases c with
    | none => exact ⟨fun _ => rfl, fun _ => rfl⟩
    | some k => exact ⟨fun h => by have h : (-1 : Int) = (k : Int) := h; omega, fun h => by cases h⟩
  | some j =>
    cases c with
    | none => exact ⟨fun h => by have h : (j : Int) = -1 := h; omega, fun h => by cases h⟩
    | some k => exact ⟨fun h => by have h : (j : Int) = (k : Int) := h; rw [show j = k by omega], fun h => by cases h; rfl⟩
/-- a slot in nine rows -/
def rSo (S : nk_S) (c : Nat → Nat) (k : Nat) (w : jW) : Prop := S.1 (c 0) k = (w.1 : Int) ∧ S.1 (c 1) k = w.2.1.1 ∧ S.1 (c 2) k = w.2.1.2 ∧ cV (S.1 (c 3) k) w.2.2.1 ∧ S.1 (c 4) k = cpI w.2.2.2.1 ∧ mI (S.1 (c 5) k) w.2.2.2.2 0 ∧ mI (S.1 (c 6) k) w.2.2.2.2 12 ∧ mI (S.1 (c 7) k) w.2.2.2.2 24 ∧ mI (S.1 (c 8) k) w.2.2.2.2 36
/-- the rows of the working row, and of the states -/
def rWk : Nat → Nat := fun j => 229 + j
def rSt (P : Nat) : Nat → Nat := fun j => P + 28 + j
theorem rSo_c {S S' : nk_S} {c : Nat → Nat} {k : Nat} {w : jW} (h : ∀ j, j < 9 → S'.1 (c j) k = S.1 (c j) k) (q : rSo S c k w) : rSo S' c k w := by
  unfold rSo at q ⊢
  rw [h 0 (by decide), h 1 (by decide), h 2 (by decide), h 3 (by decide), h 4 (by decide), h 5 (by decide), h 6 (by decide), h 7 (by decide), h 8 (by decide)]
  exact q
/-- something is new -/
def moR (a w : jW) : Prop := w.2.1.1 < a.2.1.1 ∨ a.2.1.2 < w.2.1.2 ∨ (∃ j, j < 64 ∧ w.2.2.1 j = true ∧ a.2.2.1 j = false) ∨ (a.2.2.2.1 ≠ none ∧ w.2.2.2.1 ≠ a.2.2.2.1) ∨ ∃ j, j < 48 ∧ a.2.2.2.2 j = true ∧ w.2.2.2.2 j = false
section RSL
variable {F : Int → Prop}
theorem wS_64 {w : jW} (h : wOk F w) {j : Nat} (hj : w.2.2.1 j = true) : j < 64 := by
  rcases h.2.2 with q | ⟨-, -, q⟩ | ⟨-, -, -, q⟩
  · rw [q] at hj; cases hj
  · rw [q] at hj; cases hj
  · have := q j hj; omega
theorem moR_iff {a w : jW} (ha : wOk F a) (hw : wOk F w) (h1 : a.1 = w.1) (h0 : a.1 ≠ 0) : moR a w ↔ wJn a w ≠ a := by
  have e : wJn a w = (a.1, rJn a.2.1 w.2.1, sOr a.2.2.1 w.2.2.1, if a.2.2.2.1 = w.2.2.2.1 then a.2.2.2.1 else none, sAnd a.2.2.2.2 w.2.2.2.2) := by unfold wJn; rw [if_pos ⟨h1, h0⟩]
  constructor
  · intro hm hq
    rw [e] at hq
    have q1 : rJn a.2.1 w.2.1 = a.2.1 := congrArg (fun x => x.2.1) hq
    have q2 : sOr a.2.2.1 w.2.2.1 = a.2.2.1 := congrArg (fun x => x.2.2.1) hq
    have q3 : (if a.2.2.2.1 = w.2.2.2.1 then a.2.2.2.1 else none) = a.2.2.2.1 := congrArg (fun x => x.2.2.2.1) hq
    have q4 : sAnd a.2.2.2.2 w.2.2.2.2 = a.2.2.2.2 := congrArg (fun x => x.2.2.2.2) hq
    have r1 : min a.2.1.1 w.2.1.1 = a.2.1.1 := congrArg Prod.fst q1
    have r2 : max a.2.1.2 w.2.1.2 = a.2.1.2 := congrArg Prod.snd q1
    rcases hm with m | m | ⟨j, -, m1, m2⟩ | ⟨m1, m2⟩ | ⟨j, -, m1, m2⟩
    · omega
    · omega
    · have := congrFun q2 j
      unfold sOr at this
      rw [m1, m2] at this
      cases this
    · rw [if_neg (fun q => m2 q.symm)] at q3
      exact m1 q3.symm
    · have := congrFun q4 j
      unfold sAnd at this
      rw [m1, m2] at this
      cases this
  · intro hne
    by_cases hm : moR a w
    · exact hm
    · exfalso
      refine hne ?_
      unfold moR at hm
      have n1 : ¬ w.2.1.1 < a.2.1.1 := fun q => hm (Or.inl q)
      have n2 : ¬ a.2.1.2 < w.2.1.2 := fun q => hm (Or.inr (Or.inl q))
      have n3 : ∀ j, w.2.2.1 j = true → a.2.2.1 j = true := fun j q => by
        cases hq : a.2.2.1 j with
        | true => rfl
        | false => exact absurd (Or.inr (Or.inr (Or.inl ⟨j, wS_64 hw q, q, hq⟩))) hm
      have n4 : a.2.2.2.1 ≠ none → w.2.2.2.1 = a.2.2.2.1 := fun q => by
        by_cases q2 : w.2.2.2.1 = a.2.2.2.1
        · exact q2
        · exact absurd (Or.inr (Or.inr (Or.inr (Or.inl ⟨q, q2⟩)))) hm
      have n5 : ∀ j, a.2.2.2.2 j = true → w.2.2.2.2 j = true := fun j q => by
        cases hq : w.2.2.2.2 j with
        | true => rfl
        | false => exact absurd (Or.inr (Or.inr (Or.inr (Or.inr ⟨j, ha.2.1 j q, q, hq⟩)))) hm
      rw [e]
      have f1 : rJn a.2.1 w.2.1 = a.2.1 := by
        unfold rJn
        exact Prod.ext (by show min a.2.1.1 w.2.1.1 = a.2.1.1; omega) (by show max a.2.1.2 w.2.1.2 = a.2.1.2; omega)
      have f2 : sOr a.2.2.1 w.2.2.1 = a.2.2.1 := by
        funext j
        unfold sOr
        cases hq : w.2.2.1 j with
        | false => rw [Bool.or_false]
        | true => rw [n3 j hq]; rfl
      have f3 : (if a.2.2.2.1 = w.2.2.2.1 then a.2.2.2.1 else none) = a.2.2.2.1 := by
        by_cases q : a.2.2.2.1 = none
        · rw [q]; split <;> rfl
        · rw [if_pos (n4 q).symm]
      have f4 : sAnd a.2.2.2.2 w.2.2.2.2 = a.2.2.2.2 := by
        funext j
        unfold sAnd
        cases hq : a.2.2.2.2 j with
        | false => rfl
        | true => rw [n5 j hq]; rfl
      rw [f1, f2, f3, f4]
end RSL
theorem mI_and {x y : Int} {f g : Nat → Bool} {o : Nat} (h : mI x f o) (k : mI y g o) : mI (nk_iand x y) (sAnd f g) o := cI_e (cI_and h k) (fun j => by
  show ((decide (j < 12) && f (o + j)) && (decide (j < 12) && g (o + j))) = (decide (j < 12) && (f (o + j) && g (o + j)))
  cases decide (j < 12) <;> cases f (o + j) <;> cases g (o + j) <;> rfl)
theorem mI_0 (o : Nat) : mI 0 noS o := cI_e cI_0 (fun j => by
  show false = (decide (j < 12) && false)
  rw [Bool.and_false])
/-- facts that are no longer there -/
theorem mI_mi {x y : Int} {f g : Nat → Bool} {o : Nat} (h : mI x f o) (k : mI y g o) : cI (nk_iand x (nk_ixor y (-1))) (fun j => decide (j < 12) && (f (o + j) && !g (o + j))) := cI_e (cI_and h (cI_not k)) (fun j => by
  show ((decide (j < 12) && f (o + j)) && !(decide (j < 12) && g (o + j))) = (decide (j < 12) && (f (o + j) && !g (o + j)))
  cases decide (j < 12) <;> cases f (o + j) <;> cases g (o + j) <;> rfl)
