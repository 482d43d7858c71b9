/-! Where the braces of a program of the right form stand. -/
theorem br_no : ∀ v, v = 57 ∨ v = 58 → ¬ nmS (fx.getD v []) = 1 ∧ ¬ nmS (fx.getD v []) = 2 ∧ isNum (fx.getD v []) = false ∧ refQ (fx.getD v []) = false ∧ amx (fx.getD v []) (fx.take 46) 0 = -1 := by
  rintro v (rfl | rfl) <;> decide +kernel
theorem br_nt : ∀ v, v = 57 ∨ v = 58 → isT (fx.getD v []) = false := by
  intro v hv
  cases h : isT (fx.getD v []) with
  | false => rfl
  | true =>
    have := (isT_iff _).mp h
    rcases hv with rfl | rfl <;> revert this <;> decide +kernel
section BR
variable {tx : List (List Int)}
/-- a token that is no brace -/
def kn (tx : List (List Int)) (i : Nat) : Prop := fN tx i = true ∨ fC tx i = true ∨ fT tx i = true ∨ fU tx i = true ∨ fR tx i = true ∨ 0 ≤ fO tx i ∨ ∃ w, w < 70 ∧ w ≠ 57 ∧ w ≠ 58 ∧ fW tx w i = true
theorem fW_at {w i : Nat} (h : fW tx w i = true) : tx.getD i [] = fx.getD w [] := by
  unfold fW at h
  rw [List.getD_eq_getElem?_getD, of_decide_eq_true h]
  rfl
theorem fW_two {w v i : Nat} (hw : w < 70) (hv : v < 70) (h : fW tx w i = true) (h2 : fW tx v i = true) : w = v := fx_inj w hw v hv (by rw [← fW_at h, fW_at h2])
theorem kn_no {i v : Nat} (hv : v = 57 ∨ v = 58) (h : kn tx i) : fW tx v i = false := by
  cases hc : fW tx v i with
  | false => rfl
  | true =>
    exfalso
    have e := fW_at hc
    obtain ⟨b1, b2, b3, b4, b5⟩ := br_no v hv
    have b6 := br_nt v hv
    rcases h with h | h | h | h | h | h | ⟨w, w1, w2, w3, h⟩
    · unfold fN at h; rw [e] at h; exact b1 (of_decide_eq_true h)
    · unfold fC at h; rw [e] at h; exact b2 (of_decide_eq_true h)
    · unfold fT at h; rw [e, b6] at h; cases h
    · unfold fU at h; rw [e, b3] at h; cases h
    · unfold fR at h; rw [e, b4] at h; cases h
    · unfold fO at h; rw [e, b5] at h; omega
    · have := fW_two w1 (by omega) h hc
      omega
def NB (tx : List (List Int)) (a b : Nat) : Prop := ∀ i, a ≤ i → i < b → kn tx i
theorem NB_one {a : Nat} (h : kn tx a) : NB tx a (a + 1) := by
  intro i h1 h2
  have e : i = a := by omega
  rw [e]
  exact h
theorem NB_app {a b c : Nat} (h1 : NB tx a b) (h2 : NB tx b c) : NB tx a c := fun i x y => by
  by_cases q : i < b
  · exact h1 i x q
  · exact h2 i (by omega) y
theorem NB_nil (a : Nat) : NB tx a a := fun i x y => by omega
/-- if it goes well, what it takes are no braces -/
def nbk (tx : List (List Int)) (a : Nat) (r : Bool × Nat) : Prop := r.1 = true → NB tx a r.2
theorem nb_tk {b : Bool} {a : Nat} (h : b = true → kn tx a) : nbk tx a (tk b a) := by
  intro hr
  cases b with
  | false => cases hr
  | true => exact NB_one (h rfl)
theorem nb_sq {x : Bool × Nat} {k : Nat → Bool × Nat} {a : Nat} (h : nbk tx a x) (h2 : ∀ b, nbk tx b (k b)) : nbk tx a (sq x k) := by
  intro hr
  obtain ⟨h1, h3, h4⟩ := sq_ok hr
  rw [h4]
  exact NB_app (h h1) (h2 _ h3)
theorem kN {i : Nat} (h : fN tx i = true) : kn tx i := Or.inl h
theorem kC {i : Nat} (h : fC tx i = true) : kn tx i := Or.inr (Or.inl h)
theorem kT {i : Nat} (h : fT tx i = true) : kn tx i := Or.inr (Or.inr (Or.inl h))
theorem kU {i : Nat} (h : fU tx i = true) : kn tx i := Or.inr (Or.inr (Or.inr (Or.inl h)))
theorem kR {i : Nat} (h : fR tx i = true) : kn tx i := Or.inr (Or.inr (Or.inr (Or.inr (Or.inl h))))
theorem kO {i : Nat} (h : 0 ≤ fO tx i) : kn tx i := Or.inr (Or.inr (Or.inr (Or.inr (Or.inr (Or.inl h)))))
theorem kW {i : Nat} (w : Nat) (h0 : w < 70 ∧ w ≠ 57 ∧ w ≠ 58) (h : fW tx w i = true) : kn tx i := Or.inr (Or.inr (Or.inr (Or.inr (Or.inr (Or.inr ⟨w, h0.1, h0.2.1, h0.2.2, h⟩)))))
theorem nb_op (k a : Nat) : nbk tx a (fOp tx k a) := by
  unfold fOp
  split
  · exact nb_tk kU
  · exact nb_tk kU
  · exact nb_sq (nb_tk kU) (fun b => nb_tk kU)
  · exact nb_tk kN
  · exact nb_tk kC
  · refine nb_tk (fun h => ?_)
    rw [Bool.or_eq_true] at h
    rcases h with h | h
    · exact kW 52 (by decide) h
    · exact kC h
  · refine nb_tk (fun h => ?_)
    rw [Bool.and_eq_true] at h
    exact kT h.1
  · exact nb_tk kR
  · exact fun _ => NB_nil a
theorem nb_line (a : Nat) : nbk tx a (fLine tx a) := by
  unfold fLine
  split
  · rename_i q
    intro hr
    obtain ⟨h1, -, h3⟩ := sq_ok hr
    obtain ⟨g1, g2⟩ := tk_ok h1
    rw [h3, g2]
    exact NB_app (NB_one (kN g1)) (NB_one (kW 59 (by decide) q))
  · split
    · rename_i q
      intro hr
      exact NB_app (NB_one (kW 46 (by decide) q)) (nb_sq (nb_tk kN) (fun b => nb_sq (nb_tk kN) (fun b => nb_sq (nb_tk kN) (fun b => nb_tk kC))) hr)
    · split
      · rename_i q
        intro hr
        exact NB_app (NB_one (kO q)) (nb_op _ _ hr)
      · intro hr; cases hr
/-- lines: no brace but the last token, the closing one -/
theorem nb_lines : ∀ {d a : Nat}, (fLines tx d a).1 = true → NB tx a ((fLines tx d a).2 - 1) ∧ fW tx 58 ((fLines tx d a).2 - 1) = true ∧ a < (fLines tx d a).2 := by
  intro d
  induction d with
  | zero => intro a h; cases h
  | succ d ih =>
    intro a h
    rw [fLines] at h ⊢
    cases h58 : fW tx 58 a with
    | true => simp only [if_true]; exact ⟨NB_nil a, h58, by omega⟩
    | false =>
      rw [h58] at h
      simp only [Bool.false_eq_true, if_false] at h ⊢
      obtain ⟨h1, h2, h3⟩ := sq_ok h
      rw [h3]
      have hl := fLine_lt h1
      obtain ⟨i1, i2, i3⟩ := ih h2
      exact ⟨NB_app (nb_line a h1) i1, i2, by omega⟩
theorem nb_types : ∀ (d a : Nat), nbk tx a (fTypes tx d a) := by
  intro d
  induction d with
  | zero => intro a h; cases h
  | succ d ih =>
    intro a
    rw [fTypes]
    split
    · rename_i q
      exact fun _ => NB_one (kW 56 (by decide) q)
    · exact nb_sq (nb_tk kT) ih
theorem nb_hd {d a : Nat} (h : (fHd tx d a).1 = true) : NB tx a ((fHd tx d a).2 - 1) ∧ fW tx 57 ((fHd tx d a).2 - 1) = true ∧ a < (fHd tx d a).2 := by
  unfold fHd fTl at h ⊢
  obtain ⟨a1, a2, a3⟩ := sq_ok h
  obtain ⟨b1, b2, b3⟩ := sq_ok a2
  obtain ⟨c1, c2, c3⟩ := sq_ok b2
  obtain ⟨d1, d2, d3⟩ := sq_ok c2
  obtain ⟨e1, e2, e3⟩ := sq_ok d2
  rw [a3, b3, c3, d3, e3]
  obtain ⟨g1, g2⟩ := tk_ok e2
  rw [g2]
  have l1 := (tk_ok a1).2
  have l2 := (tk_ok b1).2
  have l3 := (fTypes_ok c1).1
  have l4 := (tk_ok d1).2
  have l5 := (tk_ok e1).2
  refine ⟨?_, g1, by omega⟩
  refine NB_app (nb_tk kN a1) (NB_app (nb_tk (kW 55 (by decide)) b1) (NB_app (nb_types _ _ c1) (NB_app (nb_tk (fun h => ?_) d1) (nb_tk kU e1))))
  rw [Bool.or_eq_true] at h
  rcases h with h | h
  · exact kW 53 (by decide) h
  · exact kT h
/-- a member: a field of three tokens, or a head with an opening brace, lines and a closing one -/
def bodyAt (tx : List (List Int)) (a : Nat) : Prop := fW tx 49 a = false ∧ (fW tx 50 a = true ∨ fW tx 51 a = true) ∧ (fHd tx 20000 (a + 1)).1 = true ∧ (fLines tx 20000 (fHd tx 20000 (a + 1)).2).1 = true
theorem mem_kind {a : Nat} (h : (fMember tx 20000 a).1 = true) : (fW tx 49 a = true ∧ fN tx (a + 1) = true ∧ fT tx (a + 2) = true ∧ (fMember tx 20000 a).2 = a + 3) ∨ (bodyAt tx a ∧ (fMember tx 20000 a).2 = (fLines tx 20000 (fHd tx 20000 (a + 1)).2).2) := by
  cases h49 : fW tx 49 a with
  | true =>
    left
    unfold fMember at h ⊢
    rw [h49, if_pos rfl] at h
    rw [h49, if_pos rfl]
    obtain ⟨a1, a2, a3⟩ := sq_ok h
    obtain ⟨g1, g2⟩ := tk_ok a1
    rw [a3]
    rw [g2] at a2 ⊢
    obtain ⟨k1, k2⟩ := tk_ok a2
    exact ⟨rfl, g1, k1, k2⟩
  | false =>
    right
    rw [fMember_hd h49] at h ⊢
    obtain ⟨a1, a2, a3⟩ := sq_ok h
    obtain ⟨g1, g2⟩ := tk_ok a1
    rw [a3]
    rw [g2] at a2 ⊢
    obtain ⟨b1, b2, b3⟩ := sq_ok a2
    rw [b3]
    rw [Bool.or_eq_true] at g1
    exact ⟨⟨h49, g1, b1, b2⟩, rfl⟩
/-- a class: four tokens, an opening brace, members and a closing one -/
theorem cls_kind {d a : Nat} (h : (fProg tx 20000 (d + 1) a).1 = true) (ha : a < tx.length) : fW tx 47 a = true ∧ fC tx (a + 1) = true ∧ fW tx 48 (a + 2) = true ∧ fC tx (a + 3) = true ∧ fW tx 57 (a + 4) = true ∧ (fMembers tx 20000 20000 (a + 5)).1 = true ∧ (fProg tx 20000 d (fMembers tx 20000 20000 (a + 5)).2).1 = true := by
  rw [fProg, if_neg (by omega)] at h
  obtain ⟨a1, a2, -⟩ := sq_ok h
  obtain ⟨x1, x2⟩ := tk_ok a1
  rw [x2] at a2
  obtain ⟨b1, b2, -⟩ := sq_ok a2
  obtain ⟨y1, y2⟩ := tk_ok b1
  rw [y2] at b2
  obtain ⟨c1, c2, -⟩ := sq_ok b2
  obtain ⟨z1, z2⟩ := tk_ok c1
  rw [z2] at c2
  obtain ⟨d1, d2, -⟩ := sq_ok c2
  obtain ⟨u1, u2⟩ := tk_ok d1
  rw [u2] at d2
  obtain ⟨e1, e2, -⟩ := sq_ok d2
  obtain ⟨v1, v2⟩ := tk_ok e1
  rw [v2] at e2
  obtain ⟨f1, f2, -⟩ := sq_ok e2
  exact ⟨x1, y1, z1, u1, v1, f1, f2⟩
end BR
