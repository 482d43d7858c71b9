/-! Lines: where bodies stand; the class's bodies, one and all. -/
section POS
variable {tx ns : List (List Int)} {us : List Int}
theorem lbs_ok : ∀ (d a k : Nat), (fLines tx d a).1 = true → (∀ q ∈ (lbs tx d a k).1, a ≤ q.2.1 ∧ q.2.1 < (fLines tx d a).2 ∧ q.1 = tx.getD q.2.1 [] ∧ k ≤ q.2.2 ∧ q.2.2 ≤ (lbs tx d a k).2) ∧ k ≤ (lbs tx d a k).2 ∧ (lbs tx d a k).2 ≤ k + ((fLines tx d a).2 - a) ∧ (lbs tx d a k).1.length ≤ (fLines tx d a).2 - a := by
  intro d
  induction d with
  | zero => intro a k h; cases h
  | succ d ih =>
    intro a k h
    have hend := fLines_ok h
    rw [fLines] at h hend ⊢
    rw [lbs]
    cases h58 : fW tx 58 a with
    | true =>
      simp only [if_true]
      exact ⟨fun q hq => (by cases hq), Nat.le_refl _, Nat.le_add_right _ _, Nat.zero_le _⟩
    | false =>
      rw [h58] at h hend
      simp only [Bool.false_eq_true, if_false] at h hend ⊢
      obtain ⟨h1, h2, h3⟩ := sq_ok h
      rw [h3] at hend ⊢
      have hlt := fLine_lt h1
      have hin := fLines_ok h2
      rcases ln_kind h1 with ⟨g1, g2, g3⟩ | ⟨g0, g1, -, -, -, g2, g3⟩ | ⟨g1, g2, g3, g4, g5⟩
      · rw [if_pos g1]
        rw [g3] at h2 hin ⊢
        obtain ⟨i1, i2, i3, i4⟩ := ih (a + 2) k h2
        refine ⟨fun q hq => ?_, i2, by omega, by rw [List.length_cons]; omega⟩
        rcases List.mem_cons.mp hq with e | e
        · rw [e]
          exact ⟨Nat.le_refl a, by show a < _; omega, rfl, Nat.le_refl k, i2⟩
        · obtain ⟨j1, j2, j3, j4, j5⟩ := i1 q e
          exact ⟨by omega, j2, j3, j4, j5⟩
      · rw [if_neg (show ¬ fW tx 59 (a + 1) = true by rw [g0]; decide), if_pos g1]
        rw [g3] at h2 hin ⊢
        obtain ⟨i1, i2, i3, i4⟩ := ih (a + 5) k h2
        refine ⟨fun q hq => ?_, i2, by omega, by omega⟩
        obtain ⟨j1, j2, j3, j4, j5⟩ := i1 q hq
        exact ⟨by omega, j2, j3, j4, j5⟩
      · rw [if_neg (show ¬ fW tx 59 (a + 1) = true by rw [g1]; decide), if_neg (show ¬ fW tx 46 a = true by rw [g2]; decide)]
        obtain ⟨i1, i2, i3, i4⟩ := ih (fLine tx a).2 (k + 1) h2
        refine ⟨fun q hq => ?_, by omega, by omega, by omega⟩
        obtain ⟨j1, j2, j3, j4, j5⟩ := i1 q hq
        exact ⟨by omega, j2, j3, by omega, j5⟩
theorem lfd_in {n : List Int} : ∀ {ls : List (List Int × Nat × Nat)} {q : Nat × Nat}, lfd n ls = some q → (n, q) ∈ ls := by
  intro ls
  induction ls with
  | nil => intro q h; cases h
  | cons x l ih =>
    intro q h
    rw [lfd] at h
    by_cases e : x.1 = n
    · rw [if_pos e] at h
      have e2 : x.2 = q := Option.some.inj h
      rw [← e, ← e2]
      exact List.mem_cons_self
    · rw [if_neg e] at h
      exact List.mem_cons_of_mem _ (ih h)
/-- bodies stand one behind the other -/
def bP (tx : List (List Int)) (bl : List jB) (p : Nat) : Prop := (∀ x ∈ bl, (fLines tx 20000 (x.op + 1)).1 = true ∧ x.tk < x.op ∧ (fLines tx 20000 (x.op + 1)).2 ≤ p) ∧ ∀ (a b : Nat) (x y : jB), a < b → bl[a]? = some x → bl[b]? = some y → (fLines tx 20000 (x.op + 1)).2 ≤ y.tk
theorem bP_add {bl : List jB} {a j : Nat} (h : bP tx bl a) (hb : bodyAt tx a) : bP tx (bl ++ [nB tx ns j a]) (fLines tx 20000 (fHd tx 20000 (a + 1)).2).2 := by
  obtain ⟨z1, z2, z3, z4, z5, z6, z7⟩ := hd_kind (ns := ns) hb
  obtain ⟨p1, p2, p3, p4, -⟩ := pT_ok (ns := ns) 20000 (a + 3) z1
  have hlin := fLines_ok hb.2.2.2
  have eop : (nB tx ns j a).op + 1 = (fHd tx 20000 (a + 1)).2 := by rw [z7]; rfl
  have eop2 : (nB tx ns j a).op = (pT tx ns 20000 (a + 3)).2 + 3 := rfl
  refine ⟨fun x hx => ?_, fun i k x y hik hx hy => ?_⟩
  · rcases List.mem_append.mp hx with e | e
    · obtain ⟨k1, k2, k3⟩ := h.1 x e
      exact ⟨k1, k2, by omega⟩
    · have e2 : x = nB tx ns j a := by simpa using e
      rw [e2, eop]
      exact ⟨hb.2.2.2, by show a < (nB tx ns j a).op; omega, Nat.le_refl _⟩
  · rcases fl_case hy with ⟨l2, e2⟩ | ⟨l2, e2⟩
    · rcases fl_case hx with ⟨l1, e1⟩ | ⟨l1, e1⟩
      · exact h.2 i k x y hik e1 e2
      · omega
    · rcases fl_case hx with ⟨l1, e1⟩ | ⟨l1, e1⟩
      · rw [e2]
        exact (h.1 x (List.mem_of_getElem? e1)).2.2
      · omega
theorem bP_up {bl : List jB} {p q : Nat} (h : bP tx bl p) (hpq : p ≤ q) : bP tx bl q := ⟨fun x hx => ⟨(h.1 x hx).1, (h.1 x hx).2.1, Nat.le_trans (h.1 x hx).2.2 hpq⟩, h.2⟩
theorem fMem_pos {j : Nat} : ∀ (d a : Nat) (fl : List (List Int × Nat × Int)) (bl : List jB), bP tx bl a → (fMembers tx 20000 d a).1 = true → (fMem tx ns us j d a fl bl).1 = none → bP tx (fMem tx ns us j d a fl bl).2.2 (fMembers tx 20000 d a).2 := by
  intro d
  induction d with
  | zero => intro a fl bl _ h; cases h
  | succ d ih =>
    intro a fl bl hP h hn
    have hend := fMembers_ok h
    rw [fMembers] at h hend ⊢
    rw [fMem] at hn ⊢
    cases h58 : fW tx 58 a with
    | true => simp only [if_true]; exact bP_up hP (by omega)
    | false =>
      rw [h58] at h hn hend
      simp only [Bool.false_eq_true, if_false] at h hn hend ⊢
      obtain ⟨h1, h2, h3⟩ := sq_ok h
      rw [h3]
      rcases mem_kind h1 with ⟨g1, g2, g3, g4⟩ | ⟨g1, g2⟩
      · rw [if_pos g1] at hn ⊢
        cases hs : fStep tx ns us j a fl with
        | mk r l =>
          rw [hs] at hn
          cases r with
          | some y => cases hn
          | none => exact ih _ l bl (bP_up hP (by omega)) h2 hn
      · have h49 : ¬ fW tx 49 a = true := by rw [g1.1]; decide
        rw [if_neg h49] at hn ⊢
        cases hs : bStep tx ns us j a bl with
        | mk r l =>
          rw [hs] at hn
          cases r with
          | some y => cases hn
          | none =>
            have e : l = bl ++ [nB tx ns j a] := by
              have := congrArg Prod.snd hs
              have h1 := congrArg Prod.fst hs
              unfold bStep at this h1
              split at this
              · rename_i c; rw [if_pos c] at h1; cases h1
              · rename_i c; rw [if_neg c] at h1
                split at this
                · rename_i c; rw [if_pos c] at h1; cases h1
                · rename_i c; rw [if_neg c] at h1
                  split at this
                  · rename_i c; rw [if_pos c] at h1; cases h1
                  · rename_i c; rw [if_neg c] at h1
                    split at this
                    · rename_i c; rw [if_pos c] at h1; cases h1
                    · rename_i c; rw [if_neg c] at h1
                      split at this
                      · rename_i c; rw [if_pos c] at h1; cases h1
                      · exact this.symm
            refine ih _ fl l ?_ h2 hn
            rw [e, g2]
            exact bP_add hP g1
theorem fMcs_pos (hcl : ∀ k, k < ns.length - 8 → clsK tx (cAt tx k)) : ∀ (d c : Nat) (fl : List (List Int × Nat × Int)) (bl : List jB), 8 ≤ c → bP tx bl (cAt tx (c - 8)) → (fMcs tx ns us d c fl bl).1 = none → ∃ p, bP tx (fMcs tx ns us d c fl bl).2.2 p := by
  intro d
  induction d with
  | zero => intro c fl bl _ h _; exact ⟨_, h⟩
  | succ d ih =>
    intro c fl bl h8 hP hn
    rw [fMcs] at hn ⊢
    by_cases q : ns.length ≤ c
    · rw [if_pos q] at hn ⊢; exact ⟨_, hP⟩
    · rw [if_neg q] at hn ⊢
      obtain ⟨c0, c1, c2, c3, c4, c5, c6⟩ := hcl (c - 8) (by omega)
      cases hs : fMem tx ns us c 20000 (cAt tx (c - 8) + 5) fl bl with
      | mk r l =>
        obtain ⟨l, k⟩ := l
        rw [hs] at hn
        cases r with
        | some y => cases hn
        | none =>
          have := fMem_pos (ns := ns) (us := us) (j := c) 20000 (cAt tx (c - 8) + 5) fl bl (bP_up hP (by omega)) c6 (by rw [hs])
          rw [hs] at this
          refine ih (c + 1) l k (by omega) ?_ hn
          rw [show c + 1 - 8 = (c - 8) + 1 by omega]
          exact this
end POS
