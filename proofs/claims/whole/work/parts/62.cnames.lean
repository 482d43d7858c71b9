/-! Names of classes: the class's walk. -/
section CNA
variable {S : nk_S} {tx : List (List Int)} {c Q : Nat}
theorem c_at0 (hC : CF S tx c) (b : Nat) : ja_X10_at 2 (b : Int) S = some (cw S tx b, S) := by
  obtain ⟨h1, h2, h3, h4, h5, -⟩ := hC
  unfold ja_X10_at cw
  rw [if_neg (by omega), h4]
  by_cases q : (tx.length : Int) ≤ (b : Int)
  · rw [if_pos q, if_neg (by omega)]
  · rw [if_neg q, if_pos (in_i (N := 16000) (by omega)), jc_2_3, Int.toNat_natCast, if_pos (by omega)]
theorem c_first (hC : CF S tx c) {w : Nat} (hw : w < c) : ja_X10_firstOf 2 (w : Int) S = some (S.1 10 w, S) := by
  obtain ⟨h1, h2, h3, -⟩ := hC
  unfold ja_X10_firstOf
  rw [if_neg (by omega), h1, if_neg (by omega), if_pos (in_i (N := 12288) (by omega)), jc_2_13, Int.toNat_natCast]
theorem CF_c {S' : nk_S} (h2 : S'.1 2 = S.1 2) (h3 : S'.1 3 = S.1 3) (h4 : S'.1 4 = S.1 4) (h5 : S'.1 5 = S.1 5) (h6 : S'.1 6 = S.1 6) (h9 : S'.1 9 = S.1 9) (h : CF S tx c) : CF S' tx c := by
  have kw : ∀ w, wd S' w = wd S w := fun w => wd_congr h3 (by rw [h5]) (by rw [h6])
  obtain ⟨a1, a2, a3, a4, a5, a6, a7, a8, a9⟩ := h
  refine ⟨by rw [h2]; exact a1, a2, a3, by rw [h2]; exact a4, a5, ?_, ?_, ?_, ?_⟩
  · intro i l hl
    rw [h4]
    obtain ⟨w, b1, b2, b3⟩ := a6 i l hl
    exact ⟨w, b1, b2, by rw [kw]; exact b3⟩
  · intro w w' hw hw' e; rw [kw, kw] at e; exact a7 w w' hw hw' e
  · intro w hw; rw [kw]; exact a8 w hw
  · intro v hv; rw [kw, h9]; exact a9 v hv
theorem wk_n (hC : CF S tx c) {rec4 : Nat → Int → Int → nk_S → Option (Int × nk_S)} {a k : Nat} (ha : a < tx.length) (h : kn tx a) (hk : 0 < k) : ja_X6_walkClasses_b4 rec4 85 (k : Int) (a : Int) S = rec4 85 (k : Int) ((a + 1 : Nat) : Int) S := by
  have h4 := hC.2.2.2.1
  have h5 := hC.2.2.2.2.1
  have i57 := cw_iff hC (w := 57) (by decide) a
  have i58 := cw_iff hC (w := 58) (by decide) a
  unfold ja_X6_walkClasses_b4 ja_X6_walkClasses_b15
  rw [jc_85_0, h4, if_neg (by omega), c_at0 hC, bd_some, if_neg (fun e => by have := i57.mp e; rw [kn_no (Or.inl rfl) h] at this; cases this), if_neg (fun e => by have := i58.mp e; rw [kn_no (Or.inr rfl) h] at this; cases this), if_neg (by omega), lt_eq, w_nat1 (by omega)]
theorem wk_o (hC : CF S tx c) {rec4 : Nat → Int → Int → nk_S → Option (Int × nk_S)} {a k : Nat} (hk : k < 100000) (h : fW tx 57 a = true) : ja_X6_walkClasses_b4 rec4 85 (k : Int) (a : Int) S = rec4 85 ((k + 1 : Nat) : Int) ((a + 1 : Nat) : Int) S := by
  have h4 := hC.2.2.2.1
  have h5 := hC.2.2.2.2.1
  have ha := fW_T h
  have i57 := cw_iff hC (w := 57) (by decide) a
  unfold ja_X6_walkClasses_b4 ja_X6_walkClasses_b15
  rw [jc_85_0, h4, if_neg (by omega), c_at0 hC, bd_some, if_pos (show cw S tx a = 57 from i57.mpr h), lt_eq, lt_eq, w_nat1 (by omega), w_nat1 (by omega)]
theorem wk_c (hC : CF S tx c) {rec4 : Nat → Int → Int → nk_S → Option (Int × nk_S)} {a k : Nat} (hk : k < 100000) (h : fW tx 58 a = true) : ja_X6_walkClasses_b4 rec4 85 ((k + 1 : Nat) : Int) (a : Int) S = rec4 85 (k : Int) ((a + 1 : Nat) : Int) S := by
  have h4 := hC.2.2.2.1
  have h5 := hC.2.2.2.2.1
  have ha := fW_T h
  have i57 := cw_iff hC (w := 57) (by decide) a
  have i58 := cw_iff hC (w := 58) (by decide) a
  unfold ja_X6_walkClasses_b4 ja_X6_walkClasses_b15
  rw [jc_85_0, h4, if_neg (by omega), c_at0 hC, bd_some, if_neg (fun e => by have := i57.mp e; rw [br_ex2 h] at this; cases this), if_pos (show cw S tx a = 58 from i58.mpr h), lt_eq, lt_eq, w_nat1 (by omega), show ((k + 1 : Nat) : Int) + -1 = (k : Int) by omega, w_n0 (by omega)]
theorem wk_NB (hC : CF S tx c) {k : Nat} (hk : 0 < k) : ∀ (e a b m : Nat), a + e = b → b ≤ tx.length → NB tx a b → ja_X6_walkClasses_L4 (m + e) 85 (k : Int) (a : Int) S = ja_X6_walkClasses_L4 m 85 (k : Int) (b : Int) S := by
  intro e
  induction e with
  | zero =>
    intro a b m h1 h2 h3
    obtain rfl : a = b := by omega
    rfl
  | succ e ih =>
    intro a b m h1 h2 h3
    show ja_X6_walkClasses_b4 (ja_X6_walkClasses_L4 (m + e)) 85 (k : Int) (a : Int) S = _
    rw [wk_n hC (by omega) (h3 a (by omega) (by omega)) hk]
    exact ih (a + 1) b m (by omega) h2 (fun i x y => h3 i (by omega) y)
theorem wk_over (hC : CF S tx c) {k : Nat} (hk : 0 < k) (hk2 : k < 1000) {a o e m : Nat} (h1 : a < o) (h2 : o < e) (h3 : e < tx.length) (n1 : NB tx a o) (n2 : fW tx 57 o = true) (n3 : NB tx (o + 1) e) (n4 : fW tx 58 e = true) : ja_X6_walkClasses_L4 (m + (e + 1 - a)) 85 (k : Int) (a : Int) S = ja_X6_walkClasses_L4 m 85 (k : Int) ((e + 1 : Nat) : Int) S := by
  rw [show m + (e + 1 - a) = (m + 1 + (e - (o + 1)) + 1) + (o - a) by omega, wk_NB hC hk (o - a) a o _ (by omega) (by omega) n1]
  show ja_X6_walkClasses_b4 (ja_X6_walkClasses_L4 (m + 1 + (e - (o + 1)))) 85 (k : Int) (o : Int) S = _
  rw [wk_o hC (by omega) n2, wk_NB hC (by omega) (e - (o + 1)) (o + 1) e _ (by omega) (by omega) n3]
  show ja_X6_walkClasses_b4 (ja_X6_walkClasses_L4 m) 85 ((k + 1 : Nat) : Int) (e : Int) S = _
  rw [wk_c hC (by omega) n4]
theorem wk_mems (hC : CF S tx c) : ∀ (d a m : Nat), (fMembers tx 20000 d a).1 = true → ja_X6_walkClasses_L4 (m + ((fMembers tx 20000 d a).2 - a)) 85 1 (a : Int) S = ja_X6_walkClasses_L4 m 85 0 ((fMembers tx 20000 d a).2 : Int) S := by
  have hT := hC.2.2.2.2.1
  intro d
  induction d with
  | zero => intro a m h; cases h
  | succ d ih =>
    intro a m h
    have hend := fMembers_ok h
    rw [fMembers] at h hend ⊢
    cases h58 : fW tx 58 a with
    | true =>
      simp only [if_true]
      rw [show m + (a + 1 - a) = m + 1 by omega]
      show ja_X6_walkClasses_b4 (ja_X6_walkClasses_L4 m) 85 ((0 + 1 : Nat) : Int) (a : Int) S = _
      rw [wk_c hC (by omega) h58]
      rfl
    | false =>
      rw [h58] at h hend
      simp only [Bool.false_eq_true, if_false] at h hend ⊢
      obtain ⟨h1, h2, h3⟩ := sq_ok h
      rw [h3] at hend ⊢
      have hm := fMember_ok h1
      have he := fMembers_ok h2
      have hrec := ih (fMember tx 20000 a).2 m h2
      generalize hE : (fMembers tx 20000 d (fMember tx 20000 a).2).2 = E at hrec he hend ⊢
      rcases mem_kind h1 with ⟨k1, k2, k3, k4⟩ | ⟨k1, k2⟩
      · rw [k4] at hrec he hm
        rw [show m + (E - a) = (m + (E - (a + 3))) + 3 by omega]
        have hN : NB tx a (a + 3) := NB_app (NB_one (kW 49 (by decide) k1)) (NB_app (NB_one (kN k2)) (NB_one (kT k3)))
        have := wk_NB hC (k := 1) (by decide) 3 a (a + 3) (m + (E - (a + 3))) rfl (by omega) hN
        exact this.trans hrec
      · obtain ⟨o, e, b1, b2, b3, b4, b5, b6, b7, b8, b9⟩ := body_at k1
        rw [b1, b2] at k2
        rw [k2] at hrec he hm
        rw [show m + (E - a) = (m + (E - (e + 1))) + (e + 1 - a) by omega]
        have := wk_over hC (k := 1) (by decide) (by decide) (m := m + (E - (e + 1))) b3 b4 b5 b6 b7 b8 b9
        exact this.trans hrec
/-- what the class knows of the classes so far: Q the program, Q + 1 its classes, Q + 2 the rows of those above, Q + 3 the masks -/
def cC (S : nk_S) (Q c : Nat) (ns : List (List Int)) (us : List Int) : Prop := S.1 (Q + 1) 0 = (ns.length : Int) ∧ 8 ≤ ns.length ∧ ns.length ≤ 32 ∧ us.length = ns.length ∧ (∀ j, j < ns.length → S.1 (Q + 2) j = us.getD j 0) ∧ S.1 (Q + 3) 0 = 1 ∧ (∀ j, 0 < j → j < ns.length → ∃ u : Nat, us.getD j 0 = (u : Int) ∧ u < j ∧ S.1 (Q + 3) j = nk_ior (S.1 (Q + 3) u) (nk_ishl 1 (j : Int))) ∧ ∀ v, v < c → shp (wd S v) = 2 → S.1 10 v = amx (wd S v) ns 0
theorem jc_Q (hQ : Q = 13 ∨ Q = 49) : ja_c Q 0 = Q + 1 ∧ ja_c (Q + 1) 1 = Q + 2 ∧ ja_c (Q + 1) 2 = Q + 3 := by rcases hQ with rfl | rfl <;> exact ⟨rfl, rfl, rfl⟩
def ccF (Q : Nat) (S S' : nk_S) : Prop := S'.2 = S.2 ∧ (∀ a, a ≠ 10 → a ≠ 11 → a ≠ Q + 1 → a ≠ Q + 2 → a ≠ Q + 3 → S'.1 a = S.1 a) ∧ (∀ i, i ≠ 0 → S'.1 (Q + 1) i = S.1 (Q + 1) i) ∧ ∀ v : Nat, (shp (wd S v) = 2 ∨ S'.1 10 v = S.1 10 v) ∧ (shp (wd S v) = 2 ∨ S'.1 11 v = S.1 11 v)
def ccA (r : Option Nat) : Int := match r with
  | none => -1
  | some y => (y : Int)
theorem c_tok2 (hC : CF S tx c) {a : Nat} (h : fC tx a = true) : ∃ w, w < c ∧ cw S tx a = (w : Int) ∧ wd S w = tx.getD a [] ∧ shp (wd S w) = 2 := by
  obtain ⟨w, w1, w2, w3, w4⟩ := cw_some hC (fC_T h)
  refine ⟨w, w1, w2, w3, ?_⟩
  have := (c_shapes (tx := tx) a).2.1
  rw [h, ← w3] at this
  exact of_decide_eq_true this
end CNA
