/-! The reference steps behind a member, behind a class. -/
theorem w_n0 {k : Nat} (h : k < 2147483648) : nk_w (k : Int) = (k : Int) := nk_w_id (by omega) (by omega)
section MBH
variable {S : nk_S} {tx : List (List Int)}
theorem m_W0 {k w : Nat} (hM : MW S tx) (hk : okt k) (hw : txt k = fx.getD w []) (b : Nat) (hb : b < 2000000) : ja_X13_is 121 (b : Int) k S = some (bi (fW tx w b), S) := by
  rw [m_is hM hk b hb, hw]; rfl
theorem m_lb (hM : MW S tx) (b : Nat) (hb : b < 2000000) : ja_X13_is 121 (b : Int) 11 S = some (bi (fW tx 57 b), S) := m_W0 hM ok_t.2.2.1 tx_t.2.2.1 b hb
theorem m_rb (hM : MW S tx) (b : Nat) (hb : b < 2000000) : ja_X13_is 121 (b : Int) 13 S = some (bi (fW tx 58 b), S) := m_W0 hM ok_t.2.2.2.1 tx_t.2.2.2.1 b hb
theorem m_fd (hM : MW S tx) (b : Nat) (hb : b < 2000000) : ja_X13_is 121 (b : Int) 15 S = some (bi (fW tx 49 b), S) := m_W0 hM ok_t.2.2.2.2.1 tx_t.2.2.2.2.1 b hb
theorem br_ex {a : Nat} (h : fW tx 57 a = true) : fW tx 58 a = false := by
  cases h2 : fW tx 58 a with
  | false => rfl
  | true => have := fW_two (by decide) (by decide) h h2; omega
theorem br_ex2 {a : Nat} (h : fW tx 58 a = true) : fW tx 57 a = false := by
  cases h2 : fW tx 57 a with
  | false => rfl
  | true => have := fW_two (by decide) (by decide) h h2; omega
theorem bh_n (hM : MW S tx) {rec20 : Nat → Int → Int → nk_S → Option (Int × nk_S)} {a k : Nat} (ha : a < 100000) (h1 : fW tx 57 a = false) (h2 : fW tx 58 a = false) (hk : 0 < k) : ja_X13_behind_b20 rec20 121 (a : Int) (k : Int) S = rec20 121 ((a + 1 : Nat) : Int) (k : Int) S := by
  unfold ja_X13_behind_b20
  rw [m_lb hM a (by omega), bd_some, h1, if_pos (show bi false = 0 from rfl)]
  unfold ja_X13_behind_b33
  rw [m_rb hM a (by omega), bd_some, h2, if_pos (show bi false = 0 from rfl)]
  unfold ja_X13_behind_b46
  rw [lt_eq, w_nat1 (by omega), if_pos (by omega)]
theorem bh_o (hM : MW S tx) {rec20 : Nat → Int → Int → nk_S → Option (Int × nk_S)} {a k : Nat} (ha : a < 100000) (hk : k < 100000) (h1 : fW tx 57 a = true) : ja_X13_behind_b20 rec20 121 (a : Int) (k : Int) S = rec20 121 ((a + 1 : Nat) : Int) ((k + 1 : Nat) : Int) S := by
  unfold ja_X13_behind_b20
  rw [m_lb hM a (by omega), bd_some, h1, if_neg (show ¬ bi true = 0 by decide), lt_eq, w_nat1 (by omega)]
  unfold ja_X13_behind_b33
  rw [m_rb hM a (by omega), bd_some, br_ex h1, if_pos (show bi false = 0 from rfl)]
  unfold ja_X13_behind_b46
  rw [lt_eq, w_nat1 (by omega), if_pos (by omega)]
theorem bh_c (hM : MW S tx) {rec20 : Nat → Int → Int → nk_S → Option (Int × nk_S)} {a k : Nat} (ha : a < 100000) (hk : k < 100000) (h1 : fW tx 58 a = true) : ja_X13_behind_b20 rec20 121 (a : Int) ((k + 1 : Nat) : Int) S = if 0 < k then rec20 121 ((a + 1 : Nat) : Int) (k : Int) S else some (((a + 1 : Nat) : Int), S) := by
  unfold ja_X13_behind_b20
  rw [m_lb hM a (by omega), bd_some, br_ex2 h1, if_pos (show bi false = 0 from rfl)]
  unfold ja_X13_behind_b33
  have e : nk_w (((k + 1 : Nat) : Int) + -1) = (k : Int) := by
    rw [show ((k + 1 : Nat) : Int) + -1 = (k : Int) by omega]
    exact w_n0 (by omega)
  rw [m_rb hM a (by omega), bd_some, h1, if_neg (show ¬ bi true = 0 by decide), lt_eq, e]
  clear e
  unfold ja_X13_behind_b46
  rw [lt_eq, w_nat1 (by omega)]
  by_cases q : 0 < k
  · rw [if_pos (by omega), if_pos q]
  · rw [if_neg (by omega), if_neg q]
theorem m_NB (hM : MW S tx) {k : Nat} (hk : 0 < k) : ∀ (e a b m : Nat), a + e = b → b < 100000 → NB tx a b → ja_X13_behind_L20 (m + e) 121 (a : Int) (k : Int) S = ja_X13_behind_L20 m 121 (b : Int) (k : Int) S := by
  intro e
  induction e with
  | zero =>
    intro a b m h1 h2 h3
    obtain rfl : a = b := by omega
    rfl
  | succ e ih =>
    intro a b m h1 h2 h3
    show ja_X13_behind_b20 (ja_X13_behind_L20 (m + e)) 121 (a : Int) (k : Int) S = _
    have hka := h3 a (by omega) (by omega)
    rw [bh_n hM (by omega) (kn_no (Or.inl rfl) hka) (kn_no (Or.inr rfl) hka) hk]
    exact ih (a + 1) b m (by omega) h2 (fun i x y => h3 i (by omega) y)
/-- the places of a body: its opening brace o, its closing brace c -/
theorem body_at {a : Nat} (h : bodyAt tx a) : ∃ o c, (fHd tx 20000 (a + 1)).2 = o + 1 ∧ (fLines tx 20000 (o + 1)).2 = c + 1 ∧ a < o ∧ o < c ∧ c < tx.length ∧ NB tx a o ∧ fW tx 57 o = true ∧ NB tx (o + 1) c ∧ fW tx 58 c = true := by
  obtain ⟨h1, h2, h3, h4⟩ := h
  obtain ⟨i1, i2, i3⟩ := nb_hd h3
  obtain ⟨j1, j2, j3⟩ := nb_lines h4
  obtain ⟨o, ho⟩ : ∃ o, (fHd tx 20000 (a + 1)).2 = o + 1 := ⟨(fHd tx 20000 (a + 1)).2 - 1, by omega⟩
  rw [ho] at i1 i2 i3 j1 j2 j3
  obtain ⟨c, hc⟩ : ∃ c, (fLines tx 20000 (o + 1)).2 = c + 1 := ⟨(fLines tx 20000 (o + 1)).2 - 1, by omega⟩
  rw [hc] at j1 j2 j3
  rw [Nat.add_sub_cancel] at i1 i2 j1 j2
  refine ⟨o, c, ho, hc, ?_, by omega, fW_T j2, ?_, i2, j1, j2⟩
  · by_cases q : a < o
    · exact q
    · exfalso
      obtain rfl : o = a := by omega
      rcases h2 with h2 | h2
      · have := fW_two (by decide) (by decide) h2 i2; omega
      · have := fW_two (by decide) (by decide) h2 i2; omega
  · refine NB_app (NB_one ?_) i1
    rcases h2 with h2 | h2
    · exact kW 50 (by decide) h2
    · exact kW 51 (by decide) h2
theorem m_over (hM : MW S tx) {k : Nat} (hk : 0 < k) (hk2 : k < 1000) {a o c m : Nat} (hT : tx.length ≤ 16000) (h1 : a < o) (h2 : o < c) (h3 : c < tx.length) (n1 : NB tx a o) (n2 : fW tx 57 o = true) (n3 : NB tx (o + 1) c) (n4 : fW tx 58 c = true) : ja_X13_behind_L20 (m + (c + 1 - a)) 121 (a : Int) (k : Int) S = ja_X13_behind_L20 m 121 ((c + 1 : Nat) : Int) (k : Int) S := by
  rw [show m + (c + 1 - a) = (m + 1 + (c - (o + 1)) + 1) + (o - a) by omega, m_NB hM hk (o - a) a o _ (by omega) (by omega) n1]
  show ja_X13_behind_b20 (ja_X13_behind_L20 (m + 1 + (c - (o + 1)))) 121 (o : Int) (k : Int) S = _
  rw [bh_o hM (by omega) (by omega) n2, m_NB hM (by omega) (c - (o + 1)) (o + 1) c _ (by omega) (by omega) n3]
  show ja_X13_behind_b20 (ja_X13_behind_L20 m) 121 (c : Int) ((k + 1 : Nat) : Int) S = _
  rw [bh_c hM (by omega) (by omega) n4, if_pos hk]
theorem m_mems (hM : MW S tx) (hT : tx.length ≤ 16000) : ∀ (d a m : Nat), (fMembers tx 20000 d a).1 = true → ja_X13_behind_L20 (m + ((fMembers tx 20000 d a).2 - a)) 121 (a : Int) 1 S = some (((fMembers tx 20000 d a).2 : Int), S) := by
  intro d
  induction d with
  | zero => intro a m h; cases h
  | succ d ih =>
    intro a m h
    have hend := fMembers_ok h
    rw [fMembers] at h hend ⊢
    cases h58 : fW tx 58 a with
    | true =>
      simp only [if_true]
      rw [show m + (a + 1 - a) = m + 1 by omega]
      show ja_X13_behind_b20 (ja_X13_behind_L20 m) 121 (a : Int) ((0 + 1 : Nat) : Int) S = _
      have := fW_T h58
      rw [bh_c hM (by omega) (by omega) h58, if_neg (by omega)]
    | false =>
      rw [h58] at h hend
      simp only [Bool.false_eq_true, if_false] at h hend ⊢
      obtain ⟨h1, h2, h3⟩ := sq_ok h
      rw [h3] at hend ⊢
      have hm := fMember_ok h1
      have he := fMembers_ok h2
      have hrec := ih (fMember tx 20000 a).2 m h2
      generalize hE : (fMembers tx 20000 d (fMember tx 20000 a).2).2 = E at hrec he hend ⊢
      rcases mem_kind h1 with ⟨k1, k2, k3, k4⟩ | ⟨k1, k2⟩
      · rw [k4] at hrec he hm
        rw [show m + (E - a) = (m + (E - (a + 3))) + 3 by omega]
        have hN : NB tx a (a + 3) := NB_app (NB_one (kW 49 (by decide) k1)) (NB_app (NB_one (kN k2)) (NB_one (kT k3)))
        have := m_NB hM (k := 1) (by decide) 3 a (a + 3) (m + (E - (a + 3))) rfl (by omega) hN
        exact this.trans hrec
      · obtain ⟨o, c, b1, b2, b3, b4, b5, b6, b7, b8, b9⟩ := body_at k1
        rw [b1, b2] at k2
        rw [k2] at hrec he hm
        rw [show m + (E - a) = (m + (E - (c + 1))) + (c + 1 - a) by omega]
        have := m_over hM (k := 1) (by decide) (by decide) (m := m + (E - (c + 1))) hT b3 b4 b5 b6 b7 b8 b9
        exact this.trans hrec
theorem m_to (hM : MW S tx) {o : Nat} (ho : o < 100000) (h57 : fW tx 57 o = true) : ∀ (e a m : Nat), a + e = o → NB tx a o → ja_X13_behind_L2 (m + 1 + e) 121 (a : Int) S = ja_X13_behind_L20 nk_big 121 (o : Int) 0 S := by
  intro e
  induction e with
  | zero =>
    intro a m h1 h2
    obtain rfl : a = o := by omega
    show ja_X13_behind_b2 (ja_X13_behind_L2 m) 121 (a : Int) S = _
    unfold ja_X13_behind_b2
    rw [m_lb hM a (by omega), bd_some, h57, if_neg (show ¬ bi true = 0 by decide)]
  | succ e ih =>
    intro a m h1 h2
    show ja_X13_behind_b2 (ja_X13_behind_L2 (m + 1 + e)) 121 (a : Int) S = _
    unfold ja_X13_behind_b2
    rw [m_lb hM a (by omega), bd_some, kn_no (Or.inl rfl) (h2 a (by omega) (by omega)), if_pos (show bi false = 0 from rfl), lt_eq, w_nat1 (by omega)]
    exact ih (a + 1) m (by omega) (fun i x y => h2 i (by omega) y)
/-- behind a class -/
theorem m_behC (hM : MW S tx) (hT : tx.length ≤ 16000) {a : Nat} (h1 : fW tx 47 a = true) (h2 : fC tx (a + 1) = true) (h3 : fW tx 48 (a + 2) = true) (h4 : fC tx (a + 3) = true) (h5 : fW tx 57 (a + 4) = true) (h6 : (fMembers tx 20000 20000 (a + 5)).1 = true) : ja_X13_behind 121 (a : Int) S = some (((fMembers tx 20000 20000 (a + 5)).2 : Int), S) := by
  have hN : NB tx a (a + 4) := NB_app (NB_one (kW 47 (by decide) h1)) (NB_app (NB_one (kC h2)) (NB_app (NB_one (kW 48 (by decide) h3)) (NB_one (kC h4))))
  have hl := fW_T h5
  have hE := fMembers_ok h6
  unfold ja_X13_behind
  obtain ⟨m, hm⟩ := big_ge 5 (by decide)
  have e1 := m_to hM (by omega) h5 4 a m (by omega) hN
  rw [show m + 1 + 4 = nk_big by omega] at e1
  rw [e1]
  obtain ⟨m2, hm2⟩ := big_ge (1 + ((fMembers tx 20000 20000 (a + 5)).2 - (a + 5))) (by omega)
  rw [show nk_big = m2 + ((fMembers tx 20000 20000 (a + 5)).2 - (a + 5)) + 1 by omega]
  show ja_X13_behind_b20 (ja_X13_behind_L20 (m2 + ((fMembers tx 20000 20000 (a + 5)).2 - (a + 5)))) 121 ((a + 4 : Nat) : Int) ((0 : Nat) : Int) S = _
  rw [bh_o hM (by omega) (by omega) h5]
  exact m_mems hM hT 20000 (a + 5) m2 h6
/-- behind a member -/
theorem m_behM (hM : MW S tx) (hT : tx.length ≤ 16000) {a : Nat} (h : (fMember tx 20000 a).1 = true) : ja_X13_behindMember 121 (a : Int) S = some (((fMember tx 20000 a).2 : Int), S) := by
  have hm := fMember_ok h
  unfold ja_X13_behindMember
  rw [m_fd hM a (by omega), bd_some]
  rcases mem_kind h with ⟨k1, k2, k3, k4⟩ | ⟨k1, k2⟩
  · rw [k1, if_neg (show ¬ bi true = 0 by decide), k4]
    have e : nk_w ((a : Int) + 3) = ((a + 3 : Nat) : Int) := by
      rw [show (a : Int) + 3 = ((a + 3 : Nat) : Int) by omega]
      exact w_n0 (by omega)
    rw [e]
  · obtain ⟨o, c, b1, b2, b3, b4, b5, b6, b7, b8, b9⟩ := body_at k1
    rw [b1, b2] at k2
    rw [k1.1, if_pos (show bi false = 0 from rfl), k2]
    have e : ja_X13_behind 121 (a : Int) S = some (((c + 1 : Nat) : Int), S) := by
      unfold ja_X13_behind
      obtain ⟨m, hm⟩ := big_ge (1 + (o - a)) (by omega)
      have e1 := m_to hM (by omega) b7 (o - a) a m (by omega) b6
      rw [show m + 1 + (o - a) = nk_big by omega] at e1
      rw [e1]
      obtain ⟨m2, hm2⟩ := big_ge (2 + (c - (o + 1))) (by omega)
      rw [show nk_big = m2 + 1 + (c - (o + 1)) + 1 by omega]
      show ja_X13_behind_b20 (ja_X13_behind_L20 (m2 + 1 + (c - (o + 1)))) 121 (o : Int) ((0 : Nat) : Int) S = _
      rw [bh_o hM (by omega) (by omega) b7, m_NB hM (by omega) (c - (o + 1)) (o + 1) c _ (by omega) (by omega) b8]
      show ja_X13_behind_b20 (ja_X13_behind_L20 m2) 121 (c : Int) ((0 + 1 : Nat) : Int) S = _
      rw [bh_c hM (by omega) (by omega) b9, if_neg (by omega)]
    rw [e, bd_some]
end MBH
