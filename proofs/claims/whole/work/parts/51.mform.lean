/-! The reference looks at the form. -/
section MFL
variable {S : nk_S} {tx : List (List Int)}
theorem mp_small (hM : MW S tx) (a : Nat) (ha : a < 2000000) : (fun S2 : nk_S => ja_X13_isSmallName 121 (S2.1 121 11) S2) (ma S a) = some (bi (fN tx a), ma S a) := by
  show ja_X13_isSmallName 121 ((ma S a).1 121 11) (ma S a) = _
  rw [ma_at, m_small (ma_MW a hM) a ha]; rfl
theorem mp_class (hM : MW S tx) (a : Nat) (ha : a < 2000000) : (fun S2 : nk_S => ja_X13_isClassName 121 (S2.1 121 11) S2) (ma S a) = some (bi (fC tx a), ma S a) := by
  show ja_X13_isClassName 121 ((ma S a).1 121 11) (ma S a) = _
  rw [ma_at, m_class (ma_MW a hM) a ha]; rfl
theorem mp_type (hM : MW S tx) (a : Nat) (ha : a < 2000000) : (fun S2 : nk_S => ja_X13_isType 121 (S2.1 121 11) S2) (ma S a) = some (bi (fT tx a), ma S a) := by
  show ja_X13_isType 121 ((ma S a).1 121 11) (ma S a) = _
  rw [ma_at, m_type (ma_MW a hM) a ha]; rfl
theorem mp_num (hM : MW S tx) (a : Nat) (ha : a < 2000000) : (fun S2 : nk_S => ja_X13_isNumber 121 (S2.1 121 11) S2) (ma S a) = some (bi (fU tx a), ma S a) := by
  show ja_X13_isNumber 121 ((ma S a).1 121 11) (ma S a) = _
  rw [ma_at, m_isnum (ma_MW a hM) a ha]; rfl
theorem mp_ref (hM : MW S tx) (a : Nat) (ha : a < 2000000) : (fun S2 : nk_S => ja_X13_isReference 121 (S2.1 121 11) S2) (ma S a) = some (bi (fR tx a), ma S a) := by
  show ja_X13_isReference 121 ((ma S a).1 121 11) (ma S a) = _
  rw [ma_at, m_ref (ma_MW a hM) a ha]; rfl
theorem mp_W (hM : MW S tx) {k w : Nat} (hk : okt k) (hw : txt k = fx.getD w []) (a : Nat) (ha : a < 2000000) : (fun S2 : nk_S => ja_X13_is 121 (S2.1 121 11) k S2) (ma S a) = some (bi (fW tx w a), ma S a) := by
  show ja_X13_is 121 ((ma S a).1 121 11) k (ma S a) = _
  rw [ma_at, m_W hM hk hw a a ha]
theorem m_op (hM : MW S tx) (a o : Nat) (ha : a < 1000000) (ho : o < 46) : ja_X13_isLine_b172 121 (o : Int) (ma S a) = mR S (fOp tx (fK o) (a + 1)) := by
  obtain ⟨k1, k2, k3⟩ := fK_t o ho
  unfold ja_X13_isLine_b172
  rw [ma_at, lt_eq, w_nat1 (by omega), ma_ma, jchr ok_t.2.2.2.2.2.2.2.2.2.2.2.2.2.1 k3, bd_some, k1]
  have hk : fK o = 0 ∨ fK o = 1 ∨ fK o = 2 ∨ fK o = 3 ∨ fK o = 4 ∨ fK o = 5 ∨ fK o = 6 ∨ fK o = 7 ∨ fK o = 8 := by omega
  rcases hk with hk | hk | hk | hk | hk | hk | hk | hk | hk
  · rw [hk]; rfl
  · rw [hk]
    exact m_end2 (by omega) (mp_num hM (a + 1) (by omega))
  · rw [hk]
    exact m_end2 (by omega) (mp_num hM (a + 1) (by omega))
  · rw [hk]
    exact m_sq (k := fun a => tk (fU tx a) a) (by omega) (mp_num hM (a + 1) (by omega)) (fun _ => m_end (by omega) (mp_num hM (a + 1 + 1) (by omega)))
  · rw [hk]
    exact m_end2 (by omega) (mp_small hM (a + 1) (by omega))
  · rw [hk]
    exact m_end2 (by omega) (mp_class hM (a + 1) (by omega))
  · rw [hk]
    show (nk_bd (ja_X13_is 121 ((ma S (a + 1)).1 121 11) 35 (ma S (a + 1))) fun r13 S14 => if r13 = 0 then nk_bd (ja_X13_isClassName 121 (S14.1 121 11) S14) fun r16 S17 => if r16 = 0 then ja_X13_isLine_b382 121 0 S17 else ja_X13_isLine_b377 121 S17 else ja_X13_isLine_b377 121 S14) = mR S (tk (fW tx 52 (a + 1) || fC tx (a + 1)) (a + 1))
    have h1 := mp_W hM ok_t.2.2.2.2.2.2.2.2.2.2.2.2.2.2.1 tx_t.2.2.2.2.2.2.2.2.2.2.2.2.1 (a + 1) (by omega)
    have h2 := mp_class hM (a + 1) (by omega)
    dsimp only at h1 h2
    have hb : ∀ b : Bool, ja_X13_isLine_b382 121 (bi b) (ma S (a + 1)) = mR S (tk b (a + 1)) := by
      intro b
      unfold ja_X13_isLine_b382
      rw [m_takes b (by omega)]
      cases b <;> rfl
    rw [h1, bd_some]
    cases fW tx 52 (a + 1) with
    | true => exact hb true
    | false =>
      rw [if_pos (show bi false = 0 from rfl), h2, bd_some]
      cases fC tx (a + 1) with
      | true => exact hb true
      | false => exact hb false
  · rw [hk]
    show (nk_bd (ja_X13_isType 121 ((ma S (a + 1)).1 121 11) (ma S (a + 1))) fun r45 S46 => if r45 = 0 then ja_X13_isLine_b429 121 S46 else nk_bd (ja_X13_is 121 (S46.1 121 11) 35 S46) fun r48 S49 => if r48 = 0 then ja_X13_isLine_b430 121 1 S49 else ja_X13_isLine_b429 121 S49) = mR S (tk (fT tx (a + 1) && !fW tx 52 (a + 1)) (a + 1))
    have h1 := mp_W hM ok_t.2.2.2.2.2.2.2.2.2.2.2.2.2.2.1 tx_t.2.2.2.2.2.2.2.2.2.2.2.2.1 (a + 1) (by omega)
    have h2 := mp_type hM (a + 1) (by omega)
    dsimp only at h1 h2
    have hb : ∀ b : Bool, ja_X13_isLine_b430 121 (bi b) (ma S (a + 1)) = mR S (tk b (a + 1)) := by
      intro b
      unfold ja_X13_isLine_b430
      rw [m_takes b (by omega)]
      cases b <;> rfl
    rw [h2, bd_some]
    cases fT tx (a + 1) with
    | false => exact hb false
    | true =>
      rw [if_neg (show ¬ bi true = 0 by decide), h1, bd_some]
      cases fW tx 52 (a + 1) with
      | true => exact hb false
      | false => exact hb true
  · rw [hk]
    exact m_end2 (by omega) (mp_ref hM (a + 1) (by omega))
theorem f_none {a : Nat} (h : tx.length ≤ a) : (∀ w, fW tx w a = false) ∧ fN tx a = false ∧ fC tx a = false ∧ fT tx a = false ∧ fU tx a = false ∧ fR tx a = false ∧ fO tx a = -1 := by
  have e1 : tx[a]? = none := List.getElem?_eq_none h
  have e2 : tx.getD a [] = [] := by rw [List.getD_eq_getElem?_getD, e1]; rfl
  unfold fN fC fT fU fR fO fW
  rw [e1, e2]
  exact ⟨fun w => rfl, rfl, rfl, by decide, by decide, by decide, by decide +kernel⟩
theorem m_line (hM : MW S tx) (a : Nat) (ha : a < 1000000) : ja_X13_isLine 121 (ma S a) = mR S (fLine tx a) := by
  unfold ja_X13_isLine
  rw [ma_at, ma_T a hM]
  by_cases c : (a : Int) < (tx.length : Int)
  · rw [if_pos c]
    unfold ja_X13_isLine_b13 fLine ja_X13_isLabel
    rw [ma_at, w_nat1 (by omega), m_W hM ok_t.2.2.2.2.2.2.2.2.2.2.1 tx_t.2.2.2.2.2.2.2.2.2.2.1 a (a + 1) (by omega), bd_some]
    cases h59 : fW tx 59 (a + 1) with
    | true =>
      rw [if_pos (show bi true = 0 ∨ bi true = 1 from Or.inr rfl), bd_some, if_neg (show ¬ bi true = 0 by decide)]
      simp only [if_true]
      refine m_sq (k := fun a => (true, a + 1)) (by omega) (mp_small hM a (by omega)) (fun _ => ?_)
      have := m_takes (S := S) (a := a + 1) true (by omega)
      rw [show bi true = 1 from rfl] at this
      rw [this]; rfl
    | false =>
      rw [if_pos (show bi false = 0 ∨ bi false = 1 from Or.inl rfl), bd_some, if_pos (show bi false = 0 from rfl), ma_at, m_W hM ok_t.2.2.2.2.2.2.2.2.2.2.2.1 tx_t.2.2.2.2.2.2.2.2.2.2.2.1 a a (by omega), bd_some]
      simp only [Bool.false_eq_true, if_false]
      cases h46 : fW tx 46 a with
      | true =>
        rw [if_neg (show ¬ bi true = 0 by decide), ma_at, lt_eq, w_nat1 (by omega), ma_ma]
        simp only [if_true]
        exact m_sq (by omega) (mp_small hM (a + 1) (by omega)) (fun _ => m_sq (by omega) (mp_small hM (a + 1 + 1) (by omega)) (fun _ => m_sq (by omega) (mp_small hM (a + 1 + 1 + 1) (by omega)) (fun _ => m_end (by omega) (mp_class hM (a + 1 + 1 + 1 + 1) (by omega)))))
      | false =>
        rw [if_pos (show bi false = 0 from rfl), ma_at, m_opOf hM a (by omega), bd_some]
        simp only [Bool.false_eq_true, if_false]
        by_cases ho : 0 ≤ fO tx a
        · rw [if_pos ho, if_pos ho]
          have hr := fO_rg (tx := tx) a
          obtain ⟨o, ho2⟩ : ∃ o : Nat, fO tx a = (o : Int) := ⟨(fO tx a).toNat, by omega⟩
          rw [ho2, Int.toNat_natCast]
          exact m_op hM a o ha (by omega)
        · rw [if_neg ho, if_neg ho]
          have h1 := mp_small hM a (by omega)
          dsimp only at h1
          rw [h1, bd_some, m_takes _ (by omega)]
          cases fN tx a <;> rfl
  · rw [if_neg c]
    obtain ⟨n1, n2, -, -, -, -, n7⟩ := f_none (tx := tx) (a := a) (by omega)
    obtain ⟨m1, -⟩ := f_none (tx := tx) (a := a + 1) (by omega)
    unfold fLine
    rw [m1 59, n1 46, n7, n2]
    rfl
theorem sq_le {x : Bool × Nat} {k : Nat → Bool × Nat} {a : Nat} (h1 : a ≤ x.2) (h2 : ∀ b, a ≤ b → b ≤ (k b).2) : a ≤ (sq x k).2 := by
  obtain ⟨b, y⟩ := x
  cases b with
  | false => exact h1
  | true => exact Nat.le_trans h1 (h2 y h1)
theorem fOp_le (k a : Nat) : a ≤ (fOp tx k a).2 := by
  unfold fOp
  split
  all_goals first | exact (tk_le _ _).1 | exact Nat.le_refl _ | exact sq_le (tk_le _ _).1 (fun b _ => (tk_le _ _).1)
/-- a line that is one takes a token at least -/
theorem fLine_lt {a : Nat} (h : (fLine tx a).1 = true) : a < (fLine tx a).2 := by
  unfold fLine at h ⊢
  split
  · rename_i q
    rw [if_pos q] at h
    cases hb : fN tx a with
    | false => rw [hb] at h; cases h
    | true => simp only [tk, sq]; omega
  · rename_i q
    rw [if_neg q] at h
    split
    · have := sq_le (x := tk (fN tx (a + 1)) (a + 1)) (k := fun a => sq (tk (fN tx a) a) fun a => sq (tk (fN tx a) a) fun a => tk (fC tx a) a) (a := a + 1) (tk_le _ _).1 (fun b _ => sq_le (tk_le _ _).1 (fun c _ => sq_le (tk_le _ _).1 (fun d _ => (tk_le _ _).1)))
      omega
    · rename_i q2
      rw [if_neg q2] at h
      split
      · have := fOp_le (tx := tx) (fK (fO tx a).toNat) (a + 1)
        omega
      · rename_i q3
        rw [if_neg q3] at h
        cases h
/-- and there is a token there -/
theorem fLine_T {a : Nat} (h : (fLine tx a).1 = true) : a < tx.length := by
  by_cases c : a < tx.length
  · exact c
  · exfalso
    obtain ⟨n1, n2, -, -, -, -, n7⟩ := f_none (tx := tx) (a := a) (by omega)
    obtain ⟨m1, -⟩ := f_none (tx := tx) (a := a + 1) (by omega)
    unfold fLine at h
    rw [m1 59, n1 46, n7] at h
    cases h
end MFL
