/-! The reference looks at the form: members and classes. -/
section MPR
variable {S : nk_S} {tx : List (List Int)}
theorem sq_ub {x : Bool × Nat} {k : Nat → Bool × Nat} {n m : Nat} (h1 : x.2 ≤ n) (h2 : ∀ b, b ≤ n → (k b).2 ≤ m) (hnm : n ≤ m) : (sq x k).2 ≤ m := by
  obtain ⟨b, y⟩ := x
  cases b with
  | false => exact Nat.le_trans h1 hnm
  | true => exact h2 y h1
theorem tk_ub (b : Bool) {a n : Nat} (h : a + 1 ≤ n) : (tk b a).2 ≤ n := by have := (tk_le b a).2; omega
theorem fOp_ub (k a : Nat) : (fOp tx k a).2 ≤ a + 2 := by
  unfold fOp
  split
  all_goals first | exact tk_ub _ (by omega) | (simp only; omega) | exact sq_ub (n := a + 1) (tk_ub _ (Nat.le_refl _)) (fun b hb => tk_ub _ (by omega)) (by omega)
theorem fLine_ub (a : Nat) : (fLine tx a).2 ≤ a + 5 := by
  unfold fLine
  split
  · exact sq_ub (n := a + 1) (tk_ub _ (Nat.le_refl _)) (fun b hb => by simp only; omega) (by omega)
  · split
    · exact sq_ub (n := a + 2) (tk_ub _ (Nat.le_refl _)) (fun b hb => sq_ub (n := a + 3) (tk_ub _ (by omega)) (fun b hb => sq_ub (n := a + 4) (tk_ub _ (by omega)) (fun b hb => tk_ub _ (by omega)) (by omega)) (by omega)) (by omega)
    · split
      · have := fOp_ub (tx := tx) (fK (fO tx a).toNat) (a + 1); omega
      · exact tk_ub _ (by omega)
theorem m_lines (hM : MW S tx) (hT : tx.length ≤ 16000) : ∀ (d m a : Nat), tx.length < a + d → d < m → a < 900000 → ja_X13_isMember_L241 m 121 (ma S a) = mR S (fLines tx d a) := by
  intro d
  induction d with
  | zero =>
    intro m a h1 h2 h3
    obtain ⟨m, rfl⟩ : ∃ q, m = q + 1 := ⟨m - 1, by omega⟩
    show ja_X13_isMember_b241 (ja_X13_isMember_L241 m) 121 (ma S a) = _
    unfold ja_X13_isMember_b241
    obtain ⟨n1, n2, -⟩ := f_none (tx := tx) (a := a) (by omega)
    rw [ma_at, m_W hM ok_t.2.2.2.1 tx_t.2.2.2.1 a a (by omega), bd_some, n1 58, if_pos (show bi false = 0 from rfl), m_line hM a (by omega)]
    have hf : (fLine tx a).1 = false := by
      cases h : (fLine tx a).1 with
      | false => rfl
      | true => have := fLine_T h; omega
    have hf2 : fLine tx a = (false, a) := by
      obtain ⟨m1, -⟩ := f_none (tx := tx) (a := a + 1) (by omega)
      obtain ⟨-, -, -, -, -, -, n7⟩ := f_none (tx := tx) (a := a) (by omega)
      unfold fLine
      rw [m1 59, n1 46, n7, n2]
      rfl
    rw [hf2]
    rfl
  | succ d ih =>
    intro m a h1 h2 h3
    obtain ⟨m, rfl⟩ : ∃ q, m = q + 1 := ⟨m - 1, by omega⟩
    show ja_X13_isMember_b241 (ja_X13_isMember_L241 m) 121 (ma S a) = _
    unfold ja_X13_isMember_b241
    rw [fLines, ma_at, m_W hM ok_t.2.2.2.1 tx_t.2.2.2.1 a a (by omega), bd_some]
    cases h58 : fW tx 58 a with
    | true => rw [if_neg (show ¬ bi true = 0 by decide), ma_at, lt_eq, w_nat1 (by omega), ma_ma]; rfl
    | false =>
      rw [if_pos (show bi false = 0 from rfl), m_line hM a (by omega)]
      simp only [Bool.false_eq_true, if_false]
      have hlt := fLine_lt (tx := tx) (a := a)
      have hT2 := fLine_T (tx := tx) (a := a)
      have hub := fLine_ub (tx := tx) a
      obtain ⟨b, y, hby⟩ : ∃ b y, fLine tx a = (b, y) := ⟨_, _, rfl⟩
      rw [hby] at hlt hT2 hub ⊢
      cases b with
      | false => rfl
      | true => exact ih m y (by have := hlt rfl; simp only at this; omega) (by omega) (by have := hT2 rfl; simp only at hub; omega)
theorem fT_T {a : Nat} (h : fT tx a = true) : a < tx.length := by
  by_cases c : a < tx.length
  · exact c
  · have := (f_none (tx := tx) (a := a) (by omega)).2.2.2.1
    rw [this] at h; cases h
/-- types up to ) -/
theorem m_types (hM : MW S tx) (hT : tx.length ≤ 16000) {K : nk_S → Option (Int × nk_S)} {k : Nat → Bool × Nat} (hK : ∀ a, a ≤ 17000 → K (ma S a) = mR S (k a)) (hb : ∀ S2, (nk_bd (ja_X13_is 121 (S2.1 121 11) 25 S2) fun r6 S7 => if r6 = 0 then nk_bd (ja_X13_isType 121 (S7.1 121 11) S7) fun r9 S10 => if r9 = 0 then ja_X13_isMember_b201 121 121 0 S10 else ja_X13_isMember_b196 121 121 S10 else ja_X13_isMember_b196 121 121 S7) = K S2) : ∀ (d m a : Nat), tx.length < a + d → d < m → a ≤ 16500 → ja_X13_isMember_L131 m 121 (ma S a) = mR S (sq (fTypes tx d a) k) := by
  intro d
  induction d with
  | zero =>
    intro m a h1 h2 h3
    obtain ⟨m, rfl⟩ : ∃ q, m = q + 1 := ⟨m - 1, by omega⟩
    show ja_X13_isMember_b131 (ja_X13_isMember_L131 m) 121 (ma S a) = _
    unfold ja_X13_isMember_b131
    obtain ⟨n1, n2, n3, n4, -⟩ := f_none (tx := tx) (a := a) (by omega)
    have ht := mp_type hM a (by omega)
    dsimp only at ht
    rw [ma_at, m_W hM ok_t.2.2.2.2.2.2.2.2.1 tx_t.2.2.2.2.2.2.2.2.1 a a (by omega), bd_some, n1 56, if_pos (show bi false = 0 from rfl), ht, bd_some, n4, m_takes false (by omega)]
    rfl
  | succ d ih =>
    intro m a h1 h2 h3
    obtain ⟨m, rfl⟩ : ∃ q, m = q + 1 := ⟨m - 1, by omega⟩
    show ja_X13_isMember_b131 (ja_X13_isMember_L131 m) 121 (ma S a) = _
    unfold ja_X13_isMember_b131
    rw [fTypes, ma_at, m_W hM ok_t.2.2.2.2.2.2.2.2.1 tx_t.2.2.2.2.2.2.2.2.1 a a (by omega), bd_some]
    cases h56 : fW tx 56 a with
    | true =>
      rw [if_neg (show ¬ bi true = 0 by decide), ma_at, lt_eq, w_nat1 (by omega), ma_ma, hb]
      simp only [if_true]
      exact hK (a + 1) (by omega)
    | false =>
      rw [if_pos (show bi false = 0 from rfl)]
      simp only [Bool.false_eq_true, if_false]
      have ht := mp_type hM a (by omega)
      dsimp only at ht
      rw [ht, bd_some, m_takes _ (by omega)]
      have hT2 := fT_T (tx := tx) (a := a)
      cases hf : fT tx a with
      | false => rfl
      | true => exact ih m (a + 1) (by omega) (by omega) (by have := hT2 hf; omega)
theorem m_member (hM : MW S tx) (hT : tx.length ≤ 16000) (d a : Nat) (hd : d = 20000) (ha : a ≤ 16100) : ja_X13_isMember 121 (ma S a) = mR S (fMember tx d a) := by
  unfold ja_X13_isMember fMember
  rw [ma_at, m_W hM ok_t.2.2.2.2.1 tx_t.2.2.2.2.1 a a (by omega), bd_some]
  cases h49 : fW tx 49 a with
  | true =>
    rw [if_neg (show ¬ bi true = 0 by decide), ma_at, lt_eq, w_nat1 (by omega), ma_ma]
    simp only [if_true]
    exact m_sq (by omega) (mp_small hM (a + 1) (by omega)) (fun _ => m_end (by omega) (mp_type hM (a + 1 + 1) (by omega)))
  | false =>
    simp only [Bool.false_eq_true, if_false]
    rw [if_pos (show bi false = 0 from rfl), ma_at, m_W hM ok_t.2.2.2.2.2.1 tx_t.2.2.2.2.2.1 a a (by omega), bd_some]
    have h91 : ∀ b : Bool, ja_X13_isMember_b91 121 121 (bi b) (ma S a) = mR S (sq (tk b a) fun a => sq (tk (fN tx a) a) fun a => sq (tk (fW tx 55 a) a) fun a => sq (fTypes tx d a) fun a => sq (tk (fW tx 53 a || fT tx a) a) fun a => sq (tk (fU tx a) a) fun a => sq (tk (fW tx 57 a) a) fun a => fLines tx d a) := by
      intro b
      unfold ja_X13_isMember_b91
      rw [m_takes b (by omega)]
      cases b with
      | false => rfl
      | true =>
        rw [show mR S (tk true a) = some (1, ma S (a + 1)) from rfl, bd_some, if_neg (by decide)]
        refine m_sq (by omega) (mp_small hM (a + 1) (by omega)) (fun _ => m_sq (by omega) (mp_W hM ok_t.2.2.2.2.2.2.2.1 tx_t.2.2.2.2.2.2.2.1 (a + 1 + 1) (by omega)) (fun _ => ?_))
        refine m_types hM hT (K := fun S2 => nk_bd (ja_X13_is 121 (S2.1 121 11) 25 S2) fun r6 S7 => if r6 = 0 then nk_bd (ja_X13_isType 121 (S7.1 121 11) S7) fun r9 S10 => if r9 = 0 then ja_X13_isMember_b201 121 121 0 S10 else ja_X13_isMember_b196 121 121 S10 else ja_X13_isMember_b196 121 121 S7) (fun c hc => ?_) (fun _ => rfl) d nk_big (a + 1 + 1 + 1) (by omega) (by unfold nk_big; omega) (by omega)
        have h201 : ∀ b : Bool, ja_X13_isMember_b201 121 121 (bi b) (ma S c) = mR S (sq (tk b c) fun a => sq (tk (fU tx a) a) fun a => sq (tk (fW tx 57 a) a) fun a => fLines tx d a) := by
          intro b
          unfold ja_X13_isMember_b201
          rw [m_takes b (by omega)]
          cases b with
          | false => rfl
          | true =>
            rw [show mR S (tk true c) = some (1, ma S (c + 1)) from rfl, bd_some, if_neg (by decide)]
            exact m_sq (by omega) (mp_num hM (c + 1) (by omega)) (fun _ => m_sq (by omega) (mp_W hM ok_t.2.2.1 tx_t.2.2.1 (c + 1 + 1) (by omega)) (fun _ => m_lines hM hT d nk_big (c + 1 + 1 + 1) (by omega) (by unfold nk_big; omega) (by omega)))
        have h1 := mp_W hM ok_t.2.2.2.2.2.2.2.2.2.1 tx_t.2.2.2.2.2.2.2.2.2.1 c (by omega)
        have h2 := mp_type hM c (by omega)
        dsimp only at h1 h2 ⊢
        rw [h1, bd_some]
        cases fW tx 53 c with
        | true => exact h201 true
        | false =>
          rw [if_pos (show bi false = 0 from rfl), h2, bd_some]
          cases fT tx c with
          | true => exact h201 true
          | false => exact h201 false
    cases h50 : fW tx 50 a with
    | true => exact h91 true
    | false =>
      rw [if_pos (show bi false = 0 from rfl), ma_at, m_W hM ok_t.2.2.2.2.2.2.1 tx_t.2.2.2.2.2.2.1 a a (by omega), bd_some]
      cases h51 : fW tx 51 a with
      | true => exact h91 true
      | false => exact h91 false
end MPR
