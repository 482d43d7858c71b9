/-! The reference looks at the form: the whole. -/
section MPS
variable {S : nk_S} {tx : List (List Int)}
theorem fW_T {w a : Nat} (h : fW tx w a = true) : a < tx.length := by
  by_cases c : a < tx.length
  · exact c
  · rw [(f_none (tx := tx) (a := a) (by omega)).1 w] at h; cases h
theorem fN_T {a : Nat} (h : fN tx a = true) : a < tx.length := by
  by_cases c : a < tx.length
  · exact c
  · rw [(f_none (tx := tx) (a := a) (by omega)).2.1] at h; cases h
theorem fC_T {a : Nat} (h : fC tx a = true) : a < tx.length := by
  by_cases c : a < tx.length
  · exact c
  · rw [(f_none (tx := tx) (a := a) (by omega)).2.2.1] at h; cases h
theorem sq_ok {x : Bool × Nat} {k : Nat → Bool × Nat} (h : (sq x k).1 = true) : x.1 = true ∧ (k x.2).1 = true ∧ sq x k = k x.2 := by
  obtain ⟨b, y⟩ := x
  cases b with
  | false => cases h
  | true => exact ⟨rfl, h, rfl⟩
theorem tk_ok {b : Bool} {a : Nat} (h : (tk b a).1 = true) : b = true ∧ (tk b a).2 = a + 1 := by
  cases b with
  | false => cases h
  | true => exact ⟨rfl, rfl⟩
theorem fLines_ok : ∀ {d a : Nat}, (fLines tx d a).1 = true → a < (fLines tx d a).2 ∧ (fLines tx d a).2 ≤ tx.length := by
  intro d
  induction d with
  | zero => intro a h; cases h
  | succ d ih =>
    intro a h
    rw [fLines] at h ⊢
    cases h58 : fW tx 58 a with
    | true => simp only [if_true]; have := fW_T h58; omega
    | false =>
      rw [h58] at h
      simp only [Bool.false_eq_true, if_false] at h ⊢
      obtain ⟨h1, h2, h3⟩ := sq_ok h
      rw [h3]
      have := fLine_lt h1
      have := ih h2
      omega
theorem fTypes_ok : ∀ {d a : Nat}, (fTypes tx d a).1 = true → a < (fTypes tx d a).2 ∧ (fTypes tx d a).2 ≤ tx.length := by
  intro d
  induction d with
  | zero => intro a h; cases h
  | succ d ih =>
    intro a h
    rw [fTypes] at h ⊢
    cases h56 : fW tx 56 a with
    | true => simp only [if_true]; have := fW_T h56; omega
    | false =>
      rw [h56] at h
      simp only [Bool.false_eq_true, if_false] at h ⊢
      obtain ⟨h1, h2, h3⟩ := sq_ok h
      rw [h3]
      have := (tk_ok h1).2
      have := ih h2
      omega
theorem fMember_ok {d a : Nat} (h : (fMember tx d a).1 = true) : a < (fMember tx d a).2 ∧ (fMember tx d a).2 ≤ tx.length := by
  unfold fMember at h ⊢
  cases h49 : fW tx 49 a with
  | true =>
    rw [h49] at h
    simp only [if_true] at h ⊢
    obtain ⟨h1, h2, h3⟩ := sq_ok h
    rw [h3]
    obtain ⟨g1, g2⟩ := tk_ok h2
    have := (tk_ok h1).2
    have := fT_T g1
    omega
  | false =>
    rw [h49] at h
    simp only [Bool.false_eq_true, if_false] at h ⊢
    obtain ⟨a1, a2, a3⟩ := sq_ok h
    obtain ⟨b1, b2, b3⟩ := sq_ok a2
    obtain ⟨c1, c2, c3⟩ := sq_ok b2
    obtain ⟨d1, d2, d3⟩ := sq_ok c2
    obtain ⟨e1, e2, e3⟩ := sq_ok d2
    obtain ⟨f1, f2, f3⟩ := sq_ok e2
    obtain ⟨g1, g2, g3⟩ := sq_ok f2
    rw [a3, b3, c3, d3, e3, f3, g3]
    have k1 := (tk_ok a1).2
    have k2 := (tk_ok b1).2
    have k3 := (tk_ok c1).2
    have k4 := fTypes_ok d1
    have k5 := (tk_ok e1).2
    have k6 := (tk_ok f1).2
    have k7 := (tk_ok g1).2
    have k8 := fLines_ok g2
    omega
theorem m_members (hM : MW S tx) (hT : tx.length ≤ 16000) {rec5 : Nat → nk_S → Option (Int × nk_S)} : ∀ (d m a : Nat), tx.length < a + d → d < m → a ≤ 16100 → ja_X13_isProgram_L99 rec5 m 121 (ma S a) = if (fMembers tx 20000 d a).1 = true then rec5 121 (ma S (fMembers tx 20000 d a).2) else some (0, ma S (fMembers tx 20000 d a).2) := by
  intro d
  induction d with
  | zero =>
    intro m a h1 h2 h3
    obtain ⟨m, rfl⟩ : ∃ q, m = q + 1 := ⟨m - 1, by omega⟩
    show ja_X13_isProgram_b99 rec5 (ja_X13_isProgram_L99 rec5 m) 121 (ma S a) = _
    unfold ja_X13_isProgram_b99
    obtain ⟨n1, n2, -⟩ := f_none (tx := tx) (a := a) (by omega)
    rw [ma_at, m_W hM ok_t.2.2.2.1 tx_t.2.2.2.1 a a (by omega), bd_some, n1 58, if_pos (show bi false = 0 from rfl), m_member hM hT 20000 a rfl (by omega)]
    have hf : fMember tx 20000 a = (false, a) := by
      unfold fMember
      rw [n1 49, n1 50, n1 51]
      rfl
    rw [hf]
    rfl
  | succ d ih =>
    intro m a h1 h2 h3
    obtain ⟨m, rfl⟩ : ∃ q, m = q + 1 := ⟨m - 1, by omega⟩
    show ja_X13_isProgram_b99 rec5 (ja_X13_isProgram_L99 rec5 m) 121 (ma S a) = _
    unfold ja_X13_isProgram_b99
    rw [fMembers, ma_at, m_W hM ok_t.2.2.2.1 tx_t.2.2.2.1 a a (by omega), bd_some]
    cases h58 : fW tx 58 a with
    | true => rw [if_neg (show ¬ bi true = 0 by decide), ma_at, lt_eq, w_nat1 (by omega), ma_ma]; simp only [if_true]
    | false =>
      rw [if_pos (show bi false = 0 from rfl), m_member hM hT 20000 a rfl (by omega)]
      simp only [Bool.false_eq_true, if_false]
      have hok := fMember_ok (tx := tx) (d := 20000) (a := a)
      obtain ⟨b, y, hby⟩ : ∃ b y, fMember tx 20000 a = (b, y) := ⟨_, _, rfl⟩
      rw [hby] at hok ⊢
      cases b with
      | false => rfl
      | true =>
        have := hok rfl
        simp only at this
        exact ih m y (by omega) (by omega) (by omega)
theorem fMembers_ok : ∀ {d0 d a : Nat}, (fMembers tx d0 d a).1 = true → a < (fMembers tx d0 d a).2 ∧ (fMembers tx d0 d a).2 ≤ tx.length := by
  intro d0 d
  induction d with
  | zero => intro a h; cases h
  | succ d ih =>
    intro a h
    rw [fMembers] at h ⊢
    cases h58 : fW tx 58 a with
    | true => simp only [if_true]; have := fW_T h58; omega
    | false =>
      rw [h58] at h
      simp only [Bool.false_eq_true, if_false] at h ⊢
      obtain ⟨h1, h2, h3⟩ := sq_ok h
      rw [h3]
      have := fMember_ok h1
      have := ih h2
      omega
theorem m_prog (hM : MW S tx) (hT : tx.length ≤ 16000) : ∀ (d m a : Nat), tx.length < a + d → d < m → a ≤ tx.length → ja_X13_isProgram_L5 m 121 (ma S a) = mR S (fProg tx 20000 d a) := by
  intro d
  induction d with
  | zero => intro m a h1 h2 h3; omega
  | succ d ih =>
    intro m a h1 h2 h3
    obtain ⟨m, rfl⟩ : ∃ q, m = q + 1 := ⟨m - 1, by omega⟩
    show ja_X13_isProgram_b5 (ja_X13_isProgram_L5 m) 121 (ma S a) = _
    unfold ja_X13_isProgram_b5
    rw [fProg]
    by_cases c : tx.length ≤ a
    · rw [if_pos c, ma_at, ma_T a hM, if_pos (by omega)]; rfl
    · rw [if_neg c]
      have hc2 : ¬ (ma S a).1 121 10 ≤ (ma S a).1 121 11 := by rw [ma_at, ma_T a hM]; omega
      rw [if_neg hc2]
      refine m_sq (by omega) (mp_W hM ok_t.1 tx_t.1 a (by omega)) (fun _ => m_sq (by omega) (mp_class hM (a + 1) (by omega)) (fun _ => m_sq (by omega) (mp_W hM ok_t.2.1 tx_t.2.1 (a + 1 + 1) (by omega)) (fun _ => m_sq (by omega) (mp_class hM (a + 1 + 1 + 1) (by omega)) (fun _ => m_sq (by omega) (mp_W hM ok_t.2.2.1 tx_t.2.2.1 (a + 1 + 1 + 1 + 1) (by omega)) (fun _ => ?_)))))
      rw [m_members hM hT 20000 nk_big (a + 1 + 1 + 1 + 1 + 1) (by omega) (by unfold nk_big; omega) (by omega)]
      have hok := fMembers_ok (tx := tx) (d0 := 20000) (d := 20000) (a := a + 1 + 1 + 1 + 1 + 1)
      obtain ⟨b, y, hby⟩ : ∃ b y, fMembers tx 20000 20000 (a + 1 + 1 + 1 + 1 + 1) = (b, y) := ⟨_, _, rfl⟩
      rw [hby] at hok ⊢
      cases b with
      | false => rfl
      | true =>
        have := hok rfl
        simp only at this
        exact ih m y (by omega) (by omega) (by omega)
/-- isProgram -/
theorem m_isProgram (hM : MW S tx) (hT : tx.length ≤ 16000) : ja_X13_isProgram 121 S = mR S (fProg tx 20000 20000 0) := by
  unfold ja_X13_isProgram
  rw [lt_eq]
  exact m_prog hM hT 20000 nk_big 0 (by omega) (by unfold nk_big; omega) (by omega)
end MPS
