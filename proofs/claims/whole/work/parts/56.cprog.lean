/-! The class looks at the form: heads, members, the whole. -/
theorem sq_assoc (x : Bool × Nat) (k l : Nat → Bool × Nat) : sq (sq x k) l = sq x fun a => sq (k a) l := by
  obtain ⟨b, y⟩ := x
  cases b <;> rfl
theorem isT_56 : isT (fx.getD 56 []) = false := by
  cases h : isT (fx.getD 56 []) with
  | false => rfl
  | true =>
    have := (isT_iff _).mp h
    revert this
    decide +kernel
section CPS
variable {S : nk_S} {tx : List (List Int)} {c : Nat}
theorem c_sqx {x : Bool × Nat} {o : Option (Int × nk_S)} {K F : nk_S → Option (Int × nk_S)} {R : Bool × Nat → Option (Int × nk_S)} {k : Nat → Bool × Nat} (ho : o = cR S x) (hF : x.1 = false → F (ca S x.2) = R (false, x.2)) (hK : x.1 = true → K (ca S x.2) = R (k x.2)) : (nk_bd o fun r S2 => if r = 0 then F S2 else K S2) = R (sq x k) := by
  obtain ⟨b, y⟩ := x
  rw [ho]
  cases b with
  | false => exact hF rfl
  | true => exact hK rfl
def fTl (tx : List (List Int)) (a : Nat) : Bool × Nat := sq (tk (fW tx 53 a || fT tx a) a) fun a => sq (tk (fU tx a) a) fun a => tk (fW tx 57 a) a
def fHd (tx : List (List Int)) (d a : Nat) : Bool × Nat := sq (tk (fN tx a) a) fun a => sq (tk (fW tx 55 a) a) fun a => sq (fTypes tx d a) (fTl tx)
theorem fMember_hd {d a : Nat} (h : fW tx 49 a = false) : fMember tx d a = sq (tk (fW tx 50 a || fW tx 51 a) a) fun a => sq (fHd tx d a) (fLines tx d) := by
  unfold fMember fHd fTl
  rw [h]
  simp only [Bool.false_eq_true, if_false, sq_assoc]
theorem fT_56 {a : Nat} (h : fW tx 56 a = true) : fT tx a = false := by
  unfold fW at h
  have h2 := of_decide_eq_true h
  unfold fT
  rw [List.getD_eq_getElem?_getD, h2]
  exact isT_56
theorem c_b92 (hC : CF S tx c) (a : Nat) (ha : a < 1000000) : ja_X6_takesHead_b92 85 (ca S a) = cR S (sq (tk (fU tx a) a) fun a => tk (fW tx 57 a) a) := by
  unfold ja_X6_takesHead_b92
  have h3 := c_shape hC 3 (by decide) a (by omega)
  rw [(c_shapes (tx := tx) a).2.2.1] at h3
  refine c_sq (R := cR S) (F := fun S2 => some (0, S2)) h3 rfl (fun _ => ?_)
  have hw := c_word hC (w := 57) (by decide) (a + 1) (by omega)
  rw [show ((57 : Int)) = ((57 : Nat) : Int) from rfl, hw]
  cases fW tx 57 (a + 1) <;> rfl
theorem c_b67 (hC : CF S tx c) (a : Nat) (ha : a < 900000) : ja_X6_takesHead_b67 85 (ca S a) = cR S (sq (tk (fW tx 56 a) a) (fTl tx)) := by
  unfold ja_X6_takesHead_b67
  refine c_sq (R := cR S) (F := fun S2 => some (0, S2)) (c_word hC (w := 56) (by decide) a (by omega)) rfl (fun _ => ?_)
  have hw := c_word hC (w := 53) (by decide) (a + 1) (by omega)
  rw [show ((53 : Int)) = ((53 : Nat) : Int) from rfl, hw]
  unfold fTl
  cases fW tx 53 (a + 1) with
  | true => exact c_b92 hC (a + 1 + 1) (by omega)
  | false =>
    show (nk_bd (ja_X6_takesType 85 (ca S (a + 1))) fun r7 S8 => if r7 = 0 then some (0, S8) else ja_X6_takesHead_b92 85 S8) = cR S (sq (tk (fT tx (a + 1)) (a + 1)) fun a => sq (tk (fU tx a) a) fun a => tk (fW tx 57 a) a)
    exact c_sq (R := cR S) (F := fun S2 => some (0, S2)) (c_type hC (a + 1) (by omega)) rfl (fun _ => c_b92 hC (a + 1 + 1) (by omega))
theorem c_types (hC : CF S tx c) : ∀ (d m a : Nat), tx.length < a + d → d < m → a ≤ 17000 → ja_X6_takesHead_L19 m 85 (ca S a) = cR S (sq (fTypes tx d a) (fTl tx)) := by
  have hT := hC.2.2.2.2.1
  have hL := hC.2.2.2.1
  intro d
  induction d with
  | zero =>
    intro m a h1 h2 h3
    obtain ⟨m, rfl⟩ : ∃ q, m = q + 1 := ⟨m - 1, by omega⟩
    show ja_X6_takesHead_b19 (ja_X6_takesHead_L19 m) 85 (ca S a) = _
    unfold ja_X6_takesHead_b19
    rw [jc_85_0, ca_n S a (by decide), hL, ca_at, if_pos (by omega), c_b67 hC a (by omega), (f_none (tx := tx) (a := a) (by omega)).1 56]
    rfl
  | succ d ih =>
    intro m a h1 h2 h3
    obtain ⟨m, rfl⟩ : ∃ q, m = q + 1 := ⟨m - 1, by omega⟩
    show ja_X6_takesHead_b19 (ja_X6_takesHead_L19 m) 85 (ca S a) = _
    unfold ja_X6_takesHead_b19
    rw [jc_85_0, ca_n S a (by decide), hL, ca_at, fTypes]
    by_cases q : tx.length ≤ a
    · obtain ⟨n1, -, -, n4, -⟩ := f_none (tx := tx) (a := a) q
      rw [if_pos (by omega), c_b67 hC a (by omega), n1 56, n4]
      rfl
    · rw [if_neg (by omega), c_at hC, bd_some, c_isType hC, bd_some]
      cases ht : fT tx a with
      | false =>
        rw [if_pos (show bi false = 0 from rfl), c_b67 hC a (by omega)]
        cases fW tx 56 a <;> rfl
      | true =>
        have h56 : fW tx 56 a = false := by
          cases h : fW tx 56 a with
          | false => rfl
          | true => have := fT_56 h; rw [ht] at this; cases this
        rw [if_neg (show ¬ bi true = 0 by decide), lt_eq, ca_at, w_nat1 (by omega), ca_ca, h56, ih m (a + 1) (by omega) (by omega) (by omega)]
        rfl
theorem c_head (hC : CF S tx c) (a : Nat) (ha : a ≤ 16500) : ja_X6_takesHead 85 (ca S a) = cR S (fHd tx 20000 a) := by
  have hT := hC.2.2.2.2.1
  unfold ja_X6_takesHead fHd
  have h1 := c_shape hC 1 (by decide) a (by omega)
  rw [(c_shapes (tx := tx) a).1] at h1
  refine c_sq (R := cR S) (F := fun S2 => some (0, S2)) h1 rfl (fun _ => ?_)
  refine c_sq (R := cR S) (F := fun S2 => some (0, S2)) (c_word hC (w := 55) (by decide) (a + 1) (by omega)) rfl (fun _ => ?_)
  have hb : 100000 < nk_big := by obtain ⟨m, hm⟩ := big_ge 100001 (by decide); omega
  exact c_types hC 20000 nk_big (a + 1 + 1) (by omega) (by omega) (by omega)
theorem fHd_ok {d a : Nat} (h : (fHd tx d a).1 = true) : (fHd tx d a).2 ≤ tx.length := by
  unfold fHd fTl at h ⊢
  obtain ⟨a1, a2, a3⟩ := sq_ok h
  obtain ⟨b1, b2, b3⟩ := sq_ok a2
  obtain ⟨c1, c2, c3⟩ := sq_ok b2
  obtain ⟨d1, d2, d3⟩ := sq_ok c2
  obtain ⟨e1, e2, e3⟩ := sq_ok d2
  rw [a3, b3, c3, d3, e3]
  obtain ⟨g1, g2⟩ := tk_ok e2
  have := fW_T g1
  omega
theorem c_member (hC : CF S tx c) {rec2 : Nat → Int → nk_S → Option (Int × nk_S)} (a n : Nat) (ha : a ≤ 16200) (hn : n < 16000) (h58 : fW tx 58 a = false) : ja_X6_takesMembers_b2 rec2 85 (n : Int) (ca S a) = if (fMember tx 20000 a).1 = true then rec2 85 ((n + 1 : Nat) : Int) (ca S (fMember tx 20000 a).2) else some (0, ca S (fMember tx 20000 a).2) := by
  have hT := hC.2.2.2.2.1
  have hwn : nk_w ((n : Int) + 1) = ((n + 1 : Nat) : Int) := w_nat1 (by omega)
  have fin : ∀ (b : Bool) (y : Nat), ja_X6_takesMembers_b113 rec2 85 (n : Int) (bi b) (ca S y) = if b = true then rec2 85 ((n + 1 : Nat) : Int) (ca S y) else some (0, ca S y) := by
    intro b y
    unfold ja_X6_takesMembers_b113
    cases b with
    | false => rfl
    | true => rw [if_neg (show ¬ bi true = 0 by decide), lt_eq, hwn]; rfl
  clear hwn
  obtain ⟨Rr, hRr⟩ : ∃ Rr : Bool × Nat → Option (Int × nk_S), Rr = fun r => if r.1 = true then rec2 85 ((n + 1 : Nat) : Int) (ca S r.2) else some (0, ca S r.2) := ⟨_, rfl⟩
  have goalR : (if (fMember tx 20000 a).1 = true then rec2 85 ((n + 1 : Nat) : Int) (ca S (fMember tx 20000 a).2) else some (0, ca S (fMember tx 20000 a).2)) = Rr (fMember tx 20000 a) := by rw [hRr]
  have finR : ∀ (b : Bool) (y : Nat), ja_X6_takesMembers_b113 rec2 85 (n : Int) (bi b) (ca S y) = Rr (b, y) := by intro b y; rw [fin, hRr]
  rw [goalR]
  unfold ja_X6_takesMembers_b2
  have i58 := cw_iff hC (w := 58) (by decide) a
  have i49 := cw_iff hC (w := 49) (by decide) a
  have i50 := cw_iff hC (w := 50) (by decide) a
  have i51 := cw_iff hC (w := 51) (by decide) a
  have hst : ja_X6_step 85 1 (ca S a) = some (1, ca S (a + 1)) := c_step (S := S) (a := a) true (by omega)
  rw [if_neg (by omega), jc_85_0, ca_at, c_at hC, bd_some, if_neg (fun e => by have := i58.mp e; rw [h58] at this; cases this)]
  cases h49 : fW tx 49 a with
  | true =>
    rw [if_pos (show cw S tx a = 49 from i49.mpr h49), hst, bd_some, if_neg (by decide)]
    unfold fMember
    rw [h49, if_pos rfl]
    have h1 := c_shape hC 1 (by decide) (a + 1) (by omega)
    rw [(c_shapes (tx := tx) (a + 1)).1] at h1
    refine c_sq (R := Rr) (F := fun S2 => ja_X6_takesMembers_b68 rec2 85 (n : Int) S2) h1 (finR false _) (fun _ => ?_)
    rw [c_type hC (a + 1 + 1) (by omega)]
    cases fT tx (a + 1 + 1) with
    | false => exact finR false _
    | true => exact finR true _
  | false =>
    rw [if_neg (fun e => by have := i49.mp e; rw [h49] at this; cases this), fMember_hd h49]
    have hm : ja_X6_takesMembers_b85 rec2 85 (n : Int) (ca S a) = Rr (sq (true, a + 1) fun a => sq (fHd tx 20000 a) (fLines tx 20000)) := by
      unfold ja_X6_takesMembers_b85
      rw [hst, bd_some, if_neg (by decide)]
      show _ = Rr (sq (fHd tx 20000 (a + 1)) (fLines tx 20000))
      refine c_sqx (R := Rr) (F := fun S2 => ja_X6_takesMembers_b111 rec2 85 (n : Int) S2) (c_head hC (a + 1) (by omega)) (fun _ => finR false _) (fun hok => ?_)
      have hle := fHd_ok hok
      have hb : 100000 < nk_big := by obtain ⟨m, hm⟩ := big_ge 100001 (by decide); omega
      have hl : ja_X6_takesLines 85 (ca S (fHd tx 20000 (a + 1)).2) = cR S (fLines tx 20000 (fHd tx 20000 (a + 1)).2) := c_lines hC 20000 nk_big 0 _ (by omega) (by omega) (by omega) (by omega)
      rw [hl]
      obtain ⟨b, y, hby⟩ : ∃ b y, fLines tx 20000 (fHd tx 20000 (a + 1)).2 = (b, y) := ⟨_, _, rfl⟩
      rw [hby]
      cases b with
      | false => exact finR false _
      | true => exact finR true _
    cases h50 : fW tx 50 a with
    | true =>
      rw [if_pos (show cw S tx a = 50 from i50.mpr h50), hm]
      rfl
    | false =>
      rw [if_neg (fun e => by have := i50.mp e; rw [h50] at this; cases this)]
      cases h51 : fW tx 51 a with
      | true =>
        rw [if_pos (show cw S tx a = 51 from i51.mpr h51), hm]
        rfl
      | false =>
        rw [if_neg (fun e => by have := i51.mp e; rw [h51] at this; cases this)]
        exact finR false a
theorem fMember_end {d a : Nat} (h : tx.length ≤ a) : fMember tx d a = (false, a) := by
  obtain ⟨n1, -⟩ := f_none (tx := tx) (a := a) h
  unfold fMember
  rw [n1 49, n1 50, n1 51]
  rfl
theorem fMembers_end {d0 d a : Nat} (h : tx.length ≤ a) : fMembers tx d0 d a = (false, a) := by
  cases d with
  | zero => rfl
  | succ d => rw [fMembers, (f_none (tx := tx) (a := a) h).1 58, fMember_end h]; rfl
theorem c_members (hC : CF S tx c) : ∀ (d m n a : Nat), tx.length < a + d → d < m → n ≤ a → a ≤ 16100 → ja_X6_takesMembers_L2 m 85 (n : Int) (ca S a) = cR S (fMembers tx 20000 d a) := by
  have hT := hC.2.2.2.2.1
  intro d
  induction d with
  | zero =>
    intro m n a h1 h2 h3 h4
    obtain ⟨m, rfl⟩ : ∃ q, m = q + 1 := ⟨m - 1, by omega⟩
    show ja_X6_takesMembers_b2 (ja_X6_takesMembers_L2 m) 85 (n : Int) (ca S a) = _
    by_cases q : (16000 : Int) ≤ (n : Int)
    · unfold ja_X6_takesMembers_b2; rw [if_pos q]; rfl
    · rw [c_member hC a n (by omega) (by omega) ((f_none (tx := tx) (a := a) (by omega)).1 58), fMember_end (by omega)]
      rfl
  | succ d ih =>
    intro m n a h1 h2 h3 h4
    obtain ⟨m, rfl⟩ : ∃ q, m = q + 1 := ⟨m - 1, by omega⟩
    show ja_X6_takesMembers_b2 (ja_X6_takesMembers_L2 m) 85 (n : Int) (ca S a) = _
    by_cases q : (16000 : Int) ≤ (n : Int)
    · unfold ja_X6_takesMembers_b2; rw [if_pos q, fMembers_end (by omega)]; rfl
    · cases h58 : fW tx 58 a with
      | true =>
        have i58 := cw_iff hC (w := 58) (by decide) a
        have hst : ja_X6_step 85 1 (ca S a) = some (1, ca S (a + 1)) := c_step (S := S) (a := a) true (by omega)
        unfold ja_X6_takesMembers_b2
        rw [if_neg q, jc_85_0, ca_at, c_at hC, bd_some, fMembers, if_pos (show cw S tx a = 58 from i58.mpr h58), hst, bd_some, if_pos (Or.inr rfl), h58]
        rfl
      | false =>
        rw [c_member hC a n (by omega) (by omega) h58, fMembers, h58]
        simp only [Bool.false_eq_true, if_false]
        have hok := fMember_ok (tx := tx) (d := 20000) (a := a)
        obtain ⟨b, y, hby⟩ : ∃ b y, fMember tx 20000 a = (b, y) := ⟨_, _, rfl⟩
        rw [hby] at hok ⊢
        cases b with
        | false => rfl
        | true =>
          have g := hok rfl
          simp only at g
          exact ih m (n + 1) y (by omega) (by omega) (by omega) (by omega)
/-- the answer of the form: -1, or the token where it fails -/
def fA (S : nk_S) (r : Bool × Nat) : Option (Int × nk_S) := some (if r.1 = true then -1 else (r.2 : Int), ca S r.2)
theorem c_prog (hC : CF S tx c) : ∀ (d m n a : Nat), tx.length < a + d → d + 1 < m → n ≤ a → a ≤ tx.length → ja_X6_checkForm_L9 m 85 1 (n : Int) (ca S a) = fA S (fProg tx 20000 d a) := by
  have hT := hC.2.2.2.2.1
  have hL := hC.2.2.2.1
  intro d
  induction d with
  | zero => intro m n a h1 h2 h3 h4; omega
  | succ d ih =>
    intro m n a h1 h2 h3 h4
    obtain ⟨m, rfl⟩ : ∃ q, m = q + 1 + 1 := ⟨m - 2, by omega⟩
    show ja_X6_checkForm_b9 (ja_X6_checkForm_L9 (m + 1)) 85 1 (n : Int) (ca S a) = _
    have h0 : ∀ (v : Int) (y : Nat), ja_X6_checkForm_L9 (m + 1) 85 0 v (ca S y) = fA S (false, y) := by
      intro v y
      show ja_X6_checkForm_b9 (ja_X6_checkForm_L9 m) 85 0 v (ca S y) = _
      have e : ja_X6_checkForm_b96 85 0 (ca S y) = fA S (false, y) := by
        unfold ja_X6_checkForm_b96
        rw [if_pos rfl, ca_at]
        rfl
      unfold ja_X6_checkForm_b9
      by_cases q : (16000 : Int) ≤ v
      · rw [if_pos q]; exact e
      · rw [if_neg q, if_pos rfl]; exact e
    unfold ja_X6_checkForm_b9
    rw [fProg, jc_85_0, ca_n S a (by decide), hL, ca_at]
    by_cases q : tx.length ≤ a
    · rw [if_pos q]
      have e : ja_X6_checkForm_b96 85 1 (ca S a) = fA S (true, a) := rfl
      by_cases q2 : (16000 : Int) ≤ (n : Int)
      · rw [if_pos q2]; exact e
      · rw [if_neg q2, if_neg (by decide), if_pos (by omega)]; exact e
    · rw [if_neg q, if_neg (show ¬ (16000 : Int) ≤ (n : Int) by omega), if_neg (by decide), if_neg (show ¬ (tx.length : Int) ≤ (a : Int) by omega)]
      have hs2 : ∀ b, b < 950000 → ja_X6_takesShape 85 2 (ca S b) = cR S (tk (fC tx b) b) := fun b hb => by rw [c_shape hC 2 (by decide) b (by omega), (c_shapes (tx := tx) b).2.1]
      have hF0 : ∀ y, (fun S2 => nk_lt (nk_w ((n : Int) + 1)) fun v => ja_X6_checkForm_L9 (m + 1) 85 0 v S2) (ca S y) = fA S (false, y) := fun y => by
        show nk_lt (nk_w ((n : Int) + 1)) (fun v => ja_X6_checkForm_L9 (m + 1) 85 0 v (ca S y)) = fA S (false, y)
        rw [lt_eq, h0]
      refine c_sq (R := fA S) (F := fun S2 => nk_lt (nk_w ((n : Int) + 1)) fun v => ja_X6_checkForm_L9 (m + 1) 85 0 v S2) (show ja_X6_takesWord 85 47 (ca S a) = _ from c_word hC (w := 47) (by decide) a (by omega)) (hF0 _) (fun _ => ?_)
      refine c_sq (R := fA S) (F := fun S2 => nk_lt (nk_w ((n : Int) + 1)) fun v => ja_X6_checkForm_L9 (m + 1) 85 0 v S2) (hs2 (a + 1) (by omega)) (hF0 _) (fun _ => ?_)
      refine c_sq (R := fA S) (F := fun S2 => nk_lt (nk_w ((n : Int) + 1)) fun v => ja_X6_checkForm_L9 (m + 1) 85 0 v S2) (show ja_X6_takesWord 85 48 (ca S (a + 1 + 1)) = _ from c_word hC (w := 48) (by decide) (a + 1 + 1) (by omega)) (hF0 _) (fun _ => ?_)
      refine c_sq (R := fA S) (F := fun S2 => nk_lt (nk_w ((n : Int) + 1)) fun v => ja_X6_checkForm_L9 (m + 1) 85 0 v S2) (hs2 (a + 1 + 1 + 1) (by omega)) (hF0 _) (fun _ => ?_)
      refine c_sq (R := fA S) (F := fun S2 => nk_lt (nk_w ((n : Int) + 1)) fun v => ja_X6_checkForm_L9 (m + 1) 85 0 v S2) (show ja_X6_takesWord 85 57 (ca S (a + 1 + 1 + 1 + 1)) = _ from c_word hC (w := 57) (by decide) (a + 1 + 1 + 1 + 1) (by omega)) (hF0 _) (fun _ => ?_)
      have hb : 100000 < nk_big := by obtain ⟨m, hm⟩ := big_ge 100001 (by decide); omega
      have hm : ja_X6_takesMembers 85 (ca S (a + 1 + 1 + 1 + 1 + 1)) = cR S (fMembers tx 20000 20000 (a + 1 + 1 + 1 + 1 + 1)) := c_members hC 20000 nk_big 0 _ (by omega) (by omega) (by omega) (by omega)
      refine c_sqx (R := fA S) (F := fun S2 => nk_lt (nk_w ((n : Int) + 1)) fun v => ja_X6_checkForm_L9 (m + 1) 85 0 v S2) hm (fun _ => hF0 _) (fun hok => ?_)
      have g := fMembers_ok hok
      have g2 := ih (m + 1) (n + 1) _ (by omega) (by omega) (by omega) g.2
      rw [lt_eq, w_nat1 (by omega)]
      exact g2
theorem c_checkForm (hC : CF S tx c) : ja_X6_checkForm 85 S = fA S (fProg tx 20000 20000 0) := by
  have hT := hC.2.2.2.2.1
  have hb : 100000 < nk_big := by obtain ⟨m, hm⟩ := big_ge 100001 (by decide); omega
  unfold ja_X6_checkForm
  exact c_prog hC 20000 nk_big 0 0 (by omega) (by omega) (by omega) (by omega)
end CPS
