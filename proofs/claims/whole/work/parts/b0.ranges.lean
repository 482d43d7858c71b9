/-! Ranges: calculations and that they rise with what they are given. -/
abbrev jR : Type := Int × Int
def rle (a c : jR) : Prop := c.1 ≤ a.1 ∧ a.2 ≤ c.2
/-- thresholds: the next one down and up -/
def thG (F : Int → Prop) (dn up : Int → Int) : Prop := (∀ y, F y → -2147483648 ≤ y ∧ y ≤ 2147483647) ∧ F (-2147483648) ∧ F (-1) ∧ F 0 ∧ F 1 ∧ F 2147483647 ∧ (∀ v, -2147483648 ≤ v → F (dn v) ∧ dn v ≤ v ∧ ∀ y, F y → y ≤ v → y ≤ dn v) ∧ ∀ v, v ≤ 2147483647 → F (up v) ∧ v ≤ up v ∧ ∀ y, F y → v ≤ y → up v ≤ y
def rAll : jR := (-2147483648, 2147483647)
/-- the least range around -/
def rAr (dn up : Int → Int) (l h : Int) : jR := if l < -2147483648 ∨ 2147483647 < h then rAll else (dn l, up h)
/-- a range of the right form -/
def rOk (F : Int → Prop) (a : jR) : Prop := F a.1 ∧ F a.2 ∧ a.1 ≤ a.2
section RNG
variable {F : Int → Prop} {dn up : Int → Int}
theorem rle_refl (a : jR) : rle a a := ⟨Int.le_refl _, Int.le_refl _⟩
theorem rle_trans {a c d : jR} (h : rle a c) (k : rle c d) : rle a d := ⟨Int.le_trans k.1 h.1, Int.le_trans h.2 k.2⟩
theorem dn_F (h : thG F dn up) {v : Int} (hv : F v) : dn v = v := by
  obtain ⟨t1, -, -, -, -, -, t7, -⟩ := h
  obtain ⟨q1, q2, q3⟩ := t7 v (t1 v hv).1
  have := q3 v hv (Int.le_refl _)
  omega
theorem up_F (h : thG F dn up) {v : Int} (hv : F v) : up v = v := by
  obtain ⟨t1, -, -, -, -, -, -, t8⟩ := h
  obtain ⟨q1, q2, q3⟩ := t8 v (t1 v hv).2
  have := q3 v hv (Int.le_refl _)
  omega
theorem dn_mono (h : thG F dn up) {v w : Int} (h1 : -2147483648 ≤ v) (h2 : v ≤ w) : dn v ≤ dn w := by
  obtain ⟨-, -, -, -, -, -, t7, -⟩ := h
  obtain ⟨q1, q2, q3⟩ := t7 v h1
  obtain ⟨r1, r2, r3⟩ := t7 w (by omega)
  exact r3 _ q1 (by omega)
theorem up_mono (h : thG F dn up) {v w : Int} (h1 : w ≤ 2147483647) (h2 : v ≤ w) : up v ≤ up w := by
  obtain ⟨-, -, -, -, -, -, -, t8⟩ := h
  obtain ⟨q1, q2, q3⟩ := t8 v (by omega)
  obtain ⟨r1, r2, r3⟩ := t8 w h1
  exact q3 _ r1 (by omega)
theorem rAr_ok (h : thG F dn up) {l r : Int} (hl : l ≤ r) : rOk F (rAr dn up l r) := by
  have h' := h
  obtain ⟨t1, t2, -, -, -, t6, t7, t8⟩ := h
  unfold rAr rOk
  by_cases c : l < -2147483648 ∨ 2147483647 < r
  · rw [if_pos c]; exact ⟨t2, t6, by decide⟩
  · rw [if_neg c]
    obtain ⟨q1, q2, q3⟩ := t7 l (by omega)
    obtain ⟨r1, r2, r3⟩ := t8 r (by omega)
    exact ⟨q1, r1, by dsimp only; omega⟩
theorem rAr_mono (h : thG F dn up) {l r l' r' : Int} (hl : l ≤ r) (h1 : l' ≤ l) (h2 : r ≤ r') : rle (rAr dn up l r) (rAr dn up l' r') := by
  have hk := rAr_ok h hl
  have t1 := h.1
  unfold rAr at hk ⊢
  by_cases c' : l' < -2147483648 ∨ 2147483647 < r'
  · rw [if_pos c']
    exact ⟨(t1 _ hk.1).1, (t1 _ hk.2.1).2⟩
  · rw [if_neg c', if_neg (by omega)]
    exact ⟨dn_mono h (by omega) h1, up_mono h (by omega) h2⟩
theorem rAr_in (h : thG F dn up) {a : jR} (ha : rOk F a) {l r : Int} (h1 : a.1 ≤ l) (h2 : r ≤ a.2) (hl : l ≤ r) : rle (rAr dn up l r) a := by
  have t1 := h.1
  have b1 := t1 _ ha.1
  have b2 := t1 _ ha.2.1
  have := rAr_mono h hl h1 h2
  have e : rAr dn up a.1 a.2 = a := by
    unfold rAr
    rw [if_neg (by omega), dn_F h ha.1, up_F h ha.2.1]
  rw [e] at this
  exact this
theorem rAr_F (h : thG F dn up) {a : jR} (ha : rOk F a) : rAr dn up a.1 a.2 = a := by
  have t1 := h.1
  have b1 := t1 _ ha.1
  have b2 := t1 _ ha.2.1
  unfold rAr
  rw [if_neg (by omega), dn_F h ha.1, up_F h ha.2.1]
theorem rAll_ok (h : thG F dn up) : rOk F rAll := ⟨h.2.1, h.2.2.2.2.2.1, by decide⟩
theorem rAll_le (h : thG F dn up) {a : jR} (ha : rOk F a) : rle a rAll := ⟨(h.1 _ ha.1).1, (h.1 _ ha.2.1).2⟩
/-! products -/
def mn4 (a l h : Int) (c : Int) : Int := min (min (a * l) (a * h)) (min (c * l) (c * h))
def mx4 (a l h : Int) (c : Int) : Int := max (max (a * l) (a * h)) (max (c * l) (c * h))
theorem mul_bt {x l h y : Int} (h1 : l ≤ x) (h2 : x ≤ h) : min (l * y) (h * y) ≤ x * y ∧ x * y ≤ max (l * y) (h * y) := by
  by_cases c : 0 ≤ y
  · have a1 := Int.mul_le_mul_of_nonneg_right h1 c
    have a2 := Int.mul_le_mul_of_nonneg_right h2 c
    omega
  · have a1 := Int.mul_le_mul_of_nonpos_right h1 (show y ≤ 0 by omega)
    have a2 := Int.mul_le_mul_of_nonpos_right h2 (show y ≤ 0 by omega)
    omega
theorem mul_in {a c l h x y : Int} (h1 : a ≤ x) (h2 : x ≤ c) (h3 : l ≤ y) (h4 : y ≤ h) : mn4 a l h c ≤ x * y ∧ x * y ≤ mx4 a l h c := by
  have b1 := mul_bt (y := y) h1 h2
  have b2 := mul_bt (y := a) h3 h4
  have b3 := mul_bt (y := c) h3 h4
  rw [Int.mul_comm l a, Int.mul_comm h a, Int.mul_comm y a] at b2
  rw [Int.mul_comm l c, Int.mul_comm h c, Int.mul_comm y c] at b3
  unfold mn4 mx4
  generalize a * l = p1 at *
  generalize a * h = p2 at *
  generalize c * l = p3 at *
  generalize c * h = p4 at *
  generalize a * y = p5 at *
  generalize c * y = p6 at *
  generalize x * y = p7 at *
  omega
def kMul (dn up : Int → Int) (a : jR) (l h : Int) : jR := rAr dn up (mn4 a.1 l h a.2) (mx4 a.1 l h a.2)
theorem mn_mx (a l h c : Int) : mn4 a l h c ≤ mx4 a l h c := by
  unfold mn4 mx4
  omega
theorem kMul_mono (h : thG F dn up) {a a' : jR} {l r l' r' : Int} (ha : rle a a') (hn : a.1 ≤ a.2) (h1 : l' ≤ l) (h2 : r ≤ r') (h3 : l ≤ r) : rle (kMul dn up a l r) (kMul dn up a' l' r') := by
  unfold rle at ha
  have b1 := mul_in (a := a'.1) (c := a'.2) (l := l') (h := r') (x := a.1) (y := l) (by omega) (by omega) (by omega) (by omega)
  have b2 := mul_in (a := a'.1) (c := a'.2) (l := l') (h := r') (x := a.1) (y := r) (by omega) (by omega) (by omega) (by omega)
  have b3 := mul_in (a := a'.1) (c := a'.2) (l := l') (h := r') (x := a.2) (y := l) (by omega) (by omega) (by omega) (by omega)
  have b4 := mul_in (a := a'.1) (c := a'.2) (l := l') (h := r') (x := a.2) (y := r) (by omega) (by omega) (by omega) (by omega)
  have e1 : mn4 a'.1 l' r' a'.2 ≤ mn4 a.1 l r a.2 := by
    have : mn4 a.1 l r a.2 = min (min (a.1 * l) (a.1 * r)) (min (a.2 * l) (a.2 * r)) := rfl
    omega
  have e2 : mx4 a.1 l r a.2 ≤ mx4 a'.1 l' r' a'.2 := by
    have : mx4 a.1 l r a.2 = max (max (a.1 * l) (a.1 * r)) (max (a.2 * l) (a.2 * r)) := rfl
    omega
  exact rAr_mono h (mn_mx _ _ _ _) e1 e2
theorem kMul_ok (h : thG F dn up) (a : jR) (l r : Int) : rOk F (kMul dn up a l r) := rAr_ok h (mn_mx _ _ _ _)
/-! quotients -/
def kCd (c : jR) (d : Int) : Prop := d ≠ 0 ∧ c.1 ≤ d ∧ d ≤ c.2 ∧ (d = -1 ∨ d = 1 ∨ d = c.1 ∨ d = c.2)
theorem td_pos {x y d : Int} (h : x ≤ y) (hd : 0 < d) : x.tdiv d ≤ y.tdiv d := Int.tdiv_le_tdiv hd h
theorem td_neg {x y d : Int} (h : x ≤ y) (hd : d < 0) : y.tdiv d ≤ x.tdiv d := by
  have := Int.tdiv_le_tdiv (show 0 < -d by omega) h
  rw [Int.tdiv_neg, Int.tdiv_neg] at this
  omega
/-- between the divisors -/
theorem td_nn {n : Nat} {d e : Int} (h0 : 0 < e) (h1 : e ≤ d) : (n : Int).tdiv d ≤ (n : Int).tdiv e := by
  obtain ⟨e', rfl⟩ : ∃ q : Nat, e = (q : Int) := ⟨e.toNat, by omega⟩
  obtain ⟨d', rfl⟩ : ∃ q : Nat, d = (q : Int) := ⟨d.toNat, by omega⟩
  rw [← Int.ofNat_tdiv, ← Int.ofNat_tdiv]
  have := Nat.div_le_div_left (a := n) (show e' ≤ d' by omega) (by omega)
  omega
theorem td_bt {x d e f : Int} (h0 : 0 < e) (h1 : e ≤ d) (h2 : d ≤ f) : (x.tdiv e ≤ x.tdiv d ∨ x.tdiv f ≤ x.tdiv d) ∧ (x.tdiv d ≤ x.tdiv e ∨ x.tdiv d ≤ x.tdiv f) := by
  by_cases c : 0 ≤ x
  · obtain ⟨n, rfl⟩ : ∃ q : Nat, x = (q : Int) := ⟨x.toNat, by omega⟩
    exact ⟨Or.inr (td_nn (by omega) h2), Or.inl (td_nn h0 h1)⟩
  · obtain ⟨n, rfl⟩ : ∃ q : Nat, x = -(q : Int) := ⟨(-x).toNat, by omega⟩
    rw [Int.neg_tdiv, Int.neg_tdiv, Int.neg_tdiv]
    have a1 := td_nn (n := n) (by omega) h2
    have a2 := td_nn (n := n) h0 h1
    exact ⟨Or.inl (by omega), Or.inr (by omega)⟩
/-- every quotient lies between some of the candidates' -/
theorem td_cand {c : jR} {x d : Int} (hd : d ≠ 0) (h1 : c.1 ≤ d) (h2 : d ≤ c.2) : (∃ e, kCd c e ∧ x.tdiv e ≤ x.tdiv d) ∧ ∃ e, kCd c e ∧ x.tdiv d ≤ x.tdiv e := by
  by_cases p : 0 < d
  · have k2 : kCd c c.2 := ⟨by omega, by omega, by omega, by omega⟩
    by_cases q : c.1 ≤ 1
    · have k1 : kCd c 1 := ⟨by omega, by omega, by omega, by omega⟩
      obtain ⟨b1, b2⟩ := td_bt (x := x) (show (0 : Int) < 1 by omega) (show 1 ≤ d by omega) h2
      exact ⟨b1.elim (fun w => ⟨_, k1, w⟩) (fun w => ⟨_, k2, w⟩), b2.elim (fun w => ⟨_, k1, w⟩) (fun w => ⟨_, k2, w⟩)⟩
    · have k1 : kCd c c.1 := ⟨by omega, by omega, by omega, by omega⟩
      obtain ⟨b1, b2⟩ := td_bt (x := x) (show 0 < c.1 by omega) h1 h2
      exact ⟨b1.elim (fun w => ⟨_, k1, w⟩) (fun w => ⟨_, k2, w⟩), b2.elim (fun w => ⟨_, k1, w⟩) (fun w => ⟨_, k2, w⟩)⟩
  · have k1 : kCd c c.1 := ⟨by omega, by omega, by omega, by omega⟩
    by_cases q : -1 ≤ c.2
    · have k2 : kCd c (-1) := ⟨by omega, by omega, by omega, by omega⟩
      obtain ⟨b1, b2⟩ := td_bt (x := x) (show (0 : Int) < 1 by omega) (show 1 ≤ -d by omega) (show -d ≤ -c.1 by omega)
      have e1 : x.tdiv (-d) = -(x.tdiv d) := Int.tdiv_neg ..
      have e2 : x.tdiv (-c.1) = -(x.tdiv c.1) := Int.tdiv_neg ..
      have e3 : x.tdiv (-1) = -(x.tdiv 1) := Int.tdiv_neg ..
      rw [e1, e2] at b1 b2
      refine ⟨?_, ?_⟩
      · rcases b2 with w | w
        · exact ⟨_, k2, by omega⟩
        · exact ⟨_, k1, by omega⟩
      · rcases b1 with w | w
        · exact ⟨_, k2, by omega⟩
        · exact ⟨_, k1, by omega⟩
    · have k2 : kCd c c.2 := ⟨by omega, by omega, by omega, by omega⟩
      obtain ⟨b1, b2⟩ := td_bt (x := x) (show (0 : Int) < -c.2 by omega) (show -c.2 ≤ -d by omega) (show -d ≤ -c.1 by omega)
      have e1 : x.tdiv (-d) = -(x.tdiv d) := Int.tdiv_neg ..
      have e2 : x.tdiv (-c.1) = -(x.tdiv c.1) := Int.tdiv_neg ..
      have e3 : x.tdiv (-c.2) = -(x.tdiv c.2) := Int.tdiv_neg ..
      rw [e1, e2, e3] at b1 b2
      refine ⟨?_, ?_⟩
      · rcases b2 with w | w
        · exact ⟨_, k2, by omega⟩
        · exact ⟨_, k1, by omega⟩
      · rcases b1 with w | w
        · exact ⟨_, k2, by omega⟩
        · exact ⟨_, k1, by omega⟩
/-- one candidate more -/
def kQ (a c : jR) (d : Int) (o : Option jR) : Option jR := if d = 0 ∨ d < c.1 ∨ c.2 < d then o else match o with
  | none => some (min (a.1.tdiv d) (a.2.tdiv d), max (a.1.tdiv d) (a.2.tdiv d))
  | some r => some (min r.1 (min (a.1.tdiv d) (a.2.tdiv d)), max r.2 (max (a.1.tdiv d) (a.2.tdiv d)))
def kQs (a c : jR) : Option jR := kQ a c c.2 (kQ a c c.1 (kQ a c 1 (kQ a c (-1) none)))
/-- what a hull of quotients is -/
def kHl (a : jR) (D : Int → Prop) (o : Option jR) : Prop := (∀ d, D d → ∃ r, o = some r ∧ r.1 ≤ a.1.tdiv d ∧ r.1 ≤ a.2.tdiv d ∧ a.1.tdiv d ≤ r.2 ∧ a.2.tdiv d ≤ r.2) ∧ ∀ r, o = some r → ∃ d e, D d ∧ D e ∧ (r.1 = a.1.tdiv d ∨ r.1 = a.2.tdiv d) ∧ (r.2 = a.1.tdiv e ∨ r.2 = a.2.tdiv e)
theorem kQ_hl {a c : jR} {d : Int} {D : Int → Prop} {o : Option jR} (h : kHl a D o) : kHl a (fun e => D e ∨ (e = d ∧ e ≠ 0 ∧ c.1 ≤ e ∧ e ≤ c.2)) (kQ a c d o) := by
  unfold kQ
  by_cases q : d = 0 ∨ d < c.1 ∨ c.2 < d
  · rw [if_pos q]
    refine ⟨fun e he => ?_, fun r hr => ?_⟩
    · rcases he with he | ⟨e1, e2, e3, e4⟩
      · exact h.1 e he
      · omega
    · obtain ⟨x, y, h1, h2, h3⟩ := h.2 r hr
      exact ⟨x, y, Or.inl h1, Or.inl h2, h3⟩
  · rw [if_neg q]
    have hd : d = d ∧ d ≠ 0 ∧ c.1 ≤ d ∧ d ≤ c.2 := by omega
    cases o with
    | none =>
      refine ⟨fun e he => ?_, fun r hr => ?_⟩
      · rcases he with he | ⟨e1, e2, e3, e4⟩
        · obtain ⟨r, r1, -⟩ := h.1 e he; cases r1
        · subst e1
          refine ⟨_, rfl, ?_, ?_, ?_, ?_⟩ <;> dsimp only <;> omega
      · cases hr
        refine ⟨d, d, Or.inr hd, Or.inr hd, ?_, ?_⟩ <;> dsimp only <;> omega
    | some s =>
      refine ⟨fun e he => ?_, fun r hr => ?_⟩
      · rcases he with he | ⟨e1, e2, e3, e4⟩
        · obtain ⟨r, r1, r2⟩ := h.1 e he
          cases r1
          refine ⟨_, rfl, ?_, ?_, ?_, ?_⟩ <;> dsimp only <;> omega
        · subst e1
          refine ⟨_, rfl, ?_, ?_, ?_, ?_⟩ <;> dsimp only <;> omega
      · cases hr
        obtain ⟨x, y, h1, h2, h3, h4⟩ := h.2 s rfl
        dsimp only
        have p1 : min s.1 (min (a.1.tdiv d) (a.2.tdiv d)) = s.1 ∨ min s.1 (min (a.1.tdiv d) (a.2.tdiv d)) = a.1.tdiv d ∨ min s.1 (min (a.1.tdiv d) (a.2.tdiv d)) = a.2.tdiv d := by omega
        have p2 : max s.2 (max (a.1.tdiv d) (a.2.tdiv d)) = s.2 ∨ max s.2 (max (a.1.tdiv d) (a.2.tdiv d)) = a.1.tdiv d ∨ max s.2 (max (a.1.tdiv d) (a.2.tdiv d)) = a.2.tdiv d := by omega
        have w1 : ∃ x', (D x' ∨ (x' = d ∧ x' ≠ 0 ∧ c.1 ≤ x' ∧ x' ≤ c.2)) ∧ (min s.1 (min (a.1.tdiv d) (a.2.tdiv d)) = a.1.tdiv x' ∨ min s.1 (min (a.1.tdiv d) (a.2.tdiv d)) = a.2.tdiv x') := by
          rcases p1 with p | p | p
          · exact ⟨x, Or.inl h1, by rw [p]; exact h3⟩
          · exact ⟨d, Or.inr hd, Or.inl p⟩
          · exact ⟨d, Or.inr hd, Or.inr p⟩
        have w2 : ∃ y', (D y' ∨ (y' = d ∧ y' ≠ 0 ∧ c.1 ≤ y' ∧ y' ≤ c.2)) ∧ (max s.2 (max (a.1.tdiv d) (a.2.tdiv d)) = a.1.tdiv y' ∨ max s.2 (max (a.1.tdiv d) (a.2.tdiv d)) = a.2.tdiv y') := by
          rcases p2 with p | p | p
          · exact ⟨y, Or.inl h2, by rw [p]; exact h4⟩
          · exact ⟨d, Or.inr hd, Or.inl p⟩
          · exact ⟨d, Or.inr hd, Or.inr p⟩
        obtain ⟨x', q1, q2⟩ := w1
        obtain ⟨y', q3, q4⟩ := w2
        exact ⟨x', y', q1, q3, q2, q4⟩
theorem kQs_hl (a c : jR) : kHl a (kCd c) (kQs a c) := by
  have h0 : kHl a (fun _ => False) none := ⟨fun d hd => hd.elim, fun r hr => by cases hr⟩
  have h4 := kQ_hl (c := c) (d := c.2) (kQ_hl (c := c) (d := c.1) (kQ_hl (c := c) (d := 1) (kQ_hl (c := c) (d := -1) h0)))
  have e : (kCd c) = fun e => (((False ∨ (e = -1 ∧ e ≠ 0 ∧ c.1 ≤ e ∧ e ≤ c.2)) ∨ (e = 1 ∧ e ≠ 0 ∧ c.1 ≤ e ∧ e ≤ c.2)) ∨ (e = c.1 ∧ e ≠ 0 ∧ c.1 ≤ e ∧ e ≤ c.2)) ∨ (e = c.2 ∧ e ≠ 0 ∧ c.1 ≤ e ∧ e ≤ c.2) := by
    funext e
    apply propext
    unfold kCd
    rw [false_or]
    constructor
    · intro w; omega
    · intro w; omega
  rw [e]
  exact h4
theorem kQs_mono {a a' c c' : jR} (ha : rle a a') (hn : a.1 ≤ a.2) (hc : rle c c') {r : jR} (hr : kQs a c = some r) : r.1 ≤ r.2 ∧ ∃ r', kQs a' c' = some r' ∧ rle r r' := by
  obtain ⟨g1, g2⟩ := kQs_hl a c
  obtain ⟨g1', g2'⟩ := kQs_hl a' c'
  unfold rle at ha hc
  obtain ⟨d, e, d1, e1, d2, e2⟩ := g2 r hr
  have inn : ∀ x f, a'.1 ≤ x → x ≤ a'.2 → kCd c f → ∃ r', kQs a' c' = some r' ∧ r'.1 ≤ x.tdiv f ∧ x.tdiv f ≤ r'.2 := by
    intro x f x1 x2 hf
    obtain ⟨⟨f1, k1, k2⟩, ⟨f2, k3, k4⟩⟩ := td_cand (c := c') (x := x) hf.1 (by have := hf.2; omega) (by have := hf.2; omega)
    obtain ⟨r1, s1, s2, s3, s4, s5⟩ := g1' f1 k1
    obtain ⟨r2, t1, t2, t3, t4, t5⟩ := g1' f2 k3
    rw [s1] at t1
    cases t1
    refine ⟨r1, s1, ?_, ?_⟩
    · by_cases p : 0 < f1
      · have := td_pos (d := f1) x1 p; omega
      · have := td_neg (d := f1) x2 (by have := k1.1; omega); omega
    · by_cases p : 0 < f2
      · have := td_pos (d := f2) x2 p; omega
      · have := td_neg (d := f2) x1 (by have := k3.1; omega); omega
  obtain ⟨r0, u1, u2, u3, u4, u5⟩ := g1 d d1
  rw [hr] at u1
  cases u1
  have nn : r.1 ≤ r.2 := by omega
  refine ⟨nn, ?_⟩
  have w1 : ∃ r', kQs a' c' = some r' ∧ r'.1 ≤ r.1 := by
    rcases d2 with w | w
    · obtain ⟨r', v1, v2, -⟩ := inn a.1 d (by omega) (by omega) d1
      exact ⟨r', v1, by omega⟩
    · obtain ⟨r', v1, v2, -⟩ := inn a.2 d (by omega) (by omega) d1
      exact ⟨r', v1, by omega⟩
  have w2 : ∃ r', kQs a' c' = some r' ∧ r.2 ≤ r'.2 := by
    rcases e2 with w | w
    · obtain ⟨r', v1, -, v2⟩ := inn a.1 e (by omega) (by omega) e1
      exact ⟨r', v1, by omega⟩
    · obtain ⟨r', v1, -, v2⟩ := inn a.2 e (by omega) (by omega) e1
      exact ⟨r', v1, by omega⟩
  obtain ⟨r', v1, v2⟩ := w1
  obtain ⟨r'', v3, v4⟩ := w2
  rw [v1] at v3
  cases v3
  exact ⟨r', v1, v2, v4⟩
/-! the other calculations -/
def kAbs (x : Int) : Int := max x (-x)
def kRem (dn up : Int → Int) (a c : jR) : Option jR := if max (kAbs c.1) (kAbs c.2) - 1 < 0 then none else if 0 ≤ a.1 then some (rAr dn up 0 (min a.2 (max (kAbs c.1) (kAbs c.2) - 1))) else some (rAr dn up (max a.1 (-(max (kAbs c.1) (kAbs c.2) - 1))) (if a.2 ≤ 0 then 0 else min a.2 (max (kAbs c.1) (kAbs c.2) - 1)))
def kAnd (dn up : Int → Int) (a c : jR) : jR := if 0 ≤ a.1 then (if 0 ≤ c.1 then rAr dn up 0 (min a.2 c.2) else rAr dn up 0 a.2) else if 0 ≤ c.1 then rAr dn up 0 c.2 else rAll
def kUp (m : Int) : Int := if m ≤ 0 then 0 else ((2 ^ (m.toNat.log2 + 1) : Nat) : Int) - 1
def kOr (dn up : Int → Int) (a c : jR) : jR := if a.1 < 0 ∨ c.1 < 0 then rAll else rAr dn up 0 (kUp (max a.2 c.2))
def kPw (x : Int) : Int := ((2 ^ (x % 32).toNat : Nat) : Int)
def kShl (dn up : Int → Int) (a c : jR) : jR := if c.1 = c.2 then kMul dn up a (kPw c.1) (kPw c.1) else rAll
def kShr (dn up : Int → Int) (a c : jR) : jR := if c.1 = c.2 then rAr dn up (a.1 / kPw c.1) (a.2 / kPw c.1) else rAr dn up (min a.1 0) (max a.2 (-1))
def kCalc (dn up : Int → Int) (op : Nat) (a c : jR) : Option jR := if op = 8 then some (rAr dn up (a.1 + c.1) (a.2 + c.2)) else if op = 9 then some (rAr dn up (a.1 - c.2) (a.2 - c.1)) else if op = 10 then some (kMul dn up a c.1 c.2) else if op = 11 then (match kQs a c with
  | none => none
  | some r => some (rAr dn up r.1 r.2)) else if op = 12 then kRem dn up a c else if op = 13 then some (kAnd dn up a c) else if op = 14 ∨ op = 15 then some (kOr dn up a c) else if op = 16 then some (kShl dn up a c) else some (kShr dn up a c)
def kNeg (dn up : Int → Int) (a : jR) : jR := rAr dn up (-a.2) (-a.1)
def kPlus (dn up : Int → Int) (a : jR) (n : Int) : jR := rAr dn up (a.1 + n) (a.2 + n)
def kCut (dn up : Int → Int) (a : jR) (l h : Int) : Option jR := if min a.2 h < max a.1 l then none else some (rAr dn up (max a.1 l) (min a.2 h))
def kCom (a c : jR) : Option jR := if min a.2 c.2 < max a.1 c.1 then none else some (max a.1 c.1, min a.2 c.2)
def kWo (dn up : Int → Int) (a c : jR) : Option jR := if c.1 = c.2 then (if (if a.2 = c.1 then a.2 - 1 else a.2) < (if a.1 = c.1 then a.1 + 1 else a.1) then none else some (rAr dn up (if a.1 = c.1 then a.1 + 1 else a.1) (if a.2 = c.1 then a.2 - 1 else a.2))) else some a
theorem kUp_0 (m : Int) : 0 ≤ kUp m := by
  unfold kUp
  split
  · exact Int.le_refl _
  · have := Nat.one_le_two_pow (n := m.toNat.log2 + 1)
    omega
theorem kUp_mono {m m' : Int} (h : m ≤ m') : kUp m ≤ kUp m' := by
  by_cases c : m ≤ 0
  · have : kUp m = 0 := by unfold kUp; rw [if_pos c]
    have := kUp_0 m'
    omega
  · unfold kUp
    rw [if_neg c, if_neg (by omega)]
    have h1 : m.toNat.log2 < m'.toNat.log2 + 1 := by
      rw [Nat.log2_lt (by omega)]
      have := Nat.lt_log2_self (n := m'.toNat)
      omega
    have h2 : 2 ^ (m.toNat.log2 + 1) ≤ 2 ^ (m'.toNat.log2 + 1) := Nat.pow_le_pow_right (by decide) (by omega)
    omega
theorem kPw_1 (x : Int) : 1 ≤ kPw x := by
  unfold kPw
  have := Nat.one_le_two_pow (n := (x % 32).toNat)
  omega
theorem kShr_n {a c : jR} (hn : a.1 ≤ a.2) : a.1 / kPw c.1 ≤ a.2 / kPw c.1 := Int.ediv_le_ediv (by have := kPw_1 c.1; omega) hn
theorem ediv_lo {x p : Int} (hp : 1 ≤ p) : min x 0 ≤ x / p := by
  by_cases c : 0 ≤ x
  · have := Int.ediv_nonneg c (show 0 ≤ p by omega)
    omega
  · have h1 : x * p ≤ x * 1 := Int.mul_le_mul_of_nonpos_left (by omega) hp
    have : x ≤ x / p := by
      rw [Int.le_ediv_iff_mul_le (by omega)]
      omega
    omega
theorem ediv_hi {x p : Int} (hp : 1 ≤ p) : x / p ≤ max x (-1) := by
  by_cases c : 0 ≤ x
  · have : x / p ≤ x := Int.ediv_le_self _ c
    omega
  · have : x / p < 0 := Int.ediv_neg_of_neg_of_pos (by omega) (by omega)
    omega
theorem kShr_ok (h : thG F dn up) {a c : jR} (hn : a.1 ≤ a.2) : rOk F (kShr dn up a c) := by
  unfold kShr
  split
  · exact rAr_ok h (kShr_n hn)
  · exact rAr_ok h (by omega)
theorem kCalc_ok (h : thG F dn up) {op : Nat} {a c r : jR} (hn : a.1 ≤ a.2) (hm : c.1 ≤ c.2) (hr : kCalc dn up op a c = some r) : rOk F r := by
  unfold kCalc at hr
  by_cases c1 : op = 8
  · rw [if_pos c1] at hr; cases hr; exact rAr_ok h (by omega)
  rw [if_neg c1] at hr
  by_cases c2 : op = 9
  · rw [if_pos c2] at hr; cases hr; exact rAr_ok h (by omega)
  rw [if_neg c2] at hr
  by_cases c3 : op = 10
  · rw [if_pos c3] at hr; cases hr; exact kMul_ok h _ _ _
  rw [if_neg c3] at hr
  by_cases c4 : op = 11
  · rw [if_pos c4] at hr
    cases hq : kQs a c with
    | none => rw [hq] at hr; cases hr
    | some s =>
      rw [hq] at hr
      cases hr
      exact rAr_ok h (kQs_mono (rle_refl a) hn (rle_refl c) hq).1
  rw [if_neg c4] at hr
  by_cases c5 : op = 12
  · rw [if_pos c5] at hr
    unfold kRem at hr
    split at hr
    · cases hr
    · rename_i hc
      split at hr
      · cases hr; exact rAr_ok h (by omega)
      · cases hr
        refine rAr_ok h ?_
        split <;> omega
  rw [if_neg c5] at hr
  by_cases c6 : op = 13
  · rw [if_pos c6] at hr
    cases hr
    unfold kAnd
    split
    · split
      · exact rAr_ok h (by omega)
      · exact rAr_ok h (by omega)
    · split
      · exact rAr_ok h (by omega)
      · exact rAll_ok h
  rw [if_neg c6] at hr
  by_cases c7 : op = 14 ∨ op = 15
  · rw [if_pos c7] at hr
    cases hr
    unfold kOr
    split
    · exact rAll_ok h
    · exact rAr_ok h (kUp_0 _)
  rw [if_neg c7] at hr
  by_cases c8 : op = 16
  · rw [if_pos c8] at hr
    cases hr
    unfold kShl
    split
    · exact kMul_ok h _ _ _
    · exact rAll_ok h
  rw [if_neg c8] at hr
  cases hr
  exact kShr_ok h hn
theorem kCalc_mono (h : thG F dn up) {op : Nat} {a c a' c' r : jR} (ha : rle a a') (hc : rle c c') (hn : a.1 ≤ a.2) (hm : c.1 ≤ c.2) (hr : kCalc dn up op a c = some r) : ∃ r', kCalc dn up op a' c' = some r' ∧ rle r r' := by
  have hro := kCalc_ok h hn hm hr
  have ha' := ha
  have hc' := hc
  unfold rle at ha hc
  unfold kCalc at hr ⊢
  by_cases c1 : op = 8
  · rw [if_pos c1] at hr ⊢; cases hr; exact ⟨_, rfl, rAr_mono h (by omega) (by omega) (by omega)⟩
  rw [if_neg c1] at hr ⊢
  by_cases c2 : op = 9
  · rw [if_pos c2] at hr ⊢; cases hr; exact ⟨_, rfl, rAr_mono h (by omega) (by omega) (by omega)⟩
  rw [if_neg c2] at hr ⊢
  by_cases c3 : op = 10
  · rw [if_pos c3] at hr ⊢; cases hr; exact ⟨_, rfl, kMul_mono h ha' hn hc.1 hc.2 hm⟩
  rw [if_neg c3] at hr ⊢
  by_cases c4 : op = 11
  · rw [if_pos c4] at hr ⊢
    cases hq : kQs a c with
    | none => rw [hq] at hr; cases hr
    | some s =>
      rw [hq] at hr
      cases hr
      obtain ⟨n1, r', q1, q2⟩ := kQs_mono ha' hn hc' hq
      rw [q1]
      exact ⟨_, rfl, rAr_mono h n1 q2.1 q2.2⟩
  rw [if_neg c4] at hr ⊢
  by_cases c5 : op = 12
  · rw [if_pos c5] at hr ⊢
    unfold kRem at hr ⊢
    have hm' : max (kAbs c.1) (kAbs c.2) ≤ max (kAbs c'.1) (kAbs c'.2) := by unfold kAbs; omega
    generalize max (kAbs c.1) (kAbs c.2) = m at *
    generalize max (kAbs c'.1) (kAbs c'.2) = m' at *
    by_cases d1 : m - 1 < 0
    · rw [if_pos d1] at hr; cases hr
    rw [if_neg d1] at hr
    rw [if_neg (by omega)]
    by_cases d2 : 0 ≤ a.1
    · rw [if_pos d2] at hr
      cases hr
      by_cases d3 : 0 ≤ a'.1
      · rw [if_pos d3]; exact ⟨_, rfl, rAr_mono h (by omega) (by omega) (by omega)⟩
      · rw [if_neg d3]
        refine ⟨_, rfl, rAr_mono h (by omega) (by omega) ?_⟩
        split <;> omega
    · rw [if_neg d2] at hr
      rw [if_neg (show ¬ 0 ≤ a'.1 by omega)]
      cases hr
      refine ⟨_, rfl, rAr_mono h ?_ (by omega) ?_⟩
      · split <;> omega
      · split <;> split <;> omega
  rw [if_neg c5] at hr ⊢
  by_cases c6 : op = 13
  · rw [if_pos c6] at hr ⊢
    refine ⟨_, rfl, ?_⟩
    cases hr
    unfold kAnd at hro ⊢
    by_cases d1 : 0 ≤ a.1
    · rw [if_pos d1] at hro ⊢
      by_cases d2 : 0 ≤ c.1
      · rw [if_pos d2] at hro ⊢
        by_cases d3 : 0 ≤ a'.1
        · rw [if_pos d3]
          split
          · exact rAr_mono h (by omega) (by omega) (by omega)
          · exact rAr_mono h (by omega) (by omega) (by omega)
        · rw [if_neg d3]
          split
          · exact rAr_mono h (by omega) (by omega) (by omega)
          · exact rAll_le h hro
      · rw [if_neg d2] at hro ⊢
        by_cases d3 : 0 ≤ a'.1
        · rw [if_pos d3, if_neg (by omega)]
          exact rAr_mono h (by omega) (by omega) (by omega)
        · rw [if_neg d3, if_neg (by omega)]
          exact rAll_le h hro
    · rw [if_neg d1] at hro ⊢
      rw [if_neg (show ¬ 0 ≤ a'.1 by omega)]
      by_cases d2 : 0 ≤ c.1
      · rw [if_pos d2] at hro ⊢
        split
        · exact rAr_mono h (by omega) (by omega) (by omega)
        · exact rAll_le h hro
      · rw [if_neg d2] at hro ⊢
        rw [if_neg (by omega)]
        exact rle_refl _
  rw [if_neg c6] at hr ⊢
  by_cases c7 : op = 14 ∨ op = 15
  · rw [if_pos c7] at hr ⊢
    refine ⟨_, rfl, ?_⟩
    cases hr
    unfold kOr at hro ⊢
    by_cases d1 : a'.1 < 0 ∨ c'.1 < 0
    · rw [if_pos d1]; exact rAll_le h hro
    · rw [if_neg d1, if_neg (by omega)]
      exact rAr_mono h (kUp_0 _) (by omega) (kUp_mono (by omega))
  rw [if_neg c7] at hr ⊢
  by_cases c8 : op = 16
  · rw [if_pos c8] at hr ⊢
    refine ⟨_, rfl, ?_⟩
    cases hr
    unfold kShl at hro ⊢
    by_cases d1 : c'.1 = c'.2
    · have e1 : c.1 = c'.1 := by omega
      rw [if_pos d1, if_pos (by omega), e1]
      exact kMul_mono h ha' hn (by omega) (by omega) (by omega)
    · rw [if_neg d1]; exact rAll_le h hro
  rw [if_neg c8] at hr ⊢
  refine ⟨_, rfl, ?_⟩
  cases hr
  unfold kShr at hro ⊢
  by_cases d1 : c'.1 = c'.2
  · have e1 : c.1 = c'.1 := by omega
    rw [if_pos d1, if_pos (by omega), e1]
    have p := kPw_1 c'.1
    exact rAr_mono h (Int.ediv_le_ediv (by omega) hn) (Int.ediv_le_ediv (by omega) ha.1) (Int.ediv_le_ediv (by omega) ha.2)
  · rw [if_neg d1]
    by_cases d2 : c.1 = c.2
    · rw [if_pos d2]
      have p := kPw_1 c.1
      have q1 := ediv_lo (x := a.1) p
      have q2 := ediv_hi (x := a.2) p
      exact rAr_mono h (kShr_n hn) (by omega) (by omega)
    · rw [if_neg d2]
      exact rAr_mono h (by omega) (by omega) (by omega)
theorem kNeg_mono (h : thG F dn up) {a a' : jR} (ha : rle a a') (hn : a.1 ≤ a.2) : rle (kNeg dn up a) (kNeg dn up a') := by
  unfold rle at ha
  exact rAr_mono h (by omega) (by omega) (by omega)
theorem kPlus_mono (h : thG F dn up) {a a' : jR} (ha : rle a a') (hn : a.1 ≤ a.2) (n : Int) : rle (kPlus dn up a n) (kPlus dn up a' n) := by
  unfold rle at ha
  exact rAr_mono h (by omega) (by omega) (by omega)
theorem kCut_mono (h : thG F dn up) {a a' r : jR} {l l' g g' : Int} (ha : rle a a') (h1 : l' ≤ l) (h2 : g ≤ g') (hr : kCut dn up a l g = some r) : rOk F r ∧ ∃ r', kCut dn up a' l' g' = some r' ∧ rle r r' := by
  unfold rle at ha
  unfold kCut at hr ⊢
  by_cases c : min a.2 g < max a.1 l
  · rw [if_pos c] at hr; cases hr
  · rw [if_neg c] at hr
    cases hr
    rw [if_neg (by omega)]
    exact ⟨rAr_ok h (by omega), _, rfl, rAr_mono h (by omega) (by omega) (by omega)⟩
theorem mm_F {x y : Int} (hx : F x) (hy : F y) : F (max x y) ∧ F (min x y) := by
  by_cases c : x ≤ y
  · rw [Int.max_eq_right c, Int.min_eq_left c]; exact ⟨hy, hx⟩
  · rw [Int.max_eq_left (by omega), Int.min_eq_right (by omega)]; exact ⟨hx, hy⟩
theorem kCom_mono {a a' c c' r : jR} (ha : rle a a') (hc : rle c c') (hr : kCom a c = some r) : ∃ r', kCom a' c' = some r' ∧ rle r r' := by
  unfold rle at ha hc
  unfold kCom at hr ⊢
  by_cases q : min a.2 c.2 < max a.1 c.1
  · rw [if_pos q] at hr; cases hr
  · rw [if_neg q] at hr
    cases hr
    rw [if_neg (by omega)]
    exact ⟨_, rfl, by dsimp only; omega, by dsimp only; omega⟩
theorem kCom_ok {a c r : jR} (ha : rOk F a) (hc : rOk F c) (hr : kCom a c = some r) : rOk F r ∧ rle r a ∧ rle r c := by
  unfold kCom at hr
  by_cases q : min a.2 c.2 < max a.1 c.1
  · rw [if_pos q] at hr; cases hr
  · rw [if_neg q] at hr
    cases hr
    exact ⟨⟨(mm_F ha.1 hc.1).1, (mm_F ha.2.1 hc.2.1).2, by dsimp only; omega⟩, ⟨by dsimp only; omega, by dsimp only; omega⟩, ⟨by dsimp only; omega, by dsimp only; omega⟩⟩
theorem kWo_ok (h : thG F dn up) {a c r : jR} (ha : rOk F a) (hr : kWo dn up a c = some r) : rOk F r ∧ rle r a := by
  unfold kWo at hr
  by_cases c1 : c.1 = c.2
  · rw [if_pos c1] at hr
    by_cases q : (if a.2 = c.1 then a.2 - 1 else a.2) < (if a.1 = c.1 then a.1 + 1 else a.1)
    · rw [if_pos q] at hr; cases hr
    · rw [if_neg q] at hr
      cases hr
      refine ⟨rAr_ok h (by omega), rAr_in h ha ?_ ?_ (by omega)⟩
      · split <;> omega
      · split <;> omega
  · rw [if_neg c1] at hr; cases hr; exact ⟨ha, rle_refl _⟩
theorem kWo_mono (h : thG F dn up) {a a' c c' r : jR} (ha : rOk F a) (hm : c.1 ≤ c.2) (hl : rle a a') (hc : rle c c') (hr : kWo dn up a c = some r) : ∃ r', kWo dn up a' c' = some r' ∧ rle r r' := by
  have hw := kWo_ok h ha hr
  have hl' := hl
  unfold rle at hl hc
  unfold kWo at hr ⊢
  by_cases c1 : c'.1 = c'.2
  · have e1 : c.1 = c'.1 := by omega
    rw [if_pos c1]
    rw [if_pos (by omega), e1] at hr
    by_cases q : (if a.2 = c'.1 then a.2 - 1 else a.2) < (if a.1 = c'.1 then a.1 + 1 else a.1)
    · rw [if_pos q] at hr; cases hr
    · rw [if_neg q] at hr
      cases hr
      have n1 : (if a'.1 = c'.1 then a'.1 + 1 else a'.1) ≤ (if a.1 = c'.1 then a.1 + 1 else a.1) := by
        split <;> split <;> omega
      have n2 : (if a.2 = c'.1 then a.2 - 1 else a.2) ≤ (if a'.2 = c'.1 then a'.2 - 1 else a'.2) := by
        split <;> split <;> omega
      rw [if_neg (by omega)]
      exact ⟨_, rfl, rAr_mono h (by omega) n1 n2⟩
  · rw [if_neg c1]
    exact ⟨_, rfl, rle_trans hw.2 hl'⟩
end RNG
