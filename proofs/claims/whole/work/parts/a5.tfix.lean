/-! Types: the least solution. -/
/-- what is known of a body whose types are looked at -/
def tCx (ns : List (List Int)) (us : List Int) (fl : List (List Int × Nat × Int)) (bl : List jB) (z : jL) (b : Nat) (xb : jB) (e : Nat × Nat × Nat × Nat) (M : Nat → Nat) : Prop := wB ns us fl bl z b xb e ∧ hGood bl z b e M ∧ hBd bl z b e ∧ uOk us ∧ us.length = ns.length ∧ 8 ≤ ns.length ∧ ns.length ≤ 32 ∧ (∀ y ∈ fl, tOk ns y.2.2) ∧ (∀ x ∈ bl, (∀ t ∈ x.ps, tOk ns t) ∧ (x.rs = -1 ∨ tOk ns x.rs)) ∧ (xb.ps.length : Int) ≤ xb.lc ∧ xb.lc ≤ 12 ∧ bl[b]? = some xb ∧ fl.length ≤ 48 ∧ bl.length ≤ 48 ∧ z.1.length ≤ 1024 ∧ z.2.1.length ≤ 48 ∧ z.2.2.1.length ≤ 64
def tArr (us : List Int) (X : jX) (j : Nat) (w : Nat → Int) : jX := fun i => if i = j then some (match X j with
  | none => w
  | some u => fun k => tJn us (u k) (w k)) else X i
def exB (f : Nat → Bool) : Nat → Bool
  | 0 => false
  | n + 1 => exB f n || f n
def tNw (us : List Int) (X : jX) (j : Nat) (w : Nat → Int) : Bool := match X j with
  | none => true
  | some u => exB (fun k => decide (tJn us (u k) (w k) ≠ u k)) 20
def sm (f : Nat → Nat) : Nat → Nat
  | 0 => 0
  | n + 1 => sm f n + f n
def tMi : Option (Nat → Int) → Nat
  | none => 4001
  | some u => sm (fun k => rk (u k)) 20
def tMs (X : jX) : Nat := sm (fun i => tMi (X i)) 1024
theorem exB_iff {f : Nat → Bool} : ∀ n, exB f n = true ↔ ∃ k, k < n ∧ f k = true := by
  intro n
  induction n with
  | zero => exact ⟨fun h => (by cases h), fun ⟨k, h, _⟩ => by omega⟩
  | succ n ih =>
    rw [exB, Bool.or_eq_true, ih]
    constructor
    · rintro (⟨k, h1, h2⟩ | h)
      · exact ⟨k, by omega, h2⟩
      · exact ⟨n, by omega, h⟩
    · rintro ⟨k, h1, h2⟩
      by_cases c : k = n
      · right; rw [← c]; exact h2
      · left; exact ⟨k, by omega, h2⟩
theorem sm_le {f g : Nat → Nat} (h : ∀ k, f k ≤ g k) : ∀ n, sm f n ≤ sm g n := by
  intro n
  induction n with
  | zero => exact Nat.le_refl _
  | succ n ih => rw [sm, sm]; have := h n; omega
theorem sm_lt {f g : Nat → Nat} (h : ∀ k, f k ≤ g k) {k : Nat} (hk : f k < g k) : ∀ n, k < n → sm f n < sm g n := by
  intro n
  induction n with
  | zero => intro h; omega
  | succ n ih =>
    intro hn
    rw [sm, sm]
    by_cases c : k = n
    · have := sm_le h n
      rw [← c] at this ⊢
      omega
    · have := ih (by omega)
      have := h n
      omega
theorem sm_c {c : Nat} : ∀ n, sm (fun _ => c) n = n * c := by
  intro n
  induction n with
  | zero => rw [sm, Nat.zero_mul]
  | succ n ih => rw [sm, ih, Nat.succ_mul]
section TFX
variable {ns : List (List Int)} {us : List Int} {fl : List (List Int × Nat × Int)} {bl : List jB} {z : jL} {b : Nat} {xb : jB} {e : Nat × Nat × Nat × Nat} {M : Nat → Nat}
theorem fK_ty : fK 30 = 5 ∧ fK 31 = 6 ∧ fK 37 = 7 ∧ fK 38 = 7 := by decide +kernel
/-- what instructions leave that don't look at the types -/
theorem tLf_c (h : tCx ns us fl bl z b xb e M) {i : Nat} {x : jC} (h1 : e.1 ≤ i) (h2 : i < e.2.1) (hx : z.1[i]? = some x) (hc : x.1 = 30 ∨ x.1 = 31 ∨ x.1 = 35 ∨ x.1 = 37 ∨ x.1 = 39 ∨ x.1 = 40) (a : Nat → Int) (l : Nat) : (tLf fl bl z.2.1 x a l = -1 ∧ lvX bl x = 0) ∨ (tV us (tLf fl bl z.2.1 x a l) ∧ (tLf fl bl z.2.1 x a l = 1 ∨ 3 ≤ tLf fl bl z.2.1 x a l)) := by
  obtain ⟨w, g, hb, hu, hl, h8, h32, tf, tb, -⟩ := h
  obtain ⟨hbo, hcw⟩ := w.2.2.2.1 i x h1 h2 hx
  obtain ⟨f30, f31, f37, f38⟩ := fK_ty
  unfold tLf
  rw [if_neg (by omega), if_neg (by omega)]
  by_cases d1 : x.1 = 30 ∨ x.1 = 31
  · rw [if_pos d1]
    obtain ⟨k, t, k1, k2, k3⟩ := hcw.2.2.2.2.2.2.2.1 d1
    rw [k1, Int.toNat_natCast, List.getD_eq_getElem?_getD, k2, Option.getD_some]
    right
    unfold sTy at k3
    rcases d1 with d | d
    · rw [if_pos d] at k3
      obtain ⟨c, e1, e2⟩ := hcw.2.2.2.1 (by rw [d]; exact f30)
      have : t = 4 + 2 * x.2.1 := by simpa using k3
      unfold tV
      omega
    · rw [if_neg (by omega), if_pos d] at k3
      have : t = if x.2.1 = 1 then 3 else x.2.1 + 1 := by simpa using k3
      rcases (hcw.2.2.2.2.1 (Or.inl (by rw [d]; exact f31))).2 (by rw [d]; exact f31) with q | ⟨c, q1, q2⟩
      · rw [if_pos q] at this; unfold tV; omega
      · rw [if_neg (by omega)] at this; unfold tV; omega
  rw [if_neg d1, if_neg (by omega)]
  by_cases d2 : x.1 = 35
  · rw [if_pos d2]
    obtain ⟨f, c, q1, q2, q3, q4, y, q5, q6⟩ := hcw.2.2.2.2.2.1 (Or.inl d2)
    rw [q1, Int.toNat_natCast, q5]
    exact Or.inr (tOk_V (tf y (List.mem_of_getElem? q5)) hl)
  rw [if_neg d2]
  by_cases d3 : x.1 = 37
  · rw [if_pos d3]
    exact Or.inr (tOk_V (hcw.2.2.2.2.1 (Or.inr (by rw [d3]; exact f37))).1 hl)
  rw [if_neg d3, if_pos (by omega)]
  obtain ⟨f, c, y, q1, q2, q3, -⟩ := hcw.2.2.2.2.2.2.1 (by omega)
  rw [q1, Int.toNat_natCast, q2]
  rcases (tb y (List.mem_of_getElem? q2)).2 with r | r
  · left
    refine ⟨r, ?_⟩
    unfold lvX
    rw [if_pos (by omega), q1, Int.toNat_natCast, q2]
    dsimp only
    rw [if_pos r]
  · exact Or.inr (tOk_V r hl)
theorem tLf_v (h : tCx ns us fl bl z b xb e M) {i : Nat} {x : jC} (h1 : e.1 ≤ i) (h2 : i < e.2.1) (hx : z.1[i]? = some x) {u : Nat → Int} (hu : ∀ k, tV us (u k)) {l : Nat} (hn : tLf fl bl z.2.1 x u l ≠ -3) (hv : lvX bl x ≠ 0) : tV us (tLf fl bl z.2.1 x u l) := by
  by_cases c : x.1 = 30 ∨ x.1 = 31 ∨ x.1 = 35 ∨ x.1 = 37 ∨ x.1 = 39 ∨ x.1 = 40
  · rcases tLf_c h h1 h2 hx c u l with q | q
    · exact absurd q.2 hv
    · exact q.1
  · have h8 := h.2.2.2.2.2.1
    have hl := h.2.2.2.2.1
    unfold tLf at hn ⊢
    by_cases d1 : x.1 = 1
    · rw [if_pos d1]; unfold tV; omega
    rw [if_neg d1] at hn ⊢
    by_cases d2 : x.1 = 2
    · rw [if_pos d2]; exact hu _
    rw [if_neg d2, if_neg (by omega)] at hn ⊢
    by_cases d3 : x.1 = 33
    · rw [if_pos d3] at hn ⊢
      have n2 : u l ≠ 2 := fun e => hn (by rw [if_pos e])
      rw [if_neg n2]
      by_cases d4 : tAr (u l) = true
      · rw [if_pos d4]
        have hul := hu l
        unfold tAr at d4
        unfold tEl
        unfold tV at hul ⊢
        by_cases d5 : u l = 3
        · rw [if_pos d5]; omega
        · rw [if_neg d5]
          have : 4 < u l := by
            simp [d5] at d4
            exact d4.1
          omega
      · rw [if_neg d4]; unfold tV; omega
    rw [if_neg d3, if_neg (by omega), if_neg (by omega), if_neg (by omega)]
    unfold tV; omega
theorem tPf_v (h : tCx ns us fl bl z b xb e M) {i : Nat} {x : jC} (h1 : e.1 ≤ i) (h2 : i < e.2.1) (hx : z.1[i]? = some x) {u v : Nat → Int} (hu : ∀ k, tV us (u k)) {g : Nat} (hp : tPf fl bl z.2.1 x g u = some v) : ∀ k, tV us (v k) := by
  have up : ∀ (a : Nat → Int) (k : Nat) (t : Int), (∀ k, tV us (a k)) → tV us t → ∀ k', tV us (tUp a k t k') := by
    intro a k t ha ht k'
    unfold tUp
    split
    · exact ht
    · exact ha k'
  unfold tPf at hp
  by_cases c1 : x.1 = 3
  · rw [if_pos c1] at hp; cases hp; exact up _ _ _ hu (hu _)
  rw [if_neg c1] at hp
  by_cases c2 : x.1 = 5
  · rw [if_pos c2] at hp; cases hp; exact up _ _ _ hu (hu _)
  rw [if_neg c2] at hp
  by_cases c3 : x.1 = 7
  · rw [if_pos c3] at hp; cases hp; exact up _ _ _ (up _ _ _ hu (hu _)) (hu _)
  rw [if_neg c3] at hp
  by_cases c4 : lvX bl x = 0
  · rw [if_pos c4] at hp; cases hp; exact hu
  rw [if_neg c4] at hp
  by_cases c5 : tLf fl bl z.2.1 x u (12 + g - tkX bl x) = -3
  · rw [if_pos c5] at hp; cases hp
  rw [if_neg c5] at hp
  cases hp
  exact up _ _ _ hu (tLf_v h h1 h2 hx hu c5 c4)
theorem rst_row {lc g : Nat} {v : Nat → Int} (h1 : 1 ≤ us.length) (hv : ∀ k, tV us (v k)) : tRow us lc g (rst lc g v) := by
  intro k
  unfold rst
  by_cases c : rel lc g k
  · rw [if_pos c]; exact ⟨hv k, fun h => absurd c h⟩
  · rw [if_neg c]; exact ⟨by unfold tV; omega, fun _ => rfl⟩
/-- where an arrow leads, and what it bears -/
theorem tEd_row (h : tCx ns us fl bl z b xb e M) {i : Nat} {x : jC} (h1 : e.1 ≤ i) (h2 : i < e.2.1) (hx : z.1[i]? = some x) (h0 : M i ≠ 0) {u w : Nat → Int} (hu : ∀ k, tV us (u k)) {j : Nat} (hE : tEd fl bl z b xb.lc.toNat M i x u j w) : e.1 ≤ j ∧ j < e.2.1 ∧ M j ≠ 0 ∧ tRow us xb.lc.toNat (hgt (M j)) w := by
  have h' := h
  obtain ⟨w1, g, hb, huO, hl, h8, h32, tf, tb, -⟩ := h
  obtain ⟨g1, g2, g3⟩ := g
  obtain ⟨k1, k2, k3, k4, k5, k6⟩ := g3 i x h1 h2 hx h0
  obtain ⟨hbo, hcw⟩ := w1.2.2.2.1 i x h1 h2 hx
  rcases hE with ⟨v, v1, v2, v3⟩ | ⟨k, y, y1, y2, y3, y4, y5, y6⟩
  · have hv := tPf_v h' h1 h2 hx hu v1
    rw [v2]
    rcases v3 with ⟨f1, f2⟩ | ⟨f1, f2, f3⟩
    · have := hb.2.2 i x h1 h2 hx f1
      rw [f2]
      exact ⟨by omega, this, (k4 f1).1, rst_row (by omega) hv⟩
    · obtain ⟨t, t1, t2, t3⟩ := hcw.2.1 ((fK4 x.1 hcw.1).mpr ⟨f1, f2⟩)
      have k5' := (k5 ⟨f1, f2⟩).1
      rw [f3]
      rw [t1, Int.toNat_natCast] at k5' ⊢
      exact ⟨t2, t3, k5', rst_row (by omega) hv⟩
  · have hr := w1.2.2.2.2.2.2.2 k y y1 y2
    rw [y6, y5]
    refine ⟨hr.2.2.2.2.1, hr.2.2.2.2.2.1, (k6 k y y1 y2 y3 y4).1, rst_row (by omega) (fun k' => ?_)⟩
    unfold tUp
    split
    · have := hr.2.2.2.2.2.2.1
      unfold tV; omega
    · exact hu k'
theorem tEd_mono (h : tCx ns us fl bl z b xb e M) {i : Nat} {x : jC} (h1 : e.1 ≤ i) (h2 : i < e.2.1) (hx : z.1[i]? = some x) {u t w : Nat → Int} (ht : ∀ k, tV us (t k)) (hle : vle us u t) {j : Nat} (hE : tEd fl bl z b xb.lc.toNat M i x u j w) : ∃ w', tEd fl bl z b xb.lc.toNat M i x t j w' ∧ vle us w w' := by
  rcases hE with ⟨v, v1, v2, v3⟩ | ⟨k, y, y1, y2, y3, y4, y5, y6⟩
  · obtain ⟨v', q1, q2⟩ := tPf_mono hle (fun k => (ht k).1) (fun hc a l => by
      rcases tLf_c h h1 h2 hx hc a l with q | q
      · rw [q.1]; decide
      · have := q.1.1; omega) v1
    exact ⟨_, Or.inl ⟨v', q1, rfl, v3⟩, by rw [v2]; exact vle_rst q2⟩
  · exact ⟨_, Or.inr ⟨k, y, y1, y2, y3, y4, y5, rfl⟩, by rw [y6]; exact vle_rst (vle_up hle (tLe_refl _))⟩
/-- below every solution -/
def tB1 (us : List Int) (fl : List (List Int × Nat × Int)) (bl : List jB) (z : jL) (b : Nat) (xb : jB) (M : Nat → Nat) (e : Nat × Nat × Nat × Nat) (i : Nat) (u : Nat → Int) : Prop := ∀ Y, tSol us fl bl z b xb M e Y → ∃ t, Y i = some t ∧ vle us u t
def tInv (us : List Int) (fl : List (List Int × Nat × Int)) (bl : List jB) (z : jL) (b : Nat) (xb : jB) (M : Nat → Nat) (e : Nat × Nat × Nat × Nat) (X : jX) : Prop := tOK us xb.lc.toNat M e X ∧ (∃ u, X e.1 = some u ∧ vle us (tIn xb) u) ∧ ∀ i u, X i = some u → tB1 us fl bl z b xb M e i u
theorem tArr_at {X : jX} {j : Nat} {w : Nat → Int} : tArr us X j w j = some (match X j with
  | none => w
  | some u => fun k => tJn us (u k) (w k)) := by unfold tArr; rw [if_pos rfl]
theorem tArr_ne {X : jX} {j i : Nat} {w : Nat → Int} (h : i ≠ j) : tArr us X j w i = X i := by unfold tArr; rw [if_neg h]
theorem tRow_jn (hu : uOk us) (h32 : us.length ≤ 32) (h1 : 1 ≤ us.length) {lc g : Nat} {u w : Nat → Int} (ru : tRow us lc g u) (rw' : tRow us lc g w) : tRow us lc g (fun k => tJn us (u k) (w k)) := by
  intro k
  refine ⟨tJn_v hu h32 h1 (ru k).1 (rw' k).1, fun h => ?_⟩
  dsimp only
  rw [(ru k).2 h, (rw' k).2 h]
  rfl
theorem vle_trans (hu : uOk us) (h32 : us.length ≤ 32) {a c d : Nat → Int} (ha : ∀ k, tV us (a k)) (hd : ∀ k, tV us (d k)) (h1 : vle us a c) (h2 : vle us c d) : vle us a d := fun k => tLe_trans hu h32 (ha k) (hd k) (h1 k) (h2 k)
/-- one arrow more -/
theorem tArr_inv (h : tCx ns us fl bl z b xb e M) {X : jX} (hX : tInv us fl bl z b xb M e X) {i : Nat} {x : jC} (h1 : e.1 ≤ i) (h2 : i < e.2.1) (hx : z.1[i]? = some x) (h0 : M i ≠ 0) {u w : Nat → Int} (hu : ∀ k, tV us (u k)) (hB : tB1 us fl bl z b xb M e i u) {j : Nat} (hE : tEd fl bl z b xb.lc.toNat M i x u j w) : tInv us fl bl z b xb M e (tArr us X j w) ∧ tBe us X (tArr us X j w) ∧ ∃ t, tArr us X j w j = some t ∧ vle us w t := by
  obtain ⟨r1, r2, r3, r4⟩ := tEd_row h h1 h2 hx h0 hu hE
  have h' := h
  obtain ⟨w1, g, hb, huO, hl, h8, h32, -⟩ := h
  have h32' : us.length ≤ 32 := by omega
  obtain ⟨x1, ⟨u0, x2, x3⟩, x4⟩ := hX
  have hbe : tBe us X (tArr us X j w) := by
    intro i' u' hu'
    by_cases c : i' = j
    · subst c
      rw [tArr_at, hu']
      exact ⟨_, rfl, fun k => (tJn_ub huO h32' ((x1 i' u' hu').2.2.2 k).1 (r4 k).1).1⟩
    · rw [tArr_ne c]; exact ⟨u', hu', vle_refl _⟩
  have hok : tOK us xb.lc.toNat M e (tArr us X j w) := by
    intro i' u' hu'
    by_cases c : i' = j
    · subst c
      refine ⟨r1, r2, r3, ?_⟩
      rw [tArr_at] at hu'
      cases hq : X i' with
      | none => rw [hq] at hu'; cases hu'; exact r4
      | some q => rw [hq] at hu'; cases hu'; exact tRow_jn huO h32' (by omega) (x1 i' q hq).2.2.2 r4
    · rw [tArr_ne c] at hu'; exact x1 i' u' hu'
  have wB' : tB1 us fl bl z b xb M e j w := by
    intro Y hY
    obtain ⟨t, t1, t2⟩ := hB Y hY
    obtain ⟨w', q1, q2⟩ := tEd_mono h' h1 h2 hx (fun k => ((hY.1 i t t1).2.2.2 k).1) t2 hE
    obtain ⟨t', p1, p2⟩ := hY.2.2 i x t hx t1 j w' q1
    exact ⟨t', p1, vle_trans huO h32' (fun k => (r4 k).1) (fun k => ((hY.1 j t' p1).2.2.2 k).1) q2 p2⟩
  refine ⟨⟨hok, ?_, fun i' u' hu' => ?_⟩, hbe, ?_⟩
  · obtain ⟨t, t1, t2⟩ := hbe e.1 u0 x2
    refine ⟨t, t1, vle_trans huO h32' (fun k => ?_) (fun k => ((hok e.1 t t1).2.2.2 k).1) x3 t2⟩
    unfold tIn
    split
    · rename_i hk
      have hm : xb.ps.getD k 0 ∈ xb.ps := by
        rw [List.getD_eq_getElem?_getD, List.getElem?_eq_getElem hk, Option.getD_some]
        exact List.getElem_mem hk
      obtain ⟨-, -, -, -, hl', -, -, -, tb, -, -, hxb, -⟩ := h'
      exact (tOk_V ((tb xb (List.mem_of_getElem? hxb)).1 _ hm) hl').1
    · unfold tV; omega
  · by_cases c : i' = j
    · subst c
      rw [tArr_at] at hu'
      cases hq : X i' with
      | none => rw [hq] at hu'; cases hu'; exact wB'
      | some q =>
        rw [hq] at hu'
        cases hu'
        intro Y hY
        obtain ⟨t, t1, t2⟩ := wB' Y hY
        obtain ⟨t', s1, s2⟩ := x4 i' q hq Y hY
        rw [t1] at s1
        cases s1
        exact ⟨t, t1, fun k => tJn_lub huO h32' ((x1 i' q hq).2.2.2 k).1 (r4 k).1 (s2 k) (t2 k)⟩
    · rw [tArr_ne c] at hu'; exact x4 i' u' hu'
  · rw [tArr_at]
    cases hq : X j with
    | none => exact ⟨_, rfl, vle_refl _⟩
    | some q => exact ⟨_, rfl, fun k => (tJn_ub huO h32' ((x1 j q hq).2.2.2 k).1 (r4 k).1).2⟩
theorem row_20 (h : tCx ns us fl bl z b xb e M) {i : Nat} (h1 : e.1 ≤ i) (h2 : i < e.2.1) (h0 : M i ≠ 0) {u : Nat → Int} (hr : tRow us xb.lc.toNat (hgt (M i)) u) {k : Nat} (hk : 20 ≤ k) : u k = 0 := by
  obtain ⟨w1, g, hb, huO, hl, h8, h32, -, -, -, l12, -⟩ := h
  have hlen : e.2.1 ≤ z.1.length := w1.2.2.1
  have := (g.2.2 i (z.1[i]'(by omega)) h1 h2 (List.getElem?_eq_getElem (by omega)) h0).2.2.1
  exact (hr k).2 (by unfold rel; omega)
/-- nothing new: nothing changes -/
theorem tNw_f (h : tCx ns us fl bl z b xb e M) {X : jX} (hX : tOK us xb.lc.toNat M e X) {j : Nat} {w : Nat → Int} (hr : tRow us xb.lc.toNat (hgt (M j)) w) (hn : tNw us X j w = false) : tArr us X j w = X := by
  unfold tNw at hn
  funext i
  by_cases c : i = j
  · subst c
    rw [tArr_at]
    cases hq : X i with
    | none => rw [hq] at hn; cases hn
    | some u =>
      rw [hq] at hn
      dsimp only at hn ⊢
      congr 1
      funext k
      obtain ⟨q1, q2, q3, q4⟩ := hX i u hq
      by_cases ck : k < 20
      · by_cases d : tJn us (u k) (w k) = u k
        · exact d
        · have : exB (fun k => decide (tJn us (u k) (w k) ≠ u k)) 20 = true := (exB_iff 20).mpr ⟨k, ck, decide_eq_true d⟩
          rw [this] at hn; cases hn
      · rw [row_20 h q1 q2 q3 q4 (by omega), row_20 h q1 q2 q3 hr (by omega)]; rfl
  · exact tArr_ne c
theorem tMi_le {lc g : Nat} (h32 : us.length ≤ 32) {u : Nat → Int} (hr : tRow us lc g u) : tMi (some u) ≤ 4000 := by
  show sm (fun k => rk (u k)) 20 ≤ 4000
  have := sm_le (f := fun k => rk (u k)) (g := fun _ => 200) (fun k => rk_le h32 (hr k).1) 20
  rw [sm_c] at this
  omega
theorem tNw_t (h : tCx ns us fl bl z b xb e M) {X : jX} (hX : tOK us xb.lc.toNat M e X) {j : Nat} (hj : j < 1024) {w : Nat → Int} (hr : tRow us xb.lc.toNat (hgt (M j)) w) : tMs (tArr us X j w) ≤ tMs X ∧ (tNw us X j w = true → tMs (tArr us X j w) < tMs X) := by
  obtain ⟨w1, g, hb, huO, hl, h8, h32, -⟩ := h
  have h32' : us.length ≤ 32 := by omega
  have pt : ∀ i, tMi (tArr us X j w i) ≤ tMi (X i) ∧ (i = j → tNw us X j w = true → tMi (tArr us X j w i) < tMi (X i)) := by
    intro i
    by_cases c : i = j
    · subst c
      rw [tArr_at]
      cases hq : X i with
      | none =>
        have := tMi_le h32' hr
        have e : tMi none = 4001 := rfl
        dsimp only
        exact ⟨by omega, fun _ _ => by omega⟩
      | some u =>
        obtain ⟨q1, q2, q3, q4⟩ := hX i u hq
        have le : ∀ k, rk (tJn us (u k) (w k)) ≤ rk (u k) := by
          intro k
          by_cases d : tJn us (u k) (w k) = u k
          · rw [d]; exact Nat.le_refl _
          · exact Nat.le_of_lt (tJn_rk huO h32' (q4 k).1 (hr k).1 d)
        refine ⟨sm_le le 20, fun _ hn => ?_⟩
        unfold tNw at hn
        rw [hq] at hn
        obtain ⟨k, k1, k2⟩ := (exB_iff 20).mp hn
        exact sm_lt le (tJn_rk huO h32' (q4 k).1 (hr k).1 (of_decide_eq_true k2)) 20 k1
    · rw [tArr_ne c]; exact ⟨Nat.le_refl _, fun h => absurd h c⟩
  exact ⟨sm_le (fun i => (pt i).1) 1024, fun hn => sm_lt (fun i => (pt i).1) ((pt j).2 rfl hn) 1024 hj⟩
/-- two least solutions are one -/
theorem tSol_u (h : tCx ns us fl bl z b xb e M) {X Y : jX} (hX : tInv us fl bl z b xb M e X) (hY : tInv us fl bl z b xb M e Y) (cX : ∀ i, tCl us fl bl z b xb.lc.toNat M X i) (cY : ∀ i, tCl us fl bl z b xb.lc.toNat M Y i) : X = Y := by
  have sX : tSol us fl bl z b xb M e X := ⟨hX.1, hX.2.1, cX⟩
  have sY : tSol us fl bl z b xb M e Y := ⟨hY.1, hY.2.1, cY⟩
  obtain ⟨w1, g, hb, huO, hl, h8, h32, -⟩ := h
  have h32' : us.length ≤ 32 := by omega
  funext i
  cases hx : X i with
  | none =>
    cases hy : Y i with
    | none => rfl
    | some t =>
      obtain ⟨q, q1, -⟩ := hY.2.2 i t hy X sX
      rw [hx] at q1; cases q1
  | some u =>
    obtain ⟨t, t1, t2⟩ := hX.2.2 i u hx Y sY
    rw [t1]
    obtain ⟨q, q1, q2⟩ := hY.2.2 i t t1 X sX
    rw [hx] at q1
    cases q1
    congr 1
    funext k
    exact tLe_anti huO h32' ((hX.1 i u hx).2.2.2 k).1 ((hY.1 i t t1).2.2.2 k).1 (t2 k) (q2 k)
end TFX
