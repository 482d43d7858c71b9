/-! Fields and bodies: lists for both sides; how they are looked up. -/
def jB : Type := List Int × Nat × Bool × List Int × Int × Int × Nat × Nat
def jB.mk (nm : List Int) (ow : Nat) (me : Bool) (ps : List Int) (rs lc : Int) (op tk : Nat) : jB := (nm, ow, me, ps, rs, lc, op, tk)
def jB.q2 (x : jB) : Nat × Bool × List Int × Int × Int × Nat × Nat := Prod.snd x
def jB.nm (x : jB) : List Int := Prod.fst x
def jB.ow (x : jB) : Nat := x.q2.1
def jB.me (x : jB) : Bool := x.q2.2.1
def jB.ps (x : jB) : List Int := x.q2.2.2.1
def jB.rs (x : jB) : Int := x.q2.2.2.2.1
def jB.lc (x : jB) : Int := x.q2.2.2.2.2.1
def jB.op (x : jB) : Nat := x.q2.2.2.2.2.2.1
def jB.tk (x : jB) : Nat := x.q2.2.2.2.2.2.2
/-- the first field of a name in a class or above it -/
def fdL (us : List Int) (c : Nat) (n : List Int) : List (List Int × Nat × Int) → Nat → Int
  | [], _ => -1
  | x :: l, i => if x.1 = n ∧ anc us c x.2.1 = true then (i : Int) else fdL us c n l (i + 1)
/-- the last body of a name in a class or above it -/
def bdL (us : List Int) (c : Nat) (n : List Int) : List jB → Nat → Int → Int
  | [], _, f => f
  | x :: l, i, f => bdL us c n l (i + 1) (if x.nm = n ∧ anc us c x.ow = true then (i : Int) else f)
/-- a type's number with the reference, out of the class's -/
def rvT (r : Int) : Int := if r = 1 then 0 else if r = 3 then 40 else if r < 0 then -1 else if r % 2 = 0 then 8 + (r - 4) / 2 else 48 + (r - 5) / 2
def fOk (us : List Int) (fl : List (List Int × Nat × Int)) : Prop := fl.length ≤ 48 ∧ ∀ (f : Nat) (x : List Int × Nat × Int), fl[f]? = some x → x.2.1 < us.length
def bOk (us : List Int) (bl : List jB) : Prop := bl.length ≤ 48 ∧ (∀ (b : Nat) (x : jB), bl[b]? = some x → x.ow < us.length) ∧ ∀ (a b : Nat) (x y : jB), a < b → bl[a]? = some x → bl[b]? = some y → x.ow ≤ y.ow ∧ ¬ (x.nm = y.nm ∧ x.ow = y.ow)
def cFl (S : nk_S) (Q c : Nat) (fl : List (List Int × Nat × Int)) : Prop := S.1 (Q + 1) 4 = (fl.length : Int) ∧ ∀ (f : Nat) (x : List Int × Nat × Int), fl[f]? = some x → (∃ w : Nat, w < c ∧ S.1 (Q + 5) f = (w : Int) ∧ wd S w = x.1) ∧ S.1 (Q + 6) f = (x.2.1 : Int) ∧ S.1 (Q + 7) f = x.2.2
def rFl (S : nk_S) (tx : List (List Int)) (P : Nat) (fl : List (List Int × Nat × Int)) : Prop := S.1 P 1 = (fl.length : Int) ∧ ∀ (f : Nat) (x : List Int × Nat × Int), fl[f]? = some x → S.1 (P + 3) f = (x.2.1 : Int) ∧ S.1 (P + 4) f = rvT x.2.2 ∧ ∃ q : Nat, S.1 219 f = (q : Int) ∧ tx[q]? = some x.1
def cB1 (S : nk_S) (Q c b : Nat) (x : jB) : Prop := S.1 (Q + 10) b = (x.ow : Int) ∧ (∃ w : Nat, w < c ∧ S.1 (Q + 11) b = (w : Int) ∧ wd S w = x.nm) ∧ S.1 (Q + 12) b = bi x.me ∧ S.1 (Q + 13) b = (x.ps.length : Int) ∧ (∀ (k : Nat) (t : Int), k < 12 → x.ps[k]? = some t → S.1 (Q + 14) (b * 12 + k) = t) ∧ S.1 (Q + 15) b = x.rs ∧ S.1 (Q + 16) b = x.lc ∧ S.1 (Q + 17) b = (x.op : Int)
def cBl (S : nk_S) (Q c : Nat) (bl : List jB) : Prop := S.1 (Q + 9) 0 = (bl.length : Int) ∧ ∀ (b : Nat) (x : jB), bl[b]? = some x → cB1 S Q c b x
def rB1 (S : nk_S) (tx : List (List Int)) (P b : Nat) (x : jB) : Prop := S.1 (P + 6) b = (x.ow : Int) ∧ S.1 (P + 7) b = bi x.me ∧ S.1 (P + 8) b = (x.ps.length : Int) ∧ (∀ (k : Nat) (t : Int), k < 12 → x.ps[k]? = some t → S.1 (P + 9) (b * 12 + k) = rvT t) ∧ S.1 (P + 10) b = rvT x.rs ∧ S.1 (P + 11) b = x.lc ∧ S.1 220 b = ((x.tk + 1 : Nat) : Int) ∧ tx[x.tk + 1]? = some x.nm ∧ S.1 221 b = ((x.op - 2 : Nat) : Int)
def rBl (S : nk_S) (tx : List (List Int)) (P : Nat) (bl : List jB) : Prop := S.1 P 2 = (bl.length : Int) ∧ ∀ (b : Nat) (x : jB), bl[b]? = some x → rB1 S tx P b x
theorem at_lt {α : Type} {l : List α} {i : Nat} {x : α} (h : l[i]? = some x) : i < l.length := by
  by_cases c : i < l.length
  · exact c
  · rw [List.getElem?_eq_none (by omega)] at h; cases h
theorem drop_at {α : Type} {l : List α} {i : Nat} (h : i < l.length) : ∃ x, l[i]? = some x ∧ l.drop i = x :: l.drop (i + 1) := ⟨l[i], List.getElem?_eq_getElem h, List.drop_eq_getElem_cons h⟩
/-! what the last body of a name is -/
theorem bdL_no {us : List Int} {c : Nat} {n : List Int} : ∀ (l : List jB) (i : Nat) (f : Int), (∀ x ∈ l, ¬ (x.nm = n ∧ anc us c x.ow = true)) → bdL us c n l i f = f := by
  intro l
  induction l with
  | nil => intro i f _; rfl
  | cons x l ih =>
    intro i f h
    rw [bdL, if_neg (h x List.mem_cons_self)]
    exact ih (i + 1) f (fun y hy => h y (List.mem_cons_of_mem _ hy))
theorem bdL_in {us : List Int} {c : Nat} {n : List Int} : ∀ (l : List jB) (i : Nat) (f : Int) (k : Nat) (x : jB), l[k]? = some x → x.nm = n ∧ anc us c x.ow = true → (∀ j y, k < j → l[j]? = some y → ¬ (y.nm = n ∧ anc us c y.ow = true)) → bdL us c n l i f = ((i + k : Nat) : Int) := by
  intro l
  induction l with
  | nil => intro i f k x h; cases h
  | cons z l ih =>
    intro i f k x h h2 h3
    rw [bdL]
    cases k with
    | zero =>
      have e : z = x := by simpa using h
      rw [e, if_pos h2, bdL_no l]
      · rfl
      · intro y hy
        obtain ⟨j, hj, e2⟩ := List.mem_iff_getElem.mp hy
        refine h3 (j + 1) y (by omega) ?_
        rw [List.getElem?_cons_succ, List.getElem?_eq_getElem hj, e2]
    | succ k =>
      rw [ih (i + 1) _ k x (by simpa using h) h2 (fun j y hj hy => h3 (j + 1) y (by omega) (by simpa using hy)), show i + 1 + k = i + (k + 1) by omega]
theorem bdL_rg {us : List Int} {c : Nat} {n : List Int} : ∀ (l : List jB) (i : Nat) (f : Int), bdL us c n l i f = f ∨ ∃ k x, bdL us c n l i f = ((i + k : Nat) : Int) ∧ l[k]? = some x ∧ x.nm = n ∧ anc us c x.ow = true := by
  intro l
  induction l with
  | nil => intro i f; exact Or.inl rfl
  | cons z l ih =>
    intro i f
    rw [bdL]
    by_cases q : z.nm = n ∧ anc us c z.ow = true
    · rw [if_pos q]
      rcases ih (i + 1) (i : Int) with h | ⟨k, x, h1, h2⟩
      · exact Or.inr ⟨0, z, h, rfl, q⟩
      · exact Or.inr ⟨k + 1, x, by rw [h1]; congr 1; omega, h2⟩
    · rw [if_neg q]
      rcases ih (i + 1) f with h | ⟨k, x, h1, h2⟩
      · exact Or.inl h
      · exact Or.inr ⟨k + 1, x, by rw [h1]; congr 1; omega, h2⟩
theorem bdL_cg {us : List Int} {c d : Nat} {n : List Int} : ∀ (l : List jB) (i : Nat) (f : Int), (∀ x ∈ l, x.nm = n → anc us c x.ow = anc us d x.ow) → bdL us c n l i f = bdL us d n l i f := by
  intro l
  induction l with
  | nil => intro i f _; rfl
  | cons x l ih =>
    intro i f h
    rw [bdL, bdL]
    have e : (if x.nm = n ∧ anc us c x.ow = true then (i : Int) else f) = if x.nm = n ∧ anc us d x.ow = true then (i : Int) else f := by
      by_cases q : x.nm = n
      · rw [h x List.mem_cons_self q]
      · rw [if_neg (fun z => q z.1), if_neg (fun z => q z.1)]
    rw [e]
    exact ih (i + 1) _ (fun y hy => h y (List.mem_cons_of_mem _ hy))
/-! the class's -/
section CLK
variable {S : nk_S} {tx : List (List Int)} {Q c : Nat} {ns : List (List Int)} {us : List Int}
theorem jc_Qf (hQ : Q = 13 ∨ Q = 49) : ja_c (Q + 1) 5 = Q + 5 ∧ ja_c (Q + 1) 6 = Q + 6 ∧ ja_c (Q + 1) 7 = Q + 7 ∧ ja_c (Q + 1) 8 = Q + 8 ∧ ja_c Q 1 = Q + 9 := by rcases hQ with rfl | rfl <;> exact ⟨rfl, rfl, rfl, rfl, rfl⟩
theorem jc_Q9 (hQ : Q = 13 ∨ Q = 49) : ja_c (Q + 9) 2 = Q + 10 ∧ ja_c (Q + 9) 3 = Q + 11 ∧ ja_c (Q + 9) 4 = Q + 12 ∧ ja_c (Q + 9) 5 = Q + 13 ∧ ja_c (Q + 9) 6 = Q + 14 ∧ ja_c (Q + 9) 7 = Q + 15 ∧ ja_c (Q + 9) 8 = Q + 16 ∧ ja_c (Q + 9) 9 = Q + 17 := by rcases hQ with rfl | rfl <;> exact ⟨rfl, rfl, rfl, rfl, rfl, rfl, rfl, rfl⟩
theorem c_findL (hQ : Q = 13 ∨ Q = 49) (hC : CF S tx c) (hK : cC S Q c ns us) (hu : uOk us) {fl : List (List Int × Nat × Int)} (hF : cFl S Q c fl) (hO : fOk us fl) {j w : Nat} (hj : j < ns.length) (hw : w < c) : ∀ (e f m : Nat), f + e = fl.length → e < m → ja_X1_findField_L2 m (Q + 1) (j : Int) (w : Int) (f : Int) S = some (fdL us j (wd S w) (fl.drop f) f, S) := by
  obtain ⟨f1, f2⟩ := hF
  obtain ⟨o1, o2⟩ := hO
  have hl := hK.2.2.2.1
  have hl2 := hK.2.2.1
  intro e
  induction e with
  | zero =>
    intro f m h1 h2
    obtain ⟨m, rfl⟩ : ∃ q, m = q + 1 := ⟨m - 1, by omega⟩
    show ja_X1_findField_b2 (ja_X1_findField_L2 m) (Q + 1) (j : Int) (w : Int) (f : Int) S = _
    unfold ja_X1_findField_b2
    rw [f1, if_pos (by omega), List.drop_eq_nil_of_le (by omega)]
    rfl
  | succ e ih =>
    intro f m h1 h2
    obtain ⟨m, rfl⟩ : ∃ q, m = q + 1 := ⟨m - 1, by omega⟩
    show ja_X1_findField_b2 (ja_X1_findField_L2 m) (Q + 1) (j : Int) (w : Int) (f : Int) S = _
    obtain ⟨x, x1, x2⟩ := drop_at (show f < fl.length by omega)
    obtain ⟨⟨v, v1, v2, v3⟩, y1, y2⟩ := f2 f x x1
    have hx := o2 f x x1
    have hin : (0 : Int) ≤ (f : Int) ∧ (f : Int) < 48 := in_i (N := 48) (by omega)
    have hnx : ja_X1_findField_L2 m (Q + 1) (j : Int) (w : Int) (nk_w ((f : Int) + 1)) S = some (fdL us j (wd S w) (fl.drop (f + 1)) (f + 1), S) := by
      rw [w_nat1 (by omega)]
      exact ih (f + 1) m (by omega) (by omega)
    unfold ja_X1_findField_b2
    rw [f1, if_neg (by omega), if_pos hin, (jc_Qf hQ).1, (jc_Qf hQ).2.1, Int.toNat_natCast, v2, y1, x2, fdL]
    by_cases q : v = w
    · subst q
      rw [if_pos rfl, c_above hQ hK hu hj (by omega), bd_some]
      cases h : anc us j x.2.1 with
      | false => rw [if_pos (show bi false = 0 from rfl), lt_eq, hnx, if_neg (fun z => by cases z.2)]
      | true => rw [if_neg (show ¬ bi true = 0 by decide), if_pos ⟨v3.symm, rfl⟩]
    · rw [if_neg (show ¬ (v : Int) = (w : Int) by omega), lt_eq, hnx, if_neg (fun z => q (hC.2.2.2.2.2.2.1 v w v1 hw (by rw [v3]; exact z.1)))]
theorem c_find (hQ : Q = 13 ∨ Q = 49) (hC : CF S tx c) (hK : cC S Q c ns us) (hu : uOk us) {fl : List (List Int × Nat × Int)} (hF : cFl S Q c fl) (hO : fOk us fl) {j w : Nat} (hj : j < ns.length) (hw : w < c) : ja_X1_findField (Q + 1) (j : Int) (w : Int) S = some (fdL us j (wd S w) fl 0, S) := by
  obtain ⟨m, hm⟩ := big_ge 100 (by decide)
  have := hO.1
  exact c_findL hQ hC hK hu hF hO hj hw fl.length 0 nk_big (by omega) (by omega)
theorem c_nearL (hQ : Q = 13 ∨ Q = 49) (hC : CF S tx c) (hK : cC S Q c ns us) (hu : uOk us) {bl : List jB} (hB : cBl S Q c bl) (hO : bOk us bl) {j w : Nat} (hj : j < ns.length) (hw : w < c) : ∀ (e f m : Nat) (g : Int), f + e = bl.length → e < m → ja_X0_nearest_L6 m (Q + 9) (Q + 1) (j : Int) (w : Int) g (f : Int) S = some (bdL us j (wd S w) (bl.drop f) f g, S) := by
  obtain ⟨f1, f2⟩ := hB
  obtain ⟨o1, o2, -⟩ := hO
  have hl := hK.2.2.2.1
  have hl2 := hK.2.2.1
  intro e
  induction e with
  | zero =>
    intro f m g h1 h2
    obtain ⟨m, rfl⟩ : ∃ q, m = q + 1 := ⟨m - 1, by omega⟩
    show ja_X0_nearest_b6 (ja_X0_nearest_L6 m) (Q + 9) (Q + 1) (j : Int) (w : Int) g (f : Int) S = _
    unfold ja_X0_nearest_b6
    rw [f1, if_pos (by omega), List.drop_eq_nil_of_le (by omega)]
    rfl
  | succ e ih =>
    intro f m g h1 h2
    obtain ⟨m, rfl⟩ : ∃ q, m = q + 1 := ⟨m - 1, by omega⟩
    show ja_X0_nearest_b6 (ja_X0_nearest_L6 m) (Q + 9) (Q + 1) (j : Int) (w : Int) g (f : Int) S = _
    obtain ⟨x, x1, x2⟩ := drop_at (show f < bl.length by omega)
    obtain ⟨y1, ⟨v, v1, v2, v3⟩, -⟩ := f2 f x x1
    have hx := o2 f x x1
    have hin : (0 : Int) ≤ (f : Int) ∧ (f : Int) < 48 := in_i (N := 48) (by omega)
    have hnx : ∀ g, ja_X0_nearest_L6 m (Q + 9) (Q + 1) (j : Int) (w : Int) g (nk_w ((f : Int) + 1)) S = some (bdL us j (wd S w) (bl.drop (f + 1)) (f + 1) g, S) := by
      intro g
      rw [w_nat1 (by omega)]
      exact ih (f + 1) m g (by omega) (by omega)
    unfold ja_X0_nearest_b6
    rw [f1, if_neg (by omega), if_pos hin, (jc_Q9 hQ).1, (jc_Q9 hQ).2.1, Int.toNat_natCast, v2, y1, x2, bdL]
    by_cases q : v = w
    · subst q
      rw [if_pos rfl, c_above hQ hK hu hj (by omega), bd_some]
      cases h : anc us j x.ow with
      | false => rw [if_pos (show bi false = 0 from rfl), lt_eq, hnx, if_neg (fun z => by cases z.2)]
      | true => rw [if_neg (show ¬ bi true = 0 by decide), lt_eq, hnx, if_pos ⟨v3.symm, rfl⟩]
    · rw [if_neg (show ¬ (v : Int) = (w : Int) by omega), lt_eq, hnx, if_neg (fun z => q (hC.2.2.2.2.2.2.1 v w v1 hw (by rw [v3]; exact z.1)))]
theorem c_near (hQ : Q = 13 ∨ Q = 49) (hC : CF S tx c) (hK : cC S Q c ns us) (hu : uOk us) {bl : List jB} (hB : cBl S Q c bl) (hO : bOk us bl) {j w : Nat} (hj : j < ns.length) (hw : w < c) : ja_X0_nearest (Q + 9) (Q + 1) (j : Int) (w : Int) S = some (bdL us j (wd S w) bl 0 (-1), S) := by
  obtain ⟨m, hm⟩ := big_ge 100 (by decide)
  have := hO.1
  exact c_nearL hQ hC hK hu hB hO hj hw bl.length 0 nk_big (-1) (by omega) (by omega)
end CLK
