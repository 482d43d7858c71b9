/-! The run: what is known of the machine's state. -/
/-- a value as the proof would know it -/
def aV (m : jM) (v : jV) : jW := if v.1 = 1 then wR (-2147483648, 2147483647) else if v.1 = 2 then wS (onS (if v.2 = 0 then 62 else m.si (v.2.toNat - 1))) else wU
def vWf (m : jM) (v : jV) : Prop := (v.1 = 0 ∧ v.2 = 0) ∨ (v.1 = 1 ∧ iR v.2) ∨ (v.1 = 2 ∧ 0 ≤ v.2 ∧ v.2 ≤ (m.n : Int))
/-- a value is of a type -/
def vTy (p : jP) (m : jM) (t : Int) (v : jV) : Prop := vWf m v ∧ wTy p.2.1 p.2.2.2.2.1 t (aV m v)
/-- the heap is right -/
def hTy (p : jP) (m : jM) : Prop := m.ba 0 = 0 ∧ m.n ≤ 2000 ∧ m.ba m.n ≤ 12000 ∧ (∀ o, o < m.n → m.ba o ≤ m.ba (o + 1)) ∧ (∀ o, o < m.n → sVd p.2.2.2.2.1 (m.si o) = true) ∧ (∀ o, o < m.n → tAr (sTp p.2.2.2.2.1 (m.si o)) = true → ∀ q, q < m.ext o → vTy p m (tEl (sTp p.2.2.2.2.1 (m.si o))) (m.me (m.ba o + q))) ∧ ∀ o, o < m.n → tAr (sTp p.2.2.2.2.1 (m.si o)) = false → m.ext o = nOf p.2.1 p.2.2.1 (cl (sTp p.2.2.2.2.1 (m.si o))) ∧ ∀ (f : Nat) (y : List Int × Nat × Int), p.2.2.1[f]? = some y → anc p.2.1 (cl (sTp p.2.2.2.2.1 (m.si o))) y.2.1 = true → vTy p m y.2.2 (m.me (m.ba o + fPl p f))
/-- the slots of a body are right -/
def fRw (p : jP) (m : jM) (f : Nat) (t : Nat → Int) : Prop := ∀ k, rel (pLc p (m.pc f)) (m.hs f) k → vTy p m (t k) (m.vs f k)
def mTop (p : jP) (m : jM) (x : jC) (t : Nat → Int) : Prop := p.2.2.2.2.1.1[m.pc m.d]? = some x ∧ pTy p (m.pc m.d) = some t ∧ m.hs m.d = pH p (m.pc m.d) ∧ fRw p m m.d t
def mLow (p : jP) (m : jM) (f : Nat) : Prop := ∃ (x : jC) (t : Nat → Int) (y : jB) (x' : jC) (y' : jB), p.2.2.2.2.1.1[m.pc f]? = some x ∧ pTy p (m.pc f) = some t ∧ (x.1 = 39 ∨ x.1 = 40) ∧ m.hs f = pH p (m.pc f) - tkX p.2.2.2.1 x ∧ fRw p m f t ∧ p.2.2.2.1[x.2.1.toNat]? = some y ∧ p.2.2.2.2.1.1[m.pc (f + 1)]? = some x' ∧ p.2.2.2.1[x'.2.2.2.1]? = some y' ∧ y'.rs = y.rs
/-- the machine's state is right -/
def mOk (p : jP) (m : jM) : Prop := m.d < 64 ∧ hTy p m ∧ (∃ x t, mTop p m x t) ∧ ∀ f, f < m.d → mLow p m f
section MTY
variable {p : jP} {m m' : jM} {Q : Nat} {tx : List (List Int)}
theorem vTy_ext (hn : m.n ≤ m'.n) (hs : ∀ o, o < m.n → m'.si o = m.si o) {t : Int} {v : jV} (h : vTy p m t v) : vTy p m' t v := by
  obtain ⟨h1, h2⟩ := h
  refine ⟨?_, ?_⟩
  · rcases h1 with q | q | ⟨q1, q2, q3⟩
    · exact Or.inl q
    · exact Or.inr (Or.inl q)
    · exact Or.inr (Or.inr ⟨q1, q2, by omega⟩)
  · have : aV m' v = aV m v := by
      unfold aV
      split
      · rfl
      · split
        · rename_i q
          rcases h1 with r | r | ⟨q1, q2, q3⟩
          · omega
          · omega
          · by_cases e : v.2 = 0
            · rw [if_pos e, if_pos e]
            · rw [if_neg e, if_neg e, hs _ (by omega)]
        · rfl
    rw [this]; exact h2
theorem vTy_le (hk : pKX p Q) {t t' : Int} (vt' : tV p.2.1 t') (h : tLe p.2.1 t t' = true) {v : jV} (hv : vTy p m t v) : vTy p m t' v := ⟨hv.1, wTy_le hk.2.1.2.2.2.1 hk.2.1.2.2.2.2.1 hk.2.1.2.1 vt' h hv.2⟩
theorem vTy_int {n : Int} (h : iR n) : vTy p m 1 (1, n) := ⟨Or.inr (Or.inl ⟨rfl, h⟩), fun _ => rfl, fun q => absurd (show (2 : Int) ≤ 1 from q) (by decide)⟩
theorem vTy_null {t : Int} (h : 2 ≤ t) : vTy p m t (2, 0) := by
  refine ⟨Or.inr (Or.inr ⟨rfl, by show (0 : Int) ≤ 0; omega, by show (0 : Int) ≤ _; omega⟩), fun q => by omega, fun _ => ⟨rfl, fun s q => Or.inl ?_⟩⟩
  exact of_decide_eq_true q
theorem vTy_obj {t : Int} (h : 2 ≤ t) {o : Nat} (ho : o < m.n) (hs : sVd p.2.2.2.2.1 (m.si o) = true) (hl : tLe p.2.1 (sTp p.2.2.2.2.1 (m.si o)) t = true) : vTy p m t (2, ((o + 1 : Nat) : Int)) := by
  refine ⟨Or.inr (Or.inr ⟨rfl, by show (0 : Int) ≤ ((o + 1 : Nat) : Int); omega, by show ((o + 1 : Nat) : Int) ≤ _; omega⟩), fun q => by omega, fun _ => ⟨rfl, fun s q => Or.inr ?_⟩⟩
  have q : decide (s = if ((o + 1 : Nat) : Int) = 0 then 62 else m.si (((o + 1 : Nat) : Int).toNat - 1)) = true := q
  rw [if_neg (by omega), Int.toNat_natCast, Nat.add_sub_cancel] at q
  rw [of_decide_eq_true q]
  unfold pB
  rw [hs, hl]; rfl
theorem vTy_1 {v : jV} (h : vTy p m 1 v) : v.1 = 1 ∧ iR v.2 := by
  obtain ⟨h1, h2⟩ := h
  have q := h2.1 rfl
  have q1 : v.1 = 1 := by
    unfold aV at q
    split at q
    · assumption
    · split at q <;> cases q
  rcases h1 with r | r | r
  · omega
  · exact r
  · omega
theorem aV_k {v : jV} (h : vWf m v) : (aV m v).1 = v.1 := by
  unfold aV
  split
  · rename_i q; rw [q]; rfl
  · split
    · rename_i q; rw [q]; rfl
    · rcases h with r | r | r
      · rw [r.1]; rfl
      · omega
      · omega
theorem vTy_k {t : Int} {v : jV} (h : vTy p m t v) (h2 : 2 ≤ t) : v.1 = 2 ∧ 0 ≤ v.2 ∧ v.2 ≤ (m.n : Int) := by
  have q := (h.2.2 h2).1
  rw [aV_k h.1] at q
  rcases h.1 with r | r | r
  · omega
  · omega
  · exact r
/-- an object that is there -/
theorem vTy_2 (hh : hTy p m) (hz : p.2.2.2.2.1.2.1.length ≤ 48) {t : Int} {v : jV} (h : vTy p m t v) (h2 : 2 ≤ t) (h0 : v.2 ≠ 0) : ∃ o : Nat, o < m.n ∧ v.2 = ((o + 1 : Nat) : Int) ∧ v.2.toNat - 1 = o ∧ sVd p.2.2.2.2.1 (m.si o) = true ∧ tLe p.2.1 (sTp p.2.2.2.2.1 (m.si o)) t = true := by
  obtain ⟨k1, k2, k3⟩ := vTy_k h h2
  have hs := (h.2.2 h2).2
  refine ⟨v.2.toNat - 1, by omega, by omega, rfl, hh.2.2.2.2.1 _ (by omega), ?_⟩
  have e : (aV m v).2.2.1 = onS (m.si (v.2.toNat - 1)) := by
    unfold aV
    rw [if_neg (by omega), if_pos k1, if_neg h0]
    rfl
  have q := hs (m.si (v.2.toNat - 1)) (by rw [e]; exact decide_eq_true rfl)
  have hv := hh.2.2.2.2.1 (v.2.toNat - 1) (by omega)
  have h54 := sV_54 hz _ hv
  rcases q with q | q
  · omega
  · unfold pB at q
    rw [Bool.and_eq_true] at q
    exact q.2
theorem vTy_0 {v : jV} (h : vWf m v) : vTy p m 0 v := ⟨h, fun q => absurd q (by decide), fun q => absurd q (by decide)⟩
/-- the types behind an instruction -/
theorem ty_arr (hk : pKX p Q) {i : Nat} {x : jC} (hx : p.2.2.2.2.1.1[i]? = some x) {t : Nat → Int} (ht : pTy p i = some t) {j : Nat} {w : Nat → Int} (hE : (tPf p.2.2.1 p.2.2.2.1 p.2.2.2.2.1.2.1 x (pH p i) t = some w ∧ ((fal x.1 = true ∧ j = i + 1) ∨ (19 ≤ x.1 ∧ x.1 ≤ 29 ∧ j = x.2.1.toNat))) ∨ ∃ (k : Nat) (y : Nat × Nat × Nat × Nat × Nat), p.2.2.2.2.1.2.2.1[k]? = some y ∧ y.1 = x.2.2.2.1 ∧ y.2.1 ≤ i ∧ i < y.2.2.1 ∧ j = y.2.2.2.1 ∧ w = tUp t 12 (4 + 2 * (y.2.2.2.2 : Int))) : ∃ x' t', p.2.2.2.2.1.1[j]? = some x' ∧ x'.2.2.2.1 = x.2.2.2.1 ∧ pTy p j = some t' ∧ pLc p j = pLc p i ∧ (∀ k, tV p.2.1 (t' k)) ∧ ∀ k, rel (pLc p j) (pH p j) k → tLe p.2.1 (w k) (t' k) = true := by
  obtain ⟨hT, hs, hov, huO, h32, h8, hz, hin, hbd, hop⟩ := hk.2.1
  obtain ⟨xb, e, M, X, b1, b2, b3, b4, b5, b6, b7, b8, b9⟩ := hin i x hx
  obtain ⟨e1, e2, e3⟩ := b6 i b3 b4
  have ht' := ht
  rw [e3] at ht
  obtain ⟨o1, o2, o3, o4⟩ := b7.1 i t ht
  have hv : ∀ k, tV p.2.1 (t k) := fun k => (o4 k).1
  have hlen := b5.1.2.2.1
  have hE' : tEd p.2.2.1 p.2.2.2.1 p.2.2.2.2.1 x.2.2.2.1 xb.lc.toNat M i x t j (rst xb.lc.toNat (hgt (M j)) w) := by
    rcases hE with ⟨q1, q2⟩ | ⟨k, y, q1, q2, q3, q4, q5, q6⟩
    · exact Or.inl ⟨w, by rw [← e1]; exact q1, rfl, q2⟩
    · exact Or.inr ⟨k, y, q1, q2, q3, q4, q5, by rw [q6]⟩
  obtain ⟨r1, r2, r3, r4⟩ := tEd_row b5 b3 b4 hx o3 hv hE'
  obtain ⟨t', q1, q2⟩ := b8 i x t hx ht j _ hE'
  obtain ⟨f1, f2, f3⟩ := b6 j r1 r2
  have hx' := List.getElem?_eq_getElem (l := p.2.2.2.2.1.1) (show j < _ by omega)
  refine ⟨_, t', hx', (b5.1.2.2.2.1 j _ r1 r2 hx').1, by rw [f3]; exact q1, by rw [f2, e2], fun k => ((b7.1 j t' q1).2.2.2 k).1, fun k hr => ?_⟩
  have := q2 k
  unfold rst at this
  rw [f1, f2] at hr
  rw [if_pos hr] at this
  exact this
/-- the types at a body's beginning -/
theorem ty_ent (hk : pKX p Q) {b : Nat} {y : jB} (hb : p.2.2.2.1[b]? = some y) : ∃ e x' t', p.2.2.2.2.2[b]? = some e ∧ p.2.2.2.2.1.1[e.1]? = some x' ∧ x'.2.2.2.1 = b ∧ pTy p e.1 = some t' ∧ pH p e.1 = 0 ∧ pLc p e.1 ≤ 12 ∧ (∀ k, tV p.2.1 (t' k)) ∧ ∀ k, tLe p.2.1 (tIn y k) (t' k) = true := by
  obtain ⟨hT, hs, hov, huO, h32, h8, hz, hin, hbd, hop⟩ := hk.2.1
  obtain ⟨e0, x0, r1, r2, r3⟩ := hbd b y hb
  obtain ⟨xb, e', M, X, g1, g2, g3, g4, g5, g6, g7, g8, g9⟩ := hin e0.1 x0 r2
  rw [r3, hb] at g1
  cases g1
  rw [r3, r1] at g2
  cases g2
  obtain ⟨t', u1, u2⟩ := g7.2.1
  obtain ⟨f1, f2, f3⟩ := g6 e0.1 g3 g4
  have lc12 := g5.2.2.2.2.2.2.2.2.2.2.1
  exact ⟨e0, x0, t', r1, r2, r3, by rw [f3]; exact u1, by rw [f1]; exact g5.2.1.2.1, by rw [f2]; omega, fun k => ((g7.1 _ t' u1).2.2.2 k).1, u2⟩
/-- the row that runs, as the proof would know it -/
def aRw (p : jP) (m : jM) (i h : Nat) : jQ := fun k => if rel (pLc p i) h k then aV m (m.vs m.d k) else wU
/-- what is known at the instruction that runs -/
theorem m_at (hk : pKX p Q) {x : jC} {t : Nat → Int} (ht : mTop p m x t) : (∃ xb e, pAf p.1 p.2.1 p.2.2.1 p.2.2.2.1 p.2.2.2.2.1 p.2.2.2.2.2 (pH p) (pLc p) (m.pc m.d) x t xb e) ∧ pKd p.2.2.2.1 x (pH p (m.pc m.d)) (aRw p m (m.pc m.d) (m.hs m.d)) ∧ ∀ k, tV p.2.1 (t k) := by
  obtain ⟨t1, t2, t3, t4⟩ := ht
  have hC := hk.2.1
  refine ⟨pAt hC t1 t2, ?_⟩
  obtain ⟨hT, hs, hov, huO, h32, h8, hz, hin, hbd, hop⟩ := id hC
  obtain ⟨xb, e, M, X, b1, b2, b3, b4, b5, b6, b7, b8, b9⟩ := hin _ x t1
  obtain ⟨e1, e2, e3⟩ := b6 _ b3 b4
  have t2' := t2
  rw [e3] at t2'
  obtain ⟨o1, o2, o3, o4⟩ := b7.1 _ t t2'
  have hv : ∀ k, tV p.2.1 (t k) := fun k => (o4 k).1
  refine ⟨?_, hv⟩
  rw [e1]
  refine pKd_of b5 b3 b4 t1 o3 hv (hop _ x t1).2.2.1 (fun k => ?_) (b9 _ t x t2' t1)
  unfold aRw
  by_cases c : rel (pLc p (m.pc m.d)) (m.hs m.d) k
  · rw [if_pos c]
    exact (t4 k c).2
  · rw [if_neg c]
    rw [e2, t3, e1] at c
    rw [(o4 k).2 c]
    exact ⟨fun q => absurd q (by decide), fun q => absurd q (by decide)⟩
end MTY
