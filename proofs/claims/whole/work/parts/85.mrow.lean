/-! Members: types that are the same are the same tokens; the reference's rows of types. -/
theorem amx_get {l : List Int} : ∀ (ws : List (List Int)) (j : Int), 0 ≤ j → 0 ≤ amx l ws j → ∃ k : Nat, amx l ws j = j + (k : Int) ∧ ws[k]? = some l := by
  intro ws
  induction ws with
  | nil => intro j hj h; have : amx l [] j = -1 := rfl; omega
  | cons w ws ih =>
    intro j hj h
    rw [amx] at h ⊢
    by_cases q : l = w
    · rw [if_pos q]
      exact ⟨0, by simp, by rw [q]; rfl⟩
    · rw [if_neg q] at h ⊢
      obtain ⟨k, k1, k2⟩ := ih (j + 1) (by omega) h
      exact ⟨k + 1, by omega, by simpa using k2⟩
theorem arr_end {l : List Int} (h : shp l = 4) : l = l.take (l.length - 2) ++ [91, 93] := by
  have h4 := (shp_eq l).2.2.2.1.mp h
  obtain ⟨h1, h2, h3⟩ := arE_last (arrQ_iff.mp h4).1
  have e : l.drop (l.length - 2) = [91, 93] := by
    rw [List.drop_eq_getElem_cons (show l.length - 2 < l.length by omega), List.drop_eq_getElem_cons (show l.length - 2 + 1 < l.length by omega), List.drop_eq_nil_of_le (by omega)]
    rw [List.getElem?_eq_getElem (show l.length - 1 < l.length by omega)] at h2
    rw [List.getElem?_eq_getElem (show l.length - 2 < l.length by omega)] at h3
    have e1 : l[l.length - 2]'(by omega) = 91 := by simpa using h3
    have e2 : l[l.length - 2 + 1]'(by omega) = 93 := by
      have : l[l.length - 1]'(by omega) = 93 := by simpa using h2
      simpa only [show l.length - 2 + 1 = l.length - 1 by omega] using this
    rw [e1, e2]
  conv => lhs; rw [← List.take_append_drop (l.length - 2) l, e]
theorem tyC_kind {ns : List (List Int)} {l : List Int} (h : tyC ns l ≠ -2) : (tyC ns l = 1 ∧ l = fx.getD 52 []) ∨ (tyC ns l = 3 ∧ l = fx.getD 54 []) ∨ (tyC ns l = -1 ∧ l = fx.getD 53 []) ∨ (∃ j : Nat, tyC ns l = 5 + 2 * (j : Int) ∧ shp l = 4 ∧ ns[j]? = some (l.take (l.length - 2))) ∨ ∃ j : Nat, tyC ns l = 4 + 2 * (j : Int) ∧ ns[j]? = some l := by
  unfold tyC at h ⊢
  by_cases q1 : l = fx.getD 52 []
  · rw [if_pos q1]; exact Or.inl ⟨rfl, q1⟩
  rw [if_neg q1] at h ⊢
  by_cases q2 : l = fx.getD 54 []
  · rw [if_pos q2]; exact Or.inr (Or.inl ⟨rfl, q2⟩)
  rw [if_neg q2] at h ⊢
  by_cases q3 : l = fx.getD 53 []
  · rw [if_pos q3]; exact Or.inr (Or.inr (Or.inl ⟨rfl, q3⟩))
  rw [if_neg q3] at h ⊢
  by_cases q4 : shp l = 4
  · rw [if_pos q4] at h ⊢
    by_cases q5 : 0 ≤ amx (l.take (l.length - 2)) ns 0
    · rw [if_pos q5]
      obtain ⟨k, k1, k2⟩ := amx_get ns 0 (by decide) q5
      exact Or.inr (Or.inr (Or.inr (Or.inl ⟨k, by omega, q4, k2⟩)))
    · rw [if_neg q5] at h; exact absurd rfl h
  · rw [if_neg q4] at h ⊢
    by_cases q5 : 0 ≤ amx l ns 0
    · rw [if_pos q5]
      obtain ⟨k, k1, k2⟩ := amx_get ns 0 (by decide) q5
      exact Or.inr (Or.inr (Or.inr (Or.inr ⟨k, by omega, k2⟩)))
    · rw [if_neg q5] at h; exact absurd rfl h
theorem tyC_inj {ns : List (List Int)} {l m : List Int} (h : tyC ns l = tyC ns m) (h2 : tyC ns m ≠ -2) : l = m := by
  have h3 : tyC ns l ≠ -2 := by rw [h]; exact h2
  rcases tyC_kind h3 with ⟨a1, a2⟩ | ⟨a1, a2⟩ | ⟨a1, a2⟩ | ⟨j, a1, a2, a3⟩ | ⟨j, a1, a2⟩ <;> rcases tyC_kind h2 with ⟨b1, b2⟩ | ⟨b1, b2⟩ | ⟨b1, b2⟩ | ⟨k, b1, b2, b3⟩ | ⟨k, b1, b2⟩ <;> first
    | (exfalso; omega)
    | (rw [a2, b2]; done)
    | skip
  · have e : j = k := by omega
    subst e
    rw [a3] at b3
    have e2 := Option.some.inj b3
    rw [arr_end a2, arr_end b2, e2]
  · have e : j = k := by omega
    subst e
    rw [a2] at b2
    exact Option.some.inj b2
theorem ty_rv {ns : List (List Int)} {l : List Int} (h : isT l = true) (hns : ns.length ≤ 32) : tyR ns l = rvT (tyC ns l) := by
  rw [ty_cv h hns]
  have r1 := amx_rg (l.take (l.length - 2)) ns 0
  have r2 := amx_rg l ns 0
  have hr : tyR ns l = -1 ∨ tyR ns l = 0 ∨ tyR ns l = 40 ∨ (8 ≤ tyR ns l ∧ tyR ns l < 40) ∨ (48 ≤ tyR ns l ∧ tyR ns l < 80) := by
    unfold tyR
    split
    · split
      · omega
      · split <;> omega
    · split
      · omega
      · split <;> omega
  unfold rvT cvT
  rcases hr with h | h | h | h | h
  · rw [h]; decide
  · rw [h]; decide
  · rw [h]; decide
  · rw [if_neg (show ¬ tyR ns l = 0 by omega), if_neg (show ¬ tyR ns l = 40 by omega), if_neg (show ¬ tyR ns l < 0 by omega), if_pos (show tyR ns l < 40 by omega), if_neg (by omega), if_neg (by omega), if_neg (by omega), if_pos (by omega)]
    omega
  · rw [if_neg (show ¬ tyR ns l = 0 by omega), if_neg (show ¬ tyR ns l = 40 by omega), if_neg (show ¬ tyR ns l < 0 by omega), if_neg (show ¬ tyR ns l < 40 by omega), if_neg (by omega), if_neg (by omega), if_neg (by omega), if_neg (by omega)]
    omega
section MRW
variable {S : nk_S} {tx : List (List Int)} {ns : List (List Int)}
theorem m_cb (hM : MW S tx) (b : Nat) (hb : b < 2000000) : ja_X13_is 121 (b : Int) 23 S = some (bi (fW tx 56 b), S) := m_W0 hM ok_t.2.2.2.2.2.2.2.2.1 tx_t.2.2.2.2.2.2.2.2.1 b hb
theorem m_nn (hM : MW S tx) (b : Nat) (hb : b < 2000000) : ja_X13_is 121 (b : Int) 25 S = some (bi (fW tx 53 b), S) := m_W0 hM ok_t.2.2.2.2.2.2.2.2.2.1 tx_t.2.2.2.2.2.2.2.2.2.1 b hb
theorem m_mt (hM : MW S tx) (b : Nat) (hb : b < 2000000) : ja_X13_is 121 (b : Int) 19 S = some (bi (fW tx 51 b), S) := m_W0 hM ok_t.2.2.2.2.2.2.1 tx_t.2.2.2.2.2.2.1 b hb
theorem m_sameT (hM : MW S tx) {i j : Nat} (hi : i < tx.length) (hj : j < tx.length) : ja_X13_isSameToken 121 (i : Int) (j : Int) S = some (bi (decide (tx.getD i [] = tx.getD j [])), S) := by
  have hT := hM.2.1
  obtain ⟨f, t, e1, e2, e3, e4, e5, e6⟩ := MW_get hM hi
  obtain ⟨f', t', g1, g2, g3, g4, g5, g6⟩ := MW_get hM hj
  unfold ja_X13_isSameToken
  rw [if_pos (in_i (N := 16002) (by omega)), if_pos (in_i (N := 16002) (by omega)), jc_121_8, jc_121_9, Int.toNat_natCast, Int.toNat_natCast, e1, e2, g1, g2, m_same (by omega) e4 (by omega) g4, bd_some, e5, g5]
  cases decide (tx.getD i [] = tx.getD j []) with
  | true => rfl
  | false => rfl
theorem w_add {a b : Nat} (h : a + b < 2147483648) : nk_w ((a : Int) + (b : Int)) = ((a + b : Nat) : Int) := by
  rw [show (a : Int) + (b : Int) = ((a + b : Nat) : Int) by omega]
  exact w_n0 h
theorem m_rowL (hM : MW S tx) : ∀ (d p q m k t u : Nat), t + k = p → u + k = q → (fTypes tx d p).1 = true → (fTypes tx d q).1 = true → (∀ x ∈ (pT tx ns d q).1, x ≠ -2) → tyC ns (tx.getD ((pT tx ns d q).2 + 1) []) ≠ -2 → (pT tx ns d p).2 + 1 < tx.length → (pT tx ns d q).2 + 1 < tx.length → tx.length < p + m → ja_X13_isSameRow_L2 m 121 (t : Int) (u : Int) (k : Int) S = some (bi (decide ((pT tx ns d p).1 = (pT tx ns d q).1 ∧ tyC ns (tx.getD ((pT tx ns d p).2 + 1) []) = tyC ns (tx.getD ((pT tx ns d q).2 + 1) []))), S) := by
  intro d
  induction d with
  | zero => intro p q m k t u _ _ h; cases h
  | succ d ih =>
    intro p q m k t u hp hq h1 h2 hv hr hlp hlq hm
    have hT := hM.2.1
    have f1 := fTypes_ok h1
    have f2 := fTypes_ok h2
    obtain ⟨m, rfl⟩ : ∃ q, m = q + 1 := ⟨m - 1, by omega⟩
    show ja_X13_isSameRow_b2 (ja_X13_isSameRow_L2 m) 121 (t : Int) (u : Int) (k : Int) S = _
    have np : p < 2000000 := by omega
    have nq : q < 2000000 := by omega
    have np1 : p + 1 < 2147483648 := by omega
    have nq1 : q + 1 < 2147483648 := by omega
    have wp : nk_w ((t : Int) + (k : Int)) = (p : Int) := by rw [w_add (by omega), hp]
    have wq : nk_w ((u : Int) + (k : Int)) = (q : Int) := by rw [w_add (by omega), hq]
    rw [fTypes] at h1 h2
    rw [pT] at hlp ⊢
    rw [pT] at hv hr hlq ⊢
    have b47 : ja_X13_isSameRow_b47 121 (t : Int) (u : Int) (k : Int) S = if fW tx 56 p = true then (if fW tx 56 q = true then some (bi (decide (tx.getD (p + 1) [] = tx.getD (q + 1) [])), S) else some (0, S)) else some (0, S) := by
      unfold ja_X13_isSameRow_b47
      rw [wp, wq, m_cb hM p np, bd_some]
      cases c1 : fW tx 56 p with
      | false => rw [if_pos (show bi false = 0 from rfl), if_neg (by decide)]
      | true =>
        rw [if_neg (show ¬ bi true = 0 by decide), if_pos rfl, m_cb hM q nq, bd_some]
        cases c2 : fW tx 56 q with
        | false => rw [if_pos (show bi false = 0 from rfl), if_neg (by decide)]
        | true =>
          rw [c1] at hlp
          rw [c2] at hlq
          simp only [if_true] at hlp hlq
          rw [if_neg (show ¬ bi true = 0 by decide), if_pos rfl, w_nat1 np1, w_nat1 nq1, m_sameT hM hlp hlq, bd_some]
          cases decide (tx.getD (p + 1) [] = tx.getD (q + 1) []) with
          | false => rw [if_pos (show bi false = 0 from rfl)]; rfl
          | true => rw [if_neg (show ¬ bi true = 0 by decide)]; rfl
    unfold ja_X13_isSameRow_b2
    rw [wp, wq, m_cb hM p np, bd_some]
    clear wp wq
    cases c1 : fW tx 56 p with
    | true =>
      rw [if_neg (show ¬ bi true = 0 by decide), b47, c1, if_pos rfl]
      simp only [if_true]
      cases c2 : fW tx 56 q with
      | true =>
        rw [c2] at hr
        simp only [if_true] at hr ⊢
        refine congrArg (fun z => some (z, S)) (bi_iff ?_)
        exact ⟨fun h => ⟨trivial, by rw [h]⟩, fun h => tyC_inj h.2 hr⟩
      | false =>
        simp only [Bool.false_eq_true, if_false]
        rw [decide_eq_false (fun h => by cases h.1)]
        rfl
    | false =>
      rw [if_pos (show bi false = 0 from rfl), m_cb hM q nq, bd_some]
      simp only [Bool.false_eq_true, if_false]
      cases c2 : fW tx 56 q with
      | true =>
        rw [if_neg (show ¬ bi true = 0 by decide), b47, c1, if_neg (by decide)]
        simp only [if_true]
        rw [decide_eq_false (fun h => by cases h.1)]
        rfl
      | false =>
        rw [c1] at h1 hlp
        rw [c2] at h2 hv hr hlq
        simp only [Bool.false_eq_true, if_false] at h1 h2 hv hr hlp hlq ⊢
        obtain ⟨g1, g2, -⟩ := sq_ok h1
        obtain ⟨g3, g4⟩ := tk_ok g1
        rw [g4] at g2
        obtain ⟨k1, k2, -⟩ := sq_ok h2
        obtain ⟨k3, k4⟩ := tk_ok k1
        rw [k4] at k2
        rw [if_pos (show bi false = 0 from rfl), m_sameT hM (fT_T g3) (fT_T k3), bd_some]
        have hvq := hv _ List.mem_cons_self
        by_cases e : tx.getD p [] = tx.getD q []
        · rw [decide_eq_true e, if_neg (show ¬ bi true = 0 by decide), lt_eq, w_nat1 (by omega), ih (p + 1) (q + 1) m (k + 1) t u (by omega) (by omega) g2 k2 (fun x hx => hv x (List.mem_cons_of_mem _ hx)) hr hlp hlq (by omega)]
          refine congrArg (fun z => some (z, S)) (bi_iff ?_)
          rw [e, List.cons.injEq]
          exact ⟨fun h => ⟨⟨rfl, h.1⟩, h.2⟩, fun h => ⟨h.1.2, h.2⟩⟩
        · rw [decide_eq_false e, if_pos (show bi false = 0 from rfl), decide_eq_false (fun h => e (tyC_inj (List.cons.inj h.1).1 hvq))]
          rfl
end MRW
