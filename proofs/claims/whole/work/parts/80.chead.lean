/-! Members: the class's heads, their types. -/
section CHE
variable {tx : List (List Int)} {Q c : Nat} {ns : List (List Int)} {us : List Int}
theorem c_tok {S : nk_S} (hC : CF S tx c) {p : Nat} (hp : p < tx.length) : ∃ v : Nat, v < c ∧ cw S tx p = (v : Int) ∧ wd S v = tx.getD p [] := by
  obtain ⟨v, v1, v2, v3, -⟩ := cw_some hC hp
  exact ⟨v, v1, v2, v3⟩
theorem c_ty {S : nk_S} (hC : CF S tx c) (hK : cC S Q c ns us) (hM : cM S c) {p : Nat} (hp : fT tx p = true ∨ fW tx 53 p = true) : ja_X10_typeOf 2 (cw S tx p) S = some (tyC ns (tx.getD p []), S) := by
  have hl : p < tx.length := by
    rcases hp with h | h
    · exact fT_T h
    · exact fW_T h
  obtain ⟨v, v1, v2, v3⟩ := c_tok hC hl
  rw [v2, c_typeW hC hK (fun u hu hs => (hM u hu).2.1 hs) v1 ?_, v3]
  rw [v3]
  rcases hp with h | h
  · exact Or.inl h
  · exact Or.inr (fW_at h)
theorem c_hdL (hQ : Q = 13 ∨ Q = 49) {n j : Nat} {w a : Int} (h48 : n < 48) : ∀ (d p m : Nat) (ps : List Int) (M : Int) (S : nk_S), CF S tx c → cC S Q c ns us → cM S c → S.1 (Q + 9) 0 = (n : Int) → hP S Q n ps → S.1 85 2 = (p : Int) → (fTypes tx d p).1 = true → ps.length ≤ p → tx.length < p + m → (M = -1 ∨ 0 ≤ M) → ∃ S', ja_X6_resolveHead_L73 m 85 a (j : Int) (Q + 9) w M S = ja_X6_resolveHead_b165 85 a (j : Int) (Q + 9) w (if 0 ≤ M then M else mis (pT tx ns d p).1 p) S' ∧ S'.1 85 2 = ((pT tx ns d p).2 : Int) ∧ hP S' Q n (ps ++ (pT tx ns d p).1) ∧ hF Q n S S' ∧ ∀ b, b ≠ 85 → b ≠ Q + 13 → b ≠ Q + 14 → S'.1 b = S.1 b := by
  intro d
  induction d with
  | zero => intro p m ps M S _ _ _ _ _ _ h; cases h
  | succ d ih =>
    intro p m ps M S hC hK hM hn hp h2 hf hps hm hMM
    have hT := hC.2.2.2.2.1
    have h24 := hC.2.2.2.1
    have hft := fTypes_ok hf
    obtain ⟨m, rfl⟩ : ∃ q, m = q + 1 := ⟨m - 1, by omega⟩
    show ∃ S', ja_X6_resolveHead_b73 (ja_X6_resolveHead_L73 m) 85 a (j : Int) (Q + 9) w M S = _ ∧ _
    have hpl : p < tx.length := by omega
    rw [fTypes] at hf
    rw [pT]
    unfold ja_X6_resolveHead_b73
    rw [jc_85_0, h24, h2, if_neg (show ¬ (tx.length : Int) ≤ (p : Int) by omega), c_at0 hC p, bd_some]
    cases h56 : fW tx 56 p with
    | true =>
      rw [(cw_iff hC (w := 56) (by decide) p).mpr h56]
      rw [if_pos (show ((56 : Nat) : Int) = 56 from rfl)]
      simp only [if_true]
      refine ⟨S, ?_, h2, by rw [List.append_nil]; exact hp, hF_rfl, fun _ _ _ _ => rfl⟩
      congr 1
      show M = if 0 ≤ M then M else -1
      by_cases q : 0 ≤ M
      · rw [if_pos q]
      · rw [if_neg q]; omega
    | false =>
      rw [h56] at hf
      simp only [Bool.false_eq_true, if_false] at hf ⊢
      have hne : ¬ cw S tx p = 56 := by
        intro e
        have := (cw_iff hC (w := 56) (by decide) p).mp e
        rw [h56] at this
        cases this
      obtain ⟨g1, g2, g3⟩ := sq_ok hf
      obtain ⟨t1, t2⟩ := tk_ok g1
      rw [t2] at g2
      rw [if_neg hne, h2, c_at0 hC p, bd_some, c_ty hC hK hM (Or.inl t1), bd_some]
      obtain ⟨U, u1, u2, u3, u4, u5⟩ := c_addP hQ hn h48 hp.1 (by omega) (tyC ns (tx.getD p []))
      rw [u1, bd_some]
      have FU : hF Q n S U := hF_P hQ u2 u3 u4 u5
      have u85 : U.1 85 2 = (p : Int) := by rw [u3 85 (by omega) (by omega)]; exact h2
      obtain ⟨V, hV⟩ : ∃ V, V = nk_wi U 85 2 ((p + 1 : Nat) : Int) := ⟨_, rfl⟩
      have FV : hF Q n S V := by rw [hV]; exact hF_trans FU (hF_at hQ)
      have b150 : ∀ M' : Int, ja_X6_resolveHead_b150 (ja_X6_resolveHead_L73 m) 85 a (j : Int) (Q + 9) w M' U = ja_X6_resolveHead_L73 m 85 a (j : Int) (Q + 9) w M' V := by
        intro M'
        unfold ja_X6_resolveHead_b150
        rw [lt_eq, u85, w_nat1 (by omega), ← hV]
      have pV : hP V Q n (ps ++ [tyC ns (tx.getD p [])]) := by
        have := hP_add hp u4 u5
        obtain ⟨y1, y2⟩ := this
        refine ⟨by rw [hV, wi_n (by omega)]; exact y1, fun k t hk ht => by rw [hV, wi_n (by omega)]; exact y2 k t hk ht⟩
      have goal : ∀ M', (M' = -1 ∨ 0 ≤ M') → (if 0 ≤ M' then M' else mis (pT tx ns d (p + 1)).1 (p + 1)) = (if 0 ≤ M then M else mis (tyC ns (tx.getD p []) :: (pT tx ns d (p + 1)).1) p) → ∃ S', ja_X6_resolveHead_b150 (ja_X6_resolveHead_L73 m) 85 a (j : Int) (Q + 9) w M' U = ja_X6_resolveHead_b165 85 a (j : Int) (Q + 9) w (if 0 ≤ M then M else mis (tyC ns (tx.getD p []) :: (pT tx ns d (p + 1)).1) p) S' ∧ S'.1 85 2 = ((pT tx ns d (p + 1)).2 : Int) ∧ hP S' Q n (ps ++ (tyC ns (tx.getD p []) :: (pT tx ns d (p + 1)).1)) ∧ hF Q n S S' ∧ ∀ b, b ≠ 85 → b ≠ Q + 13 → b ≠ Q + 14 → S'.1 b = S.1 b := by
        intro M' hM' e
        obtain ⟨S', i1, i2, i3, i4, i5⟩ := ih (p + 1) m (ps ++ [tyC ns (tx.getD p [])]) M' V (CF_F hQ FV hC) (cC_F hQ FV hK) (cM_F hQ FV hM) (by rw [FV.2.1 (Q + 9) (by omega) (by omega)]; exact hn) pV (by rw [hV]; simp only [wi_v, and_self, if_true]) g2 (by rw [List.length_append, List.length_cons, List.length_nil]; omega) (by omega) hM'
        refine ⟨S', ?_, i2, ?_, hF_trans FV i4, fun b x y z => ?_⟩
        · rw [b150, i1, e]
        · rw [List.append_assoc] at i3; exact i3
        · rw [i5 b x y z, hV, wi_n x, u3 b y z]
      by_cases q : tyC ns (tx.getD p []) = -2
      · rw [if_pos q]
        by_cases q2 : 0 ≤ M
        · rw [if_pos q2]
          exact goal M hMM (by rw [if_pos q2, if_pos q2])
        · rw [if_neg q2, u85]
          refine goal (p : Int) (Or.inr (by omega)) ?_
          rw [if_pos (show (0 : Int) ≤ (p : Int) by omega), if_neg q2, mis, if_pos q]
      · rw [if_neg q]
        show ∃ S', ja_X6_resolveHead_b150 (ja_X6_resolveHead_L73 m) 85 a (j : Int) (Q + 9) w M U = _ ∧ _
        refine goal M hMM ?_
        rw [mis, if_neg q]
/-- a head ends -/
theorem c_finish (hQ : Q = 13 ∨ Q = 49) {S : nk_S} {n : Nat} (hn : S.1 (Q + 9) 0 = (n : Int)) (h48 : n < 48) (x y z : Int) : ∃ S', ja_X0_finish (Q + 9) x y z S = some (0, S') ∧ hF Q n S S' ∧ (∀ b, ¬ (Q + 15 ≤ b ∧ b ≤ Q + 17) → S'.1 b = S.1 b) ∧ S'.1 (Q + 15) n = x ∧ S'.1 (Q + 16) n = y ∧ S'.1 (Q + 17) n = z := by
  have hin : (0 : Int) ≤ (n : Int) ∧ (n : Int) < 48 := in_i (N := 48) (by omega)
  obtain ⟨-, -, -, -, -, j7, j8, j9⟩ := jc_Q9 hQ
  refine ⟨nk_wi (nk_wi (nk_wi S (Q + 15) n x) (Q + 16) n y) (Q + 17) n z, ?_, ⟨rfl, fun b _ h => by rw [wi_n (by omega), wi_n (by omega), wi_n (by omega)], fun i _ => by rw [wi_n (by omega), wi_n (by omega), wi_n (by omega)], fun b i _ _ _ h => by simp only [wi_v, h, and_false, if_false], fun i _ => by rw [wi_n (by omega), wi_n (by omega), wi_n (by omega)]⟩, fun b h => by rw [wi_n (by omega), wi_n (by omega), wi_n (by omega)], ?_, ?_, ?_⟩
  · unfold ja_X0_finish
    rw [hn, if_pos hin, lt_eq, j7, Int.toNat_natCast]
    rw [show (nk_wi S (Q + 15) n x).1 (Q + 9) 0 = (n : Int) by rw [wi_n (by omega)]; exact hn, if_pos hin, lt_eq, j8, Int.toNat_natCast]
    rw [show (nk_wi (nk_wi S (Q + 15) n x) (Q + 16) n y).1 (Q + 9) 0 = (n : Int) by rw [wi_n (by omega), wi_n (by omega)]; exact hn, if_pos hin, lt_eq, j9, Int.toNat_natCast]
  · rw [wi_n (by omega), wi_n (by omega)]; simp only [wi_v, and_self, if_true]
  · rw [wi_n (by omega)]; simp only [wi_v, and_self, if_true]
  · simp only [wi_v, and_self, if_true]
/-- may it replace the one above it -/
theorem c_par (hQ : Q = 13 ∨ Q = 49) {S : nk_S} {n k : Nat} (hn : n < 48) (hk : k < 12) : ja_X0_parameter (Q + 9) (n : Int) (k : Int) S = some (S.1 (Q + 14) (n * 12 + k), S) := by
  unfold ja_X0_parameter
  rw [if_neg (show ¬ (k : Int) < 0 by omega), if_neg (show ¬ (12 : Int) ≤ (k : Int) by omega), w_12 hn hk]
  have hin2 : (0 : Int) ≤ ((n * 12 + k : Nat) : Int) ∧ ((n * 12 + k : Nat) : Int) < 576 := in_i (N := 576) (by omega)
  rw [if_pos hin2, (jc_Q9 hQ).2.2.2.2.1, Int.toNat_natCast]
theorem c_mayL (hQ : Q = 13 ∨ Q = 49) {S : nk_S} {n o : Nat} {x y : jB} (hn : S.1 (Q + 9) 0 = (n : Int)) (h48 : n < 48) (ho : o < 48) (hx : cB1 S Q c o x) (hy : cB1 S Q c n y) (hl : x.ps.length = y.ps.length) (h12 : x.ps.length ≤ 12) : ∀ (e k m : Nat), k + e = x.ps.length → e < m → ja_X0_mayReplace_L81 m (Q + 9) (o : Int) (k : Int) S = some (bi (decide (x.ps.drop k = y.ps.drop k)), S) := by
  obtain ⟨-, -, -, x4, x5, -⟩ := hx
  obtain ⟨-, -, -, y4, y5, -⟩ := hy
  have hin : (0 : Int) ≤ (o : Int) ∧ (o : Int) < 48 := in_i (N := 48) (by omega)
  intro e
  induction e with
  | zero =>
    intro k m h1 h2
    obtain ⟨m, rfl⟩ : ∃ q, m = q + 1 := ⟨m - 1, by omega⟩
    show ja_X0_mayReplace_b81 (ja_X0_mayReplace_L81 m) (Q + 9) (o : Int) (k : Int) S = _
    unfold ja_X0_mayReplace_b81
    rw [if_pos hin, (jc_Q9 hQ).2.2.2.1, Int.toNat_natCast, x4, if_pos (by omega), List.drop_eq_nil_of_le (by omega), List.drop_eq_nil_of_le (by omega)]
    rfl
  | succ e ih =>
    intro k m h1 h2
    obtain ⟨m, rfl⟩ : ∃ q, m = q + 1 := ⟨m - 1, by omega⟩
    show ja_X0_mayReplace_b81 (ja_X0_mayReplace_L81 m) (Q + 9) (o : Int) (k : Int) S = _
    obtain ⟨t, t1, t2⟩ := drop_at (show k < x.ps.length by omega)
    obtain ⟨u, u1, u2⟩ := drop_at (show k < y.ps.length by omega)
    unfold ja_X0_mayReplace_b81
    rw [if_pos hin, (jc_Q9 hQ).2.2.2.1, Int.toNat_natCast, x4, if_neg (by omega), c_par hQ ho (by omega), bd_some, hn, c_par hQ h48 (by omega), bd_some, x5 k t (by omega) t1, y5 k u (by omega) u1, t2, u2]
    by_cases q : t = u
    · rw [if_pos q, lt_eq, w_nat1 (by omega), ih (k + 1) m (by omega) (by omega)]
      refine congrArg (fun z => some (z, S)) (bi_iff ?_)
      rw [q, List.cons.injEq]
      exact ⟨fun h => ⟨rfl, h⟩, fun h => h.2⟩
    · rw [if_neg q, decide_eq_false (fun h => q (List.cons.inj h).1)]
      rfl
theorem c_may (hQ : Q = 13 ∨ Q = 49) {S : nk_S} {n o : Nat} {x y : jB} (hn : S.1 (Q + 9) 0 = (n : Int)) (h48 : n < 48) (ho : o < 48) (hx : cB1 S Q c o x) (hy : cB1 S Q c n y) (h12 : x.ps.length ≤ 12) (hx0 : x.me = true → 1 ≤ x.ps.length) : ja_X0_mayReplace (Q + 9) (o : Int) S = some (bi (mayB x y), S) := by
  have kx := hx
  have ky := hy
  obtain ⟨x1, -, x3, x4, x5, x6, -⟩ := hx
  obtain ⟨y1, -, y3, y4, y5, y6, -⟩ := hy
  have hin : (0 : Int) ≤ (o : Int) ∧ (o : Int) < 48 := in_i (N := 48) (by omega)
  have hin2 : (0 : Int) ≤ (n : Int) ∧ (n : Int) < 48 := in_i (N := 48) (by omega)
  obtain ⟨m, hm⟩ := big_ge 100 (by decide)
  obtain ⟨j2, -, j4, j5, -, j7, -⟩ := jc_Q9 hQ
  unfold ja_X0_mayReplace mayB
  rw [if_pos hin, hn, if_pos hin2, j2, j4, j5, j7, Int.toNat_natCast, Int.toNat_natCast, x1, y1, x3, y3, x4, y4, x6, y6]
  by_cases q1 : x.ow = y.ow
  · rw [if_pos (show (x.ow : Int) = (y.ow : Int) by omega), decide_eq_false (fun h => h.1 q1)]; rfl
  · rw [if_neg (show ¬ (x.ow : Int) = (y.ow : Int) by omega)]
    cases hxm : x.me with
    | false => rw [if_pos (show bi false = 0 from rfl), decide_eq_false (fun h => by cases h.2.1)]; rfl
    | true =>
      rw [if_neg (show ¬ bi true = 0 by decide)]
      cases hym : y.me with
      | false => rw [if_pos (show bi false = 0 from rfl), decide_eq_false (fun h => by cases h.2.2.1)]; rfl
      | true =>
        rw [if_neg (show ¬ bi true = 0 by decide)]
        by_cases q2 : x.ps.length = y.ps.length
        · rw [if_pos (show (x.ps.length : Int) = (y.ps.length : Int) by omega)]
          by_cases q3 : x.rs = y.rs
          · rw [if_pos q3]
            have h1 := hx0 hxm
            have := c_mayL hQ hn h48 ho kx ky q2 h12 (x.ps.length - 1) 1 nk_big (by omega) (by omega)
            rw [show (1 : Int) = ((1 : Nat) : Int) from rfl, this]
            refine congrArg (fun z => some (z, S)) (bi_iff ?_)
            exact ⟨fun h => ⟨q1, rfl, rfl, q2, q3, h⟩, fun h => h.2.2.2.2.2⟩
          · rw [if_neg q3, decide_eq_false (fun h => q3 h.2.2.2.2.1)]; rfl
        · rw [if_neg (show ¬ (x.ps.length : Int) = (y.ps.length : Int) by omega), decide_eq_false (fun h => q2 h.2.2.2.1)]; rfl
end CHE
