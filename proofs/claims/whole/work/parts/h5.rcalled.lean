/-! The run: the reference calls bodies. -/
section RCD
variable {p : jP} {m m' m1 : jM} {P Q : Nat} {tx : List (List Int)} {x : jC} {t : Nat → Int} {inp : Nat → Int} {S S' S1 : nk_S} {A : jA} {σ : jG} {i : Nat} {v : jV}
theorem r_enL {b : Nat} (hP : P = 122 ∨ P = 168) (hb : b < 48) {D : Nat} (hD : D < 64) {e0 : Int} : ∀ (c k g : Nat) (S : nk_S), c + k = 12 → c < g → S.2 121 0 = P → S.1 121 52 = (D : Int) → S.1 (P + 12) b = e0 → ∃ T, ja_X13_enter_L2 g 121 (b : Int) (k : Int) S = some (0, T) ∧ T.2 = S.2 ∧ (∀ a, a ≠ 121 → a ≠ 239 → a ≠ 241 → a ≠ 242 → T.1 a = S.1 a) ∧ (∀ f, T.1 121 f = if f = 52 then (D : Int) + 1 else S.1 121 f) ∧ (∀ j, T.1 239 j = if D * 12 + k ≤ j ∧ j < D * 12 + 12 then 1125899906842624 else S.1 239 j) ∧ (∀ f, T.1 241 f = if f = D then 0 else S.1 241 f) ∧ ∀ f, T.1 242 f = if f = D then e0 else S.1 242 f := by
  intro c
  induction c with
  | zero =>
    intro k g S hk hg h0 hS he
    obtain ⟨g, rfl⟩ : ∃ q, g = q + 1 := ⟨g - 1, by omega⟩
    have ek : k = 12 := by omega
    obtain ⟨T, hT⟩ : ∃ T, T = nk_wi (nk_wi (nk_wi S 241 D 0) 242 D e0) 121 52 ((D : Int) + 1) := ⟨_, rfl⟩
    have ed : (nk_wi S 241 D 0).1 121 52 = (D : Int) := by rw [wi_n (by decide)]; exact hS
    have ed2 : (nk_wi (nk_wi S 241 D 0) 242 D e0).1 121 52 = (D : Int) := by rw [wi_n (by decide)]; exact ed
    have ee : (nk_wi S 241 D 0).1 (P + 12) b = e0 := by rw [wi_n (by omega)]; exact he
    have ew : ∀ _ : Unit, nk_w ((D : Int) + 1) = (D : Int) + 1 := fun _ => nk_w_id (by omega) (by omega)
    refine ⟨T, ?_, by rw [hT]; rfl, fun a a1 a2 a3 a4 => by rw [hT, wi_n a1, wi_n a4, wi_n a3], fun f => ?_, fun j => ?_, fun f => ?_, fun f => ?_⟩
    · show ja_X13_enter_b2 (ja_X13_enter_L2 g) 121 (b : Int) (k : Int) S = _
      unfold ja_X13_enter_b2
      rw [if_pos (by omega), hS, if_pos (in_i (N := 64) (by omega)), jc_rm.2.2.1, Int.toNat_natCast, lt_eq, if_pos (in_i (N := 48) (by omega)), ed, if_pos (in_i (N := 64) (by omega)), jc_rm.2.2.2.1, Int.toNat_natCast, show (nk_wi S 241 D 0).2 121 0 = P from h0, (jc_Pm hP).2.2.2.2.2.2.2, Int.toNat_natCast, ee, lt_eq, ed2, ew (), lt_eq, ← hT]
    · rw [hT, wi_at]
      by_cases c : f = 52
      · rw [if_pos c, if_pos c]
      · rw [if_neg c, if_neg c, wi_n (by decide), wi_n (by decide)]
    · rw [hT, wi_n (by decide), wi_n (by decide), wi_n (by decide), if_neg (by omega)]
    · rw [hT, wi_n (by decide), wi_n (by decide), wi_at]
    · rw [hT, wi_n (by decide), wi_at]
      by_cases c : f = D
      · rw [if_pos c, if_pos c]
      · rw [if_neg c, if_neg c, wi_n (by decide)]
  | succ c ih =>
    intro k g S hk hg h0 hS he
    obtain ⟨g, rfl⟩ : ∃ q, g = q + 1 := ⟨g - 1, by omega⟩
    obtain ⟨T, t1, t2, t3, t4, t5, t6, t7⟩ := ih (k + 1) g (nk_wi S 239 (D * 12 + k) 1125899906842624) (by omega) (by omega) h0 (by rw [wi_n (by decide)]; exact hS) (by rw [wi_n (by omega)]; exact he)
    have e6 : ∀ _ : Unit, nk_w (nk_w ((D : Int) * 12) + (k : Int)) = ((D * 12 + k : Nat) : Int) := fun _ => by
      rw [nk_w_id (z := (D : Int) * 12) (by omega) (by omega), nk_w_id (by omega) (by omega)]; omega
    refine ⟨T, ?_, t2, fun a a1 a2 a3 a4 => by rw [t3 a a1 a2 a3 a4, wi_n a2], fun f => by rw [t4, wi_n (by decide)], fun j => ?_, fun f => by rw [t6, wi_n (by decide)], fun f => by rw [t7, wi_n (by decide)]⟩
    · show ja_X13_enter_b2 (ja_X13_enter_L2 g) 121 (b : Int) (k : Int) S = _
      unfold ja_X13_enter_b2
      rw [if_neg (by omega), hS, e6 (), if_pos (in_i (N := 768) (by omega)), jc_rm.1, Int.toNat_natCast, lt_eq, w_nat1 (by omega), lt_eq]
      exact t1
    · rw [t5, wi_at]
      by_cases c1 : j = D * 12 + k
      · rw [if_neg (by omega), if_pos c1, if_pos (by omega)]
      · rw [if_neg c1]
        by_cases c2 : D * 12 + (k + 1) ≤ j ∧ j < D * 12 + 12
        · rw [if_pos c2, if_pos (by omega)]
        · rw [if_neg c2, if_neg (by omega)]
/-- a body is entered -/
theorem r_enter {b : Nat} (hP : P = 122 ∨ P = 168) (hb : b < 48) {D : Nat} (hD : D < 64) {e0 : Int} (h0 : S.2 121 0 = P) (hS : S.1 121 52 = (D : Int)) (he : S.1 (P + 12) b = e0) : ∃ T, ja_X13_enter 121 (b : Int) S = some (0, T) ∧ T.2 = S.2 ∧ (∀ a, a ≠ 121 → a ≠ 239 → a ≠ 241 → a ≠ 242 → T.1 a = S.1 a) ∧ (∀ f, T.1 121 f = if f = 52 then (D : Int) + 1 else S.1 121 f) ∧ (∀ j, T.1 239 j = if D * 12 ≤ j ∧ j < D * 12 + 12 then 1125899906842624 else S.1 239 j) ∧ (∀ f, T.1 241 f = if f = D then 0 else S.1 241 f) ∧ ∀ f, T.1 242 f = if f = D then e0 else S.1 242 f := by
  obtain ⟨bm, hbm⟩ := big_ge 20 (by decide)
  obtain ⟨T, t⟩ := r_enL hP hb hD (e0 := e0) 12 0 nk_big S (by omega) (by omega) h0 hS he
  exact ⟨T, t⟩
/-- the arguments are copied -/
theorem r_copL {D B n : Nat} (hD : D < 64) (hB : B + n ≤ 512) (hn : n ≤ 12) : ∀ (c k g : Nat) (S : nk_S), c + k = n → c < g → S.1 121 52 = (D : Int) + 1 → ∃ T, ja_X13_callStep_L141 g 121 (n : Int) (B : Int) (k : Int) S = some (0, T) ∧ T.2 = S.2 ∧ (∀ a, a ≠ 239 → T.1 a = S.1 a) ∧ ∀ j, T.1 239 j = if D * 12 + k ≤ j ∧ j < D * 12 + n then S.1 240 (B + (j - D * 12)) else S.1 239 j := by
  intro c
  induction c with
  | zero =>
    intro k g S hk hg hS
    obtain ⟨g, rfl⟩ : ∃ q, g = q + 1 := ⟨g - 1, by omega⟩
    refine ⟨S, ?_, rfl, fun _ _ => rfl, fun j => by rw [if_neg (by omega)]⟩
    show ja_X13_callStep_b141 (ja_X13_callStep_L141 g) 121 (n : Int) (B : Int) (k : Int) S = _
    unfold ja_X13_callStep_b141
    rw [if_pos (by omega)]
  | succ c ih =>
    intro k g S hk hg hS
    obtain ⟨g, rfl⟩ : ∃ q, g = q + 1 := ⟨g - 1, by omega⟩
    obtain ⟨T, t1, t2, t3, t4⟩ := ih (k + 1) g (nk_wi S 239 (D * 12 + k) (S.1 240 (B + k))) (by omega) (by omega) (by rw [wi_n (by decide)]; exact hS)
    have e5 : ∀ _ : Unit, nk_w ((B : Int) + (k : Int)) = ((B + k : Nat) : Int) := fun _ => by
      rw [nk_w_id (by omega) (by omega)]; omega
    have e6 : ∀ _ : Unit, nk_w (nk_w (nk_w ((D : Int) + 1 - 1) * 12) + (k : Int)) = ((D * 12 + k : Nat) : Int) := fun _ => by
      rw [nk_w_id (z := (D : Int) + 1 - 1) (by omega) (by omega), nk_w_id (z := ((D : Int) + 1 - 1) * 12) (by omega) (by omega), nk_w_id (by omega) (by omega)]; omega
    refine ⟨T, ?_, t2, fun a ha => by rw [t3 a ha, wi_n ha], fun j => ?_⟩
    · show ja_X13_callStep_b141 (ja_X13_callStep_L141 g) 121 (n : Int) (B : Int) (k : Int) S = _
      unfold ja_X13_callStep_b141
      rw [if_neg (by omega), e5 (), if_pos (in_i (N := 512) (by omega)), hS, e6 (), if_pos (in_i (N := 768) (by omega)), jc_rm.1, jc_rm.2.1, Int.toNat_natCast, Int.toNat_natCast, lt_eq, w_nat1 (by omega), lt_eq]
      exact t1
    · rw [t4, wi_at, wi_n (by decide)]
      by_cases c1 : j = D * 12 + k
      · rw [if_neg (by omega), if_pos c1, if_pos (by omega), show j - D * 12 = k by omega]
      · rw [if_neg c1]
        by_cases c2 : D * 12 + (k + 1) ≤ j ∧ j < D * 12 + n
        · rw [if_pos c2, if_pos (by omega)]
        · rw [if_neg c2, if_neg (by omega)]
/-- a body is called with what stands on the stack -/
theorem r_c100 (h : rXx S P p A σ) (hEl : rEl S P p.2.2.2.2.2) (hM : rMm p S m) {b n : Nat} (hb : b < 48) {e : Nat × Nat × Nat × Nat} (he : p.2.2.2.2.2[b]? = some e) (hn : n ≤ m.hs m.d) {i : Int} : (63 ≤ m.d → ja_X13_callStep_b100 121 i (n : Int) ((m.d * 8 + m.hs m.d - n : Nat) : Int) (b : Int) S = some (0, nk_wi (nk_wi S 121 61 4) 121 59 i)) ∧ (¬ 63 ≤ m.d → ∃ T, ja_X13_callStep_b100 121 i (n : Int) ((m.d * 8 + m.hs m.d - n : Nat) : Int) (b : Int) S = some (0, T) ∧ rxF S T ∧ rMm p T (mEn p m b n)) := by
  obtain ⟨⟨⟨⟨d1, d2⟩, h2, h3, h4⟩, hH, hI⟩, q1, q2, q3⟩ := id hM
  obtain ⟨bm, hbm⟩ := big_ge 20 (by decide)
  refine ⟨fun hd => ?_, fun hd => ?_⟩
  · unfold ja_X13_callStep_b100 ja_X13_ended
    rw [if_pos (by omega), lt_eq, lt_eq, bd_some]
  · have ed : ∀ _ : Unit, nk_w (S.1 121 52 - 1) = (m.d : Int) := r_dw hM.1.1
    have eh : ∀ _ : Unit, nk_w ((m.hs m.d : Int) - (n : Int)) = ((m.hs m.d - n : Nat) : Int) := fun _ => by rw [nk_w_id (by omega) (by omega)]; omega
    obtain ⟨U, hU⟩ : ∃ U, U = nk_wi S 241 m.d ((m.hs m.d - n : Nat) : Int) := ⟨_, rfl⟩
    have un : ∀ a, a ≠ 241 → U.1 a = S.1 a := fun a ha => by rw [hU, wi_n ha]
    have u52 : U.1 121 52 = ((m.d + 1 : Nat) : Int) := by rw [un 121 (by decide), d1]; omega
    have hel : U.1 (P + 12) b = (e.1 : Int) := by rw [un _ (by have := h.1; omega)]; exact (hEl b e he).1
    obtain ⟨V, v1, v2, v3, v4, v5, v6, v7⟩ := r_enter (S := U) h.1 hb (show m.d + 1 < 64 by omega) (by rw [hU]; exact h.2.1) u52 hel
    obtain ⟨T, t1, t2, t3, t4⟩ := r_copL (D := m.d + 1) (B := m.d * 8 + m.hs m.d - n) (n := n) (by omega) (by omega) (by omega) n 0 nk_big V (Nat.add_zero _) (by omega) (by rw [v4, if_pos rfl])
    have hE0 : mE0 p b = e.1 := by unfold mE0; rw [he]
    have tn : ∀ a, a ≠ 121 → a ≠ 239 → a ≠ 241 → a ≠ 242 → T.1 a = S.1 a := fun a a1 a2 a3 a4 => by rw [t3 a a2, v3 a a1 a2 a3 a4, un a a3]
    have tf : ∀ f, T.1 121 f = if f = 52 then ((m.d + 1 : Nat) : Int) + 1 else S.1 121 f := fun f => by rw [t3 121 (by decide), v4, un 121 (by decide)]
    refine ⟨T, ?_, ⟨by rw [t2, v2, hU]; rfl, fun a ha => tn a (by omega) (by omega) (by omega) (by omega), fun f hf => by rw [tf, if_neg (by omega)]⟩, ⟨⟨?_, ?_, ?_⟩, ?_⟩⟩
    · unfold ja_X13_callStep_b100
      rw [if_neg (by omega), ed (), if_pos (in_i (N := 64) (by omega)), jc_rm.2.2.1, Int.toNat_natCast, q1, eh (), lt_eq, ← hU, v1, bd_some]
      exact t1
    · refine ⟨⟨by rw [tf, if_pos rfl]; rfl, show m.d + 1 < 64 by omega⟩, fun f hf => ?_, fun f k hf hk => ?_, fun f hf => ?_⟩
      · have hf : f ≤ m.d + 1 := hf
        show T.1 242 f = ((gU m.pc (m.d + 1) (mE0 p b) f : Nat) : Int)
        rw [t3 242 (by decide), v7]
        by_cases c : f = m.d + 1
        · rw [if_pos c, c, gU_at, hE0]
        · rw [if_neg c, gU_ne c, un 242 (by decide)]; exact h2 f (by omega)
      · have hf : f ≤ m.d + 1 := hf
        show T.1 239 (f * 12 + k) = rV (gU m.vs (m.d + 1) (fun k => if k < n then m.vs m.d (12 + m.hs m.d - n + k) else (0, 0)) f k)
        rw [t4, v5]
        by_cases c : f = m.d + 1
        · rw [c, gU_at]
          by_cases ck : k < n
          · rw [if_pos (by omega), if_pos ck, v3 240 (by decide) (by decide) (by decide) (by decide), un 240 (by decide), show m.d * 8 + m.hs m.d - n + ((m.d + 1) * 12 + k - (m.d + 1) * 12) = m.d * 8 + (m.hs m.d - n + k) by omega, q3 _ (by omega), show 12 + (m.hs m.d - n + k) = 12 + m.hs m.d - n + k by omega]
          · rw [if_neg (by omega), if_pos (by omega), if_neg ck]; rfl
        · rw [gU_ne c, if_neg (by omega), if_neg (by omega), un 239 (by decide)]
          exact h3 f k (by omega) hk
      · have hf : f < m.d + 1 := hf
        show T.1 241 f = ((gU (gU m.hs m.d (m.hs m.d - n)) (m.d + 1) 0 f : Nat) : Int) ∧ gU (gU m.hs m.d (m.hs m.d - n)) (m.d + 1) 0 f ≤ 8 ∧ ∀ k, k < gU (gU m.hs m.d (m.hs m.d - n)) (m.d + 1) 0 f → T.1 240 (f * 8 + k) = rV (gU m.vs (m.d + 1) (fun k => if k < n then m.vs m.d (12 + m.hs m.d - n + k) else (0, 0)) f (12 + k))
        rw [gU_ne (by omega), gU_ne (show f ≠ m.d + 1 by omega), t3 241 (by decide), v6, if_neg (by omega), hU, wi_at, tn 240 (by decide) (by decide) (by decide) (by decide)]
        by_cases c : f = m.d
        · rw [c, gU_at, if_pos rfl]
          exact ⟨rfl, by omega, fun k hk => q3 k (by omega)⟩
        · rw [gU_ne c, if_neg c]
          exact h4 f (by omega)
    · exact rHp_c (S := S) (fun g hg => by rw [tf, if_neg (by omega)]) (fun a ha => tn a (by omega) (by omega) (by omega) (by omega)) hH
    · exact rIo_c (S := S) (fun g hg => by rw [tf, if_neg (by omega)]) (tn 249 (by decide) (by decide) (by decide) (by decide)) hI
    · show T.1 241 (m.d + 1) = ((gU (gU m.hs m.d (m.hs m.d - n)) (m.d + 1) 0 (m.d + 1) : Nat) : Int) ∧ gU (gU m.hs m.d (m.hs m.d - n)) (m.d + 1) 0 (m.d + 1) ≤ 8 ∧ ∀ k, k < gU (gU m.hs m.d (m.hs m.d - n)) (m.d + 1) 0 (m.d + 1) → _
      rw [gU_at, t3 241 (by decide), v6, if_pos rfl]
      exact ⟨rfl, by omega, fun k hk => by omega⟩
/-- the reference calls -/
theorem r_call (hwf : pWf tx p) (hk : pKX p Q) (h : rXx S P p A σ) (hm : mOk p m) (ht : mTop p m x t) (hM : rMm p S m) (ho : x.1 = 39 ∨ x.1 = 40) : rsO p A σ inp m (m.pc m.d) x S := by
  obtain ⟨b1, b3, b4, b5, b8⟩ := r_at hk hm ht
  obtain ⟨c1, c2, c3, c4, c5, c6, c7, c8⟩ := p_ctx hwf hk
  have hst := r_ost hwf hk h ht.1 b4 (by omega)
  have erA : rA x = x.2.1 := by unfold rA; rw [if_neg (by omega), if_neg (by omega)]
  obtain ⟨⟨xb0, e0, hp⟩, hkd, hV⟩ := m_at hk ht
  obtain ⟨-, -, -, -, -, -, ⟨l1, l2, -⟩, -, -, -⟩ := id hp
  obtain ⟨f, c, y, a1, a2, a3, a4, a5, a6, a7, a8, a9, a10, a11, a12, a13, a14⟩ := cll_at hwf hk ht ho
  rw [erA, a1] at hst
  have hx := rx_at hwf hk h
  have jP := jc_Pm h.1
  have h8 : S.1 (P + 8) f = (y.ps.length : Int) := (hx.2.2.2.2.1 f y a2).2.2.1
  have ed : ∀ _ : Unit, nk_w (S.1 121 52 - 1) = (m.d : Int) := r_dw hM.1.1
  have h41 : S.1 241 m.d = (m.hs m.d : Int) := hM.2.1
  have eB : ∀ _ : Unit, nk_w (nk_w (nk_w ((m.d : Int) * 8) + (m.hs m.d : Int)) - (y.ps.length : Int)) = ((m.d * 8 + m.hs m.d - y.ps.length : Nat) : Int) := fun _ => by
    rw [nk_w_id (z := (m.d : Int) * 8) (by omega) (by omega), nk_w_id (z := (m.d : Int) * 8 + (m.hs m.d : Int)) (by omega) (by omega), nk_w_id (by omega) (by omega)]; omega
  have hos : ja_X13_objectStep 121 (x.1 : Int) (f : Int) (m.pc m.d : Int) S = nk_bd (ja_X13_callStep 121 (x.1 : Int) (f : Int) (m.pc m.d : Int) S) fun r1 S2 => some (0, S2) := by
    unfold ja_X13_objectStep ja_X13_objectStep_b317
    rw [if_neg (by omega), if_neg (by omega), if_neg (by omega), if_neg (by omega), if_neg (by omega), if_neg (by omega), if_neg (by omega), if_neg (by omega), if_neg (by omega)]
    rcases ho with q | q
    · rw [if_pos (by omega)]
    · rw [if_neg (by omega), if_pos (by omega)]
  rw [hos] at hst
  unfold ja_X13_callStep at hst
  rw [if_pos (in_i (N := 48) (by omega)), h.2.1, jP.2.2.2.2.2.1, Int.toNat_natCast, h8, lt_eq, ed (), if_pos (in_i (N := 64) (by omega)), jc_rm.2.2.1, Int.toNat_natCast, h41, eB (), lt_eq] at hst
  have enter : ∀ (b : Nat) (y' : jB), p.2.2.2.1[b]? = some y' → ja_X13_step 121 (m.pc m.d : Int) S = (nk_bd (nk_bd (ja_X13_callStep_b100 121 (m.pc m.d : Int) (y.ps.length : Int) ((m.d * 8 + m.hs m.d - y.ps.length : Nat) : Int) (b : Int) S) fun r1 S2 => some (0, S2)) fun r1 S2 => some (0, S2)) → mEf p inp m (m.pc m.d) x = (if 63 ≤ m.d then jE.st 4 else jE.go (mEn p m b (tkX p.2.2.2.1 x))) → rsO p A σ inp m (m.pc m.d) x S := by
    intro b y' hy' hp1 hef
    obtain ⟨e, x', t', z1, -⟩ := ty_ent hk hy'
    obtain ⟨g1, g2⟩ := r_c100 (i := (m.pc m.d : Int)) h hx.2.2.2.2.2.1 hM (bl_48 l2 hy') z1 (n := y.ps.length) a11
    by_cases cd : 63 ≤ m.d
    · rw [if_pos cd] at hef
      rw [g1 cd, bd_some, bd_some] at hp1
      exact rp_st hef rxF_rfl hM.1.2.2 hp1
    · rw [if_neg cd, a8] at hef
      obtain ⟨T, d1, d2, d3⟩ := g2 cd
      rw [d1, bd_some, bd_some] at hp1
      exact rp_go hef ⟨T, hp1, d2, d3⟩
  rcases ho with q | q
  · rw [if_neg (by omega)] at hst
    refine enter f y a2 hst ?_
    have ef := ef_39 (p := p) (inp := inp) (m := m) (i := m.pc m.d) (x := x) q
    rw [a1, Int.toNat_natCast] at ef
    exact ef
  · have h1 := a13 q
    have hv := top_ty ht (k := y.ps.length - 1) (by omega)
    have w0 := hv.1
    have a140 := (a14 0 (by omega)).1
    rw [if_pos ⟨rfl, q⟩, Nat.add_zero, show 12 + m.hs m.d - y.ps.length = 12 + m.hs m.d - 1 - (y.ps.length - 1) by omega] at a140
    have ht2 : 2 ≤ t (12 + m.hs m.d - 1 - (y.ps.length - 1)) := by
      rcases (tLe_iff _ _).mp a140 with s | s | s <;> omega
    have k2 := (vTy_k hv ht2).1
    have h40 : S.1 240 (m.d * 8 + m.hs m.d - y.ps.length) = rV (m.top (y.ps.length - 1)) := by
      have := hM.2.2.2 (m.hs m.d - y.ps.length) (by omega)
      rw [show m.d * 8 + m.hs m.d - y.ps.length = m.d * 8 + (m.hs m.d - y.ps.length) by omega, this]
      unfold jM.top
      rw [show 12 + (m.hs m.d - y.ps.length) = 11 + m.hs m.d - (y.ps.length - 1) by omega]
    rw [if_pos (show (x.1 : Int) = 40 by omega), if_pos (in_i (N := 512) (by omega)), jc_rm.2.1, Int.toNat_natCast, h40] at hst
    have ef := ef_40 (p := p) (inp := inp) (m := m) (i := m.pc m.d) (x := x) q
    rw [a8] at ef
    by_cases c0 : (m.top (y.ps.length - 1)).2 = 0
    · rw [if_pos c0] at ef
      rw [if_pos ((rV_n k2).mpr c0), bd_rz, bd_rz, bd_rz] at hst
      exact rp_rz hwf hk hm h ht.1 b4 ef rxF_rfl hM.1 hst
    · rw [if_neg c0] at ef
      obtain ⟨o, f', b, y1, y', e1, e2, e3, e4, e5, e6, e7, e8, e9, e10, e11, e12, e13, e14, e15, e16, e17, e18, e19, e20⟩ := snd_obj hwf hk hm ht q (by rw [a8]; exact c0)
      have ef' : f' = f := by omega
      subst ef'
      rw [a2] at e3
      cases e3
      rw [a8] at e8 e9
      have hob : ja_X13_objectOf (rV (m.top (y.ps.length - 1))) S = some ((o : Int), S) := by
        have ev : m.top (y.ps.length - 1) = (2, ((o + 1 : Nat) : Int)) := Prod.ext k2 e8
        rw [ev]; exact r_ob (by omega) S
      have h43 : S.1 243 o = rvU (sTp p.2.2.2.2.1 (m.si o)) := (hM.1.2.1.2.2.1 o e7).1
      obtain ⟨C, hC⟩ : ∃ C, C = cl (sTp p.2.2.2.2.1 (m.si o)) := ⟨_, rfl⟩
      have hev : sTp p.2.2.2.2.1 (m.si o) % 2 = 0 := by
        have := e11
        unfold tAr at this
        simp only [Bool.or_eq_false_iff, Bool.and_eq_false_iff, decide_eq_false_iff_not] at this
        omega
      have e9' : rvU (sTp p.2.2.2.2.1 (m.si o)) = 8 + (C : Int) := by
        rw [hC]
        unfold rvU cl
        rw [if_neg (by omega), if_neg (by omega), if_neg (by omega), if_neg (by omega), if_pos hev]; omega
      rw [← hC] at e13 e14
      have h14 : S.1 (P + 14) (C * 48 + f') = (b : Int) := by
        rw [hx.2.2.2.2.2.2.1.2.2 C f' y (by have := hwf.1.2.1; omega) a2, ← e14]
        unfold rnS at e14 ⊢
        by_cases ca : anc p.2.1 C y.ow = true
        · rw [if_pos ca]
        · rw [if_neg ca] at e14; omega
      have ew : ∀ _ : Unit, nk_w (nk_w (nk_w (8 + (C : Int) - 8) * 48) + (f' : Int)) = ((C * 48 + f' : Nat) : Int) := fun _ => by
        rw [nk_w_id (z := 8 + (C : Int) - 8) (by omega) (by omega), nk_w_id (z := (8 + (C : Int) - 8) * 48) (by omega) (by omega), nk_w_id (by omega) (by omega)]; omega
      rw [if_neg (fun z => c0 ((rV_n k2).mp z)), hob, bd_some, if_pos (in_i (N := 2000) (by omega)), jc_rm.2.2.2.2.1, Int.toNat_natCast, h43, e9', ew (), if_pos (in_i (N := 1536) (by omega)), jP.2.2.2.2.2.2.1, Int.toNat_natCast, h14, lt_eq] at hst
      refine enter b y' e15 hst ?_
      have eT : mTp p m (m.top (y.ps.length - 1)).2 = sTp p.2.2.2.2.1 (m.si o) := by unfold mTp; rw [e9]
      rw [a1, Int.toNat_natCast, a2, eT, ← hC] at ef
      rw [ef, a8]
      show (if 63 ≤ m.d then jE.st 4 else jE.go (mEn p m (rnS p.2.1 p.2.2.2.1 C y).toNat y.ps.length)) = _
      rw [e14, Int.toNat_natCast]
end RCD
