/-! load: a text with a wrong name of a class is answered alike. -/
def ld_h (S S' : nk_S) : Prop := (∀ b i, ¬ (b = 85 ∧ i = 1) → S'.2 b i = S.2 b i) ∧ (∀ a, a ≠ 0 → ¬ (2 ≤ a ∧ a ≤ 11 ∧ a ≠ 3) → ¬ (85 ≤ a ∧ a ≤ 91) → a ≠ 121 → ¬ (216 ≤ a ∧ a ≤ 247) → ¬ (S.2 0 5 ≤ a ∧ a < S.2 0 5 + 36) → ¬ (S.2 121 1 ≤ a ∧ a < S.2 121 1 + 46) → S'.1 a = S.1 a) ∧ (∀ i, i ≠ 7 → S'.1 0 i = S.1 0 i) ∧ (∀ i, i ≠ 7 → i ≠ 10 → i ≠ 11 → i ≠ 12 → i ≠ 19 → i ≠ 25 → S'.1 121 i = S.1 121 i) ∧ jv_words S' ∧ S'.1 2 2 = 360 ∧ S'.1 121 7 = 0
theorem ld_hi {S S' : nk_S} (hg : ld_h S S') (hQ : S.2 0 5 = 13 ∨ S.2 0 5 = 49) (hP : S.2 121 1 = 122 ∨ S.2 121 1 = 168) (h7 : S'.1 0 7 = S'.1 121 12) (hf : io_f S) (hi : io_i S) (ho : io_o S) : io_f S' ∧ io_t S' ∧ S'.1 0 7 = S'.1 121 12 ∧ io_i S' ∧ io_o S' := by
  obtain ⟨g1, g2, g3, g5, g6, g7, g8⟩ := hg
  have k : ∀ a, a = 1 ∨ a = 112 ∨ a = 113 ∨ a = 120 ∨ a = 214 ∨ a = 248 ∨ a = 249 → S'.1 a = S.1 a := fun a ha => g2 a (by omega) (by omega) (by omega) (by omega) (by omega) (by omega) (by omega)
  refine ⟨?_, ⟨g6.1, by rw [g7, g8]; rfl, by omega, by omega, fun i hi => by omega⟩, h7, ?_, ?_⟩
  · unfold io_f at hf ⊢
    rw [g3 1 (by decide), g3 2 (by decide), g5 4 (by decide) (by decide) (by decide) (by decide) (by decide) (by decide), g5 5 (by decide) (by decide) (by decide) (by decide) (by decide) (by decide), k 1 (by decide), k 214 (by decide)]
    exact hf
  · unfold io_i at hi ⊢
    rw [g3 12 (by decide), g5 55 (by decide) (by decide) (by decide) (by decide) (by decide) (by decide), k 112 (by decide), k 248 (by decide)]
    exact hi
  · unfold io_o at ho ⊢
    rw [k 113 (by decide), k 120 (by decide), k 249 (by decide), g5 58 (by decide) (by decide) (by decide) (by decide) (by decide) (by decide), g5 59 (by decide) (by decide) (by decide) (by decide) (by decide) (by decide), g5 60 (by decide) (by decide) (by decide) (by decide) (by decide) (by decide), g5 57 (by decide) (by decide) (by decide) (by decide) (by decide) (by decide), g5 62 (by decide) (by decide) (by decide) (by decide) (by decide) (by decide)]
    exact ho
/-- the class's names so far: resolveNames behind walkClasses -/
theorem c_resolve {S : nk_S} {Q c : Nat} {tx : List (List Int)} {ts : List (Nat × Nat)} {g : Nat → Int} (hQ : Q = 13 ∨ Q = 49) (hW : CW g S ts c) (hC : CF S tx c) (h : (fProg tx 20000 20000 0).1 = true) : ∃ S', CF S' tx c ∧ cC S' Q c (fCls tx 20000 0 kC8 us8).2.1 (fCls tx 20000 0 kC8 us8).2.2 ∧ (ja_X6_resolveNames 85 Q S = if 0 ≤ ccA (fCls tx 20000 0 kC8 us8).1 then ja_X6_resolveNames_L28 nk_big 85 (ccA (fCls tx 20000 0 kC8 us8).1) 0 S' else nk_bd (ja_X6_walkMembers 85 S') fun r10 S11 => ja_X6_resolveNames_L28 nk_big 85 r10 0 S11) ∧ (∀ b i, S'.2 b i = if b = 85 ∧ i = 1 then Q else S.2 b i) ∧ (∀ b, b ≠ 10 → b ≠ 11 → b < Q ∨ Q + 36 ≤ b → S'.1 b = S.1 b) ∧ (∃ S0, cZ S0 Q ∧ ccF Q S0 S' ∧ ∀ b, b < Q ∨ Q + 36 ≤ b → S0.1 b = S.1 b) := by
  obtain ⟨Sa, hSa⟩ : ∃ Sa, Sa = nk_wr S 85 1 Q := ⟨_, rfl⟩
  have a2 : Sa.2 85 1 = Q := by rw [hSa, wr_2, if_pos ⟨rfl, rfl⟩]
  obtain ⟨Sb, b1, b2, b3, b4, b5⟩ := c_clear hQ Sa
  have bb : ∀ b, b < Q ∨ Q + 36 ≤ b → Sb.1 b = S.1 b := fun b hb => by rw [b3 b hb, hSa]; rfl
  have hCb : CF Sb tx c := CF_c (bb 2 (by omega)) (bb 3 (by omega)) (bb 4 (by omega)) (bb 5 (by omega)) (bb 6 (by omega)) (bb 9 (by omega)) hC
  have kw : ∀ w, wd Sb w = wd S w := fun w => wd_congr (bb 3 (by omega)) (by rw [bb 5 (by omega)]) (by rw [bb 6 (by omega)])
  obtain ⟨Sc, c1, c2, c3, c4⟩ := c_names hQ hCb b5 (fun v hv hs => by
    rw [kw] at hs
    rw [bb 10 (by omega)]
    exact ((hW.2.2.2.2.2.2 v hv).2.2 hs).1) (by rw [b2]; exact a2) h
  refine ⟨Sc, c2, c3, ?_, fun b i => ?_, fun b x y z => ?_, Sb, b4, c4, bb⟩
  · unfold ja_X6_resolveNames
    rw [lt_eq, ← hSa, a2, b1, bd_some, c1, bd_some]
  · rw [c4.1, b2, hSa, wr_2]
  · rw [c4.2.1 b x y (by omega) (by omega) (by omega), bb b z]
theorem c_stop (S : nk_S) (y : Nat) : ja_X6_resolveNames_L28 nk_big 85 (y : Int) 0 S = some ((y : Int), S) := by
  obtain ⟨m, hm⟩ := big_ge 1 (by decide)
  rw [hm]
  show ja_X6_resolveNames_b28 (ja_X6_resolveNames_L28 m) 85 (y : Int) 0 S = _
  have e : ja_X6_resolveNames_b58 85 (y : Int) S = some ((y : Int), S) := by
    unfold ja_X6_resolveNames_b58
    rw [if_neg (by omega)]
  unfold ja_X6_resolveNames_b28
  by_cases c : S.1 (ja_c (S.2 85 1) 1) 0 ≤ 0
  · rw [if_pos c]; exact e
  · rw [if_neg c, if_pos (by omega)]; exact e
theorem ld_names {Rest : nk_S → Prop} (hRw : ∀ S, Rest S → jv_words S) (hRq : ∀ S, Rest S → (S.2 0 5 = 13 ∨ S.2 0 5 = 49) ∧ (S.2 121 1 = 122 ∨ S.2 121 1 = 168)) (hR : ∀ S S', Rest S → ld_h S S' → Rest S') {S : nk_S} (h : io_I Rest S) (h1 : (tL S).1 = true) (h2 : (fProg (tX S) 20000 20000 0).1 = true) {y : Nat} (h3 : (fCls (tX S) 20000 0 kC8 us8).1 = some y) : ∃ r S1 S2, ja_X11_load 0 S = some (r, S1) ∧ ja_X13_load 121 S1 = some (r, S2) ∧ io_I Rest S2 := by
  obtain ⟨hf, ht, h12, hi, ho, hr⟩ := h
  obtain ⟨n1, n2, n3, n4⟩ := tN_i ht
  obtain ⟨hQ, hP⟩ := hRq S hr
  obtain ⟨Sa, c, q1, q2, q3, q4, q5, q6, q7, q8, q9, q10⟩ := (c_front (hRw S hr) ht).2.2 h1 h2
  obtain ⟨Sb, w1, w2, w3, w4, w5, w6⟩ := c_resolve hQ q2 q3 h2
  rw [h3] at w3
  have eres : ja_X6_resolveNames 85 (S.2 0 5) Sa = some ((y : Int), Sb) := by
    rw [w3, if_pos (show 0 ≤ ccA (some y) from by show (0 : Int) ≤ (y : Int); omega)]
    exact c_stop Sb y
  obtain ⟨Sc, hSc⟩ : ∃ Sc, Sc = nk_wi Sb 0 7 (y : Int) := ⟨_, rfl⟩
  have sc7 : Sc.1 0 7 = (y : Int) := by rw [hSc]; simp only [wi_v, and_self, if_true]
  have scn : ∀ b, b ≠ 0 → Sc.1 b = Sb.1 b := fun b hb => by rw [hSc]; exact wi_n hb
  have sc0 : ∀ i, i ≠ 7 → Sc.1 0 i = Sb.1 0 i := fun i hi => by rw [hSc]; simp only [wi_v, hi, and_false, if_false]
  have eload : ja_X11_load 0 S = some (3, Sc) := by
    rw [q1]
    unfold ja_X11_load_b58
    rw [if_pos rfl, jc_0_8, q5, eres, bd_some, lt_eq, ← hSc, sc7, if_pos (by omega)]
    rfl
  have far : ∀ a, 86 ≤ a → Sc.1 a = S.1 a := fun a ha => by rw [scn a (by omega), w5 a (by omega) (by omega) (by omega), q6 a (by omega) (by omega) (by omega) (by omega) (by omega) (by omega) (by omega) (by omega) (by omega) (by omega) (by omega)]
  have sc2 : ∀ b i, ¬ (b = 85 ∧ i = 1) → Sc.2 b i = S.2 b i := fun b i hb => by rw [hSc]; show Sb.2 b i = _; rw [w4, if_neg hb, q5]
  obtain ⟨Sd, p1, p2, p3, p4, p5, p6⟩ := (m_front (S := Sc) (g := S.1 3) (n := tN S) (by rw [far 121 (by omega)]; exact n1) n2 (fun k hk => by rw [far 215 (by omega)]; exact n4 k hk) (L := tL S) rfl (X := tX S) rfl).2.2 h1 h2
  rw [sc2 121 1 (by decide)] at p1
  obtain ⟨Se, e1, e2, e3, e4, e5, e6, e7⟩ := m_names hP p2 h2
  rw [h3] at e1
  obtain ⟨e1, e12⟩ := e1
  have emain : ja_X13_load 121 Sc = some (3, nk_wi Se 121 7 0) := by
    unfold ja_X13_load
    rw [sc2 121 1 (by decide), p1]
    unfold m_rest
    rw [e1, bd_some, if_pos rfl, bd_some, lt_eq, if_neg (by decide)]
  have hPb : S.2 121 1 = 122 ∨ S.2 121 1 = 168 := hP
  have hQb : S.2 0 5 = 13 ∨ S.2 0 5 = 49 := hQ
  have low : ∀ a, a < 121 → (nk_wi Se 121 7 0).1 a = Sc.1 a := fun a ha => by rw [wi_n (by omega), e5 a (by omega) (by omega) (by omega) (by omega), p5 a (by omega) (by omega) (by omega)]
  have hg : ld_h S (nk_wi Se 121 7 0) := by
    refine ⟨fun b i hb => ?_, fun a x0 x2 x85 x121 x216 xQ xP => ?_, fun i hi => ?_, fun i x7 x10 x11 x12 _ _ => ?_, ?_, ?_, by simp only [wi_v, and_self, if_true]⟩
    · show Se.2 b i = _; rw [e4, p4, sc2 b i hb]
    · rw [wi_n x121, e5 a x121 (by omega) (by omega) (by omega), p5 a x121 (by omega) (by omega), scn a x0, w5 a (by omega) (by omega) (by omega), q6 a x0 (by omega) (by omega) (by omega) (by omega) (by omega) (by omega) (by omega) (by omega) (by omega) (by omega)]
    · rw [low 0 (by decide), sc0 i hi, w5 0 (by decide) (by decide) (by omega), q7 i hi]
    · simp only [wi_v, x7, and_false, if_false]
      rw [e6 i x12, p6 i x7 x10 x11 x12, far 121 (by omega)]
    · have lo2 : ∀ a, 0 < a → a < 13 → a ≠ 10 → a ≠ 11 → (nk_wi Se 121 7 0).1 a = Sa.1 a := fun a x y z w => by rw [low a (by omega), scn a (by omega), w5 a z w (by omega)]
      exact jv_words_congr (S := Sa) (fun k _ => by rw [lo2 3 (by decide) (by decide) (by decide) (by decide)]) (by rw [lo2 2 (by decide) (by decide) (by decide) (by decide)]) (by rw [lo2 2 (by decide) (by decide) (by decide) (by decide)]) (fun w _ => by rw [lo2 5 (by decide) (by decide) (by decide) (by decide), lo2 6 (by decide) (by decide) (by decide) (by decide), lo2 7 (by decide) (by decide) (by decide) (by decide)]; exact ⟨rfl, rfl, rfl⟩) (lo2 12 (by decide) (by decide) (by decide) (by decide)) (fun w _ => by rw [lo2 9 (by decide) (by decide) (by decide) (by decide)]) q9
    · rw [low 2 (by decide), scn 2 (by decide), w5 2 (by decide) (by decide) (by omega)]; exact q10
  obtain ⟨i1, i2, i3, i4, i5⟩ := ld_hi hg hQ hP (by rw [low 0 (by decide), sc7]; simp +decide only [wi_v, if_false]; exact e12.symm) hf hi ho
  exact ⟨3, Sc, nk_wi Se 121 7 0, eload, emain, i1, i2, i3, i4, i5, hR S _ hr hg⟩
