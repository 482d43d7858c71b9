/-! load: wrong names are answered alike; with right ones both have the same program. -/
/-- the class up to its names -/
theorem ld_c {S : nk_S} (hw : jv_words S) (hQ : S.2 0 5 = 13 ∨ S.2 0 5 = 49) (ht : io_t S) (h1 : (tL S).1 = true) (h2 : (fProg (tX S) 20000 20000 0).1 = true) : ∃ Sa Sb, ja_X11_load 0 S = ja_X11_load_b58 0 0 Sa ∧ ja_X6_resolveNames 85 (S.2 0 5) Sa = some (ccA (rsv (tX S)), Sb) ∧ Sa.2 = S.2 ∧ (∀ b i, ¬ (b = 85 ∧ i = 1) → Sb.2 b i = S.2 b i) ∧ (∀ a, a ≠ 0 → ¬ (2 ≤ a ∧ a ≤ 11 ∧ a ≠ 3) → a ≠ 85 → ¬ (S.2 0 5 ≤ a ∧ a < S.2 0 5 + 36) → Sb.1 a = S.1 a) ∧ (∀ i, i ≠ 7 → Sb.1 0 i = S.1 0 i) ∧ jv_words Sb ∧ Sb.1 2 2 = 360 ∧ Sb.1 2 4 = ((tX S).length : Int) ∧ (rsv (tX S) = none → cPg Sb (S.2 0 5) (pgm (tX S)) ∧ pOk (tX S) (pgm (tX S))) := by
  obtain ⟨Sa, c, q1, q2, q3, q4, q5, q6, q7, q8, q9, q10⟩ := (c_front hw ht).2.2 h1 h2
  obtain ⟨Sb, w1, ⟨w2, w3, w4⟩, w5⟩ := c_rsv hQ q2 q3 h2
  refine ⟨Sa, Sb, q1, w1, q5, fun b i hb => by rw [w2, if_neg hb, q5], fun a x0 x2 x85 xQ => ?_, fun i hi => ?_, ?_, ?_, ?_, w5⟩
  · rw [w3 a (by omega) (by omega) x85 (by omega), q6 a x0 (by omega) (by omega) (by omega) (by omega) (by omega) (by omega) (by omega) (by omega) (by omega) x85]
  · rw [w3 0 (by decide) (by decide) (by decide) (by omega), q7 i hi]
  · have lo2 : ∀ a, a < 13 → a ≠ 10 → a ≠ 11 → Sb.1 a = Sa.1 a := fun a y z w => w3 a z w (by omega) (by omega)
    exact jv_words_congr (S := Sa) (fun k _ => by rw [lo2 3 (by decide) (by decide) (by decide)]) (by rw [lo2 2 (by decide) (by decide) (by decide)]) (by rw [lo2 2 (by decide) (by decide) (by decide)]) (fun w _ => by rw [lo2 5 (by decide) (by decide) (by decide), lo2 6 (by decide) (by decide) (by decide), lo2 7 (by decide) (by decide) (by decide)]; exact ⟨rfl, rfl, rfl⟩) (lo2 12 (by decide) (by decide) (by decide)) (fun w _ => by rw [lo2 9 (by decide) (by decide) (by decide)]) q9
  · rw [w3 2 (by decide) (by decide) (by decide) (by omega)]; exact q10
  · rw [w3 2 (by decide) (by decide) (by decide) (by omega)]; exact q3.2.2.2.1
/-- the reference up to its names -/
theorem ld_m {S Sc : nk_S} (hP : S.2 121 1 = 122 ∨ S.2 121 1 = 168) (ht : io_t S) (hfar : ∀ a, 121 ≤ a → Sc.1 a = S.1 a) (h21 : Sc.2 121 1 = S.2 121 1) (h1 : (tL S).1 = true) (h2 : (fProg (tX S) 20000 20000 0).1 = true) : ∃ Sd, Sd.2 = Sc.2 ∧ (∀ a, a ≠ 121 → ¬ (216 ≤ a ∧ a ≤ 224) → ¬ (S.2 121 1 ≤ a ∧ a < S.2 121 1 + 46) → Sd.1 a = Sc.1 a) ∧ (∀ i, i ≠ 7 → i ≠ 10 → i ≠ 11 → i ≠ 12 → i ≠ 19 → Sd.1 121 i = Sc.1 121 i) ∧ MW Sd (tX S) ∧ (match rsv (tX S) with
    | some y => ja_X13_fault 121 (S.2 121 1) Sc = some (3, Sd) ∧ Sd.1 121 12 = (y : Int)
    | none => ja_X13_fault 121 (S.2 121 1) Sc = ja_X13_fault_L70 nk_big 121 (S.2 121 1) 0 Sd ∧ rPg Sd (S.2 121 1) (pgm (tX S))) := by
  obtain ⟨n1, n2, n3, n4⟩ := tN_i ht
  obtain ⟨Se, p1, p2, p3, p4, p5, p6⟩ := (m_front (S := Sc) (g := S.1 3) (n := tN S) (by rw [hfar 121 (by omega)]; exact n1) n2 (fun k hk => by rw [hfar 215 (by omega)]; exact n4 k hk) (L := tL S) rfl (X := tX S) rfl).2.2 h1 h2
  rw [h21] at p1
  obtain ⟨Sd, ⟨e1, e2, e3⟩, e4, e5⟩ := m_rsv hP p2 h2
  refine ⟨Sd, e1.trans p4, fun a x y z => by rw [e2 a x (by omega) z, p5 a x (by omega) (by omega)], fun i x7 x10 x11 x12 x19 => by rw [e3 i x12 x19, p6 i x7 x10 x11 x12], e4, ?_⟩
  rw [p1]
  exact e5
theorem ld_wrong {Rest : nk_S → Prop} (hRw : ∀ S, Rest S → jv_words S) (hRq : ∀ S, Rest S → (S.2 0 5 = 13 ∨ S.2 0 5 = 49) ∧ (S.2 121 1 = 122 ∨ S.2 121 1 = 168)) (hR : ∀ S S', Rest S → ld_h S S' → Rest S') {S : nk_S} (h : io_I Rest S) (h1 : (tL S).1 = true) (h2 : (fProg (tX S) 20000 20000 0).1 = true) {y : Nat} (h3 : rsv (tX S) = some y) : ∃ r S1 S2, ja_X11_load 0 S = some (r, S1) ∧ ja_X13_load 121 S1 = some (r, S2) ∧ io_I Rest S2 := by
  obtain ⟨hf, ht, h12, hi, ho, hr⟩ := h
  obtain ⟨hQ, hP⟩ := hRq S hr
  obtain ⟨Sa, Sb, q1, q2, q0, q3, q4, q5, q6, q7, q8, -⟩ := ld_c (hRw S hr) hQ ht h1 h2
  rw [h3] at q2
  have q2 : ja_X6_resolveNames 85 (S.2 0 5) Sa = some ((y : Int), Sb) := q2
  obtain ⟨Sc, hSc⟩ : ∃ Sc, Sc = nk_wi Sb 0 7 (y : Int) := ⟨_, rfl⟩
  have sc7 : Sc.1 0 7 = (y : Int) := by rw [hSc, wi_at, if_pos rfl]
  have scn : ∀ b, b ≠ 0 → Sc.1 b = Sb.1 b := fun b hb => by rw [hSc]; exact wi_n hb
  have sc0 : ∀ i, i ≠ 7 → Sc.1 0 i = Sb.1 0 i := fun i hi => by rw [hSc, wi_at, if_neg hi]
  have sc2 : ∀ b i, ¬ (b = 85 ∧ i = 1) → Sc.2 b i = S.2 b i := fun b i hb => by rw [hSc]; exact q3 b i hb
  have eload : ja_X11_load 0 S = some (3, Sc) := by
    rw [q1]
    unfold ja_X11_load_b58
    rw [if_pos rfl, jc_0_8, q0, q2, bd_some, lt_eq, ← hSc, sc7, if_pos (by omega)]
    rfl
  have far : ∀ a, 121 ≤ a → Sc.1 a = S.1 a := fun a ha => by rw [scn a (by omega), q4 a (by omega) (by omega) (by omega) (by omega)]
  obtain ⟨Sd, d1, d2, d3, -, d5⟩ := ld_m hP ht far (sc2 121 1 (by decide)) h1 h2
  rw [h3] at d5
  obtain ⟨d5, d6⟩ := d5
  have emain : ja_X13_load 121 Sc = some (3, nk_wi Sd 121 7 0) := by
    unfold ja_X13_load
    rw [sc2 121 1 (by decide), d5, bd_some, lt_eq, if_neg (by decide)]
  have low : ∀ a, a < 121 → (nk_wi Sd 121 7 0).1 a = Sc.1 a := fun a ha => by rw [wi_n (by omega), d2 a (by omega) (by omega) (by omega)]
  have hg : ld_h S (nk_wi Sd 121 7 0) := by
    refine ⟨fun b i hb => ?_, fun a x0 x2 x85 x121 x216 xQ xP => ?_, fun i hi => ?_, fun i x7 x10 x11 x12 x19 _ => ?_, ?_, ?_, by rw [wi_at, if_pos rfl]⟩
    · show Sd.2 b i = _; rw [d1, sc2 b i hb]
    · rw [wi_n x121, d2 a x121 (by omega) xP, scn a x0, q4 a x0 x2 (by omega) xQ]
    · rw [low 0 (by decide), sc0 i hi, q5 i hi]
    · rw [wi_at, if_neg x7, d3 i x7 x10 x11 x12 x19, far 121 (by omega)]
    · have lo2 : ∀ a, 0 < a → a < 13 → (nk_wi Sd 121 7 0).1 a = Sb.1 a := fun a x y => by rw [low a (by omega), scn a (by omega)]
      exact jv_words_congr (S := Sb) (fun k _ => by rw [lo2 3 (by decide) (by decide)]) (by rw [lo2 2 (by decide) (by decide)]) (by rw [lo2 2 (by decide) (by decide)]) (fun w _ => by rw [lo2 5 (by decide) (by decide), lo2 6 (by decide) (by decide), lo2 7 (by decide) (by decide)]; exact ⟨rfl, rfl, rfl⟩) (lo2 12 (by decide) (by decide)) (fun w _ => by rw [lo2 9 (by decide) (by decide)]) q6
    · rw [low 2 (by decide), scn 2 (by decide)]; exact q7
  obtain ⟨i1, i2, i3, i4, i5⟩ := ld_hi hg hQ hP (by rw [low 0 (by decide), sc7, wi_at, if_neg (by decide)]; exact d6.symm) hf hi ho
  exact ⟨3, Sc, nk_wi Sd 121 7 0, eload, emain, i1, i2, i3, i4, i5, hR S _ hr hg⟩
