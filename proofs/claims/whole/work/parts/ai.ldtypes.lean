/-! load: wrong heights and types are answered alike. -/
def ld_k (S S' : nk_S) : Prop := (∀ b i, ¬ (b = 85 ∧ i = 1) → ¬ (b = 86 ∧ i ≤ 1) → S'.2 b i = S.2 b i) ∧ (∀ a, a ≠ 0 → ¬ (2 ≤ a ∧ a ≤ 11 ∧ a ≠ 3) → ¬ (85 ≤ a ∧ a ≤ 91) → a ≠ 121 → ¬ (216 ≤ a ∧ a ≤ 247) → ¬ (S.2 0 5 ≤ a ∧ a < S.2 0 5 + 36) → ¬ (S.2 121 1 ≤ a ∧ a < S.2 121 1 + 46) → S'.1 a = S.1 a) ∧ (∀ i, i ≠ 7 → S'.1 0 i = S.1 0 i) ∧ (∀ i, i ≠ 7 → i ≠ 10 → i ≠ 11 → i ≠ 12 → i ≠ 19 → i ≠ 25 → S'.1 121 i = S.1 121 i) ∧ jv_words S' ∧ S'.1 2 2 = 360 ∧ S'.1 121 7 = 0
theorem ld_hk {S S' : nk_S} (h : ld_h S S') : ld_k S S' := ⟨fun b i x _ => h.1 b i x, h.2⟩
theorem ld_ki {S S' : nk_S} (hg : ld_k S S') (hQ : S.2 0 5 = 13 ∨ S.2 0 5 = 49) (hP : S.2 121 1 = 122 ∨ S.2 121 1 = 168) (h7 : S'.1 0 7 = S'.1 121 12) (hf : io_f S) (hi : io_i S) (ho : io_o S) : io_f S' ∧ io_t S' ∧ S'.1 0 7 = S'.1 121 12 ∧ io_i S' ∧ io_o S' := by
  obtain ⟨g1, g2, g3, g5, g6, g7, g8⟩ := hg
  have k : ∀ a, a = 1 ∨ a = 112 ∨ a = 113 ∨ a = 120 ∨ a = 214 ∨ a = 248 ∨ a = 249 → S'.1 a = S.1 a := fun a ha => g2 a (by omega) (by omega) (by omega) (by omega) (by omega) (by omega) (by omega)
  refine ⟨?_, ⟨g6.1, by rw [g7, g8]; rfl, by omega, by omega, fun i hi => by omega⟩, h7, ?_, ?_⟩
  · unfold io_f at hf ⊢
    rw [g3 1 (by decide), g3 2 (by decide), g5 4 (by decide) (by decide) (by decide) (by decide) (by decide) (by decide), g5 5 (by decide) (by decide) (by decide) (by decide) (by decide) (by decide), k 1 (by decide), k 214 (by decide)]
    exact hf
  · unfold io_i at hi ⊢
    rw [g3 12 (by decide), g5 55 (by decide) (by decide) (by decide) (by decide) (by decide) (by decide), k 112 (by decide), k 248 (by decide)]
    exact hi
  · unfold io_o at ho ⊢
    rw [k 113 (by decide), k 120 (by decide), k 249 (by decide), g5 58 (by decide) (by decide) (by decide) (by decide) (by decide) (by decide), g5 59 (by decide) (by decide) (by decide) (by decide) (by decide) (by decide), g5 60 (by decide) (by decide) (by decide) (by decide) (by decide) (by decide), g5 57 (by decide) (by decide) (by decide) (by decide) (by decide) (by decide), g5 62 (by decide) (by decide) (by decide) (by decide) (by decide) (by decide)]
    exact ho
/-- the class up to heights and types -/
theorem ld_cf {S : nk_S} (hw : jv_words S) (hQ : S.2 0 5 = 13 ∨ S.2 0 5 = 49) (ht : io_t S) (h1 : (tL S).1 = true) (h2 : (fProg (tX S) 20000 20000 0).1 = true) (h3 : rsv (tX S) = none) : ∃ Sc, pWf (tX S) (pgm (tX S)) ∧ (ja_X11_load 0 S = if 0 ≤ ccA (fWs (pgm (tX S)) (pgm (tX S)).2.2.2.1.length 0) then (if 0 ≤ ccA (fWs (pgm (tX S)) (pgm (tX S)).2.2.2.1.length 0) ∧ ccA (fWs (pgm (tX S)) (pgm (tX S)).2.2.2.1.length 0) < 1024 then ja_X11_load_b124 0 (ccA (fWs (pgm (tX S)) (pgm (tX S)).2.2.2.1.length 0)) 0 (Sc.1 (S.2 0 5 + 28) (ccA (fWs (pgm (tX S)) (pgm (tX S)).2.2.2.1.length 0)).toNat) Sc else none) else ja_X11_load_b124 0 (ccA (fWs (pgm (tX S)) (pgm (tX S)).2.2.2.1.length 0)) 0 (-1) Sc) ∧ (∀ b i, ¬ (b = 85 ∧ i = 1) → ¬ (b = 86 ∧ i ≤ 1) → Sc.2 b i = S.2 b i) ∧ (∀ a, a ≠ 0 → ¬ (2 ≤ a ∧ a ≤ 11 ∧ a ≠ 3) → ¬ (85 ≤ a ∧ a ≤ 91) → ¬ (S.2 0 5 ≤ a ∧ a < S.2 0 5 + 36) → Sc.1 a = S.1 a) ∧ (∀ i, i ≠ 7 → Sc.1 0 i = S.1 0 i) ∧ jv_words Sc ∧ Sc.1 2 2 = 360 ∧ cPg Sc (S.2 0 5) (pgm (tX S)) ∧ (fWs (pgm (tX S)) (pgm (tX S)).2.2.2.1.length 0 = none → cHt Sc (S.2 0 5) (pgm (tX S)) (pgm (tX S)).2.2.2.1.length) := by
  obtain ⟨Sa, Sb, q1, q2, q0, q3, q4, q5, q6, q7, q8, q9⟩ := ld_c hw hQ ht h1 h2
  rw [h3] at q2
  have q2 : ja_X6_resolveNames 85 (S.2 0 5) Sa = some (-1, Sb) := q2
  obtain ⟨p1, p2⟩ := q9 h3
  have hwf := p_pWf h2 h3 p2
  obtain ⟨Q, hQQ⟩ : ∃ Q, Q = S.2 0 5 := ⟨_, rfl⟩
  rw [← hQQ] at hQ q2 q4 p1 ⊢
  obtain ⟨A, hA⟩ : ∃ A, A = nk_wi Sb 0 7 (-1) := ⟨_, rfl⟩
  have A2 : A.2 = Sb.2 := by rw [hA]; rfl
  have A25 : A.2 0 5 = Q := by rw [A2, q3 0 5 (by decide), hQQ]
  have An : ∀ a, a ≠ 0 → A.1 a = Sb.1 a := fun a ha => by rw [hA, wi_n ha]
  have pA : cPg A Q (pgm (tX S)) := cPg_c (fun a x _ _ => An a (by omega)) p1
  obtain ⟨Sc, c1, c2, c3, c4⟩ := c_fstB hQ hwf pA
  have lo : ∀ a, 0 < a → a < 13 → Sc.1 a = Sb.1 a := fun a x y => by rw [c3 a (by omega) (by omega), An a (by omega)]
  refine ⟨Sc, hwf, ?_, fun b i x y => by rw [c2 b i y, A2, q3 b i x], fun a x0 x2 x85 xQ => by rw [c3 a (by omega) (by omega), An a x0, q4 a x0 x2 (by omega) xQ], fun i hi => by rw [c3 0 (by decide) (by omega), hA, wi_at, if_neg hi, q5 i hi], ?_, by rw [lo 2 (by decide) (by decide)]; exact q7, cPg_c (fun a x y z => c3 a (by omega) z) pA, c4⟩
  · rw [q1]
    unfold ja_X11_load_b58 ja_X11_load_b89
    have a7 : A.1 0 7 = -1 := by rw [hA, wi_at, if_pos rfl]
    have c25 : Sc.2 0 5 = Q := by rw [c2 0 5 (by decide), A25]
    rw [if_pos rfl, jc_0_8, q0, ← hQQ, q2, bd_some, lt_eq, ← hA, a7, if_neg (by decide)]
    unfold ja_X11_load_b90
    rw [if_pos rfl, jc_0_9, A25, c1, bd_some, c25, (jc_Qp hQ).2.2.2.2.1]
  · exact jv_words_congr (S := Sb) (fun k _ => by rw [lo 3 (by decide) (by decide)]) (by rw [lo 2 (by decide) (by decide)]) (by rw [lo 2 (by decide) (by decide)]) (fun w _ => by rw [lo 5 (by decide) (by decide), lo 6 (by decide) (by decide), lo 7 (by decide) (by decide)]; exact ⟨rfl, rfl, rfl⟩) (lo 12 (by decide) (by decide)) (fun w _ => by rw [lo 9 (by decide) (by decide)]) q6
theorem ld_types {Rest : nk_S → Prop} (hRw : ∀ S, Rest S → jv_words S) (hRq : ∀ S, Rest S → (S.2 0 5 = 13 ∨ S.2 0 5 = 49) ∧ (S.2 121 1 = 122 ∨ S.2 121 1 = 168)) (hR : ∀ S S', Rest S → ld_k S S' → Rest S') {S : nk_S} (h : io_I Rest S) (h1 : (tL S).1 = true) (h2 : (fProg (tX S) 20000 20000 0).1 = true) (h3 : rsv (tX S) = none) {y : Nat} (h4 : fWs (pgm (tX S)) (pgm (tX S)).2.2.2.1.length 0 = some y) : ∃ r S1 S2, ja_X11_load 0 S = some (r, S1) ∧ ja_X13_load 121 S1 = some (r, S2) ∧ io_I Rest S2 := by
  obtain ⟨hf, ht, h12, hi, ho, hr⟩ := h
  obtain ⟨hQ, hP⟩ := hRq S hr
  obtain ⟨Sb, hwf, q1, q3, q4, q5, q6, q7, q8, -⟩ := ld_cf (hRw S hr) hQ ht h1 h2 h3
  obtain ⟨x, hx⟩ := fWs_s _ _ _ h4
  have hz : (pgm (tX S)).2.2.2.2.1.1.length ≤ 1024 := hwf.1.2.2.2.2.2.2.2.2.2.2.1.1
  have hy := at_lt hx
  rw [h4] at q1
  have hJ : cJL Sb (S.2 0 5) (pgm (tX S)).2.2.2.2.1 := q8.2.2.2.2.2.2.2.2.1
  have etok : Sb.1 (S.2 0 5 + 28) y = (x.2.2.2.2 : Int) := (hJ.1.2 y x hx).2.2.2.1
  obtain ⟨Sc, hSc⟩ : ∃ Sc, Sc = nk_wi Sb 0 7 (x.2.2.2.2 : Int) := ⟨_, rfl⟩
  have sc7 : Sc.1 0 7 = (x.2.2.2.2 : Int) := by rw [hSc, wi_at, if_pos rfl]
  have scn : ∀ b, b ≠ 0 → Sc.1 b = Sb.1 b := fun b hb => by rw [hSc]; exact wi_n hb
  have sc0 : ∀ i, i ≠ 7 → Sc.1 0 i = Sb.1 0 i := fun i hi => by rw [hSc, wi_at, if_neg hi]
  have sc2 : ∀ b i, ¬ (b = 85 ∧ i = 1) → ¬ (b = 86 ∧ i ≤ 1) → Sc.2 b i = S.2 b i := fun b i hb hb' => by rw [hSc]; exact q3 b i hb hb'
  have eload : ja_X11_load 0 S = some (4, Sc) := by
    rw [q1, show ccA (some y) = (y : Int) from rfl, if_pos (by omega), if_pos (in_i (N := 1024) (by omega)), Int.toNat_natCast, etok]
    unfold ja_X11_load_b124 ja_X11_load_b136 ja_X11_load_b137
    rw [lt_eq, ← hSc, if_pos (by omega), if_neg (by decide)]
  have far : ∀ a, 121 ≤ a → Sc.1 a = S.1 a := fun a ha => by rw [scn a (by omega), q4 a (by omega) (by omega) (by omega) (by omega)]
  obtain ⟨Sd, d1, d2, d3, -, d5⟩ := ld_m hP ht far (sc2 121 1 (by decide) (by decide)) h1 h2
  rw [h3] at d5
  obtain ⟨d5, d6⟩ := d5
  obtain ⟨Se, e1, e2, -⟩ := m_first hP hwf d6
  rw [h4] at e1
  obtain ⟨e1, x', hx', e3⟩ := e1
  rw [hx] at hx'
  cases hx'
  have emain : ja_X13_load 121 Sc = some (4, nk_wi Se 121 7 0) := by
    unfold ja_X13_load
    rw [sc2 121 1 (by decide) (by decide), d5, e1, bd_some, lt_eq, if_neg (by decide)]
  have low : ∀ a, a < 121 → (nk_wi Se 121 7 0).1 a = Sc.1 a := fun a ha => by rw [wi_n (by omega), e2.2.1 a (by omega) (by omega) (by omega), d2 a (by omega) (by omega) (by omega)]
  have hg : ld_k S (nk_wi Se 121 7 0) := by
    refine ⟨fun b i hb hb' => ?_, fun a x0 x2 x85 x121 x216 xQ xP => ?_, fun i hi => ?_, fun i x7 x10 x11 x12 x19 x25 => ?_, ?_, ?_, by rw [wi_at, if_pos rfl]⟩
    · show Se.2 b i = _; rw [e2.1, d1, sc2 b i hb hb']
    · rw [wi_n x121, e2.2.1 a x121 (by omega) (by omega), d2 a x121 (by omega) xP, scn a x0, q4 a x0 x2 x85 xQ]
    · rw [low 0 (by decide), sc0 i hi, q5 i hi]
    · rw [wi_at, if_neg x7, e2.2.2 i x25 x12, d3 i x7 x10 x11 x12 x19, far 121 (by omega)]
    · have lo2 : ∀ a, 0 < a → a < 13 → (nk_wi Se 121 7 0).1 a = Sb.1 a := fun a x y => by rw [low a (by omega), scn a (by omega)]
      exact jv_words_congr (S := Sb) (fun k _ => by rw [lo2 3 (by decide) (by decide)]) (by rw [lo2 2 (by decide) (by decide)]) (by rw [lo2 2 (by decide) (by decide)]) (fun w _ => by rw [lo2 5 (by decide) (by decide), lo2 6 (by decide) (by decide), lo2 7 (by decide) (by decide)]; exact ⟨rfl, rfl, rfl⟩) (lo2 12 (by decide) (by decide)) (fun w _ => by rw [lo2 9 (by decide) (by decide)]) q6
    · rw [low 2 (by decide), scn 2 (by decide)]; exact q7
  obtain ⟨i1, i2, i3, i4, i5⟩ := ld_ki hg hQ hP (by rw [low 0 (by decide), sc7, wi_at, if_neg (by decide)]; exact e3.symm) hf hi ho
  exact ⟨4, Sc, nk_wi Se 121 7 0, eload, emain, i1, i2, i3, i4, i5, hR S _ hr hg⟩
