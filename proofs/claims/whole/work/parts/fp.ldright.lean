/-! load: a right program is answered 0 by both; what they then hold. -/
section LDG
theorem rPg_d' {S S' : nk_S} {P : Nat} {p : jP} (hP : P = 122 ∨ P = 168) (k : ∀ a, P ≤ a → a ≤ P + 26 → a ≠ P + 19 → S'.1 a = S.1 a) (k4 : S'.1 224 = S.1 224) (h : rPg S P p) : rPg S' P p := by
  have h2 : rPg (fun a => if a = P + 19 then S'.1 a else S.1 a, S.2) P p := by
    have kk : ∀ a, a ≠ P + 19 → (fun a => if a = P + 19 then S'.1 a else S.1 a) a = S.1 a := fun a ha => if_neg ha
    unfold rPg rB0 rEl rPl rCd rSl rKl rTn at h ⊢
    dsimp only at h ⊢
    simp only [show ∀ n, n ≠ 19 → (P + n = P + 19) = False from fun n hn => by simp; omega, show (P = P + 19) = False from by simp, show (224 = P + 19) = False from by simp; omega, if_false, ne_eq, Nat.reduceEqDiff, not_false_eq_true]
    exact h
  exact rPg_d (S := (fun a => if a = P + 19 then S'.1 a else S.1 a, S.2)) (fun a x y => by
    show S'.1 a = if a = P + 19 then S'.1 a else S.1 a
    by_cases e : a = P + 19
    · rw [if_pos e]
    · rw [if_neg e]; exact k a x y e) (by
    show S'.1 224 = if 224 = P + 19 then S'.1 224 else S.1 224
    rw [if_neg (by omega)]; exact k4) h2
/-- loads that fail in bytes or form keep it -/
theorem jR_gg {S S' : nk_S} (h : jRest S) (g : ld_g S S') : jRest S' := by
  obtain ⟨h1, h2, h3, h4, h5⟩ := h
  obtain ⟨g1, g2, g3, g4, g5, g6, g7, g8⟩ := g
  have k : ∀ a, (12 ≤ a ∧ a ≤ 84) ∨ (86 ≤ a ∧ a ≤ 111) ∨ (122 ≤ a ∧ a ≤ 213) ∨ a = 113 ∨ a = 112 → S'.1 a = S.1 a := fun a ha => g2 a (by omega) (by omega) (by omega) (by omega) (by omega) (by omega) (by omega) (by omega) (by omega) (by omega) (by omega) (by omega) (by omega) (by omega)
  unfold jRest
  rw [g1, k 100 (by omega), k 113 (by omega), k 112 (by omega), g3 6 (by decide), g5 2 (by decide) (by decide) (by decide) (by decide)]
  refine ⟨g6, h2, h3, h4, ?_⟩
  rcases h5 with q | ⟨q1, q2, q3⟩
  · exact Or.inl q
  · exact Or.inr ⟨q1, q2, ldd_c (by omega) (by omega) (fun a ha => k a (by omega)) (fun a ha hb => k a (by omega)) q3⟩
/-- the bytes fed, the text, the input, the answers stay -/
theorem ld_ri {S S' : nk_S} (k : ∀ a, a = 1 ∨ a = 112 ∨ a = 113 ∨ a = 120 ∨ a = 214 ∨ a = 248 ∨ a = 249 → S'.1 a = S.1 a) (g3 : ∀ i, i ≠ 6 → i ≠ 7 → S'.1 0 i = S.1 0 i) (g5 : ∀ i, i = 4 ∨ i = 5 ∨ 41 ≤ i → S'.1 121 i = S.1 121 i) (g6 : jv_words S') (g7 : S'.1 2 2 = 360) (g8 : S'.1 121 7 = 0) (h7 : S'.1 0 7 = S'.1 121 12) (hf : io_f S) (hi : io_i S) (ho : io_o S) : io_f S' ∧ io_t S' ∧ S'.1 0 7 = S'.1 121 12 ∧ io_i S' ∧ io_o S' := by
  refine ⟨?_, ⟨g6.1, by rw [g7, g8]; rfl, by omega, by omega, fun i hi => by omega⟩, h7, ?_, ?_⟩
  · unfold io_f at hf ⊢
    rw [g3 1 (by decide) (by decide), g3 2 (by decide) (by decide), g5 4 (by decide), g5 5 (by decide), k 1 (by decide), k 214 (by decide)]
    exact hf
  · unfold io_i at hi ⊢
    rw [g3 12 (by decide) (by decide), g5 55 (by decide), k 112 (by decide), k 248 (by decide)]
    exact hi
  · unfold io_o at ho ⊢
    rw [k 113 (by decide), k 120 (by decide), k 249 (by decide), g5 58 (by decide), g5 59 (by decide), g5 60 (by decide), g5 57 (by decide), g5 62 (by decide)]
    exact ho
theorem ld_right {S : nk_S} (h : io_I jRest S) (h1 : (tL S).1 = true) (h2 : (fProg (tX S) 20000 20000 0).1 = true) (h3 : rsv (tX S) = none) (h4 : fWs (pgm (tX S)) (pgm (tX S)).2.2.2.1.length 0 = none) : ∃ r S1 S2, ja_X11_load 0 S = some (r, S1) ∧ ja_X13_load 121 S1 = some (r, S2) ∧ io_I jRest S2 := by
  obtain ⟨hf, ht, h12, hi, ho, hr⟩ := h
  obtain ⟨hQ, hP⟩ := jR_q hr
  obtain ⟨hw, hs2, hs3, h100, -⟩ := id hr
  obtain ⟨Sb, hwf, q1, q3, q4, q5, q6, q7, q8, q9⟩ := ld_cf hw hQ ht h1 h2 h3
  have q9 := q9 h4
  rw [h4] at q1
  obtain ⟨p, hp⟩ : ∃ p, p = pgm (tX S) := ⟨_, rfl⟩
  obtain ⟨hz, hbI⟩ := p_more h2 h3 hwf.1
  have hst : fSt (pgm (tX S)).2.2.1 := pgm_st
  rw [← hp] at hwf q8 q9 hz hbI hst h4
  obtain ⟨Q, hQQ⟩ : ∃ Q, Q = S.2 0 5 := ⟨_, rfl⟩
  rw [← hQQ] at hQ q4 q8 q9
  obtain ⟨P, hPP⟩ : ∃ P, P = S.2 121 1 := ⟨_, rfl⟩
  -- what is known of the program
  have hk : pKX p Q := p_kX (S := nk_wr (nk_wr Sb 86 0 Q) 86 1 (Q + 1)) hQ hwf hz hbI h4 q8 (by rw [wr_2, if_neg (by decide), wr_2, if_pos ⟨rfl, rfl⟩]) (by rw [wr_2, if_pos ⟨rfl, rfl⟩]) q9
  -- the class
  obtain ⟨S7, hS7⟩ : ∃ S7, S7 = nk_wi (nk_wr (nk_wr (nk_wi Sb 0 7 (-1)) 0 4 Q) 0 5 (S.2 0 4)) 0 6 1 := ⟨_, rfl⟩
  have s7n : ∀ a, a ≠ 0 → S7.1 a = Sb.1 a := fun a ha => by
    rw [hS7, wi_n ha]
    show (nk_wi Sb 0 7 (-1)).1 a = _
    exact wi_n ha
  have s7z : ∀ i, S7.1 0 i = if i = 6 then 1 else if i = 7 then -1 else Sb.1 0 i := fun i => by
    rw [hS7, wi_at]
    by_cases e : i = 6
    · rw [if_pos e, if_pos e]
    · rw [if_neg e, if_neg e]
      show (nk_wi Sb 0 7 (-1)).1 0 i = _
      rw [wi_at]
  have s72 : ∀ b i, S7.2 b i = if b = 0 ∧ i = 5 then S.2 0 4 else if b = 0 ∧ i = 4 then Q else Sb.2 b i := fun b i => by
    rw [hS7]
    show (nk_wr (nk_wr (nk_wi Sb 0 7 (-1)) 0 4 Q) 0 5 (S.2 0 4)).2 b i = _
    rw [wr_2, wr_2]
    rfl
  obtain ⟨mb, em, Sc, m1, m2, c1, c2, c3, c4, c5, c6⟩ := p_prove2 (S := S7) hwf hk hst (cPg_c (fun a x y _ => s7n a (by omega)) q8) (fun b e hb he i x y => by rw [s7n (Q + 30) (by omega)]; exact q9 b e hb he i x y) (by
    rw [s7n 100 (by decide), q4 100 (by decide) (by decide) (by decide) (by omega)]
    exact ⟨h100.1, h100.2.1, h100.2.2.1⟩)
  have eload : ja_X11_load 0 S = some (0, Sc) := by
    have e4 : (nk_wi Sb 0 7 (-1)).2 0 4 = S.2 0 4 := q3 0 4 (by decide) (by decide)
    have e5 : (nk_wi Sb 0 7 (-1)).2 0 5 = Q := by rw [hQQ]; exact q3 0 5 (by decide) (by decide)
    rw [q1, show ccA none = (-1 : Int) from rfl, if_neg (by decide)]
    unfold ja_X11_load_b124 ja_X11_load_b136 ja_X11_load_b137
    rw [lt_eq, if_neg (by decide), if_pos rfl, e4, e5, lt_eq, lt_eq, lt_eq, ← hS7, jc_0_10, s72 0 4, if_neg (by decide), if_pos ⟨rfl, rfl⟩, c1, bd_some]
  have sc2 : ∀ b i, ¬ (b = 85 ∧ i = 1) → ¬ (b = 86 ∧ i ≤ 1) → b ≠ 92 → b ≠ 0 → Sc.2 b i = S.2 b i := fun b i x1 x2 x3 x4 => by
    rw [c2, wr_2, if_neg (fun q => x3 q.1), wr_2, if_neg (fun q => x3 q.1), s72, if_neg (fun q => x4 q.1), if_neg (fun q => x4 q.1), q3 b i x1 x2]
  have sc0 : Sc.2 0 4 = Q ∧ Sc.2 0 5 = S.2 0 4 := by
    rw [c2, wr_2, if_neg (by decide), wr_2, if_neg (by decide), s72, if_neg (by decide), if_pos ⟨rfl, rfl⟩]
    refine ⟨rfl, ?_⟩
    rw [wr_2, if_neg (by decide), wr_2, if_neg (by decide), s72, if_pos ⟨rfl, rfl⟩]
  have far : ∀ a, 121 ≤ a → Sc.1 a = S.1 a := fun a ha => by
    rw [c3 a (by omega) (by omega) (by omega), s7n a (by omega), q4 a (by omega) (by omega) (by omega) (by omega)]
  -- the reference
  obtain ⟨Sd, d1, d2, d3, -, d5⟩ := ld_m hP ht far (sc2 121 1 (by decide) (by decide) (by decide) (by decide)) h1 h2
  rw [h3, ← hp, ← hPP] at d5
  rw [← hPP] at d2
  rw [← hPP] at hP
  obtain ⟨d5, d6⟩ := d5
  obtain ⟨Se, e1, e2, e3⟩ := m_first hP hwf d6
  rw [h4] at e1
  have e1 : ja_X13_fault_L70 nk_big 121 P 0 Sd = some (0, Se) := e1
  obtain ⟨e4, e5⟩ := e3 h4
  obtain ⟨Sf, hSf⟩ : ∃ Sf, Sf = nk_wi Se 121 7 0 := ⟨_, rfl⟩
  have fn : ∀ a, a ≠ 121 → Sf.1 a = Se.1 a := fun a ha => by rw [hSf, wi_n ha]
  have rPe : rPg Se P p := by
    refine rPg_d' hP (fun a x y z => ?_) ?_ d6
    · exact e2.2.1 a (by omega) (by omega) z
    · exact e2.2.1 224 (by omega) (by omega) (by omega)
  have hv : rPv Sf P p (pH p) (pTy p) := p_rPv (S := nk_wr (nk_wr Sb 86 0 Q) 86 1 (Q + 1)) hQ hwf h4 q8 (by rw [wr_2, if_neg (by decide), wr_2, if_pos ⟨rfl, rfl⟩]) (by rw [wr_2, if_pos ⟨rfl, rfl⟩]) q9 (rPg_d (fun a x y => fn a (by omega)) (fn 224 (by omega)) rPe) (fun b e hb he i x y => by rw [fn (P + 19) (by omega)]; exact e4 b e hb he i x y)
  obtain ⟨Sg, A, σ, r1, r2, r3, r4⟩ := p_rprove hP hwf hk hv m1 m2
  obtain ⟨Sh, hSh⟩ : ∃ Sh, Sh = nk_wi (nk_wr (nk_wr Sg 121 0 P) 121 1 (S.2 121 0)) 121 2 1 := ⟨_, rfl⟩
  have f2 : ∀ b i, Sg.2 b i = Sc.2 b i := fun b i => by rw [r2.1, hSf]; show Se.2 b i = _; rw [e2.1, d1]
  have f21 : Sf.2 121 1 = P := by rw [hSf]; show Se.2 121 1 = _; rw [e2.1, d1, sc2 121 1 (by decide) (by decide) (by decide) (by decide), hPP]
  have emain : ja_X13_load 121 Sc = some (0, Sh) := by
    unfold ja_X13_load
    rw [sc2 121 1 (by decide) (by decide) (by decide) (by decide), ← hPP, d5, e1, bd_some, lt_eq, if_pos (by decide), ← hSf, f21, r1, bd_some, f2 121 1, f2 121 0, sc2 121 1 (by decide) (by decide) (by decide) (by decide), sc2 121 0 (by decide) (by decide) (by decide) (by decide), ← hPP, lt_eq, lt_eq, lt_eq, ← hSh]
  have hn1 : ∀ a, a ≠ 121 → Sh.1 a = Sg.1 a := fun a ha => by rw [hSh, wi_n ha]; rfl
  have hn2 : ∀ b i, Sh.2 b i = if b = 121 ∧ i = 1 then S.2 121 0 else if b = 121 ∧ i = 0 then P else Sc.2 b i := fun b i => by
    rw [hSh]
    show (nk_wr (nk_wr Sg 121 0 P) 121 1 (S.2 121 0)).2 b i = _
    rw [wr_2, wr_2, f2]
  -- what both hold
  have low : ∀ a, a < 121 → Sh.1 a = Sc.1 a := fun a ha => by
    rw [hn1 a (by omega), r2.2.1 a (by omega) (by omega) (by omega), fn a (by omega), e2.2.1 a (by omega) (by omega) (by omega), d2 a (by omega) (by omega) (by omega)]
  have h121 : ∀ i, i ≠ 2 → Sh.1 121 i = Sg.1 121 i := fun i hi => by
    rw [hSh, wi_at, if_neg hi]; rfl
  have g121 : ∀ i, i ≠ 2 → i ≠ 7 → i ≠ 10 → i ≠ 11 → i ≠ 12 → i ≠ 19 → i ≠ 25 → ¬ (36 ≤ i ∧ i ≤ 40) → Sh.1 121 i = S.1 121 i := fun i x2 x7 x10 x11 x12 x19 x25 x36 => by
    rw [h121 i x2, r2.2.2 i x25 (by omega) (by omega) (by omega) (by omega) (by omega), hSf, wi_at, if_neg x7, e2.2.2 i x25 x12, d3 i x7 x10 x11 x12 x19, far 121 (by omega)]
  have t12 : Sh.1 121 12 = -1 := by
    rw [h121 12 (by decide), r2.2.2 12 (by decide) (by decide) (by decide) (by decide) (by decide) (by decide), hSf, wi_at, if_neg (by decide), e5]
  have t7 : Sh.1 121 7 = 0 := by
    rw [h121 7 (by decide), r2.2.2 7 (by decide) (by decide) (by decide) (by decide) (by decide) (by decide), hSf, wi_at, if_pos rfl]
  have lowc : ∀ a, a < 92 ∨ 112 ≤ a → a < 121 → a ≠ 0 → a ≠ Q + 4 → a ≠ Q + 8 → Sh.1 a = Sb.1 a := fun a x1 x2 x3 x4 x5 => by
    rw [low a x2, c3 a x1 x4 x5, s7n a x3]
  have z0 : ∀ i, Sh.1 0 i = if i = 6 then 1 else if i = 7 then -1 else Sb.1 0 i := fun i => by
    rw [low 0 (by decide), c3 0 (by omega) (by omega) (by omega), s7z]
  have hjw : jv_words Sh := by
    have lo2 : ∀ a, 0 < a → a < 13 → Sh.1 a = Sb.1 a := fun a x y => lowc a (by omega) (by omega) (by omega) (by omega) (by omega)
    exact jv_words_congr (S := Sb) (fun k _ => by rw [lo2 3 (by decide) (by decide)]) (by rw [lo2 2 (by decide) (by decide)]) (by rw [lo2 2 (by decide) (by decide)]) (fun w _ => by rw [lo2 5 (by decide) (by decide), lo2 6 (by decide) (by decide), lo2 7 (by decide) (by decide)]; exact ⟨rfl, rfl, rfl⟩) (lo2 12 (by decide) (by decide)) (fun w _ => by rw [lo2 9 (by decide) (by decide)]) q6
  obtain ⟨Ac, σc, p1, p2, p3, p4, p5⟩ := prE_sl c4
  obtain ⟨Ac', Wc, σc', Cc, l1, l2, l3, l4, l5⟩ := id c4
  obtain ⟨w1, w2, w3, w4, w5⟩ := r4
  obtain ⟨eA, eσ⟩ := pSl_u p3 w3 p4 w4
  subst eA
  subst eσ
  obtain ⟨mb', ym, m1', m2', m3', m4'⟩ := mnL_at p.2.2.2.1 0 hwf.1.2.2.2.2.2.2.2.2.2.2.2.2
  rw [Nat.zero_add] at m1'
  have emb : mb' = mb := by
    have : (mb' : Int) = (mb : Int) := by rw [← m1', m1]
    omega
  subst emb
  have hlK : ldK p Ac σc mb' em.1 := ⟨⟨_, hwf⟩, hst, ⟨Or.inl rfl, hk.2⟩, ⟨ym, em, m1, m2', m3', m4', m2, rfl⟩, w3, w4⟩
  have hlC : ldC Sc Q p Ac σc := by
    refine ⟨l1.1.2.2.1, fun i x hx => l1.1.2.2.2.1 i x hx, p1, p2, fun i x hx => ⟨(p5 i x hx).1, fun u hu => ?_⟩, c5, c6⟩
    obtain ⟨v1, v2, -⟩ := (p5 i x hx).2 u hu
    exact ⟨v1, v2⟩
  have hlR : ldR Sg P p Ac σc := ⟨⟨Sg, fun _ _ => rfl, r3.1⟩, r3.2, w1, w2, w5⟩
  have hrest : jRest Sh := by
    have x4 : Sh.2 0 4 = Q ∧ Sh.2 0 5 = S.2 0 4 ∧ Sh.2 121 0 = P ∧ Sh.2 121 1 = S.2 121 0 := by
      refine ⟨?_, ?_, ?_, ?_⟩
      · rw [hn2, if_neg (by decide), if_neg (by decide)]; exact sc0.1
      · rw [hn2, if_neg (by decide), if_neg (by decide)]; exact sc0.2
      · rw [hn2, if_neg (by decide), if_pos ⟨rfl, rfl⟩]
      · rw [hn2, if_pos ⟨rfl, rfl⟩]
    refine ⟨hjw, by omega, by omega, ?_, Or.inr ⟨by rw [z0, if_pos rfl], by rw [hSh, wi_at, if_pos rfl], p, Ac, σc, mb', em.1, hlK, ?_, ?_⟩⟩
    · rw [low 100 (by decide), lowc 113 (by omega) (by omega) (by omega) (by omega) (by omega), q4 113 (by omega) (by omega) (by omega) (by omega), lowc 112 (by omega) (by omega) (by omega) (by omega) (by omega), q4 112 (by omega) (by omega) (by omega) (by omega)]; exact ⟨l5.1, l5.2.1, l5.2.2, h100.2.2.2⟩
    · rw [x4.1]
      exact ldC_c hQ (fun a ha => low a (by omega)) hlC
    · rw [x4.2.2.1]
      exact ldR_c hP (fun a ha hb => hn1 a (by omega)) hlR
  obtain ⟨i1, i2, i3, i4, i5⟩ := ld_ri (S := S) (S' := Sh) (fun a ha => by
    by_cases c : a < 121
    · rw [lowc a (by omega) c (by omega) (by omega) (by omega), q4 a (by omega) (by omega) (by omega) (by omega)]
    · rw [hn1 a (by omega), r2.2.1 a (by omega) (by omega) (by omega), fn a (by omega), e2.2.1 a (by omega) (by omega) (by omega), d2 a (by omega) (by omega) (by omega), far a (by omega)]) (fun i x6 x7 => by rw [z0, if_neg x6, if_neg x7, q5 i x7]) (fun i hi => g121 i (by omega) (by omega) (by omega) (by omega) (by omega) (by omega) (by omega) (by omega)) hjw (by rw [lowc 2 (by omega) (by omega) (by omega) (by omega) (by omega)]; exact q7) t7 (by rw [z0, if_neg (by decide), if_pos rfl, t12]) hf hi ho
  exact ⟨0, Sc, Sh, eload, emain, i1, i2, i3, i4, i5, hrest⟩
/-- load, whole -/
theorem jR_load : jb_two (io_I jRest) (ja_X11_load 0) (ja_X13_load 121) := fun S h => by
  have hk : ∀ S S', jRest S → ld_k S S' → jRest S' := fun S S' x y => jR_k x y
  cases c1 : (tL S).1 with
  | false => exact ld_bad (fun S x => jR_w x) (fun S S' x y => jR_gg x y) h (Or.inl c1)
  | true =>
    cases c2 : (fProg (tX S) 20000 20000 0).1 with
    | false => exact ld_bad (fun S x => jR_w x) (fun S S' x y => jR_gg x y) h (Or.inr c2)
    | true =>
      cases c3 : rsv (tX S) with
      | some y => exact ld_wrong (fun S x => jR_w x) (fun S x => jR_q x) (fun S S' x y => jR_k x (ld_hk y)) h c1 c2 c3
      | none =>
        cases c4 : fWs (pgm (tX S)) (pgm (tX S)).2.2.2.1.length 0 with
        | some y => exact ld_types (fun S x => jR_w x) (fun S x => jR_q x) hk h c1 c2 c3 c4
        | none => exact ld_right h c1 c2 c3 c4
end LDG
