/-! Heights: the reference, whole. -/
section MHU
variable {ns : List (List Int)} {us : List Int} {fl : List (List Int × Nat × Int)} {bl : List jB} {z : jL} {P : Nat}
theorem m_sweepL (hP : P = 122 ∨ P = 168) {el : List (Nat × Nat × Nat × Nat)} {b : Nat} {xb : jB} {e : Nat × Nat × Nat × Nat} (he : el[b]? = some e) (hw : wB ns us fl bl z b xb e) (hb : hBd bl z b e) {rec44 : Nat → Nat → Int → Int → nk_S → Option (Int × nk_S)} : ∀ (d i m : Nat) (q : (Nat → Nat) × Bool) (S : nk_S), rHv S P bl z el → rHm e S q.1 → e.1 ≤ i → i + d = e.2.1 → d < m → ∃ S', ja_X13_heights_L58 rec44 m 121 P (b : Int) (bi q.2) (i : Int) S = rec44 121 P (b : Int) (bi (hSw bl z e.2.2.1 e.2.2.2 d i q).2) S' ∧ rHf P S S' ∧ rHm e S' (hSw bl z e.2.2.1 e.2.2.2 d i q).1 := by
  intro d
  induction d with
  | zero =>
    intro i m q S hv hm h0 h1 h2
    obtain ⟨m, rfl⟩ : ∃ q, m = q + 1 := ⟨m - 1, by omega⟩
    have hb48 := at_lt he
    have v5 := hv.2.2.2.2.1
    have v8 := hv.2.2.2.2.2.2.2.1
    have e13 : S.1 (P + (20 - 7)) b = (e.2.1 : Int) := (hv.2.2.1 b e he).2
    refine ⟨S, ?_, rHf_rfl, hm⟩
    show ja_X13_heights_b58 rec44 (ja_X13_heights_L58 rec44 m) 121 P (b : Int) (bi q.2) (i : Int) S = _
    unfold ja_X13_heights_b58
    rw [if_pos (in_i (N := 48) (by omega)), (jcP hP 20 (by decide) : ja_c P 20 = P + 13), Int.toNat_natCast, e13, if_pos (by omega)]
    rfl
  | succ d ih =>
    intro i m q S hv hm h0 h1 h2
    obtain ⟨m, rfl⟩ : ∃ q, m = q + 1 := ⟨m - 1, by omega⟩
    have hv0 := hv
    obtain ⟨v1, v2, v3, v4, v5, v6, v7, v8, v9⟩ := hv
    have hb48 := at_lt he
    have hw0 := hw
    obtain ⟨-, -, w3, w4, w5, w6, w7, -⟩ := hw
    obtain ⟨x, hx⟩ : ∃ x, z.1[i]? = some x := ⟨z.1[i]'(by omega), List.getElem?_eq_getElem (by omega)⟩
    obtain ⟨hbo, hcw⟩ := w4 i x h0 (by omega) hx
    have hi : i < 1024 := by omega
    obtain ⟨c1, c2, c3, c4, c5⟩ := v1.2 i x hx
    have ht := m_howM hP hi c1 c2 (fun b y hy => (v4 b y hy).1) v5 hcw
    have hl := m_leavR hP hi c1 c2 (fun b y hy => (v4 b y hy).2) v9 v5 hcw
    obtain ⟨t12, l2⟩ := tk_le12 hcw hb.1
    have hgood := m_good hP hm hi h0 (by omega) ht hl (by omega) (by omega)
    have k3 := (hH (tkX bl x) (by omega) (lvX bl x) (by omega) (q.1 i) (hm.2 i)).2.2.1
    have e13 : S.1 (P + (20 - 7)) b = (e.2.1 : Int) := (v3 b e he).2
    have c1' : ∀ T : nk_S, rHv T P bl z el → T.1 (P + (22 - 7)) i = (x.1 : Int) ∧ T.1 (P + (23 - 7)) i = rA x := fun T hT => ⟨(hT.1.2 i x hx).1, (hT.1.2 i x hx).2.1⟩
    obtain ⟨g, hg⟩ : ∃ g, g = hGd (q.1 i) (tkX bl x) (lvX bl x) := ⟨_, rfl⟩
    rw [← hg] at hgood k3
    have hin : (0 : Int) ≤ (i : Int) ∧ (i : Int) < 1024 := in_i (N := 1024) (by omega)
    rw [hSw, hx]
    dsimp only
    unfold hSp
    rw [← hg]
    have hstep : ja_X13_heights_L58 rec44 (m + 1) 121 P (b : Int) (bi q.2) (i : Int) S = if (g : Int) = 0 then ja_X13_heights_L58 rec44 m 121 P (b : Int) (bi q.2) ((i + 1 : Nat) : Int) S else if bi (fal x.1) = 0 then ja_X13_heights_b122 rec44 (ja_X13_heights_L58 rec44 m) 121 P (b : Int) (bi q.2) (i : Int) (g : Int) S else nk_bd (ja_X13_added 121 ((i + 1 : Nat) : Int) (g : Int) S) fun r11 S12 => if r11 = 0 then (if bi q.2 = 0 then ja_X13_heights_b122 rec44 (ja_X13_heights_L58 rec44 m) 121 P (b : Int) 0 (i : Int) (g : Int) S12 else ja_X13_heights_b122 rec44 (ja_X13_heights_L58 rec44 m) 121 P (b : Int) 1 (i : Int) (g : Int) S12) else ja_X13_heights_b122 rec44 (ja_X13_heights_L58 rec44 m) 121 P (b : Int) 1 (i : Int) (g : Int) S12 := by
      show ja_X13_heights_b58 rec44 (ja_X13_heights_L58 rec44 m) 121 P (b : Int) (bi q.2) (i : Int) S = _
      unfold ja_X13_heights_b58 ja_X13_heights_b116 ja_X13_heights_b121
      rw [if_pos (in_i (N := 48) (by omega)), (jcP hP 20 (by decide) : ja_c P 20 = P + 13), (jcP hP 22 (by decide) : ja_c P 22 = P + 15), Int.toNat_natCast, Int.toNat_natCast, e13, if_neg (by omega), hgood, bd_some, if_pos hin, (c1' S hv0).1, m_hasN S x.1, bd_some, w_nat1 (by omega)]
      rfl
    by_cases c : g = 0
    · rw [if_pos (show (g : Int) = 0 by omega)] at hstep
      rw [if_pos c]
      obtain ⟨S', i1, i2, i3⟩ := ih (i + 1) m q S hv0 hm (by omega) (by omega) (by omega)
      exact ⟨S', by rw [hstep]; exact i1, i2, i3⟩
    · rw [if_neg (show ¬ (g : Int) = 0 by omega)] at hstep
      rw [if_neg c]
      -- the next instruction
      obtain ⟨q1, hq1⟩ : ∃ q1, q1 = if fal x.1 = true then hAdd q (i + 1) g else q := ⟨_, rfl⟩
      obtain ⟨A, a1, a2, a3⟩ : ∃ A, ja_X13_heights_L58 rec44 (m + 1) 121 P (b : Int) (bi q.2) (i : Int) S = ja_X13_heights_b122 rec44 (ja_X13_heights_L58 rec44 m) 121 P (b : Int) (bi q1.2) (i : Int) (g : Int) A ∧ rHf P S A ∧ rHm e A q1.1 := by
        cases hfa : fal x.1 with
        | false =>
          rw [hfa, if_pos (show bi false = 0 from rfl)] at hstep
          rw [hfa, if_neg (by decide)] at hq1
          rw [hq1]
          exact ⟨S, hstep, rHf_rfl, hm⟩
        | true =>
          have hnx := hb.2.2 i x h0 (by omega) hx hfa
          rw [hfa, if_neg (show ¬ bi true = 0 by decide)] at hstep
          rw [hfa, if_pos rfl] at hq1
          obtain ⟨T, t1, t2, t3, t4⟩ := m_added (P := P) hm (j := i + 1) (g := g) (by omega) (by omega) (by omega) k3
          rw [t1, bd_some] at hstep
          rw [hq1]
          refine ⟨T, ?_, t2, t3⟩
          rw [hstep, t4]
          cases (!decide (q.1 (i + 1) ||| g = q.1 (i + 1))) with
          | false =>
            rw [if_pos (show bi false = 0 from rfl)]
            cases q.2 with
            | false => rw [if_pos (show bi false = 0 from rfl)]; rfl
            | true => rw [if_neg (show ¬ bi true = 0 by decide)]; rfl
          | true =>
            rw [if_neg (show ¬ bi true = 0 by decide)]
            cases q.2 <;> rfl
      have hvA := rHv_F hP a2 hv0
      obtain ⟨q2, hq2⟩ : ∃ q2, q2 = if 19 ≤ x.1 ∧ x.1 ≤ 29 then hAdd q1 x.2.1.toNat g else q1 := ⟨_, rfl⟩
      obtain ⟨B, b1, b2, b3⟩ : ∃ B, ja_X13_heights_b122 rec44 (ja_X13_heights_L58 rec44 m) 121 P (b : Int) (bi q1.2) (i : Int) (g : Int) A = ja_X13_heights_L164 rec44 (ja_X13_heights_L58 rec44 m) nk_big 121 P (b : Int) (bi q2.2) (i : Int) 0 B ∧ rHf P A B ∧ rHm e B q2.1 := by
        unfold ja_X13_heights_b122 ja_X13_heights_b155
        rw [if_pos hin, (jcP hP 22 (by decide) : ja_c P 22 = P + 15), (jcP hP 23 (by decide) : ja_c P 23 = P + 16), Int.toNat_natCast, (c1' A hvA).1, m_hasL A x.1, bd_some]
        by_cases cl : 19 ≤ x.1 ∧ x.1 ≤ 29
        · rw [decide_eq_true cl, if_neg (show ¬ bi true = 0 by decide), (c1' A hvA).2]
          rw [if_pos cl] at hq2
          obtain ⟨tt, t1, t2, t3⟩ := hcw.2.1 ((fK4 x.1 hcw.1).mpr cl)
          have er : rA x = (tt : Int) := by
            unfold rA
            rw [if_neg (by omega), if_neg (by omega)]
            exact t1
          rw [t1, Int.toNat_natCast] at hq2
          obtain ⟨T, s1, s2, s3, s4⟩ := m_added (P := P) a3 (j := tt) (g := g) (by omega) (by omega) (by omega) k3
          rw [er, s1, bd_some, hq2]
          refine ⟨T, ?_, s2, s3⟩
          rw [s4]
          cases (!decide (q1.1 tt ||| g = q1.1 tt)) with
          | false =>
            rw [if_pos (show bi false = 0 from rfl)]
            cases q1.2 with
            | false => rw [if_pos (show bi false = 0 from rfl)]; rfl
            | true => rw [if_neg (show ¬ bi true = 0 by decide)]; rfl
          | true =>
            rw [if_neg (show ¬ bi true = 0 by decide)]
            cases q1.2 <;> rfl
        · rw [decide_eq_false cl, if_pos (show bi false = 0 from rfl)]
          rw [if_neg cl] at hq2
          rw [hq2]
          exact ⟨A, rfl, rHf_rfl, a3⟩
      obtain ⟨bm, hbm⟩ := big_ge 100 (by decide)
      obtain ⟨D, d1, d2, d3⟩ := m_ctL (lb := (b : Int)) hP hw0 hbo hx hi hb.2.1 (rec44 := rec44) (rec58 := ja_X13_heights_L58 rec44 m) z.2.2.1.length 0 nk_big q2 B (rHv_F hP (rHf_trans a2 b2) hv0) b3 (by omega) (by omega)
      rw [hbo, hCtR_all w5 w6 w7] at d1 d3
      obtain ⟨S', i1, i2, i3⟩ := ih (i + 1) m (hCt z.2.2.1 i (e.2.2.2 - e.2.2.1) e.2.2.1 q2) D (rHv_F hP (rHf_trans a2 (rHf_trans b2 d2)) hv0) d3 (by omega) (by omega) (by omega)
      dsimp only
      rw [← hq1, ← hq2]
      refine ⟨S', ?_, rHf_trans a2 (rHf_trans b2 (rHf_trans d2 i2)), i3⟩
      have d1' : ja_X13_heights_L164 rec44 (ja_X13_heights_L58 rec44 m) nk_big 121 P (b : Int) (bi q2.2) (i : Int) 0 B = _ := d1
      rw [a1, b1, d1']
      exact i1
theorem m_rounds (hP : P = 122 ∨ P = 168) {el : List (Nat × Nat × Nat × Nat)} {b : Nat} {xb : jB} {e : Nat × Nat × Nat × Nat} (he : el[b]? = some e) (hw : wB ns us fl bl z b xb e) (hb : hBd bl z b e) : ∀ (n m : Nat) (q : (Nat → Nat) × Bool) (S : nk_S), rHv S P bl z el → rHm e S q.1 → 523264 < hSm q.1 1024 + n → n < m → ∃ S', ja_X13_heights_L44 m 121 P (b : Int) (bi q.2) S = ja_X13_heights_L232 nk_big 121 P (b : Int) (e.1 : Int) S' ∧ rHf P S S' ∧ rHm e S' (hIt bl z e n q) := by
  intro n
  induction n with
  | zero =>
    intro m q S hv hm h1 h2
    have := hSm_le hm.2 1024
    omega
  | succ n ih =>
    intro m q S hv hm h1 h2
    obtain ⟨m, rfl⟩ : ∃ q, m = q + 1 := ⟨m - 1, by omega⟩
    have hb48 := at_lt he
    have v5 := hv.2.2.2.2.1
    have h1024 := hv.2.2.2.2.2.1
    have v8 := hv.2.2.2.2.2.2.2.1
    have hlen : e.2.1 ≤ z.1.length := hw.2.2.1
    have hlt : e.1 < e.2.1 := hw.2.1
    have e12 : S.1 (P + (19 - 7)) b = (e.1 : Int) := (hv.2.2.1 b e he).1
    have hin : (0 : Int) ≤ (b : Int) ∧ (b : Int) < 48 := in_i (N := 48) (by omega)
    rw [hIt]
    have hend : ∀ (m : Nat) (T : nk_S), rHv T P bl z el → ja_X13_heights_L44 (m + 1) 121 P (b : Int) (bi false) T = ja_X13_heights_L232 nk_big 121 P (b : Int) (e.1 : Int) T := by
      intro m T hT
      have e12 : T.1 (P + (19 - 7)) b = (e.1 : Int) := (hT.2.2.1 b e he).1
      show ja_X13_heights_b44 (ja_X13_heights_L44 m) 121 P (b : Int) (bi false) T = _
      unfold ja_X13_heights_b44
      rw [if_pos (show bi false = 0 from rfl), if_pos hin, lt_eq, (jcP hP 19 (by decide) : ja_c P 19 = P + 12), Int.toNat_natCast, e12]
    obtain ⟨M, f⟩ := q
    cases f with
    | false =>
      rw [if_pos rfl]
      exact ⟨S, hend m S hv, rHf_rfl, hm⟩
    | true =>
      rw [if_neg (show ¬ ((M, true) : (Nat → Nat) × Bool).2 = false from fun h => by have h2 : true = false := h; cases h2)]
      obtain ⟨bm, hbm⟩ := big_ge 2000 (by decide)
      obtain ⟨T, t1, t2, t3⟩ := m_sweepL hP he hw hb (rec44 := ja_X13_heights_L44 m) (e.2.1 - e.1) e.1 nk_big (M, false) S hv hm (Nat.le_refl _) (by omega) (by omega)
      have hstep : ja_X13_heights_L44 (m + 1) 121 P (b : Int) (bi true) S = ja_X13_heights_L58 (ja_X13_heights_L44 m) nk_big 121 P (b : Int) (bi false) (e.1 : Int) S := by
        show ja_X13_heights_b44 (ja_X13_heights_L44 m) 121 P (b : Int) (bi true) S = _
        unfold ja_X13_heights_b44
        rw [if_neg (show ¬ bi true = 0 by decide), if_pos hin, lt_eq, (jcP hP 19 (by decide) : ja_c P 19 = P + 12), Int.toNat_natCast, e12]
        rfl
      have hup := (hSw_up hw hb h1024 (e.2.1 - e.1) e.1 (M, false) (Nat.le_refl _) (by omega) hm.2).1
      obtain ⟨q', hq'⟩ : ∃ q', q' = hSw bl z e.2.2.1 e.2.2.2 (e.2.1 - e.1) e.1 (M, false) := ⟨_, rfl⟩
      show ∃ S', ja_X13_heights_L44 (m + 1) 121 P (b : Int) (bi true) S = _ ∧ rHf P S S' ∧ rHm e S' (hIt bl z e n (hSw bl z e.2.2.1 e.2.2.2 (e.2.1 - e.1) e.1 (M, false)))
      rw [← hq'] at t1 t3 hup ⊢
      have hM2 : 523264 < hSm M 1024 + (n + 1) := h1
      cases hf : q'.2 with
      | false =>
        have hIt0 : hIt bl z e n q' = q'.1 := by
          cases n with
          | zero => rfl
          | succ n => rw [hIt, if_pos hf]
        rw [hIt0]
        obtain ⟨m, rfl⟩ : ∃ q, m = q + 1 := ⟨m - 1, by omega⟩
        refine ⟨T, ?_, t2, t3⟩
        rw [hstep]
        have t1' : ja_X13_heights_L58 (ja_X13_heights_L44 (m + 1)) nk_big 121 P (b : Int) (bi false) (e.1 : Int) S = _ := t1
        rw [t1', hf]
        exact hend m T (rHv_F hP t2 hv)
      | true =>
        have hgt : hSm M 1024 < hSm q'.1 1024 := by
          rcases hup.2 hf with h | h
          · cases h
          · exact h
        obtain ⟨S', i1, i2, i3⟩ := ih m q' T (rHv_F hP t2 hv) t3 (by omega) (by omega)
        refine ⟨S', ?_, rHf_trans t2 i2, i3⟩
        rw [hstep]
        have t1' : ja_X13_heights_L58 (ja_X13_heights_L44 m) nk_big 121 P (b : Int) (bi false) (e.1 : Int) S = _ := t1
        rw [t1']
        exact i1
end MHU
