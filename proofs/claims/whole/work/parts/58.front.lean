/-! load: cutting and form, the reference; texts that fail there. -/
noncomputable def m_rest (l1 : Nat) (S5 : nk_S) : Option (Int × nk_S) :=
      nk_bd (ja_X13_classNames 121 l1 S5) fun r7 S8 =>
      if r7 = 0 then
        some (3, S8)
      else
        nk_bd (ja_X13_members 121 l1 S8) fun r10 S11 =>
        if r10 = 0 then
          some (3, S11)
        else
          nk_bd (ja_X13_lines 121 l1 S11) fun r13 S14 =>
          if r13 = 0 then
            some (3, S14)
          else
            nk_bd (ja_X13_settled 121 l1 S14) fun r16 S17 =>
            if r16 = 0 then
              some (3, S17)
            else
              ja_X13_fault_L70 nk_big 121 l1 0 S17
/-- the reference's cells that cutting and form change -/
def m_fr (S S' : nk_S) : Prop := S'.2 = S.2 ∧ (∀ a, a ≠ 121 → a ≠ 216 → a ≠ 217 → S'.1 a = S.1 a) ∧ ∀ i, i ≠ 7 → i ≠ 10 → i ≠ 11 → i ≠ 12 → S'.1 121 i = S.1 121 i
theorem m_front {S : nk_S} {g : Nat → Int} {n : Nat} (h7 : S.1 121 7 = (n : Int)) (hn : n ≤ 16000) (he : ∀ k, k < n → g (360 + k) = S.1 215 k) {L : Bool × List (Nat × Nat)} (hL : L = lx (fun k => g (360 + k)) n 0 none false []) {X : List (List Int)} (hX : X = L.2.map fun q => sg g (360 + q.1) (360 + q.2)) : (L.1 = false → ∃ S', ja_X13_load 121 S = some (1, S') ∧ S'.1 121 12 = (L.2.length : Int) ∧ S'.1 121 7 = 0 ∧ m_fr S S') ∧ (L.1 = true → (fProg X 20000 20000 0).1 = false → ∃ S', ja_X13_load 121 S = some (2, S') ∧ S'.1 121 12 = ((fProg X 20000 20000 0).2 : Int) ∧ S'.1 121 7 = 0 ∧ m_fr S S') ∧ (L.1 = true → (fProg X 20000 20000 0).1 = true → ∃ S', ja_X13_fault 121 (S.2 121 1) S = m_rest (S.2 121 1) S' ∧ MW S' X ∧ S'.1 121 7 = (n : Int) ∧ m_fr S S') := by
  have hlen : L.2.length ≤ n := by
    have := lx_len (b := fun k => g (360 + k)) n 0 none false [] (Nat.le_refl 0)
    rw [Nat.zero_add] at this
    rw [hL]
    exact this
  have hgood : ∀ q ∈ L.2, q.1 < q.2 ∧ q.2 ≤ n := by rw [hL]; exact lx_good (n := n) n 0 none false [] (by omega) (fun q hq => by cases hq) (fun f e => by cases e)
  obtain ⟨S1, hS1⟩ : ∃ S1, S1 = nk_wi S 121 10 0 := ⟨_, rfl⟩
  have sn : ∀ a, a ≠ 121 → S1.1 a = S.1 a := fun a ha => by rw [hS1]; exact wi_n ha
  have s1 : ∀ i, i ≠ 10 → S1.1 121 i = S.1 121 i := fun i hi => by rw [hS1]; simp only [wi_v, hi, and_false, if_false]
  obtain ⟨S2, e1, e2, e3, e4, e5⟩ := mc_L (b := fun k => g (360 + k)) hn n nk_big 0 none false [] S1 (by omega) (by unfold nk_big; omega) (by rw [s1 7 (by decide)]; exact h7) (fun i hi => by rw [sn 215 (by decide)]; exact (he i hi).symm) (Nat.le_refl 0) ⟨by rw [hS1]; simp only [wi_v, and_self, if_true]; rfl, fun i q hq => by simp at hq, fun f e => by cases e⟩
  rw [← hL] at e1 e2
  have hcut : ja_X13_cut 121 S = some (bi L.1, S2) := by
    unfold ja_X13_cut
    rw [lt_eq, ← hS1]
    exact e1
  have f2 : S2.2 = S.2 := by rw [e3, hS1]; rfl
  have fn : ∀ a, a ≠ 121 → a ≠ 216 → a ≠ 217 → S2.1 a = S.1 a := fun a x y z => by rw [e4 a x y z, sn a x]
  have f1 : ∀ i, i ≠ 10 → S2.1 121 i = S.1 121 i := fun i hi => by rw [e5 i hi, s1 i hi]
  have hMW : MW S2 X := by rw [hX]; exact MW_of hn e2 hlen hgood (fun k hk => by rw [fn 215 (by decide) (by decide) (by decide)]; exact he k hk)
  have hXl : X.length ≤ 16000 := hMW.2.1
  have hform := m_isProgram hMW hXl
  have fr : ∀ S' : nk_S, S'.2 = S2.2 → (∀ a, a ≠ 121 → S'.1 a = S2.1 a) → (∀ i, i ≠ 7 → i ≠ 11 → i ≠ 12 → S'.1 121 i = S2.1 121 i) → m_fr S S' := fun S' g1 g2 g3 => ⟨g1.trans f2, fun a x y z => by rw [g2 a x, fn a x y z], fun i x y z w => by rw [g3 i x z w, f1 i y]⟩
  refine ⟨fun h => ?_, fun h hf => ?_, fun h hf => ?_⟩
  · rw [h] at hcut
    unfold ja_X13_load ja_X13_fault
    rw [hcut, bd_some, if_pos (show bi false = 0 from rfl), lt_eq, bd_some, lt_eq, if_neg (by decide)]
    refine ⟨_, rfl, ?_, ?_, fr _ rfl (fun a ha => ?_) (fun i x y z => ?_)⟩
    · simp +decide only [wi_v, if_true, if_false]; exact e2.1
    · simp +decide only [wi_v, if_true]
    · rw [wi_n ha, wi_n ha]
    · simp +decide only [wi_v, x, z, and_false, if_false]
  · rw [h] at hcut
    unfold ja_X13_load ja_X13_fault
    unfold mR at hform
    rw [hf] at hform
    rw [hcut, bd_some, if_neg (show ¬ bi true = 0 by decide), hform, bd_some, if_pos (show bi false = 0 from rfl), lt_eq, bd_some, lt_eq, if_neg (by decide)]
    refine ⟨_, rfl, ?_, ?_, fr _ rfl (fun a ha => ?_) (fun i x y z => ?_)⟩
    · simp +decide only [wi_v, if_true, if_false]; exact ma_at _ _
    · simp +decide only [wi_v, if_true]
    · rw [wi_n ha, wi_n ha]; exact wi_n ha
    · simp +decide only [wi_v, x, z, and_false, if_false]
      unfold ma
      simp +decide only [wi_v, y, and_false, if_false]
  · rw [h] at hcut
    unfold mR at hform
    rw [hf] at hform
    refine ⟨ma S2 (fProg X 20000 20000 0).2, ?_, ma_MW _ hMW, ?_, fr _ rfl (fun a ha => ?_) (fun i x y z => ?_)⟩
    · unfold ja_X13_fault
      rw [hcut, bd_some, if_neg (show ¬ bi true = 0 by decide), hform, bd_some, if_neg (show ¬ bi true = 0 by decide)]
      rfl
    · unfold ma; simp +decide only [wi_v, if_false]; rw [f1 7 (by decide)]; exact h7
    · exact wi_n ha
    · unfold ma; simp +decide only [wi_v, y, and_false, if_false]
/-- what cutting and form leave of the rest -/
def ld_g (S S' : nk_S) : Prop := S'.2 = S.2 ∧ (∀ a, a ≠ 0 → a ≠ 2 → a ≠ 4 → a ≠ 5 → a ≠ 6 → a ≠ 7 → a ≠ 8 → a ≠ 9 → a ≠ 10 → a ≠ 11 → a ≠ 85 → a ≠ 121 → a ≠ 216 → a ≠ 217 → S'.1 a = S.1 a) ∧ (∀ i, i ≠ 7 → S'.1 0 i = S.1 0 i) ∧ (∀ i, i ≠ 2 → S'.1 85 i = S.1 85 i) ∧ (∀ i, i ≠ 7 → i ≠ 10 → i ≠ 11 → i ≠ 12 → S'.1 121 i = S.1 121 i) ∧ jv_words S' ∧ S'.1 2 2 = 360 ∧ S'.1 121 7 = 0
theorem ld_gi {S S' : nk_S} (hg : ld_g S S') (h7 : S'.1 0 7 = S'.1 121 12) (hf : io_f S) (hi : io_i S) (ho : io_o S) : io_f S' ∧ io_t S' ∧ S'.1 0 7 = S'.1 121 12 ∧ io_i S' ∧ io_o S' := by
  obtain ⟨g1, g2, g3, g4, g5, g6, g7, g8⟩ := hg
  have k : ∀ a, a ≠ 0 → a ≠ 2 → a ≠ 4 → a ≠ 5 → a ≠ 6 → a ≠ 7 → a ≠ 8 → a ≠ 9 → a ≠ 10 → a ≠ 11 → a ≠ 85 → a ≠ 121 → a ≠ 216 → a ≠ 217 → S'.1 a = S.1 a := g2
  refine ⟨?_, ⟨g6.1, by rw [g7, g8]; rfl, by omega, by omega, fun i hi => by omega⟩, h7, ?_, ?_⟩
  · unfold io_f at hf ⊢
    rw [g3 1 (by decide), g3 2 (by decide), g5 4 (by decide) (by decide) (by decide) (by decide), g5 5 (by decide) (by decide) (by decide) (by decide), k 1 (by decide) (by decide) (by decide) (by decide) (by decide) (by decide) (by decide) (by decide) (by decide) (by decide) (by decide) (by decide) (by decide) (by decide), k 214 (by decide) (by decide) (by decide) (by decide) (by decide) (by decide) (by decide) (by decide) (by decide) (by decide) (by decide) (by decide) (by decide) (by decide)]
    exact hf
  · unfold io_i at hi ⊢
    rw [g3 12 (by decide), g5 55 (by decide) (by decide) (by decide) (by decide), k 112 (by decide) (by decide) (by decide) (by decide) (by decide) (by decide) (by decide) (by decide) (by decide) (by decide) (by decide) (by decide) (by decide) (by decide), k 248 (by decide) (by decide) (by decide) (by decide) (by decide) (by decide) (by decide) (by decide) (by decide) (by decide) (by decide) (by decide) (by decide) (by decide)]
    exact hi
  · unfold io_o at ho ⊢
    rw [k 113 (by decide) (by decide) (by decide) (by decide) (by decide) (by decide) (by decide) (by decide) (by decide) (by decide) (by decide) (by decide) (by decide) (by decide), k 120 (by decide) (by decide) (by decide) (by decide) (by decide) (by decide) (by decide) (by decide) (by decide) (by decide) (by decide) (by decide) (by decide) (by decide), k 249 (by decide) (by decide) (by decide) (by decide) (by decide) (by decide) (by decide) (by decide) (by decide) (by decide) (by decide) (by decide) (by decide) (by decide), g5 58 (by decide) (by decide) (by decide) (by decide), g5 59 (by decide) (by decide) (by decide) (by decide), g5 60 (by decide) (by decide) (by decide) (by decide), g5 57 (by decide) (by decide) (by decide) (by decide), g5 62 (by decide) (by decide) (by decide) (by decide)]
    exact ho
/-- a text that fails in its bytes or in its form: load answers alike -/
theorem ld_bad {Rest : nk_S → Prop} (hRw : ∀ S, Rest S → jv_words S) (hR : ∀ S S', Rest S → ld_g S S' → Rest S') {S : nk_S} (h : io_I Rest S) (hb : (tL S).1 = false ∨ (fProg (tX S) 20000 20000 0).1 = false) : ∃ r S1 S2, ja_X11_load 0 S = some (r, S1) ∧ ja_X13_load 121 S1 = some (r, S2) ∧ io_I Rest S2 := by
  obtain ⟨hf, ht, h12, hi, ho, hr⟩ := h
  obtain ⟨n1, n2, n3, n4⟩ := tN_i ht
  have hc := c_front (hRw S hr) ht
  have join : ∀ (r : Int) (S1 S2 : nk_S), ja_X11_load 0 S = some (r, S1) → ja_X13_load 121 S1 = some (r, S2) → c_fr S S1 → m_fr S1 S2 → S1.1 0 7 = S2.1 121 12 → S2.1 121 7 = 0 → ∃ r S1 S2, ja_X11_load 0 S = some (r, S1) ∧ ja_X13_load 121 S1 = some (r, S2) ∧ io_I Rest S2 := by
    intro r S1 S2 q1 q2 ⟨c1, c2, c3, c4, c5, c6⟩ ⟨d1, d2, d3⟩ q3 q4
    have k2 : ∀ a, a < 121 → S2.1 a = S1.1 a := fun a ha => d2 a (by omega) (by omega) (by omega)
    have hg : ld_g S S2 := by
      refine ⟨d1.trans c1, fun a x0 x2 x4 x5 x6 x7 x8 x9 x10 x11 x85 x121 x216 x217 => by rw [d2 a x121 x216 x217, c2 a x0 x2 x4 x5 x6 x7 x8 x9 x10 x11 x85], fun i hi => by rw [k2 0 (by decide), c3 i hi], fun i hi => by rw [k2 85 (by decide), c4 i hi], fun i x y z w => by rw [d3 i x y z w, c2 121 (by decide) (by decide) (by decide) (by decide) (by decide) (by decide) (by decide) (by decide) (by decide) (by decide) (by decide)], ?_, by rw [k2 2 (by decide)]; exact c6, q4⟩
      exact jv_words_congr (S := S1) (fun k _ => by rw [k2 3 (by decide)]) (by rw [k2 2 (by decide)]) (by rw [k2 2 (by decide)]) (fun w _ => by rw [k2 5 (by decide), k2 6 (by decide), k2 7 (by decide)]; exact ⟨rfl, rfl, rfl⟩) (k2 12 (by decide)) (fun w _ => by rw [k2 9 (by decide)]) c5
    obtain ⟨i1, i2, i3, i4, i5⟩ := ld_gi hg (by rw [k2 0 (by decide)]; exact q3) hf hi ho
    exact ⟨r, S1, S2, q1, q2, i1, i2, i3, i4, i5, hR S S2 hr hg⟩
  have mf : ∀ S1, c_fr S S1 → _ := fun S1 (hfr : c_fr S S1) => m_front (S := S1) (g := S.1 3) (n := tN S) (by rw [hfr.2.1 121 (by decide) (by decide) (by decide) (by decide) (by decide) (by decide) (by decide) (by decide) (by decide) (by decide) (by decide)]; exact n1) n2 (fun k hk => by rw [hfr.2.1 215 (by decide) (by decide) (by decide) (by decide) (by decide) (by decide) (by decide) (by decide) (by decide) (by decide) (by decide)]; exact n4 k hk) (L := tL S) rfl (X := tX S) rfl
  cases hL : (tL S).1 with
  | false =>
    obtain ⟨S1, q1, q2, q3⟩ := hc.1 hL
    obtain ⟨S2, p1, p2, p3, p4⟩ := (mf S1 q3).1 hL
    exact join 1 S1 S2 q1 p1 q3 p4 (q2.trans p2.symm) p3
  | true =>
    have hP : (fProg (tX S) 20000 20000 0).1 = false := by
      rcases hb with hb | hb
      · rw [hL] at hb; cases hb
      · exact hb
    obtain ⟨S1, q1, q2, q3⟩ := hc.2.1 hL hP
    obtain ⟨S2, p1, p2, p3, p4⟩ := (mf S1 q3).2.1 hL hP
    exact join 2 S1 S2 q1 p1 q3 p4 (q2.trans p2.symm) p3
