/-! The class cuts the text and looks at all its words. -/
def qs (S : nk_S) : Nat → Nat
  | 0 => 0
  | m + 1 => qs S m + if m < 70 then 0 else if 3 ≤ (wd S m).length then 2 else 0
theorem qs_congr {S S' : nk_S} : ∀ {c : Nat}, (∀ w, w < c → wd S' w = wd S w) → qs S' c = qs S c := by
  intro c
  induction c with
  | zero => intro _; rfl
  | succ c ih => intro h; rw [qs, qs, ih (fun w hw => h w (by omega)), h c (by omega)]
theorem qs_mono (S : nk_S) {i : Nat} : ∀ {j : Nat}, i ≤ j → qs S i ≤ qs S j := by
  intro j
  induction j with
  | zero => intro h; rw [show i = 0 by omega]; exact Nat.le_refl _
  | succ j ih =>
    intro h
    by_cases e : i = j + 1
    · rw [e]; exact Nat.le_refl _
    · have := ih (by omega)
      rw [qs]; omega
/-- three words for four bytes -/
theorem qs_pw (S : nk_S) : ∀ (c : Nat), (∀ w, w < c → 1 ≤ (wd S w).length) → 4 * ((c - 70) + qs S c) ≤ 3 * pw S c := by
  intro c
  induction c with
  | zero => intro _; simp [qs, pw]
  | succ c ih =>
    intro h
    have h1 := ih (fun w hw => h w (by omega))
    have h2 := h c (by omega)
    rw [qs, pw]
    by_cases q : c < 70
    · simp only [q, if_true]; omega
    · simp only [q, if_false]
      split <;> omega
theorem mn_mono {S S' : nk_S} {c c' v : Nat} (hv : v < c) (hc : c ≤ c') (hw : ∀ u, u < c → wd S' u = wd S u) (h10 : S'.1 10 v = S.1 10 v) (h11 : S'.1 11 v = S.1 11 v) (h : mn S c v) : mn S' c' v := by
  unfold mn at h ⊢
  rw [hw v hv, h10, h11]
  refine ⟨h.1, fun e => ?_, fun e => ?_⟩
  · obtain ⟨u, u1, u2, u3⟩ := h.2.1 e
    exact ⟨u, by omega, u2, by rw [hw u u1]; exact u3⟩
  · obtain ⟨u, x, u1, x1, u2, x2, u3, x3⟩ := h.2.2 e
    exact ⟨u, x, by omega, by omega, u2, x2, by rw [hw u u1]; exact u3, by rw [hw x x1]; exact x3⟩
theorem shp_rg (l : List Int) : 0 ≤ shp l ∧ shp l ≤ 5 := by
  have := nmS_v l
  unfold shp
  split
  · omega
  · split
    · omega
    · split
      · omega
      · split <;> omega
/-- what shapeWords may change -/
def sw_F (S S' : nk_S) (c : Nat) : Prop := S'.2 = S.2 ∧ (∀ a, a ≠ 2 → a ≠ 5 → a ≠ 6 → a ≠ 7 → a ≠ 8 → a ≠ 9 → a ≠ 10 → a ≠ 11 → S'.1 a = S.1 a) ∧ (∀ i, i ≠ 5 → S'.1 2 i = S.1 2 i) ∧ (∀ v, v < c → wd S' v = wd S v) ∧ (∀ v, v < c → S'.1 5 v = S.1 5 v ∧ S'.1 6 v = S.1 6 v ∧ S'.1 7 v = S.1 7 v) ∧ ∀ v, v < 70 → S'.1 9 v = S.1 9 v ∧ S'.1 10 v = S.1 10 v ∧ S'.1 11 v = S.1 11 v
/-- a word that was looked at -/
def lk (S : nk_S) (c v : Nat) : Prop := S.1 9 v = shp (wd S v) ∧ mn S c v ∧ (shp (wd S v) < 3 → S.1 10 v = -1 ∧ S.1 11 v = -1)
theorem sw_L {c0 : Nat} : ∀ (d m i c : Nat) (S : nk_S), WI S c → 70 ≤ i → i ≤ c → c0 ≤ c → i + d = 12288 → d < m → (∀ v, 70 ≤ v → v < i → lk S c v) → (∀ u, c0 ≤ u → u < c → nmS (wd S u) ≠ 0) → (∀ v, v < c → 1 ≤ (wd S v).length) → c + qs S c0 ≤ 12100 + qs S (min i c0) → ∃ (S' : nk_S) (c' : Nat), ja_X10_shapeWords_L2 m 2 (i : Int) S = some (0, S') ∧ WI S' c' ∧ c ≤ c' ∧ (∀ v, 70 ≤ v → v < c' → lk S' c' v) ∧ sw_F S S' c := by
  intro d
  induction d with
  | zero =>
    intro m i c S h1 h2 h3 h4 h5 h6 h7 h8 h9 h10
    obtain ⟨m, rfl⟩ : ∃ q, m = q + 1 := ⟨m - 1, by omega⟩
    have hc := h1.2.1
    refine ⟨S, c, ?_, h1, Nat.le_refl _, fun v v1 v2 => h7 v v1 (by omega), rfl, fun _ _ _ _ _ _ _ _ _ => rfl, fun _ _ => rfl, fun _ _ => rfl, fun _ _ => ⟨rfl, rfl, rfl⟩, fun _ _ => ⟨rfl, rfl, rfl⟩⟩
    show ja_X10_shapeWords_b2 (ja_X10_shapeWords_L2 m) 2 _ S = _
    unfold ja_X10_shapeWords_b2
    rw [if_pos (by omega)]
  | succ d ih =>
    intro m i c S h1 h2 h3 h4 h5 h6 h7 h8 h9 h10
    obtain ⟨m, rfl⟩ : ∃ q, m = q + 1 := ⟨m - 1, by omega⟩
    show ∃ (S' : nk_S) (c' : Nat), ja_X10_shapeWords_b2 (ja_X10_shapeWords_L2 m) 2 _ S = _ ∧ _
    unfold ja_X10_shapeWords_b2
    rw [if_neg (by omega), h1.1]
    by_cases hi : (c : Int) ≤ (i : Int)
    · rw [if_pos hi]
      exact ⟨S, c, rfl, h1, Nat.le_refl _, fun v v1 v2 => h7 v v1 (by omega), rfl, fun _ _ _ _ _ _ _ _ _ => rfl, fun _ _ => rfl, fun _ _ => rfl, fun _ _ => ⟨rfl, rfl, rfl⟩, fun _ _ => ⟨rfl, rfl, rfl⟩⟩
    · rw [if_neg hi, if_pos (in_i (N := 12288) (by omega)), lt_eq, lt_eq, jc_2_13, jc_2_14, Int.toNat_natCast]
      have hW2 : WI (nk_wi (nk_wi S 10 i (-1)) 11 i (-1)) c := so_wi (Or.inr rfl) (so_wi (Or.inl rfl) h1)
      have hwd2 : ∀ v, wd (nk_wi (nk_wi S 10 i (-1)) 11 i (-1)) v = wd S v := fun v => by rw [so_wd (Or.inr rfl), so_wd (Or.inl rfl)]
      have hle : qs S (min i c0) ≤ qs S c0 := qs_mono S (by omega)
      obtain ⟨S1, c1, e1, e2, e3, e4, e5, e6, e7, e8, e9, e10⟩ := so_c hW2 (w := i) (by omega) (by omega) (by rw [hwd2]; exact h9 i (by omega))
      rw [hwd2] at e1 e5 e10
      have hr := shp_rg (wd S i)
      rw [e1, bd_some, lt_eq, lt_eq, jc_2_12, i2b_2, i2b_id (by omega) (by omega), w_nat1 (by omega)]
      have hwd3 : ∀ v, v < c → wd (nk_wi S1 9 i (shp (wd S i))) v = wd S v := fun v hv => by
        rw [wd_congr (S := S1) (wi_n (by decide)) (by rw [wi_n (by decide)]) (by rw [wi_n (by decide)]), e6.2.2.2.1 v hv, hwd2]
      have hwd4 : ∀ v, wd (nk_wi S1 9 i (shp (wd S i))) v = wd S1 v := fun v => wd_congr (wi_n (by decide)) (by rw [wi_n (by decide)]) (by rw [wi_n (by decide)])
      have hW3 : WI (nk_wi S1 9 i (shp (wd S i))) c1 := WI_congr (by simp +decide only [wi_v, false_and, if_false]) (wi_n (by decide)) (wi_n (by decide)) (wi_n (by decide)) (wi_n (by decide)) (wi_n (by decide)) e2
      have k10 : ∀ v, v ≠ i → (nk_wi S1 9 i (shp (wd S i))).1 10 v = S.1 10 v ∧ (nk_wi S1 9 i (shp (wd S i))).1 11 v = S.1 11 v := fun v hv => by
        obtain ⟨p1, p2⟩ := e8 v hv
        refine ⟨?_, ?_⟩
        · rw [wi_n (by decide), p1]; simp +decide only [wi_v, hv, false_and, and_false, if_false]
        · rw [wi_n (by decide), p2]; simp +decide only [wi_v, hv, false_and, and_false, if_false]
      obtain ⟨S', c', p1, p2, p3, p4, p5⟩ := ih m (i + 1) c1 (nk_wi S1 9 i (shp (wd S i))) hW3 (by omega) (by omega) (by omega) (by omega) (by omega) (fun v v1 v2 => by
          by_cases hv : v = i
          · subst hv
            refine ⟨?_, ?_, fun h => ?_⟩
            · rw [hwd3 v (by omega)]; simp only [wi_v, and_self, if_true]
            · exact mn_mono (c := c1) (S := S1) (by omega) (Nat.le_refl _) (fun u _ => hwd4 u) (by rw [wi_n (by decide)]) (by rw [wi_n (by decide)]) e9
            · rw [hwd3 v (by omega)] at h
              obtain ⟨q1, q2⟩ := e10 h
              refine ⟨?_, ?_⟩
              · rw [wi_n (by decide), q1]; simp +decide only [wi_v, false_and, and_self, if_true, if_false]
              · rw [wi_n (by decide), q2]; simp +decide only [wi_v, and_self, if_true]
          · obtain ⟨g1, g2, g3⟩ := h7 v v1 (by omega)
            obtain ⟨q1, q2⟩ := k10 v hv
            refine ⟨?_, ?_, fun h => ?_⟩
            · rw [hwd3 v (by omega)]
              simp only [wi_v, hv, and_false, if_false]
              rw [e6.2.1 9 (by decide) (by decide) (by decide) (by decide) (by decide) (by decide) (by decide), wi_n (by decide), wi_n (by decide)]
              exact g1
            · exact mn_mono (c := c) (S := S) (by omega) e3 hwd3 q1 q2 g2
            · rw [hwd3 v (by omega)] at h
              rw [q1, q2]; exact g3 h) (fun u u1 u2 => by
          rw [hwd4]
          by_cases hu : u < c
          · rw [e6.2.2.2.1 u hu, hwd2]; exact h8 u u1 hu
          · exact e7 u (by omega) u2) (fun v hv => by
          rw [hwd4]
          by_cases hu : v < c
          · rw [e6.2.2.2.1 v hu, hwd2]; exact h9 v hu
          · exact nmS_pos (e7 v (by omega) hv)) (by
          rw [qs_congr (S := S) (c := c0) (fun w hw => hwd3 w (by omega)), qs_congr (S := S) (c := min (i + 1) c0) (fun w hw => hwd3 w (by omega))]
          by_cases hic : i < c0
          · rw [show min (i + 1) c0 = i + 1 by omega, qs]
            rw [show min i c0 = i by omega] at h10
            simp only [show ¬ i < 70 by omega, if_false]
            by_cases h3l : 3 ≤ (wd S i).length
            · rw [if_pos h3l]; omega
            · rw [if_neg h3l]
              have : c1 = c := by
                by_cases hh : c < c1
                · exact absurd (e5 hh).1 h3l
                · omega
              omega
          · rw [show min (i + 1) c0 = c0 by omega]
            rw [show min i c0 = c0 by omega] at h10
            have hpl := h8 i (by omega) (by omega)
            have : c1 = c := by
              by_cases hh : c < c1
              · exact absurd (e5 hh).2 hpl
              · omega
            omega)
      refine ⟨S', c', p1, p2, by omega, p4, p5.1.trans e6.1, fun a a2 a5 a6 a7 a8 a9 a10 a11 => ?_, fun j hj => ?_, fun v hv => ?_, fun v hv => ?_, fun v hv => ?_⟩
      · rw [p5.2.1 a a2 a5 a6 a7 a8 a9 a10 a11, wi_n a9, e6.2.1 a a2 a5 a6 a7 a8 a10 a11, wi_n a11, wi_n a10]
      · rw [p5.2.2.1 j hj, wi_n (by decide), e6.2.2.1 j hj, wi_n (by decide), wi_n (by decide)]
      · rw [p5.2.2.2.1 v (by omega)]; exact hwd3 v hv
      · obtain ⟨q1, q2, q3⟩ := p5.2.2.2.2.1 v (by omega)
        obtain ⟨r1, r2, r3⟩ := e6.2.2.2.2 v hv
        refine ⟨?_, ?_, ?_⟩
        · rw [q1, wi_n (by decide), r1, wi_n (by decide), wi_n (by decide)]
        · rw [q2, wi_n (by decide), r2, wi_n (by decide), wi_n (by decide)]
        · rw [q3, wi_n (by decide), r3, wi_n (by decide), wi_n (by decide)]
      · obtain ⟨q1, q2, q3⟩ := p5.2.2.2.2.2 v hv
        obtain ⟨r1, r2⟩ := k10 v (by omega)
        refine ⟨?_, q2.trans r1, q3.trans r2⟩
        rw [q1]
        simp only [wi_v, show ¬ v = i by omega, and_false, if_false]
        rw [e6.2.1 9 (by decide) (by decide) (by decide) (by decide) (by decide) (by decide) (by decide), wi_n (by decide), wi_n (by decide)]
/-! the words that every text knows mean nothing but the known classes -/
theorem fm_L : ∀ (d m i : Nat) (S : nk_S), i + d = 70 → d < m → S.1 2 10 = 70 → ∃ S', ja_X10_forgetMeanings_L2 m 2 (i : Int) S = some (0, S') ∧ S'.2 = S.2 ∧ (∀ a, a ≠ 10 → a ≠ 11 → S'.1 a = S.1 a) ∧ (∀ v, i ≤ v → v < 70 → S'.1 10 v = (if 60 ≤ v ∧ v < 68 then ((v - 60 : Nat) : Int) else -1) ∧ S'.1 11 v = -1) ∧ ∀ v, v < i → S'.1 10 v = S.1 10 v ∧ S'.1 11 v = S.1 11 v := by
  intro d
  induction d with
  | zero =>
    intro m i S h1 h2 h3
    obtain ⟨m, rfl⟩ : ∃ q, m = q + 1 := ⟨m - 1, by omega⟩
    refine ⟨S, ?_, rfl, fun _ _ _ => rfl, fun v v1 v2 => by omega, fun _ _ => ⟨rfl, rfl⟩⟩
    show ja_X10_forgetMeanings_b2 (ja_X10_forgetMeanings_L2 m) 2 _ S = _
    unfold ja_X10_forgetMeanings_b2
    rw [h3, if_pos (by omega)]
  | succ d ih =>
    intro m i S h1 h2 h3
    obtain ⟨m, rfl⟩ : ∃ q, m = q + 1 := ⟨m - 1, by omega⟩
    show ∃ S', ja_X10_forgetMeanings_b2 (ja_X10_forgetMeanings_L2 m) 2 _ S = _ ∧ _
    have e1 : ja_X10_forgetMeanings_b2 (ja_X10_forgetMeanings_L2 m) 2 (i : Int) S = ja_X10_forgetMeanings_L2 m 2 ((i + 1 : Nat) : Int) (nk_wi (nk_wi S 10 i (if 60 ≤ i ∧ i < 68 then ((i - 60 : Nat) : Int) else -1)) 11 i (-1)) := by
      unfold ja_X10_forgetMeanings_b2 ja_X10_forgetMeanings_b34 ja_X10_forgetMeanings_b35
      rw [h3, if_neg (by omega), lt_eq, jc_2_13, jc_2_14, nk_w_id (z := (i : Int) - 60) (by omega) (by omega), w_nat1 (by omega)]
      simp only [lt_eq, Int.toNat_natCast, if_pos (in_i (a := i) (N := 12288) (by omega))]
      by_cases c1 : (i : Int) - 60 < 0
      · rw [if_pos c1, if_neg (by omega)]
      · rw [if_neg c1]
        by_cases c2 : (8 : Int) ≤ (i : Int) - 60
        · rw [if_pos c2, if_neg (by omega)]
        · rw [if_neg c2, if_pos (by omega), show (i : Int) - 60 = ((i - 60 : Nat) : Int) by omega]
    rw [e1]
    obtain ⟨S', p1, p2, p3, p4, p5⟩ := ih m (i + 1) (nk_wi (nk_wi S 10 i (if 60 ≤ i ∧ i < 68 then ((i - 60 : Nat) : Int) else -1)) 11 i (-1)) (by omega) (by omega) (by rw [wi_n (by decide), wi_n (by decide)]; exact h3)
    refine ⟨S', p1, p2, fun a a1 a2 => by rw [p3 a a1 a2, wi_n a2, wi_n a1], fun v v1 v2 => ?_, fun v hv => ?_⟩
    · by_cases e : v = i
      · subst e
        obtain ⟨q1, q2⟩ := p5 v (by omega)
        rw [q1, q2]
        refine ⟨?_, ?_⟩
        · rw [wi_n (by decide)]; simp only [wi_v, and_self, if_true]
        · simp only [wi_v, and_self, if_true]
      · exact p4 v (by omega) v2
    · obtain ⟨q1, q2⟩ := p5 v (by omega)
      rw [q1, q2]
      have : ¬ v = i := by omega
      refine ⟨?_, ?_⟩
      · rw [wi_n (by decide)]; simp only [wi_v, this, and_false, if_false]
      · simp +decide only [wi_v, this, and_false, false_and, if_false]
