/-! The class begins: places of fields, an empty table. -/
def nV (b : Bool) : Int := if b = true then 9223372034707292160 else 0
theorem x8_nv (b : Bool) (S : nk_S) : ja_X8_nothing (bi b) S = some (nV b, S) := by
  obtain ⟨r, r1, r2⟩ := x8_no b S
  rw [r1, r2]; rfl
section CBG
variable {us : List Int} {fl : List (List Int × Nat × Int)} {Q : Nat}
/-- the fields of a class get their places -/
theorem c_plF (hQ : Q = 13 ∨ Q = 49) (h48 : fl.length ≤ 48) {c : Nat} (hc : c < 32) {rec5 : Nat → Int → Int → nk_S → Option (Int × nk_S)} : ∀ (d f m : Nat) (T : nk_S), f + d = fl.length → d < m → T.1 (Q + 1) 4 = (fl.length : Int) → ∃ f' T', f' ≤ fl.length ∧ ja_X1_placeFields_L30 rec5 m (Q + 1) (f : Int) (c : Int) T = rec5 (Q + 1) (f' : Int) ((c + 1 : Nat) : Int) T' ∧ T'.2 = T.2 ∧ ∀ a, a ≠ Q + 4 → a ≠ Q + 8 → T'.1 a = T.1 a := by
  have e4 : ja_c (Q + 1) 6 = Q + 6 ∧ ja_c (Q + 1) 8 = Q + 8 ∧ ja_c (Q + 1) 3 = Q + 4 := by rcases hQ with rfl | rfl <;> exact ⟨rfl, rfl, rfl⟩
  have ec : ∀ _ : Unit, nk_w ((c : Int) + 1) = ((c + 1 : Nat) : Int) := fun _ => w_nat1 (by omega)
  intro d
  induction d with
  | zero =>
    intro f m T h1 h2 h3
    obtain ⟨m, rfl⟩ : ∃ q, m = q + 1 := ⟨m - 1, by omega⟩
    refine ⟨f, T, by omega, ?_, rfl, fun _ _ _ => rfl⟩
    show ja_X1_placeFields_b30 rec5 _ (Q + 1) _ _ _ = _
    unfold ja_X1_placeFields_b30
    rw [h3, if_pos (by omega), ec (), lt_eq]
  | succ d ih =>
    intro f m T h1 h2 h3
    obtain ⟨m, rfl⟩ : ∃ q, m = q + 1 := ⟨m - 1, by omega⟩
    have ef : ∀ _ : Unit, nk_w ((f : Int) + 1) = ((f + 1 : Nat) : Int) := fun _ => w_nat1 (by omega)
    show ∃ f' T', f' ≤ fl.length ∧ ja_X1_placeFields_b30 rec5 (ja_X1_placeFields_L30 rec5 m) (Q + 1) _ _ _ = _ ∧ _
    unfold ja_X1_placeFields_b30
    rw [h3, if_neg (by omega), if_pos (in_i (N := 48) (by omega)), e4.1, e4.2.1, e4.2.2, Int.toNat_natCast, Int.toNat_natCast]
    by_cases q : T.1 (Q + 6) f = (c : Int)
    · obtain ⟨T2, hT2⟩ : ∃ T2, T2 = nk_wi (nk_wi T (Q + 8) f (T.1 (Q + 4) c)) (Q + 4) c (nk_w ((nk_wi T (Q + 8) f (T.1 (Q + 4) c)).1 (Q + 4) c + 1)) := ⟨_, rfl⟩
      have tn : ∀ a, a ≠ Q + 4 → a ≠ Q + 8 → T2.1 a = T.1 a := fun a h1 h2 => by rw [hT2, wi_n h1, wi_n h2]
      obtain ⟨f', T', g1, g2, g3, g4⟩ := ih (f + 1) m T2 (by omega) (by omega) (by rw [tn (Q + 1) (by omega) (by omega)]; exact h3)
      refine ⟨f', T', g1, ?_, by rw [g3, hT2]; rfl, fun a h1 h2 => by rw [g4 a h1 h2, tn a h1 h2]⟩
      rw [if_pos q, if_pos (in_i (N := 32) (by omega)), lt_eq, ← hT2, lt_eq, ef (), lt_eq]
      exact g2
    · refine ⟨f, T, by omega, ?_, rfl, fun _ _ _ => rfl⟩
      rw [if_neg q, ec (), lt_eq]
theorem c_plL (hQ : Q = 13 ∨ Q = 49) (hu : uOk us) (h32 : us.length ≤ 32) (h48 : fl.length ≤ 48) : ∀ (d c f m : Nat) (T : nk_S), c + d = us.length → 8 ≤ c → d < m → f ≤ fl.length → cU T Q us → T.1 (Q + 1) 4 = (fl.length : Int) → ∃ T', ja_X1_placeFields_L5 m (Q + 1) (f : Int) (c : Int) T = some (0, T') ∧ T'.2 = T.2 ∧ ∀ a, a ≠ Q + 4 → a ≠ Q + 8 → T'.1 a = T.1 a := by
  have e4 : ja_c (Q + 1) 1 = Q + 2 ∧ ja_c (Q + 1) 3 = Q + 4 := by rcases hQ with rfl | rfl <;> exact ⟨rfl, rfl⟩
  intro d
  induction d with
  | zero =>
    intro c f m T h1 h8 h2 hf hU h4
    obtain ⟨m, rfl⟩ : ∃ q, m = q + 1 := ⟨m - 1, by omega⟩
    refine ⟨T, ?_, rfl, fun _ _ _ => rfl⟩
    show ja_X1_placeFields_b5 _ (Q + 1) _ _ _ = _
    unfold ja_X1_placeFields_b5
    rw [hU.1, if_pos (by omega)]
  | succ d ih =>
    intro c f m T h1 h8 h2 hf hU h4
    obtain ⟨m, rfl⟩ : ∃ q, m = q + 1 := ⟨m - 1, by omega⟩
    obtain ⟨p, p1, p2⟩ := hu.2 c (by omega) (by omega)
    have hp : T.1 (Q + 2) c = (p : Int) := by rw [hU.2.1 c (by omega), p1]
    obtain ⟨T1, hT1⟩ : ∃ T1, T1 = nk_wi T (Q + 4) c (T.1 (Q + 4) p) := ⟨_, rfl⟩
    have tn : ∀ a, a ≠ Q + 4 → T1.1 a = T.1 a := fun a h1 => by rw [hT1, wi_n h1]
    obtain ⟨f', T2, g1, g2, g3, g4⟩ := c_plF (rec5 := ja_X1_placeFields_L5 m) hQ h48 (c := c) (by omega) (fl.length - f) f nk_big T1 (by omega) (by obtain ⟨q, hq⟩ := big_ge 100 (by decide); omega) (by rw [tn _ (by omega)]; exact h4)
    have hU2 : cU T2 Q us := by
      unfold cU at hU ⊢
      rw [g4 (Q + 1) (by omega) (by omega), g4 (Q + 2) (by omega) (by omega), g4 (Q + 3) (by omega) (by omega), tn (Q + 1) (by omega), tn (Q + 2) (by omega), tn (Q + 3) (by omega)]
      exact hU
    obtain ⟨T3, k1, k2, k3⟩ := ih (c + 1) f' m T2 (by omega) (by omega) (by omega) g1 hU2 (by rw [g4 (Q + 1) (by omega) (by omega), tn _ (by omega)]; exact h4)
    refine ⟨T3, ?_, by rw [k2, g3, hT1]; rfl, fun a h1 h2 => by rw [k3 a h1 h2, g4 a h1 h2, tn a h1]⟩
    show ja_X1_placeFields_b5 (ja_X1_placeFields_L5 m) (Q + 1) _ _ _ = _
    unfold ja_X1_placeFields_b5
    rw [hU.1, if_neg (by omega), if_pos (in_i (N := 32) (by omega)), e4.1, e4.2, Int.toNat_natCast, hp, if_pos (in_i (N := 32) (by omega)), Int.toNat_natCast, ← hT1, lt_eq, g2]
    exact k1
/-- a row of fields is emptied -/
theorem c_clF (hQ : Q = 13 ∨ Q = 49) (h48 : fl.length ≤ 48) {s : Nat} (hs : s < 48) {rec2 : Nat → Nat → Int → nk_S → Option (Int × nk_S)} : ∀ (d f m : Nat) (T : nk_S), f + d = fl.length → d < m → T.1 (Q + 1) 4 = (fl.length : Int) → (∀ (f : Nat) (y : List Int × Nat × Int), fl[f]? = some y → T.1 (Q + 7) f = y.2.2) → ∃ T', ja_X8_clear_L43 rec2 m 100 Q (s : Int) (f : Int) T = rec2 100 Q ((s + 1 : Nat) : Int) T' ∧ T'.2 = T.2 ∧ (∀ a, a ≠ 101 → T'.1 a = T.1 a) ∧ (∀ k, k < s * 48 + f ∨ s * 48 + fl.length ≤ k → T'.1 101 k = T.1 101 k) ∧ ∀ (f' : Nat) (y : List Int × Nat × Int), f ≤ f' → fl[f']? = some y → T'.1 101 (s * 48 + f') = nV (decide (y.2.2 = 1)) := by
  have e4 : ja_c Q 0 = Q + 1 ∧ ja_c (Q + 1) 7 = Q + 7 := by rcases hQ with rfl | rfl <;> exact ⟨rfl, rfl⟩
  have es : ∀ _ : Unit, nk_w ((s : Int) + 1) = ((s + 1 : Nat) : Int) := fun _ => w_nat1 (by omega)
  intro d
  induction d with
  | zero =>
    intro f m T h1 h2 h3 h7
    obtain ⟨m, rfl⟩ : ∃ q, m = q + 1 := ⟨m - 1, by omega⟩
    refine ⟨T, ?_, rfl, fun _ _ => rfl, fun _ _ => rfl, fun f' y hf hy => by have := at_lt hy; omega⟩
    show ja_X8_clear_b43 rec2 _ 100 Q _ _ _ = _
    unfold ja_X8_clear_b43
    rw [e4.1, h3, if_pos (by omega), es (), lt_eq]
  | succ d ih =>
    intro f m T h1 h2 h3 h7
    obtain ⟨m, rfl⟩ : ∃ q, m = q + 1 := ⟨m - 1, by omega⟩
    obtain ⟨y, hy⟩ : ∃ y, fl[f]? = some y := ⟨_, List.getElem?_eq_getElem (by omega)⟩
    have ef : ∀ _ : Unit, nk_w ((f : Int) + 1) = ((f + 1 : Nat) : Int) := fun _ => w_nat1 (by omega)
    have hidx : ∀ _ : Unit, nk_w (nk_w ((s : Int) * 48) + (f : Int)) = ((s * 48 + f : Nat) : Int) := fun _ => by
      have h2 : ((s * 48 + f : Nat) : Int) = (s : Int) * 48 + (f : Int) := by omega
      rw [h2, nk_w_id (z := (s : Int) * 48) (by omega) (by omega), nk_w_id (z := (s : Int) * 48 + (f : Int)) (by omega) (by omega)]
    obtain ⟨T2, hT2⟩ : ∃ T2, T2 = nk_wi T 101 (s * 48 + f) (nV (decide (y.2.2 = 1))) := ⟨_, rfl⟩
    have tn : ∀ a, a ≠ 101 → T2.1 a = T.1 a := fun a h1 => by rw [hT2, wi_n h1]
    obtain ⟨T', g1, g2, g3, g4, g5⟩ := ih (f + 1) m T2 (by omega) (by omega) (by rw [tn (Q + 1) (by omega)]; exact h3) (fun f' y' hy' => by rw [tn (Q + 7) (by omega)]; exact h7 f' y' hy')
    refine ⟨T', ?_, by rw [g2, hT2]; rfl, fun a ha => by rw [g3 a ha, tn a ha], fun k hk => ?_, fun f' y' hf' hy' => ?_⟩
    · show ja_X8_clear_b43 rec2 (ja_X8_clear_L43 rec2 m) 100 Q _ _ _ = _
      unfold ja_X8_clear_b43
      rw [e4.1, h3, if_neg (by omega), if_pos (in_i (N := 48) (by omega)), e4.2, Int.toNat_natCast, h7 f y hy, jc_100_0, hidx ()]
      have b82 : ja_X8_clear_b82 rec2 (ja_X8_clear_L43 rec2 m) 100 Q (s : Int) (f : Int) 101 ((s * 48 + f : Nat) : Int) (bi (decide (y.2.2 = 1))) T = rec2 100 Q ((s + 1 : Nat) : Int) T' := by
        unfold ja_X8_clear_b82
        rw [x8_nv, bd_some, if_pos (in_i (N := 2304) (by omega)), Int.toNat_natCast, ← hT2, lt_eq, ef (), lt_eq]
        exact g1
      by_cases q : y.2.2 = 1
      · rw [decide_eq_true q] at b82
        rw [if_pos q]; exact b82
      · rw [decide_eq_false q] at b82
        rw [if_neg q]; exact b82
    · rw [g4 k (by omega), hT2, wi_at, if_neg (by omega)]
    · by_cases e : f' = f
      · rw [e, g4 _ (Or.inl (by omega)), hT2, wi_at, if_pos rfl]
        rw [e, hy] at hy'
        cases hy'
        rfl
      · exact g5 f' y' (by omega) hy'
def cl3 (fl : List (List Int × Nat × Int)) (Q : Nat) (T : nk_S) (s : Nat) : Prop := T.1 103 s = 9223372034707292160 ∧ T.1 102 s = nV (decide (T.1 (Q + 31) s = 3)) ∧ ∀ (f : Nat) (y : List Int × Nat × Int), fl[f]? = some y → T.1 101 (s * 48 + f) = nV (decide (y.2.2 = 1))
theorem c_clS (hQ : Q = 13 ∨ Q = 49) (h48 : fl.length ≤ 48) : ∀ (d s m : Nat) (T : nk_S), s + d = 48 → d < m → T.1 (Q + 1) 4 = (fl.length : Int) → (∀ (f : Nat) (y : List Int × Nat × Int), fl[f]? = some y → T.1 (Q + 7) f = y.2.2) → (∀ s', s' < s → cl3 fl Q T s') → ∃ T', ja_X8_clear_L2 m 100 Q (s : Int) T = ja_X8_clear_L100 nk_big 100 Q 0 T' ∧ T'.2 = T.2 ∧ (∀ a, a < 101 ∨ 104 ≤ a → T'.1 a = T.1 a) ∧ ∀ s', s' < 48 → cl3 fl Q T' s' := by
  have e31 : ja_c Q 11 = Q + 31 := (jc_Q2 hQ).2.2.1
  intro d
  induction d with
  | zero =>
    intro s m T h1 h2 h3 h7 hd
    obtain ⟨m, rfl⟩ : ∃ q, m = q + 1 := ⟨m - 1, by omega⟩
    refine ⟨T, ?_, rfl, fun _ _ => rfl, fun s' hs' => hd s' (by omega)⟩
    show ja_X8_clear_b2 _ 100 Q _ _ = _
    unfold ja_X8_clear_b2
    rw [if_pos (by omega)]
  | succ d ih =>
    intro s m T h1 h2 h3 h7 hd
    obtain ⟨m, rfl⟩ : ∃ q, m = q + 1 := ⟨m - 1, by omega⟩
    obtain ⟨T1, hT1⟩ : ∃ T1, T1 = nk_wi T 103 s 9223372034707292160 := ⟨_, rfl⟩
    obtain ⟨T2, hT2⟩ : ∃ T2, T2 = nk_wi T1 102 s (nV (decide (T1.1 (Q + 31) s = 3))) := ⟨_, rfl⟩
    have t1 : ∀ a, a ≠ 103 → T1.1 a = T.1 a := fun a h1 => by rw [hT1, wi_n h1]
    have t2 : ∀ a, a ≠ 102 → T2.1 a = T1.1 a := fun a h1 => by rw [hT2, wi_n h1]
    obtain ⟨T3, g1, g2, g3, g4, g5⟩ := c_clF (rec2 := ja_X8_clear_L2 m) hQ h48 (s := s) (by omega) fl.length 0 nk_big T2 (by omega) (by obtain ⟨q, hq⟩ := big_ge 100 (by decide); omega) (by rw [t2 _ (by omega), t1 _ (by omega)]; exact h3) (fun f y hy => by rw [t2 _ (by omega), t1 _ (by omega)]; exact h7 f y hy)
    have h31 : T3.1 (Q + 31) = T.1 (Q + 31) := by rw [g3 _ (by omega), t2 _ (by omega), t1 _ (by omega)]
    have hd3 : ∀ s', s' < s + 1 → cl3 fl Q T3 s' := fun s' hs' => by
      unfold cl3
      rw [h31, g3 103 (by decide), g3 102 (by decide), t2 103 (by decide)]
      by_cases e : s' = s
      · rw [e]
        refine ⟨by rw [hT1, wi_at, if_pos rfl], by rw [hT2, wi_at, if_pos rfl, t1 _ (by omega)], fun f y hy => g5 f y (by omega) hy⟩
      · obtain ⟨b1, b2, b3⟩ := hd s' (by omega)
        refine ⟨by rw [hT1, wi_at, if_neg e]; exact b1, by rw [hT2, wi_at, if_neg e, t1 102 (by decide)]; exact b2, fun f y hy => ?_⟩
        have := at_lt hy
        rw [g4 _ (Or.inl (by omega)), t2 101 (by decide), t1 101 (by decide)]
        exact b3 f y hy
    obtain ⟨T', k1, k2, k3, k4⟩ := ih (s + 1) m T3 (by omega) (by omega) (by rw [g3 _ (by omega), t2 _ (by omega), t1 _ (by omega)]; exact h3) (fun f y hy => by rw [g3 _ (by omega), t2 _ (by omega), t1 _ (by omega)]; exact h7 f y hy) hd3
    refine ⟨T', ?_, by rw [k2, g2, hT2, hT1]; rfl, fun a ha => by rw [k3 a ha, g3 a (by omega), t2 a (by omega), t1 a (by omega)], k4⟩
    show ja_X8_clear_b2 (ja_X8_clear_L2 m) 100 Q _ _ = _
    unfold ja_X8_clear_b2
    rw [if_neg (by omega), if_pos (in_i (N := 48) (by omega)), jc_100_2, Int.toNat_natCast, ← hT1, lt_eq, if_pos (in_i (N := 54) (by omega)), e31, jc_100_1]
    have b37 : ja_X8_clear_b37 (ja_X8_clear_L2 m) 100 Q (s : Int) 102 (s : Int) (bi (decide (T1.1 (Q + 31) s = 3))) T1 = ja_X8_clear_L100 nk_big 100 Q 0 T' := by
      unfold ja_X8_clear_b37
      rw [x8_nv, bd_some, if_pos (in_i (N := 48) (by omega)), Int.toNat_natCast, ← hT2, lt_eq]
      have g1' : ja_X8_clear_L43 (ja_X8_clear_L2 m) nk_big 100 Q (s : Int) 0 T2 = ja_X8_clear_L2 m 100 Q ((s + 1 : Nat) : Int) T3 := g1
      rw [g1']
      exact k1
    by_cases q : T1.1 (Q + 31) s = 3
    · rw [decide_eq_true q] at b37
      rw [if_pos q]; exact b37
    · rw [decide_eq_false q] at b37
      rw [if_neg q]; exact b37
def cl4 (Q : Nat) (T : nk_S) (b : Nat) : Prop := T.1 104 b = nV (decide (T.1 (Q + 15) b = 1)) ∧ T.1 105 b = 0 ∧ T.1 106 b = 0
theorem c_clB (hQ : Q = 13 ∨ Q = 49) : ∀ (d b m : Nat) (T : nk_S), b + d = 48 → d < m → (∀ b', b' < b → cl4 Q T b') → ∃ T', ja_X8_clear_L100 m 100 Q (b : Int) T = some (0, T') ∧ T'.2 = T.2 ∧ (∀ a, a < 104 ∨ 107 ≤ a → T'.1 a = T.1 a) ∧ ∀ b', b' < 48 → cl4 Q T' b' := by
  have e15 : ja_c Q 1 = Q + 9 ∧ ja_c (Q + 9) 7 = Q + 15 := ⟨(jc_Q2 hQ).1, (jc_Q9 hQ).2.2.2.2.2.1⟩
  intro d
  induction d with
  | zero =>
    intro b m T h1 h2 hd
    obtain ⟨m, rfl⟩ : ∃ q, m = q + 1 := ⟨m - 1, by omega⟩
    refine ⟨T, ?_, rfl, fun _ _ => rfl, fun s' hs' => hd s' (by omega)⟩
    show ja_X8_clear_b100 _ 100 Q _ _ = _
    unfold ja_X8_clear_b100
    rw [if_pos (by omega)]
  | succ d ih =>
    intro b m T h1 h2 hd
    obtain ⟨m, rfl⟩ : ∃ q, m = q + 1 := ⟨m - 1, by omega⟩
    have eb : ∀ _ : Unit, nk_w ((b : Int) + 1) = ((b + 1 : Nat) : Int) := fun _ => w_nat1 (by omega)
    obtain ⟨T1, hT1⟩ : ∃ T1, T1 = nk_wi (nk_wi (nk_wi T 104 b (nV (decide (T.1 (Q + 15) b = 1)))) 105 b 0) 106 b 0 := ⟨_, rfl⟩
    have tn : ∀ a, a ≠ 104 → a ≠ 105 → a ≠ 106 → T1.1 a = T.1 a := fun a h1 h2 h3 => by rw [hT1, wi_n h3, wi_n h2, wi_n h1]
    have hd1 : ∀ b', b' < b + 1 → cl4 Q T1 b' := fun b' hb' => by
      unfold cl4
      rw [tn (Q + 15) (by omega) (by omega) (by omega)]
      by_cases e : b' = b
      · rw [e]
        refine ⟨by rw [hT1, wi_n (by decide), wi_n (by decide), wi_at, if_pos rfl], by rw [hT1, wi_n (by decide), wi_at, if_pos rfl], by rw [hT1, wi_at, if_pos rfl]⟩
      · obtain ⟨b1, b2, b3⟩ := hd b' (by omega)
        refine ⟨by rw [hT1, wi_n (by decide), wi_n (by decide), wi_at, if_neg e]; exact b1, by rw [hT1, wi_n (by decide), wi_at, if_neg e, wi_n (by decide)]; exact b2, by rw [hT1, wi_at, if_neg e, wi_n (by decide), wi_n (by decide)]; exact b3⟩
    obtain ⟨T', k1, k2, k3, k4⟩ := ih (b + 1) m T1 (by omega) (by omega) hd1
    refine ⟨T', ?_, by rw [k2, hT1]; rfl, fun a ha => by rw [k3 a ha, tn a (by omega) (by omega) (by omega)], k4⟩
    show ja_X8_clear_b100 (ja_X8_clear_L100 m) 100 Q _ _ = _
    unfold ja_X8_clear_b100
    rw [if_neg (by omega), if_pos (in_i (N := 48) (by omega)), e15.1, e15.2, Int.toNat_natCast, jc_100_3]
    have b129 : ja_X8_clear_b129 (ja_X8_clear_L100 m) 100 Q (b : Int) 104 (b : Int) (bi (decide (T.1 (Q + 15) b = 1))) T = some (0, T') := by
      unfold ja_X8_clear_b129
      rw [x8_nv, bd_some, if_pos (in_i (N := 48) (by omega)), Int.toNat_natCast, lt_eq, if_pos (in_i (N := 48) (by omega)), jc_100_4, lt_eq, jc_100_5, lt_eq, ← hT1, eb (), lt_eq]
      exact k1
    by_cases q : T.1 (Q + 15) b = 1
    · rw [decide_eq_true q] at b129
      rw [if_pos q]; exact b129
    · rw [decide_eq_false q] at b129
      rw [if_neg q]; exact b129
end CBG
/-- nothing is known yet -/
def jG0 : jG := (fun _ => none, fun _ => false, fun _ _ => false)
theorem c_clr8 {S : nk_S} {Q : Nat} {p : jP} (hQ : Q = 13 ∨ Q = 49) (hv : cPh S Q p) (h48 : p.2.2.1.length ≤ 48) (h48b : p.2.2.2.1.length ≤ 48) (hz48 : p.2.2.2.2.1.2.1.length ≤ 48) (hf : ∀ y ∈ p.2.2.1, y.2.2 = 1 ∨ 2 ≤ y.2.2) (hs : ∀ s, s < p.2.2.2.2.1.2.1.length → 3 ≤ sTp p.2.2.2.2.1 s) (hb : ∀ y ∈ p.2.2.2.1, y.rs = -1 ∨ (y.rs = 1 ∨ 2 ≤ y.rs)) (h6 : S.1 100 6 = 0 ∧ S.1 100 7 = 0 ∧ S.1 100 8 = 0) : ∃ S', ja_X8_clear 100 Q S = some (0, S') ∧ S'.2 = S.2 ∧ (∀ a, a < 101 ∨ 107 ≤ a → S'.1 a = S.1 a) ∧ cGm S' p.2.2.1 p.2.2.2.1 p.2.2.2.2.1 jG0 (noS, noS, noS) := by
  obtain ⟨q, hq⟩ := big_ge 100 (by decide)
  obtain ⟨T, g1, g2, g3, g4⟩ := c_clS (fl := p.2.2.1) hQ h48 48 0 nk_big S (by omega) (by omega) hv.2.1 (fun f y hy => (hv.2.2.1 f y hy).2) (fun s' hs' => by omega)
  obtain ⟨T', k1, k2, k3, k4⟩ := c_clB hQ 48 0 nk_big T (by omega) (by omega) (fun b hb => by omega)
  refine ⟨T', ?_, by rw [k2, g2], fun a ha => by rw [k3 a (by omega), g3 a (by omega)], ?_, ?_, ?_, ?_, ?_, ?_, ?_⟩
  · have g1' : ja_X8_clear_L2 nk_big 100 Q 0 S = ja_X8_clear_L100 nk_big 100 Q 0 T := g1
    have k1' : ja_X8_clear_L100 nk_big 100 Q 0 T = some (0, T') := k1
    unfold ja_X8_clear
    rw [g1', k1']
  · intro s f y hs' hy
    rw [k3 101 (by omega), (g4 s hs').2.2 f y hy]
    exact cVl_no (hf y (List.mem_of_getElem? hy))
  · intro s hs'
    have h31 : T.1 (Q + 31) s = sTp p.2.2.2.2.1 s := by
      obtain ⟨t0, ht0⟩ : ∃ t0, p.2.2.2.2.1.2.1[s]? = some t0 := ⟨_, List.getElem?_eq_getElem hs'⟩
      rw [g3 _ (by omega), hv.2.2.2.2.2.2.2.2.1.2.1.2.1 s t0 ht0]
      unfold sTp
      rw [if_pos hs', List.getD_eq_getElem?_getD, ht0, Option.getD_some]
    rw [k3 102 (by omega), (g4 s (by omega)).2.1, h31]
    have h3 := hs s hs'
    have e : decide (sTp p.2.2.2.2.1 s = 3) = decide (tEl (sTp p.2.2.2.2.1 s) = 1) := decide_eq_decide.mpr (by
      unfold tEl
      split
      · omega
      · omega)
    rw [e]
    refine cVl_no ?_
    unfold tEl
    split
    · exact Or.inl rfl
    · right; omega
  · intro s hs'
    rw [k3 103 (by omega), (g4 s hs').1]
    rfl
  · intro b y hy
    have hb48 : b < 48 := by have := at_lt hy; omega
    obtain ⟨c1, c2, c3⟩ := k4 b hb48
    have h15 : T'.1 (Q + 15) b = y.rs := by rw [k3 _ (by omega), g3 _ (by omega), (hv.2.2.2.2.2.1 b y hy).2.2.2.2.1]
    rw [c1, c2, c3, h15]
    refine ⟨?_, rfl, cV_0⟩
    rcases hb y (List.mem_of_getElem? hy) with r | r
    · rw [r]
      unfold cVl
      rw [if_neg (by decide)]
      exact cV_0
    · exact cVl_no r
  · rw [k3 100 (by omega), g3 100 (by omega), h6.1]; exact cV_0
  · rw [k3 100 (by omega), g3 100 (by omega), h6.2.1]; exact cV_0
  · rw [k3 100 (by omega), g3 100 (by omega), h6.2.2]; exact cV_0
