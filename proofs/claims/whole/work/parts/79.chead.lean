/-! Members: the class's heads. -/
theorem w_n2 {a : Nat} (h : a < 100000) : nk_w ((a : Int) + 2) = ((a + 2 : Nat) : Int) := by
  rw [show (a : Int) + 2 = ((a + 2 : Nat) : Int) by omega]
  exact w_n0 (by omega)
theorem w_12 {n k : Nat} (hn : n < 48) (hk : k < 12) : nk_w (nk_w ((n : Int) * 12) + (k : Int)) = ((n * 12 + k : Nat) : Int) := by
  rw [show (n : Int) * 12 = ((n * 12 : Nat) : Int) by omega, w_n0 (by omega), show ((n * 12 : Nat) : Int) + (k : Int) = ((n * 12 + k : Nat) : Int) by omega]
  exact w_n0 (by omega)
section CHD
variable {tx : List (List Int)} {Q c : Nat} {ns : List (List Int)} {us : List Int}
/-- one more parameter -/
theorem c_addP (hQ : Q = 13 ∨ Q = 49) {S : nk_S} {n k : Nat} (hn : S.1 (Q + 9) 0 = (n : Int)) (h48 : n < 48) (hk : S.1 (Q + 13) n = (k : Int)) (hk2 : k < 100000) (t : Int) : ∃ S', ja_X0_addParameter (Q + 9) t S = some (0, S') ∧ S'.2 = S.2 ∧ (∀ b, b ≠ Q + 13 → b ≠ Q + 14 → S'.1 b = S.1 b) ∧ (∀ i, S'.1 (Q + 13) i = if i = n then ((k + 1 : Nat) : Int) else S.1 (Q + 13) i) ∧ ∀ i, S'.1 (Q + 14) i = if k < 12 ∧ i = n * 12 + k then t else S.1 (Q + 14) i := by
  have hin : (0 : Int) ≤ (n : Int) ∧ (n : Int) < 48 := in_i (N := 48) (by omega)
  have h37 : ∀ T : nk_S, T.1 (Q + 9) 0 = (n : Int) → T.1 (Q + 13) n = (k : Int) → ja_X0_addParameter_b37 (Q + 9) T = some (0, nk_wi T (Q + 13) n ((k + 1 : Nat) : Int)) := by
    intro T t1 t2
    unfold ja_X0_addParameter_b37
    rw [t1, if_pos hin, lt_eq, (jc_Q9 hQ).2.2.2.1, Int.toNat_natCast, t2, w_nat1 (by omega)]
  unfold ja_X0_addParameter
  rw [hn, if_pos hin, (jc_Q9 hQ).2.2.2.1, Int.toNat_natCast, hk]
  by_cases q : 12 ≤ k
  · rw [if_pos (show (12 : Int) ≤ (k : Int) by omega), h37 S hn hk]
    refine ⟨_, rfl, rfl, fun b x _ => wi_n x, fun i => ?_, fun i => ?_⟩
    · simp only [wi_v, true_and]
    · rw [wi_n (by omega), if_neg (by omega)]
  · have hin2 : (0 : Int) ≤ ((n * 12 + k : Nat) : Int) ∧ ((n * 12 + k : Nat) : Int) < 576 := in_i (N := 576) (by omega)
    rw [if_neg (show ¬ (12 : Int) ≤ (k : Int) by omega), w_12 h48 (by omega), if_pos hin2, lt_eq, (jc_Q9 hQ).2.2.2.2.1, Int.toNat_natCast]
    rw [h37 _ (by rw [wi_n (by omega)]; exact hn) (by rw [wi_n (by omega)]; exact hk)]
    refine ⟨_, rfl, rfl, fun b x y => by rw [wi_n x, wi_n y], fun i => ?_, fun i => ?_⟩
    · simp only [wi_v, true_and]
      by_cases e : i = n
      · rw [if_pos e, if_pos e]
      · rw [if_neg e, if_neg e, if_neg (by omega)]
    · rw [wi_n (by omega)]
      simp only [wi_v, true_and]
      by_cases e : i = n * 12 + k
      · rw [if_pos e, if_pos ⟨by omega, e⟩]
      · rw [if_neg e, if_neg (fun z => e z.2)]
/-- the parameters of the body that is being added -/
def hP (S : nk_S) (Q n : Nat) (ps : List Int) : Prop := S.1 (Q + 13) n = (ps.length : Int) ∧ ∀ (k : Nat) (t : Int), k < 12 → ps[k]? = some t → S.1 (Q + 14) (n * 12 + k) = t
theorem hP_add {S S' : nk_S} {n : Nat} {ps : List Int} {t : Int} (h : hP S Q n ps) (h1 : ∀ i, S'.1 (Q + 13) i = if i = n then ((ps.length + 1 : Nat) : Int) else S.1 (Q + 13) i) (h2 : ∀ i, S'.1 (Q + 14) i = if ps.length < 12 ∧ i = n * 12 + ps.length then t else S.1 (Q + 14) i) : hP S' Q n (ps ++ [t]) := by
  refine ⟨?_, fun k u hk hu => ?_⟩
  · rw [h1, if_pos rfl, List.length_append]; rfl
  · rw [h2]
    by_cases e : k < ps.length
    · rw [if_neg (by omega)]
      exact h.2 k u hk (by rw [List.getElem?_append_left e] at hu; exact hu)
    · have := at_lt hu
      rw [List.length_append, List.length_cons, List.length_nil] at this
      have e2 : k = ps.length := by omega
      subst e2
      rw [List.getElem?_append_right (Nat.le_refl _)] at hu
      rw [if_pos ⟨hk, rfl⟩]
      simpa using hu
/-- what may change while a head is read -/
def hF (Q n : Nat) (S S' : nk_S) : Prop := S'.2 = S.2 ∧ (∀ b, b ≠ 85 → ¬ (Q + 10 ≤ b ∧ b ≤ Q + 17) → S'.1 b = S.1 b) ∧ (∀ i, i ≠ 2 → S'.1 85 i = S.1 85 i) ∧ (∀ b i, Q + 10 ≤ b → b ≤ Q + 17 → b ≠ Q + 14 → i ≠ n → S'.1 b i = S.1 b i) ∧ ∀ i, i < n * 12 → S'.1 (Q + 14) i = S.1 (Q + 14) i
theorem hF_trans {n : Nat} {S1 S2 S3 : nk_S} (h : hF Q n S1 S2) (k : hF Q n S2 S3) : hF Q n S1 S3 := ⟨k.1.trans h.1, fun b x y => (k.2.1 b x y).trans (h.2.1 b x y), fun i x => (k.2.2.1 i x).trans (h.2.2.1 i x), fun b i x y z w => (k.2.2.2.1 b i x y z w).trans (h.2.2.2.1 b i x y z w), fun i x => (k.2.2.2.2 i x).trans (h.2.2.2.2 i x)⟩
theorem hF_rfl {n : Nat} {S : nk_S} : hF Q n S S := ⟨rfl, fun _ _ _ => rfl, fun _ _ => rfl, fun _ _ _ _ _ _ => rfl, fun _ _ => rfl⟩
theorem hF_at {n : Nat} (hQ : Q = 13 ∨ Q = 49) {S : nk_S} {x : Int} : hF Q n S (nk_wi S 85 2 x) := ⟨rfl, fun b h _ => wi_n h, fun i h => by simp only [wi_v, h, and_false, if_false], fun b i h1 h2 _ _ => by rw [wi_n (by omega)], fun i _ => by rw [wi_n (by omega)]⟩
theorem hF_P {n : Nat} (hQ : Q = 13 ∨ Q = 49) {S S' : nk_S} {k : Nat} {t : Int} (h1 : S'.2 = S.2) (h2 : ∀ b, b ≠ Q + 13 → b ≠ Q + 14 → S'.1 b = S.1 b) (h3 : ∀ i, S'.1 (Q + 13) i = if i = n then ((k + 1 : Nat) : Int) else S.1 (Q + 13) i) (h4 : ∀ i, S'.1 (Q + 14) i = if k < 12 ∧ i = n * 12 + k then t else S.1 (Q + 14) i) : hF Q n S S' := by
  refine ⟨h1, fun b _ x => h2 b (by omega) (by omega), fun i _ => by rw [h2 85 (by omega) (by omega)], fun b i x1 x2 x3 x4 => ?_, fun i x => ?_⟩
  · by_cases e : b = Q + 13
    · rw [e, h3, if_neg x4]
    · rw [h2 b e x3]
  · rw [h4, if_neg (by omega)]
theorem wd_F {n : Nat} (hQ : Q = 13 ∨ Q = 49) {S S' : nk_S} (h : hF Q n S S') (w : Nat) : wd S' w = wd S w := wd_congr (h.2.1 3 (by omega) (by omega)) (by rw [h.2.1 5 (by omega) (by omega)]) (by rw [h.2.1 6 (by omega) (by omega)])
theorem CF_F {n : Nat} (hQ : Q = 13 ∨ Q = 49) {S S' : nk_S} (h : hF Q n S S') (hC : CF S tx c) : CF S' tx c := CF_c (h.2.1 2 (by omega) (by omega)) (h.2.1 3 (by omega) (by omega)) (h.2.1 4 (by omega) (by omega)) (h.2.1 5 (by omega) (by omega)) (h.2.1 6 (by omega) (by omega)) (h.2.1 9 (by omega) (by omega)) hC
theorem cC_c {S S' : nk_S} (h1 : S'.1 (Q + 1) 0 = S.1 (Q + 1) 0) (h2 : S'.1 (Q + 2) = S.1 (Q + 2)) (h3 : S'.1 (Q + 3) = S.1 (Q + 3)) (h10 : ∀ v, v < c → shp (wd S v) = 2 → S'.1 10 v = S.1 10 v) (hw : ∀ w, wd S' w = wd S w) (h : cC S Q c ns us) : cC S' Q c ns us := by
  obtain ⟨c1, c2, c3, c4, c5, c6, c7, c8⟩ := h
  refine ⟨h1.trans c1, c2, c3, c4, by rw [h2]; exact c5, by rw [h3]; exact c6, by rw [h3]; exact c7, fun v hv hs => ?_⟩
  rw [hw] at hs ⊢
  rw [h10 v hv hs]
  exact c8 v hv hs
theorem cC_F {n : Nat} (hQ : Q = 13 ∨ Q = 49) {S S' : nk_S} (h : hF Q n S S') (hC : cC S Q c ns us) : cC S' Q c ns us := cC_c (by rw [h.2.1 (Q + 1) (by omega) (by omega)]) (h.2.1 (Q + 2) (by omega) (by omega)) (h.2.1 (Q + 3) (by omega) (by omega)) (fun v _ _ => by rw [h.2.1 10 (by omega) (by omega)]) (wd_F hQ h) hC
/-- what words mean: arrays, numbers, references -/
def cM (S : nk_S) (c : Nat) : Prop := ∀ v, v < c → mn S c v
theorem cM_c {S S' : nk_S} (h10 : ∀ v, v < c → 3 ≤ shp (wd S v) → S'.1 10 v = S.1 10 v ∧ S'.1 11 v = S.1 11 v) (hw : ∀ w, wd S' w = wd S w) (h : cM S c) : cM S' c := by
  intro v hv
  obtain ⟨m1, m2, m3⟩ := h v hv
  unfold mn
  rw [hw]
  refine ⟨fun e => ?_, fun e => ?_, fun e => ?_⟩
  · rw [(h10 v hv (by omega)).1]; exact m1 e
  · rw [(h10 v hv (by omega)).1]
    obtain ⟨u, u1, u2, u3⟩ := m2 e
    exact ⟨u, u1, u2, by rw [hw]; exact u3⟩
  · rw [(h10 v hv (by omega)).1, (h10 v hv (by omega)).2]
    have := m3 e
    simpa only [hw] using this
theorem cM_F {n : Nat} (hQ : Q = 13 ∨ Q = 49) {S S' : nk_S} (h : hF Q n S S') (hC : cM S c) : cM S' c := cM_c (fun v _ _ => by rw [h.2.1 10 (by omega) (by omega), h.2.1 11 (by omega) (by omega)]; exact ⟨rfl, rfl⟩) (wd_F hQ h) hC
theorem cFl_F {n : Nat} (hQ : Q = 13 ∨ Q = 49) {S S' : nk_S} (h : hF Q n S S') {fl : List (List Int × Nat × Int)} (hC : cFl S Q c fl) : cFl S' Q c fl := by
  obtain ⟨c1, c2⟩ := hC
  refine ⟨by rw [h.2.1 (Q + 1) (by omega) (by omega)]; exact c1, fun f x hx => ?_⟩
  obtain ⟨⟨w, w1, w2, w3⟩, y1, y2⟩ := c2 f x hx
  rw [h.2.1 (Q + 5) (by omega) (by omega), h.2.1 (Q + 6) (by omega) (by omega), h.2.1 (Q + 7) (by omega) (by omega)]
  exact ⟨⟨w, w1, w2, by rw [wd_F hQ h]; exact w3⟩, y1, y2⟩
theorem cB1_F {n : Nat} (hQ : Q = 13 ∨ Q = 49) {S S' : nk_S} (h : hF Q n S S') {b : Nat} (hb : b < n) {x : jB} (hx : cB1 S Q c b x) : cB1 S' Q c b x := by
  obtain ⟨x1, ⟨w, w1, w2, w3⟩, x3, x4, x5, x6, x7, x8⟩ := hx
  have k := h.2.2.2.1
  refine ⟨?_, ⟨w, w1, ?_, by rw [wd_F hQ h]; exact w3⟩, ?_, ?_, fun j t hj ht => ?_, ?_, ?_, ?_⟩
  · rw [k _ b (by omega) (by omega) (by omega) (by omega)]; exact x1
  · rw [k _ b (by omega) (by omega) (by omega) (by omega)]; exact w2
  · rw [k _ b (by omega) (by omega) (by omega) (by omega)]; exact x3
  · rw [k _ b (by omega) (by omega) (by omega) (by omega)]; exact x4
  · rw [h.2.2.2.2 _ (by omega)]; exact x5 j t hj ht
  · rw [k _ b (by omega) (by omega) (by omega) (by omega)]; exact x6
  · rw [k _ b (by omega) (by omega) (by omega) (by omega)]; exact x7
  · rw [k _ b (by omega) (by omega) (by omega) (by omega)]; exact x8
theorem cBl_F (hQ : Q = 13 ∨ Q = 49) {S S' : nk_S} {bl : List jB} (h : hF Q bl.length S S') (hB : cBl S Q c bl) : cBl S' Q c bl := by
  refine ⟨by rw [h.2.1 (Q + 9) (by omega) (by omega)]; exact hB.1, fun b x hx => cB1_F hQ h (at_lt hx) (hB.2 b x hx)⟩
/-- a head begins -/
theorem c_begin (hQ : Q = 13 ∨ Q = 49) {S : nk_S} {n : Nat} (hn : S.1 (Q + 9) 0 = (n : Int)) (h48 : n < 48) (j : Nat) (hj : j < 32) (w : Int) (me : Bool) : ∃ S', ja_X0_begin (Q + 9) (j : Int) w (bi me) S = some (0, S') ∧ hF Q n S S' ∧ (∀ b, ¬ (Q + 10 ≤ b ∧ b ≤ Q + 14) → S'.1 b = S.1 b) ∧ S'.1 (Q + 10) n = (j : Int) ∧ S'.1 (Q + 11) n = w ∧ S'.1 (Q + 12) n = bi me ∧ hP S' Q n (if me = true then [((4 + 2 * j : Nat) : Int)] else []) := by
  have hin : (0 : Int) ≤ (n : Int) ∧ (n : Int) < 48 := in_i (N := 48) (by omega)
  obtain ⟨j2, j3, j4, j5, j6, -⟩ := jc_Q9 hQ
  obtain ⟨T, hT⟩ : ∃ T, T = nk_wi (nk_wi (nk_wi (nk_wi S (Q + 10) n (j : Int)) (Q + 11) n w) (Q + 12) n (bi me)) (Q + 13) n 0 := ⟨_, rfl⟩
  have e1 : ja_X0_begin (Q + 9) (j : Int) w (bi me) S = if bi me = 0 then some (0, T) else nk_bd (ja_X0_addParameter (Q + 9) (nk_w (4 + nk_w (2 * (j : Int)))) T) fun r18 S19 => some (0, S19) := by
    unfold ja_X0_begin
    rw [hn, if_pos hin, lt_eq, j2, Int.toNat_natCast]
    rw [show (nk_wi S (Q + 10) n (j : Int)).1 (Q + 9) 0 = (n : Int) by rw [wi_n (by omega)]; exact hn, if_pos hin, lt_eq, j3, Int.toNat_natCast]
    rw [show (nk_wi (nk_wi S (Q + 10) n (j : Int)) (Q + 11) n w).1 (Q + 9) 0 = (n : Int) by rw [wi_n (by omega), wi_n (by omega)]; exact hn, if_pos hin, if_pos (show bi me = 0 ∨ bi me = 1 by cases me <;> decide), lt_eq, j4, Int.toNat_natCast]
    rw [show (nk_wi (nk_wi (nk_wi S (Q + 10) n (j : Int)) (Q + 11) n w) (Q + 12) n (bi me)).1 (Q + 9) 0 = (n : Int) by rw [wi_n (by omega), wi_n (by omega), wi_n (by omega)]; exact hn, if_pos hin, lt_eq, j5, Int.toNat_natCast, ← hT]
  have t9 : T.1 (Q + 9) 0 = (n : Int) := by rw [hT, wi_n (by omega), wi_n (by omega), wi_n (by omega), wi_n (by omega)]; exact hn
  have tn : ∀ b, ¬ (Q + 10 ≤ b ∧ b ≤ Q + 13) → T.1 b = S.1 b := fun b hb => by rw [hT, wi_n (by omega), wi_n (by omega), wi_n (by omega), wi_n (by omega)]
  have ti : ∀ b i, i ≠ n → T.1 b i = S.1 b i := fun b i hi => by rw [hT]; simp only [wi_v, hi, and_false, if_false]
  have t10 : T.1 (Q + 10) n = (j : Int) := by rw [hT, wi_n (by omega), wi_n (by omega), wi_n (by omega)]; simp only [wi_v, and_self, if_true]
  have t11 : T.1 (Q + 11) n = w := by rw [hT, wi_n (by omega), wi_n (by omega)]; simp only [wi_v, and_self, if_true]
  have t12 : T.1 (Q + 12) n = bi me := by rw [hT, wi_n (by omega)]; simp only [wi_v, and_self, if_true]
  have t13 : T.1 (Q + 13) n = ((0 : Nat) : Int) := by rw [hT]; simp only [wi_v, and_self, if_true]; rfl
  have tF : hF Q n S T := ⟨by rw [hT]; rfl, fun b _ x => tn b (by omega), fun i _ => by rw [tn 85 (by omega)], fun b i _ _ _ x => ti b i x, fun i _ => by rw [tn (Q + 14) (by omega)]⟩
  have tP : hP T Q n [] := ⟨t13, fun k t _ h => by cases h⟩
  rw [e1]
  cases me with
  | false =>
    rw [if_pos (show bi false = 0 from rfl)]
    exact ⟨T, rfl, tF, fun b hb => tn b (by omega), t10, t11, t12, tP⟩
  | true =>
    rw [if_neg (show ¬ bi true = 0 by decide)]
    have ew : nk_w (4 + nk_w (2 * (j : Int))) = ((4 + 2 * j : Nat) : Int) := by
      rw [show (2 : Int) * (j : Int) = ((2 * j : Nat) : Int) by omega, w_n0 (by omega), show (4 : Int) + ((2 * j : Nat) : Int) = ((4 + 2 * j : Nat) : Int) by omega]
      exact w_n0 (by omega)
    rw [ew]
    obtain ⟨U, u1, u2, u3, u4, u5⟩ := c_addP hQ t9 h48 t13 (by omega) ((4 + 2 * j : Nat) : Int)
    rw [u1, bd_some]
    refine ⟨U, rfl, hF_trans tF (hF_P hQ u2 u3 u4 u5), fun b hb => by rw [u3 b (by omega) (by omega), tn b (by omega)], ?_, ?_, ?_, hP_add tP u4 u5⟩
    · rw [u3 _ (by omega) (by omega)]; exact t10
    · rw [u3 _ (by omega) (by omega)]; exact t11
    · rw [u3 _ (by omega) (by omega)]; exact t12
end CHD
