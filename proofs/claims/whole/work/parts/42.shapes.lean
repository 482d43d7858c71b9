/-! The class tells the shape of a word; parts of words are words too. -/
theorem sg_take {g : Nat → Int} {f t k : Nat} (h : f + k ≤ t) : (sg g f t).take k = sg g f (f + k) := by
  unfold sg
  rw [← List.map_take, List.take_range, show min k (t - f) = f + k - f by omega]
theorem sg_drop {g : Nat → Int} : ∀ {k f t : Nat}, f + k ≤ t → (sg g f t).drop k = sg g (f + k) t := by
  intro k
  induction k with
  | zero => intro f t _; rfl
  | succ k ih =>
    intro f t h
    rw [sg_cons g (show f < t by omega), List.drop_succ_cons, ih (by omega), show f + 1 + k = f + (k + 1) by omega]
theorem sg_getD {g : Nat → Int} {f t i : Nat} (h : i < t - f) : (sg g f t).getD i 0 = g (f + i) := by
  rw [List.getD_eq_getElem?_getD, sg_get h]; rfl
def dot (l : List Int) : Nat := (l.takeWhile (fun c => !(c == 46))).length
theorem dot_le (l : List Int) : dot l ≤ l.length := by
  unfold dot
  exact (List.takeWhile_sublist _).length_le
def arrQ (l : List Int) : Bool := decide (2 < l.length ∧ l.getD (l.length - 2) 0 = 91 ∧ l.getD (l.length - 1) 0 = 93 ∧ nmS (l.take (l.length - 2)) = 2)
def refQ (l : List Int) : Bool := decide (nmS (l.take (dot l)) = 2 ∧ nmS (l.drop (dot l + 1)) = 1)
def shp (l : List Int) : Int := if nmS l ≠ 0 then nmS l else if isNum l = true then 3 else if arrQ l = true then 4 else if refQ l = true then 5 else 0
theorem so_dot {S : nk_S} {w : Int} {a b : Nat} (hb : b ≤ 16512) : ∀ (d m p : Nat), p + d = b → d < m → ja_X10_shapeOf_L118 m 2 w (a : Int) (b : Int) (p : Int) S = ja_X10_shapeOf_b142 2 w (a : Int) (b : Int) ((p + dot (sg (S.1 3) p b) : Nat) : Int) S := by
  intro d
  induction d with
  | zero =>
    intro m p h1 h2
    obtain ⟨m, rfl⟩ : ∃ q, m = q + 1 := ⟨m - 1, by omega⟩
    rw [sg_nil _ (by omega)]
    show ja_X10_shapeOf_b118 (ja_X10_shapeOf_L118 m) 2 _ _ _ _ S = _
    unfold ja_X10_shapeOf_b118
    rw [if_pos (by omega)]; rfl
  | succ d ih =>
    intro m p h1 h2
    obtain ⟨m, rfl⟩ : ∃ q, m = q + 1 := ⟨m - 1, by omega⟩
    have ih1 := ih m (p + 1) (by omega) (by omega)
    rw [sg_cons _ (show p < b by omega)]
    show ja_X10_shapeOf_b118 (ja_X10_shapeOf_L118 m) 2 _ _ _ _ S = _
    unfold ja_X10_shapeOf_b118
    rw [if_neg (by omega), if_pos (in_i (N := 16512) (by omega)), jc_2_0, Int.toNat_natCast]
    by_cases q : S.1 3 p = 46
    · rw [if_pos q]
      simp only [dot, List.takeWhile_cons, q, beq_self_eq_true, Bool.not_true, Bool.false_eq_true, if_false, List.length_nil, Nat.add_zero]
    · rw [if_neg q, lt_eq, w_nat1 (by omega), ih1]
      have e : (!(S.1 3 p == 46)) = true := by simp [q]
      simp only [dot, List.takeWhile_cons, e, if_true, List.length_cons]
      rw [show p + 1 + (List.takeWhile (fun c => !c == 46) (sg (S.1 3) (p + 1) b)).length = p + ((List.takeWhile (fun c => !c == 46) (sg (S.1 3) (p + 1) b)).length + 1) by omega]
/-- what is known of a state in which words are kept: those that were there stay; what else may change -/
def so_F (S S' : nk_S) (c : Nat) : Prop := S'.2 = S.2 ∧ (∀ a, a ≠ 2 → a ≠ 5 → a ≠ 6 → a ≠ 7 → a ≠ 8 → a ≠ 10 → a ≠ 11 → S'.1 a = S.1 a) ∧ (∀ i, i ≠ 5 → S'.1 2 i = S.1 2 i) ∧ (∀ v, v < c → wd S' v = wd S v) ∧ ∀ v, v < c → S'.1 5 v = S.1 5 v ∧ S'.1 6 v = S.1 6 v ∧ S'.1 7 v = S.1 7 v
theorem so_F_rf (S : nk_S) (c : Nat) : so_F S S c := ⟨rfl, fun _ _ _ _ _ _ _ _ => rfl, fun _ _ => rfl, fun _ _ => rfl, fun _ _ => ⟨rfl, rfl, rfl⟩⟩
theorem so_F_tr {S S1 S2 : nk_S} {c c1 : Nat} (h1 : so_F S S1 c) (h2 : so_F S1 S2 c1) (hc : c ≤ c1) : so_F S S2 c := by
  obtain ⟨a1, a2, a3, a4, a5⟩ := h1
  obtain ⟨b1, b2, b3, b4, b5⟩ := h2
  refine ⟨b1.trans a1, fun a x y z u v w r => (b2 a x y z u v w r).trans (a2 a x y z u v w r), fun i x => (b3 i x).trans (a3 i x), fun v hv => (b4 v (by omega)).trans (a4 v hv), fun v hv => ?_⟩
  obtain ⟨p1, p2, p3⟩ := a5 v hv
  obtain ⟨q1, q2, q3⟩ := b5 v (by omega)
  exact ⟨q1.trans p1, q2.trans p2, q3.trans p3⟩
/-- a part is kept -/
theorem so_kp {S : nk_S} {c f t : Nat} (hW : WI S c) (hft : f ≤ t) (ht : t ≤ 16512) (h2 : c < 12288) : ∃ (v c' : Nat) (S' : nk_S), ja_X10_keep 2 (f : Int) (t : Int) S = some ((v : Int), S') ∧ v < c' ∧ c ≤ c' ∧ c' ≤ c + 1 ∧ WI S' c' ∧ wd S' v = sg (S.1 3) f t ∧ so_F S S' c ∧ S'.1 10 = S.1 10 ∧ S'.1 11 = S.1 11 ∧ ∀ u, c ≤ u → u < c' → wd S' u = sg (S.1 3) f t := by
  rcases kp hW hft ht h2 with ⟨w, g1, g2, g3⟩ | ⟨g1, g2, g3⟩
  · exact ⟨w, c, S, g3, g1, Nat.le_refl _, by omega, hW, g2, so_F_rf S c, rfl, rfl, fun u h1 h2 => by omega⟩
  · refine ⟨c, c + 1, kp_add S c f t, g3, by omega, by omega, by omega, g2, kp_wdc, ⟨rfl, fun a a2 a5 a6 a7 a8 _ _ => kp_add_v S c f t a a2 a5 a6 a7 a8, fun i hi => ?_, fun v hv => kp_wd hv, fun v hv => ?_⟩, kp_add_v S c f t 10 (by decide) (by decide) (by decide) (by decide) (by decide), kp_add_v S c f t 11 (by decide) (by decide) (by decide) (by decide) (by decide), fun u h1 h2 => ?_⟩
    · unfold kp_add; simp +decide only [wi_v, hi, false_and, and_false, if_false]
    · have : ¬ v = c := by omega
      unfold kp_add; simp +decide only [wi_v, this, false_and, and_false, if_false, and_self]
    · obtain rfl : u = c := by omega
      exact kp_wdc
theorem so_wi {S : nk_S} {c k : Nat} {a : Nat} {x : Int} (ha : a = 10 ∨ a = 11) (h : WI S c) : WI (nk_wi S a k x) c := by
  rcases ha with rfl | rfl
  · exact WI_congr (by simp +decide only [wi_v, false_and, if_false]) (wi_n (by decide)) (wi_n (by decide)) (wi_n (by decide)) (wi_n (by decide)) (wi_n (by decide)) h
  · exact WI_congr (by simp +decide only [wi_v, false_and, if_false]) (wi_n (by decide)) (wi_n (by decide)) (wi_n (by decide)) (wi_n (by decide)) (wi_n (by decide)) h
theorem so_wd {S : nk_S} {a k v : Nat} {x : Int} (ha : a = 10 ∨ a = 11) : wd (nk_wi S a k x) v = wd S v := by
  rcases ha with rfl | rfl
  · exact wd_congr (wi_n (by decide)) (by rw [wi_n (by decide)]) (by rw [wi_n (by decide)])
  · exact wd_congr (wi_n (by decide)) (by rw [wi_n (by decide)]) (by rw [wi_n (by decide)])
theorem so_Fw {S : nk_S} {c k : Nat} {a : Nat} {x : Int} (ha : a = 10 ∨ a = 11) : so_F S (nk_wi S a k x) c := by
  refine ⟨rfl, fun b _ _ _ _ _ b10 b11 => ?_, fun i hi => ?_, fun v _ => so_wd ha, fun v _ => ?_⟩
  · rcases ha with rfl | rfl
    · exact wi_n b10
    · exact wi_n b11
  · rcases ha with rfl | rfl <;> rw [wi_n (by decide)]
  · rcases ha with rfl | rfl <;> simp +decide only [wi_v, false_and, if_false, and_self]
/-- what first and second tell of a word that was looked at -/
def mn (S : nk_S) (c v : Nat) : Prop := (shp (wd S v) = 3 → S.1 10 v = nval (wd S v)) ∧ (shp (wd S v) = 4 → ∃ u : Nat, u < c ∧ S.1 10 v = (u : Int) ∧ wd S u = (wd S v).take ((wd S v).length - 2)) ∧ (shp (wd S v) = 5 → ∃ u x : Nat, u < c ∧ x < c ∧ S.1 10 v = (u : Int) ∧ S.1 11 v = (x : Int) ∧ wd S u = (wd S v).take (dot (wd S v)) ∧ wd S x = (wd S v).drop (dot (wd S v) + 1))
theorem shp_0 {l : List Int} (h : nmS l ≠ 0) : shp l = nmS l := if_pos h
theorem nmS_v (l : List Int) : nmS l = 0 ∨ nmS l = 1 ∨ nmS l = 2 := by
  unfold nmS
  split
  · split
    · exact Or.inl rfl
    · split
      · split
        · exact Or.inr (Or.inr rfl)
        · exact Or.inr (Or.inl rfl)
      · exact Or.inl rfl
  · exact Or.inl rfl
theorem nmS_pos {l : List Int} (h : nmS l ≠ 0) : 1 ≤ l.length := by
  cases l with
  | nil => exact absurd rfl h
  | cons c r => simp
/-- shapeOf -/
theorem so_c {S : nk_S} {c w : Nat} (hW : WI S c) (hw : w < c) (hc : c + 2 ≤ 12288) (hlen : 1 ≤ (wd S w).length) : ∃ (S' : nk_S) (c' : Nat), ja_X10_shapeOf 2 (w : Int) S = some (shp (wd S w), S') ∧ WI S' c' ∧ c ≤ c' ∧ c' ≤ c + 2 ∧ (c < c' → 3 ≤ (wd S w).length ∧ nmS (wd S w) = 0) ∧ so_F S S' c ∧ (∀ u, c ≤ u → u < c' → nmS (wd S' u) ≠ 0) ∧ (∀ v, v ≠ w → S'.1 10 v = S.1 10 v ∧ S'.1 11 v = S.1 11 v) ∧ mn S' c' w ∧ (shp (wd S w) < 3 → S'.1 10 w = S.1 10 w ∧ S'.1 11 w = S.1 11 w) := by
  obtain ⟨a, b, ha, hb, hab, hb2⟩ := hW.2.2.1 w hw
  have hwd : wd S w = sg (S.1 3) a b := by unfold wd; rw [ha, hb, Int.toNat_natCast, Int.toNat_natCast]
  have hl : (wd S w).length = b - a := by rw [hwd, sg_len]
  have hlt : a < b := by omega
  have hone : ∀ r : Int, r < 3 → shp (wd S w) = r → ∃ (S' : nk_S) (c' : Nat), some (r, S) = some (shp (wd S w), S') ∧ WI S' c' ∧ c ≤ c' ∧ c' ≤ c + 2 ∧ (c < c' → 3 ≤ (wd S w).length ∧ nmS (wd S w) = 0) ∧ so_F S S' c ∧ (∀ u, c ≤ u → u < c' → nmS (wd S' u) ≠ 0) ∧ (∀ v, v ≠ w → S'.1 10 v = S.1 10 v ∧ S'.1 11 v = S.1 11 v) ∧ mn S' c' w ∧ (shp (wd S w) < 3 → S'.1 10 w = S.1 10 w ∧ S'.1 11 w = S.1 11 w) := by
    intro r hr e
    exact ⟨S, c, by rw [e], hW, Nat.le_refl _, by omega, fun h => by omega, so_F_rf S c, fun u _ _ => by omega, fun _ _ => ⟨rfl, rfl⟩, ⟨fun h => by omega, fun h => by omega, fun h => by omega⟩, fun _ => ⟨rfl, rfl⟩⟩
  unfold ja_X10_shapeOf
  rw [if_pos (in_i (N := 12288) (by omega)), lt_eq, lt_eq, jc_2_6, jc_2_7, Int.toNat_natCast, ha, hb, ns_c (by omega) hb2, bd_some, ← hwd]
  by_cases h0 : nmS (wd S w) = 0
  · rw [if_pos h0, in_c hlt hb2, bd_some, ← hwd]
    cases hn : isNum (wd S w) with
    | true =>
      rw [if_neg (show ¬ bi true = 0 by decide)]
      have hs : shp (wd S w) = 3 := by unfold shp; rw [if_neg (by simpa using h0), if_pos hn]
      have hq := hn
      unfold isNum at hq
      rw [decide_eq_true_eq, hwd] at hq
      obtain ⟨e1, e2, e3⟩ := na_c (S := S) hlt hb2 hq.2.1 hq.2.2.1
      rw [e1, bd_some, lt_eq, jc_2_13, nk_w_id (by omega) (by omega), ← hwd]
      refine ⟨nk_wi S 10 w (nval (wd S w)), c, by rw [hs], so_wi (Or.inl rfl) hW, Nat.le_refl _, by omega, fun h => by omega, so_Fw (Or.inl rfl), fun u _ _ => by omega, fun v hv => ?_, ⟨fun _ => ?_, fun h => ?_, fun h => ?_⟩, fun h => by omega⟩
      · simp +decide only [wi_v, hv, and_false, false_and, if_false, and_self]
      · rw [so_wd (Or.inl rfl)]; simp only [wi_v, and_self, if_true]
      · rw [so_wd (Or.inl rfl), hs] at h; omega
      · rw [so_wd (Or.inl rfl), hs] at h; omega
    | false =>
      rw [if_pos (show bi false = 0 from rfl)]
      have hdot : ja_X10_shapeOf_L118 nk_big 2 (w : Int) (a : Int) (b : Int) (a : Int) S = ja_X10_shapeOf_b142 2 (w : Int) (a : Int) (b : Int) ((a + dot (wd S w) : Nat) : Int) S := by
        rw [hwd]; exact so_dot hb2 (b - a) nk_big a (by omega) (by unfold nk_big; omega)
      have hdle := dot_le (wd S w)
      -- the way through a dot
      have hway : arrQ (wd S w) = false → ∃ (S' : nk_S) (c' : Nat), ja_X10_shapeOf_L118 nk_big 2 (w : Int) (a : Int) (b : Int) (a : Int) S = some (shp (wd S w), S') ∧ WI S' c' ∧ c ≤ c' ∧ c' ≤ c + 2 ∧ (c < c' → 3 ≤ (wd S w).length ∧ nmS (wd S w) = 0) ∧ so_F S S' c ∧ (∀ u, c ≤ u → u < c' → nmS (wd S' u) ≠ 0) ∧ (∀ v, v ≠ w → S'.1 10 v = S.1 10 v ∧ S'.1 11 v = S.1 11 v) ∧ mn S' c' w ∧ (shp (wd S w) < 3 → S'.1 10 w = S.1 10 w ∧ S'.1 11 w = S.1 11 w) := by
        intro hA
        rw [hdot]
        unfold ja_X10_shapeOf_b142
        have t1 : sg (S.1 3) a (a + dot (wd S w)) = (wd S w).take (dot (wd S w)) := by rw [hwd, sg_take (by rw [hwd, sg_len] at hdle; omega)]
        rw [ns_c (by omega) (by omega), bd_some, t1, w_nat1 (a := a + dot (wd S w)) (by omega)]
        by_cases q1 : nmS ((wd S w).take (dot (wd S w))) = 2
        · rw [if_pos q1, ns_c (by omega) hb2, bd_some]
          by_cases hd : dot (wd S w) < (wd S w).length
          · have t2 : sg (S.1 3) (a + dot (wd S w) + 1) b = (wd S w).drop (dot (wd S w) + 1) := by rw [hwd, sg_drop (by rw [hwd, sg_len] at hd; omega), Nat.add_assoc]
            rw [t2]
            by_cases q2 : nmS ((wd S w).drop (dot (wd S w) + 1)) = 1
            · rw [if_pos q2]
              have hs : shp (wd S w) = 5 := by
                unfold shp
                rw [if_neg (by simpa using h0), if_neg (by rw [hn]; decide), if_neg (by rw [hA]; decide), if_pos]
                unfold refQ; rw [decide_eq_true_eq]; exact ⟨q1, q2⟩
              have l1 := nmS_pos (l := (wd S w).take (dot (wd S w))) (by omega)
              have l2 := nmS_pos (l := (wd S w).drop (dot (wd S w) + 1)) (by omega)
              rw [List.length_take] at l1
              rw [List.length_drop] at l2
              obtain ⟨u, c1, S1, k1, k2, k3, k4, k5, k6, k7, k8, k9, k10⟩ := so_kp hW (f := a) (t := a + dot (wd S w)) (by omega) (by omega) (by omega)
              rw [t1] at k6 k10
              rw [k1, bd_some, if_pos (in_i (N := 12288) (by omega)), lt_eq, jc_2_13, Int.toNat_natCast]
              have hW2 : WI (nk_wi S1 10 w (u : Int)) c1 := so_wi (Or.inl rfl) k5
              have e3 : (nk_wi S1 10 w (u : Int)).1 3 = S.1 3 := by rw [wi_n (by decide), k7.2.1 3 (by decide) (by decide) (by decide) (by decide) (by decide) (by decide) (by decide)]
              obtain ⟨x, c2, S2, m1, m2, m3, m4, m5, m6, m7, m8, m9, m10⟩ := so_kp hW2 (f := a + dot (wd S w) + 1) (t := b) (by omega) hb2 (by omega)
              rw [e3, t2] at m6 m10
              have hwS : wd S2 w = wd S w := by rw [m7.2.2.2.1 w (by omega), so_wd (Or.inl rfl), k7.2.2.2.1 w hw]
              rw [m1, bd_some, lt_eq, jc_2_14]
              refine ⟨nk_wi S2 11 w (x : Int), c2, by rw [hs], so_wi (Or.inr rfl) m5, by omega, by omega, fun _ => ⟨by omega, h0⟩, so_F_tr (so_F_tr k7 (so_F_tr (so_Fw (c := c1) (Or.inl rfl)) m7 (Nat.le_refl _)) (by omega)) (so_Fw (c := c) (Or.inr rfl)) (Nat.le_refl _), fun v v1 v2 => ?_, fun v hv => ?_, ⟨fun h => ?_, fun h => ?_, fun _ => ⟨u, x, by omega, m2, ?_, ?_, ?_, ?_⟩⟩, fun h => by omega⟩
              · rw [so_wd (Or.inr rfl)]
                by_cases hv : v < c1
                · rw [m7.2.2.2.1 v hv, so_wd (Or.inl rfl), k10 v v1 hv]; omega
                · rw [m10 v (by omega) v2]; omega
              · refine ⟨?_, ?_⟩
                · simp +decide only [wi_v, false_and, if_false]
                  rw [m8]; simp only [wi_v, hv, and_false, if_false]; rw [k8]
                · simp only [wi_v, hv, and_false, if_false]
                  rw [m9]; simp +decide only [wi_v, false_and, if_false]; rw [k9]
              · rw [so_wd (Or.inr rfl), hwS, hs] at h; omega
              · rw [so_wd (Or.inr rfl), hwS, hs] at h; omega
              · simp +decide only [wi_v, false_and, if_false]; rw [m8]; simp only [wi_v, and_self, if_true]
              · simp only [wi_v, and_self, if_true]
              · rw [so_wd (Or.inr rfl), so_wd (Or.inr rfl), hwS, m7.2.2.2.1 u (by omega), so_wd (Or.inl rfl)]; exact k6
              · rw [so_wd (Or.inr rfl), so_wd (Or.inr rfl), hwS]; exact m6
            · rw [if_neg q2]
              refine hone 0 (by decide) ?_
              unfold shp
              rw [if_neg (by simpa using h0), if_neg (by rw [hn]; decide), if_neg (by rw [hA]; decide), if_neg]
              unfold refQ; rw [decide_eq_true_eq]; exact fun h => q2 h.2
          · have t3 : sg (S.1 3) (a + dot (wd S w) + 1) b = [] := sg_nil _ (by omega)
            rw [t3, if_neg (by decide)]
            refine hone 0 (by decide) ?_
            unfold shp
            rw [if_neg (by simpa using h0), if_neg (by rw [hn]; decide), if_neg (by rw [hA]; decide), if_neg]
            unfold refQ; rw [decide_eq_true_eq, List.drop_eq_nil_of_le (by omega)]; exact fun h => by have := h.2; revert this; decide
        · rw [if_neg q1]
          refine hone 0 (by decide) ?_
          unfold shp
          rw [if_neg (by simpa using h0), if_neg (by rw [hn]; decide), if_neg (by rw [hA]; decide), if_neg]
          unfold refQ; rw [decide_eq_true_eq]; exact fun h => q1 h.1
      rw [w_sub hab (by omega)]
      by_cases c1 : ((b - a : Nat) : Int) ≤ 2
      · rw [if_pos c1]
        exact hway (by unfold arrQ; rw [decide_eq_false_iff_not]; omega)
      · have w2 : nk_w ((b : Int) - 2) = ((b - 2 : Nat) : Int) := by rw [nk_w_id (by omega) (by omega)]; omega
        have w1 : nk_w ((b : Int) - 1) = ((b - 1 : Nat) : Int) := by rw [nk_w_id (by omega) (by omega)]; omega
        rw [if_neg c1, w2, w1, if_pos (in_i (N := 16512) (by omega)), jc_2_0, Int.toNat_natCast, Int.toNat_natCast]
        clear w1 w2
        have g1 : (wd S w).getD ((wd S w).length - 2) 0 = S.1 3 (b - 2) := by rw [hwd, sg_len, sg_getD (by omega), show a + (b - a - 2) = b - 2 by omega]
        have g2 : (wd S w).getD ((wd S w).length - 1) 0 = S.1 3 (b - 1) := by rw [hwd, sg_len, sg_getD (by omega), show a + (b - a - 1) = b - 1 by omega]
        have g3 : sg (S.1 3) a (b - 2) = (wd S w).take ((wd S w).length - 2) := by rw [hwd, sg_len, sg_take (by omega)]; congr 1; omega
        by_cases q1 : S.1 3 (b - 2) = 91
        · rw [if_pos q1, if_pos (in_i (N := 16512) (by omega))]
          by_cases q2 : S.1 3 (b - 1) = 93
          · rw [if_pos q2, ns_c (by omega) (by omega), bd_some, g3]
            by_cases q3 : nmS ((wd S w).take ((wd S w).length - 2)) = 2
            · rw [if_pos q3]
              have hA : arrQ (wd S w) = true := by unfold arrQ; rw [decide_eq_true_eq, g1, g2]; exact ⟨by omega, q1, q2, q3⟩
              have hs : shp (wd S w) = 4 := by
                unfold shp
                rw [if_neg (by simpa using h0), if_neg (by rw [hn]; decide), if_pos hA]
              obtain ⟨u, c1, S1, k1, k2, k3, k4, k5, k6, k7, k8, k9, k10⟩ := so_kp hW (f := a) (t := b - 2) (by omega) (by omega) (by omega)
              rw [g3] at k6 k10
              rw [k1, bd_some, lt_eq, jc_2_13]
              have hwS : wd S1 w = wd S w := k7.2.2.2.1 w hw
              refine ⟨nk_wi S1 10 w (u : Int), c1, by rw [hs], so_wi (Or.inl rfl) k5, by omega, by omega, fun _ => ⟨by omega, h0⟩, so_F_tr k7 (so_Fw (c := c) (Or.inl rfl)) (Nat.le_refl _), fun v v1 v2 => ?_, fun v hv => ?_, ⟨fun h => ?_, fun _ => ⟨u, k2, ?_, ?_⟩, fun h => ?_⟩, fun h => by omega⟩
              · rw [so_wd (Or.inl rfl), k10 v v1 v2]; omega
              · refine ⟨?_, ?_⟩
                · simp only [wi_v, hv, and_false, if_false]; rw [k8]
                · simp +decide only [wi_v, false_and, if_false]; rw [k9]
              · rw [so_wd (Or.inl rfl), hwS, hs] at h; omega
              · simp only [wi_v, and_self, if_true]
              · rw [so_wd (Or.inl rfl), so_wd (Or.inl rfl), hwS]; exact k6
              · rw [so_wd (Or.inl rfl), hwS, hs] at h; omega
            · rw [if_neg q3]
              exact hway (by unfold arrQ; rw [decide_eq_false_iff_not]; exact fun h => q3 h.2.2.2)
          · rw [if_neg q2]
            exact hway (by unfold arrQ; rw [decide_eq_false_iff_not, g2]; exact fun h => q2 h.2.2.1)
        · rw [if_neg q1]
          exact hway (by unfold arrQ; rw [decide_eq_false_iff_not, g1]; exact fun h => q1 h.2.1)
  · rw [if_neg h0]
    exact hone _ (by have := nmS_v (wd S w); omega) (shp_0 h0)
