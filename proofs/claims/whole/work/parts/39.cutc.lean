/-! The class cuts the text: each token is a word. -/
/-- the words that every text knows -/
def fx : List (List Int) := [[112, 117, 115, 104], [110, 117, 108, 108], [108, 111, 97, 100], [115, 116, 111, 114, 101], [105, 110, 99], [100, 117, 112], [112, 111, 112], [115, 119, 97, 112], [97, 100, 100], [115, 117, 98], [109, 117, 108], [100, 105, 118], [114, 101, 109], [97, 110, 100], [111, 114], [120, 111, 114], [115, 104, 108], [115, 104, 114], [110, 101, 103], [103, 111, 116, 111], [101, 113], [110, 101], [108, 116], [108, 101], [103, 116], [103, 101], [105, 115, 110, 117, 108, 108], [110, 111, 116, 110, 117, 108, 108], [115, 97, 109, 101], [111, 116, 104, 101, 114], [110, 101, 119], [97, 114, 114, 97, 121], [108, 101, 110, 103, 116, 104], [97, 108, 111, 97, 100], [97, 115, 116, 111, 114, 101], [103, 101, 116], [112, 117, 116], [99, 97, 115, 116], [105, 115], [99, 97, 108, 108], [115, 101, 110, 100], [116, 104, 114, 111, 119], [103, 105, 118, 101], [98, 97, 99, 107], [114, 101, 97, 100], [119, 114, 105, 116, 101], [99, 97, 116, 99, 104], [99, 108, 97, 115, 115], [111, 102], [102, 105, 101, 108, 100], [115, 116, 97, 116, 105, 99], [109, 101, 116, 104, 111, 100], [105, 110, 116], [110, 111, 110, 101], [105, 110, 116, 91, 93], [40], [41], [123], [125], [58], [79, 98, 106, 101, 99, 116], [69, 114, 114, 111, 114], [78, 117, 108, 108, 69, 114, 114, 111, 114], [73, 110, 100, 101, 120, 69, 114, 114, 111, 114], [83, 105, 122, 101, 69, 114, 114, 111, 114], [68, 105, 118, 105, 100, 101, 69, 114, 114, 111, 114], [67, 97, 115, 116, 69, 114, 114, 111, 114], [83, 116, 111, 114, 101, 69, 114, 114, 111, 114], [77, 97, 105, 110], [109, 97, 105, 110]]
theorem wd_congr {S S' : nk_S} {w : Nat} (h3 : S'.1 3 = S.1 3) (h5 : S'.1 5 w = S.1 5 w) (h6 : S'.1 6 w = S.1 6 w) : wd S' w = wd S w := by unfold wd; rw [h3, h5, h6]
theorem WI_congr {S S' : nk_S} {c : Nat} (h2 : S'.1 2 5 = S.1 2 5) (h3 : S'.1 3 = S.1 3) (h5 : S'.1 5 = S.1 5) (h6 : S'.1 6 = S.1 6) (h7 : S'.1 7 = S.1 7) (h8 : S'.1 8 = S.1 8) (h : WI S c) : WI S' c := by
  have e : ∀ w, wd S' w = wd S w := fun w => wd_congr h3 (by rw [h5]) (by rw [h6])
  unfold WI at h ⊢
  simp only [h2, h5, h6, h7, h8, e]
  exact h
def pw (S : nk_S) : Nat → Nat
  | 0 => 0
  | m + 1 => pw S m + if m < 70 then 0 else (wd S m).length + 1
theorem pw_congr {S S' : nk_S} : ∀ {c : Nat}, (∀ w, w < c → wd S' w = wd S w) → pw S' c = pw S c := by
  intro c
  induction c with
  | zero => intro _; rfl
  | succ c ih => intro h; rw [pw, pw, ih (fun w hw => h w (by omega)), h c (by omega)]
/-- what the tokens that are no marks weigh -/
def lw (b : Nat → Int) (ts : List (Nat × Nat)) : Nat := (ts.map (fun q => if lx_mark (b q.1) = true then 0 else q.2 - q.1 + 1)).sum
theorem lw_snoc (b : Nat → Int) (ts : List (Nat × Nat)) (q : Nat × Nat) : lw b (ts ++ [q]) = lw b ts + if lx_mark (b q.1) = true then 0 else q.2 - q.1 + 1 := by
  unfold lw; simp
/-- how the class's rows stand to the tokens so far -/
def cc_R (g : Nat → Int) (S : nk_S) (c : Nat) (ts : List (Nat × Nat)) : Prop := WI S c ∧ 70 ≤ c ∧ S.1 3 = g ∧ S.1 2 4 = (ts.length : Int) ∧ (∀ (i : Nat) (q : Nat × Nat), ts[i]? = some q → ∃ w : Nat, w < c ∧ S.1 4 i = (w : Int) ∧ wd S w = sg g (360 + q.1) (360 + q.2)) ∧ pw S c ≤ lw (fun k => g (360 + k)) ts ∧ 2 * (c - 70) ≤ pw S c ∧ (∀ w, w < 70 → wd S w = fx.getD w []) ∧ ∀ w, w < c → 1 ≤ (wd S w).length
def cc_F (S S' : nk_S) : Prop := S'.2 = S.2 ∧ (∀ a, a ≠ 2 → a ≠ 4 → a ≠ 5 → a ≠ 6 → a ≠ 7 → a ≠ 8 → S'.1 a = S.1 a) ∧ (∀ i, i ≠ 4 → i ≠ 5 → S'.1 2 i = S.1 2 i) ∧ ∀ w, w < 70 → S'.1 5 w = S.1 5 w ∧ S'.1 6 w = S.1 6 w ∧ S'.1 7 w = S.1 7 w
theorem cc_F_rf (S : nk_S) : cc_F S S := ⟨rfl, fun _ _ _ _ _ _ _ => rfl, fun _ _ _ => rfl, fun _ _ => ⟨rfl, rfl, rfl⟩⟩
theorem cc_F_tr {S S1 S2 : nk_S} (h1 : cc_F S S1) (h2 : cc_F S1 S2) : cc_F S S2 := by
  obtain ⟨a1, a2, a3, a4⟩ := h1
  obtain ⟨b1, b2, b3, b4⟩ := h2
  refine ⟨b1.trans a1, fun a x y z u v w => (b2 a x y z u v w).trans (a2 a x y z u v w), fun i x y => (b3 i x y).trans (a3 i x y), fun w hw => ?_⟩
  obtain ⟨p1, p2, p3⟩ := a4 w hw
  obtain ⟨q1, q2, q3⟩ := b4 w hw
  exact ⟨q1.trans p1, q2.trans p2, q3.trans p3⟩
theorem cc_mark {c : Int} (h : lx_mark c = true) : ∃ w, w < 70 ∧ fx.getD w [] = [c] := by
  unfold lx_mark at h
  rw [decide_eq_true_eq] at h
  rcases h with rfl | rfl | rfl | rfl | rfl
  · exact ⟨55, by decide, by decide⟩
  · exact ⟨56, by decide, by decide⟩
  · exact ⟨57, by decide, by decide⟩
  · exact ⟨58, by decide, by decide⟩
  · exact ⟨59, by decide, by decide⟩
theorem kp_F {S : nk_S} {c f t : Nat} (hc : 70 ≤ c) : cc_F S (kp_add S c f t) := by
  refine ⟨rfl, fun a a2 _ a5 a6 a7 a8 => kp_add_v S c f t a a2 a5 a6 a7 a8, fun i h4 h5 => ?_, fun w hw => ?_⟩
  · unfold kp_add; simp +decide only [wi_v, h5, false_and, and_false, if_false]
  · have : ¬ w = c := by omega
    unfold kp_add; simp +decide only [wi_v, this, false_and, and_false, if_false, and_self]
/-- a token more -/
theorem at_c {g : Nat → Int} {S : nk_S} {c f t : Nat} {ts : List (Nat × Nat)} (h : cc_R g S c ts) (hft : f < t) (ht : t ≤ 16000) (hl : ts.length < 16000) (hc : c < 12288) (hm : lx_mark (g (360 + f)) = true → t = f + 1) : ∃ S' c', ja_X10_addToken 2 ((360 + f : Nat) : Int) ((360 + t : Nat) : Int) S = some (0, S') ∧ cc_R g S' c' (ts ++ [(f, t)]) ∧ cc_F S S' := by
  obtain ⟨h1, h2, h3, h4, h5, h6, h7, h8, h9⟩ := h
  have hlen : (sg g (360 + f) (360 + t)).length = t - f := by rw [sg_len]; omega
  have key : ∃ (w c' : Nat) (S1 : nk_S), ja_X10_keep 2 ((360 + f : Nat) : Int) ((360 + t : Nat) : Int) S = some ((w : Int), S1) ∧ w < c' ∧ c ≤ c' ∧ WI S1 c' ∧ S1.1 2 4 = S.1 2 4 ∧ wd S1 w = sg g (360 + f) (360 + t) ∧ (∀ v, v < c → wd S1 v = wd S v) ∧ pw S1 c' ≤ lw (fun k => g (360 + k)) (ts ++ [(f, t)]) ∧ 2 * (c' - 70) ≤ pw S1 c' ∧ cc_F S S1 ∧ S1.1 4 = S.1 4 ∧ ∀ v, v < c' → 1 ≤ (wd S1 v).length := by
    rcases kp h1 (f := 360 + f) (t := 360 + t) (by omega) (by omega) hc with ⟨w, g1, g2, g3⟩ | ⟨g1, g2, g3⟩
    · rw [h3] at g2
      refine ⟨w, c, S, g3, g1, Nat.le_refl _, h1, rfl, g2, fun _ _ => rfl, ?_, h7, cc_F_rf S, rfl, h9⟩
      rw [lw_snoc]; omega
    · have hnm : lx_mark (g (360 + f)) = false := by
        cases hm2 : lx_mark (g (360 + f)) with
        | false => rfl
        | true =>
          exfalso
          obtain ⟨w, w1, w2⟩ := cc_mark hm2
          refine g1 w (by omega) ?_
          rw [h8 w w1, w2, h3, hm hm2]
          unfold sg
          rw [show 360 + (f + 1) - (360 + f) = 1 by omega]
          rfl
      refine ⟨c, c + 1, kp_add S c (360 + f) (360 + t), g3, by omega, by omega, g2, ?_, by rw [kp_wdc, h3], fun v hv => kp_wd hv, ?_, ?_, kp_F h2, ?_, fun v hv => ?_⟩
      · unfold kp_add; simp +decide only [wi_v, false_and, if_false]
      · rw [lw_snoc, pw, pw_congr (S := S) (fun v hv => kp_wd hv), kp_wdc, h3, hlen, if_neg (by omega)]
        simp only [hnm, Bool.false_eq_true, if_false]
        omega
      · rw [pw, pw_congr (S := S) (fun v hv => kp_wd hv), kp_wdc, h3, hlen, if_neg (by omega)]
        omega
      · exact kp_add_v S c _ _ 4 (by decide) (by decide) (by decide) (by decide) (by decide)
      · by_cases e : v = c
        · subst e; rw [kp_wdc, h3, hlen]; omega
        · rw [kp_wd (by omega)]; exact h9 v (by omega)
  obtain ⟨w, c', S1, k1, k2, k3, k4, k5, k6, k7, k8, k9, k10, k11, k12⟩ := key
  have e3 : S1.1 3 = g := by rw [k10.2.1 3 (by decide) (by decide) (by decide) (by decide) (by decide) (by decide)]; exact h3
  have ek : ∀ v, wd (nk_wi (nk_wi S1 4 ts.length (w : Int)) 2 4 ((ts.length + 1 : Nat) : Int)) v = wd S1 v := fun v => wd_congr (by rw [wi_n (by decide), wi_n (by decide)]) (by rw [wi_n (by decide), wi_n (by decide)]) (by rw [wi_n (by decide), wi_n (by decide)])
  refine ⟨nk_wi (nk_wi S1 4 ts.length (w : Int)) 2 4 ((ts.length + 1 : Nat) : Int), c', ?_, ⟨?_, by omega, ?_, ?_, fun i q hq => ?_, ?_, ?_, fun v hv => ?_, fun v hv => ?_⟩, cc_F_tr k10 ⟨rfl, fun a a2 a4 _ _ _ _ => ?_, fun i i4 _ => ?_, fun v _ => ?_⟩⟩
  · unfold ja_X10_addToken
    rw [h4, if_neg (by omega), k1, bd_some, if_pos (in_i (N := 16000) (by omega)), lt_eq, lt_eq, jc_2_3, Int.toNat_natCast]
    have hw1 : nk_w ((ts.length : Int) + 1) = ((ts.length + 1 : Nat) : Int) := w_nat1 (by omega)
    simp +decide only [wi_v, false_and, if_false, k5, h4, hw1]
  · exact WI_congr (by simp +decide only [wi_v, false_and, if_false]) (by rw [wi_n (by decide), wi_n (by decide)]) (by rw [wi_n (by decide), wi_n (by decide)]) (by rw [wi_n (by decide), wi_n (by decide)]) (by rw [wi_n (by decide), wi_n (by decide)]) (by rw [wi_n (by decide), wi_n (by decide)]) k4
  · rw [wi_n (by decide), wi_n (by decide)]; exact e3
  · simp +decide only [wi_v, if_true, List.length_append, List.length_cons, List.length_nil]
  · by_cases hi : i = ts.length
    · subst hi
      simp at hq
      subst hq
      refine ⟨w, k2, ?_, ?_⟩
      · simp +decide only [wi_v, false_and, and_self, if_true, if_false]
      · rw [ek]; exact k6
    · have hi2 : i < ts.length := by
        have := (List.getElem?_eq_some_iff.mp hq).1
        simp only [List.length_append, List.length_cons, List.length_nil] at this
        omega
      rw [List.getElem?_append_left hi2] at hq
      obtain ⟨v, v1, v2, v3⟩ := h5 i q hq
      refine ⟨v, by omega, ?_, ?_⟩
      · simp +decide only [wi_v, hi, false_and, and_false, if_false]; rw [k11]; exact v2
      · rw [ek, k7 v v1]; exact v3
  · rw [pw_congr (S := S1) (fun v _ => ek v)]; exact k8
  · rw [pw_congr (S := S1) (fun v _ => ek v)]; exact k9
  · rw [ek, k7 v (by omega)]; exact h8 v hv
  · rw [ek]; exact k12 v hv
  · rw [wi_n a2, wi_n a4]
  · simp +decide only [wi_v, i4, false_and, and_false, if_false]
  · simp +decide only [wi_v, false_and, if_false, and_self]
