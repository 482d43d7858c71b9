/-! feed and end, both sides. -/
theorem fw_c1 {rec3 : Nat → Int → Int → nk_S → Option (Int × nk_S)} {S : nk_S} {w s : Int} {N : Nat} (hs0 : 0 ≤ s) (hs1 : s ≤ 24) (hn : S.1 0 1 = (N : Int)) (hN : N < 16000) : ja_X11_feedWord_b3 rec3 0 w s S = rec3 0 w (s - 8) (nk_wi (nk_wi S 1 N (nk_i2b (nk_iushr w s))) 0 1 ((N + 1 : Nat) : Int)) := by
  have c1 : ¬ s < 0 := by omega
  have c2 : 0 ≤ (N : Int) ∧ (N : Int) < 16000 := ⟨by omega, by omega⟩
  have c3 : nk_w (s + -8) = s - 8 := nk_w_id (by omega) (by omega)
  have c4 : nk_w ((N : Int) + 1) = ((N + 1 : Nat) : Int) := by rw [nk_w_id (by omega) (by omega)]; omega
  have c5 : (N : Int).toNat = N := by omega
  simp +decide only [ja_X11_feedWord_b3, jc_0_0, lt_eq, hn, c1, c2, c3, c4, c5, wi_v, i2b_2, if_true, if_false, and_self, false_and]
theorem fw_m1 {rec2 : Nat → Int → Int → nk_S → Option (Int × nk_S)} {S : nk_S} {w s : Int} {N : Nat} (hs0 : 0 ≤ s) (hs1 : s ≤ 3) (hn : S.1 121 4 = (N : Int)) (hN : N < 16000) : ja_X13_word_b2 rec2 121 w s S = rec2 121 w (s - 1) (nk_wi (nk_wi S 214 N (nk_i2b (nk_ishr w (8 * s)))) 121 4 ((N + 1 : Nat) : Int)) := by
  have c1 : ¬ s < 0 := by omega
  have c2 : 0 ≤ (N : Int) ∧ (N : Int) < 16000 := ⟨by omega, by omega⟩
  have c3 : nk_w (s + -1) = s - 1 := nk_w_id (by omega) (by omega)
  have c4 : nk_w ((N : Int) + 1) = ((N + 1 : Nat) : Int) := by rw [nk_w_id (by omega) (by omega)]; omega
  have c5 : (N : Int).toNat = N := by omega
  have c6 : nk_w (8 * s) = 8 * s := nk_w_id (by omega) (by omega)
  simp +decide only [ja_X13_word_b2, jc_121_3, lt_eq, hn, c1, c2, c3, c4, c5, c6, wi_v, i2b_2, if_true, if_false, and_self, false_and]
/-- four bytes come behind the first N of a row -/
def fw_put (f : Nat → Int) (N : Nat) (b : Nat → Int) : Nat → Int := fun i => if N ≤ i ∧ i < N + 4 then b (i - N) else f i
theorem fw_c {S : nk_S} {w : Int} {N : Nat} (hn : S.1 0 1 = (N : Int)) (hN : N + 4 ≤ 16000) : ∃ S', ja_X11_feedWord 0 w S = some (0, S') ∧ S'.2 = S.2 ∧ S'.1 0 1 = ((N + 4 : Nat) : Int) ∧ (∀ k, k ≠ 1 → S'.1 0 k = S.1 0 k) ∧ S'.1 1 = fw_put (S.1 1) N (fun j => nk_i2b (nk_iushr w (24 - 8 * (j : Int)))) ∧ ∀ a, a ≠ 0 → a ≠ 1 → S'.1 a = S.1 a := by
  obtain ⟨m, hm⟩ := big_ge 5 (by omega)
  unfold ja_X11_feedWord
  rw [hm]
  show ∃ S', ja_X11_feedWord_b3 (ja_X11_feedWord_L3 (m + 4)) 0 w 24 S = some (0, S') ∧ _
  rw [fw_c1 (by omega) (by omega) hn (by omega)]
  show ∃ S', ja_X11_feedWord_b3 (ja_X11_feedWord_L3 (m + 3)) 0 w 16 _ = some (0, S') ∧ _
  rw [fw_c1 (N := N + 1) (by omega) (by omega) (by simp +decide only [wi_v, if_true, and_self]) (by omega)]
  show ∃ S', ja_X11_feedWord_b3 (ja_X11_feedWord_L3 (m + 2)) 0 w 8 _ = some (0, S') ∧ _
  rw [fw_c1 (N := N + 1 + 1) (by omega) (by omega) (by simp +decide only [wi_v, if_true, and_self]) (by omega)]
  show ∃ S', ja_X11_feedWord_b3 (ja_X11_feedWord_L3 (m + 1)) 0 w 0 _ = some (0, S') ∧ _
  rw [fw_c1 (N := N + 1 + 1 + 1) (by omega) (by omega) (by simp +decide only [wi_v, if_true, and_self]) (by omega)]
  show ∃ S', ja_X11_feedWord_b3 (ja_X11_feedWord_L3 m) 0 w (-8) _ = some (0, S') ∧ _
  unfold ja_X11_feedWord_b3
  rw [if_pos (by omega)]
  refine ⟨_, rfl, rfl, ?_, fun k hk => ?_, ?_, fun a h0 h1 => ?_⟩
  · simp +decide only [wi_v, if_true, and_self]
  · simp +decide only [wi_v, hk, if_false, false_and, and_false]
  · funext i
    simp +decide only [wi_v, fw_put, true_and, false_and, if_false]
    by_cases e3 : i = N + 1 + 1 + 1
    · subst e3; rw [if_pos rfl, if_pos (by omega)]; congr 2; omega
    · rw [if_neg e3]
      by_cases e2 : i = N + 1 + 1
      · subst e2; rw [if_pos rfl, if_pos (by omega)]; congr 2; omega
      · rw [if_neg e2]
        by_cases e1 : i = N + 1
        · subst e1; rw [if_pos rfl, if_pos (by omega)]; congr 2; omega
        · rw [if_neg e1]
          by_cases e0 : i = N
          · subst e0; rw [if_pos rfl, if_pos (by omega)]; congr 2; omega
          · rw [if_neg e0, if_neg (by omega)]
  · funext i
    simp only [wi_v, h0, h1, false_and, if_false]
theorem fw_m {S : nk_S} {w : Int} {N : Nat} (hn : S.1 121 4 = (N : Int)) (hN : N + 4 ≤ 16000) : ∃ S', ja_X13_word 121 w S = some (0, S') ∧ S'.2 = S.2 ∧ S'.1 121 4 = ((N + 4 : Nat) : Int) ∧ (∀ k, k ≠ 4 → S'.1 121 k = S.1 121 k) ∧ S'.1 214 = fw_put (S.1 214) N (fun j => nk_i2b (nk_ishr w (24 - 8 * (j : Int)))) ∧ ∀ a, a ≠ 121 → a ≠ 214 → S'.1 a = S.1 a := by
  obtain ⟨m, hm⟩ := big_ge 5 (by omega)
  unfold ja_X13_word
  rw [hm]
  show ∃ S', ja_X13_word_b2 (ja_X13_word_L2 (m + 4)) 121 w 3 S = some (0, S') ∧ _
  rw [fw_m1 (by omega) (by omega) hn (by omega)]
  show ∃ S', ja_X13_word_b2 (ja_X13_word_L2 (m + 3)) 121 w 2 _ = some (0, S') ∧ _
  rw [fw_m1 (N := N + 1) (by omega) (by omega) (by simp +decide only [wi_v, if_true, and_self]) (by omega)]
  show ∃ S', ja_X13_word_b2 (ja_X13_word_L2 (m + 2)) 121 w 1 _ = some (0, S') ∧ _
  rw [fw_m1 (N := N + 1 + 1) (by omega) (by omega) (by simp +decide only [wi_v, if_true, and_self]) (by omega)]
  show ∃ S', ja_X13_word_b2 (ja_X13_word_L2 (m + 1)) 121 w 0 _ = some (0, S') ∧ _
  rw [fw_m1 (N := N + 1 + 1 + 1) (by omega) (by omega) (by simp +decide only [wi_v, if_true, and_self]) (by omega)]
  show ∃ S', ja_X13_word_b2 (ja_X13_word_L2 m) 121 w (-1) _ = some (0, S') ∧ _
  unfold ja_X13_word_b2
  rw [if_pos (by omega)]
  refine ⟨_, rfl, rfl, ?_, fun k hk => ?_, ?_, fun a h0 h1 => ?_⟩
  · simp +decide only [wi_v, if_true, and_self]
  · simp +decide only [wi_v, hk, if_false, false_and, and_false]
  · funext i
    simp +decide only [wi_v, fw_put, true_and, false_and, if_false]
    by_cases e3 : i = N + 1 + 1 + 1
    · subst e3; rw [if_pos rfl, if_pos (by omega)]; congr 2; omega
    · rw [if_neg e3]
      by_cases e2 : i = N + 1 + 1
      · subst e2; rw [if_pos rfl, if_pos (by omega)]; congr 2; omega
      · rw [if_neg e2]
        by_cases e1 : i = N + 1
        · subst e1; rw [if_pos rfl, if_pos (by omega)]; congr 2; omega
        · rw [if_neg e1]
          by_cases e0 : i = N
          · subst e0; rw [if_pos rfl, if_pos (by omega)]; congr 2; omega
          · rw [if_neg e0, if_neg (by omega)]
  · funext i
    simp only [wi_v, h0, h1, false_and, if_false]
theorem fw_b (w : Int32) (j : Nat) (hj : j < 4) : nk_i2b (nk_iushr w.toInt (24 - 8 * (j : Int))) = nk_i2b (nk_ishr w.toInt (24 - 8 * (j : Int))) := by
  obtain ⟨h1, h2, h3, h4⟩ := fb_eq w
  match j, hj with
  | 0, _ => exact h1
  | 1, _ => exact h2
  | 2, _ => exact h3
  | 3, _ => exact h4
/-- what is kept by words: the bytes of both sides -/
def fw_rel (S : nk_S) (N : Nat) (f g : Nat → Int) : Prop := ∀ k : Nat, k < N → f k = g k ∧ -128 ≤ g k ∧ g k < 128
theorem fw_rel_put {f g : Nat → Int} {N : Nat} {S : nk_S} (w : Int32) (h : fw_rel S N f g) : fw_rel S (N + 4) (fw_put f N (fun j => nk_i2b (nk_iushr w.toInt (24 - 8 * (j : Int))))) (fw_put g N (fun j => nk_i2b (nk_ishr w.toInt (24 - 8 * (j : Int))))) := by
  intro k hk
  unfold fw_put
  by_cases hc : N ≤ k
  · rw [if_pos ⟨hc, hk⟩, if_pos ⟨hc, hk⟩]
    exact ⟨fw_b w _ (by omega), i2b_rg _⟩
  · rw [if_neg (fun e => hc e.1), if_neg (fun e => hc e.1)]
    exact h k (by omega)
