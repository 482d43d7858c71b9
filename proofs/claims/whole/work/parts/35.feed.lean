/-! feed and end: both sides answer alike. -/
theorem fd_c {S : nk_S} {a b c d e : Int} {N : Nat} (hn : S.1 0 1 = (N : Int)) (hN : N + 20 ≤ 16000) (h20 : S.1 0 2 + 20 ≤ 65536) (h2 : 0 ≤ S.1 0 2) : ∃ S', ja_X11_feed 0 a b c d e S = some (((N + 20 : Nat) : Int), S') ∧ S'.2 = S.2 ∧ S'.1 0 1 = ((N + 20 : Nat) : Int) ∧ S'.1 0 2 = S.1 0 2 + 20 ∧ (∀ k, k ≠ 1 → k ≠ 2 → S'.1 0 k = S.1 0 k) ∧ (S'.1 1 = fw_put (fw_put (fw_put (fw_put (fw_put (S.1 1) N (fun j => nk_i2b (nk_iushr a (24 - 8 * (j : Int))))) (N + 4) (fun j => nk_i2b (nk_iushr b (24 - 8 * (j : Int))))) (N + 8) (fun j => nk_i2b (nk_iushr c (24 - 8 * (j : Int))))) (N + 12) (fun j => nk_i2b (nk_iushr d (24 - 8 * (j : Int))))) (N + 16) (fun j => nk_i2b (nk_iushr e (24 - 8 * (j : Int))))) ∧ ∀ a, a ≠ 0 → a ≠ 1 → S'.1 a = S.1 a := by
  obtain ⟨S1, p1, p2, p3, p4, p5, p6⟩ := fw_c (w := a) hn (by omega)
  obtain ⟨S2, q1, q2, q3, q4, q5, q6⟩ := fw_c (w := b) p3 (by omega)
  obtain ⟨S3, r1, r2, r3, r4, r5, r6⟩ := fw_c (w := c) q3 (by omega)
  obtain ⟨S4, s1, s2, s3, s4, s5, s6⟩ := fw_c (w := d) r3 (by omega)
  obtain ⟨S5, t1, t2, t3, t4, t5, t6⟩ := fw_c (w := e) s3 (by omega)
  have e2 : S5.1 0 2 = S.1 0 2 := by rw [t4 2 (by decide), s4 2 (by decide), r4 2 (by decide), q4 2 (by decide), p4 2 (by decide)]
  have c1 : ¬ (16000 : Int) < nk_w ((N : Int) + 20) := by rw [nk_w_id (by omega) (by omega)]; omega
  have c2 : nk_w (S.1 0 2 + 20) ≤ 65536 := by rw [nk_w_id (by omega) (by omega)]; omega
  have c3 : nk_w (S.1 0 2 + 20) = S.1 0 2 + 20 := nk_w_id (by omega) (by omega)
  refine ⟨nk_wi S5 0 2 (S.1 0 2 + 20), ?_, ?_, ?_, ?_, fun k h1 h2 => ?_, ?_, fun x h0 h1 => ?_⟩
  · unfold ja_X11_feed
    rw [hn, if_neg c1, if_pos c2, p1, bd_some, q1, bd_some, r1, bd_some, s1, bd_some, t1, bd_some, lt_eq, e2, c3]
    simp +decide only [wi_v, if_false, t3]
  · rw [wi_2, t2, s2, r2, q2, p2]
  · simp +decide only [wi_v, if_false, t3]
  · simp +decide only [wi_v, if_true]
  · simp only [wi_v, h2, and_false, if_false]
    rw [t4 k h1, s4 k h1, r4 k h1, q4 k h1, p4 k h1]
  · rw [wi_n (by decide), t5, s5, r5, q5, p5]
  · rw [wi_n h0, t6 x h0 h1, s6 x h0 h1, r6 x h0 h1, q6 x h0 h1, p6 x h0 h1]
theorem fd_m {S : nk_S} {a b c d e : Int} {N : Nat} (hn : S.1 121 4 = (N : Int)) (hN : N + 20 ≤ 16000) (h20 : S.1 121 5 + 20 ≤ 65536) (h2 : 0 ≤ S.1 121 5) : ∃ S', ja_X13_feed 121 a b c d e S = some (((N + 20 : Nat) : Int), S') ∧ S'.2 = S.2 ∧ S'.1 121 4 = ((N + 20 : Nat) : Int) ∧ S'.1 121 5 = S.1 121 5 + 20 ∧ (∀ k, k ≠ 4 → k ≠ 5 → S'.1 121 k = S.1 121 k) ∧ (S'.1 214 = fw_put (fw_put (fw_put (fw_put (fw_put (S.1 214) N (fun j => nk_i2b (nk_ishr a (24 - 8 * (j : Int))))) (N + 4) (fun j => nk_i2b (nk_ishr b (24 - 8 * (j : Int))))) (N + 8) (fun j => nk_i2b (nk_ishr c (24 - 8 * (j : Int))))) (N + 12) (fun j => nk_i2b (nk_ishr d (24 - 8 * (j : Int))))) (N + 16) (fun j => nk_i2b (nk_ishr e (24 - 8 * (j : Int))))) ∧ ∀ a, a ≠ 121 → a ≠ 214 → S'.1 a = S.1 a := by
  obtain ⟨S1, p1, p2, p3, p4, p5, p6⟩ := fw_m (w := a) hn (by omega)
  obtain ⟨S2, q1, q2, q3, q4, q5, q6⟩ := fw_m (w := b) p3 (by omega)
  obtain ⟨S3, r1, r2, r3, r4, r5, r6⟩ := fw_m (w := c) q3 (by omega)
  obtain ⟨S4, s1, s2, s3, s4, s5, s6⟩ := fw_m (w := d) r3 (by omega)
  obtain ⟨S5, t1, t2, t3, t4, t5, t6⟩ := fw_m (w := e) s3 (by omega)
  have e2 : S5.1 121 5 = S.1 121 5 := by rw [t4 5 (by decide), s4 5 (by decide), r4 5 (by decide), q4 5 (by decide), p4 5 (by decide)]
  have c1 : ¬ (16000 : Int) < nk_w ((N : Int) + 20) := by rw [nk_w_id (by omega) (by omega)]; omega
  have c2 : nk_w (S.1 121 5 + 20) ≤ 65536 := by rw [nk_w_id (by omega) (by omega)]; omega
  have c3 : nk_w (S.1 121 5 + 20) = S.1 121 5 + 20 := nk_w_id (by omega) (by omega)
  refine ⟨nk_wi S5 121 5 (S.1 121 5 + 20), ?_, ?_, ?_, ?_, fun k h1 h2 => ?_, ?_, fun x h0 h1 => ?_⟩
  · unfold ja_X13_feed
    rw [hn, if_neg c1, if_pos c2, p1, bd_some, q1, bd_some, r1, bd_some, s1, bd_some, t1, bd_some, lt_eq, e2, c3]
    simp +decide only [wi_v, if_false, t3]
  · rw [wi_2, t2, s2, r2, q2, p2]
  · simp +decide only [wi_v, if_false, t3]
  · simp +decide only [wi_v, if_true]
  · simp only [wi_v, h2, and_false, if_false]
    rw [t4 k h1, s4 k h1, r4 k h1, q4 k h1, p4 k h1]
  · rw [wi_n (by decide), t5, s5, r5, q5, p5]
  · rw [wi_n h0, t6 x h0 h1, s6 x h0 h1, r6 x h0 h1, q6 x h0 h1, p6 x h0 h1]
theorem io_feed {Rest : nk_S → Prop} (hR : ∀ S S', io_g S S' → Rest S → Rest S') (a b c d e : Int32) : jb_two (io_I Rest) (ja_X11_feed 0 a.toInt b.toInt c.toInt d.toInt e.toInt) (ja_X13_feed 121 a.toInt b.toInt c.toInt d.toInt e.toInt) := by
  intro S h
  obtain ⟨h1, h2, h3, h4, h5, h6⟩ := id h
  obtain ⟨f1, f2, f3, f4, f5, f6, f7⟩ := id h1
  obtain ⟨N, hN⟩ : ∃ N : Nat, S.1 121 4 = (N : Int) := ⟨(S.1 121 4).toNat, by omega⟩
  by_cases hc : N + 20 ≤ 16000 ∧ S.1 121 5 + 20 ≤ 65536
  · obtain ⟨S1, p1, p2, p3, p4, p5, p6, p7⟩ := fd_c (a := a.toInt) (b := b.toInt) (c := c.toInt) (d := d.toInt) (e := e.toInt) (f1.trans hN) hc.1 (by omega) (by omega)
    obtain ⟨S2, q1, q2, q3, q4, q5, q6, q7⟩ := fd_m (S := S1) (N := N) (a := a.toInt) (b := b.toInt) (c := c.toInt) (d := d.toInt) (e := e.toInt) (by rw [p7 121 (by decide) (by decide)]; exact hN) hc.1 (by rw [p7 121 (by decide) (by decide)]; exact hc.2) (by rw [p7 121 (by decide) (by decide)]; exact f5)
    have k0 : S2.1 0 = S1.1 0 := q7 0 (by decide) (by decide)
    have k1 : S2.1 1 = S1.1 1 := q7 1 (by decide) (by decide)
    have k2 : S1.1 121 = S.1 121 := p7 121 (by decide) (by decide)
    have k3 : S1.1 214 = S.1 214 := p7 214 (by decide) (by decide)
    have ks : ∀ x, x ≠ 0 → x ≠ 1 → x ≠ 121 → x ≠ 214 → S2.1 x = S.1 x := fun x a0 a1 a2 a3 => (q7 x a2 a3).trans (p7 x a0 a1)
    rw [k3] at q6
    rw [k2] at q4 q5
    refine ⟨_, S1, S2, p1, q1, ?_, ?_, ?_, ?_, ?_, hR S S2 ⟨q2.trans p2, fun x a0 a1 a2 a3 a4 a5 a6 a7 a8 => ks x a0 a1 a5 a6, ?_, ?_, fun k hk => ?_, fun k hk => ?_⟩ h6⟩
    · unfold io_f
      rw [k0, k1, p3, q3, p4, q4, p6, q6, f4]
      refine ⟨rfl, by omega, by omega, rfl, by omega, by omega, fun k hk => ?_⟩
      have r0 : fw_rel S N (S.1 1) (S.1 214) := fun k hk => f7 k (by omega)
      exact fw_rel_put e (fw_rel_put d (fw_rel_put c (fw_rel_put b (fw_rel_put a r0)))) k (by omega)
    · unfold io_t at h2 ⊢
      rw [ks 2 (by decide) (by decide) (by decide) (by decide), ks 3 (by decide) (by decide) (by decide) (by decide), ks 215 (by decide) (by decide) (by decide) (by decide), q5 7 (by decide) (by decide)]
      exact h2
    · rw [k0, p5 7 (by decide) (by decide), q5 12 (by decide) (by decide)]; exact h3
    · unfold io_i at h4 ⊢
      rw [k0, p5 12 (by decide) (by decide), q5 55 (by decide) (by decide), ks 112 (by decide) (by decide) (by decide) (by decide), ks 248 (by decide) (by decide) (by decide) (by decide)]; exact h4
    · unfold io_o at h5 ⊢
      rw [ks 113 (by decide) (by decide) (by decide) (by decide), ks 120 (by decide) (by decide) (by decide) (by decide), ks 249 (by decide) (by decide) (by decide) (by decide), q5 58 (by decide) (by decide), q5 59 (by decide) (by decide), q5 60 (by decide) (by decide), q5 57 (by decide) (by decide), q5 62 (by decide) (by decide)]; exact h5
    · rw [k0, p5 6 (by decide) (by decide)]
    · rw [q5 2 (by decide) (by decide)]
    · rw [ks 2 (by decide) (by decide) (by decide) (by decide)]
    · rw [ks 3 (by decide) (by decide) (by decide) (by decide)]
  · refine ⟨-1, S, S, ?_, ?_, h⟩
    · unfold ja_X11_feed
      rw [f1, f4, nk_w_id (by omega) (by omega), nk_w_id (by omega) (by omega)]
      by_cases c1 : 16000 < S.1 121 4 + 20
      · rw [if_pos c1]
      · rw [if_neg c1, if_neg (by omega)]
    · unfold ja_X13_feed
      rw [nk_w_id (by omega) (by omega), nk_w_id (by omega) (by omega)]
      by_cases c1 : 16000 < S.1 121 4 + 20
      · rw [if_pos c1]
      · rw [if_neg c1, if_neg (by omega)]
/-! end -/
theorem en_m {n : Nat} (hn : n ≤ 16000) : ∀ (j m : Nat) (S : nk_S) (x : Int), x = (j : Int) → j ≤ n → n < m + j → (∀ k, k < n → -128 ≤ S.1 214 k ∧ S.1 214 k < 128) → ∃ S', ja_X13_end_L16 m 121 (n : Int) x S = some (1, S') ∧ S'.2 = S.2 ∧ S'.1 121 7 = (n : Int) ∧ S'.1 121 4 = 0 ∧ (∀ k, k ≠ 7 → k ≠ 4 → S'.1 121 k = S.1 121 k) ∧ (∀ k, S'.1 215 k = if j ≤ k ∧ k < n then S.1 214 k else S.1 215 k) ∧ ∀ a, a ≠ 121 → a ≠ 215 → S'.1 a = S.1 a := by
  intro j m
  induction m generalizing j with
  | zero => intro S x _ h1 h2; omega
  | succ m ih =>
    intro S x hx hj hm hb
    show ∃ S', ja_X13_end_b16 (ja_X13_end_L16 m) 121 (n : Int) x S = some (1, S') ∧ _
    subst hx
    unfold ja_X13_end_b16
    by_cases hc : (n : Int) ≤ (j : Int)
    · rw [if_pos hc, lt_eq, lt_eq]
      refine ⟨_, rfl, rfl, ?_, ?_, fun k h1 h2 => ?_, fun k => ?_, fun a h1 h2 => ?_⟩
      · simp +decide only [wi_v, if_true, if_false]
      · simp +decide only [wi_v, if_true]
      · simp only [wi_v, h1, h2, and_false, if_false]
      · simp +decide only [wi_v, false_and, if_false]; rw [if_neg (by omega)]
      · funext k; simp only [wi_v, h1, false_and, if_false]
    · have c2 : 0 ≤ (j : Int) ∧ (j : Int) < 16000 := ⟨by omega, by omega⟩
      have c3 : nk_w ((j : Int) + 1) = ((j + 1 : Nat) : Int) := by rw [nk_w_id (by omega) (by omega)]; omega
      have c4 : nk_i2b (S.1 214 j) = S.1 214 j := i2b_id (hb j (by omega)).1 (hb j (by omega)).2
      rw [if_neg hc, if_pos c2, lt_eq, lt_eq, c3, jc_121_6, jc_121_3, Int.toNat_natCast, c4]
      obtain ⟨S', p1, p2, p3, p4, p5, p6, p7⟩ := ih (j + 1) (nk_wi S 215 j (S.1 214 j)) _ rfl (by omega) (by omega) (fun k hk => by simp +decide only [wi_v, false_and, if_false]; exact hb k hk)
      refine ⟨S', p1, p2, p3, p4, fun k h1 h2 => ?_, fun k => ?_, fun a h1 h2 => ?_⟩
      · rw [p5 k h1 h2]; simp +decide only [wi_v, false_and, if_false]
      · rw [p6 k]
        simp +decide only [wi_v, false_and, true_and, if_false]
        by_cases e : k = j
        · subst e; rw [if_neg (by omega), if_pos rfl, if_pos (by omega)]
        · simp only [e, if_false]
          by_cases e2 : j + 1 ≤ k ∧ k < n
          · rw [if_pos e2, if_pos (by omega)]
          · rw [if_neg e2, if_neg (by omega)]
      · rw [p7 a h1 h2]; exact wi_n h2
theorem io_end {Rest : nk_S → Prop} (hR : ∀ S S', io_g S S' → Rest S → Rest S') (a : Int32) : jb_two (io_I Rest) (ja_X11_end 0 a.toInt) (ja_X13_end 121 a.toInt) := by
  intro S h
  obtain ⟨h1, h2, h3, h4, h5, h6⟩ := id h
  obtain ⟨f1, f2, f3, f4, f5, f6, f7⟩ := id h1
  obtain ⟨t1, t2, t3, t4, t5⟩ := id h2
  by_cases hc : 0 ≤ a.toInt ∧ a.toInt ≤ S.1 121 4
  · obtain ⟨n, hn⟩ : ∃ n : Nat, a.toInt = (n : Int) := ⟨a.toInt.toNat, by omega⟩
    obtain ⟨m, hm⟩ := big_ge 16001 (by omega)
    have cN : (360 : Int).toNat = 360 := rfl
    have e1 : ja_X11_end 0 a.toInt S = some (1, nk_wi (nk_wi (nk_cp S 1 0 3 360 n) 2 2 (360 + (n : Int))) 0 1 0) := by
      unfold ja_X11_end
      rw [if_neg (by omega), f1, if_pos hc.2, jc_0_3, jc_0_0]
      unfold ja_X10_setText
      rw [if_neg (by omega), if_neg (by omega), if_neg (by omega), t1, if_pos (by omega), lt_eq, lt_eq, jc_2_0, bd_some, lt_eq, hn, Int.toNat_natCast, cN]
      simp +decide only [cp_v, false_and, if_false, t1]
      rw [nk_w_id (by omega) (by omega)]
    have hS1 : ∀ x, x ≠ 0 → x ≠ 2 → x ≠ 3 → (nk_wi (nk_wi (nk_cp S 1 0 3 360 n) 2 2 (360 + (n : Int))) 0 1 0).1 x = S.1 x := fun x a0 a2 a3 => by rw [wi_n a0, wi_n a2, cp_n a3]
    obtain ⟨S2, q1, q2, q3, q4, q5, q6, q7⟩ := en_m (n := n) (by omega) 0 nk_big (nk_wi (nk_wi (nk_cp S 1 0 3 360 n) 2 2 (360 + (n : Int))) 0 1 0) 0 (by omega) (by omega) (by omega) (fun k hk => by rw [hS1 214 (by decide) (by decide) (by decide)]; exact (f7 k (by omega)).2)
    have k121 := hS1 121 (by decide) (by decide) (by decide)
    have k214 := hS1 214 (by decide) (by decide) (by decide)
    have ks : ∀ x, x ≠ 0 → x ≠ 2 → x ≠ 3 → x ≠ 121 → x ≠ 215 → S2.1 x = S.1 x := fun x a0 a2 a3 a4 a5 => (q7 x a4 a5).trans (hS1 x a0 a2 a3)
    have k0 := q7 0 (by decide) (by decide)
    have k2 := q7 2 (by decide) (by decide)
    have k3 := q7 3 (by decide) (by decide)
    rw [k121] at q5
    refine ⟨1, _, S2, e1, ?_, ?_, ?_, ?_, ?_, ?_, hR S S2 ⟨q2, fun x a0 a1 a2 a3 a4 a5 a6 a7 a8 => ks x a0 a2 a3 a5 a7, ?_, ?_, fun k hk => ?_, fun k hk => ?_⟩ h6⟩
    · unfold ja_X13_end
      rw [if_neg (by omega), k121, if_pos hc.2, hn]
      exact q1
    · unfold io_f
      rw [q4, k0, q5 5 (by decide) (by decide)]
      simp +decide only [wi_v, cp_v, if_true, if_false]
      exact ⟨by first | trivial | omega, by first | trivial | omega, by first | trivial | omega, f4, f5, f6, fun k hk => by omega⟩
    · unfold io_t
      rw [q3, k2, k3]
      simp +decide only [wi_v, cp_v, if_true, if_false, false_and, true_and, t1]
      refine ⟨by omega, by omega, fun k hk => ?_⟩
      rw [q6 k, k214, if_pos (by omega), if_pos (by omega), show 0 + (360 + k - 360) = k by omega]
      exact f7 k (by omega)
    · rw [k0, q5 12 (by decide) (by decide)]; simp +decide only [wi_v, cp_v, false_and, if_false]; exact h3
    · unfold io_i at h4 ⊢
      rw [k0, q5 55 (by decide) (by decide), ks 112 (by decide) (by decide) (by decide) (by decide) (by decide), ks 248 (by decide) (by decide) (by decide) (by decide) (by decide)]
      simp +decide only [wi_v, cp_v, false_and, if_false]; exact h4
    · unfold io_o at h5 ⊢
      rw [ks 113 (by decide) (by decide) (by decide) (by decide) (by decide), ks 120 (by decide) (by decide) (by decide) (by decide) (by decide), ks 249 (by decide) (by decide) (by decide) (by decide) (by decide), q5 58 (by decide) (by decide), q5 59 (by decide) (by decide), q5 60 (by decide) (by decide), q5 57 (by decide) (by decide), q5 62 (by decide) (by decide)]; exact h5
    · rw [k0]; simp +decide only [wi_v, cp_v, false_and, if_false]
    · rw [q5 2 (by decide) (by decide)]
    · rw [k2]; simp only [wi_v, cp_v, hk, and_false, if_false]; simp +decide only [false_and, if_false]
    · rw [k3]; simp +decide only [wi_v, cp_v, false_and, true_and, if_false]; rw [if_neg (by omega)]
  · refine ⟨0, S, S, ?_, ?_, h⟩
    · unfold ja_X11_end
      by_cases c1 : a.toInt < 0
      · rw [if_pos c1]
      · rw [if_neg c1, f1, if_neg (by omega)]
    · unfold ja_X13_end
      by_cases c1 : a.toInt < 0
      · rw [if_pos c1]
      · rw [if_neg c1, if_neg (by omega)]
