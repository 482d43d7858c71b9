/-! Every call: both sides answer alike. -/
section ALL
variable {Rest : nk_S → Prop}
theorem io_feed2 {Rest : nk_S → Prop} (hR : ∀ S S', io_g S S' → (∀ k, k < 256 → S'.1 112 k = S.1 112 k ∨ iR (S'.1 112 k)) → Rest S → Rest S') (a b c d e : Int32) : jb_two (io_I Rest) (ja_X11_feed 0 a.toInt b.toInt c.toInt d.toInt e.toInt) (ja_X13_feed 121 a.toInt b.toInt c.toInt d.toInt e.toInt) := by
  intro S h
  obtain ⟨h1, h2, h3, h4, h5, h6⟩ := id h
  obtain ⟨f1, f2, f3, f4, f5, f6, f7⟩ := id h1
  obtain ⟨N, hN⟩ : ∃ N : Nat, S.1 121 4 = (N : Int) := ⟨(S.1 121 4).toNat, by omega⟩
  by_cases hc : N + 20 ≤ 16000 ∧ S.1 121 5 + 20 ≤ 65536
  · obtain ⟨S1, p1, p2, p3, p4, p5, p6, p7⟩ := fd_c (a := a.toInt) (b := b.toInt) (c := c.toInt) (d := d.toInt) (e := e.toInt) (f1.trans hN) hc.1 (by omega) (by omega)
    obtain ⟨S2, q1, q2, q3, q4, q5, q6, q7⟩ := fd_m (S := S1) (N := N) (a := a.toInt) (b := b.toInt) (c := c.toInt) (d := d.toInt) (e := e.toInt) (by rw [p7 121 (by decide) (by decide)]; exact hN) hc.1 (by rw [p7 121 (by decide) (by decide)]; exact hc.2) (by rw [p7 121 (by decide) (by decide)]; exact f5)
    have k0 : S2.1 0 = S1.1 0 := q7 0 (by decide) (by decide)
    have k1 : S2.1 1 = S1.1 1 := q7 1 (by decide) (by decide)
    have k2 : S1.1 121 = S.1 121 := p7 121 (by decide) (by decide)
    have k3 : S1.1 214 = S.1 214 := p7 214 (by decide) (by decide)
    have ks : ∀ x, x ≠ 0 → x ≠ 1 → x ≠ 121 → x ≠ 214 → S2.1 x = S.1 x := fun x a0 a1 a2 a3 => (q7 x a2 a3).trans (p7 x a0 a1)
    rw [k3] at q6
    rw [k2] at q4 q5
    refine ⟨_, S1, S2, p1, q1, ?_, ?_, ?_, ?_, ?_, hR S S2 ⟨q2.trans p2, fun x a0 a1 a2 a3 a4 a5 a6 a7 a8 => ks x a0 a1 a5 a6, ?_, ?_, fun k hk => ?_, fun k hk => ?_⟩ (fun k _ => Or.inl (by rw [ks 112 (by decide) (by decide) (by decide) (by decide)])) h6⟩
    · unfold io_f
      rw [k0, k1, p3, q3, p4, q4, p6, q6, f4]
      refine ⟨rfl, by omega, by omega, rfl, by omega, by omega, fun k hk => ?_⟩
      have r0 : fw_rel S N (S.1 1) (S.1 214) := fun k hk => f7 k (by omega)
      exact fw_rel_put e (fw_rel_put d (fw_rel_put c (fw_rel_put b (fw_rel_put a r0)))) k (by omega)
    · unfold io_t at h2 ⊢
      rw [ks 2 (by decide) (by decide) (by decide) (by decide), ks 3 (by decide) (by decide) (by decide) (by decide), ks 215 (by decide) (by decide) (by decide) (by decide), q5 7 (by decide) (by decide)]
      exact h2
    · rw [k0, p5 7 (by decide) (by decide), q5 12 (by decide) (by decide)]; exact h3
    · unfold io_i at h4 ⊢
      rw [k0, p5 12 (by decide) (by decide), q5 55 (by decide) (by decide), ks 112 (by decide) (by decide) (by decide) (by decide), ks 248 (by decide) (by decide) (by decide) (by decide)]; exact h4
    · unfold io_o at h5 ⊢
      rw [ks 113 (by decide) (by decide) (by decide) (by decide), ks 120 (by decide) (by decide) (by decide) (by decide), ks 249 (by decide) (by decide) (by decide) (by decide), q5 58 (by decide) (by decide), q5 59 (by decide) (by decide), q5 60 (by decide) (by decide), q5 57 (by decide) (by decide), q5 62 (by decide) (by decide)]; exact h5
    · rw [k0, p5 6 (by decide) (by decide)]
    · rw [q5 2 (by decide) (by decide)]
    · rw [ks 2 (by decide) (by decide) (by decide) (by decide)]
    · rw [ks 3 (by decide) (by decide) (by decide) (by decide)]
  · refine ⟨-1, S, S, ?_, ?_, h⟩
    · unfold ja_X11_feed
      rw [f1, f4, nk_w_id (by omega) (by omega), nk_w_id (by omega) (by omega)]
      by_cases c1 : 16000 < S.1 121 4 + 20
      · rw [if_pos c1]
      · rw [if_neg c1, if_neg (by omega)]
    · unfold ja_X13_feed
      rw [nk_w_id (by omega) (by omega), nk_w_id (by omega) (by omega)]
      by_cases c1 : 16000 < S.1 121 4 + 20
      · rw [if_pos c1]
      · rw [if_neg c1, if_neg (by omega)]
theorem io_end2 {Rest : nk_S → Prop} (hR : ∀ S S', io_g S S' → (∀ k, k < 256 → S'.1 112 k = S.1 112 k ∨ iR (S'.1 112 k)) → Rest S → Rest S') (a : Int32) : jb_two (io_I Rest) (ja_X11_end 0 a.toInt) (ja_X13_end 121 a.toInt) := by
  intro S h
  obtain ⟨h1, h2, h3, h4, h5, h6⟩ := id h
  obtain ⟨f1, f2, f3, f4, f5, f6, f7⟩ := id h1
  obtain ⟨t1, t2, t3, t4, t5⟩ := id h2
  by_cases hc : 0 ≤ a.toInt ∧ a.toInt ≤ S.1 121 4
  · obtain ⟨n, hn⟩ : ∃ n : Nat, a.toInt = (n : Int) := ⟨a.toInt.toNat, by omega⟩
    obtain ⟨m, hm⟩ := big_ge 16001 (by omega)
    have cN : (360 : Int).toNat = 360 := rfl
    have e1 : ja_X11_end 0 a.toInt S = some (1, nk_wi (nk_wi (nk_cp S 1 0 3 360 n) 2 2 (360 + (n : Int))) 0 1 0) := by
      unfold ja_X11_end
      rw [if_neg (by omega), f1, if_pos hc.2, jc_0_3, jc_0_0]
      unfold ja_X10_setText
      rw [if_neg (by omega), if_neg (by omega), if_neg (by omega), t1, if_pos (by omega), lt_eq, lt_eq, jc_2_0, bd_some, lt_eq, hn, Int.toNat_natCast, cN]
      simp +decide only [cp_v, false_and, if_false, t1]
      rw [nk_w_id (by omega) (by omega)]
    have hS1 : ∀ x, x ≠ 0 → x ≠ 2 → x ≠ 3 → (nk_wi (nk_wi (nk_cp S 1 0 3 360 n) 2 2 (360 + (n : Int))) 0 1 0).1 x = S.1 x := fun x a0 a2 a3 => by rw [wi_n a0, wi_n a2, cp_n a3]
    obtain ⟨S2, q1, q2, q3, q4, q5, q6, q7⟩ := en_m (n := n) (by omega) 0 nk_big (nk_wi (nk_wi (nk_cp S 1 0 3 360 n) 2 2 (360 + (n : Int))) 0 1 0) 0 (by omega) (by omega) (by omega) (fun k hk => by rw [hS1 214 (by decide) (by decide) (by decide)]; exact (f7 k (by omega)).2)
    have k121 := hS1 121 (by decide) (by decide) (by decide)
    have k214 := hS1 214 (by decide) (by decide) (by decide)
    have ks : ∀ x, x ≠ 0 → x ≠ 2 → x ≠ 3 → x ≠ 121 → x ≠ 215 → S2.1 x = S.1 x := fun x a0 a2 a3 a4 a5 => (q7 x a4 a5).trans (hS1 x a0 a2 a3)
    have k0 := q7 0 (by decide) (by decide)
    have k2 := q7 2 (by decide) (by decide)
    have k3 := q7 3 (by decide) (by decide)
    rw [k121] at q5
    refine ⟨1, _, S2, e1, ?_, ?_, ?_, ?_, ?_, ?_, hR S S2 ⟨q2, fun x a0 a1 a2 a3 a4 a5 a6 a7 a8 => ks x a0 a2 a3 a5 a7, ?_, ?_, fun k hk => ?_, fun k hk => ?_⟩ (fun k _ => Or.inl (by rw [ks 112 (by decide) (by decide) (by decide) (by decide) (by decide)])) h6⟩
    · unfold ja_X13_end
      rw [if_neg (by omega), k121, if_pos hc.2, hn]
      exact q1
    · unfold io_f
      rw [q4, k0, q5 5 (by decide) (by decide)]
      simp +decide only [wi_v, cp_v, if_true, if_false]
      exact ⟨by first | trivial | omega, by first | trivial | omega, by first | trivial | omega, f4, f5, f6, fun k hk => by omega⟩
    · unfold io_t
      rw [q3, k2, k3]
      simp +decide only [wi_v, cp_v, if_true, if_false, false_and, true_and, t1]
      refine ⟨by omega, by omega, fun k hk => ?_⟩
      rw [q6 k, k214, if_pos (by omega), if_pos (by omega), show 0 + (360 + k - 360) = k by omega]
      exact f7 k (by omega)
    · rw [k0, q5 12 (by decide) (by decide)]; simp +decide only [wi_v, cp_v, false_and, if_false]; exact h3
    · unfold io_i at h4 ⊢
      rw [k0, q5 55 (by decide) (by decide), ks 112 (by decide) (by decide) (by decide) (by decide) (by decide), ks 248 (by decide) (by decide) (by decide) (by decide) (by decide)]
      simp +decide only [wi_v, cp_v, false_and, if_false]; exact h4
    · unfold io_o at h5 ⊢
      rw [ks 113 (by decide) (by decide) (by decide) (by decide) (by decide), ks 120 (by decide) (by decide) (by decide) (by decide) (by decide), ks 249 (by decide) (by decide) (by decide) (by decide) (by decide), q5 58 (by decide) (by decide), q5 59 (by decide) (by decide), q5 60 (by decide) (by decide), q5 57 (by decide) (by decide), q5 62 (by decide) (by decide)]; exact h5
    · rw [k0]; simp +decide only [wi_v, cp_v, false_and, if_false]
    · rw [q5 2 (by decide) (by decide)]
    · rw [k2]; simp only [wi_v, cp_v, hk, and_false, if_false]; simp +decide only [false_and, if_false]
    · rw [k3]; simp +decide only [wi_v, cp_v, false_and, true_and, if_false]; rw [if_neg (by omega)]
  · refine ⟨0, S, S, ?_, ?_, h⟩
    · unfold ja_X11_end
      by_cases c1 : a.toInt < 0
      · rw [if_pos c1]
      · rw [if_neg c1, f1, if_neg (by omega)]
    · unfold ja_X13_end
      by_cases c1 : a.toInt < 0
      · rw [if_pos c1]
      · rw [if_neg c1, if_neg (by omega)]
theorem io_input2 (hR : ∀ S S', io_g S S' → (∀ k, k < 256 → S'.1 112 k = S.1 112 k ∨ iR (S'.1 112 k)) → Rest S → Rest S') (a : Int32) : jb_two (io_I Rest) (ja_X11_input 0 a.toInt) (ja_X13_input 121 a.toInt) := by
  intro S h
  obtain ⟨h1, h2, h3, h4, h5, h6⟩ := id h
  obtain ⟨i1, i2, i3, i4⟩ := id h4
  by_cases hc : S.1 121 55 < 256
  · have c1 : 0 ≤ S.1 121 55 ∧ S.1 121 55 < 256 := ⟨i2, hc⟩
    have c2 : nk_w (S.1 121 55 + 1) = S.1 121 55 + 1 := nk_w_id (by omega) (by omega)
    have c3 : ¬ S.1 121 55 = 256 := by omega
    refine ⟨1, nk_wi (nk_wi S 112 (S.1 121 55).toNat a.toInt) 0 12 (S.1 121 55 + 1), nk_wi (nk_wi (nk_wi (nk_wi S 112 (S.1 121 55).toNat a.toInt) 0 12 (S.1 121 55 + 1)) 248 (S.1 121 55).toNat a.toInt) 121 55 (S.1 121 55 + 1), ?_, ?_, ?_⟩
    · simp +decide only [ja_X11_input, jc_0_11, lt_eq, i1, hc, c1, c2, wi_v, if_true, and_self, if_false, false_and]
    · simp +decide only [ja_X13_input, jc_121_50, lt_eq, c1, c2, c3, wi_v, if_true, and_self, if_false, false_and]
    · refine ⟨?_, ?_, ?_, ?_, ?_, hR S _ ⟨rfl, fun b b0 b1 b2 b3 b4 b5 b6 b7 b8 => ?_, ?_, ?_, fun k hk => ?_, fun k hk => ?_⟩ (fun k _ => by
      by_cases e : k = (S.1 121 55).toNat
      · exact Or.inr (by rw [wi_n (by decide), wi_n (by decide), wi_n (by decide), wi_at, if_pos e]; exact iR_t a)
      · exact Or.inl (by rw [wi_n (by decide), wi_n (by decide), wi_n (by decide), wi_at, if_neg e])) h6⟩
      · unfold io_f at h1 ⊢; simp +decide only [wi_v, if_false, false_and] at h1 ⊢; exact h1
      · unfold io_t at h2 ⊢; simp +decide only [wi_v, if_false, false_and] at h2 ⊢; exact h2
      · simp +decide only [wi_v, if_false]; exact h3
      · unfold io_i
        simp +decide only [wi_v, if_false, if_true, false_and, true_and, and_self]
        refine ⟨by omega, by omega, fun k hk => ?_⟩
        have := i4 k hk
        by_cases e : k = (S.1 121 55).toNat
        · subst e
          rw [if_pos rfl, if_pos rfl, if_pos (by omega)]
        · simp only [e, if_false]
          rw [this]
          by_cases e2 : (k : Int) < S.1 121 55
          · rw [if_pos e2, if_pos (by omega)]
          · rw [if_neg e2, if_neg (by omega)]
      · unfold io_o at h5 ⊢; simp +decide only [wi_v, if_false, false_and] at h5 ⊢; exact h5
      · funext i; simp +decide only [wi_v, b0, b4, b5, b8, false_and, if_false]
      · simp +decide only [wi_v, if_false, false_and]
      · simp +decide only [wi_v, if_false, false_and]
      · simp +decide only [wi_v, false_and, if_false]
      · simp +decide only [wi_v, false_and, if_false]
  · have c3 : S.1 121 55 = 256 := by omega
    refine ⟨0, S, S, ?_, ?_, h⟩
    · simp only [ja_X11_input, i1, hc, if_false]
    · simp only [ja_X13_input, c3, if_true]
theorem jR_gs : ∀ S S', io_g S S' → (∀ k, k < 256 → S'.1 112 k = S.1 112 k ∨ iR (S'.1 112 k)) → jRest S → jRest S' := fun S S' g k h => jR_g g k h
/-- every call -/
theorem jR_all : jb_all (io_I jRest) := ⟨fun a b c d e => io_feed2 jR_gs a b c d e, fun a => io_end2 jR_gs a, jR_load, io_faultAt, fun a => jR_size a, fun a => jR_errors a, fun a => jR_escapes a, jR_ends, fun a b => jR_kind a b, fun a b => jR_low a b, fun a b => jR_high a b, fun a b => jR_sites a b, fun a b c => jR_fact a b c, fun a b => jR_lengths a b, fun a => io_input2 jR_gs a, fun a => jR_run a, io_steps, io_place, io_thrown, io_written, fun a => io_out a, io_strays⟩
/-- the law answers 1 wherever a run of calls begins well -/
theorem jR_law {zs : List Int32} (hz : zs.length ≤ 3072) {S : nk_S} (hi : io_I jRest S) : ∃ S', ja_L_law zs 0 121 S = some (1, S') := jb_law jR_all hz hi
end ALL
