/-! The run, both sides. -/
section RUB
variable {p : jP} {m m' m1 : jM} {P Q : Nat} {tx : List (List Int)} {x : jC} {t : Nat → Int} {inp : Nat → Int} {S S' S1 : nk_S} {A : jA} {σ : jG} {i : Nat} {v : jV} {m0 mb : Nat}
/-- the reference's run -/
theorem r_run (hwf : pWf tx p) (hk : pKX p Q) (hI : pIn (pFF p) (pZZ p) (pLc p) (pTy p) m0 A σ) (hC : ∀ i, pCl (pZZ p) (pLc p) A σ i) (h : rXx S P p A σ) (h2 : S.1 121 2 = 1) {y : jB} (hy : p.2.2.2.1[mb]? = some y) (hps : y.ps = []) (hmb : S.1 P 6 = (mb : Int)) (hmb48 : mb < 48) {N : Nat} (hN : S.1 121 55 = (N : Int)) (hN2 : N ≤ 256) (hin : ∀ k, k < N → S.1 248 k = inp k) (hin0 : ∀ k, N ≤ k → inp k = 0) (hiR : ∀ k, iR (inp k)) {fuel : Nat} (hfu : fuel ≤ 20000) {R : jN} (hR : R = mRn p A σ inp fuel (mB0 p mb) 0 (S.1 121 62)) : ∃ S', ja_X13_run 121 (fuel : Int) S = some ((R.1 : Int), S') ∧ rkX S S' ∧ S'.1 121 55 = 0 ∧ S'.1 121 58 = (R.2.2.2.1 : Int) ∧ S'.1 121 59 = (R.2.1 : Int) ∧ S'.1 121 60 = R.2.2.1 ∧ S'.1 121 62 = R.2.2.2.2.1 ∧ rOu S' R.2.2.2.2.2.2.2.2.2.2 := by
  obtain ⟨hm, hl⟩ := k_B0 (mb := mb) hk hy hps
  obtain ⟨e, x', t', a1, a2, a3, a4, a5, a6, a7, a8⟩ := ty_ent hk hy
  have hE0 : mE0 p mb = e.1 := by unfold mE0; rw [a1]
  obtain ⟨T, hT⟩ : ∃ T, T = nk_wi (nk_wi (nk_wi (nk_wi (nk_wi (nk_wi (nk_wi (nk_wi S 121 53 0) 121 54 0) 121 56 0) 121 57 0) 121 58 0) 121 60 (-1)) 121 52 0) 121 61 (-1) := ⟨_, rfl⟩
  have tn : ∀ a, a ≠ 121 → T.1 a = S.1 a := fun a ha => by rw [hT, wi_n ha, wi_n ha, wi_n ha, wi_n ha, wi_n ha, wi_n ha, wi_n ha, wi_n ha]
  have tf : ∀ f, T.1 121 f = if f = 61 then -1 else if f = 52 then 0 else if f = 60 then -1 else if f = 58 then 0 else if f = 57 then 0 else if f = 56 then 0 else if f = 54 then 0 else if f = 53 then 0 else S.1 121 f := fun f => by rw [hT, wi_at, wi_at, wi_at, wi_at, wi_at, wi_at, wi_at, wi_at]
  have t2 : T.2 = S.2 := by rw [hT]; rfl
  have hXT : rXx T P p A σ := ⟨h.1, by rw [t2]; exact h.2.1, ldR_c h.1 (fun a _ _ => tn a (by have := h.1; omega)) h.2.2⟩
  have hel : T.1 (P + 12) mb = (e.1 : Int) := ((rx_at hwf hk hXT).2.2.2.2.2.1 mb e a1).1
  obtain ⟨V, v1, v2, v3, v4, v5, v6, v7⟩ := r_enter (S := T) h.1 hmb48 (D := 0) (by decide) hXT.2.1 (by rw [tf]; rfl) hel
  have vf : ∀ f, f ≠ 52 → V.1 121 f = T.1 121 f := fun f hf => by rw [v4, if_neg hf]
  have hXV : rXx V P p A σ := ⟨h.1, by rw [v2]; exact hXT.2.1, ldR_c h.1 (fun a _ _ => v3 a (by have := h.1; omega) (by have := h.1; omega) (by have := h.1; omega) (by have := h.1; omega)) hXT.2.2⟩
  have hMV : rMm p V (mB0 p mb) := by
    refine ⟨⟨⟨⟨by rw [v4, if_pos rfl]; rfl, show (0 : Nat) < 64 by decide⟩, fun f hf => ?_, fun f k hf hk' => ?_, fun f hf => absurd (show f < 0 from hf) (by omega)⟩, ⟨by rw [vf 53 (by decide), tf]; rfl, by rw [vf 54 (by decide), tf]; rfl, fun o ho => absurd (show o < 0 from ho) (by omega), fun j hj => absurd (show j < 0 from hj) (by omega)⟩, ⟨?_, by rw [vf 57 (by decide), tf]; rfl, fun k hk' => absurd (show k < 0 from hk') (by omega)⟩⟩, ⟨by rw [v6]; rfl, show (0 : Nat) ≤ 8 by decide, fun k hk' => absurd (show k < 0 from hk') (by omega)⟩⟩
    · have hf : f ≤ 0 := hf
      rw [v7, if_pos (by omega)]
      show _ = ((mE0 p mb : Nat) : Int)
      rw [hE0]
    · have hf : f ≤ 0 := hf
      rw [v5, if_pos (by omega)]
      rfl
    · rw [vf 56 (by decide), vf 55 (by decide), tf, tf, if_neg (by decide), if_neg (by decide), if_neg (by decide), if_neg (by decide), if_neg (by decide), if_pos rfl, if_neg (by decide), if_neg (by decide), if_neg (by decide), if_neg (by decide), if_neg (by decide), if_neg (by decide), if_neg (by decide), if_neg (by decide), hN]
      show (0 : Int) = min ((0 : Nat) : Int) (N : Int)
      omega
  obtain ⟨bm, hbm⟩ := big_ge 30000 (by decide)
  obtain ⟨S', r1, r2, r3⟩ := r_ruL hwf hk hI hC hN2 hin0 hiR hfu fuel 0 (mB0 p mb) (S.1 121 62) V nk_big (Nat.add_zero _) (by omega) hXV hm hl hMV (by rw [vf 55 (by decide), tf]; exact hN) (fun k hk' => by rw [v3 248 (by decide) (by decide) (by decide) (by decide), tn 248 (by decide)]; exact hin k hk') (by rw [vf 61 (by decide), tf]; rfl) (by rw [vf 58 (by decide), tf]; rfl) (by rw [vf 60 (by decide), tf]; rfl) (by rw [vf 62 (by decide), tf]; rfl) (Nat.le_refl _) (Nat.le_refl _)
  rw [← hR] at r1 r3
  refine ⟨S', ?_, ⟨by rw [r2.1, v2, t2], fun a ha => by rw [r2.2.1 a ha, v3 a (by omega) (by omega) (by omega) (by omega), tn a (by omega)], fun f hf => by rw [r2.2.2 f hf, vf f (by omega), tf, if_neg (by omega), if_neg (by omega), if_neg (by omega), if_neg (by omega), if_neg (by omega), if_neg (by omega), if_neg (by omega), if_neg (by omega)]⟩, r3⟩
  unfold ja_X13_run
  have e6 : T.1 (T.2 121 0) 6 = (mb : Int) := by rw [hXT.2.1, tn P (by have := h.1; omega)]; exact hmb
  rw [if_neg (by omega), if_neg (by omega), if_pos (by omega), lt_eq, lt_eq, lt_eq, lt_eq, lt_eq, lt_eq, lt_eq, lt_eq, ← hT, e6, v1, bd_some]
  exact r1
/-- run, both sides -/
theorem jR_run (a : Int32) : jb_two (io_I jRest) (ja_X11_run 0 a.toInt) (ja_X13_run 121 a.toInt) := fun S h => by
  obtain ⟨h1, h2, h3, h4, h5, h6⟩ := id h
  obtain ⟨i1, i2, i3, i4⟩ := id h4
  obtain ⟨o1, o2, o3, o4, o5, o6⟩ := id h5
  rcases jR_ld h6 with q | ⟨Q, P, p, A, σ, mb, m0, hL⟩
  · refine ⟨-1, S, S, ?_, ?_, h⟩
    · unfold ja_X11_run; rw [if_pos q.1]
    · unfold ja_X13_run; rw [if_pos q.2]
  obtain ⟨hQ, hP, e4, e0, e6, e2, hK, hC, hRr⟩ := id hL
  by_cases ha : 0 ≤ a.toInt ∧ a.toInt ≤ 20000
  · obtain ⟨N, hN⟩ : ∃ N : Nat, S.1 121 55 = (N : Int) := ⟨(S.1 121 55).toNat, by omega⟩
    have hN2 : N ≤ 256 := by omega
    obtain ⟨inp, hinp⟩ : ∃ inp : Nat → Int, inp = fun k => if k < N then S.1 248 k else 0 := ⟨_, rfl⟩
    have hin : ∀ k, k < 256 → S.1 112 k = inp k := fun k hk => by
      rw [i4 k hk, hinp]
      dsimp only
      by_cases c : k < N
      · rw [if_pos (by omega), if_pos c]
      · rw [if_neg (by omega), if_neg c]
    have hinr : ∀ k, k < N → S.1 248 k = inp k := fun k hk => by rw [hinp]; dsimp only; rw [if_pos hk]
    have hin0 : ∀ k, N ≤ k → inp k = 0 := fun k hk => by rw [hinp]; dsimp only; rw [if_neg (by omega)]
    have hiR : ∀ k, iR (inp k) := fun k => by
      by_cases c : k < 256
      · rw [← hin k c]; exact h6.2.2.2.1.2.2.2.2 k c
      · rw [hin0 k (by omega)]; unfold iR; omega
    have hz := h6.2.2.2.1.2.2.2.1
    obtain ⟨S1, c1, c2, c3, c4, c5, c6, c7, c8, c9, c10, c11, c12⟩ := x_run hL hin (fun k hk => hin0 k (by omega)) hiR ha hz rfl
    obtain ⟨⟨tx, hwf⟩, -, hkx, ⟨ym, em, m1, m2, m3, -⟩, hI, hCl⟩ := id hK
    have n4 := (ld_nums hL).2.2.2.1
    have n7 := (ld_nums hL).2.2.2.2.2.2
    have s1 : ∀ b, 120 < b → S1.1 b = S.1 b := fun b hb => c2 b (by omega) (Or.inr hb)
    have hX1 : rXx S1 P p A σ := ⟨hP, by rw [c6 121 0 (by decide)]; exact e0, ldR_c hP (fun b _ _ => s1 b (by omega)) hRr⟩
    obtain ⟨fuel, hfu⟩ : ∃ fuel : Nat, a.toInt = (fuel : Int) := ⟨a.toInt.toNat, by omega⟩
    rw [hfu, Int.toNat_natCast] at c1 c7 c8 c9 c10 c11 c12
    obtain ⟨R, hR⟩ : ∃ R, R = mRn p A σ inp fuel (mB0 p mb) 0 (S.1 113 19) := ⟨_, rfl⟩
    rw [← hR] at c1 c7 c8 c9 c10 c11 c12
    obtain ⟨S2, d1, d2, d3, d4, d5, d6, d7, d8⟩ := r_run (P := P) (mb := mb) (S := S1) (N := N) hwf ⟨hQ, hkx.2⟩ hI hCl hX1 (by rw [s1 121 (by decide)]; exact e2) m2 m3 (by rw [s1 P (by omega)]; exact n4.2) (by omega) (by rw [s1 121 (by decide)]; exact hN) hN2 (fun k hk => by rw [s1 248 (by decide)]; exact hinr k hk) hin0 hiR (fuel := fuel) (by omega) (R := R) (by rw [hR, o5, s1 121 (by decide)])
    have low : ∀ b, b < 121 → S2.1 b = S1.1 b := fun b hb => d2.2.1 b (Or.inl hb)
    have f121 : ∀ f, f < 52 → S2.1 121 f = S.1 121 f := fun f hf => by rw [d2.2.2 f hf, s1 121 (by decide)]
    have hi' : ∀ b, 121 < b → b < 239 → S2.1 b = S.1 b := fun b q1 q2 => by rw [d2.2.1 b (by omega), s1 b (by omega)]
    have lo' : ∀ b, b ≠ 0 → b < 112 → S2.1 b = S.1 b := fun b q1 q2 => by rw [low b (by omega), c2 b q1 (Or.inl q2)]
    have z0 : ∀ f, f ≠ 12 → S2.1 0 f = S.1 0 f := fun f hf => by rw [low 0 (by decide)]; exact c3 f hf
    have r2 : ∀ b i, b ≠ 113 → S2.2 b i = S.2 b i := fun b i hb => by rw [d2.1]; exact c6 b i hb
    have g19 : S2.1 113 19 = R.2.2.2.2.1 := by rw [low 113 (by decide)]; exact c10
    refine ⟨(R.1 : Int), S1, S2, by rw [hfu]; exact c1, by rw [hfu]; exact d1, ?_, ?_, ?_, ?_, ?_, ?_⟩
    · unfold io_f at h1 ⊢
      rw [z0 1 (by decide), z0 2 (by decide), f121 4 (by decide), f121 5 (by decide), lo' 1 (by decide) (by decide), hi' 214 (by decide) (by decide)]
      exact h1
    · unfold io_t at h2 ⊢
      rw [lo' 2 (by decide) (by decide), f121 7 (by decide), lo' 3 (by decide) (by decide), hi' 215 (by decide) (by decide)]
      exact h2
    · rw [z0 7 (by decide), f121 12 (by decide)]; exact h3
    · refine ⟨by rw [d3, low 0 (by decide)]; exact c4, by rw [d3]; omega, by rw [d3]; omega, fun k hk => ?_⟩
      rw [d3, if_neg (by omega), low 112 (by decide)]
      exact c5 k hk
    · refine ⟨by rw [low 113 (by decide), c7, d4], by rw [low 113 (by decide), c8, d5], by rw [low 113 (by decide), c9, d6], by rw [low 113 (by decide), c12.2.1, d8.1], by rw [g19, d7], fun k k1 k2 => ?_⟩
      rw [d8.1] at k1
      rw [low 120 (by decide), c12.2.2 k (by omega) k2, d8.2 k (by omega) k2]
    · obtain ⟨w1, w2, w3, w4, w5⟩ := h6
      unfold jRest
      rw [r2 0 4 (by decide), r2 0 5 (by decide), r2 121 0 (by decide), r2 121 1 (by decide), lo' 100 (by decide) (by decide), g19, z0 6 (by decide), f121 2 (by decide)]
      refine ⟨jv_words_congr (fun k hk => by rw [lo' 3 (by decide) (by decide)]) (by rw [lo' 2 (by decide) (by decide)]) (by rw [lo' 2 (by decide) (by decide)]) (fun w _ => by rw [lo' 5 (by decide) (by decide), lo' 6 (by decide) (by decide), lo' 7 (by decide) (by decide)]; exact ⟨rfl, rfl, rfl⟩) (lo' 12 (by decide) (by decide)) (fun w _ => by rw [lo' 9 (by decide) (by decide)]) w1, w2, w3, ⟨w4.1, w4.2.1, w4.2.2.1, c11, fun k hk => ?_⟩, ?_⟩
      · rw [low 112 (by decide), c5 k hk]; unfold iR; omega
      · rcases w5 with q | ⟨q1, q2, q3⟩
        · exact Or.inl q
        · exact Or.inr ⟨q1, q2, ldd_c (by omega) (by omega) (fun b hb => lo' b (by omega) (by omega)) (fun b hb hc => hi' b (by omega) (by omega)) q3⟩
  · refine ⟨-1, S, S, ?_, ?_, h⟩
    · unfold ja_X11_run
      rw [if_neg (by omega)]
      by_cases c : a.toInt < 0
      · rw [if_pos c]
      · rw [if_neg c, if_neg (by omega)]
    · unfold ja_X13_run
      rw [if_neg (by omega)]
      by_cases c : a.toInt < 0
      · rw [if_pos c]
      · rw [if_neg c, if_neg (by omega)]
end RUB
