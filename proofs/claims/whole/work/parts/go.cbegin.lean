/-! The run: the class's run, whole. -/
/-- the machine where a run begins -/
def mB0 (p : jP) (b : Nat) : jM := (0, fun _ => mE0 p b, fun _ => 0, fun _ _ => (0, 0), (0, fun _ => 0, fun _ => 0, fun _ => (0, 0)), 0, 0, fun _ => 0)
section CBG
variable {p : jP} {m m' m1 : jM} {Q : Nat} {tx : List (List Int)} {x : jC} {t : Nat → Int} {inp : Nat → Int} {S S' : nk_S} {A : jA} {σ : jG} {i : Nat} {m0 mb P : Nat}
theorem k_B0 (hk : pKX p Q) {y : jB} (hy : p.2.2.2.1[mb]? = some y) (hps : y.ps = []) : mOk p (mB0 p mb) ∧ mLw (mB0 p mb) := by
  obtain ⟨e, x', t', a1, a2, a3, a4, a5, a6, a7, a8⟩ := ty_ent hk hy
  have hE0 : mE0 p mb = e.1 := by unfold mE0; rw [a1]
  have hpc : (mB0 p mb).pc (mB0 p mb).d = e.1 := hE0
  refine ⟨⟨show (0 : Nat) < 64 by decide, ⟨rfl, show (0 : Nat) ≤ 2000 by decide, show (0 : Nat) ≤ 12000 by decide, fun o ho => absurd (show o < 0 from ho) (by omega), fun o ho => absurd (show o < 0 from ho) (by omega), fun o ho => absurd (show o < 0 from ho) (by omega), fun o ho => absurd (show o < 0 from ho) (by omega)⟩, ⟨x', t', by rw [hpc]; exact a2, by rw [hpc]; exact a4, by rw [hpc, a5]; rfl, fun k hr => ?_⟩, fun f hf => absurd (show f < 0 from hf) (by omega)⟩, fun f k _ _ => Or.inl ⟨rfl, rfl⟩⟩
  have := a8 k
  unfold tIn at this
  rw [hps, if_neg (by show ¬ k < 0; omega)] at this
  have h0 : t' k = 0 := by
    rcases (tLe_iff _ _).mp this with q | q | q <;> omega
  rw [h0]
  exact vTy_0 (Or.inl ⟨rfl, rfl⟩)
/-- the class executes -/
theorem x_exec (hwf : pWf tx p) (hk : pKX p Q) (hI : pIn (pFF p) (pZZ p) (pLc p) (pTy p) m0 A σ) (hQ : Q = 13 ∨ Q = 49) (hC : ldC S Q p A σ) {y : jB} (hy : p.2.2.2.1[mb]? = some y) (hps : y.ps = []) (hmb : S.1 (Q + 9) 1 = (mb : Int)) (hin : ∀ k, k < 256 → S.1 112 k = inp k) (hin0 : ∀ k, 256 ≤ k → inp k = 0) (hiR : ∀ k, iR (inp k)) {fuel : Nat} (hfu : fuel ≤ 20000) {z : Int} (h19 : S.1 113 19 = z) (hz : iR z) {R : jN} (hR : R = mRn p A σ inp fuel (mB0 p mb) 0 z) : ∃ S', ja_X2_execute 113 Q (fuel : Int) S = some ((R.1 : Int), S') ∧ (∀ a, a < 113 ∨ 120 < a → S'.1 a = S.1 a) ∧ (∀ b i, b ≠ 113 → S'.2 b i = S.2 b i) ∧ S'.1 113 14 = (R.2.2.2.1 : Int) ∧ S'.1 113 15 = (R.2.1 : Int) ∧ S'.1 113 16 = R.2.2.1 ∧ S'.1 113 19 = R.2.2.2.2.1 ∧ iR R.2.2.2.2.1 ∧ cIo S' R.2.2.2.2.2.2.2.2.2.2 := by
  obtain ⟨hm, hl⟩ := k_B0 (mb := mb) hk hy hps
  obtain ⟨e, x', t', a1, a2, a3, a4, a5, a6, a7, a8⟩ := ty_ent hk hy
  have hE0 : mE0 p mb = e.1 := by unfold mE0; rw [a1]
  have hbl := hwf.1.2.2.2.2.2.2.1.1
  have hml := at_lt hy
  obtain ⟨T, hT⟩ : ∃ T, T = nk_wi (nk_wi (nk_wi (nk_wi (nk_wi (nk_wi (nk_wi (nk_wi (nk_wr S 113 1 Q) 113 5 0) 113 8 0) 118 0 0) 113 11 0) 113 12 5) 113 14 0) 113 16 (-1)) 113 17 0 := ⟨_, rfl⟩
  have tn : ∀ a, a ≠ 113 → a ≠ 118 → T.1 a = S.1 a := fun a h1 h2 => by rw [hT, wi_n h1, wi_n h1, wi_n h1, wi_n h1, wi_n h1, wi_n h2, wi_n h1, wi_n h1, wr_1]
  have t118 : T.1 118 0 = 0 := by rw [hT, wi_n (by decide), wi_n (by decide), wi_n (by decide), wi_n (by decide), wi_n (by decide), wi_at, if_pos rfl]
  have tf : ∀ k, T.1 113 k = if k = 17 then 0 else if k = 16 then -1 else if k = 14 then 0 else if k = 12 then 5 else if k = 11 then 0 else if k = 8 then 0 else if k = 5 then 0 else S.1 113 k := fun k => by rw [hT, wi_at, wi_at, wi_at, wi_at, wi_at, wi_n (show 113 ≠ 118 by decide), wi_at, wi_at, wr_1]
  have t2 : ∀ b i, T.2 b i = if b = 113 ∧ i = 1 then Q else S.2 b i := fun b i => by rw [hT]; exact wr_2 S 113 1 Q b i
  have hX : cXx T Q p A σ := ⟨hQ, by rw [t2, if_pos ⟨rfl, rfl⟩], ldC_c hQ (fun a ha => tn a (by omega) (by omega)) hC⟩
  obtain ⟨U, u1, u2, u3, u4, u5, u6⟩ := x_beg (D := 0) (by decide) hX (by rw [tf]; rfl) (b := mb) (by omega) a1
  have uX : cXx U Q p A σ := ⟨hQ, by rw [u2]; exact hX.2.1, ldC_c hQ (fun a ha => u3 a (by omega) (by omega) (by omega)) hX.2.2⟩
  have u113 := u3 113 (by decide) (by decide) (by decide)
  have hcU : cMm U (mB0 p mb) := by
    refine ⟨⟨⟨by rw [u113, tf]; rfl, show (0 : Nat) < 64 by decide⟩, fun f hf => ?_, fun f k hf hk' => ?_⟩, ⟨by rw [u113, tf]; rfl, fun o ho => absurd (show o < 0 from ho) (by omega), fun o ho => ?_, fun j hj => absurd (show j < 0 from hj) (by omega)⟩, ⟨by rw [u113, tf]; rfl, by rw [u113, tf]; rfl, fun k hk' => absurd (show k < 0 from hk') (by omega)⟩⟩
    · have hf : f ≤ 0 := hf
      have : f = 0 := by omega
      subst this
      refine ⟨?_, ?_, show (0 : Nat) ≤ 8 by decide⟩
      · rw [u5, if_pos rfl]
        show _ = ((mE0 p mb : Nat) : Int)
        rw [hE0]
      · rw [u6, if_pos rfl]; rfl
    · have hf : f ≤ 0 := hf
      have : f = 0 := by omega
      subst this
      have hh : (mB0 p mb).hs 0 = 0 := rfl
      rw [hh] at hk'
      rw [u4, if_pos (by omega)]
      rfl
    · have ho : o ≤ 0 := ho
      have : o = 0 := by omega
      subst this
      rw [u3 118 (by decide) (by decide) (by decide), t118]
      rfl
  obtain ⟨bm, hbm⟩ := big_ge 30000 (by decide)
  obtain ⟨S', r1, r2, r3, r4, r5, r6, r7, r8⟩ := x_exL hwf hk hI hin0 hiR hfu fuel 0 (mB0 p mb) z U nk_big (Nat.add_zero _) (by omega) uX hm hl hcU (fun k hk' => by rw [u3 112 (by decide) (by decide) (by decide), tn 112 (by decide) (by decide)]; exact hin k hk') (by rw [u113, tf]; rfl) (by rw [u113, tf]; rfl) (by rw [u113, tf]; rfl) (by rw [u113, tf]; exact h19) hz (Nat.le_refl _) (Nat.le_refl _)
  rw [← hR] at r1 r3 r4 r5 r6 r7 r8
  refine ⟨S', ?_, fun a ha => ?_, fun b i hb => ?_, r3, r4, r5, r6, r7, r8⟩
  · unfold ja_X2_execute
    have e1 : T.1 (ja_c (T.2 113 1) 1) 1 = (mb : Int) := by rw [hX.2.1, (jc_Q2 hQ).1, tn (Q + 9) (by omega) (by omega)]; exact hmb
    rw [lt_eq, lt_eq, lt_eq, lt_eq, lt_eq, lt_eq, lt_eq, lt_eq, lt_eq, jc_113_7, ← hT, e1, u1, bd_some]
    exact r1
  · rw [r2.2 a ha, u3 a (by omega) (by omega) (by omega), tn a (by omega) (by omega)]
  · rw [r2.1, u2, t2, if_neg (fun q => hb q.1)]
/-- an array of the class is cleared -/
theorem x_fillL {a n0 : Nat} (h31 : n0 < 100000) : ∀ (d k f : Nat) (S : nk_S), k + d = n0 → d < f → ∃ S', ja_J7_fill_53178_L5 f a n0 0 (k : Int) (n0 : Int) S = some (0, S') ∧ S'.2 = S.2 ∧ (∀ b, b ≠ a → S'.1 b = S.1 b) ∧ ∀ j, S'.1 a j = if k ≤ j ∧ j < n0 then 0 else S.1 a j := by
  intro d
  induction d with
  | zero =>
    intro k f S h1 h2
    obtain ⟨f, rfl⟩ : ∃ q, f = q + 1 := ⟨f - 1, by omega⟩
    refine ⟨S, ?_, rfl, fun _ _ => rfl, fun j => by rw [if_neg (by omega)]⟩
    rw [ja_J7_fill_53178_L5]
    unfold ja_J7_fill_53178_b5
    rw [if_pos (by omega)]
  | succ d ih =>
    intro k f S h1 h2
    obtain ⟨f, rfl⟩ : ∃ q, f = q + 1 := ⟨f - 1, by omega⟩
    obtain ⟨S', r1, r2, r3, r4⟩ := ih (k + 1) f (nk_wi S a k 0) (by omega) (by omega)
    refine ⟨S', ?_, r2, fun b hb => by rw [r3 b hb, wi_n hb], fun j => ?_⟩
    · rw [ja_J7_fill_53178_L5]
      unfold ja_J7_fill_53178_b5
      rw [if_neg (by omega), if_pos (in_i (N := (n0 : Int)) (by omega)), lt_eq, lt_eq, Int.toNat_natCast, w_nat1 (by omega)]
      exact r1
    · rw [r4, wi_at]
      by_cases c : j = k
      · rw [if_neg (by omega), if_pos c, if_pos (by omega)]
      · by_cases c2 : k + 1 ≤ j ∧ j < n0
        · rw [if_pos c2, if_pos (by omega)]
        · rw [if_neg c2, if_neg c, if_neg (by omega)]
/-- the class's run -/
theorem x_run (h : LD S Q P p A σ mb m0) (hin : ∀ k, k < 256 → S.1 112 k = inp k) (hin0 : ∀ k, 256 ≤ k → inp k = 0) (hiR : ∀ k, iR (inp k)) {a : Int} (ha : 0 ≤ a ∧ a ≤ 20000) (hz : iR (S.1 113 19)) {R : jN} (hR : R = mRn p A σ inp a.toNat (mB0 p mb) 0 (S.1 113 19)) : ∃ S', ja_X11_run 0 a S = some ((R.1 : Int), S') ∧ (∀ b, b ≠ 0 → b < 112 ∨ 120 < b → S'.1 b = S.1 b) ∧ (∀ i, i ≠ 12 → S'.1 0 i = S.1 0 i) ∧ S'.1 0 12 = 0 ∧ (∀ k, k < 256 → S'.1 112 k = 0) ∧ (∀ b i, b ≠ 113 → S'.2 b i = S.2 b i) ∧ S'.1 113 14 = (R.2.2.2.1 : Int) ∧ S'.1 113 15 = (R.2.1 : Int) ∧ S'.1 113 16 = R.2.2.1 ∧ S'.1 113 19 = R.2.2.2.2.1 ∧ iR R.2.2.2.2.1 ∧ cIo S' R.2.2.2.2.2.2.2.2.2.2 := by
  obtain ⟨-, -, -, n4, -⟩ := ld_nums h
  obtain ⟨hQ, hP, e4, e0, e6, e2, hK, hC, hRr⟩ := h
  obtain ⟨⟨tx, hwf⟩, -, hkx, ⟨ym, em, e1, e2', e3, -⟩, hI, -⟩ := hK
  obtain ⟨fuel, rfl⟩ : ∃ q : Nat, a = (q : Int) := ⟨a.toNat, by omega⟩
  rw [Int.toNat_natCast] at hR
  obtain ⟨U, u1, u2, u3, u4, u5, u6, u7, u8, u9⟩ := x_exec (mb := mb) hwf ⟨hQ, hkx.2⟩ hI hQ hC e2' e3 n4.1 hin hin0 hiR (fuel := fuel) (by omega) rfl hz hR
  obtain ⟨bm, hbm⟩ := big_ge 1000 (by decide)
  obtain ⟨V, v1, v2, v3, v4⟩ := x_fillL (a := 112) (n0 := 256) (by decide) 256 0 nk_big U rfl (by omega)
  refine ⟨nk_wi V 0 12 0, ?_, fun b h0 hb => ?_, fun i hi => ?_, ?_, fun k hk' => ?_, fun b i hb => ?_, ?_, ?_, ?_, ?_, u8, ?_⟩
  · unfold ja_X11_run
    rw [e6, if_neg (by decide), if_neg (by omega), if_pos (by omega), jc_0_13, e4, u1, bd_some, jc_0_11]
    unfold ja_J7_fill_53178
    rw [lt_eq]
    have v1 : ja_J7_fill_53178_L5 nk_big 112 256 0 0 ((256 : Nat) : Int) U = some (0, V) := v1
    rw [v1, bd_some, lt_eq]
  · rw [wi_n h0, v3 b (by omega), u2 b (by omega)]
  · rw [wi_at, if_neg hi, v3 0 (by decide), u2 0 (by decide)]
  · rw [wi_at, if_pos rfl]
  · rw [wi_n (by decide), v4, if_pos (by omega)]
  · show V.2 b i = S.2 b i
    rw [v2, u3 b i hb]
  · rw [wi_n (by decide), v3 113 (by decide)]; exact u4
  · rw [wi_n (by decide), v3 113 (by decide)]; exact u5
  · rw [wi_n (by decide), v3 113 (by decide)]; exact u6
  · rw [wi_n (by decide), v3 113 (by decide)]; exact u7
  · exact cIo_c (S := U) (by rw [wi_n (by decide), v3 113 (by decide)]) (by rw [wi_n (by decide), v3 113 (by decide)]) (by rw [wi_n (by decide), v3 120 (by decide)]) u9
end CBG
