/-! The reference begins bodies. -/
section RBG
variable {ns : List (List Int)} {us : List Int} {fl : List (List Int × Nat × Int)} {bl : List jB} {z : jL} {el : List (Nat × Nat × Nat × Nat)} {F : Int → Prop} {dn up : Int → Int} {H lc : Nat → Nat} {ty : Nat → Option (Nat → Int)} {th : Nat → Int} {n P m0 : Nat} {σ : jG} {i : Nat} {x : jC} {u : jQ} {S T : nk_S} {A R : jA} {D : Nat → Bool}
/-- a row that is right and below every solution may be brought -/
theorem pIn_row {G : jZ} (hI : pIn F G lc ty m0 A σ) {j : Nat} {w : jQ} {x' : jC} {t' : Nat → Int} (r1 : (zZ G).1[j]? = some x') (r2 : ty j = some t') (r3 : rOw F (zUs G) (zZ G) (lc j) (zH G j) t' w) (hb : ∀ B τ, pSl F G lc ty m0 B τ → ∃ t, B j = some t ∧ qLe w t) : pIn F G lc ty m0 (aArr A j w) σ := by
  have hle := (aLe_arr A j w).1
  refine ⟨fun i' u' hu' => ?_, hI.2.1, ?_, fun B τ hB => ⟨fun i' u' hu' => ?_, (hI.2.2.2 B τ hB).2⟩⟩
  · by_cases c : i' = j
    · subst c
      rw [aArr_at] at hu'
      cases hq : A i' with
      | none =>
        rw [hq] at hu'
        cases hu'
        exact ⟨x', t', r1, r2, r3⟩
      | some u =>
        rw [hq] at hu'
        cases hu'
        obtain ⟨x2, t2, s1, s2, s3⟩ := hI.1 i' u hq
        rw [r2] at s2
        cases s2
        exact ⟨x', t', r1, r2, wJn_w s3 r3⟩
    · rw [aArr_ne c] at hu'
      exact hI.1 i' u' hu'
  · obtain ⟨u, e1, e2⟩ := hI.2.2.1
    obtain ⟨v, f1, f2⟩ := hle m0 u e1
    exact ⟨v, f1, qLe_trans e2 f2⟩
  · by_cases c : i' = j
    · subst c
      obtain ⟨tB, g1, g2⟩ := hb B τ hB
      rw [aArr_at] at hu'
      cases hq : A i' with
      | none => rw [hq] at hu'; cases hu'; exact ⟨tB, g1, g2⟩
      | some u =>
        rw [hq] at hu'
        cases hu'
        obtain ⟨tB', s1, s2⟩ := (hI.2.2.2 B τ hB).1 i' u hq
        rw [g1] at s1
        cases s1
        exact ⟨tB, g1, fun k => wJn_lub (s2 k) (g2 k)⟩
    · rw [aArr_ne c] at hu'
      exact (hI.2.2.2 B τ hB).1 i' u' hu'
theorem lnI_row {j : Nat} {w : jQ} (h : lnI z A σ) (hw : qI (lnP z σ) w) : lnI z (aArr A j w) σ := by
  refine ⟨fun i' u' hu' => ?_, h.2⟩
  by_cases c : i' = j
  · subst c
    rw [aArr_at] at hu'
    cases hq : A i' with
    | none => rw [hq] at hu'; cases hu'; exact hw
    | some u =>
      rw [hq] at hu'
      cases hu'
      exact fun k => wI_J (h.1 i' u hq k) (hw k)
  · rw [aArr_ne c] at hu'
    exact h.1 i' u' hu'
theorem jc_P15 (hP : P = 122 ∨ P = 168) : ja_c P 15 = P + 8 := by rcases hP with rfl | rfl <;> rfl
theorem pm_ix {b k ix : Nat} (hb : b < 48) (hk : k < 12) (h : ix = 2700 + b * 12 + k) : nk_w (nk_w (2700 + nk_w ((b : Int) * 12)) + (k : Int)) = (ix : Int) := by
  rw [nk_w_id (z := (b : Int) * 12) (by omega) (by omega), nk_w_id (z := 2700 + (b : Int) * 12) (by omega) (by omega), nk_w_id (z := 2700 + (b : Int) * 12 + (k : Int)) (by omega) (by omega)]
  omega
theorem r_bg1 (hP : P = 122 ∨ P = 168) {rc : Nat → Nat → Int → Int → nk_S → Option (Int × nk_S)} {b k N ix : Nat} (hb : b < 48) (hk : k < 12) (hix : ix = 2700 + b * 12 + k) (hps : T.1 (P + 8) b = (N : Int)) (c : k < N) {w : jW} (v1 : rVo T P ix (some w)) (v2 : vBr F w) : ∃ T2, ja_X13_begin_b2 rc 121 P (b : Int) (k : Int) T = rc 121 P (b : Int) ((k + 1 : Nat) : Int) T2 ∧ wFo k T T2 ∧ rSo T2 rWk k w := by
  obtain ⟨c46, c47, c48, c49, -, -, -⟩ := jc_Pv hP
  have c15 := jc_P15 hP
  have es : ∀ _ : Unit, nk_w ((k : Int) + 1) = ((k + 1 : Nat) : Int) := fun _ => w_nat1 (by omega)
  have hi3 : ix < 3324 := by omega
  have ei : ∀ _ : Unit, nk_w (nk_w (2700 + nk_w ((b : Int) * 12)) + (k : Int)) = (ix : Int) := fun _ => pm_ix hb hk hix
  clear hix
  obtain ⟨q1, q2⟩ := r_clear (S := T) (s := k) (by omega)
  obtain ⟨T1, hT1⟩ : ∃ T1, T1 = w9 T 229 k wU9 := ⟨_, rfl⟩
  rw [← hT1] at q1 q2
  have f1 : wFo k T T1 := by rw [hT1]; exact w9_f
  have hps1 : T1.1 (P + 8) b = (N : Int) := by rw [f1.2.1 (P + 8) (by omega)]; exact hps
  have i3 : rVo T1 P ix (some w) := rVo_c (fun a h1 h2 => by rw [f1.2.1 a (by omega)]) v1
  obtain ⟨z0, z1, z2, z3⟩ := i3
  have ek : nk_i2b (w.1 : Int) = (w.1 : Int) := i2b_k (by have := vBr_k v2; omega)
  obtain ⟨T2, hT2⟩ : ∃ T2, T2 = nk_wi (nk_wi (nk_wi (nk_wi T1 229 k (w.1 : Int)) 230 k w.2.1.1) 231 k w.2.1.2) 232 k (T1.1 (P + 42) ix) := ⟨_, rfl⟩
  have f2 : wFo k T1 T2 := by rw [hT2]; exact wFo_trans (wFo_trans (wFo_trans (wFo_wi (by omega)) (wFo_wi (by omega))) (wFo_wi (by omega))) (wFo_wi (by omega))
  refine ⟨T2, ?_, wFo_trans f1 f2, ?_⟩
  · unfold ja_X13_begin_b2
    rw [if_neg (by omega), q1, bd_some, if_pos (in_i (N := 48) (by omega)), c15, Int.toNat_natCast, hps1, if_pos (show (k : Int) < (N : Int) by omega), ei (), lt_eq, if_pos (in_i (N := 3324) (by omega)), if_pos (in_i (N := 24) (by omega)), jc_121_26, jc_121_27, jc_121_28, jc_121_29, c46, c47, c48, c49, Int.toNat_natCast, Int.toNat_natCast, z0, ek, lt_eq, wi_n (b := P + 40) (by omega), z1, lt_eq, wi_n (b := P + 41) (by omega), wi_n (b := P + 41) (by omega), z2, lt_eq, wi_n (b := P + 42) (by omega), wi_n (b := P + 42) (by omega), wi_n (b := P + 42) (by omega), lt_eq, ← hT2, es (), lt_eq]
  · obtain ⟨y0, y1, y2, y3, y4, y5, y6, y7, y8⟩ := q2
    have nn : ∀ a, 233 ≤ a → T2.1 a = T1.1 a := fun a ha => by rw [hT2, wi_n (by omega), wi_n (by omega), wi_n (by omega), wi_n (by omega)]
    refine ⟨?_, ?_, ?_, ?_, ?_, ?_, ?_, ?_, ?_⟩
    · show T2.1 229 k = _
      rw [hT2, wi_n (by decide), wi_n (by decide), wi_n (by decide), wi_at, if_pos rfl]
    · show T2.1 230 k = _
      rw [hT2, wi_n (by decide), wi_n (by decide), wi_at, if_pos rfl]
    · show T2.1 231 k = _
      rw [hT2, wi_n (by decide), wi_at, if_pos rfl]
    · show cV (T2.1 232 k) _
      rw [hT2, wi_at, if_pos rfl]; exact z3
    · show T2.1 233 k = _
      rw [nn 233 (by omega), v2.2.1]; exact y4
    · show mI (T2.1 234 k) _ 0
      rw [nn 234 (by omega), v2.2.2.1]; exact y5
    · show mI (T2.1 235 k) _ 12
      rw [nn 235 (by omega), v2.2.2.1]; exact y6
    · show mI (T2.1 236 k) _ 24
      rw [nn 236 (by omega), v2.2.2.1]; exact y7
    · show mI (T2.1 237 k) _ 36
      rw [nn 237 (by omega), v2.2.2.1]; exact y8
theorem r_bg0 (hP : P = 122 ∨ P = 168) {rc : Nat → Nat → Int → Int → nk_S → Option (Int × nk_S)} {b k N : Nat} (hb : b < 48) (hk : k < 12) (hps : T.1 (P + 8) b = (N : Int)) (c : N ≤ k) : ∃ T2, ja_X13_begin_b2 rc 121 P (b : Int) (k : Int) T = rc 121 P (b : Int) ((k + 1 : Nat) : Int) T2 ∧ wFo k T T2 ∧ rSo T2 rWk k wU := by
  have c15 := jc_P15 hP
  have es : ∀ _ : Unit, nk_w ((k : Int) + 1) = ((k + 1 : Nat) : Int) := fun _ => w_nat1 (by omega)
  obtain ⟨q1, q2⟩ := r_clear (S := T) (s := k) (by omega)
  refine ⟨w9 T 229 k wU9, ?_, w9_f, q2⟩
  have f1 : wFo k T (w9 T 229 k wU9) := w9_f
  unfold ja_X13_begin_b2
  rw [if_neg (by omega), q1, bd_some, if_pos (in_i (N := 48) (by omega)), c15, Int.toNat_natCast, f1.2.1 (P + 8) (by omega), hps, if_neg (show ¬ (k : Int) < (N : Int) by omega), es (), lt_eq]
/-- the row that a body is begun with is laid -/
theorem r_bgL (hP : P = 122 ∨ P = 168) {b N : Nat} (hb : b < 48) (hps : S.1 (P + 8) b = (N : Int)) {r : jQ} (hr : ∀ k, k < N → ∃ ix, ix = 2700 + b * 12 + k ∧ rVo S P ix (some (r k)) ∧ vBr F (r k)) (hu : ∀ k, N ≤ k → r k = wU) : ∀ (d k m : Nat) (T : nk_S), k + d = 12 → d < m → xFr S T → rX T k r → ∃ T' m', ja_X13_begin_L2 m 121 P (b : Int) (k : Int) T = ja_X13_begin_b2 (ja_X13_begin_L2 m') 121 P (b : Int) ((12 : Nat) : Int) T' ∧ xFr S T' ∧ rX T' 12 r := by
  intro d
  induction d with
  | zero =>
    intro k m T h1 h2 hf hx
    obtain ⟨m, rfl⟩ : ∃ q, m = q + 1 := ⟨m - 1, by omega⟩
    obtain rfl : k = 12 := by omega
    exact ⟨T, m, rfl, hf, hx⟩
  | succ d ih =>
    intro k m T h1 h2 hf hx
    obtain ⟨m, rfl⟩ : ∃ q, m = q + 1 := ⟨m - 1, by omega⟩
    have hps1 : T.1 (P + 8) b = (N : Int) := by rw [hf.2 (P + 8) (by omega)]; exact hps
    have st : ∃ T2, ja_X13_begin_b2 (ja_X13_begin_L2 m) 121 P (b : Int) (k : Int) T = ja_X13_begin_L2 m 121 P (b : Int) ((k + 1 : Nat) : Int) T2 ∧ wFo k T T2 ∧ rSo T2 rWk k (r k) := by
      by_cases c : k < N
      · obtain ⟨ix, i1, i2, i3⟩ := hr k c
        exact r_bg1 hP hb (by omega) i1 hps1 c (rVo_c (fun a h1 h2 => by rw [hf.2 a (by omega)]) i2) i3
      · rw [hu k (by omega)]
        exact r_bg0 hP hb (by omega) hps1 (by omega)
    obtain ⟨T2, s1, s2, s3⟩ := st
    obtain ⟨T', m', g1, g2⟩ := ih (k + 1) m T2 (by omega) (by omega) (xFr_trans hf (wFo_x s2)) (fun j hj => by
      by_cases e : j = k
      · rw [e]; exact s3
      · exact rSo_c (fun q _ => s2.2.2 _ _ e) (hx j (by omega)))
    refine ⟨T', m', ?_, g2⟩
    show ja_X13_begin_b2 (ja_X13_begin_L2 m) 121 P (b : Int) (k : Int) T = _
    rw [s1, g1]
/-- a body is begun -/
theorem rk_begin (hk : rKx F th n dn up ns us fl bl z el H lc ty P) (hI : rkI F dn up ns us fl bl z el H lc ty m0 P S A D σ R) {b : Nat} {y : jB} {e : Nat × Nat × Nat × Nat} {r : jQ} (hy : bl[b]? = some y) (he : el[b]? = some e) (hr : R b = some r) : ∃ S' c, ja_X13_begin 121 P (b : Int) S = some (0, S') ∧ (S'.2 = S.2 ∧ (∀ a, ¬ (P + 27 ≤ a ∧ a ≤ P + 36) → (a < 229 ∨ 238 < a) → a ≠ 121 → S'.1 a = S.1 a) ∧ ∀ f, f ≠ 36 → S'.1 121 f = S.1 121 f) ∧ rkI F dn up ns us fl bl z el H lc ty m0 P S' (aArr A e.1 r) (fun i => if i = e.1 ∧ c = true then true else D i) σ R ∧ S'.1 121 36 = (if c = true then 1 else S.1 121 36) ∧ (c = true ↔ aArr A e.1 r ≠ A) := by
  obtain ⟨i1, i2, i3, i4, i5, i6, i7, i8, i9⟩ := id hI
  have hPP := hk.1
  obtain ⟨y', e', x', t', a1, a2, a3, a4, a5, a6, a7, a8, a9⟩ := i9 b r hr
  rw [hy] at a1
  cases a1
  rw [he] at a2
  cases a2
  obtain ⟨e0, x0, r1, r2, r3, r4, r5⟩ := bod_at hk.2.1 hy
  rw [he] at r1
  cases r1
  have hb48 : b < 48 := by have := at_lt hy; have := hk.2.2.2.2.2.2.2.1; omega
  have hps12 := hk.2.2.2.2.2.2.1 b y hy
  have hb0 := i1.1.2.2.2.2.2.2.1 b y hy
  have hps : S.1 (P + 8) b = (y.ps.length : Int) := hb0.2.2.1
  have hfi : S.1 (P + 12) b = (e.1 : Int) := (i1.1.2.2.2.2.2.2.2.1 b e he).1
  have c19 : ja_c P 19 = P + 12 := by rcases hPP with rfl | rfl <;> rfl
  obtain ⟨bm, hbm⟩ := big_ge 100 (by decide)
  obtain ⟨T, m', g1, g2, g3⟩ := r_bgL (S := S) (F := F) hk.1 hb48 hps (r := r) (fun k hk' => ⟨2700 + b * 12 + k, rfl, (i5 b y hy).2.2 r hr k hk', vBr_l (a7 k hk')⟩) a6 12 0 nk_big S (by omega) (by omega) xFr_rfl (fun k hk' => by omega)
  have hz1024 : e.1 < 1024 := by
    have := at_lt r2
    have := hk.2.2.2.2.1.1
    omega
  have hlc := hk.2.2.2.2.2.1 e.1
  have eqr : qRs (lc e.1) (H e.1) r = r := by
    funext k
    unfold qRs
    split
    · rfl
    · rename_i hn
      exact (a5.2 k hn).symm
  have r12 : rX T (12 + H e.1) r := by rw [r4]; exact g3
  obtain ⟨S', c, s1, s2, s3, s4, s5, s6⟩ := r_bring (F := F) (lc := lc) (S := T) (A := A) (fun i u hu => (hk.2.2.2.2.2.1 i).2) hk.1 hz1024 hlc.2 hlc.1 (rAm_c (fun a h1 h2 => g2.2 a (by omega)) i2) (aWf_of i6.1) (D := D) (fun i hi => by rw [g2.2 238 (by omega)]; exact i3 i hi) (v := r) a5.1.1 (fun k h1 h2 => a5.2 k (by unfold rel; omega)) (by rw [g2.2 (P + 19) (by omega)]; exact i1.2 e.1 t' a4) r12
  rw [eqr] at s3 s6
  have fr : S'.2 = S.2 ∧ (∀ a, ¬ (P + 27 ≤ a ∧ a ≤ P + 36) → (a < 229 ∨ 238 < a) → a ≠ 121 → S'.1 a = S.1 a) ∧ ∀ f, f ≠ 36 → S'.1 121 f = S.1 121 f := ⟨by rw [s2.1, g2.1], fun a h1 h2 h3 => by rw [s2.2.1 a (by omega) (by omega) h3, g2.2 a (by omega)], fun f hf => by rw [s2.2.2 f hf, g2.2 121 (by omega)]⟩
  refine ⟨S', c, ?_, fr, ⟨rPv_c (fun a h1 h2 => fr.2.1 a (by omega) (by omega) (by omega)) (fr.2.1 224 (by omega) (by omega) (by omega)) i1, s3, s4, rGm_c (fun a h1 h2 => fr.2.1 a (by omega) (by omega) (by omega)) i4, rRm_c (fun a h1 h2 => fr.2.1 a (by omega) (by omega) (by omega)) i5, pIn_row i6 a3 a4 a5 a9, lnI_row i7 a8, i8, i9⟩, by rw [s5, g2.2 121 (by omega)], s6⟩
  unfold ja_X13_begin
  have g1 : ja_X13_begin_L2 nk_big 121 P (b : Int) 0 S = ja_X13_begin_b2 (ja_X13_begin_L2 m') 121 P (b : Int) ((12 : Nat) : Int) T := g1
  rw [g1]
  unfold ja_X13_begin_b2
  rw [if_pos (by decide), if_pos (in_i (N := 48) (by omega)), c19, Int.toNat_natCast, g2.2 (P + 12) (by omega), hfi, s1, bd_some]
end RBG
