/-! The reference sends: all receivers; the rows that bodies are begun with. -/
section RSE
variable {ns : List (List Int)} {us : List Int} {fl : List (List Int × Nat × Int)} {bl : List jB} {z : jL} {el : List (Nat × Nat × Nat × Nat)} {F : Int → Prop} {dn up : Int → Int} {H lc : Nat → Nat} {ty : Nat → Option (Nat → Int)} {th : Nat → Int} {n P m0 : Nat} {σ : jG} {i : Nat} {x : jC} {u : jQ} {S : nk_S} {A R : jA} {D : Nat → Bool} {W : Nat → Bool} {rn : Nat → Nat} {π : Nat → Option jW}
theorem sdJ_i : sdJ P S W rn π 0 S 0 false := by
  refine ⟨⟨rfl, fun _ _ _ => rfl, fun _ _ => rfl⟩, fun _ _ _ _ _ => rfl, fun b hb => (by cases hb), cV_e cV_0 (fun b _ => rfl), by rw [if_neg (by decide)], ⟨fun q => (by cases q), fun ⟨b, q, _⟩ => (by cases q)⟩⟩
theorem sd_ix {c f : Nat} (hc : c < 32) (hf : f < 48) : nk_w (nk_w (nk_w (((8 + c : Nat) : Int) - 8) * 48) + (f : Int)) = ((c * 48 + f : Nat) : Int) := by
  rw [nk_w_id (z := ((8 + c : Nat) : Int) - 8) (by omega) (by omega), nk_w_id (z := (((8 + c : Nat) : Int) - 8) * 48) (by omega) (by omega), nk_w_id (z := (((8 + c : Nat) : Int) - 8) * 48 + (f : Int)) (by omega) (by omega)]
  omega
theorem sd_px {b : Nat} (hb : b < 48) : nk_w (2700 + nk_w ((b : Int) * 12)) = ((pmB b : Nat) : Int) := by
  unfold pmB
  rw [nk_w_id (z := (b : Int) * 12) (by omega) (by omega), nk_w_id (z := 2700 + (b : Int) * 12) (by omega) (by omega)]
  omega
theorem r_sdL (hP : P = 122 ∨ P = 168) {f low : Nat} {l4 : Int} (hf : f < 48) (hl : low < 24) (hset : cV (S.1 232 low) W) (hrn : ∀ s, s < 54 → W s = true → ∃ c, c < 32 ∧ S.1 (P + 20) s = ((8 + c : Nat) : Int) ∧ S.1 (P + 14) (c * 48 + f) = (rn s : Int) ∧ rn s < 48 ∧ rVo S P (pmB (rn s)) (π (rn s)) ∧ ∀ v, π (rn s) = some v → vBr F v ∧ v.1 = 2) : ∀ (d s mm : Nat) (T : nk_S) (l6 : Int) (ch : Bool), s + d = 54 → d < mm → sdJ P S W rn π s T l6 ch → ∃ T' l6' ch', ja_X13_call_L38 mm 121 P (f : Int) 1 l4 (low : Int) l6 (s : Int) T = ja_X13_call_L134 nk_big 121 P (f : Int) 1 l4 (low : Int) l6' 0 0 T' ∧ sdJ P S W rn π 54 T' l6' ch' := by
  have c21 : ja_c P 21 = P + 14 := by rcases hP with rfl | rfl <;> rfl
  obtain ⟨-, -, -, -, c27, -, -⟩ := jc_Pc hP
  intro d
  induction d with
  | zero =>
    intro s mm T l6 ch h1 h2 h
    obtain ⟨mm, rfl⟩ : ∃ q, mm = q + 1 := ⟨mm - 1, by omega⟩
    obtain rfl : s = 54 := by omega
    refine ⟨T, l6, ch, ?_, h⟩
    show ja_X13_call_b38 _ 121 P _ _ _ _ _ _ _ = _
    unfold ja_X13_call_b38
    rw [if_pos (by decide)]
  | succ d ih =>
    intro s mm T l6 ch h1 h2 h
    obtain ⟨mm, rfl⟩ : ∃ q, mm = q + 1 := ⟨mm - 1, by omega⟩
    have es : ∀ _ : Unit, nk_w ((s : Int) + 1) = ((s + 1 : Nat) : Int) := fun _ => w_nat1 (by omega)
    have hT : cV (T.1 232 low) W := by rw [h.1.2.1 232 (by omega) (by omega)]; exact hset
    cases hw : W s with
    | false =>
      obtain ⟨T', l6', ch', g1, g2⟩ := ih (s + 1) mm T l6 ch (by omega) (by omega) (sdJ_0 hw h)
      refine ⟨T', l6', ch', ?_, g2⟩
      rw [← g1]
      show ja_X13_call_b38 (ja_X13_call_L38 mm) 121 P (f : Int) 1 l4 (low : Int) l6 (s : Int) T = _
      unfold ja_X13_call_b38
      rw [if_neg (by omega), if_pos (in_i (N := 24) (by omega)), jc_121_29, Int.toNat_natCast, r_bit hT (by omega), hw, if_pos (show bi false = 0 from rfl), es (), lt_eq]
    | true =>
      obtain ⟨c, r1, r2, r3, r4, r5, r6⟩ := hrn s (by omega) hw
      obtain ⟨T1, c1, s1, s2⟩ := sdJ_1 (F := F) hP (s := s) (b := rn s) (by omega) r4 hw rfl r5 r6 h
      obtain ⟨T', l6', ch', g1, g2⟩ := ih (s + 1) mm T1 _ c1 (by omega) (by omega) s2
      refine ⟨T', l6', ch', ?_, g2⟩
      rw [← g1]
      have t20 : T.1 (P + 20) s = ((8 + c : Nat) : Int) := by rw [h.1.2.1 (P + 20) (by omega) (by omega)]; exact r2
      have t14 : T.1 (P + 14) (c * 48 + f) = (rn s : Int) := by rw [h.1.2.1 (P + 14) (by omega) (by omega)]; exact r3
      show ja_X13_call_b38 (ja_X13_call_L38 mm) 121 P (f : Int) 1 l4 (low : Int) l6 (s : Int) T = _
      unfold ja_X13_call_b38
      rw [if_neg (by omega), if_pos (in_i (N := 24) (by omega)), jc_121_29, Int.toNat_natCast, r_bit hT (by omega), hw, if_neg (show ¬ bi true = 0 by decide), if_pos (in_i (N := 54) (by omega)), c27, c21, Int.toNat_natCast, t20, sd_ix r1 hf, if_pos (in_i (N := 1536) (by omega)), Int.toNat_natCast, t14, lt_eq, lt_eq, sd_px r4, s1, bd_some, es (), lt_eq]
/-- the row that a body is begun with by a send -/
def sdE (N low : Nat) (u : jQ) (M : Nat → Bool) : jQ := fun k => if k < N then (if k = 0 then wS M else wBr (u (low + k))) else wU
/-- it is right, and below every solution, if each of its receivers' rows is -/
theorem rpR_sd {G : jZ} {b N low : Nat} {y : jB} {e : Nat × Nat × Nat × Nat} {M : Nat → Bool} (hy : bl[b]? = some y) (he : el[b]? = some e) (hN : y.ps.length = N) (h1 : 1 ≤ N) (hM : ∃ s, M s = true) (hs : ∀ s, M s = true → s < 54 ∧ (∃ x' t', z.1[e.1]? = some x' ∧ ty e.1 = some t' ∧ rOw F us z (lc e.1) (H e.1) t' (pEn y u low (some s))) ∧ vl1 F us z (y.ps.getD 0 0) (wS (onS s)) ∧ lnP z σ s ∧ ∀ B τ, pSl F G lc ty m0 B τ → ∃ t, B e.1 = some t ∧ qLe (pEn y u low (some s)) t) (hv : ∀ k, k < N → k ≠ 0 → vl1 F us z (y.ps.getD k 0) (wBr (u (low + k)))) (hq : qI (lnP z σ) u) : rpR F us bl z el H lc ty m0 G σ b (sdE N low u M) := by
  obtain ⟨s0, hs0⟩ := hM
  obtain ⟨h54, ⟨x', t', z1, z2, z3⟩, hv0, hl0, hb0⟩ := hs s0 hs0
  have hpe : ∀ s k, k ≠ 0 → pEn y u low (some s) k = sdE N low u M k := fun s k hk => by
    unfold pEn sdE
    rw [hN]
    by_cases c : k < N
    · rw [if_pos c, if_pos c, if_neg hk]
      dsimp only
      rw [if_neg hk]
    · rw [if_neg c, if_neg c]
  have hp0 : ∀ s, pEn y u low (some s) 0 = wS (onS s) := fun s => by
    unfold pEn
    rw [if_pos (by omega)]
    rfl
  have hE0 : sdE N low u M 0 = wS M := by unfold sdE; rw [if_pos (by omega), if_pos rfl]
  have eqU : sdE N low u M = qUp (pEn y u low (some s0)) 0 (wS M) := by
    funext k
    by_cases c : k = 0
    · rw [c, qUp_at, hE0]
    · rw [qUp_ne c, hpe s0 k c]
  have hu1 : uOk1 F us z (t' 0) (wS M) := by
    refine ⟨⟨fun k hk => (by cases hk), fun j hj => (by cases hj), Or.inr (Or.inr ⟨rfl, rfl, ⟨s0, hs0⟩, fun j hj => Or.inl (hs j hj).1⟩)⟩, ⟨fun q => ?_, fun q => ⟨rfl, fun s hsM => ?_⟩⟩, fun j _ hj => (by cases hj)⟩
    · have := (z3.1.2.2.1 0).1 q
      rw [hp0] at this
      exact absurd this (by show ¬ (2 : Nat) = 1; decide)
    · obtain ⟨-, ⟨x2, t2, y1, y2, y3⟩, -⟩ := hs s hsM
      rw [z2] at y2
      cases y2
      have := ((y3.1.2.2.1 0).2 q).2 s
      rw [hp0] at this
      exact this (by show decide (s = s) = true; exact decide_eq_true rfl)
  refine ⟨y, e, x', t', hy, he, z1, z2, ⟨?_, fun k hk => ?_⟩, fun k hk => ?_, fun k hk => ?_, fun k => ?_, fun B τ hB => ?_⟩
  · rw [eqU]
    exact vOk_sl z3.1 hu1 (by rw [hp0]; exact ⟨rfl, rfl⟩)
  · by_cases c : k = 0
    · exfalso
      have := z3.2 k hk
      rw [c, hp0] at this
      have := congrArg (fun w : jW => w.1) this
      exact absurd this (by show ¬ (2 : Nat) = 0; decide)
    · rw [← hpe s0 k c]; exact z3.2 k hk
  · unfold sdE
    rw [if_neg (by omega)]
  · by_cases c : k = 0
    · rw [c, hE0]
      obtain ⟨⟨v1, v2, v3⟩, v4, v5, v6⟩ := hv0
      refine ⟨⟨hu1.1, ⟨fun q => absurd (v2.1 q) (by show ¬ (2 : Nat) = 1; decide), fun q => ⟨rfl, fun s hsM => ?_⟩⟩, fun j _ hj => (by cases hj)⟩, rfl, rfl, (by show (2 : Nat) ≠ 0; decide)⟩
      exact ((hs s hsM).2.2.1.1.2.1.2 q).2 s (by show decide (s = s) = true; exact decide_eq_true rfl)
    · rw [← hpe s0 k c]
      unfold pEn
      rw [if_pos hk]
      dsimp only
      rw [if_neg c]
      exact hv k (by omega) c
  · by_cases c : k = 0
    · rw [c, hE0]
      intro s hsM
      exact (hs s hsM).2.2.2.1
    · unfold sdE
      by_cases c2 : k < N
      · rw [if_pos c2, if_neg c]
        exact hq (low + k)
      · rw [if_neg c2]
        intro s q
        cases q
  · obtain ⟨t, q1, q2⟩ := hb0 B τ hB
    refine ⟨t, q1, fun k => ?_⟩
    by_cases c : k = 0
    · rw [c, hE0]
      have w0 := q2 0
      rw [hp0] at w0
      rcases w0 with w | ⟨w1, w2, w3, w4, w5⟩
      · exact Or.inl w
      · refine Or.inr ⟨w1, w2, fun s hsM => ?_, w4, w5⟩
        obtain ⟨t2, q3, q4⟩ := (hs s hsM).2.2.2.2 B τ hB
        rw [q1] at q3
        cases q3
        have w6 := q4 0
        rw [hp0] at w6
        rcases w6 with w | ⟨-, -, w, -⟩
        · have w1' : (2 : Nat) = (t 0).1 := w1
          omega
        · exact w s (by show decide (s = s) = true; exact decide_eq_true rfl)
    · rw [← hpe s0 k c]; exact q2 k
end RSE
