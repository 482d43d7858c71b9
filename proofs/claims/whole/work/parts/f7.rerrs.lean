/-! The reference's look: the errors are thrown. -/
section RER
variable {S : nk_S} {P : Nat}
/-- the errors before e are thrown -/
def erT (th rz : Nat → Bool) (e : Nat) : Nat → Bool := fun s => th s || (decide (48 ≤ s) && decide (s < 48 + e) && rz (s - 48))
theorem erT_s {th rz : Nat → Bool} {e : Nat} : erT th rz (e + 1) = if rz e = true then sOr (erT th rz e) (onS (48 + e)) else erT th rz e := by
  funext s
  unfold erT
  by_cases c : s = 48 + e
  · subst c
    rw [decide_eq_true (show 48 ≤ 48 + e by omega), decide_eq_true (show 48 + e < 48 + (e + 1) by omega), Nat.add_sub_cancel_left]
    cases hr : rz e with
    | true =>
      rw [if_pos rfl]
      show _ = (_ || decide (48 + e = 48 + e))
      rw [decide_eq_true rfl, Bool.or_true, Bool.and_self, Bool.and_self, Bool.or_true]
    | false =>
      rw [if_neg (by decide), decide_eq_false (show ¬ 48 + e < 48 + e by omega), Bool.and_false, Bool.and_false, Bool.false_and]
  · have e1 : (decide (48 ≤ s) && decide (s < 48 + (e + 1))) = (decide (48 ≤ s) && decide (s < 48 + e)) := by
      by_cases q : s < 48 + e
      · rw [decide_eq_true q, decide_eq_true (show s < 48 + (e + 1) by omega)]
      · rw [decide_eq_false q, decide_eq_false (show ¬ s < 48 + (e + 1) by omega)]
    rw [e1]
    cases hr : rz e with
    | true =>
      rw [if_pos rfl]
      show _ = (_ || decide (s = 48 + e))
      rw [decide_eq_false c, Bool.or_false]
    | false => rw [if_neg (by decide)]
theorem r_errL {th rz : Nat → Bool} {i l4 : Int} (h39 : cI (S.1 121 39) rz) : ∀ (d e m : Nat) (T : nk_S), e + d = 6 → d < m → T.2 = S.2 → (∀ a, a ≠ 121 → T.1 a = S.1 a) → (∀ f, f ≠ 40 → T.1 121 f = S.1 121 f) → cV (T.1 121 40) (erT th rz e) → ∃ T' m', ja_X13_look_L207 m 121 P i l4 (e : Int) T = ja_X13_look_b207 (ja_X13_look_L207 m') 121 P i l4 ((6 : Nat) : Int) T' ∧ T'.2 = S.2 ∧ (∀ a, a ≠ 121 → T'.1 a = S.1 a) ∧ (∀ f, f ≠ 40 → T'.1 121 f = S.1 121 f) ∧ cV (T'.1 121 40) (erT th rz 6) := by
  intro d
  induction d with
  | zero =>
    intro e m T h1 h2 g1 g2 g3 g4
    obtain ⟨m, rfl⟩ : ∃ q, m = q + 1 := ⟨m - 1, by omega⟩
    obtain rfl : e = 6 := by omega
    exact ⟨T, m, rfl, g1, g2, g3, g4⟩
  | succ d ih =>
    intro e m T h1 h2 g1 g2 g3 g4
    obtain ⟨m, rfl⟩ : ∃ q, m = q + 1 := ⟨m - 1, by omega⟩
    have es : ∀ _ : Unit, nk_w ((e : Int) + 1) = ((e + 1 : Nat) : Int) := fun _ => w_nat1 (by omega)
    have e8 : ∀ _ : Unit, nk_w (48 + (e : Int)) = ((48 + e : Nat) : Int) := fun _ => by
      rw [nk_w_id (z := 48 + (e : Int)) (by omega) (by omega)]; omega
    have hT39 : cI (T.1 121 39) rz := by rw [g3 39 (by decide)]; exact h39
    cases hr : rz e with
    | false =>
      obtain ⟨T', m', r1, r2⟩ := ih (e + 1) m T (by omega) (by omega) g1 g2 g3 (by rw [erT_s, if_neg (by rw [hr]; decide)]; exact g4)
      refine ⟨T', m', ?_, r2⟩
      rw [← r1]
      show ja_X13_look_b207 (ja_X13_look_L207 m) 121 P i l4 (e : Int) T = _
      conv => lhs; unfold ja_X13_look_b207
      rw [if_neg (by omega), ri_bit hT39 (by omega), hr, if_neg (show ¬ bi false = 1 by decide), es (), lt_eq]
    | true =>
      obtain ⟨T1, hT1⟩ : ∃ T1, T1 = nk_wi T 121 40 (nk_lor (T.1 121 40) (nk_lshl 1 ((48 + e : Nat) : Int))) := ⟨_, rfl⟩
      obtain ⟨T', m', r1, r2⟩ := ih (e + 1) m T1 (by omega) (by omega) (by rw [hT1]; exact g1) (fun a ha => by rw [hT1, wi_n ha]; exact g2 a ha) (fun f hf => by rw [hT1, wi_at, if_neg hf]; exact g3 f hf) (by
        rw [erT_s, if_pos hr, hT1, wi_at, if_pos rfl]
        exact cV_or g4 (cV_one (by omega)))
      refine ⟨T', m', ?_, r2⟩
      rw [← r1]
      show ja_X13_look_b207 (ja_X13_look_L207 m) 121 P i l4 (e : Int) T = _
      conv => lhs; unfold ja_X13_look_b207
      rw [if_neg (by omega), ri_bit hT39 (by omega), hr, if_pos (show bi true = 1 from rfl), e8 (), lt_eq, ← hT1, es (), lt_eq]
/-- what is thrown, and what is raised, is written down -/
theorem r_errs (hP : P = 122 ∨ P = 168) {th rz : Nat → Bool} {i : Nat} (hi : i < 1024) {l4 : Int} {lb : Nat → Bool} (h4 : cI l4 lb) (h39 : cI (S.1 121 39) rz) (h40 : cV (S.1 121 40) th) {mv : Bool} (h38 : S.1 121 38 = bi mv) : ∃ T' r, ja_X13_look_L207 nk_big 121 P (i : Int) l4 0 S = ja_X13_look_L280 nk_big 121 P (i : Int) 0 (nk_wi T' (P + 37) i r) ∧ cI r (fun e => (rz e || lb e) || (decide (e = 9) && !mv)) ∧ T'.2 = S.2 ∧ (∀ a, a ≠ 121 → T'.1 a = S.1 a) ∧ (∀ f, f ≠ 40 → T'.1 121 f = S.1 121 f) ∧ cV (T'.1 121 40) (erT th rz 6) := by
  obtain ⟨-, -, -, -, -, c44, -⟩ := jc_Pc hP
  obtain ⟨bm, hbm⟩ := big_ge 100 (by decide)
  obtain ⟨T', m', g1, g2, g3, g4, g5⟩ := r_errL (P := P) (i := (i : Int)) (l4 := l4) (th := th) h39 6 0 nk_big S (by omega) (by omega) rfl (fun _ _ => rfl) (fun _ _ => rfl) (cV_e h40 (fun s _ => by
    unfold erT
    by_cases c : 48 ≤ s
    · rw [decide_eq_false (show ¬ s < 48 + 0 by omega), Bool.and_false, Bool.false_and, Bool.or_false]
    · rw [decide_eq_false c, Bool.false_and, Bool.false_and, Bool.or_false]))
  have hT39 : cI (T'.1 121 39) rz := by rw [g4 39 (by decide)]; exact h39
  have hT38 : T'.1 121 38 = bi mv := by rw [g4 38 (by decide)]; exact h38
  have g1 : ja_X13_look_L207 nk_big 121 P (i : Int) l4 0 S = ja_X13_look_b207 (ja_X13_look_L207 m') 121 P (i : Int) l4 ((6 : Nat) : Int) T' := g1
  rw [g1]
  unfold ja_X13_look_b207
  rw [if_pos (by decide), hT38, c44]
  cases mv with
  | false =>
    refine ⟨T', nk_ior (nk_ior (T'.1 121 39) l4) 512, ?_, ?_, g2, g3, g4, g5⟩
    · rw [if_pos (show bi false = 0 from rfl), if_pos (in_i (N := 1024) (by omega)), Int.toNat_natCast, lt_eq]
    · refine cI_e (cI_or (cI_or hT39 h4) (t := onS 9) (cI_on (e := 9) (by decide))) (fun j => ?_)
      show (_ || decide (j = 9)) = _
      rw [Bool.not_false, Bool.and_true]
      rfl
  | true =>
    refine ⟨T', nk_ior (nk_ior (T'.1 121 39) l4) 0, ?_, ?_, g2, g3, g4, g5⟩
    · rw [if_neg (show ¬ bi true = 0 by decide), if_pos (in_i (N := 1024) (by omega)), Int.toNat_natCast, lt_eq]
    · refine cI_e (cI_or (cI_or hT39 h4) cI_0) (fun j => ?_)
      show ((_ || _) || false) = _
      rw [Bool.not_true, Bool.and_false]
end RER
