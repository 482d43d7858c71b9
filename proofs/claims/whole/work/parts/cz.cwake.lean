/-! The class wakes those that use what has changed. -/
/-- only who waits changes -/
def yFr (S S' : nk_S) : Prop := S'.2 = S.2 ∧ ∀ a, a ≠ 97 → S'.1 a = S.1 a
theorem yFr_rfl {S : nk_S} : yFr S S := ⟨rfl, fun _ _ => rfl⟩
theorem yFr_trans {S1 S2 S3 : nk_S} (h : yFr S1 S2) (k : yFr S2 S3) : yFr S1 S3 := ⟨k.1.trans h.1, fun a x => (k.2 a x).trans (h.2 a x)⟩
section CWU
variable {S : nk_S} {Q : Nat} {p : jP} {H lc : Nat → Nat} {A : jA} {W f : Nat → Bool} {C : jH}
theorem cWt_e {S : nk_S} {W W' : Nat → Bool} (h : cWt S W) (e : ∀ i, i < 1024 → W i = W' i) : cWt S W' := ⟨h.1, fun i hi => by rw [h.2 i hi, e i hi]⟩
theorem c_wkL (hQ : Q = 13 ∨ Q = 49) (hv : cPv S Q p H lc) (hz : oJL p.2.2.2.2.1) (hA : cAm H lc S A) (hU : ∀ T, yFr S T → ∀ i, i < p.2.2.2.2.1.1.length → A i ≠ none → ja_X4_usesChanged 92 (i : Int) T = some (bi (f i), T)) : ∀ (d i m : Nat) (T : nk_S), i + d = p.2.2.2.2.1.1.length → d < m → yFr S T → cWt T (fun j => W j || (decide (j < i) && (A j).isSome && f j)) → ∃ S', ja_X4_wakeUsers_L31 m 92 (i : Int) T = some (0, S') ∧ S'.2 = S.2 ∧ (∀ a, a ≠ 97 → a ≠ 100 → S'.1 a = S.1 a) ∧ (∀ g, g ≠ 6 → g ≠ 7 → g ≠ 8 → S'.1 100 g = S.1 100 g) ∧ (S'.1 100 6 = 0 ∧ S'.1 100 7 = 0 ∧ S'.1 100 8 = 0) ∧ cWt S' (fun j => W j || (decide (j < p.2.2.2.2.1.1.length) && (A j).isSome && f j)) := by
  have h24 := hz.1
  have hc : S.1 Q 3 = (p.2.2.2.2.1.1.length : Int) := hv.2.2.1.2.2.2.2.2.2.2.2.1.1.1
  intro d
  induction d with
  | zero =>
    intro i m T h1 h2 hT hW
    obtain ⟨m, rfl⟩ : ∃ q, m = q + 1 := ⟨m - 1, by omega⟩
    rw [Nat.add_zero] at h1
    refine ⟨nk_wi (nk_wi (nk_wi T 100 6 0) 100 7 0) 100 8 0, ?_, hT.1, fun a x y => by rw [wi_n y, wi_n y, wi_n y, hT.2 a x], fun g x y w => by rw [wi_at, if_neg w, wi_at, if_neg y, wi_at, if_neg x, hT.2 100 (by decide)], ⟨by rw [wi_at, if_neg (by decide), wi_at, if_neg (by decide), wi_at, if_pos rfl], by rw [wi_at, if_neg (by decide), wi_at, if_pos rfl], by rw [wi_at, if_pos rfl]⟩, ?_⟩
    · show ja_X4_wakeUsers_b31 (ja_X4_wakeUsers_L31 m) 92 (i : Int) T = _
      unfold ja_X4_wakeUsers_b31
      rw [show T.2 92 0 = Q by rw [hT.1]; exact hv.1, hT.2 Q (by omega), hc, if_pos (by omega), lt_eq, lt_eq, lt_eq, jc_92_3]
    · rw [h1] at hW
      exact ⟨fun k hk => by rw [wi_n (by decide), wi_n (by decide), wi_n (by decide)]; exact hW.1 k hk, fun k hk => by rw [wi_n (by decide), wi_n (by decide), wi_n (by decide)]; exact hW.2 k hk⟩
  | succ d ih =>
    intro i m T h1 h2 hT hW
    obtain ⟨m, rfl⟩ : ∃ q, m = q + 1 := ⟨m - 1, by omega⟩
    have hi : i < 1024 := by omega
    have e0 : ja_X4_wakeUsers_L31 (m + 1) 92 (i : Int) T = ja_X4_wakeUsers_b31 (ja_X4_wakeUsers_L31 m) 92 (i : Int) T := rfl
    rw [e0]
    unfold ja_X4_wakeUsers_b31
    rw [show T.2 92 0 = Q by rw [hT.1]; exact hv.1, hT.2 Q (by omega), hc, if_neg (by omega), if_pos (in_i (N := 1024) (by omega)), jc_92_2, jc_93_2, Int.toNat_natCast, hT.2 96 (by decide), hA.1 i hi, w_nat1 (by omega)]
    have hstep : ∀ b : Bool, ((A i).isSome && f i) = b → ∀ j, j < 1024 → (if j = i then (b || (W j || (decide (j < i) && (A j).isSome && f j))) else (W j || (decide (j < i) && (A j).isSome && f j))) = (W j || (decide (j < i + 1) && (A j).isSome && f j)) := by
      intro b hb j _
      by_cases q : j = i
      · rw [if_pos q, q, decide_eq_false (show ¬ i < i by omega), decide_eq_true (show i < i + 1 by omega), Bool.false_and, Bool.false_and, Bool.or_false, Bool.true_and, hb, Bool.or_comm]
      · rw [if_neg q]
        by_cases q2 : j < i
        · rw [decide_eq_true q2, decide_eq_true (show j < i + 1 by omega)]
        · rw [decide_eq_false q2, decide_eq_false (show ¬ j < i + 1 by omega)]
    have hno : ((A i).isSome && f i) = false → ∃ S', ja_X4_wakeUsers_L31 m 92 ((i + 1 : Nat) : Int) T = some (0, S') ∧ S'.2 = S.2 ∧ (∀ a, a ≠ 97 → a ≠ 100 → S'.1 a = S.1 a) ∧ (∀ g, g ≠ 6 → g ≠ 7 → g ≠ 8 → S'.1 100 g = S.1 100 g) ∧ (S'.1 100 6 = 0 ∧ S'.1 100 7 = 0 ∧ S'.1 100 8 = 0) ∧ cWt S' (fun j => W j || (decide (j < p.2.2.2.2.1.1.length) && (A j).isSome && f j)) := fun hb => ih (i + 1) m T (by omega) (by omega) hT (cWt_e hW (fun j hj => by
      rw [← hstep false hb j hj, Bool.false_or]
      split <;> rfl))
    cases hs : (A i).isSome with
    | false =>
      rw [if_pos (show bi false = 0 from rfl), lt_eq]
      exact hno (by rw [hs]; rfl)
    | true =>
      rw [if_neg (show ¬ bi true = 0 by decide), hU T hT i (by omega) (fun q => by rw [q] at hs; cases hs), bd_some]
      cases hf : f i with
      | false =>
        rw [if_pos (show bi false = 0 from rfl), lt_eq]
        exact hno (by rw [hs, hf]; rfl)
      | true =>
        rw [if_neg (show ¬ bi true = 0 by decide)]
        obtain ⟨T1, t1, t2, t3, t4⟩ := c_wake hW hi
        rw [t1, bd_some, lt_eq]
        refine ih (i + 1) m T1 (by omega) (by omega) (yFr_trans hT ⟨t2, t3⟩) (cWt_e t4 (fun j hj => ?_))
        rw [← hstep true (by rw [hs, hf]; rfl) j hj, Bool.true_or]
end CWU
