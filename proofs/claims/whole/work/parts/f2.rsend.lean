/-! The reference sends: the receivers. -/
/-- the receivers before s that mean a body -/
def sdM (W : Nat → Bool) (rn : Nat → Nat) (s b : Nat) : Nat → Bool := fun j => decide (j < s) && (W j && decide (rn j = b))
def sdB (W : Nat → Bool) (rn : Nat → Nat) (s b : Nat) : Bool := exB (fun j => W j && decide (rn j = b)) s
/-- a value without such sites -/
def sdC (o : Option jW) (M : Nat → Bool) : Prop := ∀ v, o = some v → ∃ j, M j = true ∧ v.2.2.1 j = false
def sdX (W : Nat → Bool) (rn : Nat → Nat) (π : Nat → Option jW) (s : Nat) : Prop := ∃ b, sdB W rn s b = true ∧ sdC (π b) (sdM W rn s b)
/-- the receivers before s are looked at -/
def sdJ (P : Nat) (S : nk_S) (W : Nat → Bool) (rn : Nat → Nat) (π : Nat → Option jW) (s : Nat) (T : nk_S) (l6 : Int) (ch : Bool) : Prop :=
  (T.2 = S.2 ∧ (∀ a, a < P + 39 ∨ P + 42 < a → a ≠ 121 → T.1 a = S.1 a) ∧ ∀ f, f ≠ 37 → T.1 121 f = S.1 121 f)
  ∧ (∀ a j, P + 39 ≤ a → a ≤ P + 42 → (∀ b, sdB W rn s b = true → j ≠ pmB b) → T.1 a j = S.1 a j)
  ∧ (∀ b, sdB W rn s b = true → rVo T P (pmB b) (oJ (π b) (some (wS (sdM W rn s b)))))
  ∧ cV l6 (fun b => sdB W rn s b)
  ∧ T.1 121 37 = (if ch = true then 1 else S.1 121 37) ∧ (ch = true ↔ sdX W rn π s)
section RSD
variable {F : Int → Prop} {S T : nk_S} {P : Nat} {W : Nat → Bool} {rn : Nat → Nat} {π : Nat → Option jW}
theorem sdM_s {s b : Nat} : sdM W rn (s + 1) b = if W s = true ∧ rn s = b then sOr (sdM W rn s b) (onS s) else sdM W rn s b := by
  funext j
  unfold sdM
  by_cases c : W s = true ∧ rn s = b
  · rw [if_pos c]
    unfold sOr onS
    by_cases e : j = s
    · rw [e, decide_eq_true (show s < s + 1 by omega), c.1, decide_eq_true c.2, decide_eq_true (rfl : s = s), Bool.or_true]
      rfl
    · rw [decide_eq_false e, Bool.or_false]
      dsimp only
      by_cases q : j < s
      · rw [decide_eq_true q, decide_eq_true (show j < s + 1 by omega)]
      · rw [decide_eq_false q, decide_eq_false (show ¬ j < s + 1 by omega)]
  · rw [if_neg c]
    by_cases e : j = s
    · rw [e, decide_eq_true (show s < s + 1 by omega), decide_eq_false (show ¬ s < s by omega), Bool.false_and, Bool.true_and]
      refine nf_t (fun q => c ?_)
      rw [Bool.and_eq_true] at q
      exact ⟨q.1, of_decide_eq_true q.2⟩
    · by_cases q : j < s
      · rw [decide_eq_true q, decide_eq_true (show j < s + 1 by omega)]
      · rw [decide_eq_false q, decide_eq_false (show ¬ j < s + 1 by omega)]
theorem sdB_s {s b : Nat} : sdB W rn (s + 1) b = (sdB W rn s b || (W s && decide (rn s = b))) := rfl
theorem sdB_e {s b : Nat} : sdB W rn s b = true ↔ ∃ j, sdM W rn s b j = true := by
  unfold sdB sdM
  rw [exB_iff]
  constructor
  · rintro ⟨j, j1, j2⟩
    exact ⟨j, by rw [decide_eq_true j1, j2]; rfl⟩
  · rintro ⟨j, q⟩
    rw [Bool.and_eq_true] at q
    exact ⟨j, of_decide_eq_true q.1, q.2⟩
theorem sdC_i {o : Option jW} {M : Nat → Bool} (h : ∀ v, o = some v → v = wS v.2.2.1) : oJ o (some (wS M)) ≠ o ↔ sdC o M := by
  cases o with
  | none => exact ⟨fun _ v q => (by cases q), fun _ q => by cases q⟩
  | some v =>
    have hv := h v rfl
    have e : oJ (some v) (some (wS M)) = some (wS (sOr v.2.2.1 M)) := by
      show some (wJn v (wS M)) = _
      rw [hv]
      unfold wJn wS
      rw [if_pos ⟨rfl, show (2 : Nat) ≠ 0 by decide⟩]
      dsimp only
      rw [if_pos rfl]
      congr 1
    rw [e]
    constructor
    · intro hn w hw
      cases hw
      refine Classical.byContradiction fun hc => hn ?_
      have : sOr v.2.2.1 M = v.2.2.1 := by
        funext j
        unfold sOr
        cases hj : M j with
        | false => rw [Bool.or_false]
        | true =>
          cases hq : v.2.2.1 j with
          | true => rfl
          | false => exact absurd ⟨j, hj, hq⟩ hc
      rw [this, ← hv]
    · intro hc q
      obtain ⟨j, j1, j2⟩ := hc v rfl
      have q := congrFun (congrArg (fun w : jW => w.2.2.1) (Option.some.inj q)) j
      have q : (v.2.2.1 j || M j) = v.2.2.1 j := q
      rw [j1, j2] at q
      cases q
theorem oJ_S {o : Option jW} {M N : Nat → Bool} (h : ∀ v, o = some v → v = wS v.2.2.1) : oJ (oJ o (some (wS M))) (some (wS N)) = oJ o (some (wS (sOr M N))) := by
  have j : ∀ a c : Nat → Bool, wJn (wS a) (wS c) = wS (sOr a c) := fun a c => by
    unfold wJn wS
    rw [if_pos ⟨rfl, show (2 : Nat) ≠ 0 by decide⟩]
    dsimp only
    rw [if_pos rfl]
    congr 1
  cases o with
  | none => show some (wJn (wS M) (wS N)) = some (wS (sOr M N)); rw [j]
  | some v =>
    have hv := h v rfl
    show some (wJn (wJn v (wS M)) (wS N)) = some (wJn v (wS (sOr M N)))
    rw [hv, j, j, j]
    congr 2
    funext k
    unfold sOr
    rw [Bool.or_assoc]
/-- a site that is no receiver -/
theorem sdJ_0 {s : Nat} {l6 : Int} {ch : Bool} (hw : W s = false) (h : sdJ P S W rn π s T l6 ch) : sdJ P S W rn π (s + 1) T l6 ch := by
  have eM : ∀ b, sdM W rn (s + 1) b = sdM W rn s b := fun b => by rw [sdM_s, if_neg (fun q => by rw [hw] at q; cases q.1)]
  have eB : ∀ b, sdB W rn (s + 1) b = sdB W rn s b := fun b => by rw [sdB_s, hw, Bool.false_and, Bool.or_false]
  obtain ⟨h1, h2, h3, h4, h5, h6⟩ := h
  refine ⟨h1, fun a j a1 a2 q => h2 a j a1 a2 (fun b hb => q b (by rw [eB]; exact hb)), fun b hb => by rw [eM]; exact h3 b (by rw [← eB]; exact hb), cV_e h4 (fun b _ => (eB b).symm), h5, ?_⟩
  rw [h6]
  unfold sdX
  constructor
  · rintro ⟨b, b1, b2⟩
    exact ⟨b, by rw [eB]; exact b1, by rw [eM]; exact b2⟩
  · rintro ⟨b, b1, b2⟩
    exact ⟨b, by rw [← eB]; exact b1, by rw [← eM]; exact b2⟩
/-- a receiver -/
theorem sdJ_1 (hP : P = 122 ∨ P = 168) {s b : Nat} (hs : s < 54) (hb : b < 48) (hw : W s = true) (hr : rn s = b) (hπ : rVo S P (pmB b) (π b)) (hπb : ∀ v, π b = some v → vBr F v ∧ v.1 = 2) {l6 : Int} {ch : Bool} (h : sdJ P S W rn π s T l6 ch) : ∃ T' ch', ja_X13_joinSites 121 P ((pmB b : Nat) : Int) (nk_lshl 1 (s : Int)) T = some (0, T') ∧ sdJ P S W rn π (s + 1) T' (nk_lor l6 (nk_lshl 1 (b : Int))) ch' := by
  obtain ⟨⟨f1, f2, f3⟩, h2, h3, h4, h5, h6⟩ := h
  have hBb : pmB b < 3324 := by unfold pmB; omega
  have hπS : ∀ v, π b = some v → v = wS v.2.2.1 := fun v q => (vBr_2 (hπb v q).1 (hπb v q).2).1
  have eMb : sdM W rn (s + 1) b = sOr (sdM W rn s b) (onS s) := by rw [sdM_s, if_pos ⟨hw, hr⟩]
  have eMo : ∀ c, c ≠ b → sdM W rn (s + 1) c = sdM W rn s c := fun c hc => by rw [sdM_s, if_neg (fun q => hc (by rw [← q.2, hr]))]
  have eBb : sdB W rn (s + 1) b = true := by rw [sdB_s, hw, decide_eq_true hr]; exact Bool.or_true _
  have eBo : ∀ c, c ≠ b → sdB W rn (s + 1) c = sdB W rn s c := fun c hc => by rw [sdB_s, decide_eq_false (fun q => hc (by rw [← q, hr])), Bool.and_false, Bool.or_false]
  have sM : ∀ c j, sdM W rn s c j = true → j < 54 := fun c j q => by
    unfold sdM at q
    rw [Bool.and_eq_true] at q
    have := of_decide_eq_true q.1
    omega
  -- what stands there
  obtain ⟨o, ho, hoV, hob, hon⟩ : ∃ o, rVo T P (pmB b) o ∧ (∀ v, o = some v → vBr F v ∧ v.1 = 2) ∧ oJ o (some (wS (onS s))) = oJ (π b) (some (wS (sdM W rn (s + 1) b))) ∧ (oJ o (some (wS (onS s))) ≠ o → sdC (π b) (sdM W rn (s + 1) b)) ∧ True ∧ (sdC (π b) (sdM W rn (s + 1) b) → oJ o (some (wS (onS s))) ≠ o ∨ (sdB W rn s b = true ∧ sdC (π b) (sdM W rn s b))) := by
    cases hB : sdB W rn s b with
    | false =>
      have e0 : sdM W rn s b = noS := by
        funext j
        refine nf_t (fun q => ?_)
        rw [sdB_e.mpr ⟨j, q⟩] at hB
        cases hB
      have e1 : sdM W rn (s + 1) b = onS s := by
        rw [eMb, e0]
        funext j
        show (false || _) = _
        rw [Bool.false_or]
      refine ⟨π b, rVo_c (fun a a1 a2 => h2 a _ a1 a2 (fun c hc q => ?_)) hπ, hπb, by rw [e1], fun q => by rw [e1]; exact (sdC_i hπS).mp q, trivial, fun q => Or.inl (by rw [e1] at q; exact (sdC_i hπS).mpr q)⟩
      have : c = b := by unfold pmB at q; omega
      rw [this, hB] at hc
      cases hc
    | true =>
      have hv := h3 b hB
      have hjS : oJ (oJ (π b) (some (wS (sdM W rn s b)))) (some (wS (onS s))) = oJ (π b) (some (wS (sdM W rn (s + 1) b))) := by rw [oJ_S hπS, ← eMb]
      have hne : ∃ j, sdM W rn s b j = true := sdB_e.mp hB
      have hbM : vBr F (wS (sdM W rn s b)) := ⟨⟨fun k hk => (by cases hk), fun j hj => (by cases hj), Or.inr (Or.inr ⟨rfl, rfl, hne, fun j hj => Or.inl (sM b j hj)⟩)⟩, rfl, rfl, by show (2 : Nat) ≠ 0; decide⟩
      have hov : ∀ v, oJ (π b) (some (wS (sdM W rn s b))) = some v → vBr F v ∧ v.1 = 2 := fun v q => by
        cases hq : π b with
        | none => rw [hq] at q; cases q; exact ⟨hbM, rfl⟩
        | some v0 =>
          rw [hq] at q
          cases q
          obtain ⟨v1, v2⟩ := hπb v0 hq
          have := wJn_b v1 hbM v2
          exact ⟨this.2.1, this.2.2⟩
      have hovS : ∀ v, oJ (π b) (some (wS (sdM W rn s b))) = some v → v = wS v.2.2.1 := fun v q => (vBr_2 (hov v q).1 (hov v q).2).1
      refine ⟨_, hv, hov, hjS, fun q => ?_, trivial, fun q => ?_⟩
      · rw [hjS] at q
        refine Classical.byContradiction fun hc => q ?_
        have e1 : oJ (π b) (some (wS (sdM W rn (s + 1) b))) = π b := Classical.byContradiction fun w => hc ((sdC_i hπS).mp w)
        have e2 : oJ (π b) (some (wS (sdM W rn s b))) = π b := Classical.byContradiction fun w => hc (fun v hvv => by
          obtain ⟨j, j1, j2⟩ := (sdC_i hπS).mp w v hvv
          exact ⟨j, by rw [eMb]; unfold sOr; rw [j1]; rfl, j2⟩)
        rw [e1, e2]
      · by_cases w : sdC (π b) (sdM W rn s b)
        · exact Or.inr ⟨rfl, w⟩
        · left
          have e2 : oJ (π b) (some (wS (sdM W rn s b))) = π b := Classical.byContradiction fun w' => w ((sdC_i hπS).mp w')
          rw [hjS, e2]
          exact (sdC_i hπS).mpr q
  obtain ⟨hon1, -, hon2⟩ := hon
  obtain ⟨T', c, g1, g2, g3, g4, g5⟩ := r_jSites (S := T) hP hBb ho (cV_one (n := s) (by omega)) (fun j hj => by have := of_decide_eq_true hj; omega) (fun v q => vBr_2 (hoV v q).1 (hoV v q).2)
  rw [hob] at g3
  refine ⟨T', (ch || c), g1, ⟨by rw [g2.1, f1], fun a a1 a2 => by rw [g2.2.1 a a1 a2, f2 a a1 a2], fun f hf => by rw [g2.2.2.1 f hf, f3 f hf]⟩, fun a j a1 a2 q => ?_, fun d hd => ?_, cV_e (cV_or h4 (cV_one (by omega))) (fun d _ => ?_), ?_, ?_⟩
  · rw [g2.2.2.2 a j (q b eBb) (by omega)]
    refine h2 a j a1 a2 (fun d hd => ?_)
    by_cases e : d = b
    · rw [e]; exact q b eBb
    · exact q d (by rw [eBo d e]; exact hd)
  · by_cases e : d = b
    · rw [e]; exact g3
    · rw [eMo d e]
      rw [eBo d e] at hd
      exact rVo_c (fun a a1 a2 => g2.2.2.2 a _ (by unfold pmB; omega) (by omega)) (h3 d hd)
  · show (sdB W rn s d || decide (d = b)) = _
    by_cases e : d = b
    · rw [e, eBb, decide_eq_true rfl, Bool.or_true]
    · rw [eBo d e, decide_eq_false e, Bool.or_false]
  · rw [g4, h5]
    cases ch <;> cases c <;> rfl
  · rw [Bool.or_eq_true, h6, g5]
    unfold sdX
    constructor
    · rintro (⟨d, d1, d2⟩ | q)
      · by_cases e : d = b
        · rw [e] at d1 d2
          exact ⟨b, eBb, fun v hv => by
            obtain ⟨j, j1, j2⟩ := d2 v hv
            exact ⟨j, by rw [eMb]; unfold sOr; rw [j1]; rfl, j2⟩⟩
        · exact ⟨d, by rw [eBo d e]; exact d1, by rw [eMo d e]; exact d2⟩
      · exact ⟨b, eBb, hon1 q⟩
    · rintro ⟨d, d1, d2⟩
      by_cases e : d = b
      · rw [e] at d2
        rcases hon2 d2 with q | ⟨q1, q2⟩
        · exact Or.inr q
        · exact Or.inl ⟨b, q1, q2⟩
      · rw [eBo d e] at d1
        rw [eMo d e] at d2
        exact Or.inl ⟨d, d1, d2⟩
end RSD
