/-! The class's arrows, one after the other. -/
def aCh (th : Nat → Int) (n : Nat) (A : jA) (W : Nat → Bool) (A' : jA) (W' : Nat → Bool) : Prop := aLe A A' ∧ (∀ i, W i = true → W' i = true) ∧ (∀ i, A' i ≠ A i → W' i = true) ∧ (∀ i, W' i = true → W i = true ∨ A' i ≠ none) ∧ ((A' = A ∧ W' = W) ∨ aMs th n A' < aMs th n A)
section ACH
variable {F : Int → Prop} {th : Nat → Int} {n : Nat} {A A1 A2 : jA} {W W1 W2 : Nat → Bool} {H lc : Nat → Nat}
theorem aLe_refl (A : jA) : aLe A A := fun _ u h => ⟨u, h, qLe_refl u⟩
theorem aLe_trans {A B D : jA} (h : aLe A B) (k : aLe B D) : aLe A D := fun i u q => by
  obtain ⟨t, t1, t2⟩ := h i u q
  obtain ⟨v, v1, v2⟩ := k i t t1
  exact ⟨v, v1, qLe_trans t2 v2⟩
theorem aCh_rfl : aCh th n A W A W := ⟨aLe_refl A, fun _ h => h, fun _ h => absurd rfl h, fun _ h => Or.inl h, Or.inl ⟨rfl, rfl⟩⟩
theorem aCh_trans (h : aCh th n A W A1 W1) (k : aCh th n A1 W1 A2 W2) : aCh th n A W A2 W2 := by
  obtain ⟨h1, h2, h3, h4, h5⟩ := h
  obtain ⟨k1, k2, k3, k4, k5⟩ := k
  refine ⟨aLe_trans h1 k1, fun i q => k2 i (h2 i q), fun i q => ?_, fun i q => ?_, ?_⟩
  · by_cases e : A2 i = A1 i
    · exact k2 i (h3 i (by rw [← e]; exact q))
    · exact k3 i e
  · rcases k4 i q with r | r
    · rcases h4 i r with s | s
      · exact Or.inl s
      · right
        intro hn
        cases hq : A1 i with
        | none => exact s hq
        | some u =>
          obtain ⟨t, t1, -⟩ := k1 i u hq
          rw [t1] at hn; cases hn
    · exact Or.inr r
  · rcases h5 with ⟨a, b⟩ | a
    · rcases k5 with ⟨c, d⟩ | c
      · exact Or.inl ⟨c.trans a, d.trans b⟩
      · right; rw [a] at c; exact c
    · rcases k5 with ⟨c, d⟩ | c
      · right; rw [c]; exact a
      · right; omega
theorem aLe_arr (A : jA) (j : Nat) (w : jQ) : aLe A (aArr A j w) ∧ ∃ t, aArr A j w j = some t ∧ qLe w t := by
  constructor
  · intro i u q
    by_cases e : i = j
    · rw [e] at q ⊢
      rw [aArr_at, q]
      exact ⟨_, rfl, fun k => (wJn_ub _ _).1⟩
    · rw [aArr_ne e]; exact ⟨u, q, qLe_refl u⟩
  · rw [aArr_at]
    cases A j with
    | none => exact ⟨_, rfl, qLe_refl w⟩
    | some u => exact ⟨_, rfl, fun k => (wJn_ub _ _).2⟩
theorem qRs_wf {l g : Nat} {v : jQ} (h : ∀ k, wOk F (v k)) : (∀ k, wOk F (qRs l g v k)) ∧ ∀ k, ¬ rel l g k → qRs l g v k = wU := by
  refine ⟨fun k => ?_, fun k hk => by unfold qRs; rw [if_neg hk]⟩
  unfold qRs
  split
  · exact h k
  · exact wU_ok
theorem aCh_arr (hF : thN F th n) {j : Nat} (hj : j < 1024) (hB : ∀ i, lc i ≤ 12 ∧ H i ≤ 8) (hA : aWf F H lc A) {w : jQ} (hw : (∀ k, wOk F (w k)) ∧ ∀ k, ¬ rel (lc j) (H j) k → w k = wU) {c : Bool} (hc : c = true ↔ aArr A j w ≠ A) : aCh th n A W (aArr A j w) (fun i => if i = j ∧ c = true then true else W i) ∧ aWf F H lc (aArr A j w) := by
  have r20 : ∀ k, 20 ≤ k → ¬ rel (lc j) (H j) k := fun k hk q => by
    have := hB j
    unfold rel at q
    omega
  have hm := aMs_arr hF hj (A := A) (w := w) (fun u q => ⟨(hA j u q).1, fun k hk => (hA j u q).2 k (r20 k hk)⟩) ⟨hw.1, fun k hk => hw.2 k (r20 k hk)⟩
  refine ⟨⟨(aLe_arr A j w).1, fun i q => ?_, fun i q => ?_, fun i q => ?_, ?_⟩, fun i u q => ?_⟩
  · dsimp only
    split
    · rfl
    · exact q
  · have e : i = j := by
      by_cases e : i = j
      · exact e
      · exact absurd (aArr_ne e) q
    have : c = true := hc.mpr (fun r => q (by rw [r]))
    dsimp only
    rw [if_pos ⟨e, this⟩]
  · dsimp only at q
    split at q
    · rename_i e
      right
      rw [e.1, aArr_at]
      exact fun r => by cases r
    · exact Or.inl q
  · by_cases d : aArr A j w = A
    · left
      refine ⟨d, funext fun i => ?_⟩
      have : ¬ c = true := fun r => hc.mp r d
      rw [if_neg (fun r => this r.2)]
    · exact Or.inr (hm.2 d)
  · by_cases e : i = j
    · rw [e, aArr_at] at q
      rw [e]
      cases q
      cases hq : A j with
      | none => exact hw
      | some u =>
        refine ⟨fun k => wJn_ok ((hA j u hq).1 k) (hw.1 k), fun k hk => ?_⟩
        dsimp only
        rw [(hA j u hq).2 k hk, hw.2 k hk]
        rfl
    · rw [aArr_ne e] at q
      exact hA i u q
end ACH
/-- bodies without a result have none -/
def rsI (bl : List jB) (σ : jG) : Prop := ∀ (b : Nat) (y : jB), bl[b]? = some y → y.rs = -1 → σ.1 (2700 + b) = none
/-- what may change while an instruction is looked at, its errors aside -/
def mFr (S S' : nk_S) : Prop := S'.2 = S.2 ∧ ∀ a, a < 92 ∨ 107 ≤ a → S'.1 a = S.1 a
theorem mFr_rfl {S : nk_S} : mFr S S := ⟨rfl, fun _ _ => rfl⟩
theorem mFr_trans {S1 S2 S3 : nk_S} (h : mFr S1 S2) (k : mFr S2 S3) : mFr S1 S3 := ⟨k.1.trans h.1, fun a q => (k.2 a q).trans (h.2 a q)⟩
theorem mFr_w {S S' : nk_S} (h : wFr S S') : mFr S S' := ⟨h.1, fun a q => h.2.1 a (by omega) (by omega) (by omega)⟩
theorem mFr_e {S S' : nk_S} (h : eFr S S') : mFr S S' := ⟨h.1, fun a q => h.2.1 a (by omega) (by omega) (by omega) (by omega)⟩
theorem mFr_k {S S' : nk_S} (h : kFr S S') : mFr S S' := ⟨h.1, fun a q => h.2.1 a (by omega)⟩
theorem mFr_s {S S' : nk_S} (h : sFr S S') : mFr S S' := ⟨h.1, fun a q => h.2 a (by omega)⟩
theorem mFr_g {S S' : nk_S} (h : gFr S S') : mFr S S' := ⟨h.1, fun a q => h.2.1 a (by omega)⟩
theorem cPv_m {S S' : nk_S} {Q : Nat} {p : jP} {H lc : Nat → Nat} (hQ : Q = 13 ∨ Q = 49) (h : mFr S S') (hv : cPv S Q p H lc) : cPv S' Q p H lc := cPv_c hQ h.1 (fun a ha => h.2 a (by omega)) hv
theorem cFx_m {S S' : nk_S} {us : List Int} {z : jL} (h : mFr S S') (hv : cFx S us z) : cFx S' us z := by
  unfold cFx at hv ⊢
  rw [h.2 109 (by omega), h.2 110 (by omega), h.2 111 (by omega)]
  exact hv
