/-! The proof: rows of the right form. -/
/-- a row of the right form and of these types -/
def vOk (F : Int → Prop) (us : List Int) (z : jL) (lc : Nat) (t : Nat → Int) (v : jQ) : Prop := (∀ k, wOk F (v k)) ∧ qCp lc v ∧ qTy us z t v ∧ ∀ k j, (v k).1 = 2 → (v k).2.2.2.2 j = true → 36 ≤ j
/-- a slot that can be put into it -/
def uOk1 (F : Int → Prop) (us : List Int) (z : jL) (t : Int) (w : jW) : Prop := wOk F w ∧ wTy us z t w ∧ ∀ j, w.1 = 2 → w.2.2.2.2 j = true → 36 ≤ j
section PRO
variable {F : Int → Prop} {us : List Int} {z : jL} {lc : Nat} {dn up : Int → Int}
theorem vOk_1 {t : Nat → Int} {v : jQ} (h : vOk F us z lc t v) (k : Nat) : uOk1 F us z (t k) (v k) := ⟨h.1 k, h.2.2.1 k, fun j => h.2.2.2 k j⟩
theorem vOk_up {t : Nat → Int} {v : jQ} (h : vOk F us z lc t v) {k : Nat} {s : Int} {w : jW} (hw : uOk1 F us z s w) (hc : w.2.2.2.1 = none ∨ (12 ≤ k ∧ ∃ c, w.2.2.2.1 = some c ∧ c < lc ∧ lc ≤ 12 ∧ (v c).1 = w.1 ∧ w.1 ≠ 0)) (hk : 12 ≤ k ∨ (v k).1 = w.1 ∨ ∀ s, (v s).2.2.2.1 ≠ some k) : vOk F us z lc (tUp t k s) (qUp v k w) := by
  obtain ⟨h1, h2, h3, h4⟩ := h
  refine ⟨fun j => ?_, fun s' c hsc => ?_, fun j => ?_, fun j i => ?_⟩
  · by_cases e : j = k
    · rw [e, qUp_at]; exact hw.1
    · rw [qUp_ne e]; exact h1 j
  · by_cases e : s' = k
    · rw [e, qUp_at] at hsc ⊢
      rcases hc with q | ⟨q1, c', q2, q3, q4, q5, q6⟩
      · rw [q] at hsc; cases hsc
      · rw [q2] at hsc
        cases hsc
        rw [qUp_ne (by omega)]
        exact ⟨q3, q4, q5, q6, q1⟩
    · rw [qUp_ne e] at hsc ⊢
      obtain ⟨a1, a2, a3, a4, a5⟩ := h2 s' c hsc
      refine ⟨a1, a2, ?_, a4, a5⟩
      by_cases e2 : c = k
      · subst e2
        rw [qUp_at]
        rcases hk with q | q | q
        · omega
        · omega
        · exact absurd hsc (q s')
      · rw [qUp_ne e2]; exact a3
  · unfold tUp
    by_cases e : j = k
    · rw [if_pos e, e, qUp_at]; exact hw.2.1
    · rw [if_neg e, qUp_ne e]; exact h3 j
  · by_cases e : j = k
    · rw [e, qUp_at]; exact hw.2.2 i
    · rw [qUp_ne e]; exact h4 j i
theorem tUp_id {t : Nat → Int} {k : Nat} : tUp t k (t k) = t := by
  funext i
  unfold tUp
  by_cases e : i = k
  · rw [if_pos e, e]
  · rw [if_neg e]
/-- numbers -/
theorem u1_R {r : jR} (hr : rOk F r) {f : Nat → Bool} (hf : ∀ j, f j = true → j < 48) : uOk1 F us z 1 (wFc (wR r) f) := ⟨⟨(fun k h => by cases h), hf, Or.inr (Or.inl ⟨rfl, hr, rfl⟩)⟩, ⟨fun _ => rfl, fun h => by omega⟩, fun j h => by cases h⟩
theorem u1_R0 {r : jR} (hr : rOk F r) : uOk1 F us z 1 (wR r) := u1_R (f := noS) hr (fun j h => by cases h)
/-- sites -/
theorem u1_S {s : Nat → Bool} {t : Int} (hn : ∃ j, s j = true) (hs : ∀ j, s j = true → j = 62 ∨ pB us z t j = true) (hv : ∀ j, sVd z j = true → j < 54) (ht : t ≠ 1) {f : Nat → Bool} (hf : ∀ j, f j = true → 36 ≤ j ∧ j < 48) : uOk1 F us z t (wFc (wS s) f) := by
  refine ⟨⟨(fun k h => by cases h), (fun j h => (hf j h).2), Or.inr (Or.inr ⟨rfl, rfl, hn, fun j hj => ?_⟩)⟩, ⟨fun h => absurd h ht, fun _ => ⟨rfl, hs⟩⟩, fun j _ h => (hf j h).1⟩
  rcases hs j hj with q | q
  · exact Or.inr q
  · left
    unfold pB at q
    rw [Bool.and_eq_true] at q
    exact hv j q.1
theorem u1_S0 {s : Nat → Bool} {t : Int} (hn : ∃ j, s j = true) (hs : ∀ j, s j = true → j = 62 ∨ pB us z t j = true) (hv : ∀ j, sVd z j = true → j < 54) (ht : t ≠ 1) : uOk1 F us z t (wS s) := u1_S (f := noS) hn hs hv ht (fun j h => by cases h)
theorem onS_at (k : Nat) : onS k k = true := decide_eq_true rfl
theorem onS_eq {k j : Nat} (h : onS k j = true) : j = k := of_decide_eq_true h
theorem sV_54 (hz : z.2.1.length ≤ 48) : ∀ j, sVd z j = true → j < 54 := by
  intro j h
  unfold sVd at h
  rw [Bool.or_eq_true, Bool.and_eq_true] at h
  rcases h with q | q
  · have := of_decide_eq_true q; omega
  · exact of_decide_eq_true q.2
/-- fewer sites -/
theorem u1_sub {t : Int} {w : jW} (h : uOk1 F us z t w) (h2 : w.1 = 2) {s : Nat → Bool} (hs : sLe s w.2.2.1) (hn : ∃ j, s j = true) : uOk1 F us z t (wSt w s) := by
  obtain ⟨⟨a1, a2, a3⟩, ⟨b1, b2⟩, c⟩ := h
  obtain ⟨q1, q2, q3⟩ := wOk_2 ⟨a1, a2, a3⟩ h2
  exact ⟨⟨a1, a2, Or.inr (Or.inr ⟨h2, q1, hn, fun j hj => q3 j (hs j hj)⟩)⟩, ⟨b1, fun ht => ⟨h2, fun j hj => (b2 ht).2 j (hs j hj)⟩⟩, c⟩
/-- another range -/
theorem u1_rg {t : Int} {w : jW} (h : uOk1 F us z t w) (h1 : w.1 = 1) {r : jR} (hr : rOk F r) {f : Nat → Bool} (hf : ∀ j, f j = true → j < 48) : uOk1 F us z t (wFc (wRg w r) f) := by
  obtain ⟨⟨a1, a2, a3⟩, ⟨b1, b2⟩, c⟩ := h
  obtain ⟨q1, q2⟩ := wOk_1 ⟨a1, a2, a3⟩ h1
  exact ⟨⟨a1, hf, Or.inr (Or.inl ⟨h1, hr, q2⟩)⟩, ⟨b1, fun ht => absurd (b2 ht).1 (by omega)⟩, fun j hj => absurd hj (by show ¬ w.1 = 2; omega)⟩
theorem vOk_sl {t : Nat → Int} {v : jQ} (h : vOk F us z lc t v) {k : Nat} {w : jW} (hw : uOk1 F us z (t k) w) (hk : w.1 = (v k).1 ∧ w.2.2.2.1 = (v k).2.2.2.1) : vOk F us z lc t (qUp v k w) := by
  have := vOk_up h (k := k) (s := t k) hw (by
    cases hc : (v k).2.2.2.1 with
    | none => left; rw [hk.2, hc]
    | some c =>
      obtain ⟨a1, a2, a3, a4, a5⟩ := h.2.1 k c hc
      right
      exact ⟨a5, c, by rw [hk.2, hc], a1, a2, by rw [a3, hk.1], by rw [hk.1]; exact a4⟩) (Or.inr (Or.inl hk.1.symm))
  rw [tUp_id] at this
  exact this
theorem qKp_ok {t : Nat → Int} {v v' : jQ} (h : vOk F us z lc t v) {s : Nat} (hs : (v s).1 = 2) {K : Nat → Bool} (hv : qKp v s K = some v') : vOk F us z lc t v' := by
  unfold qKp at hv
  split at hv
  · cases hv; exact h
  · rename_i k hk
    obtain ⟨a1, a2, a3, a4, a5⟩ := h.2.1 s k hk
    split at hv
    · rename_i hx
      cases hv
      obtain ⟨j, -, hj⟩ := sEx_iff.mp hx
      exact vOk_sl h (u1_sub (vOk_1 h k) (by omega) (sAnd_l _ _) ⟨j, hj⟩) ⟨rfl, rfl⟩
    · cases hv
theorem qNr_ok {t : Nat → Int} {v v' : jQ} (h : vOk F us z lc t v) {s : Nat} (hs : (v s).1 = 1) {r : jR} (hr : rOk F r) {f : Nat → Bool} (hf : ∀ j, f j = true → j < 48) (hv : qNr v s r f = some v') : vOk F us z lc t v' := by
  unfold qNr at hv
  split at hv
  · cases hv; exact h
  · rename_i k hk
    obtain ⟨a1, a2, a3, a4, a5⟩ := h.2.1 s k hk
    split at hv
    · cases hv
    · rename_i q hq
      cases hv
      have h1 := (wOk_1 (h.1 k) (by omega)).1
      refine vOk_sl h (u1_rg (vOk_1 h k) (by omega) (kCom_ok h1 hr hq).1 (fun j hj => ?_)) ⟨rfl, rfl⟩
      have hj : ((v k).2.2.2.2 j || f j) = true := hj
      rw [Bool.or_eq_true] at hj
      exact hj.elim ((h.1 k).2.1 j) (hf j)
theorem pDr_ok {t : Nat → Int} {v v' : jQ} (h : vOk F us z lc t v) {s : Nat} (hs : (v s).1 = 2) (hv : pDr v s = some v') : vOk F us z lc t v' := by
  unfold pDr at hv
  split at hv
  · exact qKp_ok h hs hv
  · cases hv
theorem oOn_b {o : Option Nat} {b n : Nat} (h : ∀ k, o = some k → k < 12) (hb : b + 12 ≤ n) : ∀ j, oOn o b j = true → j < n ∧ b ≤ j := by
  intro j hj
  cases o with
  | none => cases hj
  | some k =>
    have := onS_eq hj
    have := h k rfl
    omega
theorem pIx_ok (hT : thG F dn up) {σ : jG} {t : Nat → Int} {v v' : jQ} (h : vOk F us z lc t v) {r x : Nat} (hx : (v x).1 = 1) (hv : pIx dn up σ v r x = some v') : vOk F us z lc t v' := by
  unfold pIx at hv
  split at hv
  · cases hv
  · split at hv
    · cases hv
    · rename_i q hq
      exact qNr_ok h hx (kCut_mono hT (rle_refl _) (Int.le_refl _) (Int.le_refl _) hq).1 (fun j hj => (oOn_b (n := 48) (h.1 r).1 (by decide) j hj).1) hv
theorem pIx_at {σ : jG} {v v' : jQ} (hc : qCp lc v) {r x : Nat} (hv : pIx dn up σ v r x = some v') : (∀ k, 12 ≤ k → v' k = v k) := by
  unfold pIx at hv
  split at hv
  · cases hv
  · split at hv
    · cases hv
    · exact (qNr_at hc hv).1
end PRO
