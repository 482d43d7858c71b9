/-! The proof: comparisons, errors, catches and bodies: more comes from more. -/
section PWY
variable {F : Int → Prop} {dn up : Int → Int}
theorem qNr_at {lc : Nat} {u v : jQ} {s : Nat} {r : jR} {f : Nat → Bool} (hc : qCp lc u) (hv : qNr u s r f = some v) : (∀ k, 12 ≤ k → v k = u k) ∧ (∀ k, (v k).1 = (u k).1 ∧ (v k).2.2.2.1 = (u k).2.2.2.1 ∧ (v k).2.2.1 = (u k).2.2.1) := by
  unfold qNr at hv
  split at hv
  · cases hv; exact ⟨fun _ _ => rfl, fun _ => ⟨rfl, rfl, rfl⟩⟩
  · rename_i k hk
    obtain ⟨c1, c2, -⟩ := hc s k hk
    split at hv
    · cases hv
    · cases hv
      refine ⟨fun j hj => qUp_ne (by omega), fun j => ?_⟩
      by_cases e : j = k
      · subst e
        rw [qUp_at]
        exact ⟨rfl, rfl, rfl⟩
      · rw [qUp_ne e]; exact ⟨rfl, rfl, rfl⟩
theorem qNr_cp {lc : Nat} {u v : jQ} {s : Nat} {r : jR} {f : Nat → Bool} (hc : qCp lc u) (hv : qNr u s r f = some v) : qCp lc v := qCp_same hc (fun k => ((qNr_at hc hv).2 k).1) (fun k => ((qNr_at hc hv).2 k).2.1)
theorem qPs_mono {lc : Nat} {u u' v : jQ} (h : qLe u u') (hc : qCp lc u') {s : Nat} (hs : (u' s).1 ≠ 0) (hv : qPs u s = some v) : ∃ v', qPs u' s = some v' ∧ qLe v v' := by
  obtain ⟨d1, d2, d3, d4, d5⟩ := wle_d (h s) hs
  exact qNr_mono h hc hs d2 (iS_mono d5) hv
/-- two slots are changed, kinds and copies stay -/
theorem up2_k {u : jQ} {a c : Nat} {v w : jW} (hv : v.1 = (u a).1 ∧ v.2.2.2.1 = (u a).2.2.2.1) (hw : w.1 = (u c).1 ∧ w.2.2.2.1 = (u c).2.2.2.1) : (∀ k, (qUp (qUp u a v) c w k).1 = (u k).1) ∧ ∀ k, (qUp (qUp u a v) c w k).2.2.2.1 = (u k).2.2.2.1 := by
  constructor
  · intro k
    unfold qUp
    by_cases e : k = c
    · rw [if_pos e, e]; exact hw.1
    · rw [if_neg e]
      by_cases e2 : k = a
      · rw [if_pos e2, e2]; exact hv.1
      · rw [if_neg e2]
  · intro k
    unfold qUp
    by_cases e : k = c
    · rw [if_pos e, e]; exact hw.2
    · rw [if_neg e]
      by_cases e2 : k = a
      · rw [if_pos e2, e2]; exact hv.2
      · rw [if_neg e2]
theorem wRg_le {a c : jW} {r s : jR} (h : wle a c) (k : rle r s) : wle (wRg a r) (wRg c s) := by
  rcases h with h | ⟨h1, h2, h3, h4, h5⟩
  · exact Or.inl h
  · exact Or.inr ⟨h1, k, h3, h4, h5⟩
theorem wFc_le {a c : jW} {f g : Nat → Bool} (h : wle a c) (k : sLe g f) : wle (wFc a f) (wFc c g) := by
  rcases h with h | ⟨h1, h2, h3, h4, h5⟩
  · exact Or.inl h
  · exact Or.inr ⟨h1, h2, h3, h4, k⟩
theorem pOrd_k {u v : jQ} {a c : Nat} {ls : Bool} (hv : pOrd dn up u a c ls = some v) : (∀ k, (v k).1 = (u k).1) ∧ ∀ k, (v k).2.2.2.1 = (u k).2.2.2.1 := by
  unfold pOrd at hv
  split at hv
  · cases hv; exact up2_k ⟨rfl, rfl⟩ ⟨rfl, rfl⟩
  · cases hv
theorem pOrd_mono (hT : thG F dn up) {u u' v : jQ} (h : qLe u u') {a c : Nat} (ha : (u' a).1 ≠ 0) (hc : (u' c).1 ≠ 0) {ls : Bool} (hv : pOrd dn up u a c ls = some v) : ∃ v', pOrd dn up u' a c ls = some v' ∧ qLe v v' := by
  obtain ⟨d1, d2, d3, d4, d5⟩ := wle_d (h a) ha
  obtain ⟨e1, e2, e3, e4, e5⟩ := wle_d (h c) hc
  unfold pOrd at hv ⊢
  cases h1 : kCut dn up (u a).2.1 (-2147483648) ((u c).2.1.2 - (if ls = true then 1 else 0)) with
  | none => rw [h1] at hv; cases hv
  | some l =>
    cases h2 : kCut dn up (u c).2.1 ((u a).2.1.1 + (if ls = true then 1 else 0)) 2147483647 with
    | none => rw [h1, h2] at hv; cases hv
    | some r =>
      rw [h1, h2] at hv
      obtain ⟨-, l', w1, w2⟩ := kCut_mono hT d2 (Int.le_refl (-2147483648)) (show (u c).2.1.2 - (if ls = true then 1 else 0) ≤ (u' c).2.1.2 - (if ls = true then 1 else 0) by have := e2.2; omega) h1
      obtain ⟨-, r', w3, w4⟩ := kCut_mono hT e2 (show (u' a).2.1.1 + (if ls = true then 1 else 0) ≤ (u a).2.1.1 + (if ls = true then 1 else 0) by have := d2.1; omega) (Int.le_refl 2147483647) h2
      rw [w1, w3]
      cases hv
      refine ⟨_, rfl, qLe_up (qLe_up h (wFc_le (wRg_le (h a) w2) (fun j hj => ?_))) (wRg_le (h c) w4)⟩
      rw [Bool.or_eq_true, Bool.or_eq_true, Bool.or_eq_true] at hj ⊢
      rcases hj with ((q | q) | q) | q
      · exact Or.inl (Or.inl (Or.inl (d5 j q)))
      · rw [Bool.and_eq_true] at q
        refine Or.inl (Or.inl (Or.inr ?_))
        rw [Bool.and_eq_true]
        exact ⟨q.1, e5 j q.2⟩
      · rw [Bool.and_eq_true] at q
        refine Or.inl (Or.inr ?_)
        rw [Bool.and_eq_true]
        exact ⟨q.1, e5 _ q.2⟩
      · rw [Bool.and_eq_true] at q
        refine Or.inr ?_
        rw [Bool.and_eq_true]
        exact ⟨q.1, oOn_le e4 0 j q.2⟩
theorem pEq_k {u v : jQ} {a c : Nat} (hv : pEq u a c = some v) : (∀ k, (v k).1 = (u k).1) ∧ ∀ k, (v k).2.2.2.1 = (u k).2.2.2.1 := by
  unfold pEq at hv
  split at hv
  · cases hv; exact up2_k ⟨rfl, rfl⟩ ⟨rfl, rfl⟩
  · cases hv
theorem pEq_mono {u u' v : jQ} (h : qLe u u') {a c : Nat} (ha : (u' a).1 ≠ 0) (hc : (u' c).1 ≠ 0) (hv : pEq u a c = some v) : ∃ v', pEq u' a c = some v' ∧ qLe v v' := by
  obtain ⟨d1, d2, d3, d4, d5⟩ := wle_d (h a) ha
  obtain ⟨e1, e2, e3, e4, e5⟩ := wle_d (h c) hc
  unfold pEq at hv ⊢
  cases h1 : kCom (u a).2.1 (u c).2.1 with
  | none => rw [h1] at hv; cases hv
  | some r =>
    rw [h1] at hv
    obtain ⟨r', w1, w2⟩ := kCom_mono d2 e2 h1
    rw [w1]
    cases hv
    have hm := iS_mono (sOr_mono d5 e5)
    exact ⟨_, rfl, qLe_up (qLe_up h (wFc_le (wRg_le (h a) w2) (sOr_mono d5 hm))) (wFc_le (wRg_le (h c) w2) (sOr_mono e5 hm))⟩
theorem pNe_k {u v : jQ} {a c : Nat} (hv : pNe dn up u a c = some v) : (∀ k, (v k).1 = (u k).1) ∧ ∀ k, (v k).2.2.2.1 = (u k).2.2.2.1 := by
  unfold pNe at hv
  split at hv
  · cases hv; exact up2_k ⟨rfl, rfl⟩ ⟨rfl, rfl⟩
  · cases hv
theorem pNe_mono (hT : thG F dn up) {u u' v : jQ} (h : qLe u u') {a c : Nat} (ha : (u' a).1 ≠ 0) (hc : (u' c).1 ≠ 0) (oa : rOk F (u a).2.1) (oc : rOk F (u c).2.1) (hv : pNe dn up u a c = some v) : ∃ v', pNe dn up u' a c = some v' ∧ qLe v v' := by
  obtain ⟨d1, d2, d3, d4, d5⟩ := wle_d (h a) ha
  obtain ⟨e1, e2, e3, e4, e5⟩ := wle_d (h c) hc
  unfold pNe at hv ⊢
  cases h1 : kWo dn up (u a).2.1 (u c).2.1 with
  | none => rw [h1] at hv; cases hv
  | some l =>
    cases h2 : kWo dn up (u c).2.1 (u a).2.1 with
    | none => rw [h1, h2] at hv; cases hv
    | some r =>
      rw [h1, h2] at hv
      obtain ⟨l', w1, w2⟩ := kWo_mono hT oa oc.2.2 d2 e2 h1
      obtain ⟨r', w3, w4⟩ := kWo_mono hT oc oa.2.2 e2 d2 h2
      rw [w1, w3]
      cases hv
      exact ⟨_, rfl, qLe_up (qLe_up h (wRg_le (h a) w2)) (wRg_le (h c) w4)⟩
theorem ctr_b {o : Nat} (h : 20 ≤ o ∧ o ≤ 29) : 20 ≤ ctr o ∧ ctr o ≤ 29 := by
  unfold ctr
  by_cases c : 22 ≤ o ∧ o ≤ 25
  · rw [if_pos c]; omega
  · rw [if_neg c]
    by_cases d : o % 2 = 0
    · rw [if_pos d]; omega
    · rw [if_neg d]; omega
/-- the kinds that a comparison wants -/
def pKw (rl h : Nat) (u : jQ) : Prop := (rl ≤ 25 → (u (12 + h - 1)).1 = 1 ∧ (u (12 + h - 2)).1 = 1) ∧ (rl = 26 ∨ rl = 27 → (u (12 + h - 1)).1 = 2) ∧ (rl = 28 ∨ rl = 29 → (u (12 + h - 1)).1 = 2 ∧ (u (12 + h - 2)).1 = 2)
theorem pWy_mono (hT : thG F dn up) {lc : Nat} {rl h : Nat} {u u' v : jQ} (hu : qLe u u') (hc : qCp lc u') (hc0 : qCp lc u) (hw : ∀ k, wOk F (u k)) (hd : pKw rl h u') (hrl : 20 ≤ rl ∧ rl ≤ 29) (hv : pWy dn up rl u h = some v) : ∃ v', pWy dn up rl u' h = some v' ∧ qLe v v' := by
  obtain ⟨k1, k2, k3⟩ := hd
  unfold pWy at hv ⊢
  by_cases c25 : rl ≤ 25
  · rw [if_pos c25] at hv ⊢
    obtain ⟨q1, q2⟩ := k1 c25
    have n1 : (u' (12 + h - 1)).1 ≠ 0 := by omega
    have n2 : (u' (12 + h - 2)).1 ≠ 0 := by omega
    have o1 : rOk F (u (12 + h - 1)).2.1 := (wOk_1 (hw _) (by have := (wle_d (hu (12 + h - 1)) n1).1; omega)).1
    have o2 : rOk F (u (12 + h - 2)).2.1 := (wOk_1 (hw _) (by have := (wle_d (hu (12 + h - 2)) n2).1; omega)).1
    obtain ⟨a, a1, a2⟩ := oB_some hv
    obtain ⟨b, b1, b2⟩ := oB_some a2
    obtain ⟨a', w1, w2, w3, w4⟩ : ∃ a', (if rl = 20 then pEq u' (12 + h - 2) (12 + h - 1) else if rl = 21 then pNe dn up u' (12 + h - 2) (12 + h - 1) else if rl = 22 then pOrd dn up u' (12 + h - 2) (12 + h - 1) true else if rl = 23 then pOrd dn up u' (12 + h - 2) (12 + h - 1) false else if rl = 24 then pOrd dn up u' (12 + h - 1) (12 + h - 2) true else pOrd dn up u' (12 + h - 1) (12 + h - 2) false) = some a' ∧ qLe a a' ∧ (∀ k, (a' k).1 = (u' k).1) ∧ ∀ k, (a' k).2.2.2.1 = (u' k).2.2.2.1 := by
      by_cases d1 : rl = 20
      · rw [if_pos d1] at a1 ⊢
        obtain ⟨a', y1, y2⟩ := pEq_mono hu n2 n1 a1
        exact ⟨a', y1, y2, pEq_k y1⟩
      rw [if_neg d1] at a1 ⊢
      by_cases d2 : rl = 21
      · rw [if_pos d2] at a1 ⊢
        obtain ⟨a', y1, y2⟩ := pNe_mono hT hu n2 n1 o2 o1 a1
        exact ⟨a', y1, y2, pNe_k y1⟩
      rw [if_neg d2] at a1 ⊢
      by_cases d3 : rl = 22
      · rw [if_pos d3] at a1 ⊢
        obtain ⟨a', y1, y2⟩ := pOrd_mono hT hu n2 n1 a1
        exact ⟨a', y1, y2, pOrd_k y1⟩
      rw [if_neg d3] at a1 ⊢
      by_cases d4 : rl = 23
      · rw [if_pos d4] at a1 ⊢
        obtain ⟨a', y1, y2⟩ := pOrd_mono hT hu n2 n1 a1
        exact ⟨a', y1, y2, pOrd_k y1⟩
      rw [if_neg d4] at a1 ⊢
      by_cases d5 : rl = 24
      · rw [if_pos d5] at a1 ⊢
        obtain ⟨a', y1, y2⟩ := pOrd_mono hT hu n1 n2 a1
        exact ⟨a', y1, y2, pOrd_k y1⟩
      rw [if_neg d5] at a1 ⊢
      obtain ⟨a', y1, y2⟩ := pOrd_mono hT hu n1 n2 a1
      exact ⟨a', y1, y2, pOrd_k y1⟩
    rw [w1, oB]
    have hca : qCp lc a' := qCp_same hc w3 w4
    obtain ⟨b', y1, y2⟩ := qPs_mono w2 hca (s := 12 + h - 2) (by rw [w3]; exact n2) b1
    rw [y1, oB]
    have hcb : qCp lc b' := qNr_cp hca y1
    exact qPs_mono y2 hcb (s := 12 + h - 1) (by rw [((qNr_at hca y1).2 _).1, w3]; exact n1) b2
  rw [if_neg c25] at hv ⊢
  by_cases c26 : rl = 26 ∨ rl = 27
  · rw [if_pos c26] at hv ⊢
    have n1 : (u' (12 + h - 1)).1 ≠ 0 := by have := k2 c26; omega
    obtain ⟨d1, d2, d3, d4, d5⟩ := wle_d (hu (12 + h - 1)) n1
    generalize (if rl = 26 then onS 62 else sAl) = K at *
    by_cases hx : sEx (sAnd (u (12 + h - 1)).2.2.1 K) = true
    · rw [if_pos hx] at hv
      rw [if_pos (sEx_mono (sAnd_mono d3 (sLe_refl _)) hx)]
      exact qKp_mono hu hc n1 (sLe_refl _) hv
    · rw [if_neg hx] at hv; cases hv
  rw [if_neg c26] at hv ⊢
  by_cases c28 : rl = 28
  · rw [if_pos c28] at hv ⊢
    obtain ⟨q1, q2⟩ := k3 (Or.inl c28)
    have n1 : (u' (12 + h - 1)).1 ≠ 0 := by omega
    have n2 : (u' (12 + h - 2)).1 ≠ 0 := by omega
    obtain ⟨d1, d2, d3, d4, d5⟩ := wle_d (hu (12 + h - 1)) n1
    obtain ⟨e1, e2, e3, e4, e5⟩ := wle_d (hu (12 + h - 2)) n2
    have hm := sAnd_mono e3 d3
    split at hv
    · rename_i hx
      rw [if_pos (sEx_mono hm hx)]
      obtain ⟨a, a1, a2⟩ := oB_some hv
      obtain ⟨a', w1, w2⟩ := qKp_mono hu hc n2 hm a1
      rw [w1, oB]
      obtain ⟨p1, p2⟩ := qKp_at hc w1
      exact qKp_mono w2 (qCp_same hc (fun k => (p2 k).1) (fun k => by rw [(p2 k).2.1])) (by rw [(p2 _).1]; exact n1) hm a2
    · cases hv
  rw [if_neg c28] at hv ⊢
  cases hv
  exact ⟨_, rfl, hu⟩
theorem pKd_w {bl : List jB} {x : jC} {h : Nat} {u : jQ} (hd : pKd bl x h u) (hx : 20 ≤ x.1 ∧ x.1 ≤ 29) : pKw x.1 h u ∧ pKw (ctr x.1) h u := by
  obtain ⟨k2, k4, kb, ki, kr, krr, -⟩ := hd
  have g : ∀ rl, (rl ≤ 25 ∧ x.1 ≤ 25) ∨ ((rl = 26 ∨ rl = 27) ∧ (x.1 = 26 ∨ x.1 = 27)) ∨ ((rl = 28 ∨ rl = 29) ∧ (x.1 = 28 ∨ x.1 = 29)) → pKw rl h u := by
    intro rl hr
    refine ⟨fun q => ?_, fun q => ?_, fun q => ?_⟩
    · have := kb (Or.inr (by omega)); exact ⟨this.1, this.2.1⟩
    · exact (kr (by omega)).1
    · have := krr (by omega); exact ⟨this.1, this.2.1⟩
  refine ⟨g _ (by omega), g _ ?_⟩
  unfold ctr
  split
  · omega
  · split <;> omega
/-! the other outcomes -/
theorem pCo_mono {G : jZ} (hT : thG F (zDn G) (zUp G)) {lc : Nat} {σ τ : jG} (hg : gLe σ τ) (hk : gKd τ) {x : jC} {h : Nat} {u u' : jQ} (hu : qLe u u') (hc : qCp lc u') (hd : pKd (zBl G) x h u') (k : Nat) : oLe (pCo G σ x h u k) (pCo G τ x h u' k) := by
  obtain ⟨k2, k4, kb, ki, kr, krr, k33, k34, k36, kc, k40, k42⟩ := hd
  intro w hv
  unfold pCo at hv ⊢
  by_cases c30 : x.1 = 30
  · rw [if_pos c30] at hv ⊢; exact ⟨w, hv, wle_refl _⟩
  rw [if_neg c30] at hv ⊢
  by_cases c31 : x.1 = 31
  · rw [if_pos c31] at hv ⊢
    obtain ⟨d1, d2, -⟩ := wle_d (hu (12 + h - 1)) (by have := (ki (by omega)).1; omega)
    by_cases c : (u (12 + h - 1)).2.1.2 < 0
    · rw [if_pos c] at hv; cases hv
    · rw [if_neg c] at hv
      rw [if_neg (by have := d2.2; omega)]
      by_cases e1 : k = 2646 + x.2.2.1.toNat
      · rw [if_pos e1] at hv ⊢
        cases hv
        refine ⟨_, rfl, wR_le ⟨?_, d2.2⟩⟩
        have := d2.1
        dsimp only
        omega
      · rw [if_neg e1] at hv ⊢; exact ⟨w, hv, wle_refl _⟩
  rw [if_neg c31] at hv ⊢
  by_cases c34 : x.1 = 34
  · rw [if_pos c34] at hv ⊢
    obtain ⟨q0, q1, q2, q3⟩ := k34 c34
    obtain ⟨-, -, d3, -⟩ := wle_d (hu (12 + h - 3)) (by omega)
    obtain ⟨a, a1, a2⟩ := oB_some hv
    obtain ⟨b, b1, b2⟩ := oB_some a2
    obtain ⟨a', w1, w2⟩ := pDr_mono hu hc (show (u' (12 + h - 3)).1 ≠ 0 by omega) a1
    obtain ⟨y1, y2, y3⟩ := pDr_at hc w1
    obtain ⟨b', w3, w4⟩ := pIx_mono hT hg hk w2 y2 (r := 12 + h - 3) (x := 12 + h - 2) (by rw [y3]; omega) (by rw [y3]; omega) b1
    rw [w1, oB, w3, oB]
    split at b2
    · rename_i hx
      rw [if_pos ⟨hx.1, hx.2.1, d3 _ hx.2.2⟩]
      exact pHl_mono (hu (12 + h - 1)) q0 b2
    · cases b2
  rw [if_neg c34] at hv ⊢
  by_cases c36 : x.1 = 36
  · rw [if_pos c36] at hv ⊢
    obtain ⟨q0, q1, q2⟩ := k36 c36
    obtain ⟨-, -, d3, -⟩ := wle_d (hu (12 + h - 2)) (by omega)
    obtain ⟨a, a1, a2⟩ := oB_some hv
    obtain ⟨a', w1, w2⟩ := pDr_mono hu hc (show (u' (12 + h - 2)).1 ≠ 0 by omega) a1
    rw [w1, oB]
    split at a2
    · rename_i hx
      rw [if_pos ⟨hx.1, hx.2.1, d3 _ hx.2.2⟩]
      cases a2
      exact ⟨_, rfl, wBr_le (hu _)⟩
    · cases a2
  rw [if_neg c36] at hv ⊢
  by_cases c42 : x.1 = 42
  · rw [if_pos c42] at hv ⊢
    split at hv
    · rename_i hx
      rw [if_pos hx]
      cases hv
      exact ⟨_, rfl, wBr_le (hu _)⟩
    · cases hv
  rw [if_neg c42] at hv; cases hv
theorem pRz_mono {G : jZ} (hT : thG F (zDn G) (zUp G)) {lc : Nat} {σ τ : jG} (hg : gLe σ τ) (hk : gKd τ) {x : jC} {h : Nat} {u u' : jQ} (hu : qLe u u') (hc : qCp lc u') (hd : pKd (zBl G) x h u') (e : Nat) (hv : pRz G σ x h u e = true) : pRz G τ x h u' e = true := by
  obtain ⟨k2, k4, kb, ki, kr, krr, k33, k34, k36, kc, k40, k42⟩ := hd
  have st : ∀ s j, (u' s).1 ≠ 0 → (u s).2.2.1 j = true → (u' s).2.2.1 j = true := fun s j hs hj => (wle_d (hu s) hs).2.2.1 j hj
  unfold pRz at hv ⊢
  by_cases e0 : e = 0
  · rw [if_pos e0] at hv ⊢
    by_cases c1 : x.1 = 32 ∨ x.1 = 35 ∨ x.1 = 41
    · rw [if_pos c1] at hv ⊢; exact st _ _ (by have := (kr (by omega)).1; omega) hv
    rw [if_neg c1] at hv ⊢
    by_cases c2 : x.1 = 33 ∨ x.1 = 36
    · rw [if_pos c2] at hv ⊢
      refine st _ _ ?_ hv
      rcases c2 with c | c
      · have := (k33 c).2.1; omega
      · have := (k36 c).2.1; omega
    rw [if_neg c2] at hv ⊢
    by_cases c3 : x.1 = 34
    · rw [if_pos c3] at hv ⊢; exact st _ _ (by have := (k34 c3).2.2.1; omega) hv
    rw [if_neg c3] at hv ⊢
    by_cases c4 : x.1 = 40
    · rw [if_pos c4] at hv ⊢; exact st _ _ (by have := (k40 c4).1; omega) hv
    rw [if_neg c4] at hv; cases hv
  rw [if_neg e0] at hv ⊢
  by_cases e1 : e = 1
  · rw [if_pos e1] at hv ⊢
    by_cases c1 : x.1 = 33
    · rw [if_pos c1] at hv ⊢
      obtain ⟨q1, q2, q3⟩ := k33 c1
      cases ha : pDr u (12 + h - 2) with
      | none => rw [ha] at hv; cases hv
      | some v =>
        rw [ha] at hv
        obtain ⟨v', w1, w2⟩ := pDr_mono hu hc (show (u' (12 + h - 2)).1 ≠ 0 by omega) ha
        obtain ⟨y1, y2, y3⟩ := pDr_at hc w1
        rw [w1]
        exact pIr_mono hg hk w2 (by rw [y3]; omega) (by rw [y3]; omega) hv
    rw [if_neg c1] at hv ⊢
    by_cases c2 : x.1 = 34
    · rw [if_pos c2] at hv ⊢
      obtain ⟨q0, q1, q2, q3⟩ := k34 c2
      cases ha : pDr u (12 + h - 3) with
      | none => rw [ha] at hv; cases hv
      | some v =>
        rw [ha] at hv
        obtain ⟨v', w1, w2⟩ := pDr_mono hu hc (show (u' (12 + h - 3)).1 ≠ 0 by omega) ha
        obtain ⟨y1, y2, y3⟩ := pDr_at hc w1
        rw [w1]
        exact pIr_mono hg hk w2 (by rw [y3]; omega) (by rw [y3]; omega) hv
    rw [if_neg c2] at hv; cases hv
  rw [if_neg e1] at hv ⊢
  by_cases e2 : e = 2
  · rw [if_pos e2] at hv ⊢
    rw [Bool.and_eq_true] at hv ⊢
    obtain ⟨d1, d2, -⟩ := wle_d (hu (12 + h - 1)) (by have := (ki (by have := of_decide_eq_true hv.1; omega)).1; omega)
    exact ⟨hv.1, decide_eq_true (by have := of_decide_eq_true hv.2; have := d2.1; omega)⟩
  rw [if_neg e2] at hv ⊢
  by_cases e3 : e = 3
  · rw [if_pos e3] at hv ⊢
    rw [Bool.and_eq_true, Bool.and_eq_true] at hv ⊢
    obtain ⟨d1, d2, -⟩ := wle_d (hu (12 + h - 1)) (by have := (kb (Or.inl (by have := of_decide_eq_true hv.1; omega))).1; omega)
    exact ⟨hv.1, decide_eq_true (by have := of_decide_eq_true hv.2.1; have := d2.1; omega), decide_eq_true (by have := of_decide_eq_true hv.2.2; have := d2.2; omega)⟩
  rw [if_neg e3] at hv ⊢
  by_cases e4 : e = 4
  · rw [if_pos e4] at hv ⊢
    rw [Bool.and_eq_true] at hv ⊢
    obtain ⟨d1, d2, d3, -⟩ := wle_d (hu (12 + h - 1)) (by have := (kr (by have := of_decide_eq_true hv.1; omega)).1; omega)
    exact ⟨hv.1, sEx_mono (sMi_mono (sMi_mono d3)) hv.2⟩
  rw [if_neg e4] at hv ⊢
  by_cases e5 : e = 5
  · rw [if_pos e5] at hv ⊢
    by_cases c2 : x.1 = 34
    · rw [if_pos c2] at hv ⊢
      obtain ⟨q0, q1, q2, q3⟩ := k34 c2
      obtain ⟨-, -, d3, -⟩ := wle_d (hu (12 + h - 3)) (by omega)
      obtain ⟨f1, -, f3, -⟩ := wle_d (hu (12 + h - 1)) q0
      cases ha : pDr u (12 + h - 3) with
      | none => rw [ha] at hv; cases hv
      | some v =>
        rw [ha] at hv
        obtain ⟨v', w1, w2⟩ := pDr_mono hu hc (show (u' (12 + h - 3)).1 ≠ 0 by omega) ha
        obtain ⟨y1, y2, y3⟩ := pDr_at hc w1
        rw [w1]
        dsimp only at hv ⊢
        cases hb : pIx (zDn G) (zUp G) σ v (12 + h - 3) (12 + h - 2) with
        | none => rw [hb] at hv; cases hv
        | some b =>
          rw [hb] at hv
          obtain ⟨b', w3, w4⟩ := pIx_mono hT hg hk w2 y2 (r := 12 + h - 3) (x := 12 + h - 2) (by rw [y3]; omega) (by rw [y3]; omega) hb
          rw [w3]
          dsimp only at hv ⊢
          rw [Bool.and_eq_true] at hv ⊢
          refine ⟨decide_eq_true (by have := of_decide_eq_true hv.1; omega), exB_mono (fun j hj => ?_) hv.2⟩
          rw [Bool.and_eq_true] at hj ⊢
          exact ⟨d3 j hj.1, sEx_mono (sMi_mono f3) hj.2⟩
    rw [if_neg c2] at hv; cases hv
  rw [if_neg e5] at hv; cases hv
theorem pTh_mono {G : jZ} {lc : Nat} {σ τ : jG} (hg : gLe σ τ) {x : jC} {h : Nat} {u u' : jQ} (hu : qLe u u') (hc : qCp lc u') (hd : pKd (zBl G) x h u') : sLe (pTh G σ x h u) (pTh G τ x h u') := by
  obtain ⟨k2, k4, kb, ki, kr, krr, k33, k34, k36, kc, k40, k42⟩ := hd
  intro s hv
  unfold pTh at hv ⊢
  by_cases c1 : x.1 = 41
  · rw [if_pos c1] at hv ⊢
    exact sAnd_mono (wle_d (hu (12 + h - 1)) (by have := (kr (by omega)).1; omega)).2.2.1 (sLe_refl _) s hv
  rw [if_neg c1] at hv ⊢
  by_cases c2 : x.1 = 39
  · rw [if_pos c2] at hv ⊢
    refine exB_mono (fun j hj => ?_) hv
    rw [Bool.and_eq_true] at hj ⊢
    exact ⟨pMt_mono (Or.inl c2) hj.1, hg.2.2 j s hj.2⟩
  rw [if_neg c2] at hv ⊢
  by_cases c3 : x.1 = 40
  · rw [if_pos c3] at hv ⊢
    have hk := (k40 c3).1
    rw [Bool.and_eq_true] at hv ⊢
    obtain ⟨v, hv1⟩ := Option.isSome_iff_exists.mp hv.1
    obtain ⟨v', w1, -⟩ := pDr_mono hu hc (show (u' (12 + h - tkX (zBl G) x)).1 ≠ 0 by omega) hv1
    refine ⟨by rw [w1]; rfl, exB_mono (fun j hj => ?_) hv.2⟩
    rw [Bool.and_eq_true] at hj ⊢
    exact ⟨pMt_mono (Or.inr (wle_d (hu _) (by omega)).2.2.1) hj.1, hg.2.2 j s hj.2⟩
  rw [if_neg c3] at hv; cases hv
theorem pLs_mono {G : jZ} (hT : thG F (zDn G) (zUp G)) {lc : Nat} {σ τ : jG} (hg : gLe σ τ) (hk : gKd τ) {x : jC} {h : Nat} {u u' : jQ} (hu : qLe u u') (hc : qCp lc u') (hd : pKd (zBl G) x h u') : sLe (pLs G σ x h u) (pLs G τ x h u') := by
  intro s hv
  unfold pLs at hv ⊢
  rw [Bool.or_eq_true] at hv ⊢
  rcases hv with q | q
  · exact Or.inl (pTh_mono hg hu hc hd s q)
  · right
    rw [Bool.and_eq_true] at q ⊢
    exact ⟨q.1, pRz_mono hT hg hk hu hc hd _ q.2⟩
theorem pLf_mono {us : List Int} {z : jL} {b i : Nat} {L L' : Nat → Bool} (h : sLe L L') : ∀ k, sLe (pLf us z b i L k) (pLf us z b i L' k) := by
  intro k
  induction k with
  | zero => exact h
  | succ k ih =>
    rw [pLf, pLf]
    cases z.2.2.1[k]? with
    | none => exact ih
    | some y =>
      dsimp only
      split
      · exact sMi_mono ih
      · exact ih
theorem pEn_le {y : jB} {u u' : jQ} {low : Nat} {o : Option Nat} (h : qLe u u') : qLe (pEn y u low o) (pEn y u' low o) := by
  intro k
  unfold pEn
  by_cases c : k < y.ps.length
  · rw [if_pos c, if_pos c]
    cases o with
    | none => exact wBr_le (h _)
    | some s =>
      dsimp only
      by_cases c0 : k = 0
      · rw [if_pos c0, if_pos c0]; exact wle_refl _
      · rw [if_neg c0, if_neg c0]; exact wBr_le (h _)
  · rw [if_neg c, if_neg c]; exact wle_refl _
/-- every arrow has one above it -/
theorem pEd_mono {G : jZ} (hT : thG F (zDn G) (zUp G)) {lc : Nat → Nat} {l : Nat} {σ τ : jG} (hg : gLe σ τ) (hk : gKd τ) {i : Nat} {x : jC} {u u' : jQ} (hu : qLe u u') (hc : qCp l u') (hc0 : qCp l u) (hw : ∀ k, wOk F (u k)) (hd : pKd (zBl G) x (zH G i) u') {j : Nat} {w : jQ} (hE : pEd G σ i x u lc j w) : ∃ w', pEd G τ i x u' lc j w' ∧ qLe w w' := by
  rcases hE with ⟨e1, v, e2, e3, e4⟩ | ⟨e1, e2, v, e3, e4⟩ | ⟨k, y, e1, e2, e3, e4, e5, e6, e7⟩ | ⟨e1, y, e, e2, e3, e4, e5⟩ | ⟨e1, e2, s, b, y, y', e, e3, e4, e5, e6, e7, e8, e9, e10⟩
  · obtain ⟨v', w1, w2⟩ := pGo_mono hT hg hk hu hc hc0 hw hd e2
    exact ⟨_, Or.inl ⟨e1, v', w1, e3, rfl⟩, by rw [e4]; exact qLe_rs w2⟩
  · obtain ⟨d1, d2⟩ := pKd_w hd ⟨e1, e2⟩
    rcases e4 with ⟨f1, f2⟩ | ⟨f1, f2⟩
    · obtain ⟨v', w1, w2⟩ := pWy_mono hT hu hc hc0 hw d1 ⟨e1, e2⟩ f1
      exact ⟨_, Or.inr (Or.inl ⟨e1, e2, v', rfl, Or.inl ⟨w1, f2⟩⟩), by rw [e3]; exact qLe_rs w2⟩
    · obtain ⟨v', w1, w2⟩ := pWy_mono hT hu hc hc0 hw d2 (ctr_b ⟨e1, e2⟩) f1
      exact ⟨_, Or.inr (Or.inl ⟨e1, e2, v', rfl, Or.inr ⟨w1, f2⟩⟩), by rw [e3]; exact qLe_rs w2⟩
  · have hm := sAnd_mono (pLf_mono (us := zUs G) (z := zZ G) (b := x.2.2.2.1) (i := i) (pLs_mono hT hg hk hu hc hd) k) (sLe_refl (pB (zUs G) (zZ G) (4 + 2 * (y.2.2.2.2 : Int))))
    refine ⟨_, Or.inr (Or.inr (Or.inl ⟨k, y, e1, e2, e3, e4, e5, sEx_mono hm e6, rfl⟩)), ?_⟩
    rw [e7]
    exact qLe_rs (qLe_up hu (wS_le hm))
  · refine ⟨_, Or.inr (Or.inr (Or.inr (Or.inl ⟨e1, y, e, e2, e3, e4, rfl⟩))), ?_⟩
    rw [e5]
    exact qLe_rs (pEn_le hu)
  · have hk2 := (hd.2.2.2.2.2.2.2.2.2.2.1 e1).1
    obtain ⟨v, hv1⟩ := Option.isSome_iff_exists.mp e2
    obtain ⟨v', w1, -⟩ := pDr_mono hu hc (show (u' (12 + zH G i - tkX (zBl G) x)).1 ≠ 0 by omega) hv1
    refine ⟨_, Or.inr (Or.inr (Or.inr (Or.inr ⟨e1, by rw [w1]; rfl, s, b, y, y', e, e3, (wle_d (hu _) (by omega)).2.2.1 s e4, e5, e6, e7, e8, e9, rfl⟩))), ?_⟩
    rw [e10]
    exact qLe_rs (pEn_le hu)
end PWY
