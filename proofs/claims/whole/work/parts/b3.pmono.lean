/-! The proof: more known comes from more known. -/
def oLe (a c : Option jW) : Prop := ∀ w, a = some w → ∃ w', c = some w' ∧ wle w w'
def gLe (σ τ : jG) : Prop := (∀ k, oLe (σ.1 k) (τ.1 k)) ∧ (∀ b, σ.2.1 b = true → τ.2.1 b = true) ∧ ∀ b, sLe (σ.2.2 b) (τ.2.2 b)
/-- copies are of locals that are of the same kind -/
def qCp (lc : Nat) (u : jQ) : Prop := ∀ s k, (u s).2.2.2.1 = some k → k < lc ∧ lc ≤ 12 ∧ (u k).1 = (u s).1 ∧ (u s).1 ≠ 0 ∧ 12 ≤ s
/-- the kinds that an instruction wants -/
def pKd (bl : List jB) (x : jC) (h : Nat) (u : jQ) : Prop :=
  (x.1 = 2 → (u x.2.1.toNat).1 ≠ 0) ∧ (x.1 = 4 → (u x.2.1.toNat).1 = 1)
  ∧ ((8 ≤ x.1 ∧ x.1 ≤ 17) ∨ (20 ≤ x.1 ∧ x.1 ≤ 25) → (u (12 + h - 1)).1 = 1 ∧ (u (12 + h - 2)).1 = 1 ∧ 2 ≤ h)
  ∧ (x.1 = 18 ∨ x.1 = 31 ∨ x.1 = 45 → (u (12 + h - 1)).1 = 1 ∧ 1 ≤ h)
  ∧ (x.1 = 26 ∨ x.1 = 27 ∨ x.1 = 32 ∨ x.1 = 35 ∨ x.1 = 37 ∨ x.1 = 38 ∨ x.1 = 41 → (u (12 + h - 1)).1 = 2 ∧ 1 ≤ h)
  ∧ (x.1 = 28 ∨ x.1 = 29 → (u (12 + h - 1)).1 = 2 ∧ (u (12 + h - 2)).1 = 2 ∧ 2 ≤ h)
  ∧ (x.1 = 33 → (u (12 + h - 1)).1 = 1 ∧ (u (12 + h - 2)).1 = 2 ∧ 2 ≤ h)
  ∧ (x.1 = 34 → (u (12 + h - 1)).1 ≠ 0 ∧ (u (12 + h - 2)).1 = 1 ∧ (u (12 + h - 3)).1 = 2 ∧ 3 ≤ h)
  ∧ (x.1 = 36 → (u (12 + h - 1)).1 ≠ 0 ∧ (u (12 + h - 2)).1 = 2 ∧ 2 ≤ h)
  ∧ (x.1 = 39 ∨ x.1 = 40 → tkX bl x ≤ h ∧ ∀ k, k < tkX bl x → (u (12 + h - tkX bl x + k)).1 ≠ 0)
  ∧ (x.1 = 40 → (u (12 + h - tkX bl x)).1 = 2 ∧ 1 ≤ tkX bl x)
  ∧ (x.1 = 42 → (u (12 + h - 1)).1 ≠ 0 ∧ 1 ≤ h)
theorem wle_d {a c : jW} (h : wle a c) (hc : c.1 ≠ 0) : a.1 = c.1 ∧ rle a.2.1 c.2.1 ∧ sLe a.2.2.1 c.2.2.1 ∧ (c.2.2.2.1 = none ∨ c.2.2.2.1 = a.2.2.2.1) ∧ sLe c.2.2.2.2 a.2.2.2.2 := h.resolve_left hc
theorem sEx_iff {s : Nat → Bool} : sEx s = true ↔ ∃ j, j < 63 ∧ s j = true := by
  unfold sEx
  exact exB_iff 63
theorem sEx_mono {s t : Nat → Bool} (h : sLe s t) (hs : sEx s = true) : sEx t = true := by
  obtain ⟨j, h1, h2⟩ := sEx_iff.mp hs
  exact sEx_iff.mpr ⟨j, h1, h j h2⟩
theorem exB_mono {f g : Nat → Bool} {n : Nat} (h : ∀ j, f j = true → g j = true) (hf : exB f n = true) : exB g n = true := by
  obtain ⟨j, h1, h2⟩ := (exB_iff n).mp hf
  exact (exB_iff n).mpr ⟨j, h1, h j h2⟩
theorem sAnd_mono {a a' c c' : Nat → Bool} (h : sLe a a') (k : sLe c c') : sLe (sAnd a c) (sAnd a' c') := by
  intro j hj
  unfold sAnd at hj ⊢
  rw [Bool.and_eq_true] at hj ⊢
  exact ⟨h j hj.1, k j hj.2⟩
theorem sOr_mono {a a' c c' : Nat → Bool} (h : sLe a a') (k : sLe c c') : sLe (sOr a c) (sOr a' c') := by
  intro j hj
  unfold sOr at hj ⊢
  rw [Bool.or_eq_true] at hj ⊢
  exact hj.imp (h j) (k j)
theorem sMi_mono {a a' c : Nat → Bool} (h : sLe a a') : sLe (sMi a c) (sMi a' c) := by
  intro j hj
  unfold sMi at hj ⊢
  rw [Bool.and_eq_true] at hj ⊢
  exact ⟨h j hj.1, hj.2⟩
theorem sAnd_l (a c : Nat → Bool) : sLe (sAnd a c) a := by
  intro j hj
  unfold sAnd at hj
  rw [Bool.and_eq_true] at hj
  exact hj.1
theorem iS_mono {a c : Nat → Bool} (h : sLe a c) : sLe (iS a) (iS c) := by
  intro j hj
  unfold iS at hj ⊢
  rw [Bool.and_eq_true] at hj ⊢
  exact ⟨hj.1, h j hj.2⟩
theorem wSt_le {a c : jW} {s t : Nat → Bool} (h : wle a c) (k : sLe s t) : wle (wSt a s) (wSt c t) := by
  rcases h with h | ⟨h1, h2, h3, h4, h5⟩
  · exact Or.inl h
  · exact Or.inr ⟨h1, h2, k, h4, h5⟩
theorem wBr_le {a c : jW} (h : wle a c) : wle (wBr a) (wBr c) := by
  rcases h with h | ⟨h1, h2, h3, h4, h5⟩
  · exact Or.inl h
  · exact Or.inr ⟨h1, h2, h3, Or.inl rfl, fun j hj => by cases hj⟩
theorem wCp_le {a c : jW} (h : wle a c) (o : Option Nat) : wle (wCp a o) (wCp c o) := by
  rcases h with h | ⟨h1, h2, h3, h4, h5⟩
  · exact Or.inl h
  · exact Or.inr ⟨h1, h2, h3, Or.inr rfl, h5⟩
theorem wCh_le {a c : jW} (h : wle a c) (k : Nat) : wle (wCh a k) (wCh c k) := by
  rcases h with h | ⟨h1, h2, h3, h4, h5⟩
  · exact Or.inl h
  · refine Or.inr ⟨h1, h2, h3, ?_, fun j hj => ?_⟩
    · show (if c.2.2.2.1 = some k then none else c.2.2.2.1) = none ∨ (if c.2.2.2.1 = some k then none else c.2.2.2.1) = (if a.2.2.2.1 = some k then none else a.2.2.2.1)
      rcases h4 with e | e
      · rw [e]; exact Or.inl (if_neg (fun q => by cases q))
      · rw [e]; exact Or.inr rfl
    · have hj : (c.2.2.2.2 j && !decide (j % 12 = k)) = true := hj
      show (a.2.2.2.2 j && !decide (j % 12 = k)) = true
      rw [Bool.and_eq_true] at hj ⊢
      exact ⟨h5 j hj.1, hj.2⟩
theorem wR_le {a c : jR} (h : rle a c) : wle (wR a) (wR c) := Or.inr ⟨rfl, h, sLe_refl _, Or.inl rfl, sLe_refl _⟩
theorem wS_le {s t : Nat → Bool} (h : sLe s t) : wle (wS s) (wS t) := Or.inr ⟨rfl, rle_refl _, h, Or.inl rfl, sLe_refl _⟩
theorem oOn_le {a c : Option Nat} (h : c = none ∨ c = a) (b : Nat) : sLe (oOn c b) (oOn a b) := by
  rcases h with e | e
  · rw [e]; intro j hj; cases hj
  · rw [e]; exact sLe_refl _
theorem qLe_trans {a c d : jQ} (h : qLe a c) (k : qLe c d) : qLe a d := fun i => wle_trans (h i) (k i)
theorem qLe_refl (a : jQ) : qLe a a := fun i => wle_refl _
theorem qLe_dn {u : jQ} {k : Nat} {v : jW} (h : wle v (u k)) : qLe (qUp u k v) u := by
  intro i
  unfold qUp
  by_cases e : i = k
  · rw [if_pos e, e]; exact h
  · rw [if_neg e]; exact wle_refl _
section PMO
variable {F : Int → Prop} {dn up : Int → Int}
theorem qKp_mono {lc : Nat} {u u' v : jQ} (h : qLe u u') (hc : qCp lc u') {s : Nat} (hs : (u' s).1 ≠ 0) {K K' : Nat → Bool} (hK : sLe K K') (hv : qKp u s K = some v) : ∃ v', qKp u' s K' = some v' ∧ qLe v v' := by
  obtain ⟨d1, d2, d3, d4, d5⟩ := wle_d (h s) hs
  have dv : qLe v u := by
    unfold qKp at hv
    split at hv
    · cases hv; exact qLe_refl _
    · split at hv
      · cases hv
        exact qLe_dn (Or.inr ⟨rfl, rle_refl _, sAnd_l _ _, Or.inr rfl, sLe_refl _⟩)
      · cases hv
  unfold qKp
  rcases d4 with e | e
  · rw [e]; exact ⟨_, rfl, qLe_trans dv h⟩
  · cases hk : (u' s).2.2.2.1 with
    | none => exact ⟨_, rfl, qLe_trans dv h⟩
    | some k =>
      obtain ⟨c1, c2, c3, c4, c5⟩ := hc s k hk
      rw [hk] at e
      unfold qKp at hv
      rw [← e] at hv
      dsimp only at hv ⊢
      obtain ⟨k1, k2, k3, k4, k5⟩ := wle_d (h k) (by omega)
      have hm := sAnd_mono k3 hK
      split at hv
      · rename_i hx
        rw [if_pos (sEx_mono hm hx)]
        cases hv
        exact ⟨_, rfl, qLe_up h (wSt_le (h k) hm)⟩
      · cases hv
theorem qNr_mono {lc : Nat} {u u' v : jQ} (h : qLe u u') (hc : qCp lc u') {s : Nat} (hs : (u' s).1 ≠ 0) {r r' : jR} (hr : rle r r') {f f' : Nat → Bool} (hf : sLe f' f) (hv : qNr u s r f = some v) : ∃ v', qNr u' s r' f' = some v' ∧ qLe v v' := by
  obtain ⟨d1, d2, d3, d4, d5⟩ := wle_d (h s) hs
  have dv : qLe v u := by
    unfold qNr at hv
    split at hv
    · cases hv; exact qLe_refl _
    · split at hv
      · cases hv
      · rename_i k _ _ q hq
        cases hv
        refine qLe_dn (Or.inr ⟨rfl, ?_, sLe_refl _, Or.inr rfl, fun j hj => ?_⟩)
        · unfold kCom at hq
          split at hq
          · cases hq
          · cases hq
            exact ⟨by show (u k).2.1.1 ≤ max (u k).2.1.1 r.1; omega, by show min (u k).2.1.2 r.2 ≤ (u k).2.1.2; omega⟩
        · show ((u k).2.2.2.2 j || f j) = true
          rw [hj]; rfl
  unfold qNr
  rcases d4 with e | e
  · rw [e]; exact ⟨_, rfl, qLe_trans dv h⟩
  · cases hk : (u' s).2.2.2.1 with
    | none => exact ⟨_, rfl, qLe_trans dv h⟩
    | some k =>
      obtain ⟨c1, c2, c3, c4, c5⟩ := hc s k hk
      rw [hk] at e
      unfold qNr at hv
      rw [← e] at hv
      dsimp only at hv ⊢
      obtain ⟨k1, k2, k3, k4, k5⟩ := wle_d (h k) (by omega)
      split at hv
      · cases hv
      · rename_i q hq
        obtain ⟨q', w1, w2⟩ := kCom_mono k2 hr hq
        rw [w1]
        cases hv
        refine ⟨_, rfl, qLe_up h (Or.inr ⟨k1, w2, k3, k4, ?_⟩)⟩
        exact sOr_mono k5 hf
theorem pDr_mono {lc : Nat} {u u' v : jQ} (h : qLe u u') (hc : qCp lc u') {r : Nat} (hr : (u' r).1 ≠ 0) (hv : pDr u r = some v) : ∃ v', pDr u' r = some v' ∧ qLe v v' := by
  obtain ⟨d1, d2, d3, d4, d5⟩ := wle_d (h r) hr
  unfold pDr at hv ⊢
  split at hv
  · rename_i hx
    rw [if_pos (sEx_mono (sAnd_mono d3 (sLe_refl _)) hx)]
    exact qKp_mono h hc hr (sLe_refl _) hv
  · cases hv
/-- what keeps and narrows leave of other slots -/
theorem qKp_at {lc : Nat} {u v : jQ} {s : Nat} {K : Nat → Bool} (hc : qCp lc u) (hv : qKp u s K = some v) : (∀ k, 12 ≤ k → v k = u k) ∧ (∀ k, (v k).1 = (u k).1 ∧ (v k).2.2.2 = (u k).2.2.2 ∧ (v k).2.1 = (u k).2.1 ∧ sLe (v k).2.2.1 (u k).2.2.1) := by
  unfold qKp at hv
  split at hv
  · cases hv; exact ⟨fun _ _ => rfl, fun _ => ⟨rfl, rfl, rfl, sLe_refl _⟩⟩
  · rename_i k hk
    obtain ⟨c1, c2, -⟩ := hc s k hk
    split at hv
    · cases hv
      refine ⟨fun j hj => qUp_ne (by omega), fun j => ?_⟩
      by_cases e : j = k
      · subst e
        rw [qUp_at]
        exact ⟨rfl, rfl, rfl, sAnd_l _ _⟩
      · rw [qUp_ne e]; exact ⟨rfl, rfl, rfl, sLe_refl _⟩
    · cases hv
theorem qCp_same {lc : Nat} {u v : jQ} (hc : qCp lc u) (h1 : ∀ k, (v k).1 = (u k).1) (h2 : ∀ k, (v k).2.2.2.1 = (u k).2.2.2.1) : qCp lc v := by
  intro s k hk
  rw [h2] at hk
  obtain ⟨c1, c2, c3, c4, c5⟩ := hc s k hk
  exact ⟨c1, c2, by rw [h1, h1]; exact c3, by rw [h1]; exact c4, c5⟩
theorem pDr_at {lc : Nat} {u v : jQ} {r : Nat} (hc : qCp lc u) (hv : pDr u r = some v) : (∀ k, 12 ≤ k → v k = u k) ∧ qCp lc v ∧ ∀ k, (v k).1 = (u k).1 := by
  unfold pDr at hv
  split at hv
  · obtain ⟨a1, a2⟩ := qKp_at hc hv
    exact ⟨a1, qCp_same hc (fun k => (a2 k).1) (fun k => by rw [(a2 k).2.1]), fun k => (a2 k).1⟩
  · cases hv
theorem oJ_mono {a a' c c' : Option jW} (h : oLe a a') (k : oLe c c') : oLe (oJ a c) (oJ a' c') := by
  intro w hw
  cases a with
  | none =>
    obtain ⟨w', e, l⟩ := k w hw
    cases a' with
    | none => exact ⟨w', e, l⟩
    | some q =>
      rw [e]
      exact ⟨_, rfl, wle_trans l (wJn_ub q w').2⟩
  | some p =>
    obtain ⟨p', e, l⟩ := h p rfl
    rw [e]
    cases c with
    | none =>
      cases hw
      cases c' with
      | none => exact ⟨_, rfl, l⟩
      | some q => exact ⟨_, rfl, wle_trans l (wJn_ub p' q).1⟩
    | some q =>
      obtain ⟨q', e', l'⟩ := k q rfl
      rw [e']
      cases hw
      exact ⟨_, rfl, wJn_lub (wle_trans l (wJn_ub p' q').1) (wle_trans l' (wJn_ub p' q').2)⟩
theorem fJ_mono {f g : Nat → Option jW} {s t : Nat → Bool} (h : sLe s t) (k : ∀ n, oLe (f n) (g n)) : ∀ n, oLe (fJ f s n) (fJ g t n) := by
  intro n
  induction n with
  | zero => intro w hw; cases hw
  | succ n ih =>
    rw [fJ, fJ]
    refine oJ_mono ih ?_
    by_cases c : s n = true
    · rw [if_pos c, if_pos (h n c)]; exact k n
    · rw [if_neg c]; intro w hw; cases hw
theorem oB_some {α β : Type} {o : Option α} {f : α → Option β} {y : β} (h : oB o f = some y) : ∃ a, o = some a ∧ f a = some y := by
  unfold oB at h
  cases o with
  | none => cases h
  | some a => exact ⟨a, rfl, h⟩
/-- lengths are numbers -/
def gKd (σ : jG) : Prop := ∀ k w, σ.1 k = some w → 2646 ≤ k → k < 2700 → w.1 = 1
theorem wJn_k {a c : jW} {n : Nat} (h : a.1 = n) (k : c.1 = n) : (wJn a c).1 = n := by
  unfold wJn
  by_cases q : a.1 = c.1 ∧ a.1 ≠ 0
  · rw [if_pos q]; exact h
  · rw [if_neg q]
    show 0 = n
    omega
theorem fJ_k {f : Nat → Option jW} {s : Nat → Bool} {q : Nat} : ∀ n, (∀ m w, m < n → f m = some w → w.1 = q) → ∀ w, fJ f s n = some w → w.1 = q := by
  intro n
  induction n with
  | zero => intro _ w hw; cases hw
  | succ n ih =>
    intro hf w hw
    rw [fJ] at hw
    have ih' := ih (fun m w hm => hf m w (by omega))
    cases ha : fJ f s n with
    | none =>
      rw [ha] at hw
      by_cases c : s n = true
      · rw [if_pos c] at hw; exact hf n w (by omega) hw
      · rw [if_neg c] at hw; cases hw
    | some p =>
      rw [ha] at hw
      have hp := ih' p ha
      by_cases c : s n = true
      · rw [if_pos c] at hw
        cases hb : f n with
        | none => rw [hb] at hw; cases hw; exact hp
        | some r =>
          rw [hb] at hw
          cases hw
          exact wJn_k hp (hf n r (by omega) hb)
      · rw [if_neg c] at hw; cases hw; exact hp
theorem pLn_k {σ : jG} (h : gKd σ) {s : Nat → Bool} {w : jW} (hw : pLn σ s = some w) : w.1 = 1 := fJ_k 54 (fun m w hm hf => h _ w hf (by omega) (by omega)) w hw
theorem pLn_mono {σ τ : jG} (hg : gLe σ τ) (hk : gKd τ) {s t : Nat → Bool} (h : sLe s t) {l : jW} (hl : pLn σ s = some l) : ∃ l', pLn τ t = some l' ∧ rle l.2.1 l'.2.1 := by
  obtain ⟨l', e, k⟩ := fJ_mono h (fun n => hg.1 (2646 + n)) 54 l hl
  exact ⟨l', e, (wle_d k (by rw [pLn_k hk e]; decide)).2.1⟩
theorem pIx_mono (hT : thG F dn up) {lc : Nat} {σ τ : jG} (hg : gLe σ τ) (hk : gKd τ) {u u' v : jQ} (h : qLe u u') (hc : qCp lc u') {r x : Nat} (hr : (u' r).1 ≠ 0) (hx : (u' x).1 ≠ 0) (hv : pIx dn up σ u r x = some v) : ∃ v', pIx dn up τ u' r x = some v' ∧ qLe v v' := by
  obtain ⟨d1, d2, d3, d4, d5⟩ := wle_d (h r) hr
  obtain ⟨e1, e2, e3, e4, e5⟩ := wle_d (h x) hx
  unfold pIx at hv ⊢
  cases hl : pLn σ (u r).2.2.1 with
  | none => rw [hl] at hv; cases hv
  | some l =>
    rw [hl] at hv
    obtain ⟨l', q1, q2⟩ := pLn_mono hg hk d3 hl
    rw [q1]
    dsimp only at hv ⊢
    cases hq : kCut dn up (u x).2.1 0 (l.2.1.2 - 1) with
    | none => rw [hq] at hv; cases hv
    | some q =>
      rw [hq] at hv
      obtain ⟨-, q', w1, w2⟩ := kCut_mono hT e2 (Int.le_refl 0) (show l.2.1.2 - 1 ≤ l'.2.1.2 - 1 by have := q2.2; omega) hq
      rw [w1]
      exact qNr_mono h hc hx w2 (oOn_le d4 12) hv
theorem pIr_mono {σ τ : jG} (hg : gLe σ τ) (hk : gKd τ) {u u' : jQ} (h : qLe u u') {r x : Nat} (hr : (u' r).1 ≠ 0) (hx : (u' x).1 ≠ 0) (hv : pIr σ u r x = true) : pIr τ u' r x = true := by
  obtain ⟨d1, d2, d3, d4, d5⟩ := wle_d (h r) hr
  obtain ⟨e1, e2, e3, e4, e5⟩ := wle_d (h x) hx
  unfold pIr at hv ⊢
  cases hl : pLn σ (u r).2.2.1 with
  | none => rw [hl] at hv; cases hv
  | some l =>
    rw [hl] at hv
    obtain ⟨l', q1, q2⟩ := pLn_mono hg hk d3 hl
    rw [q1]
    dsimp only at hv ⊢
    rw [Bool.or_eq_true] at hv ⊢
    rcases hv with w | w
    · left
      have := of_decide_eq_true w
      exact decide_eq_true (by have := e2.1; omega)
    · right
      rw [Bool.not_eq_true'] at w ⊢
      cases hn : pUn u' r x l'.2.1 with
      | false => rfl
      | true =>
        exfalso
        have : pUn u r x l.2.1 = true := by
          unfold pUn at hn ⊢
          rw [Bool.or_eq_true, Bool.or_eq_true] at hn ⊢
          rcases hn with (n | n) | n
          · left; left
            cases hcr : (u' r).2.2.2.1 with
            | none => rw [hcr] at n; cases n
            | some k =>
              rw [hcr] at n
              rcases d4 with q | q
              · rw [hcr] at q; cases q
              · rw [← q, hcr]; exact e5 _ n
          · left; right
            refine exB_mono (fun j hj => ?_) n
            rw [Bool.and_eq_true] at hj ⊢
            exact ⟨e5 _ hj.1, d5 _ hj.2⟩
          · right
            have := of_decide_eq_true n
            exact decide_eq_true (by have := e2.2; have := q2.1; omega)
        rw [this] at w; cases w
theorem pHl_mono {us : List Int} {z : jL} {s : Nat} {w w' a : jW} (h : wle w w') (h0 : w'.1 ≠ 0) (ha : pHl us z s w = some a) : ∃ a', pHl us z s w' = some a' ∧ wle a a' := by
  obtain ⟨d1, d2, d3, d4, d5⟩ := wle_d h h0
  unfold pHl at ha ⊢
  by_cases c : w.1 = 1
  · rw [if_pos c] at ha
    rw [if_pos (by omega)]
    cases ha
    exact ⟨_, rfl, wBr_le h⟩
  · rw [if_neg c] at ha
    rw [if_neg (by omega)]
    have hm := sAnd_mono d3 (sLe_refl (sOr (pB us z (tEl (sTp z s))) (onS 62)))
    split at ha
    · rename_i hx
      rw [if_pos (sEx_mono hm hx)]
      cases ha
      exact ⟨_, rfl, wS_le hm⟩
    · cases ha
theorem pMt_mono {us : List Int} {bl : List jB} {z : jL} {x : jC} {u u' : jQ} {low b : Nat} (h : x.1 = 39 ∨ sLe (u low).2.2.1 (u' low).2.2.1) (hm : pMt us bl z x u low b = true) : pMt us bl z x u' low b = true := by
  unfold pMt at hm ⊢
  by_cases c : x.1 = 39
  · rw [if_pos c] at hm ⊢; exact hm
  · rw [if_neg c] at hm ⊢
    have h' := h.resolve_left c
    split at hm
    · cases hm
    · refine exB_mono (fun j hj => ?_) hm
      rw [Bool.and_eq_true] at hj ⊢
      exact ⟨h' j hj.1, hj.2⟩
theorem pRt_mono {σ τ : jG} (hg : gLe σ τ) {m m' : Nat → Bool} (h : sLe m m') : oLe (pRt σ m) (pRt τ m') := by
  refine fJ_mono h (fun n => ?_) 48
  intro w hw
  by_cases c : σ.2.1 n = true
  · rw [if_pos c] at hw
    rw [if_pos (hg.2.1 n c)]
    exact hg.1 _ w hw
  · rw [if_neg c] at hw; cases hw
/-- behind an instruction -/
theorem pGo_mono {G : jZ} (hT : thG F (zDn G) (zUp G)) {lc : Nat} {σ τ : jG} (hg : gLe σ τ) (hk : gKd τ) {x : jC} {h : Nat} {u u' v : jQ} (hu : qLe u u') (hc : qCp lc u') (hc0 : qCp lc u) (hw : ∀ k, wOk F (u k)) (hd : pKd (zBl G) x h u') (hv : pGo G σ x h u = some v) : ∃ v', pGo G τ x h u' = some v' ∧ qLe v v' := by
  obtain ⟨k2, k4, kb, ki, kr, krr, k33, k34, k36, kc, k40, k42⟩ := hd
  have kd : ∀ s, (u' s).1 = 1 → (u s).1 = 1 ∧ rle (u s).2.1 (u' s).2.1 ∧ (u s).2.1.1 ≤ (u s).2.1.2 := fun s hs => by
    obtain ⟨d1, d2, -⟩ := wle_d (hu s) (by omega)
    exact ⟨by omega, d2, (wOk_1 (hw s) (by omega)).1.2.2⟩
  unfold pGo at hv ⊢
  by_cases c0 : x.1 = 0
  · rw [if_pos c0] at hv ⊢; cases hv; exact ⟨_, rfl, qLe_up hu (wle_refl _)⟩
  rw [if_neg c0] at hv ⊢
  by_cases c1 : x.1 = 1
  · rw [if_pos c1] at hv ⊢; cases hv; exact ⟨_, rfl, qLe_up hu (wle_refl _)⟩
  rw [if_neg c1] at hv ⊢
  by_cases c2 : x.1 = 2
  · rw [if_pos c2] at hv ⊢; cases hv; exact ⟨_, rfl, qLe_up hu (wCp_le (hu _) _)⟩
  rw [if_neg c2] at hv ⊢
  by_cases c3 : x.1 = 3
  · rw [if_pos c3] at hv ⊢; cases hv; exact ⟨_, rfl, qLe_up (fun s => wCh_le (hu s) _) (wCp_le (wCh_le (hu _) _) _)⟩
  rw [if_neg c3] at hv ⊢
  by_cases c4 : x.1 = 4
  · rw [if_pos c4] at hv ⊢
    cases hv
    obtain ⟨q1, q2, q3⟩ := kd _ (k4 c4)
    exact ⟨_, rfl, qLe_up (fun s => wCh_le (hu s) _) (wR_le (kPlus_mono hT q2 q3 _))⟩
  rw [if_neg c4] at hv ⊢
  by_cases c5 : x.1 = 5
  · rw [if_pos c5] at hv ⊢; cases hv; exact ⟨_, rfl, qLe_up hu (hu _)⟩
  rw [if_neg c5] at hv ⊢
  by_cases c6 : x.1 = 6 ∨ x.1 = 45 ∨ x.1 = 19
  · rw [if_pos c6] at hv ⊢; cases hv; exact ⟨_, rfl, hu⟩
  rw [if_neg c6] at hv ⊢
  by_cases c7 : x.1 = 7
  · rw [if_pos c7] at hv ⊢; cases hv; exact ⟨_, rfl, qLe_up (qLe_up hu (hu _)) (hu _)⟩
  rw [if_neg c7] at hv ⊢
  by_cases c8 : 8 ≤ x.1 ∧ x.1 ≤ 17
  · rw [if_pos c8] at hv ⊢
    obtain ⟨r, r1, r2⟩ := oB_some hv
    obtain ⟨q1, q2, q3⟩ := kb (Or.inl c8)
    obtain ⟨a1, a2, a3⟩ := kd _ q1
    obtain ⟨b1, b2, b3⟩ := kd _ q2
    obtain ⟨r', w1, w2⟩ := kCalc_mono hT b2 a2 b3 a3 r1
    rw [w1]
    cases r2
    exact ⟨_, rfl, qLe_up hu (wR_le w2)⟩
  rw [if_neg c8] at hv ⊢
  by_cases c18 : x.1 = 18
  · rw [if_pos c18] at hv ⊢
    obtain ⟨a1, a2, a3⟩ := kd _ (ki (by omega)).1
    cases hv
    exact ⟨_, rfl, qLe_up hu (wR_le (kNeg_mono hT a2 a3))⟩
  rw [if_neg c18] at hv ⊢
  by_cases c30 : x.1 = 30
  · rw [if_pos c30] at hv ⊢; cases hv; exact ⟨_, rfl, qLe_up hu (wle_refl _)⟩
  rw [if_neg c30] at hv ⊢
  by_cases c31 : x.1 = 31
  · rw [if_pos c31] at hv ⊢
    have hk1 := (ki (by omega)).1
    obtain ⟨a1, a2, a3⟩ := kd _ hk1
    obtain ⟨-, -, -, d4, -⟩ := wle_d (hu (12 + h - 1)) (by omega)
    by_cases c : (u (12 + h - 1)).2.1.2 < 0
    · rw [if_pos c] at hv; cases hv
    · rw [if_neg c] at hv
      rw [if_neg (by have := a2.2; omega)]
      cases hv
      exact ⟨_, rfl, qLe_up hu (Or.inr ⟨rfl, rle_refl _, sLe_refl _, Or.inl rfl, oOn_le d4 36⟩)⟩
  rw [if_neg c31] at hv ⊢
  by_cases c32 : x.1 = 32
  · rw [if_pos c32] at hv ⊢
    have hk2 := (kr (by omega)).1
    obtain ⟨-, -, d3, d4, -⟩ := wle_d (hu (12 + h - 1)) (by omega)
    obtain ⟨a, a1, a2⟩ := oB_some hv
    obtain ⟨l, b1, b2⟩ := oB_some a2
    obtain ⟨a', w1, w2⟩ := pDr_mono hu hc (show (u' (12 + h - 1)).1 ≠ 0 by omega) a1
    obtain ⟨l', w3, w4⟩ := pLn_mono hg hk d3 b1
    rw [w1, oB, w3, oB]
    cases b2
    exact ⟨_, rfl, qLe_up w2 (Or.inr ⟨rfl, w4, sLe_refl _, Or.inl rfl, oOn_le d4 24⟩)⟩
  rw [if_neg c32] at hv ⊢
  by_cases c33 : x.1 = 33
  · rw [if_pos c33] at hv ⊢
    obtain ⟨q1, q2, q3⟩ := k33 c33
    obtain ⟨-, -, d3, -⟩ := wle_d (hu (12 + h - 2)) (by omega)
    obtain ⟨a, a1, a2⟩ := oB_some hv
    obtain ⟨b, b1, b2⟩ := oB_some a2
    obtain ⟨l, l1, l2⟩ := oB_some b2
    obtain ⟨a', w1, w2⟩ := pDr_mono hu hc (show (u' (12 + h - 2)).1 ≠ 0 by omega) a1
    obtain ⟨y1, y2, y3⟩ := pDr_at hc w1
    obtain ⟨b', w3, w4⟩ := pIx_mono hT hg hk w2 y2 (r := 12 + h - 2) (x := 12 + h - 1) (by rw [y3]; omega) (by rw [y3]; omega) b1
    obtain ⟨l', w5, w6⟩ := fJ_mono d3 (fun n => hg.1 (2592 + n)) 54 l l1
    rw [w1, oB, w3, oB, w5, oB]
    cases l2
    exact ⟨_, rfl, qLe_up w4 w6⟩
  rw [if_neg c33] at hv ⊢
  by_cases c34 : x.1 = 34
  · rw [if_pos c34] at hv ⊢
    obtain ⟨q0, q1, q2, q3⟩ := k34 c34
    obtain ⟨-, -, d3, -⟩ := wle_d (hu (12 + h - 3)) (by omega)
    obtain ⟨a, a1, a2⟩ := oB_some hv
    obtain ⟨b, b1, b2⟩ := oB_some a2
    obtain ⟨a', w1, w2⟩ := pDr_mono hu hc (show (u' (12 + h - 3)).1 ≠ 0 by omega) a1
    obtain ⟨y1, y2, y3⟩ := pDr_at hc w1
    obtain ⟨b', w3, w4⟩ := pIx_mono hT hg hk w2 y2 (r := 12 + h - 3) (x := 12 + h - 2) (by rw [y3]; omega) (by rw [y3]; omega) b1
    rw [w1, oB, w3, oB]
    split at b2
    · rename_i hx
      cases b2
      rw [if_pos (exB_mono (fun j hj => ?_) hx)]
      · exact ⟨_, rfl, w4⟩
      · rw [Bool.and_eq_true] at hj ⊢
        refine ⟨d3 j hj.1, ?_⟩
        obtain ⟨y, hy⟩ := Option.isSome_iff_exists.mp hj.2
        obtain ⟨y', z1, -⟩ := pHl_mono (hu (12 + h - 1)) q0 hy
        rw [z1]; rfl
    · cases b2
  rw [if_neg c34] at hv ⊢
  by_cases c35 : x.1 = 35
  · rw [if_pos c35] at hv ⊢
    have hk2 := (kr (by omega)).1
    obtain ⟨-, -, d3, d4, -⟩ := wle_d (hu (12 + h - 1)) (by omega)
    obtain ⟨a, a1, a2⟩ := oB_some hv
    obtain ⟨l, b1, b2⟩ := oB_some a2
    obtain ⟨a', w1, w2⟩ := pDr_mono hu hc (show (u' (12 + h - 1)).1 ≠ 0 by omega) a1
    obtain ⟨l', w3, w4⟩ := fJ_mono d3 (fun n => hg.1 (n * 48 + x.2.1.toNat)) 54 l b1
    rw [w1, oB, w3, oB]
    cases b2
    exact ⟨_, rfl, qLe_up w2 w4⟩
  rw [if_neg c35] at hv ⊢
  by_cases c36 : x.1 = 36
  · rw [if_pos c36] at hv ⊢
    exact pDr_mono hu hc (by have := (k36 c36).2.1; omega) hv
  rw [if_neg c36] at hv ⊢
  by_cases c37 : x.1 = 37
  · rw [if_pos c37] at hv ⊢
    have hk2 := (kr (by omega)).1
    have hh1 := (kr (by omega)).2
    obtain ⟨-, -, d3, d4, -⟩ := wle_d (hu (12 + h - 1)) (by omega)
    have hm := sAnd_mono d3 (sLe_refl (sOr (pB (zUs G) (zZ G) x.2.1) (onS 62)))
    split at hv
    · rename_i hx
      rw [if_pos (sEx_mono hm hx)]
      refine qKp_mono (lc := lc) (qLe_up hu (wSt_le (hu _) hm)) (qCp_same hc (fun k => ?_) (fun k => ?_)) (by rw [qUp_at]; show (u' (12 + h - 1)).1 ≠ 0; omega) hm hv
      · by_cases e : k = 12 + h - 1
        · rw [e, qUp_at]; rfl
        · rw [qUp_ne e]
      · by_cases e : k = 12 + h - 1
        · rw [e, qUp_at]; rfl
        · rw [qUp_ne e]
    · cases hv
  rw [if_neg c37] at hv ⊢
  by_cases c38 : x.1 = 38
  · rw [if_pos c38] at hv ⊢
    have hk2 := (kr (by omega)).1
    obtain ⟨-, -, d3, d4, -⟩ := wle_d (hu (12 + h - 1)) (by omega)
    cases hv
    refine ⟨_, rfl, qLe_up hu (wR_le ⟨?_, ?_⟩)⟩
    · dsimp only
      by_cases c : sEx (sMi (u (12 + h - 1)).2.2.1 (pB (zUs G) (zZ G) x.2.1)) = true
      · rw [if_pos c, if_pos (sEx_mono (sMi_mono d3) c)]; exact Int.le_refl _
      · rw [if_neg c]; split <;> decide
    · dsimp only
      by_cases c : sEx (sAnd (u (12 + h - 1)).2.2.1 (pB (zUs G) (zZ G) x.2.1)) = true
      · rw [if_pos c, if_pos (sEx_mono (sAnd_mono d3 (sLe_refl _)) c)]; exact Int.le_refl _
      · rw [if_neg c]; split <;> decide
  rw [if_neg c38] at hv ⊢
  by_cases c39 : x.1 = 39 ∨ x.1 = 40
  · rw [if_pos c39] at hv ⊢
    obtain ⟨a, a1, a2⟩ := oB_some hv
    have hsl : x.1 = 39 ∨ sLe (u (12 + h - tkX (zBl G) x)).2.2.1 (u' (12 + h - tkX (zBl G) x)).2.2.1 := by
      rcases c39 with c | c
      · exact Or.inl c
      · exact Or.inr (wle_d (hu _) (by have := (k40 c).1; omega)).2.2.1
    obtain ⟨a', w1, w2⟩ : ∃ a', (if x.1 = 40 then pDr u' (12 + h - tkX (zBl G) x) else some u') = some a' ∧ qLe a a' := by
      by_cases c : x.1 = 40
      · rw [if_pos c] at a1 ⊢
        exact pDr_mono hu hc (by have := (k40 c).1; omega) a1
      · rw [if_neg c] at a1 ⊢
        cases a1
        exact ⟨_, rfl, hu⟩
    rw [w1, oB]
    split at a2
    · rename_i hx
      rw [if_pos (exB_mono (fun j hj => ?_) hx)]
      · by_cases c : lvX (zBl G) x = 0
        · rw [if_pos c] at a2 ⊢; cases a2; exact ⟨_, rfl, w2⟩
        · rw [if_neg c] at a2 ⊢
          obtain ⟨l, l1, l2⟩ := oB_some a2
          obtain ⟨l', w3, w4⟩ := pRt_mono hg (fun j hj => pMt_mono hsl hj) l l1
          rw [w3, oB]
          cases l2
          exact ⟨_, rfl, qLe_up w2 w4⟩
      · rw [Bool.and_eq_true] at hj ⊢
        exact ⟨pMt_mono hsl hj.1, hg.2.1 j hj.2⟩
    · cases a2
  rw [if_neg c39] at hv ⊢
  by_cases c44 : x.1 = 44
  · rw [if_pos c44] at hv ⊢; cases hv; exact ⟨_, rfl, qLe_up hu (wle_refl _)⟩
  rw [if_neg c44] at hv; cases hv
end PMO
