/-! Every step makes the measure less. -/
section PST
variable {F : Int → Prop} {dn up : Int → Int} {us : List Int} {fl : List (List Int × Nat × Int)} {bl : List jB} {z : jL} {th : Nat → Int} {n : Nat}
theorem oMi_lt (hF : thN F th n) {a c : Option jW} (ha : ∀ w, a = some w → wOk F w) (hc : ∀ w, c = some w → wOk F w) (h : oLe a c) : oMi th n c ≤ oMi th n a ∧ (c ≠ a → oMi th n c < oMi th n a) := by
  cases a with
  | none =>
    cases c with
    | none => exact ⟨Nat.le_refl _, fun q => absurd rfl q⟩
    | some w =>
      have := wRk_b hF w
      exact ⟨show wRk th n w ≤ 6401 by omega, fun _ => show wRk th n w < 6401 by omega⟩
  | some w =>
    obtain ⟨w', e, l⟩ := h w rfl
    subst e
    by_cases q : w = w'
    · rw [q]; exact ⟨Nat.le_refl _, fun q => absurd rfl q⟩
    · have := wRk_lt hF (ha w rfl) (hc w' rfl) l q
      exact ⟨show wRk th n w' ≤ wRk th n w by omega, fun _ => this⟩
theorem gOk_w {σ : jG} (h : gOk F us fl bl z σ) {k : Nat} : ∀ w, σ.1 k = some w → wOk F w := fun w hw => (h.1 k w hw).2.1.1
theorem gAd_ok {σ : jG} (h : gOk F us fl bl z σ) {k : Nat} {w : jW} (hw : vl1 F us z (zTp fl bl z k) w) : ∀ k' v, (gAd σ k w).1 k' = some v → wOk F v := by
  intro k' v hv
  unfold gAd at hv
  dsimp only at hv
  by_cases c : k' = k
  · rw [if_pos c] at hv
    cases hq : σ.1 k with
    | none => rw [hq] at hv; cases hv; exact hw.1.1
    | some a => rw [hq] at hv; cases hv; exact wJn_ok (gOk_w h a hq) hw.1.1
  · rw [if_neg c] at hv; exact gOk_w h v hv
theorem gMs_ad (hF : thN F th n) {σ : jG} (h : gOk F us fl bl z σ) {k : Nat} (hk : k < 2748) {w : jW} (hw : vl1 F us z (zTp fl bl z k) w) (hn : gAd σ k w ≠ σ) : gMs th n (gAd σ k w) < gMs th n σ := by
  have hle : ∀ k', oMi th n ((gAd σ k w).1 k') ≤ oMi th n (σ.1 k') := fun k' => (oMi_lt hF (gOk_w h) (gAd_ok h hw k') ((gAd_le σ k w).1.1 k')).1
  have hk2 : (gAd σ k w).1 k ≠ σ.1 k := by
    intro q
    apply hn
    unfold gAd at q ⊢
    dsimp only at q
    rw [if_pos rfl] at q
    refine Prod.ext (funext fun k' => ?_) rfl
    dsimp only
    by_cases c : k' = k
    · rw [if_pos c, q, c]
    · rw [if_neg c]
  have hlt := (oMi_lt hF (gOk_w h) (gAd_ok h hw k) ((gAd_le σ k w).1.1 k)).2 hk2
  have := sm_lt (f := fun k' => oMi th n ((gAd σ k w).1 k')) (g := fun k' => oMi th n (σ.1 k')) hle hlt 2748 hk
  have e2 : (gAd σ k w).2 = σ.2 := rfl
  show sm (fun k' => oMi th n ((gAd σ k w).1 k')) 2748 + sNt (gAd σ k w).2.1 48 + sm (fun b => sNt ((gAd σ k w).2.2 b) 54) 48 < sm (fun k' => oMi th n (σ.1 k')) 2748 + sNt σ.2.1 48 + sm (fun b => sNt (σ.2.2 b) 54) 48
  rw [e2]
  omega
theorem gMs_en {σ : jG} {b : Nat} (hb : b < 48) (hn : gEn σ b ≠ σ) : gMs th n (gEn σ b) < gMs th n σ := by
  have hf : σ.2.1 b = false := by
    cases q : σ.2.1 b with
    | false => rfl
    | true =>
      exfalso
      apply hn
      unfold gEn
      refine Prod.ext rfl (Prod.ext (funext fun b' => ?_) rfl)
      dsimp only
      by_cases c : b' = b
      · rw [if_pos c, c, q]
      · rw [if_neg c]
  have := sNt_lt (s := σ.2.1) (t := (gEn σ b).2.1) (fun j hj => by
    show (if j = b then true else σ.2.1 j) = true
    by_cases c : j = b
    · rw [if_pos c]
    · rw [if_neg c]; exact hj) hb hf (show (if b = b then true else σ.2.1 b) = true by rw [if_pos rfl])
  show sm (fun k' => oMi th n (σ.1 k')) 2748 + sNt (gEn σ b).2.1 48 + sm (fun b => sNt (σ.2.2 b) 54) 48 < sm (fun k' => oMi th n (σ.1 k')) 2748 + sNt σ.2.1 48 + sm (fun b => sNt (σ.2.2 b) 54) 48
  omega
theorem gMs_th {σ : jG} {b : Nat} (hb : b < 48) {s : Nat → Bool} (hs : ∀ j, s j = true → j < 54) (hn : gTh σ b s ≠ σ) : gMs th n (gTh σ b s) < gMs th n σ := by
  have hne : (gTh σ b s).2.2 b ≠ σ.2.2 b := by
    intro q
    apply hn
    unfold gTh at q ⊢
    refine Prod.ext rfl (Prod.ext rfl (funext fun b' => ?_))
    dsimp only at q ⊢
    rw [if_pos rfl] at q
    by_cases c : b' = b
    · rw [if_pos c, c, q]
    · rw [if_neg c]
  have hsl : ∀ b', sLe (σ.2.2 b') ((gTh σ b s).2.2 b') := fun b' j hj => by
    show (if b' = b then sOr (σ.2.2 b) s else σ.2.2 b') j = true
    by_cases c : b' = b
    · rw [if_pos c]
      rw [c] at hj
      show (σ.2.2 b j || s j) = true
      rw [hj, Bool.true_or]
    · rw [if_neg c]; exact hj
  obtain ⟨k, k1, k2⟩ := sLe_ne (hsl b) (fun q => hne q.symm)
  have k3 : k < 54 := by
    have k2 : (if b = b then sOr (σ.2.2 b) s else σ.2.2 b) k = true := k2
    rw [if_pos rfl] at k2
    have k2 : (σ.2.2 b k || s k) = true := k2
    rw [k1, Bool.false_or] at k2
    exact hs k k2
  have := sm_lt (f := fun b' => sNt ((gTh σ b s).2.2 b') 54) (g := fun b' => sNt (σ.2.2 b') 54) (fun b' => sNt_m (hsl b') 54) (k := b) (sNt_lt (hsl b) k3 k1 k2) 48 hb
  show sm (fun k' => oMi th n (σ.1 k')) 2748 + sNt σ.2.1 48 + sm (fun b' => sNt ((gTh σ b s).2.2 b') 54) 48 < sm (fun k' => oMi th n (σ.1 k')) 2748 + sNt σ.2.1 48 + sm (fun b => sNt (σ.2.2 b) 54) 48
  omega
theorem aMs_arr (hF : thN F th n) {A : jA} {j : Nat} (hj : j < 1024) {w : jQ} (hA : ∀ u, A j = some u → (∀ k, wOk F (u k)) ∧ ∀ k, 20 ≤ k → u k = wU) (hw : (∀ k, wOk F (w k)) ∧ ∀ k, 20 ≤ k → w k = wU) : aMs th n (aArr A j w) ≤ aMs th n A ∧ (aArr A j w ≠ A → aMs th n (aArr A j w) < aMs th n A) := by
  have key : aMi th n (aArr A j w j) ≤ aMi th n (A j) ∧ (aArr A j w j ≠ A j → aMi th n (aArr A j w j) < aMi th n (A j)) := by
    rw [aArr_at]
    cases hq : A j with
    | none =>
      have := sm_b (f := fun k => wRk th n (w k)) (fun k => wRk_b hF (w k)) 20
      exact ⟨show sm (fun k => wRk th n (w k)) 20 ≤ 128001 by omega, fun _ => show sm (fun k => wRk th n (w k)) 20 < 128001 by omega⟩
    | some u =>
      obtain ⟨u1, u2⟩ := hA u hq
      have hle : ∀ k, wRk th n (wJn (u k) (w k)) ≤ wRk th n (u k) := fun k => by
        by_cases c : u k = wJn (u k) (w k)
        · rw [← c]; exact Nat.le_refl _
        · exact Nat.le_of_lt (wRk_lt hF (u1 k) (wJn_ok (u1 k) (hw.1 k)) (wJn_ub _ _).1 c)
      refine ⟨sm_le hle 20, fun q => ?_⟩
      have : ∃ k, wJn (u k) (w k) ≠ u k := by
        refine Classical.byContradiction fun q' => q ?_
        show some (fun k => wJn (u k) (w k)) = some u
        congr 1
        funext k
        exact Classical.byContradiction fun q'' => q' ⟨k, q''⟩
      obtain ⟨k, hk⟩ := this
      have h20 : k < 20 := by
        refine Classical.byContradiction fun c => hk ?_
        rw [u2 k (by omega), hw.2 k (by omega)]; rfl
      exact sm_lt (f := fun k => wRk th n (wJn (u k) (w k))) (g := fun k => wRk th n (u k)) hle (k := k) (wRk_lt hF (u1 k) (wJn_ok (u1 k) (hw.1 k)) (wJn_ub _ _).1 (fun q => hk q.symm)) 20 h20
  have hle : ∀ i, aMi th n (aArr A j w i) ≤ aMi th n (A i) := fun i => by
    by_cases c : i = j
    · rw [c]; exact key.1
    · rw [aArr_ne c]; exact Nat.le_refl _
  refine ⟨sm_le hle 1024, fun q => sm_lt (f := fun i => aMi th n (aArr A j w i)) (g := fun i => aMi th n (A i)) hle (k := j) (key.2 fun e => q ?_) 1024 hj⟩
  funext i
  by_cases c : i = j
  · rw [c]; exact e
  · rw [aArr_ne c]
end PST
/-- a change is noted, and makes the measure less -/
def gCg (th : Nat → Int) (n : Nat) (σ σ' : jG) (C C' : jH) : Prop := (sLe C.1 C'.1 ∧ sLe C.2.1 C'.2.1 ∧ sLe C.2.2 C'.2.2)
  ∧ (∀ s f, f < 48 → s < 54 → σ'.1 (s * 48 + f) ≠ σ.1 (s * 48 + f) → C'.1 f = true)
  ∧ (∀ s, s < 54 → σ'.1 (2592 + s) ≠ σ.1 (2592 + s) ∨ σ'.1 (2646 + s) ≠ σ.1 (2646 + s) → C'.2.1 s = true)
  ∧ (∀ b, b < 48 → σ'.1 (2700 + b) ≠ σ.1 (2700 + b) ∨ σ'.2.1 b ≠ σ.2.1 b ∨ σ'.2.2 b ≠ σ.2.2 b → C'.2.2 b = true)
  ∧ ((σ' = σ ∧ C' = C) ∨ gMs th n σ' < gMs th n σ)
theorem gCg_rfl {th : Nat → Int} {n : Nat} {σ : jG} {C : jH} : gCg th n σ σ C C := ⟨⟨fun _ h => h, fun _ h => h, fun _ h => h⟩, fun _ _ _ _ h => absurd rfl h, fun _ _ h => by rcases h with h | h <;> exact absurd rfl h, fun _ _ h => by rcases h with h | h | h <;> exact absurd rfl h, Or.inl ⟨rfl, rfl⟩⟩
theorem gCg_trans {th : Nat → Int} {n : Nat} {σ1 σ2 σ3 : jG} {C1 C2 C3 : jH} (h : gCg th n σ1 σ2 C1 C2) (k : gCg th n σ2 σ3 C2 C3) : gCg th n σ1 σ3 C1 C3 := by
  obtain ⟨⟨a1, a2, a3⟩, a4, a5, a6, a7⟩ := h
  obtain ⟨⟨b1, b2, b3⟩, b4, b5, b6, b7⟩ := k
  refine ⟨⟨fun j q => b1 j (a1 j q), fun j q => b2 j (a2 j q), fun j q => b3 j (a3 j q)⟩, fun s f h1 h2 q => ?_, fun s h1 q => ?_, fun b h1 q => ?_, ?_⟩
  · by_cases c : σ2.1 (s * 48 + f) = σ1.1 (s * 48 + f)
    · exact b4 s f h1 h2 (by rw [c]; exact q)
    · exact b1 f (a4 s f h1 h2 c)
  · by_cases c : σ2.1 (2592 + s) = σ1.1 (2592 + s) ∧ σ2.1 (2646 + s) = σ1.1 (2646 + s)
    · exact b5 s h1 (by rw [c.1, c.2]; exact q)
    · refine b2 s (a5 s h1 ?_)
      by_cases d : σ2.1 (2592 + s) = σ1.1 (2592 + s)
      · exact Or.inr (fun e => c ⟨d, e⟩)
      · exact Or.inl d
  · by_cases c : σ2.1 (2700 + b) = σ1.1 (2700 + b) ∧ σ2.2.1 b = σ1.2.1 b ∧ σ2.2.2 b = σ1.2.2 b
    · exact b6 b h1 (by rw [c.1, c.2.1, c.2.2]; exact q)
    · refine b3 b (a6 b h1 ?_)
      by_cases d : σ2.1 (2700 + b) = σ1.1 (2700 + b)
      · by_cases e : σ2.2.1 b = σ1.2.1 b
        · exact Or.inr (Or.inr (fun g => c ⟨d, e, g⟩))
        · exact Or.inr (Or.inl e)
      · exact Or.inl d
  · rcases a7 with a7 | a7
    · rw [a7.1, a7.2] at b7
      exact b7
    · rcases b7 with b7 | b7
      · rw [b7.1]; exact Or.inr a7
      · exact Or.inr (by omega)
