/-! The class throws what is loose. -/
section CTL
variable {ns : List (List Int)} {us : List Int} {fl : List (List Int × Nat × Int)} {bl : List jB} {z : jL} {el : List (Nat × Nat × Nat × Nat)} {F : Int → Prop} {dn up : Int → Int} {H lc : Nat → Nat} {ty : Nat → Option (Nat → Int)} {th : Nat → Int} {n Q m0 : Nat} {S : nk_S} {A : jA} {W : Nat → Bool} {σ : jG} {C : jH} {i : Nat} {x : jC} {u : jQ}
theorem pIn_arr0 {G : jZ} (hG : zUs G = us ∧ zZ G = z ∧ zH G = H) (hI : pIn F G lc ty m0 A σ) {j : Nat} {w : jQ} {x' : jC} {t' : Nat → Int} (hx' : z.1[j]? = some x') (ht' : ty j = some t') (hw : rOw F us z (lc j) (H j) t' w) (hB : ∀ B τ, pSl F G lc ty m0 B τ → ∃ t, B j = some t ∧ qLe w t) : pIn F G lc ty m0 (aArr A j w) σ := by
  obtain ⟨g1, g2, g3⟩ := hG
  subst g1 g2 g3
  obtain ⟨h1, h2, ⟨u0, h3, h4⟩, h5⟩ := hI
  refine ⟨fun i' v q => ?_, h2, ?_, fun B τ hs => ⟨fun i' v q => ?_, (h5 B τ hs).2⟩⟩
  · by_cases e : i' = j
    · rw [e, aArr_at] at q
      rw [e]
      cases q
      refine ⟨x', t', hx', ht', ?_⟩
      cases hA : A j with
      | none => exact hw
      | some a =>
        obtain ⟨x2, t2, q1, q2, q3⟩ := h1 j a hA
        rw [ht'] at q2
        cases q2
        exact wJn_w q3 hw
    · rw [aArr_ne e] at q
      exact h1 i' v q
  · obtain ⟨t, t1, t2⟩ := (aLe_arr A j w).1 m0 u0 h3
    exact ⟨t, t1, qLe_trans h4 t2⟩
  · obtain ⟨t, t1, t2⟩ := hB B τ hs
    by_cases e : i' = j
    · rw [e, aArr_at] at q
      rw [e]
      cases q
      refine ⟨t, t1, ?_⟩
      cases hA : A j with
      | none => exact t2
      | some a =>
        obtain ⟨t3, q1, q2⟩ := (h5 B τ hs).1 j a hA
        rw [t1] at q1
        cases q1
        exact fun k => wJn_lub (q2 k) (t2 k)
    · rw [aArr_ne e] at q
      exact (h5 B τ hs).1 i' v q
/-- what a catch takes -/
theorem pIn_ct (h : pCx F dn up ns us fl bl z el H lc ty) (hI : pIn F (dn, up, (ns, us, fl, bl, z, el), H) lc ty m0 A σ) {uc : jQ} (hA : A i = some uc) (hx : z.1[i]? = some x) {L : Nat → Bool} (hL : sLe L (pLs (dn, up, (ns, us, fl, bl, z, el), H) σ x (H i) uc)) {k : Nat} {y : Nat × Nat × Nat × Nat × Nat} (hy : z.2.2.1[k]? = some y) (h1 : y.1 = x.2.2.2.1) (h2 : y.2.1 ≤ i) (h3 : i < y.2.2.1) (hH : H y.2.2.2.1 = 1) (hn : sEx (sAnd (pLf us z x.2.2.2.1 i L k) (pB us z (4 + 2 * (y.2.2.2.2 : Int)))) = true) : (∀ k', wOk F (qUp uc 12 (wS (sAnd (pLf us z x.2.2.2.1 i L k) (pB us z (4 + 2 * (y.2.2.2.2 : Int))))) k')) ∧ pIn F (dn, up, (ns, us, fl, bl, z, el), H) lc ty m0 (aArr A y.2.2.2.1 (qRs (lc y.2.2.2.1) (H y.2.2.2.1) (qUp uc 12 (wS (sAnd (pLf us z x.2.2.2.1 i L k) (pB us z (4 + 2 * (y.2.2.2.2 : Int)))))))) σ := by
  obtain ⟨x2, hlk⟩ := pLk_of hI hA
  have ex : x2 = x := by
    have q : z.1[i]? = some x2 := hlk.1
    rw [hx] at q; cases q; rfl
  subst ex
  obtain ⟨-, ⟨t, ht, hr⟩, hg0, -⟩ := id hlk
  have ht : ty i = some t := ht
  have hr : rOw F us z (lc i) (H i) t uc := hr
  obtain ⟨s, hs⟩ : ∃ s, s = sAnd (pLf us z x2.2.2.2.1 i L k) (pB us z (4 + 2 * (y.2.2.2.2 : Int))) := ⟨_, rfl⟩
  obtain ⟨s', hs'⟩ : ∃ s', s' = sAnd (pLf us z x2.2.2.2.1 i (pLs (dn, up, (ns, us, fl, bl, z, el), H) σ x2 (H i) uc) k) (pB us z (4 + 2 * (y.2.2.2.2 : Int))) := ⟨_, rfl⟩
  have hss : sLe s s' := by
    rw [hs, hs']
    intro j q
    unfold sAnd at q ⊢
    rw [Bool.and_eq_true] at q ⊢
    exact ⟨pLf_mono hL k j q.1, q.2⟩
  rw [← hs] at hn ⊢
  obtain ⟨j0, j1, j2⟩ := sEx_iff.mp hn
  have hn' : sEx s' = true := sEx_iff.mpr ⟨j0, j1, hss j0 j2⟩
  have hE : pEd (dn, up, (ns, us, fl, bl, z, el), H) σ i x2 uc lc y.2.2.2.1 (qRs (lc y.2.2.2.1) (H y.2.2.2.1) (qUp uc 12 (wS s'))) := Or.inr (Or.inr (Or.inl ⟨k, y, hy, h1, h2, h3, rfl, by rw [← hs']; exact hn', by rw [← hs']⟩))
  obtain ⟨x', t', q1, q2, q3⟩ := pEd_ok h hg0 hx ht hr.1 hE
  have r12 : rel (lc y.2.2.2.1) (H y.2.2.2.1) 12 := by rw [hH]; unfold rel; omega
  have a12 : qRs (lc y.2.2.2.1) (H y.2.2.2.1) (qUp uc 12 (wS s')) 12 = wS s' := by unfold qRs; rw [if_pos r12, qUp_at]
  have u12 := vOk_1 q3.1 12
  rw [a12] at u12
  have hsub := u1_sub u12 rfl (s := s) hss ⟨j0, j2⟩
  have eS : wSt (wS s') s = wS s := rfl
  rw [eS] at hsub
  have eW : qRs (lc y.2.2.2.1) (H y.2.2.2.1) (qUp uc 12 (wS s)) = qUp (qRs (lc y.2.2.2.1) (H y.2.2.2.1) (qUp uc 12 (wS s'))) 12 (wS s) := by
    funext k'
    by_cases e : k' = 12
    · rw [e, qUp_at]; unfold qRs; rw [if_pos r12, qUp_at]
    · rw [qUp_ne e]; unfold qRs; rw [qUp_ne e, qUp_ne e]
  have hrw : rOw F us z (lc y.2.2.2.1) (H y.2.2.2.1) t' (qRs (lc y.2.2.2.1) (H y.2.2.2.1) (qUp uc 12 (wS s))) := by
    rw [eW]
    refine ⟨vOk_sl q3.1 hsub (by rw [a12]; exact ⟨rfl, rfl⟩), fun k' hk' => ?_⟩
    have e : k' ≠ 12 := fun e => hk' (by rw [e]; exact r12)
    rw [qUp_ne e]
    exact q3.2 k' hk'
  refine ⟨fun k' => ?_, pIn_arr0 ⟨rfl, rfl, rfl⟩ hI q1 q2 hrw (fun B τ hs => ?_)⟩
  · by_cases e : k' = 12
    · rw [e, qUp_at]; exact hsub.1
    · rw [qUp_ne e]; exact hr.1.1 k'
  · obtain ⟨b, b1, b2⟩ := (pSl_ed h hlk hs).1 _ _ hE
    refine ⟨b, b1, qLe_trans (fun k' => ?_) b2⟩
    unfold qRs
    split
    · by_cases e : k' = 12
      · rw [e, qUp_at, qUp_at]
        exact Or.inr ⟨rfl, rle_refl _, hss, Or.inr rfl, sLe_refl _⟩
      · rw [qUp_ne e, qUp_ne e]; exact wle_refl _
    · exact wle_refl _
theorem rel_h0 {l h k : Nat} (q : rel l 0 k) : rel l h k := by unfold rel at q ⊢; omega
/-- what the catches take of what is loose -/
def ctI (G : jZ) (i : Nat) (x : jC) (u : jQ) (lc : Nat → Nat) (L : Nat → Bool) (A : jA) (c : Nat) : Prop := ∀ (k : Nat) (y : Nat × Nat × Nat × Nat × Nat), k < c → (zZ G).2.2.1[k]? = some y → y.1 = x.2.2.2.1 → y.2.1 ≤ i → i < y.2.2.1 → sEx (sAnd (pLf (zUs G) (zZ G) x.2.2.2.1 i L k) (pB (zUs G) (zZ G) (4 + 2 * (y.2.2.2.2 : Int)))) = true → ∃ t, A y.2.2.2.1 = some t ∧ qLe (qRs (lc y.2.2.2.1) (zH G y.2.2.2.1) (qUp u 12 (wS (sAnd (pLf (zUs G) (zZ G) x.2.2.2.1 i L k) (pB (zUs G) (zZ G) (4 + 2 * (y.2.2.2.2 : Int))))))) t
theorem ctI_m {G : jZ} {L : Nat → Bool} {A A' : jA} {c : Nat} (h : aLe A A') (k : ctI G i x u lc L A c) : ctI G i x u lc L A' c := fun k' y q1 q2 q3 q4 q5 q6 => by
  obtain ⟨t, t1, t2⟩ := k k' y q1 q2 q3 q4 q5 q6
  obtain ⟨v, v1, v2⟩ := h _ t t1
  exact ⟨v, v1, qLe_trans t2 v2⟩
/-- a catch takes nothing -/
theorem pLf_no {b : Nat} {L : Nat → Bool} {c : Nat} {y : Nat × Nat × Nat × Nat × Nat} (hy : z.2.2.1[c]? = some y) (hL : ∀ j, L j = true → j < 63) (hn : y.1 = b ∧ y.2.1 ≤ i ∧ i < y.2.2.1 → sEx (sAnd (pLf us z b i L c) (pB us z (4 + 2 * (y.2.2.2.2 : Int)))) = false) : pLf us z b i L (c + 1) = pLf us z b i L c := by
  rw [pLf, hy]
  dsimp only
  split
  · rename_i q
    have h1 := hn q
    funext j
    unfold sMi
    cases hp : pLf us z b i L c j with
    | false => rfl
    | true =>
      cases hq : pB us z (4 + 2 * (y.2.2.2.2 : Int)) j with
      | false => rfl
      | true =>
        have : sEx (sAnd (pLf us z b i L c) (pB us z (4 + 2 * (y.2.2.2.2 : Int)))) = true := sEx_iff.mpr ⟨j, hL j (pLf_sub c j hp), by unfold sAnd; rw [hp, hq]; rfl⟩
        rw [this] at h1; cases h1
  · rfl
/-- behind the last catch of a body, or with nothing left, nothing more is taken -/
theorem pLf_end {b : Nat} {L : Nat → Bool} {c : Nat} (hL : ∀ j, L j = true → j < 63) (hn : (∀ (k : Nat) (y : Nat × Nat × Nat × Nat × Nat), c ≤ k → z.2.2.1[k]? = some y → y.1 ≠ b) ∨ ∀ j, pLf us z b i L c j = false) : ∀ d, pLf us z b i L (c + d) = pLf us z b i L c ∧ ∀ (k : Nat) (y : Nat × Nat × Nat × Nat × Nat), c ≤ k → k < c + d → z.2.2.1[k]? = some y → y.1 = b → sEx (sAnd (pLf us z b i L k) (pB us z (4 + 2 * (y.2.2.2.2 : Int)))) = false := by
  have emp : ∀ (M : Nat → Bool) (B : Nat → Bool), (∀ j, M j = false) → sEx (sAnd M B) = false := fun M B hM => by
    cases q : sEx (sAnd M B) with
    | false => rfl
    | true =>
      obtain ⟨j, -, j2⟩ := sEx_iff.mp q
      unfold sAnd at j2
      rw [hM j] at j2; cases j2
  intro d
  induction d with
  | zero => exact ⟨rfl, fun k y h1 h2 => by omega⟩
  | succ d ih =>
    obtain ⟨i1, i2⟩ := ih
    have last : ∀ y, z.2.2.1[c + d]? = some y → y.1 = b → sEx (sAnd (pLf us z b i L (c + d)) (pB us z (4 + 2 * (y.2.2.2.2 : Int)))) = false := fun y hy hb => by
      rcases hn with q | q
      · exact absurd hb (q (c + d) y (by omega) hy)
      · rw [i1]; exact emp _ _ q
    refine ⟨?_, fun k y h1 h2 h3 h4 => ?_⟩
    · rw [← i1]
      cases hy : z.2.2.1[c + d]? with
      | none => rw [← Nat.add_assoc, pLf, hy]
      | some y => exact pLf_no hy hL (fun q => last y hy q.1)
    · by_cases e : k = c + d
      · rw [e] at h3 ⊢; exact last y h3 h4
      · exact i2 k y h1 (by omega) h3 h4
end CTL
