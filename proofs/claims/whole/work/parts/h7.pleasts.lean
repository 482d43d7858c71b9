/-! The proof: what the bits mean, in the least solution. -/
section PLX
variable {ns : List (List Int)} {us : List Int} {fl : List (List Int × Nat × Int)} {bl : List jB} {z : jL} {el : List (Nat × Nat × Nat × Nat)} {F : Int → Prop} {dn up : Int → Int} {H lc : Nat → Nat} {ty : Nat → Option (Nat → Int)} {th : Nat → Int} {n m0 : Nat}
theorem tXl_g {σ : jG} (hg : gOk F us fl bl z σ) (h : ∀ s w, s < 54 → σ.1 (2646 + s) = some w → 0 ≤ w.2.1.1) : tXl σ := ⟨fun k w q => wX_n (hg.1 k w q).2.2.2.1, h⟩
theorem lst_A (h : pCx F dn up ns us fl bl z el H lc ty) (hF : thN F th n) : ∀ (M : Nat) (A : jA) (σ : jG), aMs th n A + gMs th n σ < M → pIn F (dn, up, (ns, us, fl, bl, z, el), H) lc ty m0 A σ → (∀ i u, A i = some u → qX u) → (∀ s w, s < 54 → σ.1 (2646 + s) = some w → 0 ≤ w.2.1.1) → ∃ A' σ', pIn F (dn, up, (ns, us, fl, bl, z, el), H) lc ty m0 A' σ' ∧ (∀ i u, A' i = some u → qX u) ∧ ∀ i, pCl (dn, up, (ns, us, fl, bl, z, el), H) lc A' σ' i := by
  intro M
  induction M with
  | zero => intro A σ q; omega
  | succ M ih =>
    intro A σ hM hI hA hL
    apply Classical.byContradiction
    intro hno
    refine hno ⟨A, σ, hI, hA, fun i x u hx hu => ?_⟩
    have hx : z.1[i]? = some x := hx
    obtain ⟨x', hl⟩ := pLk_of hI hu
    have ex : x' = x := by
      have := hl.1
      have : z.1[i]? = some x' := this
      rw [hx] at this
      cases this; rfl
    rw [ex] at hl
    obtain ⟨-, ⟨t, ht, hrw⟩, hg, -⟩ := id hl
    have ht : ty i = some t := ht
    have hrw : rOw F us z (lc i) (H i) t u := hrw
    have hg : gOk F us fl bl z σ := hg
    obtain ⟨xb, e, ⟨p1, p2, p3, p4, p5, p6⟩, -, -, -, -, ⟨d1, -⟩, ⟨l1, l2, l3, l4, l5⟩, -⟩ := pAt h hx ht
    have hT := h.1
    have hsl := tXl_g hg hL
    have hb48 : x.2.2.2.1 < 48 := by have := at_lt p3; omega
    have h62 : x.1 = 31 → x.2.2.1.toNat ≠ 62 := fun q => by
      obtain ⟨k, s, q1, q2, q3⟩ := p1.2.2.2.2.2.2.2.1 (Or.inr q)
      have := at_lt q2
      rw [q1, Int.toNat_natCast]
      omega
    have hco : ∀ k, oLe (pCo (dn, up, (ns, us, fl, bl, z, el), H) σ x (H i) u k) (σ.1 k) := by
      intro k w hw
      apply Classical.byContradiction
      intro hn
      obtain ⟨k1, k2⟩ := pCo_ok h hx ht hrw.1 hw
      have hI1 := pIn_ad h hI hl hw (pCo_tp h hx ht hrw.1 hw).1
      have hms := gMs_ad hF hg k1 k2 (fun q => by
        have := (gAd_le σ k w).2 w rfl
        rw [q] at this
        exact hn this)
      refine hno (ih A (gAd σ k w) (by omega) hI1 hA (fun s v hs hv => ?_))
      by_cases ek : 2646 + s = k
      · rw [ek, gAd_at] at hv
        rw [← ek] at hw
        have hw0 := pCo_lo hs hw
        cases hq : σ.1 k with
        | none => rw [hq] at hv; cases hv; exact hw0
        | some v0 =>
          rw [hq] at hv
          cases hv
          exact wJn_lo (hL s v0 hs (by rw [ek]; exact hq)) hw0
      · rw [gAd_ne ek] at hv
        exact hL s v hs hv
    refine ⟨fun j w hE => ?_, hco, fun h42 => ?_, ?_⟩
    · apply Classical.byContradiction
      intro hn
      obtain ⟨q1, q2, q3, x', t', q4, q5, q6⟩ := pIn_arr h hI hl hE
      obtain ⟨xb', e', ⟨-, r2, -, -, -, r6⟩, ⟨-, -, r8⟩, -⟩ := pAt h q4 q5
      have r20 : ∀ k, 20 ≤ k → ¬ rel (lc j) (H j) k := fun k hk q => by
        unfold rel at q
        omega
      have hms := aMs_arr hF r2 (A := A) (w := w) (fun u' q => by
        obtain ⟨x1, t1, s1, s2, s3⟩ := hI.1 j u' q
        exact ⟨s3.1.1, fun k hk => s3.2 k (r20 k hk)⟩) ⟨q6.1.1, fun k hk => q6.2 k (r20 k hk)⟩
      have hlt := hms.2 (fun q => by rw [q] at q3; exact hn q3)
      refine hno (ih (aArr A j w) σ (by omega) q1 (fun i' u' q => ?_) hL)
      have hwX : qX w := pEd_X (G := (dn, up, (ns, us, fl, bl, z, el), H)) hT hrw.1.1 hrw.1.2.2.2 hsl (hA i u hu) h62 hE
      by_cases e1 : i' = j
      · rw [e1, aArr_at] at q
        cases q
        cases hAj : A j with
        | none => exact hwX
        | some t0 => exact fun k => wX_J (hA j t0 hAj k) (hwX k)
      · rw [aArr_ne e1] at q
        exact hA i' u' q
    · apply Classical.byContradiction
      intro hn
      have hI1 := pIn_en h hI hl h42 (fun y hy hr => by
        rcases h42 with q | q
        · intro hnone
          have : pCo (dn, up, (ns, us, fl, bl, z, el), H) σ x (H i) u (2700 + x.2.2.2.1) = some (wBr (u (12 + H i - 1))) := by
            unfold pCo
            rw [if_neg (by omega), if_neg (by omega), if_neg (by omega), if_neg (by omega), if_pos q, if_pos rfl]
          obtain ⟨w', w1, -⟩ := hco _ _ this
          rw [hnone] at w1
          cases w1
        · have hrs : xb.rs = -1 := by
            unfold tHo at d1
            rw [if_neg (by omega), if_neg (by omega), if_pos q] at d1
            exact of_decide_eq_true d1
          rw [p3] at hy
          cases hy
          exact absurd hrs hr)
      have hms := gMs_en (th := th) (n := n) (σ := σ) hb48 (fun q => hn (by
        have : (gEn σ x.2.2.2.1).2.1 x.2.2.2.1 = true := by unfold gEn; dsimp only; rw [if_pos rfl]
        rw [q] at this
        exact this))
      exact hno (ih A (gEn σ x.2.2.2.1) (by omega) hI1 hA hL)
    · apply Classical.byContradiction
      intro hn
      have hI1 := pIn_th h hI hl
      have hms := gMs_th (th := th) (n := n) (σ := σ) hb48 (s := pEs (dn, up, (ns, us, fl, bl, z, el), H) σ i x (H i) u) (fun j hj => by
        have := pEs_ok h hg hx ht hrw.1 hj
        unfold sVd at this
        rw [Bool.or_eq_true, Bool.and_eq_true] at this
        rcases this with q | ⟨-, q⟩
        · have := of_decide_eq_true q; omega
        · exact of_decide_eq_true q) (fun q => hn (fun j hj => by
        have : (gTh σ x.2.2.2.1 (pEs (dn, up, (ns, us, fl, bl, z, el), H) σ i x (H i) u)).2.2 x.2.2.2.1 j = true := by
          unfold gTh; dsimp only; rw [if_pos rfl]
          unfold sOr
          rw [hj, Bool.or_true]
        rw [q] at this
        exact this))
      exact hno (ih A (gTh σ x.2.2.2.1 (pEs (dn, up, (ns, us, fl, bl, z, el), H) σ i x (H i) u)) (by omega) hI1 hA hL)
/-- the state where nothing is known yet -/
theorem lst_0 {G : jZ} {A : jA} {σ : jG} (hI : pIn F G lc ty m0 A σ) : pIn F G lc ty m0 (fun i => if i = m0 then some (fun _ => wU) else none) (fun _ => none, fun _ => false, fun _ _ => false) := by
  obtain ⟨u, hu, hq⟩ := hI.2.2.1
  obtain ⟨x, t, q1, q2, q3⟩ := hI.1 m0 u hu
  have hu0 : ∀ k, (u k).1 = 0 := fun k => by
    rcases hq k with r | r
    · exact r
    · exact r.1.symm
  refine ⟨fun i u' q => ?_, ⟨(fun k w q => by cases q), (fun b s q => by cases q), (fun b y q => by cases q)⟩, ⟨fun _ => wU, if_pos rfl, qLe_refl _⟩, fun B τ hB => ⟨fun i u' q => ?_, ⟨(fun k w q => by cases q), (fun b q => by cases q), (fun b s q => by cases q)⟩⟩⟩
  · dsimp only at q
    split at q
    · rename_i e
      cases q
      refine ⟨x, t, by rw [e]; exact q1, by rw [e]; exact q2, ⟨fun k => wU_ok, (fun s k r => by cases r), fun k => ?_, (fun k j r => by cases r)⟩, fun _ _ => rfl⟩
      have := q3.1.2.2.1 k
      refine ⟨fun r => ?_, fun r => ?_⟩
      · have := this.1 r
        rw [hu0 k] at this
        cases this
      · have := (this.2 r).1
        rw [hu0 k] at this
        cases this
    · cases q
  · dsimp only at q
    split at q
    · rename_i e
      cases q
      obtain ⟨v, v1, v2⟩ := hB.2.2.1
      exact ⟨v, by rw [e]; exact v1, v2⟩
    · cases q
/-- what the bits mean -/
theorem lst_X (h : pCx F dn up ns us fl bl z el H lc ty) (hF : thN F th n) {A : jA} {σ : jG} (hI : pIn F (dn, up, (ns, us, fl, bl, z, el), H) lc ty m0 A σ) (hC : ∀ i, pCl (dn, up, (ns, us, fl, bl, z, el), H) lc A σ i) {i : Nat} {u : jQ} (hu : A i = some u) : qX u := by
  obtain ⟨A', σ', a1, a2, a3⟩ := lst_A h hF (aMs th n (fun i => if i = m0 then some (fun _ => wU) else none) + gMs th n (fun _ => none, fun _ => false, fun _ _ => false) + 1) _ _ (Nat.lt_succ_self _) (lst_0 hI) (fun i u q => by
    split at q
    · cases q; exact fun _ => wX_U
    · cases q) (fun s w hs q => by cases q)
  obtain ⟨e1, e2⟩ := pSl_u hI a1 hC a3
  exact a2 i u (by rw [← e1]; exact hu)
end PLX
