/-! The reference's rounds: one look more. -/
/-- an instruction is closed, and what was found at it is right -/
def rkD (G : jZ) (lc : Nat → Nat) (P : Nat) (S : nk_S) (A : jA) (σ : jG) (R : jA) (i : Nat) (x : jC) (u : jQ) : Prop := cI (S.1 (P + 37) i) (fun e => pFd G σ x (zH G i) u e || (decide (e = 9) && !pMv G σ x (zH G i) u)) ∧ cV (S.1 (P + 38) i) (pEs G σ i x (zH G i) u) ∧ rkC G lc σ A σ R i x u
/-- what holds all the time of a round -/
def rdI (F : Int → Prop) (dn up : Int → Int) (ns : List (List Int)) (us : List Int) (fl : List (List Int × Nat × Int)) (bl : List jB) (z : jL) (el : List (Nat × Nat × Nat × Nat)) (H lc : Nat → Nat) (ty : Nat → Option (Nat → Int)) (m0 P : Nat) (S : nk_S) (A : jA) (D : Nat → Bool) (σ : jG) (R : jA) : Prop := rkI F dn up ns us fl bl z el H lc ty m0 P S A D σ R ∧ (∀ i, D i = true → A i ≠ none) ∧ (∀ i x, z.1[i]? = some x → A i = none → S.1 (P + 37) i = 0 ∧ S.1 (P + 38) i = 0) ∧ (S.1 121 36 = 0 ∨ S.1 121 36 = 1) ∧ (S.1 121 37 = 0 ∨ S.1 121 37 = 1)
/-- what bodies are begun with is there -/
def rdE (el : List (Nat × Nat × Nat × Nat)) (A R : jA) : Prop := ∀ b e r, el[b]? = some e → R b = some r → ∃ t, A e.1 = some t ∧ qLe r t
/-- how much can still change -/
def rdM (th : Nat → Int) (n : Nat) (A : jA) (σ : jG) (R : jA) : Nat := aMs th n A + (gMs th n σ + aMs th n R)
/-- in a round, before the instruction k -/
def rdK (th : Nat → Int) (n : Nat) (G : jZ) (lc : Nat → Nat) (P : Nat) (vc : Int) (M0 k : Nat) (S : nk_S) (A : jA) (D : Nat → Bool) (σ : jG) (R : jA) : Prop := (S.1 121 37 = 1 ∨ ((∀ i x u, i < k ∨ vc = 0 → (zZ G).1[i]? = some x → A i = some u → D i = true ∨ rkD G lc P S A σ R i x u) ∧ rdE (zEl G) A R)) ∧ (S.1 121 36 = 1 ∨ ∀ i, i < k → D i = false) ∧ rdM th n A σ R ≤ M0 ∧ ((S.1 121 36 = 0 ∧ S.1 121 37 = 0) ∨ rdM th n A σ R < M0)
/-- what changes in a round -/
def rdF (P : Nat) (S S' : nk_S) : Prop := S'.2 = S.2 ∧ (∀ a, ¬ (P + 27 ≤ a ∧ a ≤ P + 45) → (a < 229 ∨ 238 < a) → a ≠ 121 → S'.1 a = S.1 a) ∧ ∀ f, f ≠ 25 → f ≠ 36 → f ≠ 37 → f ≠ 38 → f ≠ 39 → f ≠ 40 → S'.1 121 f = S.1 121 f
section RRD
variable {ns : List (List Int)} {us : List Int} {fl : List (List Int × Nat × Int)} {bl : List jB} {z : jL} {el : List (Nat × Nat × Nat × Nat)} {F : Int → Prop} {dn up : Int → Int} {H lc : Nat → Nat} {ty : Nat → Option (Nat → Int)} {th : Nat → Int} {n P m0 M0 : Nat} {σ : jG} {i k : Nat} {x : jC} {u : jQ} {S S3 S' : nk_S} {A R : jA} {D : Nat → Bool} {vc : Int}
theorem rdF_rfl {S : nk_S} : rdF P S S := ⟨rfl, fun _ _ _ _ => rfl, fun _ _ _ _ _ _ _ => rfl⟩
theorem rdF_trans {S1 S2 S3 : nk_S} (h : rdF P S1 S2) (q : rdF P S2 S3) : rdF P S1 S3 := ⟨q.1.trans h.1, fun a r x y => (q.2.1 a r x y).trans (h.2.1 a r x y), fun f r x y z w v => (q.2.2 f r x y z w v).trans (h.2.2 f r x y z w v)⟩
theorem rkC_m {G : jZ} {A' : jA} (h : rkC G lc σ A σ R i x u) (ha : aLe A A') : rkC G lc σ A' σ R i x u := by
  obtain ⟨h1, h2⟩ := h
  refine ⟨fun j w hE => ?_, h2⟩
  rcases h1 j w hE with ⟨t, t1, t2⟩ | q
  · obtain ⟨v, v1, v2⟩ := ha j t t1
    exact Or.inl ⟨v, v1, qLe_trans t2 v2⟩
  · exact Or.inr q
theorem rdE_m {A' : jA} (h : rdE el A R) (ha : aLe A A') : rdE el A' R := fun b e r h1 h2 => by
  obtain ⟨t, t1, t2⟩ := h b e r h1 h2
  obtain ⟨v, v1, v2⟩ := ha _ t t1
  exact ⟨v, v1, qLe_trans t2 v2⟩
theorem aLe_none {A A' : jA} (ha : aLe A A') {j : Nat} (q : A j ≠ none) : A' j ≠ none := by
  cases hq : A j with
  | none => exact absurd hq q
  | some v =>
    obtain ⟨t, t1, -⟩ := ha j v hq
    rw [t1]; exact fun r => by cases r
/-- the due of an instruction is taken away -/
theorem rkI_d (hP : P = 122 ∨ P = 168) (hI : rkI F dn up ns us fl bl z el H lc ty m0 P S A D σ R) (k : Nat) : rkI F dn up ns us fl bl z el H lc ty m0 P (nk_wi S 238 k 0) A (fun j => if j = k then false else D j) σ R := by
  obtain ⟨i1, i2, i3, i4, i5, i6⟩ := hI
  have tn : ∀ a, a ≠ 238 → (nk_wi S 238 k 0).1 a = S.1 a := fun a h => wi_n h
  refine ⟨rPv_c (fun a h1 h2 => tn a (by omega)) (tn 224 (by omega)) i1, rAm_c (fun a h1 h2 => tn a (by omega)) i2, fun j hj => ?_, rGm_c (fun a h1 h2 => tn a (by omega)) i4, rRm_c (fun a h1 h2 => tn a (by omega)) i5, i6⟩
  rw [wi_at]
  show _ = bi (if j = k then false else D j)
  by_cases e : j = k
  · rw [if_pos e, if_pos e]; rfl
  · rw [if_neg e, if_neg e]; exact i3 j hj
theorem rd_look (hk : rKx F th n dn up ns us fl bl z el H lc ty P) (hI : rdI F dn up ns us fl bl z el H lc ty m0 P S A D σ R) (hK : rdK th n (dn, up, (ns, us, fl, bl, z, el), H) lc P vc M0 k S A D σ R) (hx : z.1[k]? = some x) (hu : A k = some u) (h3 : S3 = nk_wi S 238 k 0) (hf : rkF F th n dn up ns us fl bl z el H lc ty m0 P S3 A (fun j => if j = k then false else D j) σ R k x u S') : ∃ A' D' σ' R', rdF P S S' ∧ rdI F dn up ns us fl bl z el H lc ty m0 P S' A' D' σ' R' ∧ rdK th n (dn, up, (ns, us, fl, bl, z, el), H) lc P vc M0 (k + 1) S' A' D' σ' R' := by
  obtain ⟨A', D', σ', R', f1, f2, f3, f4, f5, f6, f7, f8, f9⟩ := hf
  obtain ⟨i1, i2, i3, i4, i5⟩ := hI
  obtain ⟨k1, k2, k3, k4⟩ := hK
  have hP := hk.1
  have tn : ∀ a, a ≠ 238 → S3.1 a = S.1 a := fun a h => by rw [h3]; exact wi_n h
  have t6 : S3.1 121 = S.1 121 := tn 121 (by decide)
  have c37 : ∀ a, a = P + 37 ∨ a = P + 38 → ∀ j, j ≠ k → S'.1 a j = S.1 a j := fun a ha j hj => by rw [f1.2.2.1 a ha j hj, tn a (by omega)]
  unfold aCg at f4
  unfold vCh at f5
  rw [t6] at f4 f5
  have dD : ∀ j, j ≠ k → D j = true → D' j = true := fun j hj q => f3.2.1 j (by show (if j = k then false else D j) = true; rw [if_neg hj]; exact q)
  refine ⟨A', D', σ', R', ⟨by rw [f1.1, h3]; rfl, fun a h1 h2 h3 => by rw [f1.2.1 a h1 h2 h3, tn a (by omega)], fun f h1 h2 h3 h4 h5 h6 => by rw [f1.2.2.2 f h1 h2 h3 h4 h5 h6, t6]⟩, ⟨f2, fun j q => ?_, fun j y hy hn => ?_, ?_, ?_⟩, ?_, ?_, ?_⟩
  · rcases f3.2.2.2.1 j q with r | r
    · have r : (if j = k then false else D j) = true := r
      split at r
      · cases r
      · exact aLe_none f3.1 (i2 j r)
    · exact r
  · have hAj : A j = none := Classical.byContradiction fun q => aLe_none f3.1 q hn
    have hjk : j ≠ k := fun e => by rw [e, hu] at hAj; cases hAj
    rw [c37 (P + 37) (Or.inl rfl) j hjk, c37 (P + 38) (Or.inr rfl) j hjk]
    exact i3 j y hy hAj
  · rcases f4 with ⟨q, -⟩ | ⟨q, -⟩
    · rw [q]; exact i4
    · exact Or.inr q
  · rcases f5 with ⟨q, -⟩ | ⟨q, -⟩
    · rw [q]; exact i5
    · exact Or.inr q
  · rcases f5 with ⟨q, es, er⟩ | ⟨q, -⟩
    · rcases k1 with r | ⟨r1, r2⟩
      · exact Or.inl (by rw [q]; exact r)
      · subst es
        subst er
        refine Or.inr ⟨fun j y v hj hy hv => ?_, rdE_m r2 f3.1⟩
        have hy : z.1[j]? = some y := hy
        by_cases e : j = k
        · subst e
          rw [hx] at hy
          cases hy
          rcases f9 with w | ⟨w1, w2, w3⟩
          · exact Or.inl w
          · rw [w1] at hv
            cases hv
            exact Or.inr ⟨w2, f8, w3⟩
        · by_cases hA : A' j = A j
          · rw [hA] at hv
            rcases r1 j y v (by omega) hy hv with w | ⟨w1, w2, w3⟩
            · exact Or.inl (dD j e w)
            · refine Or.inr ⟨?_, ?_, rkC_m w3 f3.1⟩
              · rw [c37 (P + 37) (Or.inl rfl) j e]; exact w1
              · rw [c37 (P + 38) (Or.inr rfl) j e]; exact w2
          · exact Or.inl (f3.2.2.1 j hA)
    · exact Or.inl q
  · rcases f4 with ⟨q, ea⟩ | ⟨q, -⟩
    · rcases k2 with r | r
      · exact Or.inl (by rw [q]; exact r)
      · right
        intro j hj
        rcases f3.2.2.2.2 with ⟨-, w⟩ | w
        · rw [w]
          show (if j = k then false else D j) = false
          by_cases e : j = k
          · rw [if_pos e]
          · rw [if_neg e]; exact r j (by omega)
        · rw [ea] at w
          omega
    · exact Or.inl q
  · have ma : aMs th n A' ≤ aMs th n A := by
      rcases f3.2.2.2.2 with ⟨w, -⟩ | w
      · rw [w]; exact Nat.le_refl _
      · omega
    have mg : gMs th n σ' + aMs th n R' ≤ gMs th n σ + aMs th n R := by
      rcases f5 with ⟨-, w1, w2⟩ | ⟨-, w⟩
      · rw [w1, w2]; exact Nat.le_refl _
      · omega
    unfold rdM at k3 k4 ⊢
    refine ⟨by omega, ?_⟩
    rcases f4 with ⟨q, -⟩ | ⟨-, q⟩
    · rcases f5 with ⟨r, -⟩ | ⟨-, r⟩
      · rw [q, r]
        rcases k4 with w | w
        · exact Or.inl w
        · exact Or.inr (by omega)
      · exact Or.inr (by omega)
    · exact Or.inr (by omega)
/-- an instruction that is passed over -/
theorem rd_pass (hI : rdI F dn up ns us fl bl z el H lc ty m0 P S A D σ R) (hK : rdK th n (dn, up, (ns, us, fl, bl, z, el), H) lc P vc M0 k S A D σ R) (hp : A k = none ∨ (vc = 0 ∧ D k = false)) : rdK th n (dn, up, (ns, us, fl, bl, z, el), H) lc P vc M0 (k + 1) S A D σ R := by
  obtain ⟨k1, k2, k3⟩ := hK
  refine ⟨?_, ?_, k3⟩
  · rcases k1 with q | ⟨q1, q2⟩
    · exact Or.inl q
    · refine Or.inr ⟨fun j y v hj hy hv => ?_, q2⟩
      by_cases e : j = k
      · subst e
        rcases hp with r | ⟨r, -⟩
        · rw [r] at hv; cases hv
        · exact q1 j y v (Or.inr r) hy hv
      · exact q1 j y v (by omega) hy hv
  · rcases k2 with q | q
    · exact Or.inl q
    · right
      intro j hj
      by_cases e : j = k
      · subst e
        rcases hp with r | ⟨-, r⟩
        · exact nf_t (fun w => hI.2.1 j w r)
        · exact r
      · exact q j (by omega)
/-- all instructions of a round -/
theorem rd_L205 (hk : rKx F th n dn up ns us fl bl z el H lc ty P) (hfw : ∀ (f : Nat) (y : List Int × Nat × Int), fl[f]? = some y → 8 ≤ y.2.1 ∧ y.2.1 < 32) (hpt : ∀ (b : Nat) (y : jB), bl[b]? = some y → ∀ k, k < y.ps.length → y.ps.getD k 0 = 1 ∨ 2 ≤ y.ps.getD k 0) (hkc : ∀ (k : Nat) (y : Nat × Nat × Nat × Nat × Nat), z.2.2.1[k]? = some y → y.2.2.2.2 < us.length) (hv : vc = 0 ∨ vc = 1) {rc : Nat → Nat → nk_S → Option (Int × nk_S)} : ∀ (d k m : Nat) (S : nk_S) (A : jA) (D : Nat → Bool) (σ : jG) (R : jA), k + d = z.1.length → d < m → rdI F dn up ns us fl bl z el H lc ty m0 P S A D σ R → rdK th n (dn, up, (ns, us, fl, bl, z, el), H) lc P vc M0 k S A D σ R → ∃ S' A' D' σ' R', ja_X13_prove_L205 rc m 121 P vc (k : Int) S = rc 121 P S' ∧ rdF P S S' ∧ rdI F dn up ns us fl bl z el H lc ty m0 P S' A' D' σ' R' ∧ rdK th n (dn, up, (ns, us, fl, bl, z, el), H) lc P vc M0 z.1.length S' A' D' σ' R' := by
  have hP := hk.1
  have hz := hk.2.2.2.2.1.1
  have j34 : ja_c P 34 = P + 27 := by rcases hP with rfl | rfl <;> rfl
  have j35 : ja_c 121 35 = 238 := rfl
  intro d
  induction d with
  | zero =>
    intro k m S A D σ R h1 h2 hI hK
    obtain ⟨m, rfl⟩ : ∃ q, m = q + 1 := ⟨m - 1, by omega⟩
    obtain rfl : k = z.1.length := by omega
    refine ⟨S, A, D, σ, R, ?_, rdF_rfl, hI, hK⟩
    have hl : S.1 P 3 = (z.1.length : Int) := hI.1.1.1.2.2.2.2.2.2.2.2.2.1.1
    show ja_X13_prove_b205 rc (ja_X13_prove_L205 rc m) 121 P vc (z.1.length : Int) S = _
    unfold ja_X13_prove_b205
    rw [hl, if_pos (Int.le_refl _)]
  | succ d ih =>
    intro k m S A D σ R h1 h2 hI hK
    obtain ⟨m, rfl⟩ : ∃ q, m = q + 1 := ⟨m - 1, by omega⟩
    have es : ∀ _ : Unit, nk_w ((k : Int) + 1) = ((k + 1 : Nat) : Int) := fun _ => w_nat1 (by omega)
    have hl : S.1 P 3 = (z.1.length : Int) := hI.1.1.1.2.2.2.2.2.2.2.2.2.1.1
    have hre := hI.1.2.1.1 k (by omega)
    have hdu := hI.1.2.2.1 k (by omega)
    obtain ⟨x, hx⟩ : ∃ x, z.1[k]? = some x := ⟨_, List.getElem?_eq_getElem (by omega)⟩
    have head : ja_X13_prove_L205 rc (m + 1) 121 P vc (k : Int) S = ja_X13_prove_b205 rc (ja_X13_prove_L205 rc m) 121 P vc (k : Int) S := rfl
    have look : ∀ u, A k = some u → ∃ S' A' D' σ' R', ja_X13_prove_b238 rc (ja_X13_prove_L205 rc m) 121 P vc (k : Int) S = rc 121 P S' ∧ rdF P S S' ∧ rdI F dn up ns us fl bl z el H lc ty m0 P S' A' D' σ' R' ∧ rdK th n (dn, up, (ns, us, fl, bl, z, el), H) lc P vc M0 z.1.length S' A' D' σ' R' := by
      intro u hu
      obtain ⟨S3, h3⟩ : ∃ S3, S3 = nk_wi S 238 k 0 := ⟨_, rfl⟩
      obtain ⟨S4, g1, g2⟩ := r_look hk hfw hpt hkc (S := S3) (by rw [h3]; exact rkI_d hP hI.1 k) hx hu
      obtain ⟨A1, D1, σ1, R1, w1, w2, w3⟩ := rd_look hk hI hK hx hu h3 g2
      obtain ⟨S', A', D', σ', R', q1, q2, q3⟩ := ih (k + 1) m S4 A1 D1 σ1 R1 (by omega) (by omega) w2 w3
      refine ⟨S', A', D', σ', R', ?_, rdF_trans w1 q2, q3⟩
      unfold ja_X13_prove_b238
      rw [if_pos (in_i (N := 1024) (by omega)), j35, Int.toNat_natCast, lt_eq, ← h3, g1, bd_some, es (), lt_eq, q1]
    have pass : (A k = none ∨ (vc = 0 ∧ D k = false)) → (ja_X13_prove_b205 rc (ja_X13_prove_L205 rc m) 121 P vc (k : Int) S = ja_X13_prove_L205 rc m 121 P vc ((k + 1 : Nat) : Int) S) → ∃ S' A' D' σ' R', ja_X13_prove_b205 rc (ja_X13_prove_L205 rc m) 121 P vc (k : Int) S = rc 121 P S' ∧ rdF P S S' ∧ rdI F dn up ns us fl bl z el H lc ty m0 P S' A' D' σ' R' ∧ rdK th n (dn, up, (ns, us, fl, bl, z, el), H) lc P vc M0 z.1.length S' A' D' σ' R' := by
      intro hp he
      rw [he]
      exact ih (k + 1) m S A D σ R (by omega) (by omega) hI (rd_pass hI hK hp)
    rw [head]
    cases hA : A k with
    | none =>
      refine pass (Or.inl hA) ?_
      unfold ja_X13_prove_b205
      rw [hl, if_neg (by omega), if_pos (in_i (N := 1024) (by omega)), j34, Int.toNat_natCast, hre, hA, if_pos (show bi (none : Option jQ).isSome = 0 from rfl), es (), lt_eq]
    | some u =>
      have hre' : S.1 (P + 27) k = 1 := by rw [hre, hA]; rfl
      by_cases cv : vc = 0
      · cases hD : D k with
        | false =>
          have hdu' : S.1 238 k = 0 := by rw [hdu, hD]; rfl
          refine pass (Or.inr ⟨cv, hD⟩) ?_
          unfold ja_X13_prove_b205
          rw [hl, if_neg (by omega), if_pos (in_i (N := 1024) (by omega)), j34, j35, Int.toNat_natCast, hre', if_neg (by decide), if_pos cv, hdu', if_pos rfl, es (), lt_eq]
        | true =>
          have hdu' : S.1 238 k = 1 := by rw [hdu, hD]; rfl
          obtain ⟨S', A', D', σ', R', q1, q2⟩ := look u hA
          refine ⟨S', A', D', σ', R', ?_, q2⟩
          unfold ja_X13_prove_b205
          rw [hl, if_neg (by omega), if_pos (in_i (N := 1024) (by omega)), j34, j35, Int.toNat_natCast, hre', if_neg (by decide), if_pos cv, hdu', if_neg (by decide), q1]
      · obtain ⟨S', A', D', σ', R', q1, q2⟩ := look u hA
        refine ⟨S', A', D', σ', R', ?_, q2⟩
        unfold ja_X13_prove_b205
        rw [hl, if_neg (by omega), if_pos (in_i (N := 1024) (by omega)), j34, j35, Int.toNat_natCast, hre', if_neg (by decide), if_neg cv, q1]
end RRD
