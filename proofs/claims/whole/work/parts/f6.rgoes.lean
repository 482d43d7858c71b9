/-! The reference goes behind every instruction. -/
section RGO
variable {ns : List (List Int)} {us : List Int} {fl : List (List Int × Nat × Int)} {bl : List jB} {z : jL} {el : List (Nat × Nat × Nat × Nat)} {F : Int → Prop} {dn up : Int → Int} {H lc : Nat → Nat} {ty : Nat → Option (Nat → Int)} {th : Nat → Int} {n P m0 : Nat} {σ : jG} {i : Nat} {x : jC} {u : jQ} {S T : nk_S} {A R : jA} {D : Nat → Bool}
theorem rh_go (hk : rKx F th n dn up ns us fl bl z el H lc ty P) (hfw : ∀ (f : Nat) (y : List Int × Nat × Int), fl[f]? = some y → 8 ≤ y.2.1 ∧ y.2.1 < 32) (hpt : ∀ (b : Nat) (y : jB), bl[b]? = some y → ∀ k, k < y.ps.length → y.ps.getD k 0 = 1 ∨ 2 ≤ y.ps.getD k 0) (hS : gbS F dn up ns us fl bl z el H lc ty m0 P A D σ R i u T) (hx : z.1[i]? = some x) (hu : A i = some u) (ho : ¬ (20 ≤ x.1 ∧ x.1 ≤ 29)) : ∃ S1, ja_X13_goesBehind 121 P (i : Int) T = some (bi (pGo (dn, up, (ns, us, fl, bl, z, el), H) σ x (H i) u).isSome, S1) ∧ gbH F th n dn up ns us fl bl z el H lc ty m0 P T A D σ R i x u S1 := by
  obtain ⟨t, xb, e, a1, a2, ⟨⟨p1, -⟩, -⟩, -⟩ := rk_at hk hS.1 hx hu
  have h46 := p1.1
  by_cases c0 : x.1 ≤ 7 ∨ x.1 = 45 ∨ x.1 = 44 ∨ x.1 = 19
  · exact rh_moves hk hS hx hu c0
  by_cases c8 : 8 ≤ x.1 ∧ x.1 ≤ 18
  · exact rh_nums hk hS hx hu c8
  by_cases c30 : x.1 = 30
  · exact rh_new hk hS hx hu c30
  by_cases c31 : x.1 = 31
  · exact rh_array hk hS hx hu c31
  by_cases c32 : x.1 = 32
  · exact rh_length hk hS hx hu c32
  by_cases c33 : x.1 = 33
  · exact rh_aload hk hS hx hu c33
  by_cases c34 : x.1 = 34
  · exact rh_astore hk hS hx hu c34
  by_cases c35 : x.1 = 35
  · exact rh_get hk hS hx hu c35
  by_cases c36 : x.1 = 36
  · exact rh_put hk hfw hS hx hu c36
  by_cases c37 : x.1 = 37
  · exact rh_cast hk hS hx hu c37
  by_cases c38 : x.1 = 38
  · exact rh_is hk hS hx hu c38
  by_cases c39 : x.1 = 39
  · exact rh_call hk hS hx hu hpt c39
  by_cases c40 : x.1 = 40
  · exact rh_send hk hS hx hu hpt c40
  by_cases c41 : x.1 = 41
  · exact rh_throw hk hS hx hu c41
  by_cases c42 : x.1 = 42
  · exact rh_give hk hS hx hu c42
  exact rh_back hk hS hx hu (by omega)
/-- the contrary of a relation -/
theorem r_contrary {o : Nat} (h : 20 ≤ o ∧ o ≤ 29) (S : nk_S) : ja_X13_contrary (o : Int) S = some (((ctr o : Nat) : Int), S) := by
  rcases (show o = 20 ∨ o = 21 ∨ o = 22 ∨ o = 23 ∨ o = 24 ∨ o = 25 ∨ o = 26 ∨ o = 27 ∨ o = 28 ∨ o = 29 by omega) with q | q | q | q | q | q | q | q | q | q
  all_goals (subst q; rfl)
/-- a row is brought on: the arrow is in -/
theorem rk_goOn (hk : rKx F th n dn up ns us fl bl z el H lc ty P) (hI : rkI F dn up ns us fl bl z el H lc ty m0 P S A D σ R) {u0 : jQ} {σ0 : jG} (hlk : pLk F (dn, up, (ns, us, fl, bl, z, el), H) lc ty m0 i x u0 σ0) {j : Nat} {v : jQ} (hE : pEd (dn, up, (ns, us, fl, bl, z, el), H) σ0 i x u0 lc j (qRs (lc j) (H j) v)) (hq : qI (lnP z σ) v) (hv : ∀ k, wOk F (v k)) (hv0 : ∀ k, lc j ≤ k → k < 12 → v k = wU) (hr : rX S (12 + H j) v) : ∃ S' c, ja_X13_goOn 121 P (j : Int) S = some (0, S') ∧ (S'.2 = S.2 ∧ (∀ a, ¬ (P + 27 ≤ a ∧ a ≤ P + 36) → a ≠ 238 → a ≠ 121 → S'.1 a = S.1 a) ∧ ∀ f, f ≠ 36 → f ≠ 38 → S'.1 121 f = S.1 121 f) ∧ S'.1 121 38 = 1 ∧ rkI F dn up ns us fl bl z el H lc ty m0 P S' (aArr A j (qRs (lc j) (H j) v)) (fun i => if i = j ∧ c = true then true else D i) σ R ∧ S'.1 121 36 = (if c = true then 1 else S.1 121 36) ∧ (c = true ↔ aArr A j (qRs (lc j) (H j) v) ≠ A) := by
  obtain ⟨i1, i2, i3, i4, i5, i6, i7, i8, i9⟩ := id hI
  have hPP := hk.1
  obtain ⟨o1, o2, o3, x', t', s1, s2, s3⟩ := pIn_arr hk.2.1 i6 hlk hE
  have hj : j < 1024 := by
    have := at_lt s1
    have := hk.2.2.2.2.1.1
    omega
  have hlc := hk.2.2.2.2.2.1 j
  obtain ⟨T, hT⟩ : ∃ T, T = nk_wi S 121 38 1 := ⟨_, rfl⟩
  have tn : ∀ a, a ≠ 121 → T.1 a = S.1 a := fun a h => by rw [hT, wi_n h]
  obtain ⟨S', c, g1, g2, g3, g4, g5, g6⟩ := r_bring (F := F) (lc := lc) (S := T) (A := A) (fun i u hu => (hk.2.2.2.2.2.1 i).2) hPP hj hlc.2 hlc.1 (rAm_c (fun a h1 h2 => tn a (by omega)) i2) (aWf_of i6.1) (D := D) (fun i hi => by rw [tn 238 (by decide)]; exact i3 i hi) (v := v) hv hv0 (by rw [tn (P + 19) (by omega)]; exact i1.2 j t' s2) (rX_g (fun a h1 h2 => tn a (by omega)) hr)
  have fr : S'.2 = S.2 ∧ (∀ a, ¬ (P + 27 ≤ a ∧ a ≤ P + 36) → a ≠ 238 → a ≠ 121 → S'.1 a = S.1 a) ∧ ∀ f, f ≠ 36 → f ≠ 38 → S'.1 121 f = S.1 121 f := ⟨by rw [g2.1, hT]; rfl, fun a h1 h2 h3 => by rw [g2.2.1 a (by omega) h2 h3, tn a h3], fun f h1 h2 => by rw [g2.2.2 f h1, hT, wi_at, if_neg h2]⟩
  have hqr : qI (lnP z σ) (qRs (lc j) (H j) v) := fun k => by
    unfold qRs
    split
    · exact hq k
    · intro s q; cases q
  refine ⟨S', c, ?_, fr, by rw [g2.2.2 38 (by decide), hT, wi_at, if_pos rfl], ⟨rPv_c (fun a h1 h2 => fr.2.1 a (by omega) (by omega) (by omega)) (fr.2.1 224 (by omega) (by omega) (by omega)) i1, g3, g4, rGm_c (fun a h1 h2 => fr.2.1 a (by omega) (by omega) (by omega)) i4, rRm_c (fun a h1 h2 => fr.2.1 a (by omega) (by omega) (by omega)) i5, o1, lnI_row i7 hqr, i8, i9⟩, by rw [g5, hT, wi_at, if_neg (show ¬ (36 : Nat) = 38 by decide)], g6⟩
  unfold ja_X13_goOn
  rw [lt_eq, ← hT, g1, bd_some]
end RGO
