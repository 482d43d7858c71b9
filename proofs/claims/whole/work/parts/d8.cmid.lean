/-! The class looks at an instruction: what it knows all the time. -/
/-- the program and its classes -/
def kX (F : Int → Prop) (th : Nat → Int) (n : Nat) (dn up : Int → Int) (ns : List (List Int)) (us : List Int) (fl : List (List Int × Nat × Int)) (bl : List jB) (z : jL) (el : List (Nat × Nat × Nat × Nat)) (H lc : Nat → Nat) (ty : Nat → Option (Nat → Int)) (Q : Nat) : Prop := (Q = 13 ∨ Q = 49) ∧ pCx F dn up ns us fl bl z el H lc ty ∧ F = (fun y => th7 y ∨ ∃ x ∈ z.2.2.2, nbr x y) ∧ thN F th n ∧ oJL z
/-- suiting, caughtBy, heldBy -/
def cFy (S : nk_S) (us : List Int) (bl : List jB) (z : jL) : Prop := cFx S us z ∧ ∀ (i : Nat) (x : jC), z.1[i]? = some x → x.1 = 39 ∨ x.1 = 40 → cV (S.1 109 i) (pSu us bl x)
def lkI (F : Int → Prop) (dn up : Int → Int) (ns : List (List Int)) (us : List Int) (fl : List (List Int × Nat × Int)) (bl : List jB) (z : jL) (el : List (Nat × Nat × Nat × Nat)) (H lc : Nat → Nat) (ty : Nat → Option (Nat → Int)) (m0 Q : Nat) (S : nk_S) (A : jA) (W : Nat → Bool) (σ : jG) (C : jH) : Prop :=
  cPv S Q (ns, us, fl, bl, z, el) H lc ∧ cFy S us bl z ∧ cAm H lc S A ∧ cWt S W ∧ cGm S fl bl z σ C ∧ pIn F (dn, up, (ns, us, fl, bl, z, el), H) lc ty m0 A σ ∧ lnI z A σ ∧ rsI bl σ
/-- from one table to another by what an instruction adds -/
def gAds (G : jZ) (σ0 : jG) (x : jC) (h : Nat) (u : jQ) (σ σ' : jG) : Prop := ∀ R : jG → Prop, R σ → (∀ τ k w, R τ → pCo G σ0 x h u k = some w → R (gAd τ k w)) → R σ'
section CMI
variable {ns : List (List Int)} {us : List Int} {fl : List (List Int × Nat × Int)} {bl : List jB} {z : jL} {el : List (Nat × Nat × Nat × Nat)} {F : Int → Prop} {dn up : Int → Int} {H lc : Nat → Nat} {ty : Nat → Option (Nat → Int)} {th : Nat → Int} {n Q m0 : Nat} {S : nk_S} {A : jA} {W : Nat → Bool} {σ : jG} {C : jH} {i : Nat} {x : jC} {u : jQ}
theorem gAds_rfl {G : jZ} {σ0 : jG} {h : Nat} : gAds G σ0 x h u σ σ := fun _ q _ => q
theorem gAds_ad {G : jZ} {σ0 σ1 : jG} {h k : Nat} {w : jW} (a : gAds G σ0 x h u σ σ1) (b : pCo G σ0 x h u k = some w) : gAds G σ0 x h u σ (gAd σ1 k w) := fun R q r => r _ k w (a R q r) b
theorem cFy_m {S S' : nk_S} (h : mFr S S') (hv : cFy S us bl z) : cFy S' us bl z := ⟨cFx_m h hv.1, fun i x hx ho => by rw [h.2 109 (by omega)]; exact hv.2 i x hx ho⟩
theorem aWf_of (h : aOk F us z H lc ty A) : aWf F H lc A := fun i u q => by
  obtain ⟨x, t, -, -, h3⟩ := h i u q
  exact ⟨h3.1.1, h3.2⟩
/-- what an instruction adds keeps all that is known -/
theorem gAds_I (h : pCx F dn up ns us fl bl z el H lc ty) (hI : pIn F (dn, up, (ns, us, fl, bl, z, el), H) lc ty m0 A σ) (hL : lnI z A σ) (hR : rsI bl σ) {σ0 : jG} (hl : pLk F (dn, up, (ns, us, fl, bl, z, el), H) lc ty m0 i x u σ0) (hu : ∀ τ, gLe σ τ → qI (lnP z τ) u) {σ' : jG} (ha : gAds (dn, up, (ns, us, fl, bl, z, el), H) σ0 x (H i) u σ σ') : pIn F (dn, up, (ns, us, fl, bl, z, el), H) lc ty m0 A σ' ∧ lnI z A σ' ∧ rsI bl σ' ∧ gLe σ σ' := by
  refine ha (fun σ' => pIn F (dn, up, (ns, us, fl, bl, z, el), H) lc ty m0 A σ' ∧ lnI z A σ' ∧ rsI bl σ' ∧ gLe σ σ') ⟨hI, hL, hR, gLe_refl σ⟩ (fun τ k w hr hw => ?_)
  obtain ⟨r1, r2, r3, r4⟩ := hr
  obtain ⟨hx, ⟨t, ht, hrw⟩, hg0, hbl⟩ := id hl
  obtain ⟨q1, q2⟩ := pCo_tp h hx ht hrw.1 hw
  have g1 := gLe_trans r4 (gAd_le τ k w).1
  refine ⟨pIn_ad h r1 hl hw q1, lnI_ad r2 (pCo_I lnP_62 (hu _ g1) hw), fun b y hy hr => ?_, g1⟩
  rw [gAd_ne (fun e => q2 b y hy hr e.symm)]
  exact r3 b y hy hr
end CMI
