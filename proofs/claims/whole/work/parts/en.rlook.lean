/-! The reference looks at an instruction: what it knows all the time. -/
/-- the program, its heights -/
def rPv (S : nk_S) (P : Nat) (p : jP) (H : Nat → Nat) (ty : Nat → Option (Nat → Int)) : Prop := rPg S P p ∧ ∀ i t, ty i = some t → S.1 (P + 19) i = (H i : Int)
def rKx (F : Int → Prop) (th : Nat → Int) (n : Nat) (dn up : Int → Int) (ns : List (List Int)) (us : List Int) (fl : List (List Int × Nat × Int)) (bl : List jB) (z : jL) (el : List (Nat × Nat × Nat × Nat)) (H lc : Nat → Nat) (ty : Nat → Option (Nat → Int)) (P : Nat) : Prop := (P = 122 ∨ P = 168) ∧ pCx F dn up ns us fl bl z el H lc ty ∧ F = (fun y => th7 y ∨ ∃ x ∈ z.2.2.2, nbr x y) ∧ thN F th n ∧ oJL z ∧ (∀ i, lc i ≤ 12 ∧ H i ≤ 8) ∧ (∀ (b : Nat) (y : jB), bl[b]? = some y → y.ps.length ≤ 12) ∧ bl.length ≤ 48 ∧ fl.length ≤ 48
/-- what bodies are begun with is right, and below every solution -/
def rpI (F : Int → Prop) (us : List Int) (bl : List jB) (z : jL) (el : List (Nat × Nat × Nat × Nat)) (H lc : Nat → Nat) (ty : Nat → Option (Nat → Int)) (m0 : Nat) (G : jZ) (σ : jG) (R : jA) : Prop := ∀ b r, R b = some r → ∃ (y : jB) (e : Nat × Nat × Nat × Nat) (x' : jC) (t' : Nat → Int), bl[b]? = some y ∧ el[b]? = some e ∧ z.1[e.1]? = some x' ∧ ty e.1 = some t' ∧ rOw F us z (lc e.1) (H e.1) t' r ∧ (∀ k, y.ps.length ≤ k → r k = wU) ∧ (∀ k, k < y.ps.length → vl1 F us z (y.ps.getD k 0) (r k)) ∧ qI (lnP z σ) r ∧ ∀ B τ, pSl F G lc ty m0 B τ → ∃ t, B e.1 = some t ∧ qLe r t
def rkI (F : Int → Prop) (dn up : Int → Int) (ns : List (List Int)) (us : List Int) (fl : List (List Int × Nat × Int)) (bl : List jB) (z : jL) (el : List (Nat × Nat × Nat × Nat)) (H lc : Nat → Nat) (ty : Nat → Option (Nat → Int)) (m0 P : Nat) (S : nk_S) (A : jA) (D : Nat → Bool) (σ : jG) (R : jA) : Prop :=
  rPv S P (ns, us, fl, bl, z, el) H ty ∧ rAm H S P A ∧ rDu S D ∧ rGm S P σ ∧ rRm S P bl R ∧ pIn F (dn, up, (ns, us, fl, bl, z, el), H) lc ty m0 A σ ∧ lnI z A σ ∧ rsI bl σ ∧ rpI F us bl z el H lc ty m0 (dn, up, (ns, us, fl, bl, z, el), H) σ R
/-- what may change while goesBehind runs -/
def gbF (P : Nat) (S S' : nk_S) : Prop := S'.2 = S.2 ∧ (∀ a, ¬ (P + 39 ≤ a ∧ a ≤ P + 45) → (a < 229 ∨ 237 < a) → a ≠ 121 → S'.1 a = S.1 a) ∧ ∀ f, f ≠ 25 → f ≠ 37 → f ≠ 39 → f ≠ 40 → S'.1 121 f = S.1 121 f
/-- the arrows of calls -/
def pEc (G : jZ) (σ : jG) (i : Nat) (x : jC) (u : jQ) (lc : Nat → Nat) (j : Nat) (w : jQ) : Prop :=
  (x.1 = 39 ∧ ∃ (y : jB) (e : Nat × Nat × Nat × Nat), (zBl G)[x.2.1.toNat]? = some y ∧ (zEl G)[x.2.1.toNat]? = some e ∧ j = e.1 ∧ w = qRs (lc j) (zH G j) (pEn y u (12 + zH G i - tkX (zBl G) x) none))
  ∨ (x.1 = 40 ∧ (pDr u (12 + zH G i - tkX (zBl G) x)).isSome = true ∧ ∃ (s b : Nat) (y y' : jB) (e : Nat × Nat × Nat × Nat), s < 54 ∧ (u (12 + zH G i - tkX (zBl G) x)).2.2.1 s = true ∧ (zBl G)[x.2.1.toNat]? = some y ∧ rnS (zUs G) (zBl G) (cl (sTp (zZ G) s)) y = (b : Int) ∧ (zBl G)[b]? = some y' ∧ (zEl G)[b]? = some e ∧ j = e.1 ∧ w = qRs (lc j) (zH G j) (pEn y' u (12 + zH G i - tkX (zBl G) x) (some s)))
/-- goesBehind has done its work -/
def gbH (F : Int → Prop) (th : Nat → Int) (n : Nat) (dn up : Int → Int) (ns : List (List Int)) (us : List Int) (fl : List (List Int × Nat × Int)) (bl : List jB) (z : jL) (el : List (Nat × Nat × Nat × Nat)) (H lc : Nat → Nat) (ty : Nat → Option (Nat → Int)) (m0 P : Nat) (T : nk_S) (A : jA) (D : Nat → Bool) (σ : jG) (R : jA) (i : Nat) (x : jC) (u : jQ) (S' : nk_S) : Prop := ∃ σ' R', gbF P T S' ∧ rkI F dn up ns us fl bl z el H lc ty m0 P S' A D σ' R' ∧ vCh th n T σ R S' σ' R' ∧ gLe σ σ' ∧ aLe R R' ∧ cI (S'.1 121 39) (rzS (dn, up, (ns, us, fl, bl, z, el), H) σ x (H i) u) ∧ cV (S'.1 121 40) (pTh (dn, up, (ns, us, fl, bl, z, el), H) σ x (H i) u) ∧ (∀ w, pGo (dn, up, (ns, us, fl, bl, z, el), H) σ x (H i) u = some w → rRw S' (12 + (H i - tkX bl x + lvX bl x)) w) ∧ (∀ k, oLe (pCo (dn, up, (ns, us, fl, bl, z, el), H) σ x (H i) u k) (σ'.1 k)) ∧ (x.1 = 42 ∨ x.1 = 43 → σ'.2.1 x.2.2.2.1 = true) ∧ ∀ j w, pEc (dn, up, (ns, us, fl, bl, z, el), H) σ i x u lc j w → ∃ b e r, el[b]? = some e ∧ j = e.1 ∧ R' b = some r ∧ qLe w r
/-- goesBehind begins -/
def gbS (F : Int → Prop) (dn up : Int → Int) (ns : List (List Int)) (us : List Int) (fl : List (List Int × Nat × Int)) (bl : List jB) (z : jL) (el : List (Nat × Nat × Nat × Nat)) (H lc : Nat → Nat) (ty : Nat → Option (Nat → Int)) (m0 P : Nat) (A : jA) (D : Nat → Bool) (σ : jG) (R : jA) (i : Nat) (u : jQ) (T : nk_S) : Prop := rkI F dn up ns us fl bl z el H lc ty m0 P T A D σ R ∧ rRw T (12 + H i) u ∧ T.1 121 39 = 0 ∧ T.1 121 40 = 0
section RLK
variable {ns : List (List Int)} {us : List Int} {fl : List (List Int × Nat × Int)} {bl : List jB} {z : jL} {el : List (Nat × Nat × Nat × Nat)} {F : Int → Prop} {dn up : Int → Int} {H lc : Nat → Nat} {ty : Nat → Option (Nat → Int)} {th : Nat → Int} {n P m0 : Nat} {σ : jG} {i : Nat} {x : jC} {u : jQ} {S T : nk_S} {A R : jA} {D : Nat → Bool}
theorem rPg_d {S S' : nk_S} {P : Nat} {p : jP} (k : ∀ a, P ≤ a → a ≤ P + 26 → S'.1 a = S.1 a) (k4 : S'.1 224 = S.1 224) (h : rPg S P p) : rPg S' P p := by
  unfold rPg rB0 rEl rPl rCd rSl rKl rTn at h ⊢
  rw [k4, k P (by omega) (by omega), k (P + 1) (by omega) (by omega), k (P + 2) (by omega) (by omega), k (P + 3) (by omega) (by omega), k (P + 4) (by omega) (by omega), k (P + 5) (by omega) (by omega), k (P + 6) (by omega) (by omega), k (P + 7) (by omega) (by omega), k (P + 8) (by omega) (by omega), k (P + 9) (by omega) (by omega), k (P + 10) (by omega) (by omega), k (P + 11) (by omega) (by omega), k (P + 12) (by omega) (by omega), k (P + 13) (by omega) (by omega), k (P + 14) (by omega) (by omega), k (P + 15) (by omega) (by omega), k (P + 16) (by omega) (by omega), k (P + 17) (by omega) (by omega), k (P + 18) (by omega) (by omega), k (P + 20) (by omega) (by omega), k (P + 21) (by omega) (by omega), k (P + 22) (by omega) (by omega), k (P + 23) (by omega) (by omega), k (P + 24) (by omega) (by omega), k (P + 25) (by omega) (by omega), k (P + 26) (by omega) (by omega)]
  exact h
theorem rPv_c {S S' : nk_S} {p : jP} (k : ∀ a, P ≤ a → a ≤ P + 26 → S'.1 a = S.1 a) (k4 : S'.1 224 = S.1 224) (h : rPv S P p H ty) : rPv S' P p H ty := ⟨rPg_d k k4 h.1, fun i t q => by rw [k (P + 19) (by omega) (by omega)]; exact h.2 i t q⟩
theorem rAm_c {S S' : nk_S} (k : ∀ a, P + 27 ≤ a → a ≤ P + 36 → S'.1 a = S.1 a) (h : rAm H S P A) : rAm H S' P A := ⟨fun i hi => by rw [k (P + 27) (by omega) (by omega)]; exact h.1 i hi, fun i u hu s hs => rSo_c (fun j hj => by rw [k (rSt P j) (by unfold rSt; omega) (by unfold rSt; omega)]) (h.2 i u hu s hs)⟩
theorem rGm_c {S S' : nk_S} (k : ∀ a, P + 39 ≤ a → a ≤ P + 45 → S'.1 a = S.1 a) (h : rGm S P σ) : rGm S' P σ := ⟨fun j hj => rVo_c (fun a h1 h2 => by rw [k a h1 (by omega)]) (h.1 j hj), fun b hb => by rw [k (P + 43) (by omega) (by omega)]; exact h.2.1 b hb, fun b hb => by rw [k (P + 45) (by omega) (by omega)]; exact h.2.2 b hb⟩
theorem rRm_c {S S' : nk_S} (k : ∀ a, P + 39 ≤ a → a ≤ P + 45 → S'.1 a = S.1 a) (h : rRm S P bl R) : rRm S' P bl R := fun b y hy => ⟨by rw [k (P + 44) (by omega) (by omega)]; exact (h b y hy).1, fun q j hj => rVo_c (fun a h1 h2 => by rw [k a h1 (by omega)]) ((h b y hy).2.1 q j hj), fun r q j hj => rVo_c (fun a h1 h2 => by rw [k a h1 (by omega)]) ((h b y hy).2.2 r q j hj)⟩
theorem gbF_n {S S' : nk_S} (h : nFr S S') : gbF P S S' := ⟨h.1, fun a _ h2 h3 => h.2.1 a h2 h3, fun f h1 _ h3 h4 => h.2.2 f h1 h3 h4⟩
theorem gbF_t {S S' : nk_S} (h : tbF P S S') : gbF P S S' := ⟨h.1, fun a h1 _ h3 => h.2.1 a h1 h3, fun f _ h2 _ _ => h.2.2 f h2⟩
theorem gbF_rfl {S : nk_S} : gbF P S S := ⟨rfl, fun _ _ _ _ => rfl, fun _ _ _ _ _ => rfl⟩
theorem gbF_trans {S1 S2 S3 : nk_S} (h : gbF P S1 S2) (q : gbF P S2 S3) : gbF P S1 S3 := ⟨q.1.trans h.1, fun a r x y => (q.2.1 a r x y).trans (h.2.1 a r x y), fun f r x y z => (q.2.2 f r x y z).trans (h.2.2 f r x y z)⟩
/-- the rest stays as it is -/
theorem rkI_g (hP : P = 122 ∨ P = 168) {S S' : nk_S} (h : gbF P S S') (hI : rkI F dn up ns us fl bl z el H lc ty m0 P S A D σ R) {σ' : jG} {R' : jA} (g1 : rGm S' P σ') (g2 : rRm S' P bl R') (g3 : pIn F (dn, up, (ns, us, fl, bl, z, el), H) lc ty m0 A σ') (g4 : lnI z A σ') (g5 : rsI bl σ') (g6 : rpI F us bl z el H lc ty m0 (dn, up, (ns, us, fl, bl, z, el), H) σ' R') : rkI F dn up ns us fl bl z el H lc ty m0 P S' A D σ' R' := by
  obtain ⟨i1, i2, i3, -⟩ := hI
  exact ⟨rPv_c (fun a h1 h2 => h.2.1 a (by omega) (by omega) (by omega)) (h.2.1 224 (by omega) (by omega) (by omega)) i1, rAm_c (fun a h1 h2 => h.2.1 a (by omega) (by omega) (by omega)) i2, fun i hi => by rw [h.2.1 238 (by omega) (by omega) (by omega)]; exact i3 i hi, g1, g2, g3, g4, g5, g6⟩
theorem rkI_n (hP : P = 122 ∨ P = 168) {S S' : nk_S} (h : nFr S S') (hI : rkI F dn up ns us fl bl z el H lc ty m0 P S A D σ R) : rkI F dn up ns us fl bl z el H lc ty m0 P S' A D σ R := by
  obtain ⟨i1, i2, i3, i4, i5, i6, i7, i8, i9⟩ := id hI
  exact rkI_g hP (gbF_n h) hI (rGm_c (fun a h1 h2 => h.2.1 a (by omega) (by omega)) i4) (rRm_c (fun a h1 h2 => h.2.1 a (by omega) (by omega)) i5) i6 i7 i8 i9
/-- what is more in the table is more for the rows, too -/
theorem rpI_m {G : jZ} {σ' : jG} (g : gLe σ σ') (h : rpI F us bl z el H lc ty m0 G σ R) : rpI F us bl z el H lc ty m0 G σ' R := fun b r q => by
  obtain ⟨y, e, x', t', a1, a2, a3, a4, a5, a6, a7, a8, a9⟩ := h b r q
  exact ⟨y, e, x', t', a1, a2, a3, a4, a5, a6, a7, fun k s hs => lnP_m g (a8 k s hs), a9⟩
theorem rk_t (hk : rKx F th n dn up ns us fl bl z el H lc ty P) (hv : rPv S P (ns, us, fl, bl, z, el) H ty) : ∃ n', rTn S P n' F ∧ n' ≤ 3079 := by
  obtain ⟨n', hn⟩ := hv.1.2.2.2.2.2.2.2.2.2.2.2.2.2
  have hz := hk.2.2.2.2.1
  refine ⟨n', by rw [hk.2.2.1]; exact hn, rTn_n (l := z.2.2.2) ?_ hn⟩
  have := hz.1
  have := hz.2.2.2
  omega
theorem rk_at (hk : rKx F th n dn up ns us fl bl z el H lc ty P) (hI : rkI F dn up ns us fl bl z el H lc ty m0 P S A D σ R) (hx : z.1[i]? = some x) (hu : A i = some u) : ∃ t xb e, ty i = some t ∧ rOw F us z (lc i) (H i) t u ∧ pAf ns us fl bl z el H lc i x t xb e ∧ pKd bl x (H i) u ∧ gOk F us fl bl z σ ∧ pLk F (dn, up, (ns, us, fl, bl, z, el), H) lc ty m0 i x u σ := by
  have i6 := hI.2.2.2.2.2.1
  obtain ⟨x', t, a1, a2, a3⟩ := i6.1 i u hu
  have ex : x' = x := by
    have a1 : z.1[i]? = some x' := a1
    rw [hx] at a1; cases a1; rfl
  subst ex
  have a2 : ty i = some t := a2
  have a3 : rOw F us z (lc i) (H i) t u := a3
  obtain ⟨xb, e, hp⟩ := pAt hk.2.1 hx a2
  obtain ⟨x2, h2⟩ := pLk_of i6 hu
  have ex2 : x2 = x' := by
    have q : z.1[i]? = some x2 := h2.1
    rw [hx] at q; cases q; rfl
  subst ex2
  exact ⟨t, xb, e, a2, a3, hp, (pCx_at hk.2.1 hx a2 a3.1).1, i6.2.1, h2⟩
/-- an instruction as the reference sees it -/
theorem rk_op (hI : rkI F dn up ns us fl bl z el H lc ty m0 P S A D σ R) (hx : z.1[i]? = some x) : S.1 (P + 15) i = (x.1 : Int) ∧ S.1 (P + 16) i = rA x ∧ S.1 (P + 17) i = rB2 x ∧ S.1 (P + 18) i = (x.2.2.2.1 : Int) := by
  have := hI.1.1.2.2.2.2.2.2.2.2.2.1.2 i x hx
  exact ⟨this.1, this.2.1, this.2.2.1, this.2.2.2.1⟩
/-- an instruction that changes no table -/
theorem gbH_n (hk : rKx F th n dn up ns us fl bl z el H lc ty P) (hS : gbS F dn up ns us fl bl z el H lc ty m0 P A D σ R i u T) {S' : nk_S} (h : nFr T S') (ho : x.1 ≠ 30 ∧ x.1 ≠ 31 ∧ x.1 ≠ 34 ∧ x.1 ≠ 36 ∧ x.1 ≠ 39 ∧ x.1 ≠ 40 ∧ x.1 ≠ 42 ∧ x.1 ≠ 43) (h1 : cI (S'.1 121 39) (rzS (dn, up, (ns, us, fl, bl, z, el), H) σ x (H i) u)) (h2 : cV (S'.1 121 40) (pTh (dn, up, (ns, us, fl, bl, z, el), H) σ x (H i) u)) (h3 : ∀ w, pGo (dn, up, (ns, us, fl, bl, z, el), H) σ x (H i) u = some w → rRw S' (12 + (H i - tkX bl x + lvX bl x)) w) : gbH F th n dn up ns us fl bl z el H lc ty m0 P T A D σ R i x u S' := by
  refine ⟨σ, R, gbF_n h, rkI_n hk.1 h hS.1, Or.inl ⟨h.2.2 37 (by decide) (by decide) (by decide), rfl, rfl⟩, gLe_refl σ, aLe_refl R, h1, h2, h3, fun k => ?_, fun q => by omega, fun j w q => ?_⟩
  · rw [pCo_n ⟨by omega, by omega, by omega, by omega, by omega⟩]
    exact fun w q => by cases q
  · rcases q with ⟨q, -⟩ | ⟨q, -⟩ <;> omega
theorem pTh_n {G : jZ} {h : Nat} (ho : x.1 ≠ 41 ∧ x.1 ≠ 39 ∧ x.1 ≠ 40) : pTh G σ x h u = noS := by
  funext s
  unfold pTh
  rw [if_neg ho.1, if_neg ho.2.1, if_neg ho.2.2]
  rfl
end RLK
