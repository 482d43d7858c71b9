/-! The class takes and puts elements, whole. -/
section CUW
variable {F : Int → Prop} {S : nk_S} {Q : Nat} {p : jP} {H lc : Nat → Nat} {us : List Int} {fl : List (List Int × Nat × Int)} {bl : List jB} {z : jL} {t : Nat → Int} {u : jQ} {i : Nat} {x : jC} {G : jZ} {σ : jG} {C : jH} {l h : Nat} {th : Nat → Int} {n : Nat}
theorem oB_as {α β γ : Type} (o : Option α) (f : α → Option β) (g : β → Option γ) : oB (oB o f) g = oB o fun a => oB (f a) g := by cases o <;> rfl
theorem pI2_dr {dn up : Int → Int} {r c : Nat} {v : jQ} (h : pI2 dn up σ u r c = some v) : ∃ s, s < 54 ∧ (u r).2.2.1 s = true := by
  unfold pI2 at h
  obtain ⟨w, w1, -⟩ := oB_some h
  unfold pDr at w1
  split at w1
  · rename_i q
    obtain ⟨j, j1, j2⟩ := sEx_iff.mp q
    have j2 : ((u r).2.2.1 j && decide (j < 54)) = true := j2
    rw [Bool.and_eq_true] at j2
    exact ⟨j, of_decide_eq_true j2.2, j2.1⟩
  · cases w1
theorem c_aload (hQ : Q = 13 ∨ Q = 49) (hT : thG F (zDn G) (zUp G)) (hF : F = fun y => th7 y ∨ ∃ x ∈ p.2.2.2.2.1.2.2.2, nbr x y) (hv : cPv S Q p H lc) (hz : oJL p.2.2.2.2.1) (hg : gOk F us fl bl z σ) (hz48 : z.2.1.length ≤ 48) (hzp : z = p.2.2.2.2.1) (hm : cGm S fl bl z σ C) {r0 s0 : Nat → Bool} (k : cRs S r0 s0) (hr : cRw (lc i) (H i) S u) (hok : vOk F us z (lc i) t u) (ho : x.1 = 33) (h2 : 2 ≤ H i) (kr : (u (12 + H i - 2)).1 = 2) (kc : (u (12 + H i - 1)).1 = 1) {ty : Int} (ht : ty = 1 ∨ 2 ≤ ty) (hel : elS F us z ty (u (12 + H i - 2)).2.2.1) (hln : pDr u (12 + H i - 2) ≠ none → pLn σ (u (12 + H i - 2)).2.2.1 ≠ none) : ∃ S', ja_X4_usesElement 92 33 S = some (bi (pGo G σ x (H i) u).isSome, S') ∧ eFr S S' ∧ cRs S' (nlR (pRz G σ x (H i) u 1) 1 (nlR (pRz G σ x (H i) u 0) 0 r0)) (nlR (pRz G σ x (H i) u 1) 49 (nlR (pRz G σ x (H i) u 0) 48 s0)) ∧ ∀ v, pGo G σ x (H i) u = some v → cRw (lc i) (H i - 1) S' v := by
  have hH8 := (hv.2.2.2.2 i).2
  have e21 : 12 + H i - 2 + 1 = 12 + H i - 1 := by omega
  have r1 : rel (lc i) (H i) (12 + H i - 1) ∧ 12 + H i - 1 < 20 := rel_top (n := 0) (by omega) hH8
  have r2 : rel (lc i) (H i) (12 + H i - 2) ∧ 12 + H i - 2 < 20 := by
    have := rel_top (l := lc i) (n := 1) (show 1 < H i by omega) hH8
    rw [show 12 + H i - 1 - 1 = 12 + H i - 2 by omega] at this
    exact this
  have top : ja_X7_fromTop 93 1 S = some (((12 + H i - 2 : Nat) : Int), S) := by
    have := c_top hr (n := 1) (by omega) hH8
    rw [show 12 + H i - 1 - 1 = 12 + H i - 2 by omega] at this
    exact this
  have hw : ∀ s, z.2.1.length ≤ s → s < 54 → (u (12 + H i - 2)).2.2.1 s = false := fun s h1 h2 => nf_t fun q => by have := (hel s h2 q).1; omega
  obtain ⟨S1, s1, s2, s3, s4⟩ := c_elP hQ hT hF hv hz hg hz48 hzp hm k hr hok (r := 12 + H i - 2) (by omega) r2 (by rw [e21]; exact r1) kr (by rw [e21]; exact kc) hw hln 33 1 top
  rw [e21] at s2 s3 s4
  have epg : pGo G σ x (H i) u = oB (pI2 (zDn G) (zUp G) σ u (12 + H i - 2) (12 + H i - 1)) fun v' => oB (fJ (fun s => σ.1 (2592 + s)) (u (12 + H i - 2)).2.2.1 54) fun l => some (qUp v' (12 + H i - 2) l) := by
    unfold pI2
    rw [oB_as]
    unfold pGo
    rw [if_neg (by omega), if_neg (by omega), if_neg (by omega), if_neg (by omega), if_neg (by omega), if_neg (by omega), if_neg (by omega), if_neg (by omega), if_neg (by omega), if_neg (by omega), if_neg (by omega), if_neg (by omega), if_neg (by omega), if_pos ho]
  have ep0 : pRz G σ x (H i) u 0 = (u (12 + H i - 2)).2.2.1 62 := by
    unfold pRz
    rw [if_pos rfl, if_neg (by omega), if_pos (by omega)]
  have ep1 : pRz G σ x (H i) u 1 = pI1 σ u (12 + H i - 2) (12 + H i - 1) := by
    unfold pRz pI1
    rw [if_neg (by decide), if_pos rfl, if_pos ho]
    cases pDr u (12 + H i - 2) <;> rfl
  rw [ep0, ep1, epg]
  unfold ja_X4_usesElement
  rw [if_pos rfl, jc_92_2]
  cases hp : pI2 (zDn G) (zUp G) σ u (12 + H i - 2) (12 + H i - 1) with
  | none =>
    rw [s3 hp]
    exact ⟨S1, rfl, s1, s2, fun v q => by cases q⟩
  | some v =>
    obtain ⟨q1, q2, q3, q4⟩ := s4 v hp
    have ev : v (12 + H i - 2) = u (12 + H i - 2) := q4 _ (by omega)
    obtain ⟨S2, t1, t2, t3⟩ := c_takeE hQ hT (cPv_e hQ s1 hv) hg hz48 hzp (cGm_e s1 hm) q2 h2 hH8 (by rw [ev]; exact kr) ht (by rw [ev]; exact hel) (by rw [ev]; exact pI2_dr hp)
    rw [ev] at t1 t3
    rw [q1, if_pos rfl, t1, bd_some, if_pos (bi_01 _)]
    show ∃ S', _ = some (bi (oB (fJ (fun s => σ.1 (2592 + s)) (u (12 + H i - 2)).2.2.1 54) fun l => some (qUp v (12 + H i - 2) l)).isSome, S') ∧ eFr S S' ∧ cRs S' _ _ ∧ ∀ v', (oB (fJ (fun s => σ.1 (2592 + s)) (u (12 + H i - 2)).2.2.1 54) fun l => some (qUp v (12 + H i - 2) l)) = some v' → _
    refine ⟨S2, ?_, eFr_trans s1 (eFr_w t2), cRs_w t2 s2, fun v' q' => ?_⟩
    · cases fJ (fun s => σ.1 (2592 + s)) (u (12 + H i - 2)).2.2.1 54 <;> rfl
    · obtain ⟨w, w1, w2⟩ := oB_some q'
      cases w2
      exact t3 w w1
end CUW
