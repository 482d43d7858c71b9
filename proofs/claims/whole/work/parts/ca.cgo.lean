/-! The class goes on. -/
def gFr (S S' : nk_S) : Prop := S'.2 = S.2 ∧ (∀ a, a < 92 ∨ 100 ≤ a → S'.1 a = S.1 a) ∧ (∀ f, f ≠ 11 → S'.1 92 f = S.1 92 f) ∧ ∀ f, f ≠ 6 → f ≠ 7 → S'.1 93 f = S.1 93 f
theorem gFr_rfl {S : nk_S} : gFr S S := ⟨rfl, fun _ _ => rfl, fun _ _ => rfl, fun _ _ _ => rfl⟩
theorem gFr_trans {S1 S2 S3 : nk_S} (h : gFr S1 S2) (k : gFr S2 S3) : gFr S1 S3 := ⟨k.1.trans h.1, fun a x => (k.2.1 a x).trans (h.2.1 a x), fun f x => (k.2.2.1 f x).trans (h.2.2.1 f x), fun f x y => (k.2.2.2 f x y).trans (h.2.2.2 f x y)⟩
theorem gFr_w {S S' : nk_S} (h : wFr S S') : gFr S S' := ⟨h.1, fun a x => h.2.1 a (by omega) (by omega) (by omega), fun f _ => by rw [h.2.1 92 (by decide) (by decide) (by decide)], h.2.2⟩
/-- something goes to a place, or nothing -/
def gOut (H lc : Nat → Nat) (A : jA) (W : Nat → Bool) (S S' : nk_S) (o : Option jQ) (j : Nat) : Prop := gFr S S' ∧ (o = none → S'.1 92 11 = S.1 92 11 ∧ cAm H lc S' A ∧ cWt S' W) ∧ ∀ v, o = some v → S'.1 92 11 = 1 ∧ ∃ c, cAm H lc S' (aArr A j (qRs (lc j) (H j) v)) ∧ cWt S' (fun i => if i = j ∧ c = true then true else W i) ∧ (c = true ↔ aArr A j (qRs (lc j) (H j) v) ≠ A)
theorem cAm_w {H lc : Nat → Nat} {S S' : nk_S} {A : jA} (h : wFr S S') (k : cAm H lc S A) : cAm H lc S' A := by
  have e : ∀ a, a = 94 ∨ a = 95 ∨ a = 96 → S'.1 a = S.1 a := fun a ha => h.2.1 a (by omega) (by omega) (by omega)
  exact ⟨fun i hi => by rw [e 96 (by decide)]; exact k.1 i hi, fun i u hu q hq => by rw [e 94 (by decide), e 95 (by decide)]; exact k.2 i u hu q hq⟩
theorem cWt_w {S S' : nk_S} {W : Nat → Bool} (h : wFr S S') (k : cWt S W) : cWt S' W := by
  have e : S'.1 97 = S.1 97 := h.2.1 97 (by decide) (by decide) (by decide)
  exact ⟨fun i hi => by rw [e]; exact k.1 i hi, fun i hi => by rw [e]; exact k.2 i hi⟩
theorem gOut_w {H lc : Nat → Nat} {A : jA} {W : Nat → Bool} {S S1 S' : nk_S} {o : Option jQ} {j : Nat} (hw : wFr S S1) (h : gOut H lc A W S1 S' o j) : gOut H lc A W S S' o j := by
  refine ⟨gFr_trans (gFr_w hw) h.1, fun q => ?_, h.2.2⟩
  obtain ⟨a, b⟩ := h.2.1 q
  exact ⟨by rw [a, hw.2.1 92 (by decide) (by decide) (by decide)], b⟩
theorem gOut_n {H lc : Nat → Nat} {A : jA} {W : Nat → Bool} {S S1 : nk_S} {j : Nat} (hw : wFr S S1) (hA : cAm H lc S A) (hW : cWt S W) : gOut H lc A W S S1 none j := ⟨gFr_w hw, fun _ => ⟨by rw [hw.2.1 92 (by decide) (by decide) (by decide)], cAm_w hw hA, cWt_w hw hW⟩, fun v q => by cases q⟩
theorem cPv_g {S S' : nk_S} {Q : Nat} (hQ : Q = 13 ∨ Q = 49) {p : jP} {H lc : Nat → Nat} (hf : gFr S S') (hv : cPv S Q p H lc) : cPv S' Q p H lc := cPv_c hQ hf.1 (fun a ha => hf.2.1 a (by omega)) hv
section CGO
variable {F : Int → Prop} {dn up : Int → Int} {S : nk_S} {Q : Nat} {p : jP} {H lc : Nat → Nat} {A : jA} {W : Nat → Bool}
/-- the rows are in order -/
def aWf (F : Int → Prop) (H lc : Nat → Nat) (A : jA) : Prop := ∀ i u, A i = some u → (∀ k, wOk F (u k)) ∧ ∀ k, ¬ rel (lc i) (H i) k → u k = wU
theorem c_goOn (hQ : Q = 13 ∨ Q = 49) (hT : thG F dn up) (hv : cPv S Q p H lc) (hz : oJL p.2.2.2.2.1) {j : Nat} (hj : j < p.2.2.2.2.1.1.length) (hA : cAm H lc S A) (hAw : aWf F H lc A) (hWt : cWt S W) {v : jQ} (hw : ∀ k, wOk F (v k)) (hr : cRw (lc j) (H j) S v) : ∃ S', ja_X4_goOn 92 (j : Int) S = some (0, S') ∧ gOut H lc A W S S' (some v) j := by
  have h24 := hz.1
  have hc : S.1 Q 3 = (p.2.2.2.2.1.1.length : Int) := hv.2.2.1.2.2.2.2.2.2.2.2.1.1.1
  obtain ⟨T, hT'⟩ : ∃ T, T = nk_wi S 92 11 1 := ⟨_, rfl⟩
  have tn : ∀ a, a ≠ 92 → T.1 a = S.1 a := fun a ha => by rw [hT', wi_n ha]
  have t3 : T.1 Q 3 = (p.2.2.2.2.1.1.length : Int) := by rw [tn Q (by omega)]; exact hc
  obtain ⟨S', c, s1, s2, s3, s4, s5, s6⟩ := c_arv hT (S := T) (A := A) (W := W) (w := v) (j := j) (by omega) hv.2.2.2.2 ⟨fun i hi => by rw [tn 96 (by decide)]; exact hA.1 i hi, fun i u hu q hq => by rw [tn 94 (by decide), tn 95 (by decide)]; exact hA.2 i u hu q hq⟩ (fun u hu => (hAw j u hu).1) (fun u hu => (hAw j u hu).2) hw ⟨fun i hi => by rw [tn 97 (by decide)]; exact hWt.1 i hi, fun i hi => by rw [tn 97 (by decide)]; exact hWt.2 i hi⟩ ⟨by rw [tn 93 (by decide)]; exact hr.1, by rw [tn 93 (by decide)]; exact hr.2.1, fun k hk => by rw [tn 98 (by decide), tn 99 (by decide)]; exact hr.2.2 k hk⟩
  refine ⟨S', ?_, ⟨by rw [s2, hT']; rfl, fun a ha => by rw [s3 a (by omega) (by omega) (by omega) (by omega), tn a (by omega)], fun f hf => by rw [s3 92 (by decide) (by decide) (by decide) (by decide), hT', wi_at, if_neg hf], fun f hf _ => by rw [s3 93 (by decide) (by decide) (by decide) (by decide), tn 93 (by decide)]⟩, (fun q => by cases q), fun v' hv' => ?_⟩
  · unfold ja_X4_goOn
    rw [lt_eq, ← hT', show T.2 92 0 = Q by rw [hT']; exact hv.1, t3, if_neg (by omega), if_neg (by omega), jc_92_2, s1, bd_some]
  · cases hv'
    exact ⟨by rw [s3 92 (by decide) (by decide) (by decide) (by decide), hT', wi_at, if_pos rfl], c, s4, s5, s6⟩
theorem c_bring (hQ : Q = 13 ∨ Q = 49) (hv : cPv S Q p H lc) (hz : oJL p.2.2.2.2.1) {i : Nat} {x : jC} (hx : p.2.2.2.2.1.1[i]? = some x) (hb : x.2.2.2.1 < 48) (hA : cAm H lc S A) {u : jQ} (hu : A i = some u) : ∃ S', ja_X4_bring 92 (i : Int) S = some (0, S') ∧ wFr S S' ∧ cRw (lc i) (H i) S' u := by
  have hi : i < 1024 := by
    have := (List.getElem?_eq_some_iff.mp hx).1
    have := hz.1
    omega
  obtain ⟨v1, v2, v3, v4, v5⟩ := hv
  obtain ⟨h1, h2⟩ := v4 i x hx
  have hcd := v3.2.2.2.2.2.2.2.2.1.1.2 i x hx
  obtain ⟨S', s1, s2, s3⟩ := c_bringS (S := S) (u := u) hi (v5 i).1 (v5 i).2 (hA.2 i u hu)
  refine ⟨S', ?_, s2, s3⟩
  unfold ja_X4_bring
  rw [if_pos (in_i (N := 1024) (by omega)), v1, (jc_Qp hQ).2.2.2.2.2.1, Int.toNat_natCast, hcd.2.2.2.2, if_pos (in_i (N := 48) (by omega)), (jc_Q2 hQ).1, (jc_Q9 hQ).2.2.2.2.2.2.1, (jc_Qp hQ).2.2.2.2.2.2.1, Int.toNat_natCast, h1, h2, jc_92_2, s1, bd_some]
end CGO
