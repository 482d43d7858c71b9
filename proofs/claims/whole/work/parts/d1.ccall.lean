/-! The class calls. -/
section CCA
variable {F : Int → Prop} {S : nk_S} {Q : Nat} {p : jP} {H lc : Nat → Nat} {us : List Int} {fl : List (List Int × Nat × Int)} {bl : List jB} {z : jL} {t : Nat → Int} {u : jQ} {i : Nat} {x : jC} {G : jZ} {σ : jG} {C : jH} {A : jA} {W : Nat → Bool}
theorem c_call (hQ : Q = 13 ∨ Q = 49) (hT : thG F (zDn G) (zUp G)) (hv : cPv S Q p H lc) (hz : oJL p.2.2.2.2.1) (hx : p.2.2.2.2.1.1[i]? = some x) (hbp : bl = p.2.2.2.1) (hg : gOk F us fl bl z σ) (hm : cGm S fl bl z σ C) (hA : cAm H lc S A) (hAw : aWf F H lc A) (hWt : cWt S W) {r s : Nat → Bool} (k : cRs S r s) (hr : cRw (lc i) (H i) S u) {b : Nat} {y : jB} (hbl : bl.length ≤ 48) (hxb0 : x.2.1 = (b : Int)) (hb : bl[b]? = some y) {e : Nat × Nat × Nat × Nat} (he : p.2.2.2.2.2[b]? = some e) {x0 : jC} (hx0 : p.2.2.2.2.1.1[e.1]? = some x0) (hxb : x0.2.2.2.1 = b) (hH : H e.1 = 0) (hal : y.ps.length ≤ lc e.1) (har : y.ps.length ≤ H i) (hw : ∀ k, wOk F (pEn y u (12 + H i - y.ps.length) none k)) (hth : ∀ j, σ.2.2 b j = true → j < 63) (ht : y.rs = 1 ∨ 2 ≤ y.rs ∨ y.rs = -1) (hen : y.rs = -1 → σ.1 (2700 + b) = none) (hlv : y.rs ≠ -1 → H i - y.ps.length < 8) : ∃ S' c, ja_X4_calls 92 (i : Int) 39 S = some (bi (σ.2.1 b), S') ∧ S'.2 = S.2 ∧ (∀ a, a < 92 ∨ 100 ≤ a → S'.1 a = S.1 a) ∧ (∀ f, f ≠ 9 → f ≠ 10 → f ≠ 12 → f ≠ 13 → S'.1 92 f = S.1 92 f) ∧ cAm H lc S' (aArr A e.1 (qRs (lc e.1) (H e.1) (pEn y u (12 + H i - y.ps.length) none))) ∧ cWt S' (fun i => if i = e.1 ∧ c = true then true else W i) ∧ (c = true ↔ aArr A e.1 (qRs (lc e.1) (H e.1) (pEn y u (12 + H i - y.ps.length) none)) ≠ A) ∧ cRs S' (nlR (sEx (σ.2.2 b)) 7 r) (sOr s (σ.2.2 b)) ∧ (y.rs = -1 → cRw (lc i) (H i - y.ps.length) S' u) ∧ ∀ w, (if σ.2.1 b = true then σ.1 (2700 + b) else none) = some w → y.rs ≠ -1 → cRw (lc i) (H i - y.ps.length + 1) S' (qUp u (12 + (H i - y.ps.length)) w) := by
  have hi : (i : Int) < 1024 := by
    have := (List.getElem?_eq_some_iff.mp hx).1
    have := hz.1
    omega
  have hb48 := bl_48 hbl hb
  have hb48' : (b : Int) < 48 := by omega
  have hH8 := (hv.2.2.2.2 i).2
  have hcd := hv.2.2.1.2.2.2.2.2.2.2.2.1.1.2 i x hx
  have hcell := hv.2.2.1.2.2.2.2.2.1 b y (by rw [hbp] at hb; exact hb)
  obtain ⟨g, g1, g2⟩ := x8_no (decide (y.rs = 1)) S
  obtain ⟨T, hTT⟩ : ∃ T, T = nk_wi (nk_wi S 92 12 g) 92 13 0 := ⟨_, rfl⟩
  have tn : ∀ a, a ≠ 92 → T.1 a = S.1 a := fun a ha => by rw [hTT, wi_n ha, wi_n ha]
  have tf : ∀ f, f ≠ 12 → f ≠ 13 → T.1 92 f = S.1 92 f := fun f f1 f2 => by rw [hTT, wi_at, if_neg f2, wi_at, if_neg f1]
  have t2 : T.2 = S.2 := by rw [hTT]; rfl
  have vT : cPv T Q p H lc := cPv_c hQ t2 (fun a ha => tn a (by omega)) hv
  have mT : cGm T fl bl z σ C := by
    unfold cGm at hm ⊢
    rw [tn 100 (by decide), tn 101 (by decide), tn 102 (by decide), tn 103 (by decide), tn 104 (by decide), tn 105 (by decide), tn 106 (by decide)]
    exact hm
  have aT : cAm H lc T A := ⟨fun i' hi' => by rw [tn 96 (by decide)]; exact hA.1 i' hi', fun i' u' hu' k' hk' => by rw [tn 94 (by decide), tn 95 (by decide)]; exact hA.2 i' u' hu' k' hk'⟩
  have wT : cWt T W := ⟨fun i' hi' => by rw [tn 97 (by decide)]; exact hWt.1 i' hi', fun i' hi' => by rw [tn 97 (by decide)]; exact hWt.2 i' hi'⟩
  have kT : cRs T r s := by unfold cRs; rw [tf 9 (by decide) (by decide), tf 10 (by decide) (by decide)]; exact k
  have rT : cRw (lc i) (H i) T u := by unfold cRw; rw [tn 93 (by decide), tn 98 (by decide), tn 99 (by decide)]; exact hr
  have h12 : cVl y.rs (T.1 92 12) none := by
    have e12 : T.1 92 12 = g := by rw [hTT, wi_at, if_neg (by decide), wi_at, if_pos rfl]
    rw [e12, g2]
    rcases ht with q | q | q
    · exact cVl_no (Or.inl q)
    · exact cVl_no (Or.inr q)
    · rw [q]
      unfold cVl
      rw [if_neg (by decide)]
      exact cV_0
  have h13 : T.1 92 13 = 0 := by rw [hTT, wi_at, if_pos rfl]
  obtain ⟨S1, c, s1, s2, s3, s4, s5, s6, s7, s8, s9, s10⟩ := c_enterB (low := 12 + H i - y.ps.length) (ob := none) (l5 := 0) hQ hT vT hz hbp hg mT aT hAw wT kT rT hbl hb he hx0 hxb hH hal ⟨by omega, by omega⟩ hH8 rfl (fun q => absurd rfl q) hw hth ht rfl (o := none) (fun w q => by cases q) (fun _ => rfl) hen h12
  have r1 : cRw (lc i) (H i) S1 u := by unfold cRw; rw [s3 93 (by omega), s3 98 (by omega), s3 99 (by omega)]; exact rT
  have e13 : S1.1 92 13 = bi (σ.2.1 b) := by
    rw [s9, h13]
    cases σ.2.1 b <;> rfl
  obtain ⟨S2, q1, q2, q3, q4⟩ := c_b207 hT r1 har hH8 ht hlv (o := if σ.2.1 b = true then σ.1 (2700 + b) else none) (us := us) (z := z) (fun w q => by
    split at q
    · have := (hg.1 _ _ q).2
      rw [zT_r hb] at this
      exact this
    · cases q) s10 e13
  refine ⟨S2, c, ?_, by rw [q2.1, s2, t2], fun a ha => by rw [q2.2.1 a (by omega) (by omega) (by omega), s3 a (by omega), tn a (by omega)], fun f f1 f2 f3 f4 => by rw [q2.2.1 92 (by decide) (by decide) (by decide), s4 f f1 f2 f3 f4, tf f f3 f4], cAm_w q2 s5, cWt_w q2 s6, s7, cRs_w q2 s8, q3, q4⟩
  have hlow : 12 + H i - y.ps.length = 12 + H i - y.ps.length := rfl
  have ew : nk_w (nk_w (12 + S.1 93 7) - (y.ps.length : Int)) = ((12 + H i - y.ps.length : Nat) : Int) := by
    rw [hr.2.1, wi12 (by omega), wisub (by omega) (by omega)]
  unfold ja_X4_calls
  rw [if_pos (in_i (N := 1024) hi), hv.1, (jc_Qp hQ).2.2.1, Int.toNat_natCast, hcd.2.1, hxb0, lt_eq, if_pos (in_i (N := 48) hb48'), (jc_Q2 hQ).1, (jc_Q9 hQ).2.2.2.1, (jc_Q9 hQ).2.2.2.2.2.1, Int.toNat_natCast, hcell.2.2.1, hcell.2.2.2.2.1, lt_eq, jc_92_2, ew, lt_eq, lt_eq]
  clear ew
  have h98 : ∀ nb, nb = bi (decide (y.rs = 1)) → ja_X4_calls_b98 92 (y.ps.length : Int) y.rs 92 (b : Int) ((12 + H i - y.ps.length : Nat) : Int) 0 nb T = some (bi (σ.2.1 b), S2) := fun nb hnb => by
    unfold ja_X4_calls_b98
    rw [hnb, s1, bd_some, q1]
  unfold ja_X4_calls_b65
  by_cases d : y.rs = 1
  · rw [decide_eq_true d] at g1 h98
    have g1' : ja_X8_nothing 1 S = some (g, S) := g1
    rw [if_pos d, g1', bd_some, lt_eq, lt_eq, ← hTT, if_pos rfl, if_pos d]
    exact h98 1 rfl
  · rw [decide_eq_false d] at g1 h98
    have g1' : ja_X8_nothing 0 S = some (g, S) := g1
    rw [if_neg d, g1', bd_some, lt_eq, lt_eq, ← hTT, if_pos rfl, if_neg d]
    exact h98 0 rfl
end CCA
