/-! The class enters bodies that are called, whole. -/
section CEB
variable {F : Int → Prop} {S : nk_S} {Q : Nat} {p : jP} {H lc : Nat → Nat} {us : List Int} {fl : List (List Int × Nat × Int)} {bl : List jB} {z : jL} {t : Nat → Int} {u : jQ} {i : Nat} {x : jC} {G : jZ} {σ : jG} {C : jH} {l h : Nat} {th : Nat → Int} {n : Nat} {A : jA} {W : Nat → Bool}
theorem c_enterB (hQ : Q = 13 ∨ Q = 49) (hT : thG F (zDn G) (zUp G)) (hv : cPv S Q p H lc) (hz : oJL p.2.2.2.2.1) (hbp : bl = p.2.2.2.1) (hg : gOk F us fl bl z σ) (hm : cGm S fl bl z σ C) (hA : cAm H lc S A) (hAw : aWf F H lc A) (hWt : cWt S W) {r s : Nat → Bool} (k : cRs S r s) (hr : cRw l h S u) {b : Nat} {y : jB} (hbl : bl.length ≤ 48) (hb : bl[b]? = some y) {e : Nat × Nat × Nat × Nat} (he : p.2.2.2.2.2[b]? = some e) {x0 : jC} (hx0 : p.2.2.2.2.1.1[e.1]? = some x0) (hxb : x0.2.2.2.1 = b) (hH : H e.1 = 0) (hal : y.ps.length ≤ lc e.1) {low : Nat} (hlow : 12 ≤ low ∧ low + y.ps.length = 12 + h) (h8 : h ≤ 8) {ob : Option Nat} {l5 : Int} (hob : cOb l5 ob) (hu2 : ob ≠ none → (u low).1 = 2) (hw : ∀ k, wOk F (pEn y u low ob k)) (hth : ∀ j, σ.2.2 b j = true → j < 63) {ty : Int} (ht : ty = 1 ∨ 2 ≤ ty ∨ ty = -1) (hty : y.rs = ty) {o : Option jW} (ho : ∀ w, o = some w → vl1 F us z ty w) (ho1 : ty = -1 → o = none) (hen : ty = -1 → σ.1 (2700 + b) = none) (h12 : cVl ty (S.1 92 12) o) : ∃ S' c, ja_X4_enterBody 92 (b : Int) (low : Int) l5 (bi (decide (ty = 1))) S = some (0, S') ∧ S'.2 = S.2 ∧ (∀ a, a < 92 ∨ a = 93 ∨ 98 ≤ a → S'.1 a = S.1 a) ∧ (∀ f, f ≠ 9 → f ≠ 10 → f ≠ 12 → f ≠ 13 → S'.1 92 f = S.1 92 f) ∧ cAm H lc S' (aArr A e.1 (qRs (lc e.1) (H e.1) (pEn y u low ob))) ∧ cWt S' (fun i => if i = e.1 ∧ c = true then true else W i) ∧ (c = true ↔ aArr A e.1 (qRs (lc e.1) (H e.1) (pEn y u low ob)) ≠ A) ∧ cRs S' (nlR (sEx (σ.2.2 b)) 7 r) (sOr s (σ.2.2 b)) ∧ S'.1 92 13 = (if σ.2.1 b = true then 1 else S.1 92 13) ∧ cVl ty (S'.1 92 12) (oJ o (if σ.2.1 b = true then σ.1 (2700 + b) else none)) := by
  have hb48 := bl_48 hbl hb
  have hj : e.1 < 1024 := by
    have := (List.getElem?_eq_some_iff.mp hx0).1
    have := hz.1
    omega
  have hcell := hv.2.2.1.2.2.2.2.2.1 b y (by rw [hbp] at hb; exact hb)
  have hst := (hv.2.2.1.2.2.2.2.2.2.1 b e he).1
  have hlc : S.1 (Q + 16) b = (lc e.1 : Int) := by
    have := (hv.2.2.2.1 e.1 x0 hx0).2
    rw [hxb] at this
    exact this
  obtain ⟨S1, c, s1, s2, s3, s4, s5, s6⟩ := c_ent hT (S := S) (A := A) (W := W) (u := u) (ob := ob) (low := low) (ar := y.ps.length) hj hv.2.2.2.2 hH rfl hal (by omega) hob hu2 hA (fun v hv' => (hAw e.1 v hv').1) (fun v hv' => (hAw e.1 v hv').2) hw hWt (fun k' hk' => hr.2.2 (low + k') (by unfold rel; omega))
  have s3' : ∀ a, a < 94 ∨ 98 ≤ a → S1.1 a = S.1 a := fun a ha => s3 a (by omega) (by omega) (by omega) (by omega)
  have hm1 : cGm S1 fl bl z σ C := by
    unfold cGm at hm ⊢
    rw [s3' 100 (by omega), s3' 101 (by omega), s3' 102 (by omega), s3' 103 (by omega), s3' 104 (by omega), s3' 105 (by omega), s3' 106 (by omega)]
    exact hm
  have ht6 := (hm1.2.2.2.1 b y hb).2.2
  have hz0 := cV_ex ht6 hth
  have e0 : ja_X4_enterBody 92 (b : Int) (low : Int) l5 (bi (decide (ty = 1))) S = if S1.1 106 b = 0 then ja_X4_enterBody_b88 92 (b : Int) (bi (decide (ty = 1))) S1 else nk_lt (nk_wi S1 92 9 (nk_ior (S1.1 92 9) 128)) fun S13 => nk_lt (nk_wi S13 92 10 (nk_lor (S13.1 92 10) (S13.1 106 b))) fun S15 => ja_X4_enterBody_b88 92 (b : Int) (bi (decide (ty = 1))) S15 := by
    unfold ja_X4_enterBody
    rw [if_pos (by omega), if_pos (in_i (N := 48) (by omega)), hv.1, (jc_Q2 hQ).1, (jc_Qb hQ).2.1, (jc_Q9 hQ).2.2.2.2.2.2.1, (jc_Q9 hQ).2.2.2.1, Int.toNat_natCast, hst, hlc, hcell.2.2.1, jc_92_2, s1, bd_some, jc_92_3, jc_100_5]
  have h128 : cI 128 (onS 7) := cI_on (e := 7) (by decide)
  obtain ⟨T, t1, t2, t3, t4, t5⟩ : ∃ T, ja_X4_enterBody 92 (b : Int) (low : Int) l5 (bi (decide (ty = 1))) S = ja_X4_enterBody_b88 92 (b : Int) (bi (decide (ty = 1))) T ∧ T.2 = S1.2 ∧ (∀ a, a ≠ 92 → T.1 a = S1.1 a) ∧ (∀ f, f ≠ 9 → f ≠ 10 → T.1 92 f = S1.1 92 f) ∧ cRs T (nlR (sEx (σ.2.2 b)) 7 r) (sOr s (σ.2.2 b)) := by
    rw [e0]
    have k1 : cRs S1 r s := by unfold cRs; rw [s3' 92 (by omega)]; exact k
    by_cases cc : sEx (σ.2.2 b) = true
    · rw [if_neg (fun q => by rw [hz0.mp q] at cc; cases cc), lt_eq, lt_eq]
      refine ⟨_, rfl, rfl, fun a ha => by rw [wi_n ha, wi_n ha], fun f f1 f2 => by rw [wi_at, if_neg f2, wi_at, if_neg f1], ?_, ?_⟩
      · rw [wi_at, if_neg (by decide), wi_at, if_pos rfl]
        unfold nlR
        rw [if_pos cc]
        exact cI_or k1.1 h128
      · rw [wi_at, if_pos rfl, wi_at, if_neg (by decide), wi_n (by decide)]
        exact cV_or k1.2 ht6
    · rw [if_pos (hz0.mpr (nf_t cc))]
      refine ⟨S1, rfl, rfl, fun _ _ => rfl, fun _ _ _ => rfl, ?_, ?_⟩
      · unfold nlR
        rw [if_neg cc]; exact k1.1
      · refine cV_e k1.2 (fun j _ => ?_)
        show s j = (s j || σ.2.2 b j)
        have : σ.2.2 b j = false := nf_t fun q => cc (sEx_iff.mpr ⟨j, hth j q, q⟩)
        rw [this, Bool.or_false]
  have hmT : cGm T fl bl z σ C := by
    unfold cGm at hm1 ⊢
    rw [t3 100 (by decide), t3 101 (by decide), t3 102 (by decide), t3 103 (by decide), t3 104 (by decide), t3 105 (by decide), t3 106 (by decide)]
    exact hm1
  have h12T : cVl ty (T.1 92 12) o := by rw [t4 12 (by decide) (by decide), s3' 92 (by omega)]; exact h12
  obtain ⟨S', q1, q2, q3, q4, q5, q6⟩ := c_enB hQ hT hg hmT hbl hb ht hty ho ho1 hen h12T
  refine ⟨S', c, by rw [t1]; exact q1, by rw [q2, t2, s2], fun a ha => by rw [q3 a (by omega), t3 a (by omega), s3' a (by omega)], fun f f1 f2 f3 f4 => by rw [q4 f f3 f4, t4 f f1 f2, s3' 92 (by omega)], ?_, ?_, s6, ?_, by rw [q5, t4 13 (by decide) (by decide), s3' 92 (by omega)], q6⟩
  · exact ⟨fun i' hi' => by rw [q3 96 (by decide), t3 96 (by decide)]; exact s4.1 i' hi', fun i' u' hu' k' hk' => by rw [q3 94 (by decide), t3 94 (by decide), q3 95 (by decide), t3 95 (by decide)]; exact s4.2 i' u' hu' k' hk'⟩
  · exact ⟨fun i' hi' => by rw [q3 97 (by decide), t3 97 (by decide)]; exact s5.1 i' hi', fun i' hi' => by rw [q3 97 (by decide), t3 97 (by decide)]; exact s5.2 i' hi'⟩
  · unfold cRs
    rw [q4 9 (by decide) (by decide), q4 10 (by decide) (by decide)]
    exact t5
end CEB
