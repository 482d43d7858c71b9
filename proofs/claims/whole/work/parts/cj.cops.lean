/-! The class tells lengths and types. -/
/-- the sites that a row's slots need for what is kept aside -/
def cFx (S : nk_S) (us : List Int) (z : jL) : Prop := (∀ (i : Nat) (x : jC), z.1[i]? = some x → x.1 = 37 ∨ x.1 = 38 → cV (S.1 109 i) (pB us z x.2.1)) ∧ (∀ (c : Nat) (y : Nat × Nat × Nat × Nat × Nat), z.2.2.1[c]? = some y → cV (S.1 110 c) (pB us z (4 + 2 * (y.2.2.2.2 : Int)))) ∧ ∀ s, s < z.2.1.length → tAr (sTp z s) = true → cV (S.1 111 s) (pB us z (tEl (sTp z s)))
section COP
variable {F : Int → Prop} {S : nk_S} {Q : Nat} {p : jP} {H lc : Nat → Nat} {us : List Int} {fl : List (List Int × Nat × Int)} {bl : List jB} {z : jL} {t : Nat → Int} {u : jQ} {i : Nat} {x : jC} {G : jZ} {σ : jG} {C : jH} {l h : Nat}
theorem c_pushA (h7 : S.1 93 7 = (h : Int)) (h8 : h < 8) (v f : Int) : ∃ S', ja_X7_push 93 v f S = some (0, S') ∧ wFr S S' := by
  refine ⟨nk_wi (nk_wi (nk_wi S 98 (12 + h) v) 99 (12 + h) f) 93 7 ((h + 1 : Nat) : Int), ?_, wFr_trans (wFr_98 _ _) (wFr_trans (wFr_99 _ _) (wFr_7 _))⟩
  unfold ja_X7_push
  have e1 : (nk_wi S 98 (12 + h) v).1 93 7 = (h : Int) := by rw [wi_n (by decide)]; exact h7
  have e2 : (nk_wi (nk_wi S 98 (12 + h) v) 99 (12 + h) f).1 93 7 = (h : Int) := by rw [wi_n (by decide), wi_n (by decide)]; exact h7
  rw [h7, if_neg (by omega), wi12 (by omega), if_pos (in_i (N := 20) (by omega)), lt_eq, jc_93_4, Int.toNat_natCast, e1, wi12 (by omega), if_pos (in_i (N := 20) (by omega)), lt_eq, jc_93_5, Int.toNat_natCast, lt_eq, e2, w_nat1 (by omega)]
theorem cGm_e {S S' : nk_S} (h : eFr S S') (k : cGm S fl bl z σ C) : cGm S' fl bl z σ C := by
  have e : ∀ a, 100 ≤ a → S'.1 a = S.1 a := fun a ha => h.2.1 a (by omega) (by omega) (by omega) (by omega)
  unfold cGm at k ⊢
  rw [e 100 (by decide), e 101 (by decide), e 102 (by decide), e 103 (by decide), e 104 (by decide), e 105 (by decide), e 106 (by decide)]
  exact k
/-- a number with a fact of a local -/
theorem cSt_N {r : jR} {k : Nat} {b : Nat} (hk : b + k < 48) : cSt (pk r) (nk_lor 4503599627370496 (nk_lshl 1 ((b + k : Nat) : Int))) (wFc (wR r) (onS (b + k))) := by
  refine ⟨cV_e (c_addF (w := wR r) (fBt_R r) (cV_one (show b + k < 64 by omega)) (fun j hj => ?_)) (fun j _ => fBt_e (w := wR r) (fun j _ => ?_) j), (fun q => by cases q), fun _ => rfl, fun q => by cases q⟩
  · have := of_decide_eq_true hj
    omega
  · show (false || _) = _
    rw [Bool.false_or]
theorem c_length (hQ : Q = 13 ∨ Q = 49) (hT : thG F (zDn G) (zUp G)) (hv : cPv S Q p H lc) (hz : oJL p.2.2.2.2.1) (hg : gOk F us fl bl z σ) (hz48 : z.2.1.length ≤ 48) (hzp : z = p.2.2.2.2.1) (hm : cGm S fl bl z σ C) {r s : Nat → Bool} (k : cRs S r s) (hr : cRw (lc i) (H i) S u) (hok : vOk F us z (lc i) t u) (ho : x.1 = 32) (k1 : (u (12 + H i - 1)).1 = 2) (h1 : 1 ≤ H i) (hw : ∀ s, z.2.1.length ≤ s → s < 54 → (u (12 + H i - 1)).2.2.1 s = false) : ∃ S', ja_X4_tellsLength 92 S = some (bi (pGo G σ x (H i) u).isSome, S') ∧ eFr S S' ∧ cRs S' (nlR ((u (12 + H i - 1)).2.2.1 62) 0 r) (nlR ((u (12 + H i - 1)).2.2.1 62) 48 s) ∧ ∀ v, pGo G σ x (H i) u = some v → cRw (lc i) (H i) S' v := by
  have hH8 := (hv.2.2.2.2 i).2
  have top := c_top0 hr hH8
  have r1 : rel (lc i) (H i) (12 + H i - 1) ∧ 12 + H i - 1 < 20 := rel_top (n := 0) (by omega) hH8
  have st := hr.2.2 _ r1.1
  have epg : pGo G σ x (H i) u = oB (pDr u (12 + H i - 1)) fun v => oB (pLn σ (u (12 + H i - 1)).2.2.1) fun l => some (qUp v (12 + H i - 1) (wFc (wR l.2.1) (oOn (u (12 + H i - 1)).2.2.2.1 24))) := by
    unfold pGo
    rw [if_neg (by omega), if_neg (by omega), if_neg (by omega), if_neg (by omega), if_neg (by omega), if_neg (by omega), if_neg (by omega), if_neg (by omega), if_neg (by omega), if_neg (by omega), if_neg (by omega), if_neg (by omega), if_pos ho]
  obtain ⟨S1, s1, s2, s3, s4, s5⟩ := c_deref k hr hok r1 k1
  unfold ja_X4_tellsLength
  rw [jc_92_2, top, bd_some, if_pos (in_i (N := 20) (by omega)), jc_93_4, jc_93_5, Int.toNat_natCast, c_copy (hok.1 _).1 st.1, bd_some, s1, bd_some, epg]
  cases hd : pDr u (12 + H i - 1) with
  | none =>
    rw [if_pos (show bi (none : Option jQ).isSome = 0 from rfl)]
    exact ⟨S1, rfl, s2, s4, fun v q => by cases q⟩
  | some v =>
    rw [if_neg (bi_some rfl)]
    have rv := s5 v hd
    have vok : vOk F us z (lc i) t v ∧ v (12 + H i - 1) = u (12 + H i - 1) := by
      unfold pDr at hd
      split at hd
      · exact ⟨qKp_ok hok k1 hd, (qKp_at hok.2.1 hd).1 _ (by omega)⟩
      · cases hd
    have stv := rv.2.2 _ r1.1
    rw [vok.2] at stv
    have hlen := c_lenOf hQ hT (cPv_e hQ s2 hv) hz hg hz48 hzp (cGm_e s2 hm) (stv.2.2.2 k1) hw
    rw [hlen, bd_some]
    obtain ⟨S2, q1, q2, q3⟩ := c_drop rv (n := 1) h1 hH8
    have q1' : ja_X7_drop 93 1 S1 = some (0, S2) := q1
    rw [q1', bd_some]
    have okl : ∀ q, vN (pLn σ (u (12 + H i - 1)).2.2.1) = some q → iR2 q ∧ q.1 ≤ q.2 := by
      intro q hq
      cases hl : pLn σ (u (12 + H i - 1)).2.2.1 with
      | none => rw [hl] at hq; cases hq
      | some w =>
        rw [hl] at hq
        cases hq
        have vw := fJ_v (Or.inl rfl) 54 (fun s' v' a _ q' => by have := (hg.1 _ _ q').2; rw [zT_l a] at this; exact this) w hl
        exact ⟨rOk_iR hT (vl1_n vw).2, (vl1_n vw).2.2.2⟩
    obtain ⟨f, hf, hfs⟩ : ∃ f, (if 0 ≤ (oN (u (12 + H i - 1)).2.2.2.1 : Int) - 1 then ja_X4_tellsLength_b79 (kPk (vN (pLn σ (u (12 + H i - 1)).2.2.1))) 93 (kPk (vN (pLn σ (u (12 + H i - 1)).2.2.1))) (nk_lor 4503599627370496 (nk_lshl 1 (nk_w (24 + ((oN (u (12 + H i - 1)).2.2.2.1 : Int) - 1))))) S2 else ja_X4_tellsLength_b79 (kPk (vN (pLn σ (u (12 + H i - 1)).2.2.1))) 93 (kPk (vN (pLn σ (u (12 + H i - 1)).2.2.1))) 4503599627370496 S2) = ja_X4_tellsLength_b79 (kPk (vN (pLn σ (u (12 + H i - 1)).2.2.1))) 93 (kPk (vN (pLn σ (u (12 + H i - 1)).2.2.1))) f S2 ∧ ∀ w : jW, cSt (pk w.2.1) f (wFc (wR w.2.1) (oOn (u (12 + H i - 1)).2.2.2.1 24)) := by
      cases hc : (u (12 + H i - 1)).2.2.2.1 with
      | none =>
        refine ⟨4503599627370496, by rw [show oN none = 0 from rfl, if_neg (by decide)], fun w => ?_⟩
        exact cSt_R
      | some c =>
        have hc12 := (hok.1 _).1 c hc
        have e : ((oN (some c) : Nat) : Int) - 1 = (c : Int) := by show ((c + 1 : Nat) : Int) - 1 = _; omega
        have ew : nk_w (24 + (c : Int)) = ((24 + c : Nat) : Int) := by rw [nk_w_id (by omega) (by omega)]; omega
        refine ⟨nk_lor 4503599627370496 (nk_lshl 1 ((24 + c : Nat) : Int)), by rw [e, if_pos (by omega), ew], fun w => ?_⟩
        exact cSt_N (by omega)
    rw [hf]
    unfold ja_X4_tellsLength_b79
    show ∃ S', _ = some (bi (oB (pLn σ (u (12 + H i - 1)).2.2.1) fun l => some (qUp v (12 + H i - 1) (wFc (wR l.2.1) (oOn (u (12 + H i - 1)).2.2.2.1 24)))).isSome, S') ∧ eFr S S' ∧ cRs S' _ _ ∧ ∀ v', (oB (pLn σ (u (12 + H i - 1)).2.2.1) fun l => some (qUp v (12 + H i - 1) (wFc (wR l.2.1) (oOn (u (12 + H i - 1)).2.2.2.1 24)))) = some v' → _
    cases hl : pLn σ (u (12 + H i - 1)).2.2.1 with
    | none =>
      obtain ⟨S3, w1, w2⟩ := c_pushA q3.2.1 (by omega) (kPk (vN none)) f
      rw [hl] at okl
      rw [w1, bd_some, kPk_n okl, bd_some]
      exact ⟨S3, rfl, eFr_trans s2 (eFr_trans (eFr_w q2) (eFr_w w2)), cRs_w w2 (cRs_w q2 s4), fun v' q => by cases q⟩
    | some w =>
      obtain ⟨S3, w1, w2, w3⟩ := c_push q3 (by omega) (hfs w)
      have w1' : ja_X7_push 93 (kPk (vN (some w))) f S2 = some (0, S3) := w1
      rw [hl] at okl
      rw [w1', bd_some, kPk_n okl, bd_some]
      refine ⟨S3, rfl, eFr_trans s2 (eFr_trans (eFr_w q2) (eFr_w w2)), cRs_w w2 (cRs_w q2 s4), fun v' q => ?_⟩
      cases q
      rw [show H i - 1 + 1 = H i by omega, show 12 + (H i - 1) = 12 + H i - 1 by omega] at w3
      exact w3
end COP
