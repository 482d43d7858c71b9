/-! The class notes that a body ends. -/
section CEN
variable {F : Int → Prop} {dn up : Int → Int} {us : List Int} {fl : List (List Int × Nat × Int)} {bl : List jB} {z : jL} {th : Nat → Int} {n : Nat} {S : nk_S} {σ : jG} {C : jH}
theorem gEn_at {b : Nat} : (gEn σ b).2.1 b = true := by unfold gEn; dsimp only; rw [if_pos rfl]
theorem gEn_ne {b b' : Nat} (h : b' ≠ b) : (gEn σ b).2.1 b' = σ.2.1 b' := by unfold gEn; dsimp only; rw [if_neg h]
theorem gEn_id {b : Nat} (h : σ.2.1 b = true) : gEn σ b = σ := by
  refine Prod.ext rfl (Prod.ext (funext fun b' => ?_) rfl)
  by_cases c : b' = b
  · rw [c, gEn_at, h]
  · exact gEn_ne c
theorem gMs_en_le {b : Nat} (hb : b < 48) : gMs th n (gEn σ b) ≤ gMs th n σ := by
  by_cases c : gEn σ b = σ
  · rw [c]; exact Nat.le_refl _
  · exact Nat.le_of_lt (gMs_en hb c)
theorem c_b35 (hbl : bl.length ≤ 48) (hm : cGm S fl bl z σ C) (hfl : fl.length ≤ 48) (hz : z.2.1.length ≤ 48) {b : Nat} {y : jB} (hb : bl[b]? = some y) {σ1 : jG} (h2 : σ1.2 = σ.2) (h1 : ∀ k, k ≠ 2700 + b → σ1.1 k = σ.1 k) {r : Int} (hr : cVl y.rs r (σ1.1 (2700 + b))) (hms : gMs th n (gEn σ1 b) < gMs th n σ) : ∃ S' C', ja_X8_addEnd_b35 100 (b : Int) r S = some (0, S') ∧ sFr S S' ∧ cGm S' fl bl z (gEn σ1 b) C' ∧ gCg th n σ (gEn σ1 b) C C' := by
  obtain ⟨m1, m2, m3, m4, m5, m6, m7⟩ := id hm
  have hb48 := bl_48 hbl hb
  unfold ja_X8_addEnd_b35
  have e8 : (nk_wi (nk_wi S 104 b r) 105 b 1).1 100 8 = S.1 100 8 := by rw [wi_n (by decide), wi_n (by decide)]
  rw [if_pos (in_i (N := 48) (by omega)), jc_100_3, jc_100_4, Int.toNat_natCast, lt_eq, lt_eq, lt_eq, e8]
  refine ⟨_, (C.1, C.2.1, sOr C.2.2 (onS b)), rfl, sFr_trans (sFr_i (by decide)) (sFr_trans (sFr_i (by decide)) (sFr_i (by decide))), ⟨fun s' f y h3 h4 => ?_, fun s' h3 => ?_, fun s' h3 => ?_, fun b' y' h3 => ?_, ?_, ?_, ?_⟩, ⟨sLe_refl _, sLe_refl _, sLe_or _ _⟩, fun s' f h3 h4 q => ?_, fun s' h3 q => ?_, fun b' h3 q => ?_, Or.inr hms⟩
  · rw [wi_n (by decide), wi_n (by decide), wi_n (by decide)]
    have hf := fl_48 hfl h4
    show cVl _ _ (σ1.1 (s' * 48 + f))
    rw [h1 _ (by omega)]; exact m1 s' f y h3 h4
  · rw [wi_n (by decide), wi_n (by decide), wi_n (by decide)]
    show cVl _ _ (σ1.1 (2592 + s'))
    rw [h1 _ (by omega)]; exact m2 s' h3
  · rw [wi_n (by decide), wi_n (by decide), wi_n (by decide)]
    show _ = kPk (vN (σ1.1 (2646 + s')))
    rw [h1 _ (by omega)]; exact m3 s' h3
  · rw [wi_n (by decide), wi_n (by decide), wi_at, wi_n (by decide), wi_at, wi_n (by decide), wi_n (by decide), wi_n (by decide), wi_n (by decide)]
    obtain ⟨q1, q2, q3⟩ := m4 b' y' h3
    show cVl y'.rs _ (σ1.1 (2700 + b')) ∧ _ ∧ cV _ (σ1.2.2 b')
    rw [h2]
    by_cases d : b' = b
    · subst d
      rw [hb] at h3
      cases h3
      rw [if_pos rfl, if_pos rfl, gEn_at]
      exact ⟨hr, rfl, q3⟩
    · rw [if_neg d, if_neg d, gEn_ne d, h2, h1 _ (by omega)]
      exact ⟨q1, q2, q3⟩
  · rw [wi_at, if_neg (by decide), wi_n (by decide), wi_n (by decide)]; exact m5
  · rw [wi_at, if_neg (by decide), wi_n (by decide), wi_n (by decide)]; exact m6
  · rw [wi_at, if_pos rfl]; exact cV_or m7 (cV_one (by omega))
  · exact absurd (h1 _ (by omega)) q
  · rcases q with q | q
    · exact absurd (h1 _ (by omega)) q
    · exact absurd (h1 _ (by omega)) q
  · by_cases d : b' = b
    · rw [d]; exact sOr_on _ _
    · rcases q with q | q | q
      · exact absurd (h1 _ (by omega)) q
      · exact absurd ((gEn_ne d).trans (by rw [h2])) q
      · exact absurd (show σ1.2.2 b' = σ.2.2 b' by rw [h2]) q
/-- a body gives -/
theorem c_endG (hT : thG F dn up) (hF : thN F th n) (hbl : bl.length ≤ 48) (hfl : fl.length ≤ 48) (hz : z.2.1.length ≤ 48) (hg : gOk F us fl bl z σ) (hm : cGm S fl bl z σ C) {b : Nat} {y : jB} (hb : bl[b]? = some y) {w : jW} (ht : y.rs = 1 ∨ 2 ≤ y.rs) (hw : vl1 F us z y.rs w) {x : Int} (hx : cVl y.rs x (some w)) : ∃ S' C', ja_X8_addEnd 100 (b : Int) x (bi (decide (y.rs = 1))) S = some (0, S') ∧ sFr S S' ∧ cGm S' fl bl z (gEn (gAd σ (2700 + b) w) b) C' ∧ gCg th n σ (gEn (gAd σ (2700 + b) w) b) C C' := by
  obtain ⟨q1, q2, q3⟩ := hm.2.2.2.1 b y hb
  have hb48 := bl_48 hbl hb
  have hzt : zTp fl bl z (2700 + b) = y.rs := zT_r hb
  obtain ⟨r, r1, r2, r3⟩ := c_vjoin hT ht (fun w' q => by have := (hg.1 _ _ q).2; rw [hzt] at this; exact this) hw q1 hx S
  unfold ja_X8_addEnd
  rw [if_pos (in_i (N := 48) (by omega)), jc_100_3, jc_100_4, Int.toNat_natCast, r1, bd_some, q2]
  by_cases c : r = S.1 104 b
  · rw [if_pos c]
    have e := gAd_id (r3.mp c)
    rw [e]
    cases hen : σ.2.1 b with
    | true =>
      rw [if_neg (show ¬ bi true = 0 by decide), gEn_id hen]
      exact ⟨S, C, rfl, sFr_rfl, hm, gCg_rfl⟩
    | false =>
      rw [if_pos (show bi false = 0 from rfl)]
      refine c_b35 hbl hm hfl hz hb (σ1 := σ) rfl (fun _ _ => rfl) (by rw [c]; exact q1) (gMs_en hb48 fun q => ?_)
      rw [← q, gEn_at] at hen; cases hen
  · rw [if_neg c]
    have hne : oJ (σ.1 (2700 + b)) (some w) ≠ σ.1 (2700 + b) := fun q => c (r3.mpr q)
    exact c_b35 hbl hm hfl hz hb (σ1 := gAd σ (2700 + b) w) rfl (fun k hk => gAd_ne hk) (by rw [gAd_at]; exact r2) (Nat.lt_of_le_of_lt (gMs_en_le hb48) (gMs_ad hF hg (by omega) (by rw [hzt]; exact hw) (gAd_nd hne)))
/-- a body comes back -/
theorem c_endB (hbl : bl.length ≤ 48) (hfl : fl.length ≤ 48) (hz : z.2.1.length ≤ 48) (hm : cGm S fl bl z σ C) {b : Nat} {y : jB} (hb : bl[b]? = some y) (ht : y.rs ≠ 1) : ∃ S' C', ja_X8_addEnd 100 (b : Int) 0 0 S = some (0, S') ∧ sFr S S' ∧ cGm S' fl bl z (gEn σ b) C' ∧ gCg th n σ (gEn σ b) C C' := by
  obtain ⟨q1, q2, q3⟩ := hm.2.2.2.1 b y hb
  have hb48 := bl_48 hbl hb
  have hv : cV (S.1 104 b) (vS (σ.1 (2700 + b))) := by unfold cVl at q1; rw [if_neg ht] at q1; exact q1
  have hor : nk_lor (S.1 104 b) 0 = S.1 104 b := cV_u (cV_e (cV_or hv cV_0) (fun j _ => by show (_ || false) = _; rw [Bool.or_false])) hv
  unfold ja_X8_addEnd ja_X8_join
  rw [if_pos (in_i (N := 48) (by omega)), if_pos rfl, jc_100_3, jc_100_4, Int.toNat_natCast, hor, bd_some, if_pos rfl, q2]
  cases hen : σ.2.1 b with
  | true =>
    rw [if_neg (show ¬ bi true = 0 by decide), gEn_id hen]
    exact ⟨S, C, rfl, sFr_rfl, hm, gCg_rfl⟩
  | false =>
    rw [if_pos (show bi false = 0 from rfl)]
    refine c_b35 hbl hm hfl hz hb (σ1 := σ) rfl (fun _ _ => rfl) q1 (gMs_en hb48 fun q => ?_)
    rw [← q, gEn_at] at hen; cases hen
end CEN
