/-! The class adds to its table. -/
section CAD
variable {F : Int → Prop} {dn up : Int → Int} {us : List Int} {fl : List (List Int × Nat × Int)} {bl : List jB} {z : jL} {th : Nat → Int} {n : Nat} {S : nk_S} {σ : jG} {C : jH}
theorem gAd_at {k : Nat} {w : jW} : (gAd σ k w).1 k = oJ (σ.1 k) (some w) := by unfold gAd; dsimp only; rw [if_pos rfl]
theorem gAd_ne {k k' : Nat} {w : jW} (h : k' ≠ k) : (gAd σ k w).1 k' = σ.1 k' := by unfold gAd; dsimp only; rw [if_neg h]
theorem gAd_id {k : Nat} {w : jW} (h : oJ (σ.1 k) (some w) = σ.1 k) : gAd σ k w = σ := by
  refine Prod.ext (funext fun k' => ?_) rfl
  by_cases c : k' = k
  · rw [c, gAd_at, h]
  · rw [gAd_ne c]
theorem gAd_nd {k : Nat} {w : jW} (h : oJ (σ.1 k) (some w) ≠ σ.1 k) : gAd σ k w ≠ σ := fun q => h (by rw [← gAd_at, q])
theorem sLe_or (a c : Nat → Bool) : sLe a (sOr a c) := fun j h => by show (a j || c j) = true; rw [h, Bool.true_or]
theorem sOr_on (a : Nat → Bool) (k : Nat) : sOr a (onS k) k = true := by show (a k || decide (k = k)) = true; rw [decide_eq_true rfl, Bool.or_true]
theorem zT_f {s f : Nat} {y : List Int × Nat × Int} (hs : s < 54) (hf : f < 48) (hy : fl[f]? = some y) : zTp fl bl z (s * 48 + f) = y.2.2 := by
  unfold zTp
  rw [if_pos (by omega), show (s * 48 + f) % 48 = f by omega, hy]
theorem zT_e {s : Nat} (hs : s < 54) : zTp fl bl z (2592 + s) = tEl (sTp z s) := by
  unfold zTp
  rw [if_neg (by omega), if_pos (by omega), show 2592 + s - 2592 = s by omega]
theorem zT_l {s : Nat} (hs : s < 54) : zTp fl bl z (2646 + s) = 1 := by
  unfold zTp
  rw [if_neg (by omega), if_neg (by omega), if_pos (by omega)]
theorem zT_r {b : Nat} {y : jB} (hy : bl[b]? = some y) : zTp fl bl z (2700 + b) = y.rs := by
  unfold zTp
  rw [if_neg (by omega), if_neg (by omega), if_neg (by omega), show 2700 + b - 2700 = b by omega, hy]
theorem fl_48 {f : Nat} {y : List Int × Nat × Int} (h : fl.length ≤ 48) (hy : fl[f]? = some y) : f < 48 := by
  have := (List.getElem?_eq_some_iff.mp hy).1
  omega
theorem bl_48 {b : Nat} {y : jB} (h : bl.length ≤ 48) (hy : bl[b]? = some y) : b < 48 := by
  have := (List.getElem?_eq_some_iff.mp hy).1
  omega
theorem c_addE (hT : thG F dn up) (hF : thN F th n) (hfl : fl.length ≤ 48) (hz : z.2.1.length ≤ 48) (hg : gOk F us fl bl z σ) (hm : cGm S fl bl z σ C) {s : Nat} (hs : s < z.2.1.length) {w : jW} (ht : tEl (sTp z s) = 1 ∨ 2 ≤ tEl (sTp z s)) (hw : vl1 F us z (tEl (sTp z s)) w) {x : Int} (hx : cVl (tEl (sTp z s)) x (some w)) : ∃ S' C', ja_X8_addElement 100 (s : Int) x (bi (decide (tEl (sTp z s) = 1))) S = some (0, S') ∧ sFr S S' ∧ cGm S' fl bl z (gAd σ (2592 + s) w) C' ∧ gCg th n σ (gAd σ (2592 + s) w) C C' := by
  obtain ⟨m1, m2, m3, m4, m5, m6, m7⟩ := id hm
  have hzt : zTp fl bl z (2592 + s) = tEl (sTp z s) := zT_e (by omega)
  obtain ⟨r, r1, r2, r3⟩ := c_vjoin hT ht (fun w' q => by have := (hg.1 _ _ q).2; rw [hzt] at this; exact this) hw (m2 s hs) hx S
  unfold ja_X8_addElement
  rw [if_pos (in_i (N := 48) (by omega)), jc_100_1, Int.toNat_natCast, r1, bd_some]
  by_cases c : r = S.1 102 s
  · rw [if_pos c]
    have e := gAd_id (r3.mp c)
    rw [e]
    exact ⟨S, C, rfl, sFr_rfl, hm, gCg_rfl⟩
  · rw [if_neg c, lt_eq, lt_eq]
    have hne : oJ (σ.1 (2592 + s)) (some w) ≠ σ.1 (2592 + s) := fun q => c (r3.mpr q)
    have e7 : (nk_wi S 102 s r).1 100 7 = S.1 100 7 := by rw [wi_n (by decide)]
    rw [e7]
    refine ⟨_, (C.1, sOr C.2.1 (onS s), C.2.2), rfl, sFr_trans (sFr_i (by decide)) (sFr_i (by decide)), ⟨fun s' f y h1 h2 => ?_, fun s' h1 => ?_, fun s' h1 => ?_, fun b y h1 => ?_, ?_, ?_, ?_⟩, ⟨sLe_refl _, sLe_or _ _, sLe_refl _⟩, fun s' f h1 h2 q => ?_, fun s' h1 q => ?_, fun b h1 q => ?_, Or.inr (gMs_ad hF hg (by omega) (by rw [hzt]; exact hw) (gAd_nd hne))⟩
    · rw [wi_n (by decide), wi_n (by decide)]
      have hf := fl_48 hfl h2
      rw [gAd_ne (by omega)]; exact m1 s' f y h1 h2
    · rw [wi_n (by decide), wi_at]
      by_cases d : s' = s
      · rw [if_pos d, d, gAd_at]; exact r2
      · rw [if_neg d, gAd_ne (by omega)]; exact m2 s' h1
    · rw [wi_n (by decide), wi_n (by decide), gAd_ne (by omega)]; exact m3 s' h1
    · rw [wi_n (by decide), wi_n (by decide), wi_n (by decide), wi_n (by decide), wi_n (by decide), wi_n (by decide), gAd_ne (by omega)]; exact m4 b y h1
    · rw [wi_at, if_neg (by decide), wi_n (by decide)]; exact m5
    · rw [wi_at, if_pos rfl]; exact cV_or m6 (cV_one (by omega))
    · rw [wi_at, if_neg (by decide), wi_n (by decide)]; exact m7
    · exact absurd (gAd_ne (by omega)) q
    · by_cases d : s' = s
      · rw [d]; exact sOr_on _ _
      · rcases q with q | q
        · exact absurd (gAd_ne (by omega)) q
        · exact absurd (gAd_ne (by omega)) q
    · rcases q with q | q | q
      · exact absurd (gAd_ne (by omega)) q
      · exact absurd rfl q
      · exact absurd rfl q
theorem c_addL (hT : thG F dn up) (hF : thN F th n) (hfl : fl.length ≤ 48) (hz : z.2.1.length ≤ 48) (hg : gOk F us fl bl z σ) (hm : cGm S fl bl z σ C) {s : Nat} (hs : s < 48) {w : jW} (hw : vl1 F us z 1 w) {x : Int} (hx : x = pk w.2.1) : ∃ S' C', ja_X8_addLengths 100 (s : Int) x S = some (0, S') ∧ sFr S S' ∧ cGm S' fl bl z (gAd σ (2646 + s) w) C' ∧ gCg th n σ (gAd σ (2646 + s) w) C C' := by
  obtain ⟨m1, m2, m3, m4, m5, m6, m7⟩ := id hm
  have hzt : zTp fl bl z (2646 + s) = 1 := zT_l (by omega)
  obtain ⟨r, r1, r2, r3⟩ := c_vjoin hT (Or.inl rfl) (fun w' q => by have := (hg.1 _ _ q).2; rw [hzt] at this; exact this) hw (cVl_n.mpr (m3 s hs)) (cVl_n.mpr hx) S
  have r1' : ja_X5_join (S.1 103 s) x S = some (r, S) := by
    unfold ja_X8_join at r1
    rw [if_neg (show ¬ bi (decide ((1 : Int) = 1)) = 0 by decide)] at r1
    cases hq : ja_X5_join (S.1 103 s) x S with
    | none => rw [hq] at r1; cases r1
    | some q => rw [hq] at r1; exact r1
  unfold ja_X8_addLengths
  rw [if_pos (in_i (N := 48) (by omega)), jc_100_2, Int.toNat_natCast, r1', bd_some]
  by_cases c : r = S.1 103 s
  · rw [if_pos c]
    have e := gAd_id (r3.mp c)
    rw [e]
    exact ⟨S, C, rfl, sFr_rfl, hm, gCg_rfl⟩
  · rw [if_neg c, lt_eq, lt_eq]
    have hne : oJ (σ.1 (2646 + s)) (some w) ≠ σ.1 (2646 + s) := fun q => c (r3.mpr q)
    have e7 : (nk_wi S 103 s r).1 100 7 = S.1 100 7 := by rw [wi_n (by decide)]
    rw [e7]
    refine ⟨_, (C.1, sOr C.2.1 (onS s), C.2.2), rfl, sFr_trans (sFr_i (by decide)) (sFr_i (by decide)), ⟨fun s' f y h1 h2 => ?_, fun s' h1 => ?_, fun s' h1 => ?_, fun b y h1 => ?_, ?_, ?_, ?_⟩, ⟨sLe_refl _, sLe_or _ _, sLe_refl _⟩, fun s' f h1 h2 q => ?_, fun s' h1 q => ?_, fun b h1 q => ?_, Or.inr (gMs_ad hF hg (by omega) (by rw [hzt]; exact hw) (gAd_nd hne))⟩
    · rw [wi_n (by decide), wi_n (by decide)]
      have hf := fl_48 hfl h2
      rw [gAd_ne (by omega)]; exact m1 s' f y h1 h2
    · rw [wi_n (by decide), wi_n (by decide), gAd_ne (by omega)]; exact m2 s' h1
    · rw [wi_n (by decide), wi_at]
      by_cases d : s' = s
      · rw [if_pos d, d, gAd_at]; exact cVl_n.mp r2
      · rw [if_neg d, gAd_ne (by omega)]; exact m3 s' h1
    · rw [wi_n (by decide), wi_n (by decide), wi_n (by decide), wi_n (by decide), wi_n (by decide), wi_n (by decide), gAd_ne (by omega)]; exact m4 b y h1
    · rw [wi_at, if_neg (by decide), wi_n (by decide)]; exact m5
    · rw [wi_at, if_pos rfl]; exact cV_or m6 (cV_one (by omega))
    · rw [wi_at, if_neg (by decide), wi_n (by decide)]; exact m7
    · exact absurd (gAd_ne (by omega)) q
    · by_cases d : s' = s
      · rw [d]; exact sOr_on _ _
      · rcases q with q | q
        · exact absurd (gAd_ne (by omega)) q
        · exact absurd (gAd_ne (by omega)) q
    · rcases q with q | q | q
      · exact absurd (gAd_ne (by omega)) q
      · exact absurd rfl q
      · exact absurd rfl q
theorem w_48' {s f : Nat} (hs : s < 48) (hf : f < 48) : nk_w (nk_w ((s : Int) * 48) + (f : Int)) = ((s * 48 + f : Nat) : Int) := by
  rw [nk_w_id (z := (s : Int) * 48) (by omega) (by omega), nk_w_id (by omega) (by omega)]
  omega
theorem c_addF1 (hT : thG F dn up) (hF : thN F th n) (hfl : fl.length ≤ 48) (hz : z.2.1.length ≤ 48) (hg : gOk F us fl bl z σ) (hm : cGm S fl bl z σ C) {s f : Nat} {y : List Int × Nat × Int} (hs : s < 48) (hy : fl[f]? = some y) {w : jW} (ht : y.2.2 = 1 ∨ 2 ≤ y.2.2) (hw : vl1 F us z y.2.2 w) {x : Int} (hx : cVl y.2.2 x (some w)) : ∃ S' C', ja_X8_addField 100 (s : Int) (f : Int) x (bi (decide (y.2.2 = 1))) S = some (0, S') ∧ sFr S S' ∧ cGm S' fl bl z (gAd σ (s * 48 + f) w) C' ∧ gCg th n σ (gAd σ (s * 48 + f) w) C C' := by
  obtain ⟨m1, m2, m3, m4, m5, m6, m7⟩ := id hm
  have hf := fl_48 hfl hy
  have hzt : zTp fl bl z (s * 48 + f) = y.2.2 := zT_f (by omega) hf hy
  obtain ⟨r, r1, r2, r3⟩ := c_vjoin hT ht (fun w' q => by have := (hg.1 _ _ q).2; rw [hzt] at this; exact this) hw (m1 s f y hs hy) hx S
  unfold ja_X8_addField
  rw [w_48' hs hf, lt_eq, if_pos (in_i (N := 2304) (by omega)), jc_100_0, Int.toNat_natCast, r1, bd_some]
  by_cases c : r = S.1 101 (s * 48 + f)
  · rw [if_pos c]
    have e := gAd_id (r3.mp c)
    rw [e]
    exact ⟨S, C, rfl, sFr_rfl, hm, gCg_rfl⟩
  · rw [if_neg c, lt_eq, lt_eq]
    have hne : oJ (σ.1 (s * 48 + f)) (some w) ≠ σ.1 (s * 48 + f) := fun q => c (r3.mpr q)
    have e7 : (nk_wi S 101 (s * 48 + f) r).1 100 6 = S.1 100 6 := by rw [wi_n (by decide)]
    rw [e7]
    refine ⟨_, (sOr C.1 (onS f), C.2.1, C.2.2), rfl, sFr_trans (sFr_i (by decide)) (sFr_i (by decide)), ⟨fun s' f' y' h1 h2 => ?_, fun s' h1 => ?_, fun s' h1 => ?_, fun b y' h1 => ?_, ?_, ?_, ?_⟩, ⟨sLe_or _ _, sLe_refl _, sLe_refl _⟩, fun s' f' h1 h2 q => ?_, fun s' h1 q => ?_, fun b h1 q => ?_, Or.inr (gMs_ad hF hg (by omega) (by rw [hzt]; exact hw) (gAd_nd hne))⟩
    · rw [wi_n (by decide), wi_at]
      have hf' := fl_48 hfl h2
      by_cases d : s' * 48 + f' = s * 48 + f
      · have d1 : s' = s := by omega
        have d2 : f' = f := by omega
        subst d1; subst d2
        rw [hy] at h2
        cases h2
        rw [if_pos rfl, gAd_at]; exact r2
      · rw [if_neg d, gAd_ne d]; exact m1 s' f' y' h1 h2
    · rw [wi_n (by decide), wi_n (by decide), gAd_ne (by omega)]; exact m2 s' h1
    · rw [wi_n (by decide), wi_n (by decide), gAd_ne (by omega)]; exact m3 s' h1
    · rw [wi_n (by decide), wi_n (by decide), wi_n (by decide), wi_n (by decide), wi_n (by decide), wi_n (by decide), gAd_ne (by omega)]; exact m4 b y' h1
    · rw [wi_at, if_pos rfl]; exact cV_or m5 (cV_one (by omega))
    · rw [wi_at, if_neg (by decide), wi_n (by decide)]; exact m6
    · rw [wi_at, if_neg (by decide), wi_n (by decide)]; exact m7
    · by_cases d : f' = f
      · rw [d]; exact sOr_on _ _
      · exact absurd (gAd_ne (by omega)) q
    · rcases q with q | q
      · exact absurd (gAd_ne (by omega)) q
      · exact absurd (gAd_ne (by omega)) q
    · rcases q with q | q | q
      · exact absurd (gAd_ne (by omega)) q
      · exact absurd rfl q
      · exact absurd rfl q
theorem c_addT (hfl : fl.length ≤ 48) (hbl : bl.length ≤ 48) (hm : cGm S fl bl z σ C) {b : Nat} {y : jB} (hb : bl[b]? = some y) {s : Nat → Bool} (hs : ∀ j, s j = true → j < 54) {x : Int} (hx : cV x s) : ∃ S' C', ja_X8_addThrown 100 (b : Int) x S = some (0, S') ∧ sFr S S' ∧ cGm S' fl bl z (gTh σ b s) C' ∧ gCg th n σ (gTh σ b s) C C' := by
  obtain ⟨m1, m2, m3, m4, m5, m6, m7⟩ := id hm
  have hb48 := bl_48 hbl hb
  have hb' := (m4 b y hb).2.2
  have hor := cV_or hb' hx
  have hat : (gTh σ b s).2.2 b = sOr (σ.2.2 b) s := by unfold gTh; dsimp only; rw [if_pos rfl]
  have hne : ∀ b', b' ≠ b → (gTh σ b s).2.2 b' = σ.2.2 b' := fun b' q => by unfold gTh; dsimp only; rw [if_neg q]
  unfold ja_X8_addThrown
  rw [if_pos (in_i (N := 48) (by omega)), jc_100_5, Int.toNat_natCast]
  by_cases c : nk_lor (S.1 106 b) x = S.1 106 b
  · rw [if_pos c]
    have e : gTh σ b s = σ := by
      refine Prod.ext rfl (Prod.ext rfl (funext fun b' => ?_))
      by_cases d : b' = b
      · rw [d, hat]
        funext j
        by_cases d2 : j < 64
        · have e1 := hor.2 j d2
          rw [c, hb'.2 j d2] at e1
          exact e1.symm
        · show (σ.2.2 b j || s j) = σ.2.2 b j
          have : s j = false := by
            cases q : s j with
            | false => rfl
            | true => have := hs j q; omega
          rw [this, Bool.or_false]
      · exact hne b' d
    rw [e]
    exact ⟨S, C, rfl, sFr_rfl, hm, gCg_rfl⟩
  · rw [if_neg c, lt_eq, lt_eq]
    have hd : gTh σ b s ≠ σ := by
      intro q
      apply c
      rw [← hat, q] at hor
      exact cV_u hor hb'
    have e7 : (nk_wi S 106 b (nk_lor (S.1 106 b) x)).1 100 8 = S.1 100 8 := by rw [wi_n (by decide)]
    rw [e7]
    refine ⟨_, (C.1, C.2.1, sOr C.2.2 (onS b)), rfl, sFr_trans (sFr_i (by decide)) (sFr_i (by decide)), ⟨fun s' f y h1 h2 => ?_, fun s' h1 => ?_, fun s' h1 => ?_, fun b' y h1 => ?_, ?_, ?_, ?_⟩, ⟨sLe_refl _, sLe_refl _, sLe_or _ _⟩, fun s' f h1 h2 q => absurd rfl q, fun s' h1 q => ?_, fun b' h1 q => ?_, Or.inr (gMs_th hb48 hs hd)⟩
    · rw [wi_n (by decide), wi_n (by decide)]; exact m1 s' f y h1 h2
    · rw [wi_n (by decide), wi_n (by decide)]; exact m2 s' h1
    · rw [wi_n (by decide), wi_n (by decide)]; exact m3 s' h1
    · rw [wi_n (by decide), wi_n (by decide), wi_n (by decide), wi_n (by decide), wi_n (by decide), wi_at]
      refine ⟨(m4 b' y h1).1, (m4 b' y h1).2.1, ?_⟩
      by_cases d : b' = b
      · rw [if_pos d, d, hat]; exact hor
      · rw [if_neg d, hne b' d]; exact (m4 b' y h1).2.2
    · rw [wi_at, if_neg (by decide), wi_n (by decide)]; exact m5
    · rw [wi_at, if_neg (by decide), wi_n (by decide)]; exact m6
    · rw [wi_at, if_pos rfl]; exact cV_or m7 (cV_one (by omega))
    · rcases q with q | q <;> exact absurd rfl q
    · by_cases d : b' = b
      · rw [d]; exact sOr_on _ _
      · rcases q with q | q | q
        · exact absurd rfl q
        · exact absurd rfl q
        · exact absurd (hne b' d) q
end CAD
