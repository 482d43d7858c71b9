/-! The class puts elements, whole. -/
section CAS
variable {F : Int → Prop} {S : nk_S} {Q : Nat} {p : jP} {H lc : Nat → Nat} {us : List Int} {fl : List (List Int × Nat × Int)} {bl : List jB} {z : jL} {t : Nat → Int} {u : jQ} {i : Nat} {x : jC} {G : jZ} {σ : jG} {C : jH} {l h : Nat} {th : Nat → Int} {n : Nat}
theorem exB_54 {f : Nat → Bool} {m : Nat} (hm : m ≤ 54) (h : ∀ s, m ≤ s → s < 54 → f s = false) : exB f 54 = exB f m := by
  cases e : exB f m with
  | true =>
    obtain ⟨k, k1, k2⟩ := (exB_iff m).mp e
    exact (exB_iff 54).mpr ⟨k, by omega, k2⟩
  | false =>
    refine nf_t fun q => ?_
    obtain ⟨k, k1, k2⟩ := (exB_iff 54).mp q
    by_cases c : k < m
    · rw [(exB_iff m).mpr ⟨k, c, k2⟩] at e; cases e
    · rw [h k (by omega) k1] at k2; cases k2
/-- a value that does not suit, behind an index -/
def pI5 (G : jZ) (σ : jG) (u : jQ) (r c : Nat) (q : jW) (m : Nat) : Bool := (pI2 (zDn G) (zUp G) σ u r c).isSome && peR (zUs G) (zZ G) (u r).2.2.1 q m
theorem c_kd1 {w : jW} {f : Int} (h : cV f (fBt w)) : nk_land f 4503599627370496 = 0 ↔ ¬ w.1 = 1 := by
  have ha : cV (nk_land f 4503599627370496) (sAnd (fBt w) (onS 52)) := cV_and h ⟨by unfold lR; decide, lk_52⟩
  have e52 : fBt w 52 = decide (w.1 = 1) := by
    unfold fBt
    rw [if_neg (by decide), if_neg (by decide), if_pos rfl]
  rw [cV_z ha]
  constructor
  · intro q e
    have := q 52 (by decide)
    have : (fBt w 52 && decide (52 = 52)) = false := this
    rw [e52, decide_eq_true e, decide_eq_true rfl] at this
    cases this
  · intro q j _
    show (fBt w j && decide (j = 52)) = false
    by_cases c : j = 52
    · rw [c, e52, decide_eq_false q]; rfl
    · rw [decide_eq_false c, Bool.and_false]
theorem c_astore (hQ : Q = 13 ∨ Q = 49) (hT : thG F (zDn G) (zUp G)) (hF : F = fun y => th7 y ∨ ∃ x ∈ p.2.2.2.2.1.2.2.2, nbr x y) (hFn : thN F th n) (hv : cPv S Q p H lc) (hz : oJL p.2.2.2.2.1) (hfl : fl.length ≤ 48) (hg : gOk F us fl bl z σ) (hz48 : z.2.1.length ≤ 48) (hzp : z = p.2.2.2.2.1) (hzG : zZ G = z ∧ zUs G = us) (hfx : cFx S us z) (hm : cGm S fl bl z σ C) {r0 s0 : Nat → Bool} (k : cRs S r0 s0) (hr : cRw (lc i) (H i) S u) (hok : vOk F us z (lc i) t u) (ho : x.1 = 34) (h3 : 3 ≤ H i) (kr : (u (12 + H i - 3)).1 = 2) (kc : (u (12 + H i - 2)).1 = 1) (kq : (u (12 + H i - 1)).1 = 1 ∨ (u (12 + H i - 1)).1 = 2) (hpu : puS F us z (u (12 + H i - 1)) (u (12 + H i - 3)).2.2.1) (hln : pDr u (12 + H i - 3) ≠ none → pLn σ (u (12 + H i - 3)).2.2.1 ≠ none) : ∃ S' C', ja_X4_usesElement 92 34 S = some (bi (pGo G σ x (H i) u).isSome, S') ∧ kFr S S' ∧ cRs S' (nlR (pI5 G σ u (12 + H i - 3) (12 + H i - 2) (u (12 + H i - 1)) z.2.1.length) 5 (nlR (pRz G σ x (H i) u 1) 1 (nlR (pRz G σ x (H i) u 0) 0 r0))) (nlR (pI5 G σ u (12 + H i - 3) (12 + H i - 2) (u (12 + H i - 1)) z.2.1.length) 53 (nlR (pRz G σ x (H i) u 1) 49 (nlR (pRz G σ x (H i) u 0) 48 s0))) ∧ (∀ v, pGo G σ x (H i) u = some v → cRw (lc i) (H i - 3) S' v) ∧ cGm S' fl bl z (if (pI2 (zDn G) (zUp G) σ u (12 + H i - 3) (12 + H i - 2)).isSome = true then peG us z (u (12 + H i - 3)).2.2.1 (u (12 + H i - 1)) σ z.2.1.length else σ) C' ∧ gCg th n σ (if (pI2 (zDn G) (zUp G) σ u (12 + H i - 3) (12 + H i - 2)).isSome = true then peG us z (u (12 + H i - 3)).2.2.1 (u (12 + H i - 1)) σ z.2.1.length else σ) C C' := by
  have hH8 := (hv.2.2.2.2 i).2
  have e32 : 12 + H i - 3 + 1 = 12 + H i - 2 := by omega
  have e31 : 12 + H i - 3 + 2 = 12 + H i - 1 := by omega
  have r1 : rel (lc i) (H i) (12 + H i - 1) ∧ 12 + H i - 1 < 20 := rel_top (n := 0) (by omega) hH8
  have r2 : rel (lc i) (H i) (12 + H i - 2) ∧ 12 + H i - 2 < 20 := by
    have := rel_top (l := lc i) (n := 1) (show 1 < H i by omega) hH8
    rw [show 12 + H i - 1 - 1 = 12 + H i - 2 by omega] at this
    exact this
  have r3 : rel (lc i) (H i) (12 + H i - 3) ∧ 12 + H i - 3 < 20 := by
    have := rel_top (l := lc i) (n := 2) (show 2 < H i by omega) hH8
    rw [show 12 + H i - 1 - 2 = 12 + H i - 3 by omega] at this
    exact this
  have top : ja_X7_fromTop 93 2 S = some (((12 + H i - 3 : Nat) : Int), S) := by
    have := c_top hr (n := 2) (by omega) hH8
    rw [show 12 + H i - 1 - 2 = 12 + H i - 3 by omega] at this
    exact this
  have hw : ∀ s, z.2.1.length ≤ s → s < 54 → (u (12 + H i - 3)).2.2.1 s = false := fun s h1 h2 => nf_t fun q => by have := (hpu s h2 q).1; omega
  obtain ⟨S1, s1, s2, s3, s4⟩ := c_elP hQ hT hF hv hz hg hz48 hzp hm k hr hok (r := 12 + H i - 3) (by omega) r3 (by rw [e32]; exact r2) kr (by rw [e32]; exact kc) hw hln 34 2 top
  rw [e32] at s2 s3 s4
  have epg : pGo G σ x (H i) u = oB (pI2 (zDn G) (zUp G) σ u (12 + H i - 3) (12 + H i - 2)) fun v' => if exB (fun s => (u (12 + H i - 3)).2.2.1 s && (pHl us z s (u (12 + H i - 1))).isSome) 54 = true then some v' else none := by
    unfold pI2
    rw [oB_as]
    unfold pGo
    rw [if_neg (by omega), if_neg (by omega), if_neg (by omega), if_neg (by omega), if_neg (by omega), if_neg (by omega), if_neg (by omega), if_neg (by omega), if_neg (by omega), if_neg (by omega), if_neg (by omega), if_neg (by omega), if_neg (by omega), if_neg (by omega), if_pos ho, hzG.1, hzG.2]
  have ep0 : pRz G σ x (H i) u 0 = (u (12 + H i - 3)).2.2.1 62 := by
    unfold pRz
    rw [if_pos rfl, if_neg (by omega), if_neg (by omega), if_pos ho]
  have ep1 : pRz G σ x (H i) u 1 = pI1 σ u (12 + H i - 3) (12 + H i - 2) := by
    unfold pRz pI1
    rw [if_neg (by decide), if_pos rfl, if_neg (by omega), if_pos ho]
    cases pDr u (12 + H i - 3) <;> rfl
  rw [ep0, ep1, epg]
  unfold ja_X4_usesElement pI5
  rw [if_neg (by decide), jc_92_2, hzG.1, hzG.2]
  cases hp : pI2 (zDn G) (zUp G) σ u (12 + H i - 3) (12 + H i - 2) with
  | none =>
    rw [s3 hp, if_neg (show ¬ (none : Option jQ).isSome = true by decide)]
    refine ⟨S1, C, rfl, kFr_e s1, ?_, (fun v q => by cases q), cGm_e s1 hm, gCg_rfl⟩
    rw [show ((none : Option jQ).isSome && peR us z (u (12 + H i - 3)).2.2.1 (u (12 + H i - 1)) z.2.1.length) = false from rfl]
    unfold nlR at s2 ⊢
    rw [if_neg (show ¬ false = true by decide), if_neg (show ¬ false = true by decide)]
    exact s2
  | some v =>
    obtain ⟨q1, q2, q3, q4⟩ := s4 v hp
    have ev3 : v (12 + H i - 3) = u (12 + H i - 3) := q4 _ (by omega)
    have ev1 : v (12 + H i - 1) = u (12 + H i - 1) := q4 _ (by omega)
    have st3 := (q2.2.2 _ r3.1).2.2.2 (by rw [ev3]; exact kr)
    rw [ev3] at st3
    have st1 := q2.2.2 _ r1.1
    rw [ev1] at st1
    have hfx1 : cFx S1 us z := by
      have e : ∀ a, 107 ≤ a → S1.1 a = S.1 a := fun a ha => s1.2.1 a (by omega) (by omega) (by omega) (by omega)
      unfold cFx at hfx ⊢
      rw [e 109 (by decide), e 110 (by decide), e 111 (by decide)]
      exact hfx
    obtain ⟨w, hwq⟩ : ∃ w, w = (u (12 + H i - 3)).2.2.1 := ⟨_, rfl⟩
    obtain ⟨q, hq⟩ : ∃ q, q = u (12 + H i - 1) := ⟨_, rfl⟩
    rw [← hwq] at st3 hpu
    rw [← hq] at st1 kq hpu
    have hqo : wOk F q := by rw [hq]; exact hok.1 _
    obtain ⟨bm, hbm⟩ := big_ge 100 (by decide)
    have hp0 : peR us z w q 0 = false := by unfold peR; rw [show exB (fun s => w s && sEx (sMi q.2.2.1 (sOr (pB us z (tEl (sTp z s))) (onS 62)))) 0 = false from rfl, Bool.and_false]
    have hs0 : peS us z w q 0 = decide (q.1 = 1) := by unfold peS; rw [show exB (fun s => w s && (pHl us z s q).isSome) 0 = false from rfl, Bool.or_false]
    obtain ⟨T, C', a1, a2, a3, a4, a5⟩ := c_peL (σ := σ) (C := C) (th := th) (n := n) (fl := fl) (bl := bl) hQ hT hFn (cPv_e hQ s1 hv) hz48 hfl hzp hfx1 st3 hqo kq st1 hpu (r0 := nlR (pI1 σ u (12 + H i - 3) (12 + H i - 2)) 1 (nlR (w 62) 0 r0)) (s0 := nlR (pI1 σ u (12 + H i - 3) (12 + H i - 2)) 49 (nlR (w 62) 48 s0)) z.2.1.length 0 nk_big S1 C (by omega) (by omega) rFm_rfl (by rw [hp0]; unfold nlR at s2 ⊢; rw [if_neg (show ¬ false = true by decide), if_neg (show ¬ false = true by decide), hwq]; exact s2) hg (cGm_e s1 hm) gCg_rfl
    obtain ⟨S2, d1, d2, d3⟩ := c_drop (cRw_r a2 q2) (n := 3) h3 hH8
    have d1' : ja_X7_drop 93 3 T = some (0, S2) := d1
    have a1' : ja_X4_putsElement_L57 nk_big 92 (S1.1 98 (12 + H i - 3)) (S1.1 98 (12 + H i - 1)) (bi (decide (q.1 = 1))) (bi (peS us z w q 0)) 0 S1 = _ := a1
    have hput : ja_X4_putsElement 92 ((12 + H i - 3 : Nat) : Int) S1 = some (bi (peS us z w q z.2.1.length), S2) := by
      have hlt : ((12 + H i - 1 : Nat) : Int) < 20 := by omega
      have hlt3 : ((12 + H i - 3 : Nat) : Int) < 20 := by omega
      have ew : nk_w (((12 + H i - 3 : Nat) : Int) + 2) = ((12 + H i - 1 : Nat) : Int) := by
        rw [nk_w_id (by omega) (by omega)]; omega
      unfold ja_X4_putsElement
      rw [if_pos (in_i (N := 20) hlt3), lt_eq, ew, if_pos (in_i (N := 20) hlt), lt_eq, jc_92_2, jc_93_4, jc_93_5, Int.toNat_natCast, Int.toNat_natCast]
      unfold ja_X4_putsElement_b48
      rw [hs0] at a1'
      by_cases c : q.1 = 1
      · rw [decide_eq_true c] at a1'
        rw [if_neg (fun e => (c_kd1 st1.1).mp e c)]
        have a1'' : ja_X4_putsElement_L57 nk_big 92 (S1.1 98 (12 + H i - 3)) (S1.1 98 (12 + H i - 1)) 1 1 0 S1 = _ := a1'
        rw [a1'', d1', bd_some]
      · rw [decide_eq_false c] at a1'
        rw [if_pos ((c_kd1 st1.1).mpr c)]
        have a1'' : ja_X4_putsElement_L57 nk_big 92 (S1.1 98 (12 + H i - 3)) (S1.1 98 (12 + H i - 1)) 0 0 0 S1 = _ := a1'
        rw [a1'', d1', bd_some]
    have hS : peS us z w q z.2.1.length = exB (fun s => w s && (pHl us z s q).isSome) 54 := by
      rw [exB_54 (m := z.2.1.length) (by omega) (fun s h1 h2 => by
        have : w s = false := by rw [hwq]; exact hw s h1 h2
        rw [this, Bool.false_and])]
      unfold peS
      by_cases c : q.1 = 1
      · rw [decide_eq_true c, Bool.true_or]
        obtain ⟨s, x1, x2⟩ := pI2_dr hp
        have x2' : w s = true := by rw [hwq]; exact x2
        have x3 := (hpu s x1 x2').1
        refine ((exB_iff _).mpr ⟨s, x3, ?_⟩).symm
        rw [x2', Bool.true_and]
        unfold pHl
        rw [if_pos c]; rfl
      · rw [decide_eq_false c, Bool.false_or]
    rw [q1, if_neg (by decide), hput, bd_some, if_pos (bi_01 _), if_pos (show (some v).isSome = true from rfl), ← hwq, ← hq]
    show ∃ S' C', _ = some (bi (if exB (fun s => w s && (pHl us z s q).isSome) 54 = true then some v else none).isSome, S') ∧ kFr S S' ∧ cRs S' (nlR (true && peR us z w q z.2.1.length) 5 _) (nlR (true && peR us z w q z.2.1.length) 53 _) ∧ (∀ v', (if exB (fun s => w s && (pHl us z s q).isSome) 54 = true then some v else none) = some v' → _) ∧ _ ∧ _
    rw [Bool.true_and, ← hS]
    refine ⟨S2, C', ?_, kFr_trans (kFr_e s1) (kFr_trans (rFm_k a2) (kFr_e (eFr_w d2))), cRs_w d2 a3, fun v' q' => ?_, cGm_w d2 a4, a5⟩
    · cases peS us z w q z.2.1.length <;> rfl
    · cases hh : peS us z w q z.2.1.length with
      | true =>
        rw [hh, if_pos rfl] at q'
        cases q'
        exact d3
      | false =>
        rw [hh, if_neg (by decide)] at q'
        cases q'
end CAS
