/-! The class casts, tells types, throws. -/
section CCS
variable {F : Int → Prop} {S : nk_S} {Q : Nat} {p : jP} {H lc : Nat → Nat} {us : List Int} {fl : List (List Int × Nat × Int)} {bl : List jB} {z : jL} {t : Nat → Int} {u : jQ} {i : Nat} {x : jC} {G : jZ} {σ : jG} {C : jH} {l h : Nat}
/-- a set of sites is empty -/
theorem cV_ex {x : Int} {s : Nat → Bool} (h : cV x s) (hs : ∀ j, s j = true → j < 63) : x = 0 ↔ sEx s = false := by
  rw [cV_z h]
  constructor
  · intro q
    cases e : sEx s with
    | false => rfl
    | true =>
      obtain ⟨j, j1, j2⟩ := sEx_iff.mp e
      rw [q j (by omega)] at j2; cases j2
  · intro q j hj
    cases e : s j with
    | false => rfl
    | true =>
      have : sEx s = true := sEx_iff.mpr ⟨j, hs j e, e⟩
      rw [this] at q; cases q
theorem nf_t {b : Bool} (h : ¬ b = true) : b = false := by cases b <;> simp_all
theorem w_63 {w : jW} (ho : wOk F w) (h2 : w.1 = 2) : ∀ j, w.2.2.1 j = true → j < 63 := fun j hj => by
  have := (wOk_2 ho h2).2.2 j hj
  omega
theorem c_cast (hQ : Q = 13 ∨ Q = 49) (hv : cPv S Q p H lc) {r s : Nat → Bool} (k : cRs S r s) (hr : cRw (lc i) (H i) S u) (hok : vOk F us z (lc i) t u) (hi : i < 1024) (ho : x.1 = 37) (k1 : (u (12 + H i - 1)).1 = 2) (h1 : 1 ≤ H i) (hsu : cV (S.1 109 i) (pB (zUs G) (zZ G) x.2.1)) : ∃ S', ja_X4_casts 92 (i : Int) S = some (bi (pGo G σ x (H i) u).isSome, S') ∧ eFr S S' ∧ cRs S' (nlR (pRz G σ x (H i) u 4) 4 r) (nlR (pRz G σ x (H i) u 4) 52 s) ∧ ∀ v, pGo G σ x (H i) u = some v → cRw (lc i) (H i) S' v := by
  have hH8 := (hv.2.2.2.2 i).2
  have top := c_top0 hr hH8
  have r1 : rel (lc i) (H i) (12 + H i - 1) ∧ 12 + H i - 1 < 20 := rel_top (n := 0) (by omega) hH8
  have st := hr.2.2 _ r1.1
  have sv := st.2.2.2 k1
  have w63 := w_63 (hok.1 (12 + H i - 1)) k1
  obtain ⟨B, hB⟩ : ∃ B, B = pB (zUs G) (zZ G) x.2.1 := ⟨_, rfl⟩
  rw [← hB] at hsu
  obtain ⟨K, hK⟩ : ∃ K, K = sAnd (u (12 + H i - 1)).2.2.1 (sOr B (onS 62)) := ⟨_, rfl⟩
  have epg : pGo G σ x (H i) u = if sEx K = true then qKp (qUp u (12 + H i - 1) (wSt (u (12 + H i - 1)) K)) (12 + H i - 1) K else none := by
    rw [hK, hB]
    unfold pGo
    rw [if_neg (by omega), if_neg (by omega), if_neg (by omega), if_neg (by omega), if_neg (by omega), if_neg (by omega), if_neg (by omega), if_neg (by omega), if_neg (by omega), if_neg (by omega), if_neg (by omega), if_neg (by omega), if_neg (by omega), if_neg (by omega), if_neg (by omega), if_neg (by omega), if_neg (by omega), if_pos ho]
  have epr : pRz G σ x (H i) u 4 = sEx (sMi (sMi (u (12 + H i - 1)).2.2.1 B) (onS 62)) := by
    rw [hB]
    unfold pRz
    rw [if_neg (by decide), if_neg (by decide), if_neg (by decide), if_neg (by decide), if_pos rfl, decide_eq_true ho, Bool.true_and]
  obtain ⟨y, hy⟩ : ∃ y, y = nk_land (S.1 98 (12 + H i - 1)) (nk_lor (S.1 109 i) 4611686018427387904) := ⟨_, rfl⟩
  have hyK : cV y K := by
    rw [hy, hK]
    exact cV_and sv (cV_or hsu ⟨by unfold lR; decide, lk_62⟩)
  have hye : y = S.1 98 (12 + H i - 1) ↔ pRz G σ x (H i) u 4 = false := by
    rw [epr]
    constructor
    · intro q
      refine nf_t fun e => ?_
      obtain ⟨j, j1, j2⟩ := sEx_iff.mp e
      have e1 := hyK.2 j (by omega)
      rw [q, sv.2 j (by omega), hK] at e1
      have j2 : (((u (12 + H i - 1)).2.2.1 j && !B j) && !onS 62 j) = true := j2
      have e1 : (u (12 + H i - 1)).2.2.1 j = ((u (12 + H i - 1)).2.2.1 j && (B j || onS 62 j)) := e1
      rw [Bool.and_eq_true, Bool.and_eq_true] at j2
      have a2 : B j = false := by cases q2 : B j with
        | false => rfl
        | true => rw [q2] at j2; exact absurd j2.1.2 (by decide)
      have a3 : onS 62 j = false := by cases q2 : onS 62 j with
        | false => rfl
        | true => rw [q2] at j2; exact absurd j2.2 (by decide)
      rw [j2.1.1, a2, a3] at e1
      cases e1
    · intro q
      refine cV_u hyK (cV_e sv (fun j hj => ?_))
      rw [hK]
      show (u (12 + H i - 1)).2.2.1 j = ((u (12 + H i - 1)).2.2.1 j && (B j || onS 62 j))
      cases a1 : (u (12 + H i - 1)).2.2.1 j with
      | false => rfl
      | true =>
        cases a2 : (B j || onS 62 j) with
        | true => rfl
        | false =>
          exfalso
          rw [Bool.or_eq_false_iff] at a2
          have : sEx (sMi (sMi (u (12 + H i - 1)).2.2.1 B) (onS 62)) = true := sEx_iff.mpr ⟨j, w63 j a1, by show (((u (12 + H i - 1)).2.2.1 j && !B j) && !onS 62 j) = true; rw [a1, a2.1, a2.2]; rfl⟩
          rw [this] at q; cases q
  have hb49 : ∀ T, eFr S T → cRw (lc i) (H i) T u → ∃ S', ja_X4_casts_b49 92 ((12 + H i - 1 : Nat) : Int) y T = some (bi (pGo G σ x (H i) u).isSome, S') ∧ wFr T S' ∧ ∀ v, pGo G σ x (H i) u = some v → cRw (lc i) (H i) S' v := by
    intro T hT hrT
    have stT := hrT.2.2 _ r1.1
    unfold ja_X4_casts_b49
    rw [if_pos (in_i (N := 20) (by omega)), lt_eq, jc_92_2, jc_93_4, Int.toNat_natCast, epg]
    have hKz := cV_ex hyK (fun j hj => by rw [hK] at hj; exact w63 j (sAnd_l _ _ j hj))
    by_cases c : sEx K = true
    · rw [if_neg (fun q => by rw [hKz.mp q] at c; cases c), if_pos c]
      have hup := cRw_up hrT (k := 12 + H i - 1) (w := wSt (u (12 + H i - 1)) K) (v := y) (f := T.1 99 (12 + H i - 1)) ⟨stT.1, (fun q => by have q : (u (12 + H i - 1)).1 = 0 := q; omega), (fun q => by have q : (u (12 + H i - 1)).1 = 1 := q; omega), fun _ => hyK⟩ (T := nk_wi T 98 (12 + H i - 1) y) (by rw [wi_n (by decide)]) (by rw [wi_n (by decide)]) (fun j => by rw [wi_at]) (fun j => by
        rw [wi_n (by decide)]
        split
        · rename_i q; rw [q]
        · rfl)
      have hkw : ∀ j, wOk F (qUp u (12 + H i - 1) (wSt (u (12 + H i - 1)) K) j) := by
        intro j
        by_cases d : j = 12 + H i - 1
        · rw [d, qUp_at]
          have o := hok.1 (12 + H i - 1)
          obtain ⟨f1, f2, f3⟩ := wOk_2 o k1
          obtain ⟨j', j1, j2⟩ := sEx_iff.mp c
          exact ⟨o.1, o.2.1, Or.inr (Or.inr ⟨k1, f1, ⟨j', j2⟩, fun j hj => f3 j (by have hj : K j = true := hj; rw [hK] at hj; exact sAnd_l _ _ j hj)⟩)⟩
        · rw [qUp_ne d]; exact hok.1 j
      have hkc : qCp (lc i) (qUp u (12 + H i - 1) (wSt (u (12 + H i - 1)) K)) := qCp_same hok.2.1 (fun j => by
        by_cases d : j = 12 + H i - 1
        · rw [d, qUp_at]; rfl
        · rw [qUp_ne d]) (fun j => by
        by_cases d : j = 12 + H i - 1
        · rw [d, qUp_at]; rfl
        · rw [qUp_ne d])
      obtain ⟨S2, q1, q2, q3⟩ := c_keep hup hkw hkc r1.1 (by rw [qUp_at]; exact k1) r1.2 hyK
      rw [q1, bd_some]
      refine ⟨S2, ?_, wFr_trans (wFr_98 _ _) q2, q3⟩
      cases qKp (qUp u (12 + H i - 1) (wSt (u (12 + H i - 1)) K)) (12 + H i - 1) K <;> rfl
    · rw [if_pos (hKz.mpr (nf_t c)), if_neg c]
      exact ⟨_, rfl, wFr_98 _ _, fun v q => by cases q⟩
  unfold ja_X4_casts
  rw [jc_92_2, top, bd_some, if_pos (in_i (N := 20) (by omega)), if_pos (in_i (N := 1024) (by omega)), jc_93_4, jc_92_6, Int.toNat_natCast, Int.toNat_natCast, ← hy, lt_eq]
  by_cases c : pRz G σ x (H i) u 4 = true
  · rw [if_neg (fun q => by rw [hye.mp q] at c; cases c)]
    obtain ⟨T, t1, t2, t3, t4⟩ := c_raise k hr (e := 4) (by decide)
    have t1' : ja_X4_raise 92 4 S = some (0, T) := t1
    rw [t1', bd_some]
    obtain ⟨S', s1, s2, s3⟩ := hb49 T t2 t4
    refine ⟨S', s1, eFr_trans t2 (eFr_w s2), ?_, s3⟩
    rw [c]
    unfold nlR
    rw [if_pos rfl, if_pos rfl]
    exact cRs_w s2 t3
  · rw [if_pos (hye.mpr (nf_t c))]
    obtain ⟨S', s1, s2, s3⟩ := hb49 S eFr_rfl hr
    refine ⟨S', s1, eFr_w s2, ?_, s3⟩
    rw [nf_t c]
    unfold nlR
    rw [if_neg (by decide), if_neg (by decide)]
    exact cRs_w s2 k
end CCS
