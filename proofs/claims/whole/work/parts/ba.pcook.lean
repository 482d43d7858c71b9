/-! The proof: what is added to the table, and what is thrown, is of the right form. -/
section PCK
variable {ns : List (List Int)} {us : List Int} {fl : List (List Int × Nat × Int)} {bl : List jB} {z : jL} {el : List (Nat × Nat × Nat × Nat)} {F : Int → Prop} {dn up : Int → Int} {H lc : Nat → Nat} {ty : Nat → Option (Nat → Int)}
theorem wBr_v {t : Int} {w : jW} (h : uOk1 F us z t w) (h0 : w.1 ≠ 0) : vl1 F us z t (wBr w) := by
  refine ⟨⟨⟨(fun k h => by cases h), (fun j h => by cases h), ?_⟩, h.2.1, fun j _ h => by cases h⟩, rfl, rfl, h0⟩
  rcases h.1.2.2 with q | q | q
  · rw [q] at h0; exact absurd rfl h0
  · exact Or.inr (Or.inl q)
  · exact Or.inr (Or.inr q)
theorem pDr_st {u v : jQ} {r : Nat} (hv : pDr u r = some v) : ∃ s, s < 54 ∧ (u r).2.2.1 s = true := by
  unfold pDr at hv
  split at hv
  · rename_i hx
    obtain ⟨s, s1, s2⟩ := sEx_iff.mp hx
    unfold sAnd sAl at s2
    rw [Bool.and_eq_true] at s2
    exact ⟨s, of_decide_eq_true s2.2, s2.1⟩
  · cases hv
theorem pCo_ok (h : pCx F dn up ns us fl bl z el H lc ty) {σ : jG} {i : Nat} {x : jC} (hx : z.1[i]? = some x) {t : Nat → Int} (ht : ty i = some t) {u : jQ} (hu : vOk F us z (lc i) t u) {k : Nat} {w : jW} (hc : pCo (dn, up, (ns, us, fl, bl, z, el), H) σ x (H i) u k = some w) : k < 2748 ∧ vl1 F us z (zTp fl bl z k) w := by
  obtain ⟨hd, hv⟩ := pCx_at h hx ht hu
  obtain ⟨hT, hs, hov, huO, h32, h8, hz, hin, hbd, hop⟩ := h
  obtain ⟨xb, e, M, X, b1, b2, b3, b4, b5, b6, b7, b8, b9⟩ := hin i x hx
  obtain ⟨e1, e2, e3⟩ := b6 i b3 b4
  rw [e3] at ht
  have hho := b9 i t x ht hx
  rw [← e1] at hho
  obtain ⟨hbo, hcw, hi⟩ := cW_at b5 b3 b4 hx
  obtain ⟨p0, p37, p40, p8⟩ := hop i x hx
  obtain ⟨k2, k4, kb, ki, kr, krr, k33, k34, k36, kc, k40, k42⟩ := hd
  have hl := b5.2.2.2.2.1
  have hfl48 := b5.2.2.2.2.2.2.2.2.2.2.2.2.1
  have hbl48 := b5.2.2.2.2.2.2.2.2.2.2.2.2.2.1
  have tf := b5.2.2.2.2.2.2.2.1
  have tb := b5.2.2.2.2.2.2.2.2.1
  have site : ∀ _ : Unit, x.1 = 30 ∨ x.1 = 31 → ∃ q : Nat, x.2.2.1.toNat = q ∧ q < z.2.1.length ∧ [sTp z q] = sTy x.1 x.2.1 := by
    intro _ q
    obtain ⟨m, s, q1, q2, q3⟩ := hcw.2.2.2.2.2.2.2.1 q
    have hm := at_lt q2
    refine ⟨m, by rw [q1, Int.toNat_natCast], hm, ?_⟩
    unfold sTp
    rw [if_pos hm, List.getD_eq_getElem?_getD, q2, Option.getD_some]
    exact q3
  unfold pCo at hc
  by_cases c30 : x.1 = 30
  · rw [if_pos c30] at hc
    split at hc
    · rename_i hk
      obtain ⟨y, y1, y2⟩ := oB_some hc
      have y1 : fl[k % 48]? = some y := y1
      split at y2
      · cases y2
        have hty := tOk_V (us := us) (tf y (List.mem_of_getElem? y1)) hl
        refine ⟨by omega, ?_⟩
        have e0 : zTp fl bl z k = y.2.2 := by unfold zTp; rw [if_pos hk.1, y1]
        rw [e0]
        exact wNl_v hT hz (by omega)
      · cases y2
    · cases hc
  rw [if_neg c30] at hc
  by_cases c31 : x.1 = 31
  · rw [if_pos c31] at hc
    obtain ⟨q, w1, w2, w3⟩ := site () (Or.inr c31)
    obtain ⟨g1, g2⟩ := ki (by omega)
    have hr := (wOk_1 (hu.1 _) g1).1
    split at hc
    · cases hc
    · rename_i hn
      rw [w1] at hc
      by_cases ck : k = 2646 + q
      · rw [if_pos ck] at hc
        cases hc
        have hF0 : F 0 := hT.2.2.2.1
        refine ⟨by omega, ?_⟩
        rw [ck, zTp_l (by omega)]
        have hr2 := hr.2.2
        exact ⟨u1_R0 ⟨(mm_F hr.1 hF0).1, hr.2.1, by dsimp only; omega⟩, rfl, rfl, (by show 1 ≠ 0; decide)⟩
      · rw [if_neg ck] at hc
        by_cases ck2 : k = 2592 + q
        · rw [if_pos ck2] at hc
          cases hc
          refine ⟨by omega, ?_⟩
          have ee : tEl (sTp z q) = x.2.1 := by
            unfold sTy at w3
            rw [if_neg (by omega), if_pos c31] at w3
            have w3 : sTp z q = if x.2.1 = 1 then 3 else x.2.1 + 1 := by simpa using w3
            rcases (hcw.2.2.2.2.1 (Or.inl (by rw [c31]; exact fK_ty.2.1))).2 (by rw [c31]; exact fK_ty.2.1) with r | ⟨c, r1, r2⟩
            · rw [if_pos r] at w3
              rw [w3, r]; rfl
            · rw [if_neg (by omega)] at w3
              unfold tEl
              rw [if_neg (by omega)]
              omega
          rw [ck2, zTp_e (by omega), ee]
          rcases (hcw.2.2.2.2.1 (Or.inl (by rw [c31]; exact fK_ty.2.1))).2 (by rw [c31]; exact fK_ty.2.1) with r | ⟨c, r1, r2⟩
          · exact wNl_v hT hz (Or.inl r)
          · exact wNl_v hT hz (by omega)
        · rw [if_neg ck2] at hc; cases hc
  rw [if_neg c31] at hc
  by_cases c34 : x.1 = 34
  · rw [if_pos c34] at hc
    obtain ⟨q0, q1, q2, q3⟩ := k34 c34
    obtain ⟨a, a1, a2⟩ := oB_some hc
    obtain ⟨c, d1, d2⟩ := oB_some a2
    split at d2
    · rename_i hk
      obtain ⟨s, hs'⟩ : ∃ s, s = k - 2592 := ⟨_, rfl⟩
      rw [← hs'] at d2
      have hsr : (u (12 + H i - 3)).2.2.1 s = true := by rw [hs']; exact hk.2.2
      refine ⟨by omega, ?_⟩
      have ek : zTp fl bl z k = tEl (sTp z s) := by rw [show k = 2592 + s by omega]; exact zTp_e (by omega)
      rw [ek]
      have tk3 : tkX bl x = 3 := by rw [(tkX_n (by omega)).1, c34]; exact tk_sp.2.2.1
      rw [tHo_3 ⟨by omega, by omega, by omega, by omega⟩ tk3, c34, Bool.and_eq_true, Bool.and_eq_true] at hho
      have g1 : (decide (t (12 + H i - 3) = 2) || tAr (t (12 + H i - 3))) = true := hho.1
      have g3 : (if t (12 + H i - 3) = 2 then decide (t (12 + H i - 1) ≠ 0) else tLe us (t (12 + H i - 1)) (tEl (t (12 + H i - 3)))) = true := hho.2.2
      have h2t := tAr_2 g1
      have hsb := (((hu.2.2.1 (12 + H i - 3)).2 h2t).2 s hsr).resolve_left (by omega)
      unfold pB at hsb
      rw [Bool.and_eq_true] at hsb
      have hsv := hs s hsb.1
      have hne2 : t (12 + H i - 3) ≠ 2 := by
        intro r
        rw [r] at hsb
        rcases tLe_nz hsb.2 (by decide) with q | q <;> omega
      rw [if_neg hne2] at g3
      rw [decide_eq_false hne2, Bool.false_or] at g1
      obtain ⟨el1, el2⟩ := tEl_le huO h32 hsb.2 g1 hsv.2
      have n1 := tEl_nz g1
      have n2 := tEl_nz el2
      unfold pHl at d2
      by_cases c1 : (u (12 + H i - 1)).1 = 1
      · rw [if_pos c1] at d2
        cases d2
        have t1' : t (12 + H i - 1) = 1 := by
          rcases tLe_nz g3 (by omega) with q | q
          · rcases n1 with r | r
            · omega
            · exact absurd ((hu.2.2.1 (12 + H i - 1)).2 (by omega)).1 (by omega)
          · exact absurd ((hu.2.2.1 (12 + H i - 1)).2 q.1).1 (by omega)
        have : tEl (t (12 + H i - 3)) = 1 := by
          rcases tLe_nz g3 (by omega) with q | q <;> omega
        have : tEl (sTp z s) = 1 := by
          rcases tLe_nz el1 (by omega) with q | q <;> omega
        rw [this, ← t1']
        exact wBr_v (vOk_1 hu _) q0
      · rw [if_neg c1] at d2
        split at d2
        · rename_i hx'
          cases d2
          obtain ⟨j, -, hj⟩ := sEx_iff.mp hx'
          have t2' : t (12 + H i - 1) ≠ 1 := fun r => c1 ((hu.2.2.1 (12 + H i - 1)).1 r)
          have : tEl (sTp z s) ≠ 1 := by
            intro r
            have r3 : sTp z s = 3 := by
              unfold tEl at r
              split at r
              · assumption
              · have := hsv.2
                unfold tAr at el2
                rename_i hn3
                simp [hn3] at el2
                omega
            rw [r3] at hsb
            have r4 : t (12 + H i - 3) = 3 := by
              rcases (tLe_iff 3 (t (12 + H i - 3))).mp hsb.2 with q | q | ⟨q1, q2, q | q | q⟩
              · exact q.symm
              · omega
              · omega
              · rw [q] at g1; cases g1
              · exact absurd rfl q.1
            rw [r4] at g3
            rcases tLe_nz g3 (by decide) with q | q
            · exact t2' q
            · exact absurd q.2 (by decide)
          refine ⟨u1_S0 ⟨j, hj⟩ (fun s' hs' => ?_) (sV_54 hz) this, rfl, rfl, (by show 2 ≠ 0; decide)⟩
          unfold sAnd sOr at hs'
          rw [Bool.and_eq_true, Bool.or_eq_true] at hs'
          rcases hs'.2 with r | r
          · exact Or.inr r
          · exact Or.inl (onS_eq r)
        · cases d2
    · cases d2
  rw [if_neg c34] at hc
  by_cases c36 : x.1 = 36
  · rw [if_pos c36] at hc
    obtain ⟨q0, q1, q2⟩ := k36 c36
    obtain ⟨a, a1, a2⟩ := oB_some hc
    split at a2
    · rename_i hk
      cases a2
      obtain ⟨f, c, y, w1, w2, w3, w4, w5, w6, w7, w8⟩ := tFty_v b5 hcw (Or.inr c36)
      have ef : k % 48 = f := by rw [hk.2.1, w1, Int.toNat_natCast]
      have ek : zTp fl bl z k = y.2.2 := by unfold zTp; rw [if_pos hk.1, ef, w2]
      have tk2 : tkX bl x = 2 := by rw [(tkX_n (by omega)).1, c36]; exact tk_sp.2.2.2.2.1
      rw [tHo_2 ⟨by omega, by omega, by omega, by omega⟩ tk2, c36, Bool.and_eq_true] at hho
      have g2 : tLe us (t (12 + H i - 1)) (tFty fl x) = true := hho.2
      refine ⟨by omega, ?_⟩
      rw [ek, ← w6]
      obtain ⟨v1, v2, v3⟩ := vOk_1 hu (12 + H i - 1)
      exact wBr_v ⟨v1, wTy_le huO h32 hs w7 g2 v2, v3⟩ q0
    · cases a2
  rw [if_neg c36] at hc
  by_cases c42 : x.1 = 42
  · rw [if_pos c42] at hc
    split at hc
    · rename_i hk
      cases hc
      have hb48 := at_lt b1
      have tk1 : tkX bl x = 1 := by rw [(tkX_n (by omega)).1, c42]; exact tk_sp.2.2.2.2.2.2
      rw [tHo_1 ⟨by omega, by omega, by omega, by omega⟩ tk1, c42] at hho
      have g1 : (decide (xb.rs ≠ -1) && tLe us (t (12 + H i - 1)) xb.rs) = true := hho
      rw [Bool.and_eq_true] at g1
      have hrs := of_decide_eq_true g1.1
      have hty := tOk_V (us := us) ((tb xb (List.mem_of_getElem? b1)).2.resolve_left hrs) hl
      refine ⟨by omega, ?_⟩
      rw [hk, zTp_r b1]
      obtain ⟨v1, v2, v3⟩ := vOk_1 hu (12 + H i - 1)
      exact wBr_v ⟨v1, wTy_le huO h32 hs hty.1 g1.2 v2, v3⟩ (k42 c42).1
    · cases hc
  rw [if_neg c42] at hc; cases hc
/-- what is thrown are sites -/
theorem pLs_ok (h : pCx F dn up ns us fl bl z el H lc ty) {σ : jG} (hσ : gOk F us fl bl z σ) {i : Nat} {x : jC} (hx : z.1[i]? = some x) {t : Nat → Int} (ht : ty i = some t) {u : jQ} (hu : vOk F us z (lc i) t u) {s : Nat} (hl : pLs (dn, up, (ns, us, fl, bl, z, el), H) σ x (H i) u s = true) : sVd z s = true := by
  obtain ⟨hd, hv⟩ := pCx_at h hx ht hu
  obtain ⟨hT, hs, hov, huO, h32, h8, hz, hin, hbd, hop⟩ := h
  obtain ⟨xb, e, M, X, b1, b2, b3, b4, b5, b6, b7, b8, b9⟩ := hin i x hx
  obtain ⟨e1, e2, e3⟩ := b6 i b3 b4
  rw [e3] at ht
  have hho := b9 i t x ht hx
  rw [← e1] at hho
  obtain ⟨k2, k4, kb, ki, kr, -⟩ := hd
  unfold pLs at hl
  rw [Bool.or_eq_true] at hl
  rcases hl with q | q
  · unfold pTh at q
    by_cases c1 : x.1 = 41
    · rw [if_pos c1] at q
      unfold sAnd sAl at q
      rw [Bool.and_eq_true] at q
      have hs54 := of_decide_eq_true q.2
      have tk1 : tkX bl x = 1 := by rw [(tkX_n (by omega)).1, c1]; exact tk_sp.2.2.2.2.2.1
      rw [tHo_1 ⟨by omega, by omega, by omega, by omega⟩ tk1, c1] at hho
      have g1 : tLe us (t (12 + H i - 1)) 6 = true := hho
      have h2t : 2 ≤ t (12 + H i - 1) := by
        rcases tLe_nz g1 (by decide) with r | r <;> omega
      have := (((hu.2.2.1 (12 + H i - 1)).2 h2t).2 s q.1).resolve_left (by omega)
      unfold pB at this
      rw [Bool.and_eq_true] at this
      exact this.1
    rw [if_neg c1] at q
    by_cases c2 : x.1 = 39
    · rw [if_pos c2] at q
      obtain ⟨b, -, b2'⟩ := (exB_iff 48).mp q
      rw [Bool.and_eq_true] at b2'
      exact hσ.2.1 b s b2'.2
    rw [if_neg c2] at q
    by_cases c3 : x.1 = 40
    · rw [if_pos c3, Bool.and_eq_true] at q
      obtain ⟨b, -, b2'⟩ := (exB_iff 48).mp q.2
      rw [Bool.and_eq_true] at b2'
      exact hσ.2.1 b s b2'.2
    rw [if_neg c3] at q; cases q
  · rw [Bool.and_eq_true] at q
    unfold sVd
    rw [q.1, Bool.or_true]
theorem pLf_sub {b i : Nat} {L : Nat → Bool} : ∀ k, sLe (pLf us z b i L k) L := by
  intro k
  induction k with
  | zero => exact sLe_refl _
  | succ k ih =>
    rw [pLf]
    cases z.2.2.1[k]? with
    | none => exact ih
    | some y =>
      dsimp only
      split
      · intro s hs
        unfold sMi at hs
        rw [Bool.and_eq_true] at hs
        exact ih s hs.1
      · exact ih
theorem pEs_ok (h : pCx F dn up ns us fl bl z el H lc ty) {σ : jG} (hσ : gOk F us fl bl z σ) {i : Nat} {x : jC} (hx : z.1[i]? = some x) {t : Nat → Int} (ht : ty i = some t) {u : jQ} (hu : vOk F us z (lc i) t u) {s : Nat} (hl : pEs (dn, up, (ns, us, fl, bl, z, el), H) σ i x (H i) u s = true) : sVd z s = true := pLs_ok h hσ hx ht hu (pLf_sub _ s hl)
end PCK
