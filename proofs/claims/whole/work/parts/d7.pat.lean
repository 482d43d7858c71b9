/-! The proof: what is known at an instruction. -/
def pAf (ns : List (List Int)) (us : List Int) (fl : List (List Int × Nat × Int)) (bl : List jB) (z : jL) (el : List (Nat × Nat × Nat × Nat)) (H lc : Nat → Nat) (i : Nat) (x : jC) (t : Nat → Int) (xb : jB) (e : Nat × Nat × Nat × Nat) : Prop :=
  (cW ns us fl bl z.2.1 e.1 e.2.1 xb.lc x ∧ i < 1024 ∧ bl[x.2.2.2.1]? = some xb ∧ el[x.2.2.2.1]? = some e ∧ (lc i : Int) = xb.lc ∧ lc i ≤ 12)
  ∧ (tkX bl x ≤ H i ∧ H i - tkX bl x + lvX bl x ≤ 8 ∧ H i ≤ 8)
  ∧ (fal x.1 = true → H (i + 1) = H i - tkX bl x + lvX bl x ∧ lc (i + 1) = lc i ∧ i + 1 < z.1.length)
  ∧ (19 ≤ x.1 ∧ x.1 ≤ 29 → ∃ g : Nat, x.2.1 = (g : Int) ∧ H g = H i - tkX bl x + lvX bl x ∧ lc g = lc i ∧ g < z.1.length)
  ∧ (∀ (k : Nat) (y : Nat × Nat × Nat × Nat × Nat), z.2.2.1[k]? = some y → y.1 = x.2.2.2.1 → y.2.1 ≤ i → i < y.2.2.1 → H y.2.2.2.1 = 1 ∧ lc y.2.2.2.1 = lc i ∧ y.2.2.2.1 < z.1.length ∧ y.2.2.2.2 < 32)
  ∧ (tHo us fl bl xb x (H i) t = true ∧ ∀ k, tV us (t k))
  ∧ (fl.length ≤ 48 ∧ bl.length ≤ 48 ∧ z.1.length ≤ 1024 ∧ z.2.1.length ≤ 48 ∧ z.2.2.1.length ≤ 64)
  ∧ (e.2.2.1 ≤ e.2.2.2 ∧ e.2.2.2 ≤ z.2.2.1.length ∧ ∀ (k : Nat) (y : Nat × Nat × Nat × Nat × Nat), z.2.2.1[k]? = some y → (y.1 = x.2.2.2.1 ↔ e.2.2.1 ≤ k ∧ k < e.2.2.2))
  ∧ ((∀ y ∈ fl, tV us y.2.2 ∧ (y.2.2 = 1 ∨ 2 ≤ y.2.2)) ∧ ∀ y ∈ bl, y.rs = -1 ∨ (tV us y.rs ∧ (y.rs = 1 ∨ 2 ≤ y.rs)))
section PAT
variable {ns : List (List Int)} {us : List Int} {fl : List (List Int × Nat × Int)} {bl : List jB} {z : jL} {el : List (Nat × Nat × Nat × Nat)} {F : Int → Prop} {dn up : Int → Int} {H lc : Nat → Nat} {ty : Nat → Option (Nat → Int)}
theorem pAt (h : pCx F dn up ns us fl bl z el H lc ty) {i : Nat} {x : jC} (hx : z.1[i]? = some x) {t : Nat → Int} (ht : ty i = some t) : ∃ xb e, pAf ns us fl bl z el H lc i x t xb e := by
  obtain ⟨hT, hs, hov, huO, h32, h8, hz, hin, hbd, hop⟩ := h
  obtain ⟨xb, e, M, X, b1, b2, b3, b4, b5, b6, b7, b8, b9⟩ := hin i x hx
  obtain ⟨e1, e2, e3⟩ := b6 i b3 b4
  rw [e3] at ht
  have hho := b9 i t x ht hx
  rw [← e1] at hho
  obtain ⟨hbo, hcw, hi⟩ := cW_at b5 b3 b4 hx
  obtain ⟨o1, o2, o3, o4⟩ := b7.1 i t ht
  have hl := b5.2.2.2.2.1
  have tf := b5.2.2.2.2.2.2.2.1
  have tb := b5.2.2.2.2.2.2.2.2.1
  have plc := b5.2.2.2.2.2.2.2.2.2.1
  have lc12 := b5.2.2.2.2.2.2.2.2.2.2.1
  have hfl48 := b5.2.2.2.2.2.2.2.2.2.2.2.2.1
  have hbl48 := b5.2.2.2.2.2.2.2.2.2.2.2.2.2.1
  have hz1024 := b5.2.2.2.2.2.2.2.2.2.2.2.2.2.2.1
  have hz48 := b5.2.2.2.2.2.2.2.2.2.2.2.2.2.2.2.1
  have hz64 := b5.2.2.2.2.2.2.2.2.2.2.2.2.2.2.2.2
  have hlen := b5.1.2.2.1
  obtain ⟨g1, g2, g3⟩ := b5.2.1
  obtain ⟨k1, k2, k3, k4, k5, k6⟩ := g3 i x b3 b4 hx o3
  have hlc : (lc i : Int) = xb.lc := by rw [e2]; omega
  refine ⟨xb, e, ⟨hcw, hi, b1, b2, hlc, by omega⟩, by rw [e1]; exact ⟨k1, k2, k3⟩, fun q => ?_, fun q => ?_, fun k y y1 y2 y3 y4 => ?_, ⟨hho, fun k => (o4 k).1⟩, ⟨hfl48, hbl48, hz1024, hz48, hz64⟩, ⟨b5.1.2.2.2.2.1, b5.1.2.2.2.2.2.1, b5.1.2.2.2.2.2.2.1⟩, fun y hy => ?_, fun y hy => ?_⟩
  · have hn := b5.2.2.1.2.2 i x b3 b4 hx q
    obtain ⟨f1, f2, f3⟩ := b6 (i + 1) (by omega) hn
    rw [f1, f2, e1, e2]
    exact ⟨(k4 q).2, rfl, by omega⟩
  · obtain ⟨g, q1, q2, q3⟩ := hcw.2.1 ((fK4 x.1 hcw.1).mpr q)
    obtain ⟨f1, f2, f3⟩ := b6 g q2 q3
    have k5' := (k5 q).2
    rw [q1, Int.toNat_natCast] at k5'
    exact ⟨g, q1, by rw [f1, e1]; exact k5', by rw [f2, e2], by omega⟩
  · have hr := b5.1.2.2.2.2.2.2.2 k y y1 y2
    obtain ⟨f1, f2, f3⟩ := b6 y.2.2.2.1 hr.2.2.2.2.1 hr.2.2.2.2.2.1
    rw [f1, f2, e2]
    have := hr.2.2.2.2.2.1
    have := hr.2.2.2.2.2.2.1
    exact ⟨(k6 k y y1 y2 y3 y4).2, rfl, by omega, by omega⟩
  · have := tOk_V (us := us) (tf y hy) hl
    exact ⟨this.1, by omega⟩
  · rcases (tb y hy).2 with q | q
    · exact Or.inl q
    · have := tOk_V (us := us) q hl
      exact Or.inr ⟨this.1, by omega⟩
/-- what is added is added where a type is told -/
theorem pCo_tp (h : pCx F dn up ns us fl bl z el H lc ty) {σ : jG} {i : Nat} {x : jC} (hx : z.1[i]? = some x) {t : Nat → Int} (ht : ty i = some t) {u : jQ} (hu : vOk F us z (lc i) t u) {k : Nat} {w : jW} (hc : pCo (dn, up, (ns, us, fl, bl, z, el), H) σ x (H i) u k = some w) : (zTp fl bl z k = 1 ∨ 2 ≤ zTp fl bl z k) ∧ ∀ (b : Nat) (y : jB), bl[b]? = some y → y.rs = -1 → k ≠ 2700 + b := by
  obtain ⟨xb, e, ⟨a1, a2, a3, a4, a5, a6⟩, ⟨c1, c2, c3⟩, -, -, -, ⟨d1, d2⟩, ⟨l1, l2, l3, l4, l5⟩, -, f1, f2⟩ := pAt h hx ht
  obtain ⟨hT, hs, hov, huO, h32, h8, hz, hin, hbd, hop⟩ := h
  unfold pCo at hc
  by_cases c30 : x.1 = 30
  · rw [if_pos c30] at hc
    split at hc
    · rename_i hk
      obtain ⟨y, y1, y2⟩ := oB_some hc
      have y1 : fl[k % 48]? = some y := y1
      have e0 : zTp fl bl z k = y.2.2 := by unfold zTp; rw [if_pos hk.1, y1]
      rw [e0]
      exact ⟨(f1 y (List.mem_of_getElem? y1)).2, fun b _ _ _ => by omega⟩
    · cases hc
  rw [if_neg c30] at hc
  by_cases c31 : x.1 = 31
  · rw [if_pos c31] at hc
    obtain ⟨m, s, q1, q2, q3⟩ := a1.2.2.2.2.2.2.2.1 (Or.inr c31)
    have hm := at_lt q2
    have w1 : x.2.2.1.toNat = m := by rw [q1, Int.toNat_natCast]
    rw [w1] at hc
    split at hc
    · cases hc
    · by_cases ck : k = 2646 + m
      · rw [ck, zTp_l (by omega)]
        exact ⟨Or.inl rfl, fun b _ _ _ => by omega⟩
      · rw [if_neg ck] at hc
        by_cases ck2 : k = 2592 + m
        · rw [ck2, zTp_e (by omega)]
          have est : sTp z m = s := by unfold sTp; rw [if_pos hm, List.getD_eq_getElem?_getD, q2, Option.getD_some]
          rw [est]
          unfold sTy at q3
          rw [if_neg (by omega), if_pos c31] at q3
          have q3 : s = if x.2.1 = 1 then 3 else x.2.1 + 1 := by simpa using q3
          refine ⟨?_, fun b _ _ _ => by omega⟩
          rcases (a1.2.2.2.2.1 (Or.inl (by rw [c31]; exact fK_ty.2.1))).2 (by rw [c31]; exact fK_ty.2.1) with r | ⟨c, r1, r2⟩
          · rw [if_pos r] at q3
            rw [q3]; left; rfl
          · rw [if_neg (by omega)] at q3
            unfold tEl
            rw [if_neg (by omega)]
            omega
        · rw [if_neg ck2] at hc; cases hc
  rw [if_neg c31] at hc
  by_cases c34 : x.1 = 34
  · rw [if_pos c34] at hc
    obtain ⟨a, g1, g2⟩ := oB_some hc
    obtain ⟨c, g3, g4⟩ := oB_some g2
    split at g4
    · rename_i hk
      refine ⟨?_, fun b _ _ _ => by omega⟩
      obtain ⟨s, hs'⟩ : ∃ s, s = k - 2592 := ⟨_, rfl⟩
      rw [show k = 2592 + s by omega, zTp_e (by omega)]
      have hsr : (u (12 + H i - 3)).2.2.1 s = true := by rw [hs']; exact hk.2.2
      have tk3 : tkX bl x = 3 := by rw [(tkX_n (by omega)).1, c34]; exact tk_sp.2.2.1
      rw [tHo_3 ⟨by omega, by omega, by omega, by omega⟩ tk3, c34, Bool.and_eq_true, Bool.and_eq_true] at d1
      have g1' : (decide (t (12 + H i - 3) = 2) || tAr (t (12 + H i - 3))) = true := d1.1
      have hsb := (((hu.2.2.1 (12 + H i - 3)).2 (tAr_2 g1')).2 s hsr).resolve_left (by omega)
      unfold pB at hsb
      rw [Bool.and_eq_true] at hsb
      have hsv := hs s hsb.1
      have hne2 : t (12 + H i - 3) ≠ 2 := by
        intro r
        rw [r] at hsb
        rcases tLe_nz hsb.2 (by decide) with q | q <;> omega
      rw [decide_eq_false hne2, Bool.false_or] at g1'
      have := tEl_nz (tEl_le huO h32 hsb.2 g1' hsv.2).2
      omega
    · cases g4
  rw [if_neg c34] at hc
  by_cases c36 : x.1 = 36
  · rw [if_pos c36] at hc
    obtain ⟨a, g1, g2⟩ := oB_some hc
    split at g2
    · rename_i hk
      obtain ⟨f, c, q1, q2, q3, q4, y, q5, q6⟩ := a1.2.2.2.2.2.1 (Or.inr c36)
      have ef : k % 48 = f := by rw [hk.2.1, q1, Int.toNat_natCast]
      have ek : zTp fl bl z k = y.2.2 := by unfold zTp; rw [if_pos hk.1, ef, q5]
      rw [ek]
      exact ⟨(f1 y (List.mem_of_getElem? q5)).2, fun b _ _ _ => by omega⟩
    · cases g2
  rw [if_neg c36] at hc
  by_cases c42 : x.1 = 42
  · rw [if_pos c42] at hc
    split at hc
    · rename_i hk
      have tk1 : tkX bl x = 1 := by rw [(tkX_n (by omega)).1, c42]; exact tk_sp.2.2.2.2.2.2
      rw [tHo_1 ⟨by omega, by omega, by omega, by omega⟩ tk1, c42] at d1
      have g1 : (decide (xb.rs ≠ -1) && tLe us (t (12 + H i - 1)) xb.rs) = true := d1
      rw [Bool.and_eq_true] at g1
      have hrs := of_decide_eq_true g1.1
      rw [hk, zTp_r a3]
      refine ⟨((f2 xb (List.mem_of_getElem? a3)).resolve_left hrs).2, fun b y hy hr q => ?_⟩
      have : b = x.2.2.2.1 := by omega
      rw [this, a3] at hy
      cases hy
      exact hrs hr
    · cases hc
  rw [if_neg c42] at hc; cases hc
end PAT
