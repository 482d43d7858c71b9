/-! The proof: what goes along arrows is of the right form. -/
def rOw (F : Int → Prop) (us : List Int) (z : jL) (lc h : Nat) (t : Nat → Int) (u : jQ) : Prop := vOk F us z lc t u ∧ ∀ k, ¬ rel lc h k → u k = wU
/-- all that is known of a right program -/
def pCx (F : Int → Prop) (dn up : Int → Int) (ns : List (List Int)) (us : List Int) (fl : List (List Int × Nat × Int)) (bl : List jB) (z : jL) (el : List (Nat × Nat × Nat × Nat)) (H lc : Nat → Nat) (ty : Nat → Option (Nat → Int)) : Prop :=
  thG F dn up ∧ sOk us z ∧ pOv us bl ∧ uOk us ∧ us.length ≤ 32 ∧ 8 ≤ us.length ∧ z.2.1.length ≤ 48
  ∧ (∀ (i : Nat) (x : jC), z.1[i]? = some x → ∃ (xb : jB) (e : Nat × Nat × Nat × Nat) (M : Nat → Nat) (X : jX), bl[x.2.2.2.1]? = some xb ∧ el[x.2.2.2.1]? = some e ∧ e.1 ≤ i ∧ i < e.2.1 ∧ tCx ns us fl bl z x.2.2.2.1 xb e M ∧ (∀ j, e.1 ≤ j → j < e.2.1 → H j = hgt (M j) ∧ lc j = xb.lc.toNat ∧ ty j = X j) ∧ tInv us fl bl z x.2.2.2.1 xb M e X ∧ (∀ j, tCl us fl bl z x.2.2.2.1 xb.lc.toNat M X j) ∧ ∀ j u x', X j = some u → z.1[j]? = some x' → tHo us fl bl xb x' (hgt (M j)) u = true)
  ∧ (∀ (b : Nat) (y : jB), bl[b]? = some y → ∃ (e : Nat × Nat × Nat × Nat) (x : jC), el[b]? = some e ∧ z.1[e.1]? = some x ∧ x.2.2.2.1 = b)
  ∧ ∀ (i : Nat) (x : jC), z.1[i]? = some x → (x.1 = 0 → F x.2.1) ∧ (x.1 = 37 ∨ x.1 = 38 → x.2.1 ≠ 1) ∧ (x.1 = 40 → 1 ≤ tkX bl x) ∧ (x.1 = 39 ∨ x.1 = 40 → 8 ≤ x.2.2.1)
section PEO
variable {ns : List (List Int)} {us : List Int} {fl : List (List Int × Nat × Int)} {bl : List jB} {z : jL} {el : List (Nat × Nat × Nat × Nat)} {F : Int → Prop} {dn up : Int → Int} {H lc : Nat → Nat} {ty : Nat → Option (Nat → Int)}
theorem vOk_2 {l : Nat} {t : Nat → Int} {v : jQ} (h : vOk F us z l t v) {a c : Nat} {w y : jW} (hw : uOk1 F us z (t a) w ∧ w.1 = (v a).1 ∧ w.2.2.2.1 = (v a).2.2.2.1) (hy : uOk1 F us z (t c) y ∧ y.1 = (v c).1 ∧ y.2.2.2.1 = (v c).2.2.2.1) : vOk F us z l t (qUp (qUp v a w) c y) := by
  have h1 := vOk_sl h hw.1 hw.2
  refine vOk_sl h1 hy.1 ?_
  by_cases e : c = a
  · rw [e, qUp_at]
    rw [e] at hy
    exact ⟨hy.2.1.trans hw.2.1.symm, hy.2.2.trans hw.2.2.symm⟩
  · rw [qUp_ne e]; exact hy.2
theorem u1_rg0 {t : Int} {w : jW} (h : uOk1 F us z t w) (h1 : w.1 = 1) {r : jR} (hr : rOk F r) : uOk1 F us z t (wRg w r) := by
  have := u1_rg h h1 hr (f := w.2.2.2.2) h.1.2.1
  exact this
theorem pOrd_ok (hT : thG F dn up) {l : Nat} {t : Nat → Int} {u v : jQ} (h : vOk F us z l t u) {a c : Nat} (ha : (u a).1 = 1) (hc : (u c).1 = 1) {ls : Bool} (hv : pOrd dn up u a c ls = some v) : vOk F us z l t v := by
  unfold pOrd at hv
  split at hv
  · rename_i q r hq hr
    cases hv
    have o1 := (kCut_mono hT (rle_refl _) (Int.le_refl _) (Int.le_refl _) hq).1
    have o2 := (kCut_mono hT (rle_refl _) (Int.le_refl _) (Int.le_refl _) hr).1
    refine vOk_2 h ⟨u1_rg (vOk_1 h a) ha o1 (fun j hj => ?_), rfl, rfl⟩ ⟨u1_rg0 (vOk_1 h c) hc o2, rfl, rfl⟩
    rw [Bool.or_eq_true, Bool.or_eq_true, Bool.or_eq_true] at hj
    rcases hj with ((w | w) | w) | w
    · exact (h.1 a).2.1 j w
    · rw [Bool.and_eq_true] at w
      have := of_decide_eq_true w.1; omega
    · rw [Bool.and_eq_true, Bool.and_eq_true] at w
      have := of_decide_eq_true w.1.2; omega
    · rw [Bool.and_eq_true] at w
      exact (oOn_b (n := 48) (h.1 c).1 (by decide) j w.2).1
  · cases hv
theorem pEq_ok {l : Nat} {t : Nat → Int} {u v : jQ} (h : vOk F us z l t u) {a c : Nat} (ha : (u a).1 = 1) (hc : (u c).1 = 1) (hv : pEq u a c = some v) : vOk F us z l t v := by
  unfold pEq at hv
  split at hv
  · rename_i r hr
    cases hv
    have o1 := (kCom_ok (wOk_1 (h.1 a) ha).1 (wOk_1 (h.1 c) hc).1 hr).1
    have hf : ∀ (f : Nat → Bool), (∀ j, f j = true → j < 48) → ∀ j, sOr f (iS (sOr (u a).2.2.2.2 (u c).2.2.2.2)) j = true → j < 48 := by
      intro f hf j hj
      have hj : (f j || (decide (j < 36) && sOr (u a).2.2.2.2 (u c).2.2.2.2 j)) = true := hj
      rw [Bool.or_eq_true, Bool.and_eq_true] at hj
      rcases hj with w | w
      · exact hf j w
      · have := of_decide_eq_true w.1; omega
    exact vOk_2 h ⟨u1_rg (vOk_1 h a) ha o1 (hf _ (h.1 a).2.1), rfl, rfl⟩ ⟨u1_rg (vOk_1 h c) hc o1 (hf _ (h.1 c).2.1), rfl, rfl⟩
  · cases hv
theorem pNe_ok (hT : thG F dn up) {l : Nat} {t : Nat → Int} {u v : jQ} (h : vOk F us z l t u) {a c : Nat} (ha : (u a).1 = 1) (hc : (u c).1 = 1) (hv : pNe dn up u a c = some v) : vOk F us z l t v := by
  unfold pNe at hv
  split at hv
  · rename_i q r hq hr
    cases hv
    exact vOk_2 h ⟨u1_rg0 (vOk_1 h a) ha (kWo_ok hT (wOk_1 (h.1 a) ha).1 hq).1, rfl, rfl⟩ ⟨u1_rg0 (vOk_1 h c) hc (kWo_ok hT (wOk_1 (h.1 c) hc).1 hr).1, rfl, rfl⟩
  · cases hv
theorem qPs_ok {l : Nat} {t : Nat → Int} {u v : jQ} (h : vOk F us z l t u) {s : Nat} (hs : (u s).1 = 1) (hv : qPs u s = some v) : vOk F us z l t v := by
  refine qNr_ok h hs (wOk_1 (h.1 s) hs).1 (fun j hj => ?_) hv
  have hj : (decide (j < 36) && (u s).2.2.2.2 j) = true := hj
  rw [Bool.and_eq_true] at hj
  have := of_decide_eq_true hj.1
  omega
theorem pWy_ok (hT : thG F dn up) {l : Nat} {t : Nat → Int} {rl g : Nat} {u v : jQ} (h : vOk F us z l t u) (hd : pKw rl g u) (hv : pWy dn up rl u g = some v) : vOk F us z l t v := by
  obtain ⟨k1, k2, k3⟩ := hd
  unfold pWy at hv
  by_cases c25 : rl ≤ 25
  · rw [if_pos c25] at hv
    obtain ⟨q1, q2⟩ := k1 c25
    obtain ⟨a, a1, a2⟩ := oB_some hv
    obtain ⟨b, b1, b2⟩ := oB_some a2
    obtain ⟨w1, w2⟩ : vOk F us z l t a ∧ ∀ k, (a k).1 = (u k).1 := by
      by_cases d1 : rl = 20
      · rw [if_pos d1] at a1; exact ⟨pEq_ok h q2 q1 a1, (pEq_k a1).1⟩
      rw [if_neg d1] at a1
      by_cases d2 : rl = 21
      · rw [if_pos d2] at a1; exact ⟨pNe_ok hT h q2 q1 a1, (pNe_k a1).1⟩
      rw [if_neg d2] at a1
      by_cases d3 : rl = 22
      · rw [if_pos d3] at a1; exact ⟨pOrd_ok hT h q2 q1 a1, (pOrd_k a1).1⟩
      rw [if_neg d3] at a1
      by_cases d4 : rl = 23
      · rw [if_pos d4] at a1; exact ⟨pOrd_ok hT h q2 q1 a1, (pOrd_k a1).1⟩
      rw [if_neg d4] at a1
      by_cases d5 : rl = 24
      · rw [if_pos d5] at a1; exact ⟨pOrd_ok hT h q1 q2 a1, (pOrd_k a1).1⟩
      rw [if_neg d5] at a1
      exact ⟨pOrd_ok hT h q1 q2 a1, (pOrd_k a1).1⟩
    have hb := qPs_ok w1 (s := 12 + g - 2) (by rw [w2]; exact q2) b1
    exact qPs_ok hb (s := 12 + g - 1) (by rw [((qNr_at w1.2.1 b1).2 _).1, w2]; exact q1) b2
  rw [if_neg c25] at hv
  by_cases c26 : rl = 26 ∨ rl = 27
  · rw [if_pos c26] at hv
    generalize (if rl = 26 then onS 62 else sAl) = K at hv
    by_cases hx : sEx (sAnd (u (12 + g - 1)).2.2.1 K) = true
    · rw [if_pos hx] at hv; exact qKp_ok h (k2 c26) hv
    · rw [if_neg hx] at hv; cases hv
  rw [if_neg c26] at hv
  by_cases c28 : rl = 28
  · rw [if_pos c28] at hv
    obtain ⟨q1, q2⟩ := k3 (Or.inl c28)
    split at hv
    · obtain ⟨a, a1, a2⟩ := oB_some hv
      exact qKp_ok (qKp_ok h q2 a1) (by rw [((qKp_at h.2.1 a1).2 _).1]; exact q1) a2
    · cases hv
  rw [if_neg c28] at hv
  cases hv
  exact h
theorem qRs_ok (hu : uOk us) (h32 : us.length ≤ 32) (hs : sOk us z) {l g : Nat} {t t' : Nat → Int} {v : jQ} (h : vOk F us z l t v) (hl : vle us (rst l g t) t') (hv : ∀ k, tV us (t' k)) : rOw F us z l g t' (qRs l g v) := by
  refine ⟨⟨fun k => ?_, fun s k hk => ?_, fun k => ?_, fun k j => ?_⟩, fun k hk => by unfold qRs; rw [if_neg hk]⟩
  · unfold qRs
    by_cases c : rel l g k
    · rw [if_pos c]; exact h.1 k
    · rw [if_neg c]; exact wU_ok
  · unfold qRs at hk ⊢
    by_cases c : rel l g s
    · rw [if_pos c] at hk ⊢
      obtain ⟨a1, a2, a3, a4, a5⟩ := h.2.1 s k hk
      rw [if_pos (show rel l g k by unfold rel; omega)]
      exact ⟨a1, a2, a3, a4, a5⟩
    · rw [if_neg c] at hk; cases hk
  · have hlk := hl k
    unfold rst at hlk
    unfold qRs
    by_cases c : rel l g k
    · rw [if_pos c] at hlk ⊢
      exact wTy_le hu h32 hs (hv k) hlk (h.2.2.1 k)
    · rw [if_neg c] at hlk
      have : t' k = 0 := by
        rcases (tLe_iff 0 (t' k)).mp hlk with q | q | ⟨q, -⟩ <;> omega
      rw [this]
      exact ⟨fun q => by omega, fun q => by omega⟩
  · unfold qRs
    by_cases c : rel l g k
    · rw [if_pos c]; exact h.2.2.2 k j
    · rw [if_neg c]; intro q; cases q
theorem pGo_n {G : jZ} {σ : jG} {x : jC} {h : Nat} {u : jQ} (hx : x.1 = 41 ∨ x.1 = 42 ∨ x.1 = 43) : pGo G σ x h u = none := by
  unfold pGo
  rw [if_neg (by omega), if_neg (by omega), if_neg (by omega), if_neg (by omega), if_neg (by omega), if_neg (by omega), if_neg (by omega), if_neg (by omega), if_neg (by omega), if_neg (by omega), if_neg (by omega), if_neg (by omega), if_neg (by omega), if_neg (by omega), if_neg (by omega), if_neg (by omega), if_neg (by omega), if_neg (by omega), if_neg (by omega), if_neg (by omega), if_neg (by omega)]
theorem fal_y {o : Nat} (h : ¬ (o = 19 ∨ o = 41 ∨ o = 42 ∨ o = 43)) : fal o = true := by
  unfold fal
  simp [h]
theorem lv_br : ∀ o : Nat, o < 46 → 20 ≤ o ∧ o ≤ 29 → lvT o = 0 := by decide +kernel
/-- the bare row at the beginning of a body -/
theorem pEn_ok (hz : z.2.1.length ≤ 48) {l : Nat} {y : jB} {t : Nat → Int} {u : jQ} (h : vOk F us z l t u) {low : Nat} {o : Option Nat} (hl : low ≥ 12) (hk : ∀ k, k < y.ps.length → (o = none ∨ k ≠ 0) → wTy us z (y.ps.getD k 0) (u (low + k)) ∧ (u (low + k)).1 ≠ 0) (ho : ∀ s, o = some s → 1 ≤ y.ps.length → pB us z (y.ps.getD 0 0) s = true ∧ y.ps.getD 0 0 ≠ 1) (l' : Nat) : vOk F us z l' (tIn y) (pEn y u low o) := by
  have bare : ∀ (w : jW) (s : Int), wOk F w → wTy us z s w → uOk1 F us z s (wBr w) := by
    intro w s h1 h2
    refine ⟨⟨(fun k h => by cases h), (fun j h => by cases h), ?_⟩, h2, fun j _ h => by cases h⟩
    rcases h1.2.2 with q | q | q
    · left; rw [q]; rfl
    · exact Or.inr (Or.inl q)
    · exact Or.inr (Or.inr q)
  have sl : ∀ k, uOk1 F us z (tIn y k) (pEn y u low o k) ∧ (pEn y u low o k).2.2.2.1 = none := by
    intro k
    unfold tIn pEn
    by_cases c : k < y.ps.length
    · rw [if_pos c, if_pos c]
      cases o with
      | none => exact ⟨bare _ _ (h.1 _) (hk k c (Or.inl rfl)).1, rfl⟩
      | some s =>
        dsimp only
        by_cases c0 : k = 0
        · rw [if_pos c0, c0]
          obtain ⟨q1, q2⟩ := ho s rfl (by omega)
          exact ⟨u1_S0 ⟨s, onS_at s⟩ (fun j hj => Or.inr (by rw [onS_eq hj]; exact q1)) (sV_54 hz) q2, rfl⟩
        · rw [if_neg c0]
          exact ⟨bare _ _ (h.1 _) (hk k c (Or.inr c0)).1, rfl⟩
    · rw [if_neg c, if_neg c]
      exact ⟨⟨wU_ok, ⟨fun q => by omega, fun q => by omega⟩, fun j q => by cases q⟩, rfl⟩
  exact ⟨fun k => (sl k).1.1, (fun s k hk' => by rw [(sl s).2] at hk'; cases hk'), fun k => (sl k).1.2.1, fun k j => (sl k).1.2.2 j⟩
/-- what a class's object can be -/
theorem tLe_cls (hu : uOk us) {s t c : Int} {o : Nat} (hc : 8 ≤ c) (h1 : tLe us t (4 + 2 * c) = true) (h2 : tLe us s t = true) (hs : 3 ≤ s) (ho : anc us (cl s) o = true) : tLe us s (4 + 2 * (o : Int)) = true := by
  have ev : t % 2 = 0 ∧ t ≠ 4 ∧ t ≠ 2 ∧ 4 ≤ t := by
    rcases (tLe_iff t (4 + 2 * c)).mp h1 with q | q | ⟨q1, q2, q | q | ⟨q3, q4, q5, q6⟩⟩
    · omega
    · omega
    · rw [q] at h2
      rcases (tLe_iff s 2).mp h2 with r | r | ⟨r1, r2, -⟩ <;> omega
    · omega
    · have h4 : t ≠ 4 := by
        intro w
        have e1 : cl t = 0 := by unfold cl; omega
        rw [e1, anc_0 hu] at q6
        have := of_decide_eq_true q6
        unfold cl at this
        omega
      have h22 : t ≠ 2 := by
        intro w
        rw [w] at h2
        rcases (tLe_iff s 2).mp h2 with r | r | ⟨r1, r2, -⟩ <;> omega
      omega
  have es : s % 2 = 0 := by
    rcases (tLe_iff s t).mp h2 with q | q | ⟨q1, q2, q | q | ⟨q3, q4, q5, q6⟩⟩ <;> omega
  refine (tLe_iff _ _).mpr (Or.inr (Or.inr ⟨by omega, by omega, Or.inr (Or.inr ⟨by omega, by omega, by omega, ?_⟩)⟩))
  have e2 : cl (4 + 2 * (o : Int)) = o := by unfold cl; omega
  rw [e2]; exact ho
/-- at an instruction that is reached -/
theorem pCx_at (h : pCx F dn up ns us fl bl z el H lc ty) {i : Nat} {x : jC} (hx : z.1[i]? = some x) {t : Nat → Int} (ht : ty i = some t) {u : jQ} (hu : vOk F us z (lc i) t u) : pKd bl x (H i) u ∧ (∀ k, tV us (t k)) := by
  obtain ⟨hT, hs, hov, huO, h32, h8, hz, hin, hbd, hop⟩ := h
  obtain ⟨xb, e, M, X, b1, b2, b3, b4, b5, b6, b7, b8, b9⟩ := hin i x hx
  obtain ⟨e1, e2, e3⟩ := b6 i b3 b4
  rw [e3] at ht
  obtain ⟨o1, o2, o3, o4⟩ := b7.1 i t ht
  have hv : ∀ k, tV us (t k) := fun k => (o4 k).1
  refine ⟨?_, hv⟩
  rw [e1]
  exact pKd_of b5 b3 b4 hx o3 hv (hop i x hx).2.2.1 hu.2.2.1 (b9 i t x ht hx)
theorem pEd_ok (h : pCx F dn up ns us fl bl z el H lc ty) {σ : jG} (hσ : gOk F us fl bl z σ) {i : Nat} {x : jC} (hx : z.1[i]? = some x) {t : Nat → Int} (ht : ty i = some t) {u : jQ} (hu : vOk F us z (lc i) t u) {j : Nat} {w : jQ} (hE : pEd (dn, up, (ns, us, fl, bl, z, el), H) σ i x u lc j w) : ∃ x' t', z.1[j]? = some x' ∧ ty j = some t' ∧ rOw F us z (lc j) (H j) t' w := by
  obtain ⟨hd, hv⟩ := pCx_at h hx ht hu
  have h' := h
  obtain ⟨hT, hs, hov, huO, h32, h8, hz, hin, hbd, hop⟩ := h
  obtain ⟨xb, e, M, X, b1, b2, b3, b4, b5, b6, b7, b8, b9⟩ := hin i x hx
  obtain ⟨e1, e2, e3⟩ := b6 i b3 b4
  have ht' := ht
  rw [e3] at ht
  obtain ⟨o1, o2, o3, o4⟩ := b7.1 i t ht
  have hho := b9 i t x ht hx
  obtain ⟨hbo, hcw, hi⟩ := cW_at b5 b3 b4 hx
  obtain ⟨p0, p37, p40, p8⟩ := hop i x hx
  have hlen := b5.1.2.2.1
  -- an arrow of the body
  have go : ∀ (j : Nat) (s : Nat → Int) (v : jQ), tEd fl bl z x.2.2.2.1 xb.lc.toNat M i x t j (rst xb.lc.toNat (hgt (M j)) s) → vOk F us z xb.lc.toNat s v → ∃ x' t', z.1[j]? = some x' ∧ ty j = some t' ∧ rOw F us z (lc j) (H j) t' (qRs (lc j) (H j) v) := by
    intro j s v hE' hsv
    obtain ⟨r1, r2, r3, r4⟩ := tEd_row b5 b3 b4 hx o3 hv hE'
    obtain ⟨t', q1, q2⟩ := b8 i x t hx ht j _ hE'
    obtain ⟨f1, f2, f3⟩ := b6 j r1 r2
    refine ⟨z.1[j]'(by omega), t', List.getElem?_eq_getElem (by omega), by rw [f3]; exact q1, ?_⟩
    rw [f1, f2]
    exact qRs_ok huO h32 hs hsv q2 (fun k => ((b7.1 j t' q1).2.2.2 k).1)
  rw [e2] at hu
  rcases hE with ⟨a1, v, a2, a3, a4⟩ | ⟨a1, a2, v, a3, a4⟩ | ⟨k, y, a1, a2, a3, a4, a5, a6, a7⟩ | ⟨a1, y, e', a2, a3, a4, a5⟩ | ⟨a1, a2, s, b, y, y', e', a3, a4, a5, a6, a7, a8, a9, a10⟩
  · have a2' : pGo (dn, up, (ns, us, fl, bl, z, el), H) σ x (hgt (M i)) u = some v := by rw [← e1]; exact a2
    obtain ⟨t', c1, c2⟩ := pGo_ok hT b5 hs hov hσ b3 b4 hx o3 p0 (fun q => p37 (Or.inl q)) hv hu hho (by rw [← e1]; exact hd) a2'
    rw [a4]
    refine go j t' v (Or.inl ⟨t', c1, rfl, ?_⟩) c2
    by_cases c19 : x.1 = 19
    · rw [if_pos c19] at a3
      exact Or.inr ⟨by omega, by omega, a3⟩
    · rw [if_neg c19] at a3
      refine Or.inl ⟨fal_y (fun q => ?_), a3⟩
      rw [pGo_n (by omega)] at a2
      cases a2
  · obtain ⟨d1, d2⟩ := pKd_w hd ⟨a1, a2⟩
    have hlv : lvX bl x = 0 := by rw [(tkX_n (by omega)).2]; exact lv_br x.1 hcw.1 ⟨a1, a2⟩
    have htp : tPf fl bl z.2.1 x (hgt (M i)) t = some t := tPf_0 ⟨by omega, by omega, by omega⟩ hlv
    rw [a3]
    rcases a4 with ⟨f1, f2⟩ | ⟨f1, f2⟩
    · exact go j t v (Or.inl ⟨t, htp, rfl, Or.inr ⟨by omega, a2, f2⟩⟩) (pWy_ok hT hu d1 f1)
    · exact go j t v (Or.inl ⟨t, htp, rfl, Or.inl ⟨fal_y (by omega), f2⟩⟩) (pWy_ok hT hu d2 f1)
  · have hkw := b5.1.2.2.2.2.2.2.2 k y a1 a2
    have hc32 := hkw.2.2.2.2.2.2.1
    obtain ⟨s, -, hs'⟩ := sEx_iff.mp a6
    rw [a7]
    refine go j (tUp t 12 (4 + 2 * (y.2.2.2.2 : Int))) _ (Or.inr ⟨k, y, a1, a2, a3, a4, a5, rfl⟩) (vOk_up hu (u1_S0 ⟨s, hs'⟩ (fun q hq => Or.inr ?_) (sV_54 hz) (by omega)) (Or.inl rfl) (Or.inl (by omega)))
    unfold sAnd at hq
    rw [Bool.and_eq_true] at hq
    exact hq.2
  · -- a call
    obtain ⟨f, c, y1, q1, q2, q3⟩ := hcw.2.2.2.2.2.2.1 (Or.inl a1)
    have hy : y = y1 := by
      have a2 : bl[x.2.1.toNat]? = some y := a2
      rw [q1, Int.toNat_natCast, q2] at a2
      cases a2; rfl
    subst hy
    obtain ⟨e0, x0, r1, r2, r3⟩ := hbd f y q2
    have he' : e0 = e' := by
      have a3 : el[x.2.1.toNat]? = some e' := a3
      rw [q1, Int.toNat_natCast, r1] at a3
      cases a3; rfl
    subst he'
    obtain ⟨xb', e2', M', X', g1, g2, g3, g4, g5, g6, g7, g8, g9⟩ := hin e0.1 x0 r2
    rw [r3, q2] at g1
    cases g1
    rw [r3, r1] at g2
    cases g2
    obtain ⟨t', u1, u2⟩ := g7.2.1
    obtain ⟨f1, f2, f3⟩ := g6 e0.1 g3 g4
    refine ⟨x0, t', by rw [a4]; exact r2, by rw [a4, f3]; exact u1, ?_⟩
    obtain ⟨f', c', y'', w1, w2, w3, w4, w5, w6, w7, w8, w9⟩ := told_v b5 hcw (Or.inl a1)
    have hyy : y'' = y := by
      have : f' = f := by rw [q1] at w1; omega
      rw [this, q2] at w2
      cases w2; rfl
    subst hyy
    obtain ⟨k1, k2⟩ := hd.2.2.2.2.2.2.2.2.2.1 (Or.inl a1)
    have hk1 : tkX bl x ≤ H i := k1
    have hen := pEn_ok (F := F) (us := us) (z := z) hz (y := y'') (o := none) hu (low := 12 + H i - tkX bl x) (by omega) (fun k hk _ => by
      rw [← w6] at hk
      have hall := hho
      unfold tHo at hall
      rw [if_neg (by omega), if_neg (by omega), if_neg (by omega), if_pos (Or.inl a1)] at hall
      have b1' := allR_at _ _ hall k (by omega) (by omega)
      rw [w9 k (by omega), ← e1] at b1'
      have hvk : tV us (y''.ps.getD k 0) := by
        rcases w8 k (by omega) with q | q
        · rw [w9 k (by omega)] at q; exact q.1
        · rw [w9 k (by omega)] at q; rw [q]; unfold tV; omega
      exact ⟨wTy_le huO h32 hs hvk b1' (hu.2.2.1 _), k2 k hk⟩) (fun s q => by cases q) y''.lc.toNat
    rw [a5, a4]
    show rOw F us z (lc e0.1) (H e0.1) t' (qRs (lc e0.1) (H e0.1) (pEn y'' u (12 + H i - tkX bl x) none))
    rw [f1, f2]
    refine qRs_ok huO h32 hs hen ?_ (fun k => ((g7.1 e0.1 t' u1).2.2.2 k).1)
    rw [tIn_rst g5]
    exact u2
  · -- a send
    have a2 : (pDr u (12 + H i - tkX bl x)).isSome = true := a2
    have a4 : (u (12 + H i - tkX bl x)).2.2.1 s = true := a4
    obtain ⟨f, c, y1, q1, q2, q3⟩ := hcw.2.2.2.2.2.2.1 (Or.inr a1)
    have hy : y = y1 := by
      have a5 : bl[x.2.1.toNat]? = some y := a5
      rw [q1, Int.toNat_natCast, q2] at a5
      cases a5; rfl
    subst hy
    obtain ⟨f', c', y'', w1, w2, w3, w4, w5, w6, w7, w8, w9⟩ := told_v b5 hcw (Or.inr a1)
    have hyy : y'' = y := by
      have : f' = f := by rw [q1] at w1; omega
      rw [this, q2] at w2
      cases w2; rfl
    subst hyy
    obtain ⟨k1, k2⟩ := hd.2.2.2.2.2.2.2.2.2.1 (Or.inr a1)
    obtain ⟨k3, k4⟩ := hd.2.2.2.2.2.2.2.2.2.2.1 a1
    have hk1 : tkX bl x ≤ H i := k1
    have hall := hho
    unfold tHo at hall
    rw [if_neg (by omega), if_neg (by omega), if_neg (by omega), if_pos (Or.inr a1), ← e1] at hall
    have b0 := allR_at _ _ hall 0 (by omega) (by omega)
    have et : tTold bl x 0 = 4 + 2 * x.2.2.1 := by unfold tTold; rw [if_pos ⟨rfl, a1⟩]
    rw [et, Nat.add_zero] at b0
    have h2t : 2 ≤ t (12 + H i - tkX bl x) := by
      rcases tLe_nz b0 (by omega) with r | r <;> omega
    have hsb : pB us z (t (12 + H i - tkX bl x)) s = true := ((hu.2.2.1 (12 + H i - tkX bl x)).2 h2t).2 s a4 |>.resolve_left (by omega)
    have hsb' := hsb
    unfold pB at hsb'
    rw [Bool.and_eq_true] at hsb'
    have hsv := hs s hsb'.1
    have hcl : cl (sTp z s) < us.length := by
      have h1' := hsv.1
      have h3' := hsv.2
      unfold tV at h1'
      unfold cl
      omega
    have hme : y''.me = true := by rw [q3.1]; exact decide_eq_true a1
    have a6 : rnS us bl (cl (sTp z s)) y'' = (b : Int) := a6
    obtain ⟨y2, v1, v2, v3, v4, v5, v6, v7⟩ := hov _ f b y'' hcl q2 hme a6
    have hy2 : y' = y2 := by
      have a7 : bl[b]? = some y' := a7
      rw [v1] at a7
      cases a7; rfl
    rw [hy2] at a10
    clear a7
    obtain ⟨e0, x0, r1, r2, r3⟩ := hbd b y2 v1
    have he' : e0 = e' := by
      have a8 : el[b]? = some e' := a8
      rw [r1] at a8
      cases a8; rfl
    subst he'
    obtain ⟨xb', e2', M', X', g1, g2, g3, g4, g5, g6, g7, g8, g9⟩ := hin e0.1 x0 r2
    rw [r3, v1] at g1
    cases g1
    rw [r3, r1] at g2
    cases g2
    obtain ⟨t', u1, u2⟩ := g7.2.1
    obtain ⟨f1, f2, f3⟩ := g6 e0.1 g3 g4
    refine ⟨x0, t', by rw [a9]; exact r2, by rw [a9, f3]; exact u1, ?_⟩
    have pk : ∀ k, 1 ≤ k → y2.ps.getD k 0 = y''.ps.getD k 0 := by
      intro k hk
      have h1 : y2.ps.getD k 0 = (y2.ps.drop 1).getD (k - 1) 0 := by
        rw [List.getD_eq_getElem?_getD, List.getD_eq_getElem?_getD, List.getElem?_drop, show 1 + (k - 1) = k by omega]
      have h2 : y''.ps.getD k 0 = (y''.ps.drop 1).getD (k - 1) 0 := by
        rw [List.getD_eq_getElem?_getD, List.getD_eq_getElem?_getD, List.getElem?_drop, show 1 + (k - 1) = k by omega]
      rw [h1, h2, v5]
    have hp0 : y2.ps.getD 0 0 = 4 + 2 * (y2.ow : Int) := by rw [List.getD_eq_getElem?_getD, v7, Option.getD_some]
    have hen := pEn_ok (F := F) (us := us) (z := z) hz (y := y2) (o := some s) hu (low := 12 + H i - tkX bl x) (by omega) (fun k hk hk0 => by
      have hk0' : k ≠ 0 := hk0.resolve_left (fun q => by cases q)
      rw [v3, ← w6] at hk
      have b1' := allR_at _ _ hall k (by omega) (by omega)
      rw [w9 k (by omega)] at b1'
      have hvk : tV us (y''.ps.getD k 0) := by
        rcases w8 k (by omega) with q | q
        · rw [w9 k (by omega)] at q; exact q.1
        · rw [w9 k (by omega)] at q; rw [q]; unfold tV; omega
      rw [pk k (by omega)]
      exact ⟨wTy_le huO h32 hs hvk b1' (hu.2.2.1 _), k2 k hk⟩) (fun s' q _ => by
      cases q
      rw [hp0]
      refine ⟨?_, by omega⟩
      unfold pB
      rw [hsb'.1, Bool.true_and]
      exact tLe_cls huO (p8 (Or.inr a1)) b0 hsb'.2 hsv.2 v6) y2.lc.toNat
    rw [a10, a9]
    show rOw F us z (lc e0.1) (H e0.1) t' (qRs (lc e0.1) (H e0.1) (pEn y2 u (12 + H i - tkX bl x) (some s)))
    rw [f1, f2]
    refine qRs_ok huO h32 hs hen ?_ (fun k => ((g7.1 e0.1 t' u1).2.2.2 k).1)
    rw [tIn_rst g5]
    exact u2
end PEO
