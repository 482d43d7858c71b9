/-! The proof: behind an instruction the row is of the types behind it. -/
section PGL
variable {ns : List (List Int)} {us : List Int} {fl : List (List Int × Nat × Int)} {bl : List jB} {z : jL} {el : List (Nat × Nat × Nat × Nat)} {b : Nat} {xb : jB} {e : Nat × Nat × Nat × Nat} {M : Nat → Nat} {F : Int → Prop} {dn up : Int → Int} {H : Nat → Nat}
theorem vl_slot {t : Int} {w : jW} (h : vl1 F us z t w) : uOk1 F us z t w ∧ w.2.2.2.1 = none := ⟨h.1, h.2.1⟩
theorem zTp_f {f s : Nat} {y : List Int × Nat × Int} (hs : s < 54) (hf : fl[f]? = some y) (h48 : fl.length ≤ 48) : zTp fl bl z (s * 48 + f) = y.2.2 := by
  have := at_lt hf
  unfold zTp
  rw [if_pos (by omega), show (s * 48 + f) % 48 = f by omega, hf]
theorem zTp_e {s : Nat} (hs : s < 54) : zTp fl bl z (2592 + s) = tEl (sTp z s) := by
  unfold zTp
  rw [if_neg (by omega), if_pos (by omega), show 2592 + s - 2592 = s by omega]
theorem zTp_l {s : Nat} (hs : s < 54) : zTp fl bl z (2646 + s) = 1 := by
  unfold zTp
  rw [if_neg (by omega), if_neg (by omega), if_pos (by omega)]
theorem zTp_r {c : Nat} {y : jB} (hy : bl[c]? = some y) : zTp fl bl z (2700 + c) = y.rs := by
  unfold zTp
  rw [if_neg (by omega), if_neg (by omega), if_neg (by omega), show 2700 + c - 2700 = c by omega, hy]
/-- the bodies that are meant -/
theorem pMt_y (hov : pOv us bl) (hul : us.length ≤ 32) (h : tCx ns us fl bl z b xb e M) (hs : sOk us z) {x : jC} (hcw : cW ns us fl bl z.2.1 e.1 e.2.1 xb.lc x) (hc : x.1 = 39 ∨ x.1 = 40) {u : jQ} {low c : Nat} {t : Int} (ht : x.1 = 40 → wTy us z t (u low) ∧ tLe us t (4 + 2 * x.2.2.1) = true) (hm : pMt us bl z x u low c = true) : ∃ (f : Nat) (y y' : jB), x.2.1 = (f : Int) ∧ bl[f]? = some y ∧ bl[c]? = some y' ∧ y'.rs = y.rs ∧ y'.ps.length = y.ps.length ∧ y'.ps.drop 1 = y.ps.drop 1 := by
  obtain ⟨f, c', y, q1, q2, q3, q4, q5, q6⟩ := hcw.2.2.2.2.2.2.1 hc
  unfold pMt at hm
  by_cases c39 : x.1 = 39
  · rw [if_pos c39] at hm
    have := of_decide_eq_true hm
    rw [q1, Int.toNat_natCast] at this
    exact ⟨f, y, y, q1, q2, by rw [this]; exact q2, rfl, rfl, rfl⟩
  · rw [if_neg c39, q1, Int.toNat_natCast, q2] at hm
    obtain ⟨s, s1, s2⟩ := (exB_iff 54).mp hm
    rw [Bool.and_eq_true] at s2
    have hrn := of_decide_eq_true s2.2
    have hme : y.me = true := by rw [q3]; exact decide_eq_true (by omega)
    obtain ⟨ht1, ht2⟩ := ht (by omega)
    have h2t : 2 ≤ t := by
      rcases tLe_nz ht2 (by omega) with r | r <;> omega
    have hsb : pB us z t s = true := ((ht1.2 h2t).2 s s2.1).resolve_left (by omega)
    unfold pB at hsb
    rw [Bool.and_eq_true] at hsb
    have hv := hs s hsb.1
    have hl8 := h.2.2.2.2.2.1
    have hll := h.2.2.2.2.1
    have hcl : cl (sTp z s) < us.length := by
      have := hv.1
      have h3 := hv.2
      unfold tV at this
      unfold cl
      omega
    obtain ⟨y', o1, -, o2, o3, o4, -⟩ := hov _ f c y hcl q2 hme hrn
    exact ⟨f, y, y', q1, q2, o1, o3, o2, o4⟩
theorem pGo_ok (hT : thG F dn up) (h : tCx ns us fl bl z b xb e M) (hs : sOk us z) (hov : pOv us bl) {σ : jG} (hσ : gOk F us fl bl z σ) {i : Nat} {x : jC} (h1 : e.1 ≤ i) (h2 : i < e.2.1) (hx : z.1[i]? = some x) (h0 : M i ≠ 0) (hPu : x.1 = 0 → F x.2.1) (hca : x.1 = 37 → x.2.1 ≠ 1) {t : Nat → Int} (ht : ∀ k, tV us (t k)) {u v : jQ} (hu : vOk F us z xb.lc.toNat t u) (ho : tHo us fl bl xb x (hgt (M i)) t = true) (hd : pKd bl x (hgt (M i)) u) (hp : pGo (dn, up, (ns, us, fl, bl, z, el), H) σ x (hgt (M i)) u = some v) : ∃ t', tPf fl bl z.2.1 x (hgt (M i)) t = some t' ∧ vOk F us z xb.lc.toNat t' v := by
  obtain ⟨hbo, hcw, hi⟩ := cW_at h h1 h2 hx
  obtain ⟨t1, t2, t3⟩ := tk_b h h1 h2 hx h0
  obtain ⟨l1, l2, l3⟩ := lc_12 h
  have huO := h.2.2.2.1
  have hl := h.2.2.2.2.1
  have h8 := h.2.2.2.2.2.1
  have h32 := h.2.2.2.2.2.2.1
  have h32' : us.length ≤ 32 := by omega
  have hfl48 := h.2.2.2.2.2.2.2.2.2.2.2.2.1
  have hsl48 := h.2.2.2.2.2.2.2.2.2.2.2.2.2.2.2.1
  have tb := h.2.2.2.2.2.2.2.2.1
  have hv54 := sV_54 hsl48
  obtain ⟨g, hg⟩ : ∃ g, g = hgt (M i) := ⟨_, rfl⟩
  rw [← hg] at ho hd hp t1 t2 t3 ⊢
  obtain ⟨k2, k4, kb, ki, kr, krr, k33, k34, k36, kc, k40, k42⟩ := hd
  obtain ⟨L0, L1, L2, L4, L6, L45, L19, L18, L30, L31, L32, L33, L34, L35, L36, L37, L38, L44⟩ := lt_tab
  have lk : ∀ o, x.1 = o → ¬ (o = 39 ∨ o = 40) → lvX bl x = lvT o ∧ tkX bl x = tkT o := fun o q hn => by
    rw [← q] at hn ⊢
    exact ⟨(tkX_n hn).2, (tkX_n hn).1⟩
  have tl1 : ∀ low, x.1 ≠ 1 → x.1 ≠ 2 → ¬ (x.1 = 30 ∨ x.1 = 31) → x.1 ≠ 33 → x.1 ≠ 35 → x.1 ≠ 37 → ¬ (x.1 = 39 ∨ x.1 = 40) → tLf fl bl z.2.1 x t low = 1 := by
    intro low a1 a2 a3 a4 a5 a6 a7
    unfold tLf
    rw [if_neg a1, if_neg a2, if_neg a3, if_neg a4, if_neg a5, if_neg a6, if_neg a7]
  unfold pGo at hp
  by_cases c0 : x.1 = 0
  · rw [if_pos c0] at hp
    obtain ⟨e1, e2⟩ := lk 0 c0 (by decide)
    rw [L0.1] at e1; rw [L0.2] at e2
    cases hp
    refine ⟨_, tPf_1 (low := 12 + g) ⟨by omega, by omega, by omega⟩ e1 (by omega) (tl1 _ (by omega) (by omega) (by omega) (by omega) (by omega) (by omega) (by omega)) (by decide), ?_⟩
    exact vOk_up hu (u1_R0 ⟨hPu c0, hPu c0, Int.le_refl _⟩) (Or.inl rfl) (Or.inl (by omega))
  rw [if_neg c0] at hp
  by_cases c1 : x.1 = 1
  · rw [if_pos c1] at hp
    obtain ⟨e1, e2⟩ := lk 1 c1 (by decide)
    rw [L1.1] at e1; rw [L1.2] at e2
    cases hp
    refine ⟨_, tPf_1 (low := 12 + g) (s := 2) ⟨by omega, by omega, by omega⟩ e1 (by omega) (by unfold tLf; rw [if_pos c1]) (by decide), ?_⟩
    exact vOk_up hu (u1_S0 ⟨62, onS_at 62⟩ (fun j hj => Or.inl (onS_eq hj)) hv54 (by decide)) (Or.inl rfl) (Or.inl (by omega))
  rw [if_neg c1] at hp
  by_cases c2 : x.1 = 2
  · rw [if_pos c2] at hp
    obtain ⟨e1, e2⟩ := lk 2 c2 (by decide)
    rw [L2.1] at e1; rw [L2.2] at e2
    obtain ⟨n1, n2⟩ := hcw.2.2.1 (Or.inl (by rw [c2]; exact fK_loc.1))
    cases hp
    refine ⟨_, tPf_1 (low := 12 + g) (s := t x.2.1.toNat) ⟨by omega, by omega, by omega⟩ e1 (by omega) (by unfold tLf; rw [if_neg c1, if_pos c2]) (by have := (ht x.2.1.toNat).1; omega), ?_⟩
    obtain ⟨⟨a1, a2, a3⟩, a4, a5⟩ := vOk_1 hu x.2.1.toNat
    have hne := k2 c2
    refine vOk_up hu ⟨⟨fun k hk => ?_, a2, ?_⟩, a4, a5⟩ (Or.inr ⟨by omega, x.2.1.toNat, rfl, by omega, by omega, rfl, hne⟩) (Or.inl (by omega))
    · cases hk; omega
    · rcases a3 with q | q | q
      · rw [q] at hne; exact absurd rfl hne
      · exact Or.inr (Or.inl q)
      · exact Or.inr (Or.inr q)
  rw [if_neg c2] at hp
  by_cases c3 : x.1 = 3
  · rw [if_pos c3] at hp
    cases hp
    obtain ⟨q1, q2⟩ := qCh_ok hu x.2.1.toNat
    refine ⟨tUp t x.2.1.toNat (t (12 + g - 1)), by unfold tPf; rw [if_pos c3], ?_⟩
    have hw := vOk_1 q1 (12 + g - 1)
    obtain ⟨⟨a1, a2, a3⟩, a4, a5⟩ := hw
    refine vOk_up q1 ⟨⟨(fun k hk => by cases hk), a2, ?_⟩, a4, a5⟩ (Or.inl rfl) (Or.inr (Or.inr q2))
    rcases a3 with q | q | q
    · left
      have q : wCh (u (12 + g - 1)) x.2.1.toNat = wU := q
      rw [q]; rfl
    · exact Or.inr (Or.inl q)
    · exact Or.inr (Or.inr q)
  rw [if_neg c3] at hp
  by_cases c4 : x.1 = 4
  · rw [if_pos c4] at hp
    cases hp
    obtain ⟨e1, e2⟩ := lk 4 c4 (by decide)
    obtain ⟨q1, q2⟩ := qCh_ok hu x.2.1.toNat
    refine ⟨t, tPf_0 ⟨by omega, by omega, by omega⟩ (by rw [e1]; exact L4), ?_⟩
    have ht1 : t x.2.1.toNat = 1 := by
      unfold tHo at ho
      rw [if_neg (by omega), if_pos c4] at ho
      exact of_decide_eq_true ho
    have hr := (wOk_1 (hu.1 x.2.1.toNat) (k4 c4)).1
    have := vOk_up q1 (k := x.2.1.toNat) (s := 1) (u1_R0 (r := kPlus dn up (u x.2.1.toNat).2.1 x.2.2.1) (rAr_ok hT (by have := hr.2.2; omega))) (Or.inl rfl) (Or.inr (Or.inr q2))
    rw [← ht1, tUp_id] at this
    exact this
  rw [if_neg c4] at hp
  by_cases c5 : x.1 = 5
  · rw [if_pos c5] at hp
    cases hp
    refine ⟨tUp t (12 + g) (t (12 + g - 1)), by unfold tPf; rw [if_neg c3, if_pos c5], ?_⟩
    refine vOk_up hu (vOk_1 hu _) ?_ (Or.inl (by omega))
    cases hcp : (u (12 + g - 1)).2.2.2.1 with
    | none => exact Or.inl rfl
    | some c =>
      obtain ⟨a1, a2, a3, a4, a5⟩ := hu.2.1 _ c hcp
      exact Or.inr ⟨by omega, c, rfl, a1, a2, a3, a4⟩
  rw [if_neg c5] at hp
  by_cases c6 : x.1 = 6 ∨ x.1 = 45 ∨ x.1 = 19
  · rw [if_pos c6] at hp
    cases hp
    refine ⟨t, tPf_0 ⟨by omega, by omega, by omega⟩ ?_, hu⟩
    rcases c6 with q | q | q
    · rw [(lk _ q (by decide)).1]; exact L6
    · rw [(lk _ q (by decide)).1]; exact L45
    · rw [(lk _ q (by decide)).1]; exact L19
  rw [if_neg c6] at hp
  by_cases c7 : x.1 = 7
  · rw [if_pos c7] at hp
    cases hp
    have e2 := (lk 7 c7 (by decide)).2
    rw [tk_op.2.2.1] at e2
    refine ⟨tUp (tUp t (12 + g - 2) (t (12 + g - 2 + 1))) (12 + g - 2 + 1) (t (12 + g - 2)), by unfold tPf; rw [if_neg c3, if_neg c5, if_pos c7], ?_⟩
    have cpq : ∀ s k, 12 ≤ k → (u s).2.2.2.1 = none ∨ (12 ≤ k ∧ ∃ c, (u s).2.2.2.1 = some c ∧ c < xb.lc.toNat ∧ xb.lc.toNat ≤ 12 ∧ (u c).1 = (u s).1 ∧ (u s).1 ≠ 0) := by
      intro s k hk
      cases hcp : (u s).2.2.2.1 with
      | none => exact Or.inl rfl
      | some c =>
        obtain ⟨a1, a2, a3, a4, a5⟩ := hu.2.1 _ c hcp
        exact Or.inr ⟨hk, c, rfl, a1, a2, a3, a4⟩
    have s1 := vOk_up hu (k := 12 + g - 2) (vOk_1 hu (12 + g - 1)) (cpq _ _ (by omega)) (Or.inl (by omega))
    have s2 := vOk_up s1 (k := 12 + g - 1) (s := t (12 + g - 2)) (w := u (12 + g - 2)) (vOk_1 hu (12 + g - 2)) (by
      rcases cpq (12 + g - 2) (12 + g - 1) (by omega) with q | ⟨q1, c, q2, q3, q4, q5, q6⟩
      · exact Or.inl q
      · exact Or.inr ⟨q1, c, q2, q3, q4, by rw [qUp_ne (by omega)]; exact q5, q6⟩) (Or.inl (by omega))
    have e3 : qUp (qUp u (12 + g - 1) (u (12 + g - 2))) (12 + g - 2) (u (12 + g - 1)) = qUp (qUp u (12 + g - 2) (u (12 + g - 1))) (12 + g - 1) (u (12 + g - 2)) := by
      funext j
      unfold qUp
      by_cases j1 : j = 12 + g - 2
      · rw [if_pos j1, if_neg (by omega), if_pos j1]
      · rw [if_neg j1]
        by_cases j2 : j = 12 + g - 1
        · rw [if_pos j2, if_pos j2]
        · rw [if_neg j2, if_neg j2, if_neg j1]
    rw [e3, show 12 + g - 2 + 1 = 12 + g - 1 by omega]
    exact s2
  rw [if_neg c7] at hp
  by_cases c8 : 8 ≤ x.1 ∧ x.1 ≤ 17
  · rw [if_pos c8] at hp
    obtain ⟨r, r1, r2⟩ := oB_some hp
    obtain ⟨e1, e2⟩ := lk x.1 rfl (by omega)
    obtain ⟨y1, y2⟩ := lt_cal x.1 hcw.1 c8
    rw [y1] at e1; rw [y2] at e2
    obtain ⟨q1, q2, q3⟩ := kb (Or.inl c8)
    cases r2
    refine ⟨_, tPf_1 (low := 12 + g - 2) ⟨by omega, by omega, by omega⟩ e1 (by omega) (tl1 _ (by omega) (by omega) (by omega) (by omega) (by omega) (by omega) (by omega)) (by decide), ?_⟩
    exact vOk_up hu (u1_R0 (kCalc_ok hT (wOk_1 (hu.1 _) q2).1.2.2 (wOk_1 (hu.1 _) q1).1.2.2 r1)) (Or.inl rfl) (Or.inl (by omega))
  rw [if_neg c8] at hp
  by_cases c18 : x.1 = 18
  · rw [if_pos c18] at hp
    cases hp
    obtain ⟨e1, e2⟩ := lk 18 c18 (by decide)
    rw [L18.1] at e1; rw [L18.2] at e2
    obtain ⟨q1, q2⟩ := ki (by omega)
    refine ⟨_, tPf_1 (low := 12 + g - 1) ⟨by omega, by omega, by omega⟩ e1 (by omega) (tl1 _ (by omega) (by omega) (by omega) (by omega) (by omega) (by omega) (by omega)) (by decide), ?_⟩
    exact vOk_up hu (u1_R0 (rAr_ok hT (by have := (wOk_1 (hu.1 _) q1).1.2.2; omega))) (Or.inl rfl) (Or.inl (by omega))
  rw [if_neg c18] at hp
  have site : ∀ _ : Unit, x.1 = 30 ∨ x.1 = 31 → ∃ k : Nat, x.2.2.1.toNat = k ∧ k < z.2.1.length ∧ (∀ low, tLf fl bl z.2.1 x t low = sTp z k) ∧ 3 ≤ sTp z k ∧ pB us z (sTp z k) k = true := by
    intro _ q
    obtain ⟨k, s, q1, q2, q3⟩ := hcw.2.2.2.2.2.2.2.1 q
    have hk := at_lt q2
    have e1 : sTp z k = z.2.1.getD k 0 := by unfold sTp; rw [if_pos hk]
    have hvd : sVd z k = true := by unfold sVd; rw [decide_eq_true hk]; rfl
    refine ⟨k, by rw [q1, Int.toNat_natCast], hk, fun low => ?_, (hs k hvd).2, ?_⟩
    · unfold tLf
      rw [if_neg (by omega), if_neg (by omega), if_pos q, q1, Int.toNat_natCast, e1]
    · unfold pB
      rw [hvd, tLe_refl]; rfl
  by_cases c30 : x.1 = 30
  · rw [if_pos c30] at hp
    cases hp
    obtain ⟨e1, e2⟩ := lk 30 c30 (by decide)
    rw [L30.1] at e1; rw [L30.2] at e2
    obtain ⟨k, w1, w2, w3, w4, w5⟩ := site () (Or.inl c30)
    refine ⟨_, tPf_1 (low := 12 + g) ⟨by omega, by omega, by omega⟩ e1 (by omega) (w3 _) (by omega), ?_⟩
    rw [w1]
    exact vOk_up hu (u1_S0 ⟨k, onS_at k⟩ (fun j hj => Or.inr (by rw [onS_eq hj]; exact w5)) hv54 (by omega)) (Or.inl rfl) (Or.inl (by omega))
  rw [if_neg c30] at hp
  by_cases c31 : x.1 = 31
  · rw [if_pos c31] at hp
    obtain ⟨e1, e2⟩ := lk 31 c31 (by decide)
    rw [L31.1] at e1; rw [L31.2] at e2
    obtain ⟨k, w1, w2, w3, w4, w5⟩ := site () (Or.inr c31)
    split at hp
    · cases hp
    · cases hp
      refine ⟨_, tPf_1 (low := 12 + g - 1) ⟨by omega, by omega, by omega⟩ e1 (by omega) (w3 _) (by omega), ?_⟩
      rw [w1]
      exact vOk_up hu (u1_S ⟨k, onS_at k⟩ (fun j hj => Or.inr (by rw [onS_eq hj]; exact w5)) hv54 (by omega) (fun j hj => by have := oOn_b (n := 48) (hu.1 (12 + g - 1)).1 (by decide) j hj; omega)) (Or.inl rfl) (Or.inl (by have := (ki (by omega)).2; omega))
  rw [if_neg c31] at hp
  by_cases c32 : x.1 = 32
  · rw [if_pos c32] at hp
    obtain ⟨e1, e2⟩ := lk 32 c32 (by decide)
    rw [L32.1] at e1; rw [L32.2] at e2
    obtain ⟨q1, q2⟩ := kr (by omega)
    obtain ⟨a, a1, a2⟩ := oB_some hp
    obtain ⟨l, b1, b2⟩ := oB_some a2
    cases b2
    refine ⟨_, tPf_1 (low := 12 + g - 1) ⟨by omega, by omega, by omega⟩ e1 (by omega) (tl1 _ (by omega) (by omega) (by omega) (by omega) (by omega) (by omega) (by omega)) (by decide), ?_⟩
    have hl1 := fJ_v (t := 1) (Or.inl rfl) 54 (fun m w hm _ hw => by
      have := (hσ.1 _ w hw).2
      rw [zTp_l hm] at this
      exact this) l b1
    exact vOk_up (pDr_ok hu q1 a1) (u1_R (wOk_1 hl1.1.1 (hl1.1.2.1.1 rfl)).1 (fun j hj => (oOn_b (n := 48) (hu.1 (12 + g - 1)).1 (by decide) j hj).1)) (Or.inl rfl) (Or.inl (by omega))
  rw [if_neg c32] at hp
  have arr : ∀ (_ : Unit) (r : Nat), (decide (t r = 2) || tAr (t r)) = true → (u r).1 = 2 → ∀ v', pDr u r = some v' → tAr (t r) = true ∧ ∀ s, s < 54 → (u r).2.2.1 s = true → sVd z s = true ∧ tLe us (sTp z s) (t r) = true := by
    intro _ r hr hk v' hv'
    have h2t : 2 ≤ t r := tAr_2 hr
    have hall : ∀ s, s < 54 → (u r).2.2.1 s = true → sVd z s = true ∧ tLe us (sTp z s) (t r) = true := by
      intro s hs1 hs2
      have := ((hu.2.2.1 r).2 h2t).2 s hs2
      have := this.resolve_left (by omega)
      unfold pB at this
      rw [Bool.and_eq_true] at this
      exact this
    refine ⟨?_, hall⟩
    unfold pDr at hv'
    split at hv'
    · rename_i hx'
      obtain ⟨s, s1, s2⟩ := sEx_iff.mp hx'
      unfold sAnd sAl at s2
      rw [Bool.and_eq_true] at s2
      have s3 := of_decide_eq_true s2.2
      obtain ⟨f1, f2⟩ := hall s s3 s2.1
      have f3 := hs s f1
      rw [Bool.or_eq_true] at hr
      rcases hr with w | w
      · have := of_decide_eq_true w
        rw [this] at f2
        rcases tLe_nz f2 (by decide) with q | q <;> omega
      · exact w
    · cases hv'
  by_cases c33 : x.1 = 33
  · rw [if_pos c33] at hp
    obtain ⟨e1, e2⟩ := lk 33 c33 (by decide)
    rw [L33.1] at e1; rw [L33.2] at e2
    obtain ⟨q1, q2, q3⟩ := k33 c33
    obtain ⟨a, a1, a2⟩ := oB_some hp
    obtain ⟨c, b1, b2⟩ := oB_some a2
    obtain ⟨l, d1, d2⟩ := oB_some b2
    cases d2
    have hh : (decide (t (12 + g - 2) = 2) || tAr (t (12 + g - 2))) = true := by
      rw [tHo_2 ⟨by omega, by omega, by omega, by omega⟩ e2, Bool.and_eq_true, c33] at ho
      exact ho.1
    obtain ⟨f1, f2⟩ := arr () (12 + g - 2) hh q2 a a1
    have hne2 : t (12 + g - 2) ≠ 2 := by
      intro w
      rw [w] at f1
      cases f1
    have hel := tEl_nz f1
    refine ⟨_, tPf_1 (low := 12 + g - 2) (s := tEl (t (12 + g - 2))) ⟨by omega, by omega, by omega⟩ e1 (by omega) (by unfold tLf; rw [if_neg (by omega), if_neg (by omega), if_neg (by omega), if_pos c33, if_neg hne2, if_pos f1]) (by omega), ?_⟩
    have hva := pDr_ok hu q2 a1
    obtain ⟨p1, p2, p3⟩ := pDr_at hu.2.1 a1
    have hvc := pIx_ok hT hva (x := 12 + g - 1) (by rw [p3]; exact q1) b1
    have vel : tV us (tEl (t (12 + g - 2))) := by
      have := ht (12 + g - 2)
      unfold tEl
      unfold tV at this ⊢
      split
      · omega
      · unfold tAr at f1
        rename_i hn3
        simp [hn3] at f1
        omega
    have hl1 := fJ_v (t := tEl (t (12 + g - 2))) (by omega) 54 (fun m w hm hsm hw => by
      obtain ⟨z1, z2⟩ := f2 m hm hsm
      obtain ⟨z3, z4⟩ := tEl_le huO h32' z2 f1 (hs m z1).2
      obtain ⟨-, ⟨y1, y2, y3⟩, y4, y5, y6⟩ := hσ.1 _ w hw
      rw [zTp_e hm] at y2
      exact ⟨⟨y1, wTy_le huO h32' hs vel z3 y2, y3⟩, y4, y5, y6⟩) l d1
    exact vOk_up hvc hl1.1 (Or.inl hl1.2.1) (Or.inl (by omega))
  rw [if_neg c33] at hp
  by_cases c34 : x.1 = 34
  · rw [if_pos c34] at hp
    obtain ⟨q0, q1, q2, q3⟩ := k34 c34
    obtain ⟨a, a1, a2⟩ := oB_some hp
    obtain ⟨c, b1, b2⟩ := oB_some a2
    refine ⟨t, tPf_0 ⟨by omega, by omega, by omega⟩ (by rw [(lk 34 c34 (by decide)).1]; exact L34), ?_⟩
    have hva := pDr_ok hu q2 a1
    obtain ⟨p1, p2, p3⟩ := pDr_at hu.2.1 a1
    have hvc := pIx_ok hT hva (x := 12 + g - 2) (by rw [p3]; exact q1) b1
    split at b2
    · cases b2; exact hvc
    · cases b2
  rw [if_neg c34] at hp
  by_cases c35 : x.1 = 35
  · rw [if_pos c35] at hp
    obtain ⟨e1, e2⟩ := lk 35 c35 (by decide)
    rw [L35.1] at e1; rw [L35.2] at e2
    obtain ⟨q1, q2⟩ := kr (by omega)
    obtain ⟨a, a1, a2⟩ := oB_some hp
    obtain ⟨l, b1, b2⟩ := oB_some a2
    cases b2
    obtain ⟨f, c, y, w1, w2, w3, w4, w5, w6, w7, w8⟩ := tFty_v h hcw (Or.inl c35)
    refine ⟨_, tPf_1 (low := 12 + g - 1) (s := tFty fl x) ⟨by omega, by omega, by omega⟩ e1 (by omega) (by unfold tLf; rw [if_neg (by omega), if_neg (by omega), if_neg (by omega), if_neg (by omega), if_pos c35, w1, Int.toNat_natCast, w2]; exact w6.symm) (by omega), ?_⟩
    have hl1 := fJ_v (t := tFty fl x) (by omega) 54 (fun m w hm _ hw => by
      have := (hσ.1 _ w hw).2
      rw [w1, Int.toNat_natCast, zTp_f hm w2 hfl48, ← w6] at this
      exact this) l b1
    exact vOk_up (pDr_ok hu q1 a1) hl1.1 (Or.inl hl1.2.1) (Or.inl (by omega))
  rw [if_neg c35] at hp
  by_cases c36 : x.1 = 36
  · rw [if_pos c36] at hp
    exact ⟨t, tPf_0 ⟨by omega, by omega, by omega⟩ (by rw [(lk 36 c36 (by decide)).1]; exact L36), pDr_ok hu (k36 c36).2.1 hp⟩
  rw [if_neg c36] at hp
  by_cases c37 : x.1 = 37
  · rw [if_pos c37] at hp
    obtain ⟨e1, e2⟩ := lk 37 c37 (by decide)
    rw [L37.1] at e1; rw [L37.2] at e2
    obtain ⟨q1, q2⟩ := kr (by omega)
    have htk := tOk_V (us := us) (hcw.2.2.2.2.1 (Or.inr (by rw [c37]; exact fK_ty.2.2.1))).1 hl
    have h2x : 2 ≤ x.2.1 ∨ x.2.1 = 1 := by omega
    split at hp
    · rename_i hx'
      obtain ⟨j, -, hj⟩ := sEx_iff.mp hx'
      refine ⟨_, tPf_1 (low := 12 + g - 1) (s := x.2.1) ⟨by omega, by omega, by omega⟩ e1 (by omega) (by unfold tLf; rw [if_neg (by omega), if_neg (by omega), if_neg (by omega), if_neg (by omega), if_neg (by omega), if_pos c37]) (by omega), ?_⟩
      have hsub := u1_sub (vOk_1 hu (12 + g - 1)) q1 (sAnd_l (u (12 + g - 1)).2.2.1 (sOr (pB us z x.2.1) (onS 62))) ⟨j, hj⟩
      have hne1 : x.2.1 ≠ 1 := hca c37
      have hv1 : vOk F us z xb.lc.toNat (tUp t (12 + g - 1) x.2.1) (qUp u (12 + g - 1) (wSt (u (12 + g - 1)) (sAnd (u (12 + g - 1)).2.2.1 (sOr (pB us z x.2.1) (onS 62))))) := by
        refine vOk_up hu ⟨hsub.1, ⟨fun w => absurd w hne1, fun _ => ⟨q1, fun s hs' => ?_⟩⟩, hsub.2.2⟩ ?_ (Or.inl (by omega))
        · have hs' : ((u (12 + g - 1)).2.2.1 s && (pB us z x.2.1 s || onS 62 s)) = true := hs'
          rw [Bool.and_eq_true, Bool.or_eq_true] at hs'
          rcases hs'.2 with w | w
          · exact Or.inr w
          · exact Or.inl (onS_eq w)
        · show (u (12 + g - 1)).2.2.2.1 = none ∨ _
          cases hcp : (u (12 + g - 1)).2.2.2.1 with
          | none => exact Or.inl rfl
          | some c =>
            obtain ⟨a1, a2, a3, a4, a5⟩ := hu.2.1 _ c hcp
            exact Or.inr ⟨by omega, c, hcp, a1, a2, a3, a4⟩
      exact qKp_ok hv1 (by rw [qUp_at]; exact q1) hp
    · cases hp
  rw [if_neg c37] at hp
  by_cases c38 : x.1 = 38
  · rw [if_pos c38] at hp
    cases hp
    obtain ⟨e1, e2⟩ := lk 38 c38 (by decide)
    rw [L38.1] at e1; rw [L38.2] at e2
    obtain ⟨q1, q2⟩ := kr (by omega)
    refine ⟨_, tPf_1 (low := 12 + g - 1) ⟨by omega, by omega, by omega⟩ e1 (by omega) (tl1 _ (by omega) (by omega) (by omega) (by omega) (by omega) (by omega) (by omega)) (by decide), ?_⟩
    refine vOk_up hu (u1_R0 ⟨?_, ?_, ?_⟩) (Or.inl rfl) (Or.inl (by omega))
    · dsimp only
      split
      · exact hT.2.2.2.1
      · exact hT.2.2.2.2.1
    · dsimp only
      split
      · exact hT.2.2.2.2.1
      · exact hT.2.2.2.1
    · dsimp only
      obtain ⟨-, ⟨j, hj⟩, hjb⟩ := wOk_2 (hu.1 (12 + g - 1)) q1
      have hj63 : j < 63 := by have := hjb j hj; omega
      cases hpb : pB us z x.2.1 j with
      | true =>
        have : sEx (sAnd (u (12 + g - 1)).2.2.1 (pB us z x.2.1)) = true := sEx_iff.mpr ⟨j, hj63, by unfold sAnd; rw [hj, hpb]; rfl⟩
        rw [if_pos this]
        split <;> decide
      | false =>
        have : sEx (sMi (u (12 + g - 1)).2.2.1 (pB us z x.2.1)) = true := sEx_iff.mpr ⟨j, hj63, by unfold sMi; rw [hj, hpb]; rfl⟩
        rw [if_pos this]
        split <;> decide
  rw [if_neg c38] at hp
  by_cases c39 : x.1 = 39 ∨ x.1 = 40
  · rw [if_pos c39] at hp
    obtain ⟨a, a1, a2⟩ := oB_some hp
    obtain ⟨kc1, kc2⟩ := kc c39
    have hva : vOk F us z xb.lc.toNat t a := by
      by_cases c : x.1 = 40
      · rw [if_pos c] at a1
        exact pDr_ok hu (k40 c).1 a1
      · rw [if_neg c] at a1; cases a1; exact hu
    split at a2
    · obtain ⟨f, c, y, w1, w2, -⟩ := hcw.2.2.2.2.2.2.1 c39
      have elv : lvX bl x = if y.rs = -1 then 0 else 1 := by
        unfold lvX
        rw [if_pos c39, w1, Int.toNat_natCast, w2]
      by_cases c0' : lvX bl x = 0
      · have a2 : (if lvX bl x = 0 then some a else oB (pRt σ (pMt us bl z x u (12 + g - tkX bl x))) fun l => some (qUp a (12 + g - tkX bl x) l)) = some v := a2
        rw [if_pos c0'] at a2
        cases a2
        exact ⟨t, tPf_0 ⟨by omega, by omega, by omega⟩ c0', hva⟩
      · have a2 : (if lvX bl x = 0 then some a else oB (pRt σ (pMt us bl z x u (12 + g - tkX bl x))) fun l => some (qUp a (12 + g - tkX bl x) l)) = some v := a2
        rw [if_neg c0'] at a2
        obtain ⟨l, d1, d2⟩ := oB_some a2
        cases d2
        have hrs : y.rs ≠ -1 := fun w => c0' (by rw [elv, if_pos w])
        have hty := (tOk_V ((tb y (List.mem_of_getElem? w2)).2.resolve_left hrs) hl)
        refine ⟨_, tPf_1 (low := 12 + g - tkX bl x) (s := y.rs) ⟨by omega, by omega, by omega⟩ (by rw [elv, if_neg hrs]) rfl (by unfold tLf; rw [if_neg (by omega), if_neg (by omega), if_neg (by omega), if_neg (by omega), if_neg (by omega), if_neg (by omega), if_pos c39, w1, Int.toNat_natCast, w2]) (by omega), ?_⟩
        have hto : x.1 = 40 → wTy us z (t (12 + g - tkX bl x)) (u (12 + g - tkX bl x)) ∧ tLe us (t (12 + g - tkX bl x)) (4 + 2 * x.2.2.1) = true := by
          intro c
          refine ⟨hu.2.2.1 _, ?_⟩
          have hk1 := (k40 c).2
          unfold tHo at ho
          rw [if_neg (by omega), if_neg (by omega), if_neg (by omega), if_pos c39] at ho
          have b1 := allR_at _ _ ho 0 (by omega) (by omega)
          have et : tTold bl x 0 = 4 + 2 * x.2.2.1 := by unfold tTold; rw [if_pos ⟨rfl, c⟩]
          rw [et, Nat.add_zero] at b1
          exact b1
        have hl1 := fJ_v (F := F) (us := us) (z := z) (t := y.rs) (by omega) 48 (fun m w hm hsm hw => by
          obtain ⟨f', y1, ym, v1, v2, v3, v4, -⟩ := pMt_y hov h32' h hs hcw c39 hto hsm
          have ef : f' = f := by rw [w1] at v1; omega
          rw [ef, w2] at v2
          cases v2
          split at hw
          · have y2 := (hσ.1 _ w hw).2
            rw [zTp_r v3, v4] at y2
            exact y2
          · cases hw) l d1
        exact vOk_up hva hl1.1 (Or.inl hl1.2.1) (Or.inl (by omega))
    · cases a2
  rw [if_neg c39] at hp
  by_cases c44 : x.1 = 44
  · rw [if_pos c44] at hp
    cases hp
    obtain ⟨e1, e2⟩ := lk 44 c44 (by decide)
    rw [L44.1] at e1; rw [L44.2] at e2
    refine ⟨_, tPf_1 (low := 12 + g) ⟨by omega, by omega, by omega⟩ e1 (by omega) (tl1 _ (by omega) (by omega) (by omega) (by omega) (by omega) (by omega) (by omega)) (by decide), ?_⟩
    exact vOk_up hu (u1_R0 (rAll_ok hT)) (Or.inl rfl) (Or.inl (by omega))
  rw [if_neg c44] at hp; cases hp
end PGL
