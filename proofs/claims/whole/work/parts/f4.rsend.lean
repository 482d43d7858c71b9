/-! The reference sends: what a receiver means. -/
section RSA
variable {ns : List (List Int)} {us : List Int} {fl : List (List Int × Nat × Int)} {bl : List jB} {z : jL} {el : List (Nat × Nat × Nat × Nat)} {F : Int → Prop} {dn up : Int → Int} {H lc : Nat → Nat} {ty : Nat → Option (Nat → Int)} {th : Nat → Int} {n P m0 : Nat} {σ : jG} {i : Nat} {x : jC} {u : jQ} {S : nk_S}
theorem rsd_at (hk : rKx F th n dn up ns us fl bl z el H lc ty P) (hx : z.1[i]? = some x) {t : Nat → Int} {xb : jB} {e : Nat × Nat × Nat × Nat} (hp : pAf ns us fl bl z el H lc i x t xb e) (hu : vOk F us z (lc i) t u) (hd : pKd bl x (H i) u) (ho : x.1 = 40) {f c : Nat} {y : jB} (q1 : x.2.1 = (f : Int)) (q2 : bl[f]? = some y) (q3 : y.me = true) (q4 : x.2.2.1 = (c : Int)) (q5 : 8 ≤ c) (q6 : c < us.length) {s : Nat} (hs : s < 54) (h : (u (12 + H i - tkX bl x)).2.2.1 s = true) : ∃ (b : Nat) (y' : jB), rnS us bl (cl (sTp z s)) y = (b : Int) ∧ bdL us (cl (sTp z s)) y.nm bl 0 (-1) = (b : Int) ∧ bl[b]? = some y' ∧ y'.ps.length = y.ps.length ∧ y'.rs = y.rs ∧ (∀ k, 1 ≤ k → y'.ps.getD k 0 = y.ps.getD k 0) ∧ vl1 F us z (y'.ps.getD 0 0) (wS (onS s)) ∧ cl (sTp z s) < 32 ∧ rvU (sTp z s) = ((8 + cl (sTp z s) : Nat) : Int) ∧ sVd z s = true ∧ cl (sTp z s) < us.length := by
  obtain ⟨⟨p1, p2, p3, p4, p5, p6⟩, ⟨c1, c2, c3⟩, -, -, -, ⟨d1, d2⟩, ⟨l1, l2, l3, l4, l5⟩, -⟩ := hp
  obtain ⟨hT, hso, hov, huO, h32, hh8, hz48, hin, hbd, hop⟩ := id hk.2.1
  obtain ⟨k3, k4⟩ := hd.2.2.2.2.2.2.2.2.2.2.1 ho
  have tk1 := (hop i x hx).2.2.1 ho
  unfold tHo at d1
  rw [if_neg (by omega), if_neg (by omega), if_neg (by omega), if_pos (Or.inr ho)] at d1
  have b0 := allR_at _ _ d1 0 (by omega) (by omega)
  have et : tTold bl x 0 = 4 + 2 * x.2.2.1 := by unfold tTold; rw [if_pos ⟨rfl, ho⟩]
  rw [et, Nat.add_zero, q4] at b0
  have h2t : 2 ≤ t (12 + H i - tkX bl x) := by rcases tLe_nz b0 (by omega) with r | r <;> omega
  have hsb : pB us z (t (12 + H i - tkX bl x)) s = true := ((hu.2.2.1 (12 + H i - tkX bl x)).2 h2t).2 s h |>.resolve_left (by omega)
  have hsb' := hsb
  unfold pB at hsb'
  rw [Bool.and_eq_true] at hsb'
  have hsv := hso s hsb'.1
  have htr := tLe_trans huO h32 hsv.1 (show tV us (4 + 2 * (c : Int)) by unfold tV; omega) hsb'.2 b0
  have hcl : cl (sTp z s) < us.length := by
    have h1' := hsv.1
    have h3' := hsv.2
    unfold tV at h1'
    unfold cl
    omega
  have ecl : cl (4 + 2 * (c : Int)) = c := by unfold cl; omega
  have hev : sTp z s % 2 = 0 ∧ anc us (cl (sTp z s)) c = true := by
    have h3' := hsv.2
    rcases (tLe_iff _ _).mp htr with q | q | ⟨g1, g2, q | q | ⟨g3, g4, g5, g6⟩⟩
    · refine ⟨by omega, ?_⟩
      have e1 : cl (sTp z s) = c := by rw [q]; exact ecl
      rw [e1]
      exact anc_self c
    · omega
    · omega
    · omega
    · rw [ecl] at g6
      exact ⟨by omega, g6⟩
  have hcw := p1.2.2.2.2.2.2.1 (Or.inr ho)
  obtain ⟨f', c', y1, w1, w2, w3, w4, w5, w6⟩ := hcw
  have ef : f' = f := by rw [q1] at w1; omega
  rw [ef, q2] at w2
  cases w2
  have ec : c' = c := by rw [q4] at w4; omega
  rw [ec] at w6
  have hay := anc_trans huO h32 us.length _ _ _ hcl hcl hev.2 w6
  obtain ⟨b, y', r1, r2, r3, r4, r5⟩ := bdL_ge (us := us) (c := cl (sTp z s)) bl 0 (-1) f y q2 ⟨rfl, hay⟩
  rw [Nat.zero_add] at r2
  have hrn : rnS us bl (cl (sTp z s)) y = (b : Int) := by unfold rnS; rw [if_pos hay]; exact r2
  obtain ⟨y2, v1, v2, v3, v4, v5, v6, v7⟩ := hov _ f b y hcl q2 q3 hrn
  clear r3
  have pk : ∀ k, 1 ≤ k → y2.ps.getD k 0 = y.ps.getD k 0 := by
    intro k hk
    have h1 : y2.ps.getD k 0 = (y2.ps.drop 1).getD (k - 1) 0 := by
      rw [List.getD_eq_getElem?_getD, List.getD_eq_getElem?_getD, List.getElem?_drop, show 1 + (k - 1) = k by omega]
    have h2 : y.ps.getD k 0 = (y.ps.drop 1).getD (k - 1) 0 := by
      rw [List.getD_eq_getElem?_getD, List.getD_eq_getElem?_getD, List.getElem?_drop, show 1 + (k - 1) = k by omega]
    rw [h1, h2, v5]
  have hp0 : y2.ps.getD 0 0 = 4 + 2 * (y2.ow : Int) := by rw [List.getD_eq_getElem?_getD, v7, Option.getD_some]
  refine ⟨b, y2, hrn, r2, v1, v3, v4, pk, ?_, by omega, ?_, hsb'.1, hcl⟩
  · rw [hp0]
    refine ⟨u1_S0 ⟨s, by show decide (s = s) = true; exact decide_eq_true rfl⟩ (fun j hj => Or.inr ?_) (sV_54 hz48) (by omega), rfl, rfl, (by show (2 : Nat) ≠ 0; decide)⟩
    have hj : j = s := of_decide_eq_true hj
    rw [hj]
    unfold pB
    rw [hsb'.1, Bool.true_and]
    exact tLe_cls huO (c := (c : Int)) (by omega) b0 hsb'.2 hsv.2 v6
  · have h3' := hsv.2
    unfold rvU
    rw [if_neg (by omega), if_neg (by omega), if_neg (by omega), if_neg (by omega), if_pos hev.1]
    unfold cl
    omega
end RSA
