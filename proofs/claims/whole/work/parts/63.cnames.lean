/-! Names of classes: the class's walk, all of it. -/
section CNB
variable {tx : List (List Int)} {c Q : Nat}
theorem w_n3 {a : Nat} (h : a < 100000) : nk_w ((a : Int) + 3) = ((a + 3 : Nat) : Int) := by
  rw [show (a : Int) + 3 = ((a + 3 : Nat) : Int) by omega]
  exact w_n0 (by omega)
theorem c_add {S : nk_S} (hQ : Q = 13 ∨ Q = 49) {n u : Nat} (hn : S.1 (Q + 1) 0 = (n : Int)) (h1 : n < 32) (h2 : u < n) : ∃ S', ja_X1_add (Q + 1) (u : Int) S = some ((n : Int), S') ∧ S'.2 = S.2 ∧ (∀ b, b ≠ Q + 1 → b ≠ Q + 2 → b ≠ Q + 3 → S'.1 b = S.1 b) ∧ (∀ i, i ≠ 0 → S'.1 (Q + 1) i = S.1 (Q + 1) i) ∧ S'.1 (Q + 1) 0 = ((n + 1 : Nat) : Int) ∧ (∀ j, S'.1 (Q + 2) j = if j = n then (u : Int) else S.1 (Q + 2) j) ∧ ∀ j, S'.1 (Q + 3) j = if j = n then nk_ior (S.1 (Q + 3) u) (nk_ishl 1 (n : Int)) else S.1 (Q + 3) j := by
  obtain ⟨-, j1, j2⟩ := jc_Q hQ
  obtain ⟨S3, hS3⟩ : ∃ S3, S3 = nk_wi S (Q + 2) n (u : Int) := ⟨_, rfl⟩
  have p3 : ∀ b, b ≠ Q + 2 → S3.1 b = S.1 b := fun b hb => by rw [hS3]; exact wi_n hb
  have n3 : S3.1 (Q + 1) 0 = (n : Int) := by rw [p3 (Q + 1) (by omega)]; exact hn
  obtain ⟨S8, hS8⟩ : ∃ S8, S8 = nk_wi S3 (Q + 3) n (nk_ior (S3.1 (Q + 3) u) (nk_ishl 1 (n : Int))) := ⟨_, rfl⟩
  have p8 : ∀ b, b ≠ Q + 3 → S8.1 b = S3.1 b := fun b hb => by rw [hS8]; exact wi_n hb
  have n8 : S8.1 (Q + 1) 0 = (n : Int) := by rw [p8 (Q + 1) (by omega)]; exact n3
  obtain ⟨S10, hS10⟩ : ∃ S10, S10 = nk_wi S8 (Q + 1) 0 ((n + 1 : Nat) : Int) := ⟨_, rfl⟩
  have p10 : ∀ b, b ≠ Q + 1 → S10.1 b = S8.1 b := fun b hb => by rw [hS10]; exact wi_n hb
  have n10 : S10.1 (Q + 1) 0 = ((n + 1 : Nat) : Int) := by rw [hS10]; simp only [wi_v, and_self, if_true]
  refine ⟨S10, ?_, by rw [hS10, hS8, hS3]; rfl, fun b x y z => by rw [p10 b x, p8 b z, p3 b y], fun i hi => ?_, n10, fun j => ?_, fun j => ?_⟩
  · unfold ja_X1_add
    rw [j1, j2, hn, if_pos (by omega), if_pos (in_i (N := 32) (by omega)), lt_eq, Int.toNat_natCast, ← hS3, if_pos (in_i (N := 32) (by omega)), n3, if_pos (in_i (N := 32) (by omega)), lt_eq, Int.toNat_natCast, Int.toNat_natCast, ← hS8, lt_eq, n8, w_nat1 (by omega), ← hS10, n10, show ((n + 1 : Nat) : Int) - 1 = (n : Int) by omega, w_n0 (by omega)]
  · rw [hS10]; simp only [wi_v, hi, and_false, if_false]; rw [p8 (Q + 1) (by omega), p3 (Q + 1) (by omega)]
  · rw [p10 (Q + 2) (by omega), p8 (Q + 2) (by omega), hS3]; simp only [wi_v, true_and]
  · rw [p10 (Q + 3) (by omega), hS8]; simp only [wi_v, true_and]; rw [p3 (Q + 3) (by omega)]
theorem c_setM {S : nk_S} (hC : CF S tx c) {w : Nat} (hw : w < c) (x y : Int) : ja_X10_setMeaning 2 (w : Int) x y S = some (0, nk_wi (nk_wi S 10 w x) 11 w y) := by
  obtain ⟨h1, h2, h3, -⟩ := hC
  unfold ja_X10_setMeaning
  rw [if_neg (by omega), h1, if_neg (by omega), if_pos (in_i (N := 12288) (by omega)), lt_eq, lt_eq, jc_2_13, jc_2_14, Int.toNat_natCast]
theorem c_clsL (hQ : Q = 13 ∨ Q = 49) : ∀ (d a m : Nat) (ns : List (List Int)) (us : List Int) (S : nk_S), CF S tx c → cC S Q c ns us → S.2 85 1 = Q → (fProg tx 20000 d a).1 = true → a ≤ tx.length → tx.length < a + m → ∃ S', ja_X6_walkClasses_L4 m 85 0 (a : Int) S = some (ccA (fCls tx d a ns us).1, S') ∧ CF S' tx c ∧ cC S' Q c (fCls tx d a ns us).2.1 (fCls tx d a ns us).2.2 ∧ ccF Q S S' := by
  obtain ⟨jq, -, -⟩ := jc_Q hQ
  have hQn : 2 ≠ Q + 1 ∧ 2 ≠ Q + 2 ∧ 2 ≠ Q + 3 ∧ 3 ≠ Q + 1 ∧ 3 ≠ Q + 2 ∧ 3 ≠ Q + 3 ∧ 4 ≠ Q + 1 ∧ 4 ≠ Q + 2 ∧ 4 ≠ Q + 3 ∧ 5 ≠ Q + 1 ∧ 5 ≠ Q + 2 ∧ 5 ≠ Q + 3 ∧ 6 ≠ Q + 1 ∧ 6 ≠ Q + 2 ∧ 6 ≠ Q + 3 ∧ 9 ≠ Q + 1 ∧ 9 ≠ Q + 2 ∧ 9 ≠ Q + 3 ∧ 10 ≠ Q + 1 ∧ 10 ≠ Q + 2 ∧ 10 ≠ Q + 3 ∧ 11 ≠ Q + 1 ∧ 11 ≠ Q + 2 ∧ 11 ≠ Q + 3 := by omega
  intro d
  induction d with
  | zero => intro a m ns us S hC hK h2 h; cases h
  | succ d ih =>
    intro a m ns us S hC hK h2 h ha hm
    obtain ⟨m, rfl⟩ : ∃ q, m = q + 1 := ⟨m - 1, by omega⟩
    have h4 := hC.2.2.2.1
    have hT := hC.2.2.2.2.1
    rw [fCls]
    show ∃ S', ja_X6_walkClasses_b4 (ja_X6_walkClasses_L4 m) 85 0 (a : Int) S = _ ∧ _
    unfold ja_X6_walkClasses_b4
    rw [jc_85_0, h4]
    have hid : ccF Q S S := ⟨rfl, fun _ _ _ _ _ _ => rfl, fun _ _ => rfl, fun _ => ⟨Or.inr rfl, Or.inr rfl⟩⟩
    by_cases q : tx.length ≤ a
    · rw [if_pos q, if_pos (show (tx.length : Int) ≤ (a : Int) by omega)]
      exact ⟨S, rfl, hC, hK, hid⟩
    · rw [if_neg q, if_neg (show ¬ (tx.length : Int) ≤ (a : Int) by omega)]
      obtain ⟨k1, k2, k3, k4, k5, k6, k7⟩ := cls_kind h (by omega)
      have hl4 := fW_T k5
      obtain ⟨w, w1, w2, w3, w4⟩ := c_tok2 hC k2
      obtain ⟨v, v1, v2, v3, v4⟩ := c_tok2 hC k4
      have i57 := cw_iff hC (w := 57) (by decide) a
      have i58 := cw_iff hC (w := 58) (by decide) a
      have hkn : kn tx a := kW 47 (by decide) k1
      have ha3 : a < 100000 := by omega
      have e1 : nk_w ((a : Int) + 1) = ((a + 1 : Nat) : Int) := w_nat1 (by omega)
      have e3 : nk_w ((a : Int) + 3) = ((a + 3 : Nat) : Int) := w_n3 ha3
      unfold ja_X6_walkClasses_b15
      rw [jc_85_0, c_at0 hC, bd_some, if_neg (fun e => by have := i57.mp e; rw [kn_no (Or.inl rfl) hkn] at this; cases this), if_neg (fun e => by have := i58.mp e; rw [kn_no (Or.inr rfl) hkn] at this; cases this), if_pos rfl, e1, e3, c_at0 hC, bd_some, c_at0 hC, bd_some, w2, v2, c_first hC v1, bd_some, c_first hC w1, bd_some, h2, jq]
      clear e1 e3
      obtain ⟨g1, g2, g3, g4, g5, g6, g7, g8⟩ := id hK
      rw [g8 w w1 w4, g8 v v1 v4, w3, v3, g1]
      by_cases q1 : 0 ≤ amx (tx.getD (a + 1) []) ns 0
      · rw [if_pos q1, if_pos (Or.inl q1)]
        exact ⟨S, rfl, hC, hK, hid⟩
      · rw [if_neg q1]
        by_cases q2 : 32 ≤ ns.length
        · rw [if_pos (Or.inr q2), if_neg (show ¬ (ns.length : Int) < 32 by omega)]
          exact ⟨S, rfl, hC, hK, hid⟩
        · rw [if_neg (show ¬ (0 ≤ amx (tx.getD (a + 1) []) ns 0 ∨ 32 ≤ ns.length) from fun e => e.elim q1 q2), if_pos (show (ns.length : Int) < 32 by omega)]
          by_cases q3 : amx (tx.getD (a + 3) []) ns 0 < 0
          · rw [if_pos q3, if_neg (by omega)]
            exact ⟨S, rfl, hC, hK, hid⟩
          · rw [if_neg q3, if_pos (show 0 ≤ amx (tx.getD (a + 3) []) ns 0 by omega)]
            have hrg := amx_rg (tx.getD (a + 3) []) ns 0
            obtain ⟨u, hu⟩ : ∃ u : Nat, amx (tx.getD (a + 3) []) ns 0 = (u : Int) := ⟨(amx (tx.getD (a + 3) []) ns 0).toNat, by omega⟩
            rw [hu] at hrg ⊢
            obtain ⟨S23, s1, s2, s3, s4, s5, s6, s7⟩ := c_add (S := S) hQ (n := ns.length) (u := u) g1 (by omega) (by omega)
            rw [s1, bd_some]
            obtain ⟨n1, n2, n3, n4, n5, n6, n7, n8, n9, n10, n11, n12, n13, n14, n15, n16, n17, n18, n19, n20, n21, n22, n23, n24⟩ := hQn
            have hC23 : CF S23 tx c := CF_c (s3 2 n1 n2 n3) (s3 3 n4 n5 n6) (s3 4 n7 n8 n9) (s3 5 n10 n11 n12) (s3 6 n13 n14 n15) (s3 9 n16 n17 n18) hC
            rw [c_setM hC23 w1, bd_some]
            obtain ⟨S26, hS26⟩ : ∃ S26, S26 = nk_wi (nk_wi S23 10 w (ns.length : Int)) 11 w (-1) := ⟨_, rfl⟩
            have p26 : ∀ b, b ≠ 10 → b ≠ 11 → S26.1 b = S23.1 b := fun b x y => by rw [hS26, wi_n y, wi_n x]
            have pall : ∀ b, b ≠ 10 → b ≠ 11 → b ≠ Q + 1 → b ≠ Q + 2 → b ≠ Q + 3 → S26.1 b = S.1 b := fun b x y z1 z2 z3 => by rw [p26 b x y, s3 b z1 z2 z3]
            have p10 : ∀ z, S26.1 10 z = if z = w then (ns.length : Int) else S.1 10 z := fun z => by
              rw [hS26, wi_n (by decide)]
              simp only [wi_v, true_and]
              rw [s3 10 n19 n20 n21]
            have p11 : ∀ z, S26.1 11 z = if z = w then -1 else S.1 11 z := fun z => by
              rw [hS26]
              simp +decide only [wi_v, true_and, false_and, if_false]
              rw [s3 11 n22 n23 n24]
            have hC26 : CF S26 tx c := CF_c (pall 2 (by decide) (by decide) n1 n2 n3) (pall 3 (by decide) (by decide) n4 n5 n6) (pall 4 (by decide) (by decide) n7 n8 n9) (pall 5 (by decide) (by decide) n10 n11 n12) (pall 6 (by decide) (by decide) n13 n14 n15) (pall 9 (by decide) (by decide) n16 n17 n18) hC
            have kw : ∀ z, wd S26 z = wd S z := fun z => wd_congr (pall 3 (by decide) (by decide) n4 n5 n6) (by rw [pall 5 (by decide) (by decide) n10 n11 n12]) (by rw [pall 6 (by decide) (by decide) n13 n14 n15])
            rw [← hS26, lt_eq, lt_eq, w_nat1 (by omega)]
            have hK26 : cC S26 Q c (ns ++ [tx.getD (a + 1) []]) (us ++ [(u : Int)]) := by
              refine ⟨?_, by simp only [List.length_append, List.length_cons, List.length_nil]; omega, by simp only [List.length_append, List.length_cons, List.length_nil]; omega, by simp only [List.length_append, List.length_cons, List.length_nil]; omega, fun j hj => ?_, ?_, fun j hj1 hj2 => ?_, fun z hz hz2 => ?_⟩
              · rw [p26 (Q + 1) (by omega) (by omega), s5]; simp only [List.length_append, List.length_cons, List.length_nil]
              · simp only [List.length_append, List.length_cons, List.length_nil] at hj
                rw [p26 (Q + 2) (by omega) (by omega), s6]
                by_cases e : j = ns.length
                · rw [if_pos e, e, ← g4, getD_end]
                · rw [if_neg e, getD_app _ _ _ _ (by omega)]; exact g5 j (by omega)
              · rw [p26 (Q + 3) (by omega) (by omega), s7, if_neg (by omega)]; exact g6
              · simp only [List.length_append, List.length_cons, List.length_nil] at hj2
                by_cases e : j = ns.length
                · refine ⟨u, by rw [e, ← g4, getD_end], by omega, ?_⟩
                  rw [p26 (Q + 3) (by omega) (by omega), s7, if_pos e, s7, if_neg (by omega), e]
                · obtain ⟨z, z1, z2, z3⟩ := g7 j hj1 (by omega)
                  refine ⟨z, by rw [getD_app _ _ _ _ (by omega)]; exact z1, z2, ?_⟩
                  rw [p26 (Q + 3) (by omega) (by omega), s7, if_neg e, s7, if_neg (by omega)]
                  exact z3
              · rw [kw] at hz2 ⊢
                rw [p10, amx_app ns _ 0 (by decide)]
                by_cases e : z = w
                · rw [if_pos e, e, w3, if_pos (by omega), amx, if_pos rfl]; omega
                · rw [if_neg e, g8 z hz hz2]
                  by_cases e2 : amx (wd S z) ns 0 < 0
                  · have hne : ¬ wd S z = tx.getD (a + 1) [] := fun e3 => e (hC.2.2.2.2.2.2.1 z w hz w1 (by rw [e3, w3]))
                    have hr := amx_rg (wd S z) ns 0
                    rw [if_pos e2, amx, if_neg hne, amx]
                    omega
                  · rw [if_neg e2]
            have hE := fMembers_ok k6
            obtain ⟨m2, hm2⟩ : ∃ m2, m = m2 + ((fMembers tx 20000 20000 (a + 5)).2 - (a + 5)) + 1 := ⟨m - 1 - ((fMembers tx 20000 20000 (a + 5)).2 - (a + 5)), by omega⟩
            obtain ⟨S', i1, i2, i3, i4⟩ := ih (fMembers tx 20000 20000 (a + 5)).2 m2 _ _ S26 hC26 hK26 (by rw [hS26]; show S23.2 85 1 = Q; rw [s2]; exact h2) k7 hE.2 (by omega)
            refine ⟨S', ?_, i2, i3, ?_⟩
            · rw [hm2]
              show ja_X6_walkClasses_b4 (ja_X6_walkClasses_L4 (m2 + ((fMembers tx 20000 20000 (a + 5)).2 - (a + 5)))) 85 ((0 : Nat) : Int) ((a + 4 : Nat) : Int) S26 = _
              rw [wk_o hC26 (by decide) k5]
              exact (wk_mems hC26 20000 (a + 5) m2 k6).trans i1
            · obtain ⟨f1, f2, f3, f4⟩ := i4
              refine ⟨by rw [f1, hS26]; exact s2, fun b x y z1 z2 z3 => by rw [f2 b x y z1 z2 z3, pall b x y z1 z2 z3], fun i hi => by rw [f3 i hi, p26 (Q + 1) (by omega) (by omega), s4 i hi], fun z => ?_⟩
              by_cases e : shp (wd S z) = 2
              · exact ⟨Or.inl e, Or.inl e⟩
              · have hzw : ¬ z = w := fun e2 => e (by rw [e2]; exact w4)
                obtain ⟨t1, t2⟩ := f4 z
                rw [kw] at t1 t2
                exact ⟨Or.inr ((t1.resolve_left e).trans (by rw [p10, if_neg hzw])), Or.inr ((t2.resolve_left e).trans (by rw [p11, if_neg hzw]))⟩
end CNB
