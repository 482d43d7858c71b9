/-! The class's rounds: they end. -/
def wCt (W : Nat → Bool) : Nat := sm (fun i => if W i = true then 1 else 0) 1024
/-- how often it can still be looked -/
def pPo (th : Nat → Int) (n : Nat) (A : jA) (W : Nat → Bool) (σ : jG) (C : jH) (m : Nat) : Prop := ∃ c, c ≤ 1 ∧ (c = 0 → jH0 C) ∧ 2050 * (aMs th n A + gMs th n σ) + 1025 * c + wCt W ≤ m
theorem wCt_b (W : Nat → Bool) : wCt W ≤ 1024 := sm_1 (fun i => by split <;> omega) 1024
theorem wCt_t {W : Nat → Bool} {i : Nat} (hi : i < 1024) (hw : W i = true) : wCt (fun k => if k = i then false else W k) + 1 ≤ wCt W := by
  unfold wCt
  refine sm_lt (fun k => ?_) (k := i) ?_ 1024 hi
  · by_cases e : k = i
    · simp [e]
    · simp [e]
  · simp [hw]
section CPR
variable {ns : List (List Int)} {us : List Int} {fl : List (List Int × Nat × Int)} {bl : List jB} {z : jL} {el : List (Nat × Nat × Nat × Nat)} {F : Int → Prop} {dn up : Int → Int} {H lc : Nat → Nat} {ty : Nat → Option (Nat → Int)} {th : Nat → Int} {n Q m0 : Nat}
theorem pPo_look {A A' : jA} {W W' : Nat → Bool} {σ σ' : jG} {C C' : jH} {m : Nat} (ha : aCh th n A W A' W') (hg : gCg th n σ σ' C C') (h : pPo th n A W σ C m) : pPo th n A' W' σ' C' m := by
  obtain ⟨c, c1, c2, c3⟩ := h
  have h1 := wCt_b W'
  have h2 := wCt_b W
  rcases ha.2.2.2.2 with ⟨a1, a2⟩ | a1
  · rcases hg.2.2.2.2 with ⟨g1, g2⟩ | g1
    · rw [a1, a2, g1, g2]; exact ⟨c, c1, c2, c3⟩
    · refine ⟨1, by omega, fun q => by omega, ?_⟩
      rw [a1, a2]
      omega
  · rcases hg.2.2.2.2 with ⟨g1, g2⟩ | g1
    · refine ⟨c, c1, fun q => by rw [g2]; exact c2 q, ?_⟩
      rw [g1]
      omega
    · exact ⟨1, by omega, (fun q => by omega), by omega⟩
/-- all is done: the class's rounds have ended -/
def prE (F : Int → Prop) (dn up : Int → Int) (ns : List (List Int)) (us : List Int) (fl : List (List Int × Nat × Int)) (bl : List jB) (z : jL) (el : List (Nat × Nat × Nat × Nat)) (H lc : Nat → Nat) (ty : Nat → Option (Nat → Int)) (m0 Q : Nat) (S : nk_S) : Prop := ∃ A W σ C, lkI F dn up ns us fl bl z el H lc ty m0 Q S A W σ C ∧ jH0 C ∧ (∀ i, i < 1024 → W i = false) ∧ (∀ i x, z.1[i]? = some x → (A i = none → S.1 107 i = 0 ∧ S.1 108 i = 0) ∧ ∀ u, A i = some u → lkD (dn, up, (ns, us, fl, bl, z, el), H) lc S A σ i x u) ∧ (S.1 100 6 = 0 ∧ S.1 100 7 = 0 ∧ S.1 100 8 = 0)
/-- what the rounds leave as it was -/
def pFr (S S' : nk_S) : Prop := S'.2 = S.2 ∧ ∀ a, a < 92 ∨ 109 ≤ a → S'.1 a = S.1 a
theorem pFr_trans {S1 S2 S3 : nk_S} (h : pFr S1 S2) (k : pFr S2 S3) : pFr S1 S3 := ⟨k.1.trans h.1, fun a q => (k.2 a q).trans (h.2 a q)⟩
theorem lkI_97 (hQ : Q = 13 ∨ Q = 49) {S S' : nk_S} {A : jA} {W W' : Nat → Bool} {σ : jG} {C : jH} (h2 : S'.2 = S.2) (hf : ∀ a, a ≠ 97 → S'.1 a = S.1 a) (hw : cWt S' W') (h : lkI F dn up ns us fl bl z el H lc ty m0 Q S A W σ C) : lkI F dn up ns us fl bl z el H lc ty m0 Q S' A W' σ C := by
  obtain ⟨i1, i2, i3, i4, i5, i6⟩ := h
  have fr : mFr S S' := ⟨h2, fun a ha => hf a (by omega)⟩
  exact ⟨cPv_m hQ fr i1, cFy_m fr i2, ⟨fun i' hi' => by rw [hf 96 (by decide)]; exact i3.1 i' hi', fun i' u' hu' k' hk' => by rw [hf 94 (by decide), hf 95 (by decide)]; exact i3.2 i' u' hu' k' hk'⟩, hw, cGm_1 (fun c _ _ => hf c (by omega)) i5, i6⟩
theorem prJ_97 {G : jZ} {S S' : nk_S} {A : jA} {W W' : Nat → Bool} {σ : jG} {C : jH} {j : Nat} (h7 : S'.1 107 = S.1 107) (h8 : S'.1 108 = S.1 108) (hw : W j = true → W' j = true) (h : prJ G lc S A W σ C j) : prJ G lc S' A W' σ C j := fun x hx => by
  obtain ⟨q1, q2⟩ := h x hx
  unfold lkD at q2
  unfold lkD
  rw [h7, h8]
  refine ⟨q1, fun u hu => ?_⟩
  rcases q2 u hu with r | r | r
  · exact Or.inl (hw r)
  · exact Or.inr (Or.inl r)
  · exact Or.inr (Or.inr r)
theorem c_prL (hk : kX F th n dn up ns us fl bl z el H lc ty Q) (hfw : ∀ (f : Nat) (y : List Int × Nat × Int), fl[f]? = some y → 8 ≤ y.2.1 ∧ y.2.1 < 32) : ∀ (m : Nat) (S : nk_S) (A : jA) (W : Nat → Bool) (σ : jG) (C : jH) (i : Nat) (x : jC) (u : jQ) (l k : Nat), lkI F dn up ns us fl bl z el H lc ty m0 Q S A W σ C → z.1[i]? = some x → A i = some u → (∀ j, j ≠ i → prJ (dn, up, (ns, us, fl, bl, z, el), H) lc S A W σ C j) → (∀ j, W j = true → A j ≠ none) → pPo th n A W σ C m → l + m + 2 ≤ 1099511627776 → ∃ S', ja_X4_prove_L103 (k + m + 2) 92 (i : Int) (l : Int) S = some (0, S') ∧ pFr S S' ∧ prE F dn up ns us fl bl z el H lc ty m0 Q S' := by
  have hz1 := hk.2.2.2.2.1
  intro m
  induction m with
  | zero => ?_
  | succ m ih => ?_
  all_goals
    intro S A W σ C i x u l k hI hx hu hall hW hP hl
    obtain ⟨S1, s1, s2⟩ := c_look hk hfw hI hx hu
    have fr1 : pFr S S1 := by obtain ⟨_, _, _, _, ⟨f1, f2, -⟩, -⟩ := s2; exact ⟨f1, f2⟩
    obtain ⟨A1, W1, σ1, C1, a1, a2, a3, a4, a5⟩ := pr_look hk hI hx hu hall hW s2
    have hP1 := pPo_look a4 a5 hP
    have hi : i < z.1.length := at_lt hx
    have e1 : ∀ _ : Unit, nk_w ((i : Int) + 1) = ((i + 1 : Nat) : Int) := fun _ => w_nat1 (by omega)
    have eW : ∀ _ : Unit, nk_W ((l : Int) + 1) = ((l + 1 : Nat) : Int) := fun _ => by
      rw [W_id (by unfold lR; omega)]; omega
    have inA : ∀ j, A1 j ≠ none → ∃ x u, z.1[j]? = some x ∧ A1 j = some u := fun j q => by
      cases hq : A1 j with
      | none => exact absurd hq q
      | some v =>
        obtain ⟨x', t', h1, -⟩ := a1.2.2.2.2.2.1.1 j v hq
        exact ⟨x', v, h1, rfl⟩
    have tk1 := c_take a1.2.2.2.1 (f := i + 1) (by omega)
  · -- no looks are left: nothing waits
    have noW : ∀ j, j < 1024 → W1 j = false := fun j hj => by
      cases hq : W1 j with
      | false => rfl
      | true =>
        obtain ⟨c, c1, c2, c3⟩ := hP1
        have := wCt_t hj hq
        omega
    have t1 : ja_X7_takeWaiting 93 ((i + 1 : Nat) : Int) S1 = some (-1, S1) := by
      rcases tk1 with ⟨-, q⟩ | ⟨j, S', q1, q2, q3, -⟩
      · exact q
      · rw [noW j q2] at q3; cases q3
    obtain ⟨S2, W2, C2, b1, b2, b3, b4, b5, b6, b7, b8, b9, b10⟩ := c_wakeU hk a1
    have hCe : jH0 C1 := by
      obtain ⟨c, c1, c2, c3⟩ := hP1
      exact c2 (by omega)
    obtain ⟨w1, w2⟩ := b9.resolve_right (fun q => q hCe)
    subst w1
    subst w2
    have tk2 := c_take b4.2.2.2.1 (f := 0) (by omega)
    have t2 : ja_X7_takeWaiting 93 0 S2 = some (-1, S2) := by
      rcases tk2 with ⟨-, q⟩ | ⟨j, S', q1, q2, q3, -⟩
      · exact q
      · rw [noW j q2] at q3; cases q3
    refine ⟨S2, ?_, pFr_trans fr1 ⟨b2, fun a ha => b3 a (by omega) (by omega)⟩, A1, W2, σ1, C2, b4, hCe, noW, fun j y hy => ?_, b10⟩
    · show ja_X4_prove_b103 (ja_X4_prove_L103 (k + 0 + 1)) 92 (i : Int) (l : Int) S = _
      unfold ja_X4_prove_b103
      rw [if_neg (by omega), if_neg (by omega), s1, bd_some, jc_92_2, e1 (), t1, bd_some, if_neg (by decide), b1, bd_some, t2, bd_some]
      unfold ja_X4_prove_b149
      rw [eW (), lt_eq]
      show ja_X4_prove_b103 (ja_X4_prove_L103 (k + 0)) 92 (-1) ((l + 1 : Nat) : Int) S2 = _
      unfold ja_X4_prove_b103
      rw [if_neg (by omega), if_pos (by decide)]
    · obtain ⟨q1, q2⟩ := prJ_97 (W' := W2) (b3 107 (by decide) (by decide)) (b3 108 (by decide) (by decide)) (fun q => q) (a2 j) y hy
      refine ⟨q1, fun v hv => ?_⟩
      rcases q2 v hv with r | r | r
      · rw [noW j (by have := at_lt hy; have : z.1.length = (zZ (dn, up, (ns, us, fl, bl, z, el), H)).1.length := rfl; omega)] at r; cases r
      · have hy' : z.1[j]? = some y := hy
        have r' : uCh bl C2 y (H j) v (pSu us bl y) = true := r
        rw [uCh_0 hCe (fun q => ((snd_at hk a1 hy' hv).1 q).2)] at r'
        cases r'
      · exact r
  · -- the next
    have next : ∀ (S2 : nk_S) (W2 : Nat → Bool) (C2 : jH) (j : Nat) (S3 : nk_S), pFr S S2 → lkI F dn up ns us fl bl z el H lc ty m0 Q S2 A1 W2 σ1 C2 → (∀ j, prJ (dn, up, (ns, us, fl, bl, z, el), H) lc S2 A1 W2 σ1 C2 j) → (∀ j, W2 j = true → A1 j ≠ none) → pPo th n A1 W2 σ1 C2 (m + 1) → j < 1024 → W2 j = true → S3.2 = S2.2 → (∀ a, a ≠ 97 → S3.1 a = S2.1 a) → cWt S3 (fun k => if k = j then false else W2 k) → ∃ S', ja_X4_prove_b149 (ja_X4_prove_L103 (k + (m + 1) + 1)) 92 (j : Int) (l : Int) S3 = some (0, S') ∧ pFr S S' ∧ prE F dn up ns us fl bl z el H lc ty m0 Q S' := by
      intro S2 W2 C2 j S3 f2 h1 h2 h3 h4 hj hw g1 g2 g3
      obtain ⟨x', u', q1, q2⟩ := inA j (h3 j hw)
      have hP3 : pPo th n A1 (fun k => if k = j then false else W2 k) σ1 C2 m := by
        obtain ⟨c, c1, c2, c3⟩ := h4
        have := wCt_t hj hw
        exact ⟨c, c1, c2, by omega⟩
      obtain ⟨S', r1, r2, r3⟩ := ih S3 A1 (fun k => if k = j then false else W2 k) σ1 C2 j x' u' (l + 1) k (lkI_97 hk.1 g1 g2 g3 h1) q1 q2 (fun j' hj' => prJ_97 (g2 107 (by decide)) (g2 108 (by decide)) (fun q => by rw [if_neg hj']; exact q) (h2 j')) (fun j' q => by
        split at q
        · cases q
        · exact h3 j' q) hP3 (by omega)
      refine ⟨S', ?_, pFr_trans f2 (pFr_trans ⟨g1, fun a ha => g2 a (by omega)⟩ r2), r3⟩
      unfold ja_X4_prove_b149
      rw [eW (), lt_eq, show k + (m + 1) + 1 = k + m + 2 by omega]
      exact r1
    have head : ∀ R, (nk_bd (ja_X7_takeWaiting 93 ((i + 1 : Nat) : Int) S1) fun r5 S6 => if 0 ≤ r5 then ja_X4_prove_b149 (ja_X4_prove_L103 (k + (m + 1) + 1)) 92 r5 (l : Int) S6 else nk_bd (ja_X4_wakeUsers 92 S6) fun r8 S9 => nk_bd (ja_X7_takeWaiting 93 0 S9) fun r11 S12 => ja_X4_prove_b149 (ja_X4_prove_L103 (k + (m + 1) + 1)) 92 r11 (l : Int) S12) = R → ja_X4_prove_L103 (k + (m + 1) + 2) 92 (i : Int) (l : Int) S = R := by
      intro R hR
      show ja_X4_prove_b103 (ja_X4_prove_L103 (k + (m + 1) + 1)) 92 (i : Int) (l : Int) S = _
      unfold ja_X4_prove_b103
      rw [if_neg (by omega), if_neg (by omega), s1, bd_some, jc_92_2, e1 ()]
      exact hR
    rcases tk1 with ⟨n1, n2⟩ | ⟨j, S3, q1, q2, q3, -, q5, q6, q7, q8⟩
    · obtain ⟨S2, W2, C2, b1, b2, b3, b4, b5, b6, b7, b8, b9, b10⟩ := c_wakeU hk a1
      have fr2 : pFr S S2 := pFr_trans fr1 ⟨b2, fun a ha => b3 a (by omega) (by omega)⟩
      have hW2 : ∀ j, W2 j = true → A1 j ≠ none := fun j q => by
        rcases b8 j q with r | r
        · exact a3 j r
        · exact r
      have hall2 : ∀ j, prJ (dn, up, (ns, us, fl, bl, z, el), H) lc S2 A1 W2 σ1 C2 j := fun j y hy => by
        obtain ⟨q1, q2⟩ := prJ_97 (W' := W2) (b3 107 (by decide) (by decide)) (b3 108 (by decide) (by decide)) (b6 j) (a2 j) y hy
        refine ⟨q1, fun v hv => ?_⟩
        rcases q2 v hv with r | r | r
        · exact Or.inl r
        · exact Or.inl (b7 j y v hy hv r)
        · exact Or.inr (Or.inr r)
      have hP2 : pPo th n A1 W2 σ1 C2 (m + 1) := by
        rcases b9 with ⟨w1, w2⟩ | w1
        · rw [w1, w2]; exact hP1
        · obtain ⟨c, c1, c2, c3⟩ := hP1
          have hc : c ≠ 0 := fun q => w1 (c2 q)
          have := wCt_b W2
          exact ⟨0, by omega, fun _ => b5, by omega⟩
      rcases c_take b4.2.2.2.1 (f := 0) (by omega) with ⟨n3, n4⟩ | ⟨j, S3, q1, q2, q3, -, q5, q6, q7, q8⟩
      · refine ⟨S2, head _ ?_, fr2, A1, W2, σ1, C2, b4, b5, fun j hj => n3 j (by omega) hj, fun j y hy => ?_, b10⟩
        · have n4 : ja_X7_takeWaiting 93 0 S2 = some (-1, S2) := n4
          rw [n2, bd_some, if_neg (by decide), b1, bd_some, n4, bd_some]
          unfold ja_X4_prove_b149
          rw [eW (), lt_eq]
          show ja_X4_prove_b103 (ja_X4_prove_L103 (k + (m + 1))) 92 (-1) ((l + 1 : Nat) : Int) S2 = _
          unfold ja_X4_prove_b103
          rw [if_neg (by omega), if_pos (by decide)]
        · obtain ⟨q1, q2⟩ := hall2 j y hy
          refine ⟨q1, fun v hv => ?_⟩
          have hy' : z.1[j]? = some y := hy
          rcases q2 v hv with r | r | r
          · rw [n3 j (by omega) (by have := at_lt hy'; omega)] at r; cases r
          · have r' : uCh bl C2 y (H j) v (pSu us bl y) = true := r
            rw [uCh_0 b5 (fun q => ((snd_at hk a1 hy' hv).1 q).2)] at r'
            cases r'
          · exact r
      · obtain ⟨S', r1, r2, r3⟩ := next S2 W2 C2 j S3 fr2 b4 hall2 hW2 hP2 q2 q3 q6 q7 q8
        refine ⟨S', head _ ?_, r2, r3⟩
        have q5 : ja_X7_takeWaiting 93 0 S2 = some ((j : Int), S3) := q5
        rw [n2, bd_some, if_neg (by decide), b1, bd_some, q5, bd_some]
        exact r1
    · obtain ⟨S', r1, r2, r3⟩ := next S1 W1 C1 j S3 fr1 a1 a2 a3 hP1 q2 q3 q6 q7 q8
      refine ⟨S', head _ ?_, r2, r3⟩
      rw [q5, bd_some, if_pos (by omega)]
      exact r1
end CPR
