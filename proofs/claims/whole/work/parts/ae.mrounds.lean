/-! Types: the reference's sweeps and rounds. -/
def rGo (X : jX) (ch : Bool) (X' : jX) (ch' : Bool) : Prop := tMs X' ≤ tMs X ∧ (ch' = true → ch = true ∨ tMs X' < tMs X) ∧ (ch' = false → ch = false ∧ X' = X)
theorem rGo_rfl (X : jX) (ch : Bool) : rGo X ch X ch := ⟨Nat.le_refl _, Or.inl, fun h => ⟨h, rfl⟩⟩
theorem rGo_trans {X1 X2 X3 : jX} {c1 c2 c3 : Bool} (h : rGo X1 c1 X2 c2) (k : rGo X2 c2 X3 c3) : rGo X1 c1 X3 c3 := by
  obtain ⟨a1, a2, a3⟩ := h
  obtain ⟨b1, b2, b3⟩ := k
  refine ⟨by omega, fun q => ?_, fun q => ?_⟩
  · rcases b2 q with r | r
    · rcases a2 r with s | s
      · exact Or.inl s
      · exact Or.inr (by omega)
    · exact Or.inr (by omega)
  · obtain ⟨r1, r2⟩ := b3 q
    obtain ⟨s1, s2⟩ := a3 r1
    exact ⟨s1, r2.trans s2⟩
theorem rGo_or {X X' : jX} {ch n : Bool} (h1 : tMs X' ≤ tMs X) (h2 : n = true → tMs X' < tMs X) (h3 : n = false → X' = X) : rGo X ch X' (ch || n) := by
  refine ⟨h1, fun q => ?_, fun q => ?_⟩
  · rw [Bool.or_eq_true] at q
    exact q.imp id h2
  · rw [Bool.or_eq_false_iff] at q
    exact ⟨q.1, h3 q.2⟩
theorem bi_or (a c : Bool) {α : Type} (f : Int → α) : (if bi c = 0 then (if bi a = 0 then f 0 else f 1) else f 1) = f (bi (a || c)) := by
  cases a <;> cases c <;> rfl
section MRO
variable {ns : List (List Int)} {us : List Int} {fl : List (List Int × Nat × Int)} {bl : List jB} {z : jL} {el : List (Nat × Nat × Nat × Nat)} {b : Nat} {xb : jB} {e : Nat × Nat × Nat × Nat} {M : Nat → Nat} {P : Nat}
/-- when nothing goes on -/
theorem tPf_33 (h : tCx ns us fl bl z b xb e M) {i : Nat} {x : jC} (h1 : e.1 ≤ i) (h2 : i < e.2.1) (hx : z.1[i]? = some x) {u : Nat → Int} (hu : ∀ k, tV us (u k)) {g : Nat} : (x.1 = 33 ∧ u (12 + g - 2) = 2 → tPf fl bl z.2.1 x g u = none) ∧ (¬ (x.1 = 33 ∧ u (12 + g - 2) = 2) → ∃ v, tPf fl bl z.2.1 x g u = some v) := by
  constructor
  · rintro ⟨c, d⟩
    have ek : tkX bl x = 2 := by rw [(tkX_n (by omega)).1, c]; exact tk_op.2.2.2.1
    have el : lvX bl x = 1 := by rw [(tkX_n (by omega)).2, c]; exact tk_op.2.2.2.2.2.2.2
    unfold tPf tLf
    rw [if_neg (by omega), if_neg (by omega), if_neg (by omega), if_neg (by omega), if_neg (show ¬ x.1 = 1 by omega), if_neg (show ¬ x.1 = 2 by omega), if_neg (show ¬ (x.1 = 30 ∨ x.1 = 31) by omega), if_pos c, ek, if_pos d, if_pos rfl]
  · intro hn
    unfold tPf
    by_cases c1 : x.1 = 3
    · rw [if_pos c1]; exact ⟨_, rfl⟩
    rw [if_neg c1]
    by_cases c2 : x.1 = 5
    · rw [if_pos c2]; exact ⟨_, rfl⟩
    rw [if_neg c2]
    by_cases c3 : x.1 = 7
    · rw [if_pos c3]; exact ⟨_, rfl⟩
    rw [if_neg c3]
    by_cases c4 : lvX bl x = 0
    · rw [if_pos c4]; exact ⟨_, rfl⟩
    rw [if_neg c4]
    have ne : ¬ tLf fl bl z.2.1 x u (12 + g - tkX bl x) = -3 := by
      by_cases c : x.1 = 30 ∨ x.1 = 31 ∨ x.1 = 35 ∨ x.1 = 37 ∨ x.1 = 39 ∨ x.1 = 40
      · rcases tLf_c h h1 h2 hx c u (12 + g - tkX bl x) with q | q
        · rw [q.1]; decide
        · have := q.1.1; omega
      · unfold tLf
        by_cases d1 : x.1 = 1
        · rw [if_pos d1]; decide
        rw [if_neg d1]
        by_cases d2 : x.1 = 2
        · rw [if_pos d2]; have := (hu x.2.1.toNat).1; omega
        rw [if_neg d2, if_neg (by omega)]
        by_cases d3 : x.1 = 33
        · have ek : tkX bl x = 2 := by rw [(tkX_n (by omega)).1, d3]; exact tk_op.2.2.2.1
          rw [if_pos d3, ek, if_neg (fun q => hn ⟨d3, q⟩)]
          split
          · rename_i d4
            unfold tEl
            unfold tAr at d4
            by_cases e3 : u (12 + g - 2) = 3
            · rw [if_pos e3]; decide
            · rw [if_neg e3]
              have : 4 < u (12 + g - 2) := by
                simp [e3] at d4
                exact d4.1
              omega
          · decide
        · rw [if_neg d3, if_neg (by omega), if_neg (by omega), if_neg (by omega)]; decide
    rw [if_neg ne]
    exact ⟨_, rfl⟩
/-- the catches of an instruction -/
theorem m_tcat (hP : P = 122 ∨ P = 168) (h : tCx ns us fl bl z b xb e M) {i : Nat} {x : jC} (hx : z.1[i]? = some x) : ∀ (d k m : Nat) (X : jX) (ch : Bool) (S : nk_S), rTv S P (ns, us, fl, bl, z, el) e M → rTm M e S X → tInv us fl bl z b xb M e X → (∃ u, X i = some u) → k + d = z.2.2.1.length → ∃ S' X' ch', ja_X13_typesOn_L5 (m + 1 + d) 121 P (i : Int) (bi ch) (k : Int) S = ja_X13_typesOn_L5 (m + 1) 121 P (i : Int) (bi ch') (z.2.2.1.length : Int) S' ∧ rFs S S' ∧ rTm M e S' X' ∧ tInv us fl bl z b xb M e X' ∧ (∃ u, X' i = some u) ∧ rGo X ch X' ch' ∧ (ch' = false → ∀ u, X i = some u → ∀ (k' : Nat) (y : Nat × Nat × Nat × Nat × Nat), k ≤ k' → z.2.2.1[k']? = some y → y.1 = b → y.2.1 ≤ i → i < y.2.2.1 → ∃ t, X y.2.2.2.1 = some t ∧ vle us (rst xb.lc.toNat (hgt (M y.2.2.2.1)) (tUp u 12 (4 + 2 * (y.2.2.2.2 : Int)))) t) := by
  intro d
  induction d with
  | zero =>
    intro k m X ch S hv hm hX hi hk
    refine ⟨S, X, ch, by rw [show k = z.2.2.1.length by omega, Nat.add_zero], rFs_rfl, hm, hX, hi, rGo_rfl X ch, fun _ u _ k' y h1 h2 => ?_⟩
    have := at_lt h2
    omega
  | succ d ih =>
    intro k m X ch S hv hm hX hi hk
    obtain ⟨u, hXi⟩ := hi
    obtain ⟨o1, o2, o3, o4⟩ := hX.1 i u hXi
    obtain ⟨hbo, hcw, hi'⟩ := cW_at h o1 o2 hx
    have h64 := h.2.2.2.2.2.2.2.2.2.2.2.2.2.2.2.2
    have h32 := h.2.2.2.2.2.2.1
    have hl := h.2.2.2.2.1
    have hw := h.1
    obtain ⟨y, hy⟩ : ∃ y, z.2.2.1[k]? = some y := ⟨z.2.2.1[k]'(by omega), List.getElem?_eq_getElem (by omega)⟩
    have hKl : rKl S P z.2.2.1 := hv.1.2.2.2.2.2.2.2.2.2.2.2.2.1
    have hCd : rCd S P z.1 := hv.1.2.2.2.2.2.2.2.2.2.1
    have hcov := m_cov hP hKl hCd hy hx h64 hi'
    rw [hbo] at hcov
    have hstep : ja_X13_typesOn_L5 (m + 1 + (d + 1)) 121 P (i : Int) (bi ch) (k : Int) S = if bi (decide (y.1 = b ∧ y.2.1 ≤ i ∧ i < y.2.2.1)) = 0 then ja_X13_typesOn_L5 (m + 1 + d) 121 P (i : Int) (bi ch) ((k + 1 : Nat) : Int) S else nk_bd (ja_X13_typesAt 121 P (i : Int) S) fun r14 S15 => if 0 ≤ (k : Int) ∧ (k : Int) < 64 then nk_lt (nk_wi S15 (ja_c 121 24) 12 (nk_w (8 + (S15.1 (ja_c P 32) (k : Int).toNat)))) fun S20 => nk_bd (ja_X13_typesTo 121 P (S20.1 (ja_c P 31) (k : Int).toNat) S20) fun r23 S24 => if r23 = 0 then (if bi ch = 0 then ja_X13_typesOn_L5 (m + 1 + d) 121 P (i : Int) 0 ((k + 1 : Nat) : Int) S24 else ja_X13_typesOn_L5 (m + 1 + d) 121 P (i : Int) 1 ((k + 1 : Nat) : Int) S24) else ja_X13_typesOn_L5 (m + 1 + d) 121 P (i : Int) 1 ((k + 1 : Nat) : Int) S24 else none := by
      show ja_X13_typesOn_b5 (ja_X13_typesOn_L5 (m + 1 + d)) 121 P (i : Int) (bi ch) (k : Int) S = _
      unfold ja_X13_typesOn_b5 ja_X13_typesOn_b69
      rw [hKl.1, if_neg (by omega), hcov, bd_some, w_nat1 (by omega)]
      rfl
    by_cases c : y.1 = b ∧ y.2.1 ≤ i ∧ i < y.2.2.1
    · rw [decide_eq_true c, if_neg (show ¬ bi true = 0 by decide)] at hstep
      obtain ⟨A, a1, a2, a3, a4, a5⟩ := m_tAt hP hi' hm hXi (hv.2 i o1 o2 o3)
      have vA := rTv_s hP a2 hv
      have kw := hw.2.2.2.2.2.2.2 k y hy c.1
      obtain ⟨g1, g2⟩ := (h.2.1.2.2 i x o1 o2 hx o3).2.2.2.2.2 k y hy c.1 c.2.1 c.2.2
      obtain ⟨-, -, -, q4, q5⟩ := (vA.1.2.2.2.2.2.2.2.2.2.2.2.2.1 : rKl A P z.2.2.1).2 k y hy
      have q5' : A.1 (P + (32 - 7)) k = (y.2.2.2.2 : Int) := q5
      obtain ⟨B, hB⟩ : ∃ B, B = nk_wi A 228 12 ((8 + y.2.2.2.2 : Nat) : Int) := ⟨_, rfl⟩
      have Bn : ∀ a, a ≠ 228 → B.1 a = A.1 a := fun a ha => by rw [hB, wi_n ha]
      have FB : rFs A B := ⟨by rw [hB]; rfl, fun a _ _ _ x => Bn a x, fun f _ => by rw [Bn 121 (by decide)]⟩
      have vB := rTv_s hP FB vA
      have mB : rTm M e B X := ⟨fun j h1 h2 => by rw [Bn 226 (by decide)]; exact a3.1 j h1 h2, fun j u' hj k hk => by rw [Bn 227 (by decide)]; exact a3.2 j u' hj k hk⟩
      have q4' : B.1 (P + (31 - 7)) k = (y.2.2.2.1 : Int) := by rw [Bn (P + (31 - 7)) (by omega)]; exact q4
      obtain ⟨T, X1, n, t1, t2, t3, t4, t5, t6, t7, t8, t9⟩ := m_arrow hP h vB mB hX hx hXi (j := y.2.2.2.1) (w := rst xb.lc.toNat (hgt (M y.2.2.2.1)) (tUp u 12 (4 + 2 * (y.2.2.2.2 : Int)))) (Or.inr ⟨k, y, hy, c.1, c.2.1, c.2.2, rfl, rfl⟩) (fun k' hk' => by
        rw [g2] at hk' ⊢
        rw [hB, wi_at]
        unfold rst tUp
        by_cases c12 : k' = 12
        · have kc := kw.2.2.2.2.2.2.1
          rw [if_pos c12, if_pos (show rel xb.lc.toNat 1 k' by unfold rel; omega), if_pos c12]
          unfold rvU
          rw [if_neg (by omega), if_neg (by omega), if_neg (by omega), if_neg (by omega), if_pos (by omega)]
          omega
        · rw [if_neg c12, a4 k' (by omega)]
          by_cases cr : rel xb.lc.toNat 1 k'
          · rw [if_pos cr, if_neg c12]
          · rw [if_neg cr, (o4 k').2 (by unfold rel at cr ⊢; omega)])
      have FT : rFs S T := rFs_trans a2 (rFs_trans FB ⟨t2, fun a _ x y _ => t3 a x y, fun f _ => by rw [t3 121 (by decide) (by decide)]⟩)
      have e8 : nk_w (8 + (y.2.2.2.2 : Int)) = ((8 + y.2.2.2.2 : Nat) : Int) := by
        have kc := kw.2.2.2.2.2.2.1
        rw [show (8 : Int) + (y.2.2.2.2 : Int) = ((8 + y.2.2.2.2 : Nat) : Int) by omega]
        exact nk_w_id (by omega) (by omega)
      rw [a1, bd_some, if_pos (in_i (N := 64) (by omega)), (jcP hP 32 (by decide) : ja_c P 32 = P + 25), (jcP hP 31 (by decide) : ja_c P 31 = P + 24), Int.toNat_natCast, q5', e8, jc_121_24, lt_eq, ← hB, q4', t1, bd_some, bi_or ch n (fun l => ja_X13_typesOn_L5 (m + 1 + d) 121 P (i : Int) l ((k + 1 : Nat) : Int) T)] at hstep
      clear e8
      obtain ⟨S', X', c', s1, s2, s3, s4, s5, s6, s7⟩ := ih (k + 1) m X1 (ch || n) T (rTv_s hP FT hv) t4 t5 t6 (by omega)
      refine ⟨S', X', c', by rw [hstep]; exact s1, rFs_trans FT s2, s3, s4, s5, rGo_trans (rGo_or t7 t8 (fun q => (t9 q).1)) s6, fun hc u' hu' k' y' h1 h2 h3 h4 h5 => ?_⟩
      obtain ⟨r1, r2⟩ := s6.2.2 hc
      rw [Bool.or_eq_false_iff] at r1
      obtain ⟨w1, w2⟩ := t9 r1.2
      rw [hXi] at hu'
      cases hu'
      by_cases ck : k' = k
      · subst ck
        rw [hy] at h2
        cases h2
        exact w2
      · have := s7 hc u (by rw [w1]; exact hXi) k' y' (by omega) h2 h3 h4 h5
        rw [w1] at this
        exact this
    · rw [decide_eq_false c, if_pos (show bi false = 0 from rfl)] at hstep
      obtain ⟨S', X', c', s1, s2, s3, s4, s5, s6, s7⟩ := ih (k + 1) m X ch S hv hm hX ⟨u, hXi⟩ (by omega)
      refine ⟨S', X', c', by rw [hstep]; exact s1, s2, s3, s4, s5, s6, fun hc u' hu' k' y' h1 h2 h3 h4 h5 => ?_⟩
      by_cases ck : k' = k
      · subst ck
        rw [hy] at h2
        cases h2
        exact absurd ⟨h3, h4, h5⟩ c
      · exact s7 hc u' hu' k' y' (by omega) h2 h3 h4 h5
/-- one instruction -/
theorem m_tOn (hP : P = 122 ∨ P = 168) (h : tCx ns us fl bl z b xb e M) {i : Nat} {x : jC} (hx : z.1[i]? = some x) {X : jX} {S : nk_S} (hv : rTv S P (ns, us, fl, bl, z, el) e M) (hm : rTm M e S X) (hX : tInv us fl bl z b xb M e X) (hXi : ∃ u, X i = some u) : ∃ S' X' n, ja_X13_typesOn 121 P (i : Int) S = some (bi n, S') ∧ rFs S S' ∧ rTm M e S' X' ∧ tInv us fl bl z b xb M e X' ∧ rGo X false X' n ∧ (n = false → tCl us fl bl z b xb.lc.toNat M X i) := by
  have h64 := h.2.2.2.2.2.2.2.2.2.2.2.2.2.2.2.2
  obtain ⟨bm, hbm⟩ := big_ge 200 (by decide)
  obtain ⟨A, X1, c1, a1, a2, a3, a4, ⟨u, a5⟩, a6, a7⟩ := m_tcat (el := el) hP h hx z.2.2.1.length 0 (nk_big - 1 - z.2.2.1.length) X false S hv hm hX hXi (by omega)
  rw [show nk_big - 1 - z.2.2.1.length + 1 + z.2.2.1.length = nk_big by omega] at a1
  obtain ⟨mm, hmm⟩ : ∃ mm, mm = nk_big - 1 - z.2.2.1.length := ⟨_, rfl⟩
  rw [← hmm] at a1
  have vA := rTv_s hP a2 hv
  obtain ⟨o1, o2, o3, o4⟩ := a4.1 i u a5
  have uv : ∀ k, tV us (u k) := fun k => (o4 k).1
  obtain ⟨hbo, hcw, hi'⟩ := cW_at h o1 o2 hx
  obtain ⟨tk1, tk2, tk3⟩ := tk_b h o1 o2 hx o3
  obtain ⟨-, -, -, gk, gt, gc⟩ := h.2.1.2.2 i x o1 o2 hx o3
  obtain ⟨B, b1, b2, b3, b4, b5⟩ := m_tAt hP hi' a3 a5 (vA.2 i o1 o2 o3)
  have vB := rTv_s hP b2 vA
  have FB := rFs_trans a2 b2
  have hKA : rKl A P z.2.2.1 := vA.1.2.2.2.2.2.2.2.2.2.2.2.2.1
  have hCB : rCd B P z.1 := vB.1.2.2.2.2.2.2.2.2.2.1
  have cB : B.1 (P + (22 - 7)) i = (x.1 : Int) := (hCB.2 i x hx).1
  have hin : (0 : Int) ≤ (i : Int) ∧ (i : Int) < 1024 := in_i (N := 1024) (by omega)
  have h32 := h.2.2.2.2.2.2.1
  have hl := h.2.2.2.2.1
  -- the end, without an arrow
  have fin : ∀ (T : nk_S) (X2 : jX) (c2 : Bool), rFs S T → rTm M e T X2 → tInv us fl bl z b xb M e X2 → rGo X1 c1 X2 c2 → (c2 = false → ∀ v, tPf fl bl z.2.1 x (hgt (M i)) u = some v → ∀ j, ((fal x.1 = true ∧ j = i + 1) ∨ (19 ≤ x.1 ∧ x.1 ≤ 29 ∧ j = x.2.1.toNat)) → ∃ t, X1 j = some t ∧ vle us (rst xb.lc.toNat (hgt (M j)) v) t) → ja_X13_typesOn 121 P (i : Int) S = some (bi c2, T) → ∃ S' X' n, ja_X13_typesOn 121 P (i : Int) S = some (bi n, S') ∧ rFs S S' ∧ rTm M e S' X' ∧ tInv us fl bl z b xb M e X' ∧ rGo X false X' n ∧ (n = false → tCl us fl bl z b xb.lc.toNat M X i) := by
    intro T X2 c2 FT mT iT gT hT hS
    refine ⟨T, X2, c2, hS, FT, mT, iT, rGo_trans a6 gT, fun hc => ?_⟩
    obtain ⟨r1, r2⟩ := gT.2.2 hc
    obtain ⟨r3, r4⟩ := a6.2.2 r1
    intro x' u' hx' hu' j w hE
    rw [hx] at hx'
    cases hx'
    rw [← r4, a5] at hu'
    cases hu'
    rcases hE with ⟨v, v1, v2, v3⟩ | ⟨k, y, y1, y2, y3, y4, y5, y6⟩
    · rw [v2, ← r4]
      exact hT hc v v1 j v3
    · rw [y6, y5]
      exact a7 r1 u (by rw [← r4]; exact a5) k y (Nat.zero_le _) y1 y2 y3 y4
  have hstart : ja_X13_typesOn 121 P (i : Int) S = if (x.1 : Int) = 33 then (if 0 ≤ (nk_w ((B.1 121 25) - 2)) ∧ (nk_w ((B.1 121 25) - 2)) < 24 then (if (B.1 228 (nk_w ((B.1 121 25) - 2)).toNat) = 1 then some (bi c1, B) else ja_X13_typesOn_b119 121 P (i : Int) (bi c1) (x.1 : Int) B) else none) else ja_X13_typesOn_b119 121 P (i : Int) (bi c1) (x.1 : Int) B := by
    have e0 : ja_X13_typesOn 121 P (i : Int) S = ja_X13_typesOn_L5 (mm + 1) 121 P (i : Int) (bi c1) (z.2.2.1.length : Int) A := a1
    rw [e0]
    show ja_X13_typesOn_b5 (ja_X13_typesOn_L5 mm) 121 P (i : Int) (bi c1) (z.2.2.1.length : Int) A = _
    unfold ja_X13_typesOn_b5
    rw [hKA.1, if_pos (Int.le_refl _), b1, bd_some, if_pos hin, (jcP hP 22 (by decide) : ja_c P 22 = P + 15), Int.toNat_natCast, cB, jc_121_24, lt_eq, if_pos (bi_01 c1)]
  obtain ⟨f1, f2⟩ := tPf_33 h o1 o2 hx uv (g := hgt (M i))
  by_cases cn : x.1 = 33 ∧ u (12 + hgt (M i) - 2) = 2
  · have hno := f1 cn
    have ek : tkX bl x = 2 := by rw [(tkX_n (by omega)).1, cn.1]; exact tk_op.2.2.2.1
    rw [if_pos (nc_p (k := 33) (K := 33) rfl cn.1), b5, show ((12 + hgt (M i) : Nat) : Int) - 2 = ((12 + hgt (M i) : Nat) : Int) - ((2 : Nat) : Int) by omega, wisub (by omega) (by omega), if_pos (in_i (N := 24) (by omega)), Int.toNat_natCast, b4 _ (by omega), cn.2, if_pos (by decide)] at hstart
    exact fin B X1 c1 FB b3 a4 (rGo_rfl X1 c1) (fun _ v hv' => by rw [hno] at hv'; cases hv') hstart
  · obtain ⟨v, hpv⟩ := f2 cn
    have h119 : ja_X13_typesOn 121 P (i : Int) S = ja_X13_typesOn_b119 121 P (i : Int) (bi c1) (x.1 : Int) B := by
      rw [hstart]
      by_cases c33 : x.1 = 33
      · have ek : tkX bl x = 2 := by rw [(tkX_n (by omega)).1, c33]; exact tk_op.2.2.2.1
        have hn2 : ¬ rvU (u (12 + hgt (M i) - 2)) = 1 := fun q => cn ⟨c33, ((rvU_s (us := us) (by omega) (uv _)).2.2.1).mp q⟩
        rw [if_pos (nc_p (k := 33) (K := 33) rfl c33), b5, show ((12 + hgt (M i) : Nat) : Int) - 2 = ((12 + hgt (M i) : Nat) : Int) - ((2 : Nat) : Int) by omega, wisub (by omega) (by omega), if_pos (in_i (N := 24) (by omega)), Int.toNat_natCast, b4 _ (by omega), if_neg hn2]
      · rw [if_neg (nc_n (k := 33) (K := 33) rfl c33)]
    obtain ⟨C, d1, d2, d3, d4, d5⟩ := m_beh hP h vB o1 o2 hx o3 uv b4 b5 hpv
    have FC : rFs S C := rFs_trans FB ⟨d2, fun a x _ _ y => d3 a x y, d4⟩
    have vC := rTv_s hP FC hv
    have mC : rTm M e C X1 := ⟨fun j h1 h2 => by rw [d3 226 (by decide) (by decide)]; exact b3.1 j h1 h2, fun j u' hj k hk => by rw [d3 227 (by decide) (by decide)]; exact b3.2 j u' hj k hk⟩
    have row : ∀ (j : Nat), hgt (M j) = hgt (M i) - tkX bl x + lvX bl x → ∀ k, k < 12 + hgt (M j) → C.1 228 k = rvU (rst xb.lc.toNat (hgt (M j)) v k) := by
      intro j hj k hk
      rw [d5 k (by omega)]
      unfold rst
      by_cases cr : rel xb.lc.toNat (hgt (M j)) k
      · rw [if_pos cr]
      · rw [if_neg cr]
        have hk1 : xb.lc.toNat ≤ k ∧ k < 12 := by unfold rel at cr; omega
        rw [tPf_z h o1 o2 hx o3 hpv hk1.1 hk1.2, (o4 k).2 (by unfold rel; omega)]
    -- the next
    obtain ⟨D, X2, c2, e1, e2, e3, e4, e5, e6, e7, e8⟩ : ∃ D X2 c2, ja_X13_typesOn 121 P (i : Int) S = ja_X13_typesOn_b154 121 P (i : Int) (bi c2) (x.1 : Int) D ∧ rFs S D ∧ D.1 228 = C.1 228 ∧ rTm M e D X2 ∧ tInv us fl bl z b xb M e X2 ∧ rGo X1 c1 X2 c2 ∧ (∃ u', X2 i = some u') ∧ (c2 = false → fal x.1 = true → ∃ t, X1 (i + 1) = some t ∧ vle us (rst xb.lc.toNat (hgt (M (i + 1))) v) t) := by
      rw [h119]
      unfold ja_X13_typesOn_b119 ja_X13_typesOn_b148 ja_X13_typesOn_b153
      rw [d1, bd_some, m_hasN, bd_some, w_nat1 (by omega)]
      cases hfa : fal x.1 with
      | false =>
        rw [if_pos (show bi false = 0 from rfl)]
        exact ⟨C, X1, c1, rfl, FC, rfl, mC, a4, rGo_rfl X1 c1, ⟨u, a5⟩, fun _ q => by cases q⟩
      | true =>
        rw [if_neg (show ¬ bi true = 0 by decide)]
        obtain ⟨k1, k2⟩ := gk hfa
        obtain ⟨T, X2, n, t1, t2, t3, t4, t5, t6, t7, t8, t9⟩ := m_arrow hP h vC mC a4 hx a5 (j := i + 1) (w := rst xb.lc.toNat (hgt (M (i + 1))) v) (Or.inl ⟨v, hpv, rfl, Or.inl ⟨hfa, rfl⟩⟩) (row (i + 1) k2)
        rw [t1, bd_some, bi_or c1 n (fun l => ja_X13_typesOn_b154 121 P (i : Int) l (x.1 : Int) T)]
        refine ⟨T, X2, c1 || n, rfl, rFs_trans FC ⟨t2, fun a _ x y _ => t3 a x y, fun f _ => by rw [t3 121 (by decide) (by decide)]⟩, t3 228 (by decide) (by decide), t4, t5, rGo_or t7 t8 (fun q => (t9 q).1), t6, fun q _ => ?_⟩
        rw [Bool.or_eq_false_iff] at q
        exact (t9 q.2).2
    have vD := rTv_s hP e2 hv
    -- the label
    unfold ja_X13_typesOn_b154 ja_X13_typesOn_b180 at e1
    rw [m_hasL, bd_some] at e1
    by_cases c : 19 ≤ x.1 ∧ x.1 ≤ 29
    · rw [decide_eq_true c, if_neg (show ¬ bi true = 0 by decide)] at e1
      obtain ⟨k1, k2⟩ := gt c
      obtain ⟨tt, q1, q2, q3⟩ := hcw.2.1 ((fK4 x.1 hcw.1).mpr c)
      have er : rA x = x.2.1 := by unfold rA; rw [if_neg (by omega), if_neg (by omega)]
      have cD : D.1 (P + (23 - 7)) i = ((x.2.1.toNat : Nat) : Int) := by
        have q : D.1 (P + 16) i = rA x := ((vD.1.2.2.2.2.2.2.2.2.2.1 : rCd D P z.1).2 i x hx).2.1
        rw [er, q1] at q
        rw [q1, Int.toNat_natCast]
        exact q
      obtain ⟨u2, hu2⟩ := e7
      obtain ⟨-, -, -, o4'⟩ := e5.1 i u2 hu2
      -- the row is that of the first look: its arrow is one of what stood then
      have hB1 : tB1 us fl bl z b xb M e i u := a4.2.2 i u a5
      have hE : tEd fl bl z b xb.lc.toNat M i x u x.2.1.toNat (rst xb.lc.toNat (hgt (M x.2.1.toNat)) v) := Or.inl ⟨v, hpv, rfl, Or.inr ⟨c.1, c.2, rfl⟩⟩
      obtain ⟨r1, r2, r3, r4⟩ := tEd_row h o1 o2 hx o3 uv hE
      obtain ⟨i1, i2, t, i3, i4⟩ := tArr_inv h e5 o1 o2 hx o3 uv hB1 hE
      have hlen := h.1.2.2.1
      have h1024 := h.2.2.2.2.2.2.2.2.2.2.2.2.2.2.1
      obtain ⟨n1, n2⟩ := tNw_t h e5.1 (show x.2.1.toNat < 1024 by omega) r4
      obtain ⟨T, t1, t2, t3, t4⟩ := m_tTo hP h vD e4 e5.1 r1 r2 r3 r4 (fun k hk => by rw [e3]; exact row _ k2 k hk)
      rw [if_pos hin, (jcP hP 23 (by decide) : ja_c P 23 = P + 16), Int.toNat_natCast, cD, t1, bd_some, bi_or c2 _ (fun l => some (l, T))] at e1
      refine fin T _ _ (rFs_trans e2 ⟨t2, fun a _ x y _ => t3 a x y, fun f _ => by rw [t3 121 (by decide) (by decide)]⟩) t4 i1 (rGo_trans e6 (rGo_or n1 n2 (fun q => tNw_f h e5.1 r4 q))) (fun hc v' hv' j hj => ?_) e1
      rw [Bool.or_eq_false_iff] at hc
      rw [hpv] at hv'
      cases hv'
      rcases hj with ⟨j1, j2⟩ | ⟨j1, j2, j3⟩
      · rw [j2]; exact e8 hc.1 j1
      · have hX2 := (e6.2.2 hc.1).2
        have hne := tNw_f h e5.1 r4 hc.2
        rw [hne, hX2] at i3
        rw [j3]
        exact ⟨t, i3, i4⟩
    · rw [decide_eq_false c, if_pos (show bi false = 0 from rfl), if_pos (bi_01 c2)] at e1
      refine fin D X2 c2 e2 e4 e5 e6 (fun hc v' hv' j hj => ?_) e1
      rw [hpv] at hv'
      cases hv'
      rcases hj with ⟨j1, j2⟩ | ⟨j1, j2, -⟩
      · rw [j2]; exact e8 hc j1
      · exact absurd ⟨j1, j2⟩ c
theorem m_tsw (hP : P = 122 ∨ P = 168) (h : tCx ns us fl bl z b xb e M) (he : el[b]? = some e) {rec102 : Nat → Nat → Int → Int → Int → nk_S → Option (Int × nk_S)} : ∀ (d i m : Nat) (X : jX) (ch : Bool) (S : nk_S), rTv S P (ns, us, fl, bl, z, el) e M → rTm M e S X → tInv us fl bl z b xb M e X → e.1 ≤ i → i + d = e.2.1 → d < m → ∃ S' X' ch', ja_X13_types_L113 rec102 m 121 P (b : Int) (e.1 : Int) (bi ch) (i : Int) S = rec102 121 P (b : Int) (e.1 : Int) (bi ch') S' ∧ rFs S S' ∧ rTm M e S' X' ∧ tInv us fl bl z b xb M e X' ∧ rGo X ch X' ch' ∧ (ch' = false → ∀ j, i ≤ j → j < e.2.1 → tCl us fl bl z b xb.lc.toNat M X j) := by
  intro d
  induction d with
  | zero =>
    intro i m X ch S hv hm hX h0 h1 h2
    obtain ⟨m, rfl⟩ : ∃ q, m = q + 1 := ⟨m - 1, by omega⟩
    have hxb := h.2.2.2.2.2.2.2.2.2.2.2.1
    have hbl := h.2.2.2.2.2.2.2.2.2.2.2.2.2.1
    have hb48 : b < 48 := by have := at_lt hxb; omega
    have e13 : S.1 (P + (20 - 7)) b = (e.2.1 : Int) := ((hv.1.2.2.2.2.2.2.2.1 : rEl S P el) b e he).2
    refine ⟨S, X, ch, ?_, rFs_rfl, hm, hX, rGo_rfl X ch, fun _ j h3 h4 => by omega⟩
    show ja_X13_types_b113 rec102 (ja_X13_types_L113 rec102 m) 121 P (b : Int) (e.1 : Int) (bi ch) (i : Int) S = _
    unfold ja_X13_types_b113
    rw [if_pos (in_i (N := 48) (by omega)), (jcP hP 20 (by decide) : ja_c P 20 = P + 13), Int.toNat_natCast, e13, if_pos (by omega)]
  | succ d ih =>
    intro i m X ch S hv hm hX h0 h1 h2
    obtain ⟨m, rfl⟩ : ∃ q, m = q + 1 := ⟨m - 1, by omega⟩
    have hlen := h.1.2.2.1
    have h1024 := h.2.2.2.2.2.2.2.2.2.2.2.2.2.2.1
    have hxb := h.2.2.2.2.2.2.2.2.2.2.2.1
    have hbl := h.2.2.2.2.2.2.2.2.2.2.2.2.2.1
    have hb48 : b < 48 := by have := at_lt hxb; omega
    have e13 : S.1 (P + (20 - 7)) b = (e.2.1 : Int) := ((hv.1.2.2.2.2.2.2.2.1 : rEl S P el) b e he).2
    obtain ⟨x, hx⟩ : ∃ x, z.1[i]? = some x := ⟨z.1[i]'(by omega), List.getElem?_eq_getElem (by omega)⟩
    have h26 := hm.1 i h0 (by omega)
    have hstep : ja_X13_types_L113 rec102 (m + 1) 121 P (b : Int) (e.1 : Int) (bi ch) (i : Int) S = if bi (X i).isSome = 0 then ja_X13_types_L113 rec102 m 121 P (b : Int) (e.1 : Int) (bi ch) ((i + 1 : Nat) : Int) S else nk_bd (ja_X13_typesOn 121 P (i : Int) S) fun r7 S8 => if r7 = 0 then (if bi ch = 0 then ja_X13_types_L113 rec102 m 121 P (b : Int) (e.1 : Int) 0 ((i + 1 : Nat) : Int) S8 else ja_X13_types_L113 rec102 m 121 P (b : Int) (e.1 : Int) 1 ((i + 1 : Nat) : Int) S8) else ja_X13_types_L113 rec102 m 121 P (b : Int) (e.1 : Int) 1 ((i + 1 : Nat) : Int) S8 := by
      show ja_X13_types_b113 rec102 (ja_X13_types_L113 rec102 m) 121 P (b : Int) (e.1 : Int) (bi ch) (i : Int) S = _
      unfold ja_X13_types_b113 ja_X13_types_b149
      rw [if_pos (in_i (N := 48) (by omega)), (jcP hP 20 (by decide) : ja_c P 20 = P + 13), Int.toNat_natCast, e13, if_neg (by omega), if_pos (in_i (N := 1024) (by omega)), jc_121_22, Int.toNat_natCast, h26, w_nat1 (by omega)]
      rfl
    cases hq : X i with
    | none =>
      rw [hq, if_pos (show bi (none : Option (Nat → Int)).isSome = 0 from rfl)] at hstep
      obtain ⟨S', X', c', s1, s2, s3, s4, s5, s6⟩ := ih (i + 1) m X ch S hv hm hX (by omega) (by omega) (by omega)
      refine ⟨S', X', c', by rw [hstep]; exact s1, s2, s3, s4, s5, fun hc j h3 h4 => ?_⟩
      by_cases cj : j = i
      · intro x' u' _ hu'
        rw [cj, hq] at hu'; cases hu'
      · exact s6 hc j (by omega) h4
    | some u =>
      rw [hq, if_neg (show ¬ bi (some u).isSome = 0 from fun q => by cases q)] at hstep
      obtain ⟨T, X1, n, t1, t2, t3, t4, t5, t6⟩ := m_tOn hP h hx hv hm hX ⟨u, hq⟩
      rw [t1, bd_some, bi_or ch n (fun l => ja_X13_types_L113 rec102 m 121 P (b : Int) (e.1 : Int) l ((i + 1 : Nat) : Int) T)] at hstep
      obtain ⟨S', X', c', s1, s2, s3, s4, s5, s6⟩ := ih (i + 1) m X1 (ch || n) T (rTv_s hP t2 hv) t3 t4 (by omega) (by omega) (by omega)
      have g1 : rGo X ch X1 (ch || n) := rGo_or t5.1 (fun q => (t5.2.1 q).resolve_left (by decide)) (fun q => (t5.2.2 q).2)
      refine ⟨S', X', c', by rw [hstep]; exact s1, rFs_trans t2 s2, s3, s4, rGo_trans g1 s5, fun hc j h3 h4 => ?_⟩
      obtain ⟨r1, r2⟩ := s5.2.2 hc
      rw [Bool.or_eq_false_iff] at r1
      by_cases cj : j = i
      · rw [cj]; exact t6 r1.2
      · have := s6 hc j (by omega) h4
        rw [(t5.2.2 r1.2).2] at this
        exact this
theorem m_tro (hP : P = 122 ∨ P = 168) (h : tCx ns us fl bl z b xb e M) (he : el[b]? = some e) : ∀ (n m : Nat) (X : jX) (ch : Bool) (S : nk_S), rTv S P (ns, us, fl, bl, z, el) e M → rTm M e S X → tInv us fl bl z b xb M e X → (ch = false → ∀ i, tCl us fl bl z b xb.lc.toNat M X i) → tMs X < n → n < m → ∃ S' X', ja_X13_types_L102 m 121 P (b : Int) (e.1 : Int) (bi ch) S = ja_X13_types_L168 nk_big 121 P (b : Int) (e.1 : Int) S' ∧ rFs S S' ∧ rTm M e S' X' ∧ tInv us fl bl z b xb M e X' ∧ ∀ i, tCl us fl bl z b xb.lc.toNat M X' i := by
  intro n
  induction n with
  | zero => intro m X ch S _ _ _ _ h1; omega
  | succ n ih =>
    intro m X ch S hv hm hX hC h1 h2
    obtain ⟨m, rfl⟩ : ∃ q, m = q + 1 := ⟨m - 1, by omega⟩
    have hlt := h.1.2.1
    have hlen := h.1.2.2.1
    have h1024 := h.2.2.2.2.2.2.2.2.2.2.2.2.2.2.1
    have hend : ∀ (m : Nat) (T : nk_S), ja_X13_types_L102 (m + 1) 121 P (b : Int) (e.1 : Int) (bi false) T = ja_X13_types_L168 nk_big 121 P (b : Int) (e.1 : Int) T := fun m T => by
      show ja_X13_types_b102 (ja_X13_types_L102 m) 121 P (b : Int) (e.1 : Int) (bi false) T = _
      unfold ja_X13_types_b102
      rw [if_pos (show bi false = 0 from rfl)]
    cases ch with
    | false => exact ⟨S, X, hend m S, rFs_rfl, hm, hX, hC rfl⟩
    | true =>
      obtain ⟨bm, hbm⟩ := big_ge 2000 (by decide)
      obtain ⟨T, X1, c1, t1, t2, t3, t4, t5, t6⟩ := m_tsw hP h he (rec102 := ja_X13_types_L102 m) (e.2.1 - e.1) e.1 nk_big X false S hv hm hX (Nat.le_refl _) (by omega) (by omega)
      have hstep : ja_X13_types_L102 (m + 1) 121 P (b : Int) (e.1 : Int) (bi true) S = ja_X13_types_L102 m 121 P (b : Int) (e.1 : Int) (bi c1) T := by
        rw [← t1]
        show ja_X13_types_b102 (ja_X13_types_L102 m) 121 P (b : Int) (e.1 : Int) (bi true) S = _
        unfold ja_X13_types_b102
        rw [if_neg (show ¬ bi true = 0 by decide)]
        rfl
      cases c1 with
      | false =>
        obtain ⟨m, rfl⟩ : ∃ q, m = q + 1 := ⟨m - 1, by omega⟩
        obtain ⟨-, r2⟩ := t5.2.2 rfl
        refine ⟨T, X1, by rw [hstep]; exact hend m T, t2, t3, t4, fun i => ?_⟩
        rw [r2]
        by_cases c : e.1 ≤ i ∧ i < e.2.1
        · exact t6 rfl i c.1 c.2
        · intro x u _ hu
          obtain ⟨o1, o2, -⟩ := hX.1 i u hu
          exact absurd ⟨o1, o2⟩ c
      | true =>
        have hlt2 : tMs X1 < tMs X := (t5.2.1 rfl).resolve_left (by decide)
        obtain ⟨S', X', s1, s2, s3, s4, s5⟩ := ih m X1 true T (rTv_s hP t2 hv) t3 t4 (fun q => by cases q) (by omega) (by omega)
        exact ⟨S', X', by rw [hstep]; exact s1, rFs_trans t2 s2, s3, s4, s5⟩
end MRO
