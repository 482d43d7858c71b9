/-! Types: the class's sweeps and rounds. -/
theorem c_arrN {S : nk_S} (l g : Int) : ja_X9_arrive 86 (-1) l g S = some (0, S) := by
  unfold ja_X9_arrive
  rw [if_pos (by decide)]
section CRO
variable {ns : List (List Int)} {us : List Int} {fl : List (List Int × Nat × Int)} {bl : List jB} {z : jL} {el : List (Nat × Nat × Nat × Nat)} {b : Nat} {xb : jB} {e : Nat × Nat × Nat × Nat} {M : Nat → Nat} {Q : Nat}
theorem c_spr (hQ : Q = 13 ∨ Q = 49) (h : tCx ns us fl bl z b xb e M) (he : el[b]? = some e) {i : Nat} {x : jC} (hx : z.1[i]? = some x) {u : Nat → Int} {X : jX} {W : Nat → Bool} {ch : Bool} {S : nk_S} (hv : cTv S Q (ns, us, fl, bl, z, el) e M) (hm : cTm xb.lc.toNat M e S X W ch) (hX : tInv us fl bl z b xb M e X) (hXi : X i = some u) (hC : ∀ i', i' ≠ i → W i' = false → tCl us fl bl z b xb.lc.toNat M X i') : ∃ S' X' W' ch', ja_X9_spreadTypes 86 (i : Int) S = some (0, S') ∧ tFs S S' ∧ cTm xb.lc.toNat M e S' X' W' ch' ∧ tInv us fl bl z b xb M e X' ∧ (∀ i', W' i' = false → tCl us fl bl z b xb.lc.toNat M X' i') ∧ tGo X W ch X' W' ch' := by
  obtain ⟨o1, o2, o3, o4⟩ := hX.1 i u hXi
  obtain ⟨hbo, hcw, hi⟩ := cW_at h o1 o2 hx
  obtain ⟨t1, t2, t3⟩ := tk_b h o1 o2 hx o3
  obtain ⟨l1, l2, l3⟩ := lc_12 h
  have hw := h.1
  have hxb := h.2.2.2.2.2.2.2.2.2.2.2.1
  have hbl := h.2.2.2.2.2.2.2.2.2.2.2.2.2.1
  have hb48 : b < 48 := by have := at_lt hxb; omega
  obtain ⟨-, -, -, gk, gt, gc⟩ := h.2.1.2.2 i x o1 o2 hx o3
  have i1024 : (0 : Int) ≤ (i : Int) ∧ (i : Int) < 1024 := in_i (N := 1024) (by omega)
  have uv : ∀ k, tV us (u k) := fun k => (o4 k).1
  have hB1 := hX.2.2 i u hXi
  -- the row is taken
  obtain ⟨A, hA⟩ : ∃ A, A = nk_cp S 88 (i * 20) 91 0 20 := ⟨_, rfl⟩
  have an : ∀ a, a ≠ 91 → A.1 a = S.1 a := fun a ha => by rw [hA, cp_n ha]
  have vA : cTv A Q (ns, us, fl, bl, z, el) e M := cTv_s hQ (tFs_91 (by rw [hA]; rfl) an) hv
  have mA := cTm_91 an hm
  have a91 : ∀ k, rel xb.lc.toNat (hgt (M i)) k → A.1 91 k = u k := fun k hk => by
    rw [hA, cp_v, if_pos ⟨rfl, by omega, by unfold rel at hk; omega⟩, Nat.sub_zero]
    exact hm.2.1 i u hXi k hk
  obtain ⟨P, p1, p2, p3, p4⟩ := c_perf hQ h vA o1 o2 hx o3 uv a91
  have vP : cTv P Q (ns, us, fl, bl, z, el) e M := cTv_s hQ (tFs_91 p2 p3) vA
  have mP := cTm_91 p3 mA
  have FP : tFs S P := tFs_trans (tFs_91 (by rw [hA]; rfl) an) (tFs_91 p2 p3)
  obtain ⟨g, hg⟩ : ∃ g, g = hgt (M i) - tkX bl x + lvX bl x := ⟨_, rfl⟩
  rw [← hg] at p4 gk gt t2
  -- takes, leaves
  have hstart : ja_X9_spreadTypes 86 (i : Int) S = if bi (tPf fl bl z.2.1 x (hgt (M i)) u).isSome = 0 then ja_X9_spreadTypes_b114 86 (i : Int) (b : Int) xb.lc P else if bi (fal x.1) = 0 then ja_X9_spreadTypes_b99 86 (i : Int) (b : Int) xb.lc (g : Int) P else nk_bd (ja_X9_arrive 86 ((i + 1 : Nat) : Int) xb.lc (g : Int) P) fun r36 S37 => ja_X9_spreadTypes_b99 86 (i : Int) (b : Int) xb.lc (g : Int) S37 := by
    have hJ : cJL S Q z := hv.2.2.1.2.2.2.2.2.2.2.2.1
    have hB : ∀ (b : Nat) (y : jB), bl[b]? = some y → cB0 S Q b y := hv.2.2.1.2.2.2.2.2.1
    have hJA : cJL A Q z := vA.2.2.1.2.2.2.2.2.2.2.2.1
    have hBA : ∀ (b : Nat) (y : jB), bl[b]? = some y → cB0 A Q b y := vA.2.2.1.2.2.2.2.2.1
    have hJP : cJL P Q z := vP.2.2.1.2.2.2.2.2.2.2.2.1
    obtain ⟨c1, c2, c3, c4, c5⟩ := hJA.1.2 i x hx
    have ht := c_takes hQ hi c1 c2 (fun b y hy => (hBA b y hy).2.2.1) hbl hcw
    have hl := c_leaves hQ hi c1 c2 (fun b y hy => (hBA b y hy).2.2.2.2.1) hbl hcw
    have e29 : S.1 (Q + 29) i = (b : Int) := by rw [(hJ.1.2 i x hx).2.2.2.2, hbo]
    have e16 : S.1 (Q + 16) b = xb.lc := (hB b xb hxb).2.2.2.2.2
    have e30 : A.1 (Q + 30) i = (hgt (M i) : Int) := vA.2.2.2 i o1 o2
    have hf := c_falls hQ hi (hJP.1.2 i x hx).1
    unfold ja_X9_spreadTypes
    rw [if_pos i1024, hv.1, (jc_Qp hQ).2.2.2.2.2.1, Int.toNat_natCast, e29, lt_eq, if_pos (in_i (N := 48) (by omega)), lt_eq, (jc_Qf hQ).2.2.2.2, (jcB hQ).2.2.2, Int.toNat_natCast, e16, wi20 hi, if_pos (by omega), lt_eq, jc_86_3, jc_86_6, Int.toNat_natCast, ← hA, vA.1, ht, bd_some, vA.1, hl, bd_some, (jc_Qp hQ).2.2.2.2.2.2.1, e30, wisub (by omega) (by omega), wiadd (by omega), ← hg, lt_eq, p1, bd_some, vP.1, hf, bd_some, w_nat1 (by omega)]
  -- after the arrows
  have htail : ∀ (T : nk_S) (X1 : jX) (W1 : Nat → Bool) (c1 : Bool), tFs S T → cTv T Q (ns, us, fl, bl, z, el) e M → cTm xb.lc.toNat M e T X1 W1 c1 → tSt us fl bl z b xb M e i u (fun j w => ∃ v, tPf fl bl z.2.1 x (hgt (M i)) u = some v ∧ w = rst xb.lc.toNat (hgt (M j)) v ∧ ((fal x.1 = true ∧ j = i + 1) ∨ (19 ≤ x.1 ∧ x.1 ≤ 29 ∧ j = x.2.1.toNat))) X1 W1 → tGo X W ch X1 W1 c1 → ∃ S' X' W' ch', ja_X9_spreadTypes_b114 86 (i : Int) (b : Int) xb.lc T = some (0, S') ∧ tFs S S' ∧ cTm xb.lc.toNat M e S' X' W' ch' ∧ tInv us fl bl z b xb M e X' ∧ (∀ i', W' i' = false → tCl us fl bl z b xb.lc.toNat M X' i') ∧ tGo X W ch X' W' ch' := by
    intro T X1 W1 c1 FT vT mT sT gT
    obtain ⟨bm, hbm⟩ := big_ge 100 (by decide)
    have hDn : ∀ j w, (∃ v, tPf fl bl z.2.1 x (hgt (M i)) u = some v ∧ w = rst xb.lc.toNat (hgt (M j)) v ∧ ((fal x.1 = true ∧ j = i + 1) ∨ (19 ≤ x.1 ∧ x.1 ≤ 29 ∧ j = x.2.1.toNat))) → ∀ k, tV us (w k) := fun j w hd k => ((tEd_row h o1 o2 hx o3 uv (Or.inl hd)).2.2.2 k).1
    have hcs := hw.2.2.2.2.1
    have hce := hw.2.2.2.2.2.1
    have h64 := h.2.2.2.2.2.2.2.2.2.2.2.2.2.2.2.2
    obtain ⟨S', X', W', c', q1, q2, q3, q4, q5⟩ := c_tcat hQ h he hb48 hx uv hDn (e.2.2.2 - e.2.2.1) e.2.2.1 nk_big X1 W1 c1 T vT mT (tSt_w sT (Or.inr fun j w hd => by
      rcases hd with g | ⟨k', y', g1, g2, -⟩
      · exact g
      · omega)) (Nat.le_refl _) (by omega) (by omega)
    have hE : cEl T Q el := vT.2.2.1.2.2.2.2.2.2.1
    refine ⟨S', X', W', c', ?_, tFs_trans FT q2, q3, q4.1, fun i' hi' => ?_, tGo_trans gT q5⟩
    · unfold ja_X9_spreadTypes_b114
      rw [if_pos (in_i (N := 48) (by omega)), vT.1, (jc_Qf hQ).2.2.2.2, (jc_Qb hQ).2.2.2.1, Int.toNat_natCast, (hE b e he).2.2.1, lt_eq]
      exact q1
    · by_cases c : i' = i
      · subst c
        rcases q4.2.2.2 with r | ⟨r1, r2⟩
        · rw [hi'] at r; cases r
        · intro x' u' hx' hu' j w hE'
          rw [hx] at hx'
          cases hx'
          rw [r1] at hu'
          cases hu'
          refine r2 j w ?_
          rcases hE' with g | ⟨k, y, y1, y2, y3, y4, y5, y6⟩
          · exact Or.inl g
          · obtain ⟨r3, r4⟩ := (hw.2.2.2.2.2.2.1 k y y1).mp y2
            exact Or.inr ⟨k, y, r3, r4, y1, y3, y4, y5, y6⟩
      · exact q4.2.2.1 i' c hi'
  rw [hstart]
  clear hstart
  have s0 : tSt us fl bl z b xb M e i u (fun _ _ => False) X W := ⟨hX, ⟨u, hXi⟩, hC, Or.inr ⟨hXi, fun j w hd => hd.elim⟩⟩
  cases hp : tPf fl bl z.2.1 x (hgt (M i)) u with
  | none =>
    rw [if_pos (show bi (none : Option (Nat → Int)).isSome = 0 from rfl)]
    exact htail P X W ch FP vP mP (tSt_w s0 (Or.inr fun j w hd => by
      obtain ⟨v, v1, -⟩ := hd
      rw [hp] at v1; cases v1)) (tGo_rfl X W ch)
  | some v =>
    rw [if_neg (show ¬ bi (some v).isSome = 0 from fun q => by cases q)]
    rw [hp] at p4
    have p4' := p4 v rfl
    -- the next instruction
    obtain ⟨B, X1, W1, c1, b1, b2, b3, b4, b5, b6, b7⟩ : ∃ B X1 W1 c1, (if bi (fal x.1) = 0 then ja_X9_spreadTypes_b99 86 (i : Int) (b : Int) xb.lc (g : Int) P else nk_bd (ja_X9_arrive 86 ((i + 1 : Nat) : Int) xb.lc (g : Int) P) fun r36 S37 => ja_X9_spreadTypes_b99 86 (i : Int) (b : Int) xb.lc (g : Int) S37) = ja_X9_spreadTypes_b99 86 (i : Int) (b : Int) xb.lc (g : Int) B ∧ tFs S B ∧ cTv B Q (ns, us, fl, bl, z, el) e M ∧ cTm xb.lc.toNat M e B X1 W1 c1 ∧ tSt us fl bl z b xb M e i u (fun j w => fal x.1 = true ∧ j = i + 1 ∧ w = rst xb.lc.toNat (hgt (M j)) v) X1 W1 ∧ tGo X W ch X1 W1 c1 ∧ B.1 91 = P.1 91 := by
      cases hfa : fal x.1 with
      | false =>
        rw [if_pos (show bi false = 0 from rfl)]
        exact ⟨P, X, W, ch, rfl, FP, vP, mP, tSt_w s0 (Or.inr fun j w hd => by cases hd.1), tGo_rfl X W ch, rfl⟩
      | true =>
        rw [if_neg (show ¬ bi true = 0 by decide)]
        obtain ⟨k1, k2⟩ := gk hfa
        obtain ⟨B, X1, W1, c1, b1, b2, b3, b4, b5, b6⟩ := c_arrow hQ h vP mP s0 (fun j w hd => hd.elim) hx uv hB1 (j := i + 1) (v := v) (Or.inl ⟨v, hp, rfl, Or.inl ⟨hfa, rfl⟩⟩) (fun k hk => by rw [k2] at hk; exact p4' k hk)
        rw [k2] at b1
        refine ⟨B, X1, W1, c1, by rw [b1, bd_some], tFs_trans FP (tFs_F b2), b3, b4, tSt_w b5 (Or.inr fun j w hd => ?_), b6, b2.2.1 91 (by decide) (by decide) (by decide) (by decide)⟩
        exact Or.inr ⟨hd.2.1, by rw [hd.2.2, hd.2.1]⟩
    rw [b1]
    have hJB : cJL B Q z := b3.2.2.1.2.2.2.2.2.2.2.2.1
    obtain ⟨d1, d2, -⟩ := hJB.1.2 i x hx
    unfold ja_X9_spreadTypes_b99
    rw [b3.1, c_target hQ hi d1 d2 hcw.1, bd_some]
    by_cases c : 19 ≤ x.1 ∧ x.1 ≤ 29
    · rw [if_pos c]
      obtain ⟨k1, k2⟩ := gt c
      obtain ⟨tt, q1, q2, q3⟩ := hcw.2.1 ((fK4 x.1 hcw.1).mpr c)
      have htt : x.2.1 = ((x.2.1.toNat : Nat) : Int) := by rw [q1, Int.toNat_natCast]
      have hD1 : ∀ j w, (fal x.1 = true ∧ j = i + 1 ∧ w = rst xb.lc.toNat (hgt (M j)) v) → ∀ k, tV us (w k) := fun j w hd k => ((tEd_row h o1 o2 hx o3 uv (Or.inl ⟨v, hp, hd.2.2, Or.inl ⟨hd.1, hd.2.1⟩⟩)).2.2.2 k).1
      obtain ⟨T, X2, W2, c2, e1, e2, e3, e4, e5, e6⟩ := c_arrow hQ h b3 b4 b5 hD1 hx uv hB1 (j := x.2.1.toNat) (v := v) (Or.inl ⟨v, hp, rfl, Or.inr ⟨c.1, c.2, rfl⟩⟩) (fun k hk => by rw [k2] at hk; rw [b7]; exact p4' k hk)
      rw [k2, ← htt] at e1
      rw [e1, bd_some]
      refine htail T X2 W2 c2 (tFs_trans b2 (tFs_F e2)) e3 e4 (tSt_w e5 (Or.inr fun j w hd => ?_)) (tGo_trans b6 e6)
      obtain ⟨v', f1, f2, f3⟩ := hd
      rw [hp] at f1
      cases f1
      rcases f3 with ⟨f3, f4⟩ | ⟨f3, f4, f5⟩
      · exact Or.inl ⟨f3, f4, f2⟩
      · exact Or.inr ⟨f5, by rw [f2, f5]⟩
    · rw [if_neg c, c_arrN, bd_some]
      refine htail B X1 W1 c1 b2 b3 b4 (tSt_w b5 (Or.inr fun j w hd => ?_)) b6
      obtain ⟨v', f1, f2, f3⟩ := hd
      rw [hp] at f1
      cases f1
      rcases f3 with ⟨f3, f4⟩ | ⟨f3, f4, f5⟩
      · exact ⟨f3, f4, f2⟩
      · exact absurd ⟨f3, f4⟩ c
theorem c_tsw (hQ : Q = 13 ∨ Q = 49) (h : tCx ns us fl bl z b xb e M) (he : el[b]? = some e) {rec117 : Nat → Int → Int → Int → nk_S → Option (Int × nk_S)} {r : Int} : ∀ (d i m : Nat) (X : jX) (W : Nat → Bool) (ch : Bool) (S : nk_S), cTv S Q (ns, us, fl, bl, z, el) e M → cTm xb.lc.toNat M e S X W ch → tInv us fl bl z b xb M e X → (∀ i', W i' = false → tCl us fl bl z b xb.lc.toNat M X i') → tWX X W → e.1 ≤ i → i + d = e.2.1 → d < m → ∃ S' X' W' ch', ja_X9_wrongType_L141 rec117 m 86 (e.1 : Int) (e.2.1 : Int) r (i : Int) S = rec117 86 (e.1 : Int) (e.2.1 : Int) (nk_W (r + 1)) S' ∧ tFs S S' ∧ cTm xb.lc.toNat M e S' X' W' ch' ∧ tInv us fl bl z b xb M e X' ∧ (∀ i', W' i' = false → tCl us fl bl z b xb.lc.toNat M X' i') ∧ tWX X' W' ∧ tMs X' ≤ tMs X ∧ (ch' = true → ch = true ∨ tMs X' < tMs X) ∧ (ch' = false → ch = false ∧ X' = X ∧ ∀ j, W' j = true → W j = true ∧ ¬ (i ≤ j ∧ j < e.2.1)) := by
  intro d
  induction d with
  | zero =>
    intro i m X W ch S hv hm hX hC hWX h0 h1 h2
    obtain ⟨m, rfl⟩ : ∃ q, m = q + 1 := ⟨m - 1, by omega⟩
    refine ⟨S, X, W, ch, ?_, tFs_rfl, hm, hX, hC, hWX, Nat.le_refl _, Or.inl, fun hc => ⟨hc, rfl, fun j hj => ⟨hj, by omega⟩⟩⟩
    show ja_X9_wrongType_b141 rec117 (ja_X9_wrongType_L141 rec117 m) 86 (e.1 : Int) (e.2.1 : Int) r (i : Int) S = _
    unfold ja_X9_wrongType_b141
    rw [if_pos (by omega), lt_eq]
  | succ d ih =>
    intro i m X W ch S hv hm hX hC hWX h0 h1 h2
    obtain ⟨m, rfl⟩ : ∃ q, m = q + 1 := ⟨m - 1, by omega⟩
    have hlen := h.1.2.2.1
    have h1024 := h.2.2.2.2.2.2.2.2.2.2.2.2.2.2.1
    obtain ⟨x, hx⟩ : ∃ x, z.1[i]? = some x := ⟨z.1[i]'(by omega), List.getElem?_eq_getElem (by omega)⟩
    have i1024 : (0 : Int) ≤ (i : Int) ∧ (i : Int) < 1024 := in_i (N := 1024) (by omega)
    have h90 := (hm.1 i h0 (by omega)).2
    have hstep : ja_X9_wrongType_L141 rec117 (m + 1) 86 (e.1 : Int) (e.2.1 : Int) r (i : Int) S = if bi (W i) = 0 then ja_X9_wrongType_L141 rec117 m 86 (e.1 : Int) (e.2.1 : Int) r ((i + 1 : Nat) : Int) S else nk_bd (ja_X9_spreadTypes 86 (i : Int) (nk_wi S 90 i 0)) fun r9 S10 => ja_X9_wrongType_L141 rec117 m 86 (e.1 : Int) (e.2.1 : Int) r ((i + 1 : Nat) : Int) S10 := by
      show ja_X9_wrongType_b141 rec117 (ja_X9_wrongType_L141 rec117 m) 86 (e.1 : Int) (e.2.1 : Int) r (i : Int) S = _
      unfold ja_X9_wrongType_b141
      rw [if_neg (by omega), if_pos i1024, jc_86_5, Int.toNat_natCast, h90, w_nat1 (by omega)]
      simp only [lt_eq]
    cases hWi : W i with
    | false =>
      rw [hWi, if_pos (show bi false = 0 from rfl)] at hstep
      obtain ⟨S', X', W', c', q1, q2, q3, q4, q5, q6, q7, q8, q9⟩ := ih (i + 1) m X W ch S hv hm hX hC hWX (by omega) (by omega) (by omega)
      refine ⟨S', X', W', c', by rw [hstep]; exact q1, q2, q3, q4, q5, q6, q7, q8, fun hc => ?_⟩
      obtain ⟨y1, y2, y3⟩ := q9 hc
      refine ⟨y1, y2, fun j hj => ⟨(y3 j hj).1, fun hh => ?_⟩⟩
      by_cases cj : j = i
      · have := (y3 j hj).1
        rw [cj, hWi] at this; cases this
      · exact (y3 j hj).2 ⟨by omega, hh.2⟩
    | true =>
      rw [hWi, if_neg (show ¬ bi true = 0 by decide)] at hstep
      obtain ⟨u, hu⟩ := hWX i hWi
      obtain ⟨A, hA⟩ : ∃ A, A = nk_wi S 90 i 0 := ⟨_, rfl⟩
      rw [← hA] at hstep
      have FA : tFs S A := ⟨by rw [hA]; rfl, fun a _ _ _ y _ => by rw [hA, wi_n y], fun j _ => by rw [hA, wi_n (by decide)]⟩
      obtain ⟨W0, hW0⟩ : ∃ W0 : Nat → Bool, W0 = fun j => if j = i then false else W j := ⟨_, rfl⟩
      have mA : cTm xb.lc.toNat M e A X W0 ch := by
        obtain ⟨m1, m2, m3⟩ := hm
        refine ⟨fun j a1 a2 => ?_, fun j u' hj k hk => by rw [hA, wi_n (by decide)]; exact m2 j u' hj k hk, by rw [hA, wi_n (by decide)]; exact m3⟩
        rw [hA, wi_n (by decide), wi_at, hW0]
        dsimp only
        by_cases cj : j = i
        · rw [if_pos cj, if_pos cj]; exact ⟨(m1 j a1 a2).1, rfl⟩
        · rw [if_neg cj, if_neg cj]; exact m1 j a1 a2
      have CA : ∀ i', i' ≠ i → W0 i' = false → tCl us fl bl z b xb.lc.toNat M X i' := fun i' hi' hw' => by
        rw [hW0] at hw'
        dsimp only at hw'
        rw [if_neg hi'] at hw'
        exact hC i' hw'
      have XA : tWX X W0 := fun j hj => by
        rw [hW0] at hj
        dsimp only at hj
        by_cases cj : j = i
        · rw [if_pos cj] at hj; cases hj
        · rw [if_neg cj] at hj; exact hWX j hj
      obtain ⟨T, X1, W1, c1, t1, t2, t3, t4, t5, t6⟩ := c_spr hQ h he hx (cTv_s hQ FA hv) mA hX hu CA
      rw [t1, bd_some] at hstep
      obtain ⟨S', X', W', c', q1, q2, q3, q4, q5, q6, q7, q8, q9⟩ := ih (i + 1) m X1 W1 c1 T (cTv_s hQ (tFs_trans FA t2) hv) t3 t4 t5 (t6.2.2.2.2 XA) (by omega) (by omega) (by omega)
      obtain ⟨g1, g2, g3, g4, g5⟩ := t6
      refine ⟨S', X', W', c', by rw [hstep]; exact q1, tFs_trans FA (tFs_trans t2 q2), q3, q4, q5, q6, by omega, fun hc => ?_, fun hc => ?_⟩
      · rcases q8 hc with y | y
        · rcases g2 y with y' | y'
          · exact Or.inl y'
          · right; omega
        · right; omega
      · obtain ⟨y1, y2, y3⟩ := q9 hc
        obtain ⟨f1, f2, f3⟩ := g3 y1
        refine ⟨f1, y2.trans f2, fun j hj => ?_⟩
        obtain ⟨x1, x2⟩ := y3 j hj
        rw [f3, hW0] at x1
        dsimp only at x1
        by_cases cj : j = i
        · rw [if_pos cj] at x1; cases x1
        · rw [if_neg cj] at x1
          exact ⟨x1, fun hh => x2 ⟨by omega, hh.2⟩⟩
theorem c_tro (hQ : Q = 13 ∨ Q = 49) (h : tCx ns us fl bl z b xb e M) (he : el[b]? = some e) : ∀ (n m r : Nat) (X : jX) (W : Nat → Bool) (ch : Bool) (S : nk_S), cTv S Q (ns, us, fl, bl, z, el) e M → cTm xb.lc.toNat M e S X W ch → tInv us fl bl z b xb M e X → (∀ i', W i' = false → tCl us fl bl z b xb.lc.toNat M X i') → tWX X W → (ch = false → ∀ j, W j = false) → tMs X < n → n < m → r + n < 10000000 → ∃ S' X' W', ja_X9_wrongType_L117 m 86 (e.1 : Int) (e.2.1 : Int) (r : Int) S = ja_X9_wrongType_L190 nk_big 86 (e.2.1 : Int) (e.1 : Int) S' ∧ tFs S S' ∧ cTm xb.lc.toNat M e S' X' W' false ∧ tInv us fl bl z b xb M e X' ∧ ∀ i', tCl us fl bl z b xb.lc.toNat M X' i' := by
  intro n
  induction n with
  | zero => intro m r X W ch S _ _ _ _ _ _ h1; omega
  | succ n ih =>
    intro m r X W ch S hv hm hX hC hWX hch h1 h2 h3
    obtain ⟨m, rfl⟩ : ∃ q, m = q + 1 := ⟨m - 1, by omega⟩
    have hlt := h.1.2.1
    have hlen := h.1.2.2.1
    have h1024 := h.2.2.2.2.2.2.2.2.2.2.2.2.2.2.1
    have hend : ∀ (m : Nat) (r : Nat) (T : nk_S), r < 10000000 → T.1 86 7 = bi false → ja_X9_wrongType_L117 (m + 1) 86 (e.1 : Int) (e.2.1 : Int) (r : Int) T = ja_X9_wrongType_L190 nk_big 86 (e.2.1 : Int) (e.1 : Int) T := by
      intro m r T hr hT
      show ja_X9_wrongType_b117 (ja_X9_wrongType_L117 m) 86 (e.1 : Int) (e.2.1 : Int) (r : Int) T = _
      unfold ja_X9_wrongType_b117
      rw [if_neg (by omega), hT, if_pos (show bi false = 0 from rfl)]
    cases ch with
    | false => exact ⟨S, X, W, hend m r S (by omega) hm.2.2, tFs_rfl, hm, hX, fun i' => hC i' (hch rfl i')⟩
    | true =>
      obtain ⟨A, hA⟩ : ∃ A, A = nk_wi S 86 7 0 := ⟨_, rfl⟩
      have FA : tFs S A := ⟨by rw [hA]; rfl, fun a x _ _ _ _ => by rw [hA, wi_n x], fun j hj => by rw [hA, wi_at, if_neg hj]⟩
      have mA : cTm xb.lc.toNat M e A X W false := by
        obtain ⟨m1, m2, m3⟩ := hm
        exact ⟨fun j a1 a2 => by rw [hA, wi_n (by decide), wi_n (by decide)]; exact m1 j a1 a2, fun j u' hj k hk => by rw [hA, wi_n (by decide)]; exact m2 j u' hj k hk, by rw [hA, wi_at, if_pos rfl]; rfl⟩
      obtain ⟨bm, hbm⟩ := big_ge 2000 (by decide)
      obtain ⟨T, X1, W1, c1, t1, t2, t3, t4, t5, t6, t7, t8, t9⟩ := c_tsw hQ h he (rec117 := ja_X9_wrongType_L117 m) (r := (r : Int)) (e.2.1 - e.1) e.1 nk_big X W false A (cTv_s hQ FA hv) mA hX hC hWX (Nat.le_refl _) (by omega) (by omega)
      have hstep : ja_X9_wrongType_L117 (m + 1) 86 (e.1 : Int) (e.2.1 : Int) (r : Int) S = ja_X9_wrongType_L117 m 86 (e.1 : Int) (e.2.1 : Int) ((r + 1 : Nat) : Int) T := by
        show ja_X9_wrongType_b117 (ja_X9_wrongType_L117 m) 86 (e.1 : Int) (e.2.1 : Int) (r : Int) S = _
        unfold ja_X9_wrongType_b117
        rw [if_neg (by omega), hm.2.2, if_neg (show ¬ bi true = 0 by decide), lt_eq, ← hA, t1, show (r : Int) + 1 = ((r + 1 : Nat) : Int) by omega, nk_W_id (by omega) (by omega)]
      cases c1 with
      | false =>
        obtain ⟨-, y2, y3⟩ := t9 rfl
        have hW1 : ∀ j, W1 j = false := by
          intro j
          cases hj : W1 j with
          | false => rfl
          | true =>
            obtain ⟨x1, x2⟩ := y3 j hj
            obtain ⟨u, hu⟩ := hWX j x1
            obtain ⟨o1, o2, -⟩ := hX.1 j u hu
            exact absurd ⟨o1, o2⟩ x2
        obtain ⟨m, rfl⟩ : ∃ q, m = q + 1 := ⟨m - 1, by omega⟩
        exact ⟨T, X1, W1, by rw [hstep]; exact hend m (r + 1) T (by omega) t3.2.2, tFs_trans FA t2, t3, t4, fun i' => t5 i' (hW1 i')⟩
      | true =>
        have hlt2 : tMs X1 < tMs X := by
          rcases t8 rfl with y | y
          · cases y
          · exact y
        obtain ⟨S', X', W', q1, q2, q3, q4, q5⟩ := ih m (r + 1) X1 W1 true T (cTv_s hQ (tFs_trans FA t2) hv) t3 t4 t5 t6 (fun hf => by cases hf) (by omega) (by omega) (by omega)
        exact ⟨S', X', W', by rw [hstep]; exact q1, tFs_trans FA (tFs_trans t2 q2), q3, q4, q5⟩
end CRO
