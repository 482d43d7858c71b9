/-! The reference's rounds: bodies are begun; a round, whole. -/
/-- at the head of a round -/
def hdI (F : Int → Prop) (dn up : Int → Int) (ns : List (List Int)) (us : List Int) (fl : List (List Int × Nat × Int)) (bl : List jB) (z : jL) (el : List (Nat × Nat × Nat × Nat)) (H lc : Nat → Nat) (ty : Nat → Option (Nat → Int)) (m0 P : Nat) (S : nk_S) (A : jA) (D : Nat → Bool) (σ : jG) (R : jA) : Prop := rdI F dn up ns us fl bl z el H lc ty m0 P S A D σ R ∧ (S.1 121 37 = 1 ∨ ∀ i x u, z.1[i]? = some x → A i = some u → D i = true ∨ rkD (dn, up, (ns, us, fl, bl, z, el), H) lc P S A σ R i x u) ∧ (S.1 121 36 = 0 → S.1 121 37 = 0 → (∀ i, D i = false) ∧ rdE el A R)
section RBS
variable {ns : List (List Int)} {us : List Int} {fl : List (List Int × Nat × Int)} {bl : List jB} {z : jL} {el : List (Nat × Nat × Nat × Nat)} {F : Int → Prop} {dn up : Int → Int} {H lc : Nat → Nat} {ty : Nat → Option (Nat → Int)} {th : Nat → Int} {n P m0 M0 : Nat} {σ : jG} {S : nk_S} {A R : jA} {D : Nat → Bool} {vc : Int}
theorem rkI_121 (hP : P = 122 ∨ P = 168) {S' : nk_S} (tn : ∀ a, a ≠ 121 → S'.1 a = S.1 a) (hI : rkI F dn up ns us fl bl z el H lc ty m0 P S A D σ R) : rkI F dn up ns us fl bl z el H lc ty m0 P S' A D σ R := by
  obtain ⟨i1, i2, i3, i4, i5, i6⟩ := hI
  exact ⟨rPv_c (fun a h1 h2 => tn a (by omega)) (tn 224 (by omega)) i1, rAm_c (fun a h1 h2 => tn a (by omega)) i2, fun j hj => by rw [tn 238 (by omega)]; exact i3 j hj, rGm_c (fun a h1 h2 => tn a (by omega)) i4, rRm_c (fun a h1 h2 => tn a (by omega)) i5, i6⟩
/-- what changes when bodies are begun -/
def bgF (P : Nat) (S S' : nk_S) : Prop := S'.2 = S.2 ∧ (∀ a, ¬ (P + 27 ≤ a ∧ a ≤ P + 36) → (a < 229 ∨ 238 < a) → a ≠ 121 → S'.1 a = S.1 a) ∧ ∀ f, f ≠ 36 → S'.1 121 f = S.1 121 f
theorem rd_L174 (hk : rKx F th n dn up ns us fl bl z el H lc ty P) {rc : Nat → Nat → nk_S → Option (Int × nk_S)} : ∀ (d b m : Nat) (S : nk_S) (A : jA) (D : Nat → Bool), b + d = bl.length → d < m → rkI F dn up ns us fl bl z el H lc ty m0 P S A D σ R → (∀ b' e r, b' < b → el[b']? = some e → R b' = some r → ∃ t, A e.1 = some t ∧ qLe r t) → ∃ S' A' D', ja_X13_prove_L174 rc m 121 P vc (b : Int) S = ja_X13_prove_L205 rc nk_big 121 P vc 0 S' ∧ bgF P S S' ∧ rkI F dn up ns us fl bl z el H lc ty m0 P S' A' D' σ R ∧ aCh th n A D A' D' ∧ aCg th n S A S' A' ∧ ∀ b' e r, b' < bl.length → el[b']? = some e → R b' = some r → ∃ t, A' e.1 = some t ∧ qLe r t := by
  have hP := hk.1
  have hb48 := hk.2.2.2.2.2.2.2.1
  obtain ⟨-, -, -, -, -, j51, -⟩ := jc_Pv hP
  intro d
  induction d with
  | zero =>
    intro b m S A D h1 h2 hI hE
    obtain ⟨m, rfl⟩ : ∃ q, m = q + 1 := ⟨m - 1, by omega⟩
    obtain rfl : b = bl.length := by omega
    refine ⟨S, A, D, ?_, ⟨rfl, fun _ _ _ _ => rfl, fun _ _ => rfl⟩, hI, aCh_rfl, aCg_rfl, hE⟩
    have hl : S.1 P 2 = (bl.length : Int) := hI.1.1.2.2.2.2.1
    show ja_X13_prove_b174 rc (ja_X13_prove_L174 rc m) 121 P vc (bl.length : Int) S = _
    unfold ja_X13_prove_b174
    rw [hl, if_pos (Int.le_refl _)]
  | succ d ih =>
    intro b m S A D h1 h2 hI hE
    obtain ⟨m, rfl⟩ : ∃ q, m = q + 1 := ⟨m - 1, by omega⟩
    have es : ∀ _ : Unit, nk_w ((b : Int) + 1) = ((b + 1 : Nat) : Int) := fun _ => w_nat1 (by omega)
    have hl : S.1 P 2 = (bl.length : Int) := hI.1.1.2.2.2.2.1
    obtain ⟨y, hy⟩ : ∃ y, bl[b]? = some y := ⟨_, List.getElem?_eq_getElem (by omega)⟩
    have hbg := (hI.2.2.2.2.1 b y hy).1
    have head : ja_X13_prove_L174 rc (m + 1) 121 P vc (b : Int) S = ja_X13_prove_b174 rc (ja_X13_prove_L174 rc m) 121 P vc (b : Int) S := rfl
    rw [head]
    cases hR : R b with
    | none =>
      have e1 : ja_X13_prove_b174 rc (ja_X13_prove_L174 rc m) 121 P vc (b : Int) S = ja_X13_prove_L174 rc m 121 P vc ((b + 1 : Nat) : Int) S := by
        unfold ja_X13_prove_b174
        rw [hl, if_neg (by omega), if_pos (in_i (N := 48) (by omega)), j51, Int.toNat_natCast, hbg, hR, if_pos (show bi (none : Option jQ).isSome = 0 from rfl), es (), lt_eq]
      rw [e1]
      refine ih (b + 1) m S A D (by omega) (by omega) hI (fun b' e r q1 q2 q3 => ?_)
      by_cases eb : b' = b
      · rw [eb, hR] at q3; cases q3
      · exact hE b' e r (by omega) q2 q3
    | some r =>
      obtain ⟨y', e, x', t', a1, a2, a3, a4, a5, a6, a7, a8, a9⟩ := hI.2.2.2.2.2.2.2.2 b r hR
      obtain ⟨S1, c, g1, g2, g3, g4, g5⟩ := rk_begin hk hI hy a2 hR
      have he1 : e.1 < 1024 := by
        have := at_lt a3
        have := hk.2.2.2.2.1.1
        omega
      have hch := (aCh_arr (W := D) hk.2.2.2.1 he1 hk.2.2.2.2.2.1 (aWf_of hI.2.2.2.2.2.1.1) ⟨a5.1.1, a5.2⟩ g5).1
      obtain ⟨S', A', D', w1, w2, w3, w4, w5, w6⟩ := ih (b + 1) m S1 _ _ (by omega) (by omega) g3 (fun b' e' r' q1 q2 q3 => by
        by_cases eb : b' = b
        · rw [eb, hR] at q3
          cases q3
          rw [eb, a2] at q2
          cases q2
          exact (aLe_arr A e.1 r).2
        · obtain ⟨t, t1, t2⟩ := hE b' e' r' (by omega) q2 q3
          obtain ⟨v, v1, v2⟩ := hch.1 _ t t1
          exact ⟨v, v1, qLe_trans t2 v2⟩)
      refine ⟨S', A', D', ?_, ⟨by rw [w2.1, g2.1], fun a q1 q2 q3 => by rw [w2.2.1 a q1 q2 q3, g2.2.1 a q1 q2 q3], fun f q => by rw [w2.2.2 f q, g2.2.2 f q]⟩, w3, aCh_trans hch w4, aCg_trans (aCg_c hch g4 g5) w5, w6⟩
      rw [← w1]
      unfold ja_X13_prove_b174
      rw [hl, if_neg (by omega), if_pos (in_i (N := 48) (by omega)), j51, Int.toNat_natCast, hbg, hR, if_neg (show ¬ bi (some r).isSome = 0 from (show ¬ (1 : Int) = 0 by decide)), g1, bd_some, es (), lt_eq]
/-- bodies are begun: the instructions may be looked at -/
theorem rd_begun (hk : rKx F th n dn up ns us fl bl z el H lc ty P) {T S1 : nk_S} {A1 : jA} {D1 : Nat → Bool} (hT : T.1 121 36 = 0 ∧ T.1 121 37 = 0) (hT7 : ∀ a, a = P + 37 ∨ a = P + 38 → T.1 a = S.1 a) (hI : rdI F dn up ns us fl bl z el H lc ty m0 P S A D σ R) (hv : vc = 0 → ∀ i x u, z.1[i]? = some x → A i = some u → D i = true ∨ rkD (dn, up, (ns, us, fl, bl, z, el), H) lc P S A σ R i x u) (g1 : bgF P T S1) (g2 : rkI F dn up ns us fl bl z el H lc ty m0 P S1 A1 D1 σ R) (g3 : aCh th n A D A1 D1) (g4 : aCg th n T A S1 A1) (g5 : ∀ b' e r, b' < bl.length → el[b']? = some e → R b' = some r → ∃ t, A1 e.1 = some t ∧ qLe r t) : rdI F dn up ns us fl bl z el H lc ty m0 P S1 A1 D1 σ R ∧ rdK th n (dn, up, (ns, us, fl, bl, z, el), H) lc P vc (rdM th n A σ R) 0 S1 A1 D1 σ R := by
  obtain ⟨i1, i2, i3, i4, i5⟩ := hI
  have hP := hk.1
  have s37 : S1.1 121 37 = 0 := by rw [g1.2.2 37 (by decide)]; exact hT.2
  have c7 : ∀ a, a = P + 37 ∨ a = P + 38 → S1.1 a = S.1 a := fun a ha => by rw [g1.2.1 a (by omega) (by omega) (by omega), hT7 a ha]
  unfold aCg at g4
  rw [hT.1] at g4
  refine ⟨⟨g2, fun j q => ?_, fun j y hy hn => ?_, ?_, Or.inl s37⟩, Or.inr ⟨fun j y v hj hy hv' => ?_, fun b e r q1 q2 => ?_⟩, Or.inr (fun i q => by omega), ?_⟩
  · rcases g3.2.2.2.1 j q with r | r
    · exact aLe_none g3.1 (i2 j r)
    · exact r
  · have hAj : A j = none := Classical.byContradiction fun q => aLe_none g3.1 q hn
    rw [c7 (P + 37) (Or.inl rfl), c7 (P + 38) (Or.inr rfl)]
    exact i3 j y hy hAj
  · rcases g4 with ⟨q, -⟩ | ⟨q, -⟩
    · exact Or.inl q
    · exact Or.inr q
  · have v0 : vc = 0 := hj.resolve_left (by omega)
    by_cases hA : A1 j = A j
    · rw [hA] at hv'
      rcases hv v0 j y v hy hv' with w | ⟨w1, w2, w3⟩
      · exact Or.inl (g3.2.1 j w)
      · refine Or.inr ⟨?_, ?_, rkC_m w3 g3.1⟩
        · rw [c7 (P + 37) (Or.inl rfl)]; exact w1
        · rw [c7 (P + 38) (Or.inr rfl)]; exact w2
    · exact Or.inl (g3.2.2.1 j hA)
  · obtain ⟨y, e', x', t', a1, -⟩ := g2.2.2.2.2.2.2.2.2 b r q2
    exact g5 b e r (at_lt a1) q1 q2
  · unfold rdM
    rcases g4 with ⟨q, ea⟩ | ⟨q, ea⟩
    · rw [ea]
      exact ⟨Nat.le_refl _, Or.inl ⟨q, s37⟩⟩
    · exact ⟨by omega, Or.inr (by omega)⟩
/-- at a round's end -/
theorem rd_end {M0 : Nat} {vc : Int} (hI : rdI F dn up ns us fl bl z el H lc ty m0 P S A D σ R) (hK : rdK th n (dn, up, (ns, us, fl, bl, z, el), H) lc P vc M0 z.1.length S A D σ R) : hdI F dn up ns us fl bl z el H lc ty m0 P S A D σ R := by
  obtain ⟨k1, k2, -⟩ := hK
  refine ⟨hI, ?_, fun h36 h37 => ⟨fun i => nf_t fun q => ?_, ?_⟩⟩
  · rcases k1 with q | ⟨q, -⟩
    · exact Or.inl q
    · exact Or.inr fun i x u hx hu => q i x u (Or.inl (at_lt hx)) hx hu
  · have hn := hI.2.1 i q
    cases hA : A i with
    | none => exact hn hA
    | some u =>
      obtain ⟨x', t', h1, -⟩ := hI.1.2.2.2.2.2.1.1 i u hA
      rcases k2 with r | r
      · rw [h36] at r; exact absurd r (by decide)
      · rw [r i (at_lt h1)] at q; cases q
  · rcases k1 with q | ⟨-, q⟩
    · rw [h37] at q; exact absurd q (by decide)
    · exact q
/-- a round -/
theorem rd_round (hk : rKx F th n dn up ns us fl bl z el H lc ty P) (hfw : ∀ (f : Nat) (y : List Int × Nat × Int), fl[f]? = some y → 8 ≤ y.2.1 ∧ y.2.1 < 32) (hpt : ∀ (b : Nat) (y : jB), bl[b]? = some y → ∀ k, k < y.ps.length → y.ps.getD k 0 = 1 ∨ 2 ≤ y.ps.getD k 0) (hkc : ∀ (k : Nat) (y : Nat × Nat × Nat × Nat × Nat), z.2.2.1[k]? = some y → y.2.2.2.2 < us.length) (hI : hdI F dn up ns us fl bl z el H lc ty m0 P S A D σ R) {rc : Nat → Nat → nk_S → Option (Int × nk_S)} : ∃ S' A' D' σ' R', ja_X13_prove_b157 rc 121 P S = rc 121 P S' ∧ rdF P S S' ∧ hdI F dn up ns us fl bl z el H lc ty m0 P S' A' D' σ' R' ∧ ((S'.1 121 36 = 0 ∧ S'.1 121 37 = 0) ∨ rdM th n A' σ' R' < rdM th n A σ R) := by
  obtain ⟨i1, i2, i3⟩ := hI
  have hP := hk.1
  obtain ⟨bm, hbm⟩ := big_ge 2000 (by decide)
  have hb48 := hk.2.2.2.2.2.2.2.1
  have hz := hk.2.2.2.2.1.1
  obtain ⟨T, hT⟩ : ∃ T, T = nk_wi (nk_wi S 121 36 0) 121 37 0 := ⟨_, rfl⟩
  have tn : ∀ a, a ≠ 121 → T.1 a = S.1 a := fun a h => by rw [hT, wi_n h, wi_n h]
  have tf : ∀ f, f ≠ 36 → f ≠ 37 → T.1 121 f = S.1 121 f := fun f h1 h2 => by rw [hT, wi_at, if_neg h2, wi_at, if_neg h1]
  have t36 : T.1 121 36 = 0 := by rw [hT, wi_at, if_neg (by decide), wi_at, if_pos rfl]
  have t37 : T.1 121 37 = 0 := by rw [hT, wi_at, if_pos rfl]
  obtain ⟨S1, A1, D1, g0, g1, g2, g3, g4, g5⟩ := rd_L174 (vc := S.1 121 37) (rc := rc) (th := th) (n := n) hk bl.length 0 nk_big T A D (by omega) (by omega) (rkI_121 hP tn i1.1) (fun b' e r q => by omega)
  obtain ⟨b1, b2⟩ := rd_begun (S := S) (vc := S.1 121 37) hk ⟨t36, t37⟩ (fun a ha => tn a (by omega)) i1 (fun v0 => by
    rcases i2 with q | q
    · rw [q] at v0; exact absurd v0 (by decide)
    · exact q) g1 g2 g3 g4 g5
  obtain ⟨S', A', D', σ', R', w1, w2, w3, w4⟩ := rd_L205 (rc := rc) hk hfw hpt hkc i1.2.2.2.2 z.1.length 0 nk_big S1 A1 D1 σ R (by omega) (by omega) b1 b2
  have g0 : ja_X13_prove_L174 rc nk_big 121 P (S.1 121 37) 0 T = ja_X13_prove_L205 rc nk_big 121 P (S.1 121 37) 0 S1 := g0
  have w1 : ja_X13_prove_L205 rc nk_big 121 P (S.1 121 37) 0 S1 = rc 121 P S' := w1
  refine ⟨S', A', D', σ', R', ?_, rdF_trans ⟨by rw [g1.1, hT]; rfl, fun a h1 h2 h3 => by rw [g1.2.1 a (by omega) h2 h3, tn a h3], fun f h1 h2 h3 h4 h5 h6 => by rw [g1.2.2 f h2, tf f h2 h3]⟩ w2, rd_end w3 w4, w4.2.2.2⟩
  unfold ja_X13_prove_b157
  rw [lt_eq, lt_eq, lt_eq, ← hT, g0, w1]
/-- all rounds -/
theorem rd_L143 (hk : rKx F th n dn up ns us fl bl z el H lc ty P) (hfw : ∀ (f : Nat) (y : List Int × Nat × Int), fl[f]? = some y → 8 ≤ y.2.1 ∧ y.2.1 < 32) (hpt : ∀ (b : Nat) (y : jB), bl[b]? = some y → ∀ k, k < y.ps.length → y.ps.getD k 0 = 1 ∨ 2 ≤ y.ps.getD k 0) (hkc : ∀ (k : Nat) (y : Nat × Nat × Nat × Nat × Nat), z.2.2.1[k]? = some y → y.2.2.2.2 < us.length) : ∀ (N m : Nat) (S : nk_S) (A : jA) (D : Nat → Bool) (σ : jG) (R : jA), ((S.1 121 36 = 0 ∧ S.1 121 37 = 0) ∨ rdM th n A σ R < N) → N < m → hdI F dn up ns us fl bl z el H lc ty m0 P S A D σ R → ∃ S' A' D' σ' R', ja_X13_prove_L143 m 121 P S = some (0, S') ∧ rdF P S S' ∧ hdI F dn up ns us fl bl z el H lc ty m0 P S' A' D' σ' R' ∧ S'.1 121 36 = 0 ∧ S'.1 121 37 = 0 := by
  intro N
  induction N with
  | zero =>
    intro m S A D σ R h1 h2 hI
    obtain ⟨m, rfl⟩ : ∃ q, m = q + 1 := ⟨m - 1, by omega⟩
    obtain ⟨q1, q2⟩ := h1.resolve_right (by omega)
    refine ⟨S, A, D, σ, R, ?_, rdF_rfl, hI, q1, q2⟩
    show ja_X13_prove_b143 (ja_X13_prove_L143 m) 121 P S = _
    unfold ja_X13_prove_b143
    rw [if_pos q1, if_pos q2]
  | succ N ih =>
    intro m S A D σ R h1 h2 hI
    obtain ⟨m, rfl⟩ : ∃ q, m = q + 1 := ⟨m - 1, by omega⟩
    have head : ja_X13_prove_L143 (m + 1) 121 P S = ja_X13_prove_b143 (ja_X13_prove_L143 m) 121 P S := rfl
    rw [head]
    by_cases c : S.1 121 36 = 0 ∧ S.1 121 37 = 0
    · refine ⟨S, A, D, σ, R, ?_, rdF_rfl, hI, c.1, c.2⟩
      unfold ja_X13_prove_b143
      rw [if_pos c.1, if_pos c.2]
    · have e1 : ja_X13_prove_b143 (ja_X13_prove_L143 m) 121 P S = ja_X13_prove_b157 (ja_X13_prove_L143 m) 121 P S := by
        unfold ja_X13_prove_b143
        by_cases c6 : S.1 121 36 = 0
        · rw [if_pos c6, if_neg (fun q => c ⟨c6, q⟩)]
        · rw [if_neg c6]
      have hm := h1.resolve_left c
      obtain ⟨S1, A1, D1, σ1, R1, g1, g2, g3, g4⟩ := rd_round (rc := ja_X13_prove_L143 m) hk hfw hpt hkc hI
      obtain ⟨S', A', D', σ', R', w1, w2, w3⟩ := ih m S1 A1 D1 σ1 R1 (by
        rcases g4 with q | q
        · exact Or.inl q
        · exact Or.inr (by omega)) (by omega) g3
      exact ⟨S', A', D', σ', R', by rw [e1, g1, w1], rdF_trans g2 w2, w3⟩
end RBS
