/-! Types: the reference's rows. -/
theorem rPg_c {S S' : nk_S} {P : Nat} {p : jP} (k : ∀ a, P ≤ a → a < P + 46 → a ≠ P + 19 → S'.1 a = S.1 a) (k4 : S'.1 224 = S.1 224) (h : rPg S P p) : rPg S' P p := by
  unfold rPg rB0 rEl rPl rCd rSl rKl rTn at h ⊢
  rw [k4, k P (by omega) (by omega) (by omega), k (P + 1) (by omega) (by omega) (by omega), k (P + 2) (by omega) (by omega) (by omega), k (P + 3) (by omega) (by omega) (by omega), k (P + 4) (by omega) (by omega) (by omega), k (P + 5) (by omega) (by omega) (by omega), k (P + 6) (by omega) (by omega) (by omega), k (P + 7) (by omega) (by omega) (by omega), k (P + 8) (by omega) (by omega) (by omega), k (P + 9) (by omega) (by omega) (by omega), k (P + 10) (by omega) (by omega) (by omega), k (P + 11) (by omega) (by omega) (by omega), k (P + 12) (by omega) (by omega) (by omega), k (P + 13) (by omega) (by omega) (by omega), k (P + 14) (by omega) (by omega) (by omega), k (P + 15) (by omega) (by omega) (by omega), k (P + 16) (by omega) (by omega) (by omega), k (P + 17) (by omega) (by omega) (by omega), k (P + 18) (by omega) (by omega) (by omega), k (P + 20) (by omega) (by omega) (by omega), k (P + 21) (by omega) (by omega) (by omega), k (P + 22) (by omega) (by omega) (by omega), k (P + 23) (by omega) (by omega) (by omega), k (P + 24) (by omega) (by omega) (by omega), k (P + 25) (by omega) (by omega) (by omega), k (P + 26) (by omega) (by omega) (by omega)]
  exact h
theorem hgt_8 (m : Nat) : hgt m ≤ 8 := by
  unfold hgt
  repeat' split
  all_goals omega
theorem bi_01 (c : Bool) : bi c = 0 ∨ bi c = 1 := by
  cases c
  · exact Or.inl rfl
  · exact Or.inr rfl
/-- what the reference sees while it looks at a body's types -/
def rTv (S : nk_S) (P : Nat) (p : jP) (e : Nat × Nat × Nat × Nat) (M : Nat → Nat) : Prop := rPg S P p ∧ ∀ i, e.1 ≤ i → i < e.2.1 → M i ≠ 0 → S.1 (P + 19) i = (hgt (M i) : Int)
/-- its rows of types -/
def rTm (M : Nat → Nat) (e : Nat × Nat × Nat × Nat) (S : nk_S) (X : jX) : Prop := (∀ i, e.1 ≤ i → i < e.2.1 → S.1 226 i = bi (X i).isSome) ∧ ∀ i u, X i = some u → ∀ k, k < 12 + hgt (M i) → S.1 227 (i * 20 + k) = rvU (u k)
def rFs (S S' : nk_S) : Prop := S'.2 = S.2 ∧ (∀ a, a ≠ 121 → a ≠ 226 → a ≠ 227 → a ≠ 228 → S'.1 a = S.1 a) ∧ ∀ i, i ≠ 25 → S'.1 121 i = S.1 121 i
theorem rFs_rfl {S : nk_S} : rFs S S := ⟨rfl, fun _ _ _ _ _ => rfl, fun _ _ => rfl⟩
theorem rFs_trans {S1 S2 S3 : nk_S} (h : rFs S1 S2) (k : rFs S2 S3) : rFs S1 S3 := ⟨k.1.trans h.1, fun a x y z w => (k.2.1 a x y z w).trans (h.2.1 a x y z w), fun i x => (k.2.2 i x).trans (h.2.2 i x)⟩
theorem rTv_s {S S' : nk_S} {P : Nat} {p : jP} {e : Nat × Nat × Nat × Nat} {M : Nat → Nat} (hP : P = 122 ∨ P = 168) (h : rFs S S') (hv : rTv S P p e M) : rTv S' P p e M := by
  refine ⟨rPg_c (fun a x y _ => h.2.1 a (by omega) (by omega) (by omega) (by omega)) (h.2.1 224 (by decide) (by decide) (by decide) (by decide)) hv.1, fun i h1 h2 h3 => ?_⟩
  rw [h.2.1 (P + 19) (by omega) (by omega) (by omega) (by omega)]
  exact hv.2 i h1 h2 h3
section MTY
variable {ns : List (List Int)} {us : List Int} {fl : List (List Int × Nat × Int)} {bl : List jB} {z : jL} {el : List (Nat × Nat × Nat × Nat)} {b : Nat} {xb : jB} {e : Nat × Nat × Nat × Nat} {M : Nat → Nat} {P : Nat}
theorem m_tAtL (hP : P = 122 ∨ P = 168) {i g : Nat} (hi : i < 1024) (hg : g ≤ 8) : ∀ (d k m : Nat) (S : nk_S), S.1 (P + 19) i = (g : Int) → k + d = 20 → d < m → ∃ S', ja_X13_typesAt_L2 m 121 P (i : Int) (k : Int) S = some (0, S') ∧ S'.2 = S.2 ∧ (∀ a, a ≠ 121 → a ≠ 228 → S'.1 a = S.1 a) ∧ (∀ j, S'.1 228 j = if k ≤ j ∧ j < 20 then S.1 227 (i * 20 + j) else S.1 228 j) ∧ S'.1 121 25 = ((12 + g : Nat) : Int) ∧ ∀ f, f ≠ 25 → S'.1 121 f = S.1 121 f := by
  intro d
  induction d with
  | zero =>
    intro k m S hh h1 h2
    obtain ⟨m, rfl⟩ : ∃ q, m = q + 1 := ⟨m - 1, by omega⟩
    have hh' : S.1 (P + (26 - 7)) i = (g : Int) := hh
    refine ⟨nk_wi S 121 25 ((12 + g : Nat) : Int), ?_, rfl, fun a x _ => by rw [wi_n x], fun j => by rw [wi_n (by decide), if_neg (by omega)], by rw [wi_at, if_pos rfl], fun f hf => by rw [wi_at, if_neg hf]⟩
    show ja_X13_typesAt_b2 (ja_X13_typesAt_L2 m) 121 P (i : Int) (k : Int) S = _
    unfold ja_X13_typesAt_b2
    rw [if_pos (by omega), if_pos (in_i (N := 1024) (by omega)), lt_eq, (jcP hP 26 (by decide) : ja_c P 26 = P + 19), Int.toNat_natCast, hh', wi12 (by omega)]
  | succ d ih =>
    intro k m S hh h1 h2
    obtain ⟨m, rfl⟩ : ∃ q, m = q + 1 := ⟨m - 1, by omega⟩
    obtain ⟨S', s1, s2, s3, s4, s5, s6⟩ := ih (k + 1) m (nk_wi S 228 k (S.1 227 (i * 20 + k))) (by rw [wi_n (by omega)]; exact hh) (by omega) (by omega)
    refine ⟨S', ?_, s2, fun a x y => by rw [s3 a x y, wi_n y], fun j => ?_, s5, fun f hf => by rw [s6 f hf, wi_n (by decide)]⟩
    · rw [← s1]
      show ja_X13_typesAt_b2 (ja_X13_typesAt_L2 m) 121 P (i : Int) (k : Int) S = _
      unfold ja_X13_typesAt_b2
      rw [if_neg (by omega), wi20 hi, wiadd (by omega), if_pos (in_i (N := 20480) (by omega)), if_pos (in_i (N := 24) (by omega)), lt_eq, lt_eq, jc_121_24, jc_121_23, Int.toNat_natCast, Int.toNat_natCast, w_nat1 (by omega)]
    · rw [s4, wi_n (by decide), wi_at]
      by_cases c : k + 1 ≤ j ∧ j < 20
      · rw [if_pos c, if_pos (by omega)]
      · rw [if_neg c]
        by_cases c2 : j = k
        · rw [if_pos c2, if_pos (by omega), c2]
        · rw [if_neg c2, if_neg (by omega)]
/-- the reference takes the types at an instruction -/
theorem m_tAt (hP : P = 122 ∨ P = 168) {i : Nat} (hi : i < 1024) {S : nk_S} {u : Nat → Int} {X : jX} (hm : rTm M e S X) (hXi : X i = some u) (hh : S.1 (P + 19) i = (hgt (M i) : Int)) : ∃ S', ja_X13_typesAt 121 P (i : Int) S = some (0, S') ∧ rFs S S' ∧ rTm M e S' X ∧ (∀ k, k < 12 + hgt (M i) → S'.1 228 k = rvU (u k)) ∧ S'.1 121 25 = ((12 + hgt (M i) : Nat) : Int) := by
  obtain ⟨bm, hbm⟩ := big_ge 100 (by decide)
  have h8 := hgt_8 (M i)
  obtain ⟨S', s1, s2, s3, s4, s5, s6⟩ := m_tAtL hP hi h8 20 0 nk_big S hh (by omega) (by omega)
  refine ⟨S', s1, ⟨s2, fun a x _ _ y => s3 a x y, s6⟩, ⟨fun j h1 h2 => by rw [s3 226 (by decide) (by decide)]; exact hm.1 j h1 h2, fun j u' hj k hk => by rw [s3 227 (by decide) (by decide)]; exact hm.2 j u' hj k hk⟩, fun k hk => ?_, s5⟩
  rw [s4, if_pos (by omega)]
  exact hm.2 i u hXi k hk
def nwU (us : List Int) (o : Option (Nat → Int)) (w : Nat → Int) (k : Nat) : Bool := match o with
  | none => false
  | some u => decide (tJn us (u k) (w k) ≠ u k)
theorem m_tToL (hP : P = 122 ∨ P = 168) (hu : uOk us) (h32 : us.length ≤ 32) (h1' : 1 ≤ us.length) {j g : Nat} (hj : j < 1024) (hg : g ≤ 8) {o : Option (Nat → Int)} {w : Nat → Int} (ho : ∀ u, o = some u → ∀ k, tV us (u k)) (hw : ∀ k, tV us (w k)) : ∀ (d s m : Nat) (nf : Bool) (S : nk_S), rUs S P us → S.1 (P + 19) j = (g : Int) → S.1 226 j = bi o.isSome → (∀ k, k < 12 + g → S.1 228 k = rvU (w k)) → (∀ u, o = some u → ∀ k, s ≤ k → k < 12 + g → S.1 227 (j * 20 + k) = rvU (u k)) → (o = none → nf = true) → s + d = 12 + g → d < m → ∃ T, ja_X13_typesTo_L18 m 121 P (j : Int) (bi nf) (s : Int) S = some (bi (nf || exR (nwU us o w) d s), nk_wi T 226 j 1) ∧ T.2 = S.2 ∧ (∀ a, a ≠ 227 → T.1 a = S.1 a) ∧ ∀ p, T.1 227 p = if j * 20 + s ≤ p ∧ p < j * 20 + (12 + g) then rvU (nvT us o w (p - j * 20)) else S.1 227 p := by
  intro d
  induction d with
  | zero =>
    intro s m nf S hC hh h26 h28 h27 hn h1 h2
    obtain ⟨m, rfl⟩ : ∃ q, m = q + 1 := ⟨m - 1, by omega⟩
    have hh' : S.1 (P + (26 - 7)) j = (g : Int) := hh
    refine ⟨S, ?_, rfl, fun _ _ => rfl, fun p => by rw [if_neg (by omega)]⟩
    show ja_X13_typesTo_b18 (ja_X13_typesTo_L18 m) 121 P (j : Int) (bi nf) (s : Int) S = _
    unfold ja_X13_typesTo_b18
    rw [if_pos (in_i (N := 1024) (by omega)), (jcP hP 26 (by decide) : ja_c P 26 = P + 19), Int.toNat_natCast, hh', wi12 (by omega), if_pos (by omega), lt_eq, if_pos (bi_01 nf), jc_121_22, exR, Bool.or_false]
  | succ d ih =>
    intro s m nf S hC hh h26 h28 h27 hn h1 h2
    obtain ⟨m, rfl⟩ : ∃ q, m = q + 1 := ⟨m - 1, by omega⟩
    have hh' : S.1 (P + (26 - 7)) j = (g : Int) := hh
    have i24 : (0 : Int) ≤ (s : Int) ∧ (s : Int) < 24 := in_i (N := 24) (by omega)
    have i20480 : (0 : Int) ≤ ((j * 20 + s : Nat) : Int) ∧ ((j * 20 + s : Nat) : Int) < 20480 := in_i (N := 20480) (by omega)
    have hval : ja_X13_typesTo_L18 (m + 1) 121 P (j : Int) (bi nf) (s : Int) S = ja_X13_typesTo_b78 (ja_X13_typesTo_L18 m) 121 P (j : Int) (bi nf) (s : Int) ((j * 20 + s : Nat) : Int) (rvU (nvT us o w s)) S := by
      show ja_X13_typesTo_b18 (ja_X13_typesTo_L18 m) 121 P (j : Int) (bi nf) (s : Int) S = _
      unfold ja_X13_typesTo_b18
      rw [if_pos (in_i (N := 1024) (by omega)), (jcP hP 26 (by decide) : ja_c P 26 = P + 19), Int.toNat_natCast, Int.toNat_natCast, hh', wi12 (by omega), if_neg (by omega), wi20 hj, wiadd (by omega), lt_eq, jc_121_22, jc_121_23, jc_121_24, h26, Int.toNat_natCast, h28 s (by omega)]
      cases o with
      | none => rw [if_pos (show bi (none : Option (Nat → Int)).isSome = 0 from rfl), if_pos i24]; rfl
      | some u =>
        rw [if_neg (show ¬ bi (some u).isSome = 0 from fun h => by cases h), if_pos i20480, if_pos i24, h27 u rfl s (Nat.le_refl _) (by omega), m_join hP hC hu h32 h1' (ho u rfl s) (hw s), bd_some]
        rfl
    obtain ⟨nf', hnf'⟩ : ∃ nf', nf' = (nf || nwU us o w s) := ⟨_, rfl⟩
    have hwr : ja_X13_typesTo_b78 (ja_X13_typesTo_L18 m) 121 P (j : Int) (bi nf) (s : Int) ((j * 20 + s : Nat) : Int) (rvU (nvT us o w s)) S = ja_X13_typesTo_L18 m 121 P (j : Int) (bi nf') ((s + 1 : Nat) : Int) (nk_wi S 227 (j * 20 + s) (rvU (nvT us o w s))) := by
      unfold ja_X13_typesTo_b78 ja_X13_typesTo_b96 ja_X13_typesTo_b101
      rw [jc_121_23, Int.toNat_natCast, if_pos i20480, if_pos i20480, if_pos i20480, lt_eq, lt_eq, w_nat1 (by omega), hnf', lt_eq, lt_eq]
      cases nf with
      | true => rw [if_neg (show ¬ bi true = 0 by decide), Bool.true_or]; rfl
      | false =>
        rw [if_pos (show bi false = 0 from rfl), Bool.false_or]
        cases o with
        | none => exact absurd (hn rfl) (by decide)
        | some u =>
          rw [h27 u rfl s (Nat.le_refl _) (by omega)]
          unfold nvT nwU
          dsimp only
          by_cases c : tJn us (u s) (w s) = u s
          · rw [if_pos (by rw [c]), decide_eq_false (fun h => h c)]; rfl
          · rw [if_neg (fun h => c ((rvU_i h32 (tJn_v hu h32 h1' (ho u rfl s) (hw s)) (ho u rfl s)).mp h)), decide_eq_true c]; rfl
    obtain ⟨A, hA⟩ : ∃ A, A = nk_wi S 227 (j * 20 + s) (rvU (nvT us o w s)) := ⟨_, rfl⟩
    rw [← hA] at hwr
    have an : ∀ a, a ≠ 227 → A.1 a = S.1 a := fun a ha => by rw [hA, wi_n ha]
    obtain ⟨T, t1, t2, t3, t4⟩ := ih (s + 1) m nf' A (fun k hk => by rw [an (P + 1) (by omega)]; exact hC k hk) (by rw [an (P + 19) (by omega)]; exact hh) (by rw [an 226 (by decide)]; exact h26) (fun k hk => by rw [an 228 (by decide)]; exact h28 k hk) (fun u hu' k hk hr => by rw [hA, wi_at, if_neg (by omega)]; exact h27 u hu' k (by omega) hr) (fun h => by rw [hnf', hn h, Bool.true_or]) (by omega) (by omega)
    refine ⟨T, ?_, by rw [t2, hA]; rfl, fun a ha => by rw [t3 a ha, an a ha], fun p => ?_⟩
    · rw [hval, hwr, t1, hnf', exR, Bool.or_assoc]
    · rw [t4, hA, wi_at]
      by_cases c : j * 20 + (s + 1) ≤ p ∧ p < j * 20 + (12 + g)
      · rw [if_pos c, if_pos ⟨by omega, c.2⟩]
      · rw [if_neg c]
        by_cases c2 : p = j * 20 + s
        · rw [if_pos c2, if_pos ⟨by omega, by omega⟩, c2, show j * 20 + s - j * 20 = s by omega]
        · rw [if_neg c2, if_neg (fun h => c ⟨by omega, h.2⟩)]
/-- the reference takes types over an arrow -/
theorem m_tTo (hP : P = 122 ∨ P = 168) (h : tCx ns us fl bl z b xb e M) {S : nk_S} (hv : rTv S P (ns, us, fl, bl, z, el) e M) {X : jX} (hm : rTm M e S X) (hX : tOK us xb.lc.toNat M e X) {j : Nat} (hj1 : e.1 ≤ j) (hj2 : j < e.2.1) (hj0 : M j ≠ 0) {w : Nat → Int} (hr : tRow us xb.lc.toNat (hgt (M j)) w) (h228 : ∀ k, k < 12 + hgt (M j) → S.1 228 k = rvU (w k)) : ∃ S', ja_X13_typesTo 121 P (j : Int) S = some (bi (tNw us X j w), S') ∧ S'.2 = S.2 ∧ (∀ a, a ≠ 226 → a ≠ 227 → S'.1 a = S.1 a) ∧ rTm M e S' (tArr us X j w) := by
  obtain ⟨bm, hbm⟩ := big_ge 100 (by decide)
  have huO := h.2.2.2.1
  have hl := h.2.2.2.2.1
  have h8 := h.2.2.2.2.2.1
  have h32 := h.2.2.2.2.2.2.1
  have hlen := h.1.2.2.1
  have h1024 := h.2.2.2.2.2.2.2.2.2.2.2.2.2.2.1
  have hj : j < 1024 := by omega
  have hC : rUs S P us := fun k hk => hv.1.2.1 k (by show k < ns.length; omega)
  have g8 := hgt_8 (M j)
  have h26 := hm.1 j hj1 hj2
  obtain ⟨T, t1, t2, t3, t4⟩ := m_tToL hP huO (by omega) (by omega) hj g8 (o := X j) (w := w) (fun u hu' k => ((hX j u hu').2.2.2 k).1) (fun k => (hr k).1) (12 + hgt (M j)) 0 nk_big (X j).isNone S hC (hv.2 j hj1 hj2 hj0) h26 h228 (fun u hu' k _ hk => hm.2 j u hu' k hk) (fun q => by rw [q]; rfl) (by omega) (by omega)
  have hnw : ((X j).isNone || exR (nwU us (X j) w) (12 + hgt (M j)) 0) = tNw us X j w := by
    unfold tNw
    cases hq : X j with
    | none => rfl
    | some u =>
      dsimp only
      show (false || exR (nwU us (some u) w) (12 + hgt (M j)) 0) = _
      rw [Bool.false_or, Bool.eq_iff_iff, exR_iff, exB_iff]
      obtain ⟨-, -, -, r4⟩ := hX j u hq
      constructor
      · rintro ⟨k, k1, k2, k3⟩
        exact ⟨k, by omega, k3⟩
      · rintro ⟨k, k1, k2⟩
        refine ⟨k, by omega, ?_, k2⟩
        have k3 := of_decide_eq_true k2
        by_cases c : k < 12 + hgt (M j)
        · omega
        · exfalso
          have nr : ¬ rel xb.lc.toNat (hgt (M j)) k := by
            have := (lc_12 h).1
            unfold rel; omega
          rw [(r4 k).2 nr, (hr k).2 nr] at k3
          exact k3 rfl
  rw [hnw] at t1
  refine ⟨nk_wi T 226 j 1, ?_, t2, fun a x y => by rw [wi_n x, t3 a y], fun i a1 a2 => ?_, fun i u hiu k hk => ?_⟩
  · rw [← t1]
    unfold ja_X13_typesTo
    rw [if_pos (in_i (N := 1024) (by omega)), jc_121_22, Int.toNat_natCast, h26]
    cases X j with
    | none => rw [if_pos (show bi (none : Option (Nat → Int)).isSome = 0 from rfl)]; rfl
    | some u => rw [if_neg (show ¬ bi (some u).isSome = 0 from fun h => by cases h)]; rfl
  · rw [wi_at]
    by_cases c : i = j
    · subst c
      rw [if_pos rfl, tArr_at]; rfl
    · rw [if_neg c, tArr_ne c, t3 226 (by decide)]
      exact hm.1 i a1 a2
  · rw [wi_n (by decide), t4]
    by_cases c : i = j
    · subst c
      rw [if_pos ⟨by omega, by omega⟩, show i * 20 + k - i * 20 = k by omega]
      rw [tArr_at] at hiu
      unfold nvT
      cases hq : X i with
      | none => rw [hq] at hiu; cases hiu; rfl
      | some q => rw [hq] at hiu; cases hiu; rfl
    · rw [tArr_ne c] at hiu
      have := hgt_8 (M i)
      rw [if_neg (by omega)]
      exact hm.2 i u hiu k hk
/-- an arrow, with all that is known -/
theorem m_arrow (hP : P = 122 ∨ P = 168) (h : tCx ns us fl bl z b xb e M) {S : nk_S} (hv : rTv S P (ns, us, fl, bl, z, el) e M) {X : jX} (hm : rTm M e S X) (hX : tInv us fl bl z b xb M e X) {i : Nat} {x : jC} {u : Nat → Int} (hx : z.1[i]? = some x) (hXi : X i = some u) {j : Nat} {w : Nat → Int} (hE : tEd fl bl z b xb.lc.toNat M i x u j w) (h228 : ∀ k, k < 12 + hgt (M j) → S.1 228 k = rvU (w k)) : ∃ S' X' n, ja_X13_typesTo 121 P (j : Int) S = some (bi n, S') ∧ S'.2 = S.2 ∧ (∀ a, a ≠ 226 → a ≠ 227 → S'.1 a = S.1 a) ∧ rTm M e S' X' ∧ tInv us fl bl z b xb M e X' ∧ (∃ u', X' i = some u') ∧ tMs X' ≤ tMs X ∧ (n = true → tMs X' < tMs X) ∧ (n = false → X' = X ∧ ∃ t, X j = some t ∧ vle us w t) := by
  obtain ⟨o1, o2, o3, o4⟩ := hX.1 i u hXi
  have uv : ∀ k, tV us (u k) := fun k => (o4 k).1
  obtain ⟨r1, r2, r3, r4⟩ := tEd_row h o1 o2 hx o3 uv hE
  obtain ⟨a1, a2, t, a3, a4⟩ := tArr_inv h hX o1 o2 hx o3 uv (hX.2.2 i u hXi) hE
  have hlen := h.1.2.2.1
  have h1024 := h.2.2.2.2.2.2.2.2.2.2.2.2.2.2.1
  obtain ⟨n1, n2⟩ := tNw_t h hX.1 (show j < 1024 by omega) r4
  obtain ⟨S', s1, s2, s3, s4⟩ := m_tTo hP h hv hm hX.1 r1 r2 r3 r4 h228
  refine ⟨S', _, _, s1, s2, s3, s4, a1, ?_, n1, n2, fun hn => ?_⟩
  · obtain ⟨t', t1, -⟩ := a2 i u hXi
    exact ⟨t', t1⟩
  · have hne := tNw_f h hX.1 r4 hn
    rw [hne] at a3 ⊢
    exact ⟨rfl, t, a3, a4⟩
end MTY
