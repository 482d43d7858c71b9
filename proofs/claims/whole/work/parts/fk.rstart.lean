/-! The reference's proof: its beginning, and the whole of it. -/
/-- the rows that bodies are begun with, at the beginning -/
def rR0 (mb : Nat) : jA := fun b => if b = mb then some (fun _ => wU) else none
/-- all is done: the reference's rounds have ended -/
def rpE (F : Int → Prop) (dn up : Int → Int) (ns : List (List Int)) (us : List Int) (fl : List (List Int × Nat × Int)) (bl : List jB) (z : jL) (el : List (Nat × Nat × Nat × Nat)) (H lc : Nat → Nat) (ty : Nat → Option (Nat → Int)) (m0 P : Nat) (S : nk_S) (A : jA) (σ : jG) : Prop := rAm H S P A ∧ rGm S P σ ∧ pIn F (dn, up, (ns, us, fl, bl, z, el), H) lc ty m0 A σ ∧ (∀ i, pCl (dn, up, (ns, us, fl, bl, z, el), H) lc A σ i) ∧ ∀ i x, z.1[i]? = some x → (A i = none → S.1 (P + 37) i = 0 ∧ S.1 (P + 38) i = 0) ∧ ∀ u, A i = some u → cI (S.1 (P + 37) i) (fun e => pFd (dn, up, (ns, us, fl, bl, z, el), H) σ x (H i) u e || (decide (e = 9) && !pMv (dn, up, (ns, us, fl, bl, z, el), H) σ x (H i) u)) ∧ cV (S.1 (P + 38) i) (pEs (dn, up, (ns, us, fl, bl, z, el), H) σ i x (H i) u)
section RST
variable {ns : List (List Int)} {us : List Int} {fl : List (List Int × Nat × Int)} {bl : List jB} {z : jL} {el : List (Nat × Nat × Nat × Nat)} {F : Int → Prop} {dn up : Int → Int} {H lc : Nat → Nat} {ty : Nat → Option (Nat → Int)} {th : Nat → Int} {n P m0 : Nat} {S : nk_S}
theorem r_c2 (hP : P = 122 ∨ P = 168) : ∀ (d k m : Nat) (T : nk_S), k + d = 1024 → d < m → T.2 = S.2 → (∀ a, a ≠ P + 27 → a ≠ P + 37 → a ≠ P + 38 → a ≠ 238 → T.1 a = S.1 a) → (∀ i, i < k → T.1 (P + 27) i = 0 ∧ T.1 (P + 37) i = 0 ∧ T.1 (P + 38) i = 0 ∧ T.1 238 i = 0) → ∃ T', ja_X13_prove_L2 m 121 P (k : Int) T = ja_X13_prove_L45 nk_big 121 P 0 T' ∧ T'.2 = S.2 ∧ (∀ a, a ≠ P + 27 → a ≠ P + 37 → a ≠ P + 38 → a ≠ 238 → T'.1 a = S.1 a) ∧ ∀ i, i < 1024 → T'.1 (P + 27) i = 0 ∧ T'.1 (P + 37) i = 0 ∧ T'.1 (P + 38) i = 0 ∧ T'.1 238 i = 0 := by
  have j34 : ja_c P 34 = P + 27 := by rcases hP with rfl | rfl <;> rfl
  have j35 : ja_c 121 35 = 238 := rfl
  obtain ⟨-, -, -, -, -, j44, j45⟩ := jc_Pc hP
  intro d
  induction d with
  | zero =>
    intro k m T h1 h2 g1 g2 g3
    obtain ⟨m, rfl⟩ : ∃ q, m = q + 1 := ⟨m - 1, by omega⟩
    obtain rfl : k = 1024 := by omega
    refine ⟨T, ?_, g1, g2, g3⟩
    show ja_X13_prove_b2 (ja_X13_prove_L2 m) 121 P ((1024 : Nat) : Int) T = _
    unfold ja_X13_prove_b2
    rw [if_pos (by decide)]
  | succ d ih =>
    intro k m T h1 h2 g1 g2 g3
    obtain ⟨m, rfl⟩ : ∃ q, m = q + 1 := ⟨m - 1, by omega⟩
    have es : ∀ _ : Unit, nk_w ((k : Int) + 1) = ((k + 1 : Nat) : Int) := fun _ => w_nat1 (by omega)
    obtain ⟨T1, hT1⟩ : ∃ T1, T1 = nk_wi (nk_wi (nk_wi (nk_wi T (P + 27) k 0) (P + 37) k 0) (P + 38) k 0) 238 k 0 := ⟨_, rfl⟩
    obtain ⟨T', w1, w2⟩ := ih (k + 1) m T1 (by omega) (by omega) (by rw [hT1]; exact g1) (fun a q1 q2 q3 q4 => by rw [hT1, wi_n q4, wi_n q3, wi_n q2, wi_n q1]; exact g2 a q1 q2 q3 q4) (fun i hi => by
      by_cases e : i = k
      · subst e
        rw [hT1]
        refine ⟨?_, ?_, ?_, ?_⟩
        · rw [wi_n (by omega), wi_n (by omega), wi_n (by omega), wi_at, if_pos rfl]
        · rw [wi_n (by omega), wi_n (by omega), wi_at, if_pos rfl]
        · rw [wi_n (by omega), wi_at, if_pos rfl]
        · rw [wi_at, if_pos rfl]
      · obtain ⟨r1, r2, r3, r4⟩ := g3 i (by omega)
        rw [hT1]
        refine ⟨?_, ?_, ?_, ?_⟩
        · rw [wi_n (by omega), wi_n (by omega), wi_n (by omega), wi_at, if_neg e]; exact r1
        · rw [wi_n (by omega), wi_n (by omega), wi_at, if_neg e, wi_n (by omega)]; exact r2
        · rw [wi_n (by omega), wi_at, if_neg e, wi_n (by omega), wi_n (by omega)]; exact r3
        · rw [wi_at, if_neg e, wi_n (by omega), wi_n (by omega), wi_n (by omega)]; exact r4)
    refine ⟨T', ?_, w2⟩
    rw [← w1]
    show ja_X13_prove_b2 (ja_X13_prove_L2 m) 121 P (k : Int) T = _
    unfold ja_X13_prove_b2
    rw [if_neg (by omega), if_pos (in_i (N := 1024) (by omega)), j34, j44, j45, j35, Int.toNat_natCast, lt_eq, lt_eq, lt_eq, lt_eq, ← hT1, es (), lt_eq]
theorem r_c45 (hP : P = 122 ∨ P = 168) : ∀ (d k m : Nat) (T : nk_S), k + d = 3324 → d < m → T.2 = S.2 → (∀ a, ¬ (P + 39 ≤ a ∧ a ≤ P + 42) → T.1 a = S.1 a) → (∀ i, i < k → rVo T P i none) → ∃ T', ja_X13_prove_L45 m 121 P (k : Int) T = ja_X13_prove_L88 nk_big 121 P 0 T' ∧ T'.2 = S.2 ∧ (∀ a, ¬ (P + 39 ≤ a ∧ a ≤ P + 42) → T'.1 a = S.1 a) ∧ ∀ i, i < 3324 → rVo T' P i none := by
  obtain ⟨j46, j47, j48, j49, -, -, -⟩ := jc_Pv hP
  intro d
  induction d with
  | zero =>
    intro k m T h1 h2 g1 g2 g3
    obtain ⟨m, rfl⟩ : ∃ q, m = q + 1 := ⟨m - 1, by omega⟩
    obtain rfl : k = 3324 := by omega
    refine ⟨T, ?_, g1, g2, g3⟩
    show ja_X13_prove_b45 (ja_X13_prove_L45 m) 121 P ((3324 : Nat) : Int) T = _
    unfold ja_X13_prove_b45
    rw [if_pos (by decide)]
  | succ d ih =>
    intro k m T h1 h2 g1 g2 g3
    obtain ⟨m, rfl⟩ : ∃ q, m = q + 1 := ⟨m - 1, by omega⟩
    have es : ∀ _ : Unit, nk_w ((k : Int) + 1) = ((k + 1 : Nat) : Int) := fun _ => w_nat1 (by omega)
    have e0 : nk_i2b 0 = 0 := rfl
    obtain ⟨T1, hT1⟩ : ∃ T1, T1 = nk_wi (nk_wi (nk_wi (nk_wi T (P + 39) k 0) (P + 40) k 0) (P + 41) k 0) (P + 42) k 0 := ⟨_, rfl⟩
    obtain ⟨T', w1, w2⟩ := ih (k + 1) m T1 (by omega) (by omega) (by rw [hT1]; exact g1) (fun a q => by rw [hT1, wi_n (by omega), wi_n (by omega), wi_n (by omega), wi_n (by omega)]; exact g2 a q) (fun i hi => by
      by_cases e : i = k
      · subst e
        rw [hT1]
        refine ⟨?_, ?_, ?_, ?_⟩
        · rw [wi_n (by omega), wi_n (by omega), wi_n (by omega), wi_at, if_pos rfl]
        · rw [wi_n (by omega), wi_n (by omega), wi_at, if_pos rfl]
        · rw [wi_n (by omega), wi_at, if_pos rfl]
        · rw [wi_at, if_pos rfl]; exact cV_0
      · refine rVo_c (fun a q1 q2 => ?_) (g3 i (by omega))
        rw [hT1, wi_v, if_neg (fun q => e q.2), wi_v, if_neg (fun q => e q.2), wi_v, if_neg (fun q => e q.2), wi_v, if_neg (fun q => e q.2)])
    refine ⟨T', ?_, w2⟩
    rw [← w1]
    show ja_X13_prove_b45 (ja_X13_prove_L45 m) 121 P (k : Int) T = _
    unfold ja_X13_prove_b45
    rw [if_neg (by omega), if_pos (in_i (N := 3324) (by omega)), j46, j47, j48, j49, e0, Int.toNat_natCast, lt_eq, lt_eq, lt_eq, lt_eq, ← hT1, es (), lt_eq]
theorem r_c88 (hP : P = 122 ∨ P = 168) {mb : Nat} (hm : S.1 P 6 = (mb : Int)) : ∀ (d k m : Nat) (T : nk_S), k + d = 48 → d < m → T.2 = S.2 → (∀ a, ¬ (P + 43 ≤ a ∧ a ≤ P + 45) → T.1 a = S.1 a) → (∀ b, b < k → T.1 (P + 43) b = 0 ∧ T.1 (P + 44) b = bi (decide (b = mb)) ∧ T.1 (P + 45) b = 0) → ∃ T', ja_X13_prove_L88 m 121 P (k : Int) T = ja_X13_prove_L143 nk_big 121 P (nk_wi (nk_wi T' 121 36 1) 121 37 0) ∧ T'.2 = S.2 ∧ (∀ a, ¬ (P + 43 ≤ a ∧ a ≤ P + 45) → T'.1 a = S.1 a) ∧ ∀ b, b < 48 → T'.1 (P + 43) b = 0 ∧ T'.1 (P + 44) b = bi (decide (b = mb)) ∧ T'.1 (P + 45) b = 0 := by
  obtain ⟨-, -, -, -, j50, j51, j52⟩ := jc_Pv hP
  intro d
  induction d with
  | zero =>
    intro k m T h1 h2 g1 g2 g3
    obtain ⟨m, rfl⟩ : ∃ q, m = q + 1 := ⟨m - 1, by omega⟩
    obtain rfl : k = 48 := by omega
    refine ⟨T, ?_, g1, g2, g3⟩
    show ja_X13_prove_b88 (ja_X13_prove_L88 m) 121 P ((48 : Nat) : Int) T = _
    unfold ja_X13_prove_b88
    rw [if_pos (by decide), lt_eq, lt_eq]
  | succ d ih =>
    intro k m T h1 h2 g1 g2 g3
    obtain ⟨m, rfl⟩ : ∃ q, m = q + 1 := ⟨m - 1, by omega⟩
    have es : ∀ _ : Unit, nk_w ((k : Int) + 1) = ((k + 1 : Nat) : Int) := fun _ => w_nat1 (by omega)
    have hm' : T.1 P 6 = (mb : Int) := by rw [g2 P (by omega)]; exact hm
    obtain ⟨T1, hT1⟩ : ∃ T1, T1 = nk_wi (nk_wi (nk_wi T (P + 43) k 0) (P + 44) k (bi (decide (k = mb)))) (P + 45) k 0 := ⟨_, rfl⟩
    obtain ⟨T', w1, w2⟩ := ih (k + 1) m T1 (by omega) (by omega) (by rw [hT1]; exact g1) (fun a q => by rw [hT1, wi_n (by omega), wi_n (by omega), wi_n (by omega)]; exact g2 a q) (fun i hi => by
      by_cases e : i = k
      · subst e
        rw [hT1]
        refine ⟨?_, ?_, ?_⟩
        · rw [wi_n (by omega), wi_n (by omega), wi_at, if_pos rfl]
        · rw [wi_n (by omega), wi_at, if_pos rfl]
        · rw [wi_at, if_pos rfl]
      · obtain ⟨r1, r2, r3⟩ := g3 i (by omega)
        rw [hT1]
        refine ⟨?_, ?_, ?_⟩
        · rw [wi_n (by omega), wi_n (by omega), wi_at, if_neg e]; exact r1
        · rw [wi_n (by omega), wi_at, if_neg e, wi_n (by omega)]; exact r2
        · rw [wi_at, if_neg e, wi_n (by omega), wi_n (by omega)]; exact r3)
    refine ⟨T', ?_, w2⟩
    rw [← w1]
    show ja_X13_prove_b88 (ja_X13_prove_L88 m) 121 P (k : Int) T = _
    unfold ja_X13_prove_b88
    rw [if_neg (by omega), if_pos (in_i (N := 48) (by omega)), j50, j51, Int.toNat_natCast, lt_eq, wi_n (b := P) (by omega), hm']
    have tail : ∀ c : Bool, c = decide (k = mb) → ja_X13_prove_b119 (ja_X13_prove_L88 m) 121 P (k : Int) (P + 44) (k : Int) (bi c) (nk_wi T (P + 43) k 0) = ja_X13_prove_L88 m 121 P ((k + 1 : Nat) : Int) T1 := by
      intro c hc
      unfold ja_X13_prove_b119
      rw [if_pos (in_i (N := 48) (by omega)), if_pos (by cases c <;> simp [bi]), lt_eq, j52, Int.toNat_natCast, if_pos (in_i (N := 48) (by omega)), hc, lt_eq, ← hT1, es (), lt_eq]
    by_cases c : k = mb
    · rw [if_pos (by omega)]
      exact tail true (by rw [decide_eq_true c])
    · rw [if_neg (by omega)]
      exact tail false (by rw [decide_eq_false c])
/-- bodies that are not begun are passed over -/
theorem r_skip (hP : P = 122 ∨ P = 168) {rc : Nat → Nat → nk_S → Option (Int × nk_S)} {vc : Int} {mb : Nat} (hmb : mb < bl.length) (hb48 : bl.length ≤ 48) (hl : S.1 P 2 = (bl.length : Int)) (h44 : ∀ b, b < mb → S.1 (P + 44) b = 0) : ∀ (d b m : Nat), b + d = mb → d < m → ∃ m', ja_X13_prove_L174 rc m 121 P vc (b : Int) S = ja_X13_prove_L174 rc m' 121 P vc (mb : Int) S ∧ m' + d = m := by
  obtain ⟨-, -, -, -, -, j51, -⟩ := jc_Pv hP
  intro d
  induction d with
  | zero =>
    intro b m h1 h2
    obtain rfl : b = mb := by omega
    exact ⟨m, rfl, by omega⟩
  | succ d ih =>
    intro b m h1 h2
    obtain ⟨m, rfl⟩ : ∃ q, m = q + 1 := ⟨m - 1, by omega⟩
    obtain ⟨m', w1, w2⟩ := ih (b + 1) m (by omega) (by omega)
    refine ⟨m', ?_, by omega⟩
    rw [← w1]
    show ja_X13_prove_b174 rc (ja_X13_prove_L174 rc m) 121 P vc (b : Int) S = _
    unfold ja_X13_prove_b174
    rw [hl, if_neg (by omega), if_pos (in_i (N := 48) (by omega)), j51, Int.toNat_natCast, h44 b (by omega), if_pos rfl, w_nat1 (by omega), lt_eq]
/-- main is begun: the first of all -/
theorem r_main (hk : rKx F th n dn up ns us fl bl z el H lc ty P) (hv : rPv S P (ns, us, fl, bl, z, el) H ty) {mb : Nat} {ym : jB} {em : Nat × Nat × Nat × Nat} (hmb : bl[mb]? = some ym) (hmp : ym.ps = []) (hme : el[mb]? = some em) (h27 : ∀ i, i < 1024 → S.1 (P + 27) i = 0) (h238 : ∀ i, i < 1024 → S.1 238 i = 0) (hV : ∀ i, i < 3324 → rVo S P i none) (hB : ∀ b, b < 48 → S.1 (P + 43) b = 0 ∧ S.1 (P + 44) b = bi (decide (b = mb)) ∧ S.1 (P + 45) b = 0) : ∃ S', ja_X13_begin 121 P (mb : Int) S = some (0, S') ∧ bgF P S S' ∧ rkI F dn up ns us fl bl z el H lc ty em.1 P S' (aArr (fun _ => none) em.1 (fun _ => wU)) (fun i => decide (i = em.1)) jG0 (rR0 mb) ∧ S'.1 121 36 = 1 := by
  have hP := hk.1
  have hC := hk.2.1
  obtain ⟨x0, t0, m1, m2, m3, m4⟩ := main_row hC hmb hmp hme
  have hm1024 : em.1 < 1024 := by have := at_lt m1; have := hk.2.2.2.2.1.1; omega
  have hmb48 : mb < 48 := by have := at_lt hmb; have := hk.2.2.2.2.2.2.2.1; omega
  have hps : S.1 (P + 8) mb = ((0 : Nat) : Int) := by
    have := (hv.1.2.2.2.2.2.2.1 mb ym hmb).2.2.1
    have this : S.1 (P + 8) mb = (ym.ps.length : Int) := this
    rw [this, hmp]; rfl
  have hfi : S.1 (P + 12) mb = (em.1 : Int) := (hv.1.2.2.2.2.2.2.2.1 mb em hme).1
  have c19 : ja_c P 19 = P + 12 := by rcases hP with rfl | rfl <;> rfl
  obtain ⟨bm, hbm⟩ := big_ge 100 (by decide)
  obtain ⟨T, m', g1, g2, g3⟩ := r_bgL (S := S) (F := F) hP hmb48 hps (r := fun _ => wU) (fun k hk' => by omega) (fun k _ => rfl) 12 0 nk_big S (by omega) (by omega) xFr_rfl (fun k hk' => by omega)
  have hlc := hk.2.2.2.2.2.1 em.1
  have eQ : qRs (lc em.1) (H em.1) (fun _ => wU) = fun _ => wU := by
    funext k
    unfold qRs
    split <;> rfl
  obtain ⟨S', c, s1, s2, s3, s4, s5, s6⟩ := r_bring (F := F) (lc := lc) (H := H) (S := T) (A := fun _ => none) (fun i u hu => by cases hu) hP hm1024 hlc.2 hlc.1 ⟨fun i hi => by rw [g2.2 (P + 27) (by omega), h27 i hi]; rfl, fun i u hu => by cases hu⟩ (fun i u hu => by cases hu) (D := fun _ => false) (fun i hi => by rw [g2.2 238 (by omega), h238 i hi]; rfl) (v := fun _ => wU) (fun _ => wU_ok) (fun k _ _ => rfl) (by rw [g2.2 (P + 19) (by omega)]; exact hv.2 em.1 t0 m2) (by rw [m3]; exact g3)
  rw [eQ] at s3 s6
  obtain ⟨A6, hA6⟩ : ∃ A6, A6 = aArr (fun _ => none) em.1 (fun _ => wU) := ⟨_, rfl⟩
  rw [← hA6] at s3 s6
  have a6m : A6 em.1 = some (fun _ => wU) := by rw [hA6, aArr_at]
  have a6n : ∀ j, j ≠ em.1 → A6 j = none := fun j hj => by rw [hA6, aArr_ne hj]
  have hct : c = true := s6.mpr (fun q => by rw [q] at a6m; cases a6m)
  have fr : bgF P S S' := ⟨by rw [s2.1, g2.1], fun a h1 h2 h3 => by rw [s2.2.1 a (by omega) (by omega) h3, g2.2 a (by omega)], fun f hf => by rw [s2.2.2 f hf, g2.2 121 (by omega)]⟩
  have hIn : pIn F (dn, up, (ns, us, fl, bl, z, el), H) lc ty em.1 A6 jG0 := by
    refine ⟨fun i u q => ?_, jG0_ok, ⟨_, a6m, fun k => Or.inl rfl⟩, fun B τ hB' => ⟨fun i u q => ?_, jG0_le τ⟩⟩
    · by_cases ei : i = em.1
      · rw [ei, a6m] at q
        cases q
        rw [ei]
        exact ⟨x0, t0, m1, m2, m4⟩
      · rw [a6n i ei] at q; cases q
    · by_cases ei : i = em.1
      · rw [ei, a6m] at q
        cases q
        rw [ei]
        exact hB'.2.2.1
      · rw [a6n i ei] at q; cases q
  have hLn : lnI z A6 jG0 := by
    refine ⟨fun i u q => ?_, ⟨fun k w q => ?_, fun b s q => ?_⟩⟩
    · by_cases ei : i = em.1
      · rw [ei, a6m] at q
        cases q
        exact fun k => wI_U
      · rw [a6n i ei] at q; cases q
    · cases q
    · cases q
  refine ⟨S', ?_, fr, ?_, by rw [s5, hct, if_pos rfl]⟩
  · unfold ja_X13_begin
    have g1 : ja_X13_begin_L2 nk_big 121 P (mb : Int) 0 S = ja_X13_begin_b2 (ja_X13_begin_L2 m') 121 P (mb : Int) ((12 : Nat) : Int) T := g1
    rw [g1]
    unfold ja_X13_begin_b2
    rw [if_pos (by decide), if_pos (in_i (N := 48) (by omega)), c19, Int.toNat_natCast, g2.2 (P + 12) (by omega), hfi, s1, bd_some]
  · rw [← hA6]
    have vv : ∀ i, i < 3324 → rVo S' P i none := fun i hi => rVo_c (fun a h1 h2 => by rw [fr.2.1 a (by omega) (by omega) (by omega)]) (hV i hi)
    refine ⟨rPv_c (fun a h1 h2 => fr.2.1 a (by omega) (by omega) (by omega)) (fr.2.1 224 (by omega) (by omega) (by omega)) hv, s3, fun i hi => ?_, ⟨fun k hk' => vv _ (rIx_lt hk'), fun b hb => ?_, fun b hb => ?_⟩, fun b y hy => ?_, hIn, hLn, fun b y _ _ => rfl, fun b r q => ?_⟩
    · rw [s4 i hi, hct]
      show bi (if i = em.1 ∧ true = true then true else false) = bi (decide (i = em.1))
      by_cases e : i = em.1
      · rw [if_pos ⟨e, rfl⟩, decide_eq_true e]
      · rw [if_neg (fun q => e q.1), decide_eq_false e]
    · rw [fr.2.1 (P + 43) (by omega) (by omega) (by omega), (hB b hb).1]; rfl
    · rw [fr.2.1 (P + 45) (by omega) (by omega) (by omega), (hB b hb).2.2]; exact cV_0
    · have hb48 : b < 48 := by have := at_lt hy; have := hk.2.2.2.2.2.2.2.1; omega
      refine ⟨?_, fun _ k hk' => vv _ (by omega), fun r hr k hk' => ?_⟩
      · rw [fr.2.1 (P + 44) (by omega) (by omega) (by omega), (hB b hb48).2.1]
        unfold rR0
        by_cases e : b = mb
        · rw [if_pos e, decide_eq_true e]; rfl
        · rw [if_neg e, decide_eq_false e]; rfl
      · unfold rR0 at hr
        by_cases e : b = mb
        · rw [e, hmb] at hy
          cases hy
          rw [hmp] at hk'
          exact absurd hk' (by show ¬ k < 0; omega)
        · rw [if_neg e] at hr; cases hr
    · unfold rR0 at q
      by_cases e : b = mb
      · rw [if_pos e] at q
        cases q
        exact ⟨ym, em, x0, t0, by rw [e]; exact hmb, by rw [e]; exact hme, m1, m2, m4, fun _ _ => rfl, fun k hk' => by rw [hmp] at hk'; exact absurd hk' (by show ¬ k < 0; omega), fun k => wI_U, fun B τ hB' => hB'.2.2.1⟩
      · rw [if_neg e] at q; cases q
/-- where the reference's rounds have ended -/
theorem rpE_of {A R : jA} {D : Nat → Bool} {σ : jG} (hI : hdI F dn up ns us fl bl z el H lc ty m0 P S A D σ R) (h36 : S.1 121 36 = 0) (h37 : S.1 121 37 = 0) : rpE F dn up ns us fl bl z el H lc ty m0 P S A σ := by
  obtain ⟨⟨i1, i2, i3, -⟩, k1, k2⟩ := hI
  obtain ⟨d1, d2⟩ := k2 h36 h37
  have k1 := k1.resolve_left (by rw [h37]; decide)
  have all : ∀ i x u, z.1[i]? = some x → A i = some u → rkD (dn, up, (ns, us, fl, bl, z, el), H) lc P S A σ R i x u := fun i x u hx hu => (k1 i x u hx hu).resolve_left (by rw [d1 i]; decide)
  refine ⟨i1.2.1, i1.2.2.2.1, i1.2.2.2.2.2.1, fun i x u hx hu => ?_, fun i x hx => ⟨i3 i x hx, fun u hu => ?_⟩⟩
  · obtain ⟨-, -, w1, w2⟩ := all i x u hx hu
    refine ⟨fun j w hE => ?_, w2⟩
    rcases w1 j w hE with q | ⟨b, e, r, q1, q2, q3, q4⟩
    · exact q
    · obtain ⟨t, t1, t2⟩ := d2 b e r q1 q3
      rw [q2]
      exact ⟨t, t1, qLe_trans q4 t2⟩
  · obtain ⟨w1, w2, -⟩ := all i x u hx hu
    exact ⟨w1, w2⟩
/-- the reference's proof -/
theorem r_prove (hk : rKx F th n dn up ns us fl bl z el H lc ty P) (hfw : ∀ (f : Nat) (y : List Int × Nat × Int), fl[f]? = some y → 8 ≤ y.2.1 ∧ y.2.1 < 32) (hpt : ∀ (b : Nat) (y : jB), bl[b]? = some y → ∀ k, k < y.ps.length → y.ps.getD k 0 = 1 ∨ 2 ≤ y.ps.getD k 0) (hkc : ∀ (k : Nat) (y : Nat × Nat × Nat × Nat × Nat), z.2.2.1[k]? = some y → y.2.2.2.2 < us.length) (hv : rPv S P (ns, us, fl, bl, z, el) H ty) {mb : Nat} {ym : jB} {em : Nat × Nat × Nat × Nat} (hmn : S.1 P 6 = (mb : Int)) (hmb : bl[mb]? = some ym) (hmp : ym.ps = []) (hme : el[mb]? = some em) : ∃ S' A σ, ja_X13_prove 121 P S = some (0, S') ∧ rdF P S S' ∧ rPv S' P (ns, us, fl, bl, z, el) H ty ∧ rpE F dn up ns us fl bl z el H lc ty em.1 P S' A σ := by
  have hP := hk.1
  have hN := hk.2.2.2.1
  have hb48 := hk.2.2.2.2.2.2.2.1
  have hz := hk.2.2.2.2.1.1
  obtain ⟨bm, hbm⟩ := big_ge 4000 (by decide)
  obtain ⟨T1, a1, a2, a3, a4⟩ := r_c2 (S := S) hP 1024 0 nk_big S (by omega) (by omega) rfl (fun _ _ _ _ _ => rfl) (fun i hi => by omega)
  obtain ⟨T2, b1, b2, b3, b4⟩ := r_c45 (S := T1) hP 3324 0 nk_big T1 (by omega) (by omega) rfl (fun _ _ => rfl) (fun i hi => by omega)
  have m2 : T2.1 P 6 = (mb : Int) := by rw [b3 P (by omega), a3 P (by omega) (by omega) (by omega) (by omega)]; exact hmn
  obtain ⟨T3, c1, c2, c3, c4⟩ := r_c88 (S := T2) hP m2 48 0 nk_big T2 (by omega) (by omega) rfl (fun _ _ => rfl) (fun i hi => by omega)
  -- the first round
  obtain ⟨T4, hT4⟩ : ∃ T4, T4 = nk_wi (nk_wi T3 121 36 1) 121 37 0 := ⟨_, rfl⟩
  rw [← hT4] at c1
  obtain ⟨T5, hT5⟩ : ∃ T5, T5 = nk_wi (nk_wi T4 121 36 0) 121 37 0 := ⟨_, rfl⟩
  have t4n : ∀ a, a ≠ 121 → T4.1 a = T3.1 a := fun a h => by rw [hT4, wi_n h, wi_n h]
  have t5n : ∀ a, a ≠ 121 → T5.1 a = T3.1 a := fun a h => by rw [hT5, wi_n h, wi_n h, t4n a h]
  have t436 : T4.1 121 36 = 1 := by rw [hT4, wi_at, if_neg (by decide), wi_at, if_pos rfl]
  have t437 : T4.1 121 37 = 0 := by rw [hT4, wi_at, if_pos rfl]
  have t536 : T5.1 121 36 = 0 := by rw [hT5, wi_at, if_neg (by decide), wi_at, if_pos rfl]
  have t537 : T5.1 121 37 = 0 := by rw [hT5, wi_at, if_pos rfl]
  have t5f : ∀ f, f ≠ 36 → f ≠ 37 → T5.1 121 f = S.1 121 f := fun f h1 h2 => by
    rw [hT5, wi_at, if_neg h2, wi_at, if_neg h1, hT4, wi_at, if_neg h2, wi_at, if_neg h1, c3 121 (by omega), b3 121 (by omega), a3 121 (by omega) (by omega) (by omega) (by omega)]
  have t5o : ∀ a, ¬ (P + 27 ≤ a ∧ a ≤ P + 45) → a ≠ 238 → a ≠ 121 → T5.1 a = S.1 a := fun a h1 h2 h3 => by
    rw [t5n a h3, c3 a (by omega), b3 a (by omega), a3 a (by omega) (by omega) (by omega) h2]
  have fr5 : rdF P S T5 := ⟨by rw [hT5, hT4]; show T3.2 = S.2; rw [c2, b2, a2], fun a h1 h2 h3 => t5o a h1 (by omega) h3, fun f _ h1 h2 _ _ _ => t5f f h1 h2⟩
  have t5a : ∀ i, i < 1024 → T5.1 (P + 27) i = 0 ∧ T5.1 (P + 37) i = 0 ∧ T5.1 (P + 38) i = 0 ∧ T5.1 238 i = 0 := fun i hi => by
    rw [t5n _ (by omega), t5n _ (by omega), t5n _ (by omega), t5n _ (by omega), c3 _ (by omega), c3 _ (by omega), c3 _ (by omega), c3 _ (by omega), b3 _ (by omega), b3 _ (by omega), b3 _ (by omega), b3 _ (by omega)]
    exact a4 i hi
  have t5v : ∀ i, i < 3324 → rVo T5 P i none := fun i hi => rVo_c (fun a h1 h2 => by rw [t5n a (by omega), c3 a (by omega)]) (b4 i hi)
  have t5b : ∀ b, b < 48 → T5.1 (P + 43) b = 0 ∧ T5.1 (P + 44) b = bi (decide (b = mb)) ∧ T5.1 (P + 45) b = 0 := fun b hb => by
    rw [t5n _ (by omega), t5n _ (by omega), t5n _ (by omega)]
    exact c4 b hb
  have v5 : rPv T5 P (ns, us, fl, bl, z, el) H ty := rPv_c (fun a h1 h2 => t5o a (by omega) (by omega) (by omega)) (t5o 224 (by omega) (by omega) (by omega)) hv
  have hmbl := at_lt hmb
  have hl5 : T5.1 P 2 = (bl.length : Int) := v5.1.2.2.2.2.1
  obtain ⟨f1, hf1⟩ : ∃ f1, nk_big = f1 + 1 := ⟨bm + 3999, by omega⟩
  obtain ⟨mq, q1, q2⟩ := r_skip (rc := ja_X13_prove_L143 f1) (vc := 0) (S := T5) hP hmbl hb48 hl5 (fun b hb => by rw [(t5b b (by omega)).2.1, decide_eq_false (by omega)]; rfl) mb 0 nk_big (by omega) (by omega)
  obtain ⟨S6, e1, e2, e3, e4⟩ := r_main hk v5 hmb hmp hme (fun i hi => (t5a i hi).1) (fun i hi => (t5a i hi).2.2.2) t5v t5b
  obtain ⟨mr, rfl⟩ : ∃ r, mq = r + 1 := ⟨mq - 1, by omega⟩
  obtain ⟨A6, hA6⟩ : ∃ A6, A6 = aArr (fun _ => none) em.1 (fun _ => wU) := ⟨_, rfl⟩
  rw [← hA6] at e3
  have a6m : A6 em.1 = some (fun _ => wU) := by rw [hA6, aArr_at]
  have a6n : ∀ j, j ≠ em.1 → A6 j = none := fun j hj => by rw [hA6, aArr_ne hj]
  obtain ⟨S7, A7, D7, g0, g1, g2, g3, g4, g5⟩ := rd_L174 (vc := 0) (rc := ja_X13_prove_L143 f1) (th := th) (n := n) hk (bl.length - (mb + 1)) (mb + 1) mr S6 A6 _ (by omega) (by omega) e3 (fun b' e r w1 w2 w3 => by
    unfold rR0 at w3
    by_cases eb : b' = mb
    · rw [if_pos eb] at w3
      cases w3
      rw [eb, hme] at w2
      cases w2
      exact ⟨_, a6m, fun k => Or.inl rfl⟩
    · rw [if_neg eb] at w3; cases w3)
  have s37 : S7.1 121 37 = 0 := by rw [g1.2.2 37 (by decide), e2.2.2 37 (by decide)]; exact t537
  have s36 : S7.1 121 36 = 1 := by
    unfold aCg at g4
    rcases g4 with ⟨w, -⟩ | ⟨w, -⟩
    · rw [w]; exact e4
    · exact w
  have c67 : ∀ a, a = P + 37 ∨ a = P + 38 → S7.1 a = T5.1 a := fun a ha => by rw [g1.2.1 a (by omega) (by omega) (by omega), e2.2.1 a (by omega) (by omega) (by omega)]
  have I7 : rdI F dn up ns us fl bl z el H lc ty em.1 P S7 A7 D7 jG0 (rR0 mb) := by
    refine ⟨g2, fun i q => ?_, fun i x hx _ => ?_, Or.inr s36, Or.inl s37⟩
    · rcases g3.2.2.2.1 i q with r | r
      · have : i = em.1 := of_decide_eq_true r
        exact aLe_none g3.1 (by rw [this, a6m]; exact fun r => by cases r)
      · exact r
    · rw [c67 (P + 37) (Or.inl rfl), c67 (P + 38) (Or.inr rfl)]
      have := t5a i (by have := at_lt hx; omega)
      exact ⟨this.2.1, this.2.2.1⟩
  have K7 : rdK th n (dn, up, (ns, us, fl, bl, z, el), H) lc P 0 (rdM th n A7 jG0 (rR0 mb) + 1) 0 S7 A7 D7 jG0 (rR0 mb) := by
    refine ⟨Or.inr ⟨fun i x u _ hx hu => Or.inl ?_, fun b e r w1 w2 => ?_⟩, Or.inl s36, by omega, Or.inr (by omega)⟩
    · by_cases w : A7 i = A6 i
      · rw [w] at hu
        have : i = em.1 := Classical.byContradiction fun q => by rw [a6n i q] at hu; cases hu
        exact g3.2.1 i (decide_eq_true this)
      · exact g3.2.2.1 i w
    · refine g5 b e r ?_ w1 w2
      unfold rR0 at w2
      by_cases eb : b = mb
      · omega
      · rw [if_neg eb] at w2; cases w2
  obtain ⟨S8, A8, D8, σ8, R8, w1, w2, w3, w4⟩ := rd_L205 (rc := ja_X13_prove_L143 f1) hk hfw hpt hkc (Or.inl rfl) z.1.length 0 nk_big S7 A7 D7 jG0 (rR0 mb) (by omega) (by omega) I7 K7
  have hma := aMs_b hN A8
  have hmg := gMs_b hN σ8
  have hmr := aMs_b hN R8
  have hmm : rdM th n A8 σ8 R8 < 1000000000 := by unfold rdM; omega
  obtain ⟨bq, hbq⟩ := big_ge 1000000002 (by decide)
  obtain ⟨S9, A9, D9, σ9, R9, z1, z2, z3, z4, z5⟩ := rd_L143 hk hfw hpt hkc 1000000000 f1 S8 A8 D8 σ8 R8 (Or.inr hmm) (by omega) (rd_end w3 w4)
  have fr7 : rdF P T5 S7 := ⟨by rw [g1.1, e2.1], fun a h1 h2 h3 => by rw [g1.2.1 a (by omega) h2 h3, e2.2.1 a (by omega) h2 h3], fun f _ h2 _ _ _ _ => by rw [g1.2.2 f h2, e2.2.2 f h2]⟩
  refine ⟨S9, A9, σ9, ?_, rdF_trans fr5 (rdF_trans fr7 (rdF_trans w2 z2)), z3.1.1.1, rpE_of z3 z4 z5⟩
  unfold ja_X13_prove
  have a1' : ja_X13_prove_L2 nk_big 121 P 0 S = ja_X13_prove_L45 nk_big 121 P 0 T1 := a1
  have b1' : ja_X13_prove_L45 nk_big 121 P 0 T1 = ja_X13_prove_L88 nk_big 121 P 0 T2 := b1
  have c1' : ja_X13_prove_L88 nk_big 121 P 0 T2 = ja_X13_prove_L143 nk_big 121 P T4 := c1
  have q1' : ja_X13_prove_L174 (ja_X13_prove_L143 f1) nk_big 121 P 0 0 T5 = ja_X13_prove_L174 (ja_X13_prove_L143 f1) (mr + 1) 121 P 0 (mb : Int) T5 := q1
  have w1' : ja_X13_prove_L205 (ja_X13_prove_L143 f1) nk_big 121 P 0 0 S7 = ja_X13_prove_L143 f1 121 P S8 := w1
  have st : ja_X13_prove_L174 (ja_X13_prove_L143 f1) (mr + 1) 121 P 0 (mb : Int) T5 = ja_X13_prove_L174 (ja_X13_prove_L143 f1) mr 121 P 0 ((mb + 1 : Nat) : Int) S6 := by
    show ja_X13_prove_b174 (ja_X13_prove_L143 f1) (ja_X13_prove_L174 (ja_X13_prove_L143 f1) mr) 121 P 0 (mb : Int) T5 = _
    unfold ja_X13_prove_b174
    rw [hl5, if_neg (by omega), if_pos (in_i (N := 48) (by omega)), (jc_Pv hP).2.2.2.2.2.1, Int.toNat_natCast, (t5b mb (by omega)).2.1, decide_eq_true rfl, if_neg (show ¬ bi true = 0 by decide), e1, bd_some, w_nat1 (by omega), lt_eq]
  have hd : ja_X13_prove_L143 nk_big 121 P T4 = ja_X13_prove_L174 (ja_X13_prove_L143 f1) nk_big 121 P 0 0 T5 := by
    conv => lhs; rw [hf1]
    show ja_X13_prove_b143 (ja_X13_prove_L143 f1) 121 P T4 = _
    unfold ja_X13_prove_b143
    rw [if_neg (by rw [t436]; decide)]
    unfold ja_X13_prove_b157
    rw [lt_eq, lt_eq, lt_eq, ← hT5, t437]
  rw [a1', b1', c1', hd, q1', st, g0, w1', z1]
end RST
