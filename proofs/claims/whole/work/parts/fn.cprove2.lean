/-! The class's proof, with the places of fields. -/
section CPG2
variable {ns : List (List Int)} {us : List Int} {fl : List (List Int × Nat × Int)} {bl : List jB} {z : jL} {el : List (Nat × Nat × Nat × Nat)} {F : Int → Prop} {dn up : Int → Int} {H lc : Nat → Nat} {ty : Nat → Option (Nat → Int)} {th : Nat → Int} {n Q : Nat} {S : nk_S}
theorem c_prove2 (hk : kX F th n dn up ns us fl bl z el H lc ty Q) (hfw : ∀ (f : Nat) (y : List Int × Nat × Int), fl[f]? = some y → 8 ≤ y.2.1 ∧ y.2.1 < 32) (hkw : ∀ (k : Nat) (y : Nat × Nat × Nat × Nat × Nat), z.2.2.1[k]? = some y → y.2.2.2.2 < us.length) (hlf : fl.length ≤ 48) (hlb : bl.length ≤ 48) (hft : ∀ y ∈ fl, y.2.2 = 1 ∨ 2 ≤ y.2.2) (hbt : ∀ y ∈ bl, y.rs = -1 ∨ (y.rs = 1 ∨ 2 ≤ y.rs)) (hv : cPh S Q (ns, us, fl, bl, z, el)) (hH : ∀ (i : Nat) (x : jC), z.1[i]? = some x → S.1 (Q + 30) i = (H i : Int) ∧ S.1 (Q + 16) x.2.2.2.1 = (lc i : Int)) (hB : ∀ i, lc i ≤ 12 ∧ H i ≤ 8) (h6 : S.1 100 6 = 0 ∧ S.1 100 7 = 0 ∧ S.1 100 8 = 0) (hs : fSt fl) (hfu : ∀ (f : Nat) (y : List Int × Nat × Int), fl[f]? = some y → y.2.1 < us.length) (h40 : ∀ i, i < 32 → S.1 (Q + 4) i = 0) {mb : Nat} {ym : jB} {em : Nat × Nat × Nat × Nat} (hmn : S.1 (Q + 9) 1 = (mb : Int)) (hmb : bl[mb]? = some ym) (hmp : ym.ps = []) (hme : el[mb]? = some em) : ∃ S', ja_X4_prove 92 Q S = some (0, S') ∧ S'.2 = (nk_wr (nk_wr S 92 0 Q) 92 1 (Q + 23)).2 ∧ (∀ a, a < 92 ∨ 112 ≤ a → a ≠ Q + 4 → a ≠ Q + 8 → S'.1 a = S.1 a) ∧ prE F dn up ns us fl bl z el H lc ty em.1 Q S' ∧ (∀ k, k < us.length → S'.1 (Q + 4) k = (nOf us fl k : Int)) ∧ ∀ (g : Nat) (x : List Int × Nat × Int), fl[g]? = some x → S'.1 (Q + 8) g = ((nUp us fl x.2.1 + cntF (fl.take g) x.2.1 : Nat) : Int) := by
  obtain ⟨hQ, hC, hF, hN, hz⟩ := id hk
  obtain ⟨bm, hbm⟩ := big_ge 2000 (by decide)
  have h32 := hC.2.2.2.2.1
  have h8 := hC.2.2.2.2.2.1
  -- the program
  obtain ⟨S1, hS1⟩ : ∃ S1, S1 = nk_wr (nk_wr S 92 0 Q) 92 1 (Q + 23) := ⟨_, rfl⟩
  have s1n : S1.1 = S.1 := by rw [hS1]; rfl
  have s10 : S1.2 92 0 = Q := by rw [hS1, wr_2, if_neg (by decide), wr_2, if_pos ⟨rfl, rfl⟩]
  have s11 : S1.2 92 1 = Q + 23 := by rw [hS1, wr_2, if_pos ⟨rfl, rfl⟩]
  -- places
  obtain ⟨S2, a1, a2, a3, a4, a5⟩ := c_plL2 (fl := fl) hQ hC.2.2.2.1 h32 hlf hs hfu (us.length - 8) 8 0 nk_big S1 (by omega) (by omega) (by omega) (by omega) (by
    have := hv.1
    unfold cU at this ⊢
    rw [s1n]; exact this) (by rw [s1n]; exact hv.2.1) (fun f x hx => by rw [s1n]; exact (hv.2.2.1 f x hx).1) (fun g x _ hx => (hfw g x hx).1) (fun g x hg => by omega) (fun k hk => by rw [s1n, h40 k (by omega), nOf_8 hC.2.2.2.1 h32 (fun f y hy => (hfw f y hy).1) k hk (by omega)]; rfl)
  have v2 : cPh S2 Q (ns, us, fl, bl, z, el) := cPh_c (fun a h1 h2 h3 h4 h5 => by rw [a3 a h4 h5, s1n]) hv
  -- states
  obtain ⟨S3, b1, b2, b3, b4, b5⟩ := c_clr7 (S := S2) (H := H) (lc := lc)
  have v3 : cPh S3 Q (ns, us, fl, bl, z, el) := cPh_f hQ (fun a ha => b3 a (by omega) (by omega)) v2
  -- table
  obtain ⟨S4, c1, c2, c3, c4⟩ := c_clr8 (S := S3) hQ v3 hlf hlb hz.2.1 hft (fun s hs => (hC.2.1 s (by unfold sVd; rw [decide_eq_true hs, Bool.true_or])).2) hbt (by rw [b3 100 (by decide) (by decide), a3 100 (by omega) (by omega), s1n]; exact h6)
  have v4 : cPh S4 Q (ns, us, fl, bl, z, el) := cPh_f hQ (fun a ha => c3 a (by omega)) v3
  have s4 : S4.2 = S1.2 := by rw [c2, b2, a2]
  -- what suits
  obtain ⟨S5, d1, d2, d3, d4, d5⟩ := c_fs (S := S4) hQ hC v4 (by rw [s4]; exact s10) hz hkw
  have v5 : cPh S5 Q (ns, us, fl, bl, z, el) := cPh_f hQ (fun a ha => d3 a (by omega)) v4
  have s5 : S5.2 = S1.2 := by rw [d2, s4]
  have f5 : ∀ a, a < 92 ∨ 112 ≤ a → a ≠ Q + 4 → a ≠ Q + 8 → S5.1 a = S.1 a := fun a h1 h2 h3 => by
    rw [d3 a (by omega), c3 a (by omega), b3 a (by omega) (by omega), a3 a h2 h3, s1n]
  have A5 : cAm H lc S5 (fun _ => none) := cAm_1 (fun a h1 h2 => by rw [d3 a (by omega), c3 a (by omega)]) b4
  have W5 : cWt S5 (fun _ => false) := cWt_1 (fun a h1 h2 => by rw [d3 a (by omega), c3 a (by omega)]) b5
  have G5 : cGm S5 fl bl z jG0 (noS, noS, noS) := cGm_1 (fun a h1 h2 => d3 a (by omega)) c4
  have P5 : cPv S5 Q (ns, us, fl, bl, z, el) H lc := ⟨by rw [s5]; exact s10, by rw [s5]; exact s11, v5, fun i x hx => by rw [f5 (Q + 30) (by omega) (by omega) (by omega), f5 (Q + 16) (by omega) (by omega) (by omega)]; exact hH i x hx, hB⟩
  -- main
  obtain ⟨x0, t0, m1, m2, m3, m4⟩ := main_row hC hmb hmp hme
  have hm1024 : em.1 < 1024 := by have := at_lt m1; have := hz.1; omega
  have hmb48 := bl_48 hlb hmb
  have eEn : pEn ym (fun _ => wU) 12 none = fun _ => wU := by
    funext k
    unfold pEn
    rw [hmp, if_neg (by show ¬ k < 0; omega)]
  obtain ⟨x0', hx0b⟩ : ∃ q : Nat, q = x0.2.2.2.1 := ⟨_, rfl⟩
  have hlcm : S5.1 (Q + 16) mb = (lc em.1 : Int) := by
    have hb := (P5.2.2.2.1 em.1 x0 m1).2
    obtain ⟨-, -, -, -, -, -, -, -, hbd, -⟩ := id hC
    obtain ⟨e0, xx, r1, r2, r3⟩ := hbd mb ym hmb
    have : e0 = em := by rw [hme] at r1; cases r1; rfl
    subst this
    rw [m1] at r2
    cases r2
    rw [r3] at hb
    exact hb
  have hst : S5.1 (Q + 18) mb = (em.1 : Int) := (v5.2.2.2.2.2.2.1 mb em hme).1
  have hmn5 : S5.1 (Q + 9) 1 = (mb : Int) := by rw [f5 (Q + 9) (by omega) (by omega) (by omega)]; exact hmn
  obtain ⟨S6, c, e1, e2, e3, e4, e5, e6⟩ := c_ent (F := F) (S := S5) (A := fun _ => none) (W := fun _ => false) (y := ym) (u := fun _ => wU) (ob := none) (l5 := 0) (low := 12) (ar := 0) hC.1 hm1024 hB m3 (by rw [hmp]; rfl) (by omega) (by omega) rfl (fun q => absurd rfl q) A5 (fun u q => by cases q) (fun u q => by cases q) (by rw [eEn]; exact fun _ => wU_ok) W5 (fun k hk => by omega)
  rw [eEn] at e4 e6
  have eQ : qRs (lc em.1) (H em.1) (fun _ => wU) = fun _ => wU := by
    funext k
    unfold qRs
    split <;> rfl
  rw [eQ] at e4 e6
  obtain ⟨A6, hA6⟩ : ∃ A6, A6 = aArr (fun _ => none) em.1 (fun _ => wU) := ⟨_, rfl⟩
  rw [← hA6] at e4 e6
  have a6m : A6 em.1 = some (fun _ => wU) := by rw [hA6, aArr_at]
  have a6n : ∀ j, j ≠ em.1 → A6 j = none := fun j hj => by rw [hA6, aArr_ne hj]
  have hct : c = true := e6.mpr (fun q => by rw [q] at a6m; cases a6m)
  have fr6 : mFr S5 S6 := ⟨e2, fun a ha => e3 a (by omega) (by omega) (by omega) (by omega)⟩
  have hIn : pIn F (dn, up, (ns, us, fl, bl, z, el), H) lc ty em.1 A6 jG0 := by
    refine ⟨fun i u q => ?_, jG0_ok, ⟨_, a6m, fun k => Or.inl rfl⟩, fun B τ hB' => ⟨fun i u q => ?_, jG0_le τ⟩⟩
    · by_cases ei : i = em.1
      · rw [ei, a6m] at q
        cases q
        rw [ei]
        exact ⟨x0, t0, m1, m2, m4⟩
      · rw [a6n i ei] at q; cases q
    · by_cases ei : i = em.1
      · rw [ei, a6m] at q
        cases q
        rw [ei]
        exact hB'.2.2.1
      · rw [a6n i ei] at q; cases q
  have hLn : lnI z A6 jG0 := by
    refine ⟨fun i u q => ?_, ⟨fun k w q => ?_, fun b s q => ?_⟩⟩
    · by_cases ei : i = em.1
      · rw [ei, a6m] at q
        cases q
        exact fun k => wI_U
      · rw [a6n i ei] at q; cases q
    · cases q
    · cases q
  have I6 : lkI F dn up ns us fl bl z el H lc ty em.1 Q S6 A6 (fun i => if i = em.1 ∧ c = true then true else false) jG0 (noS, noS, noS) := ⟨cPv_m hQ fr6 P5, cFy_m fr6 d4, e4, e5, cGm_1 (fun a h1 h2 => e3 a (by omega) (by omega) (by omega) (by omega)) G5, hIn, hLn, fun b y _ _ => rfl⟩
  -- the first
  rcases c_take I6.2.2.2.1 (f := 0) (by omega) with ⟨n3, -⟩ | ⟨j, S7, q1, q2, q3, -, q5, q6, q7, q8⟩
  · have this : (if em.1 = em.1 ∧ c = true then true else false) = false := n3 em.1 (by omega) hm1024
    rw [if_pos ⟨rfl, hct⟩] at this
    cases this
  · have hj : j = em.1 := by
      have q3 : (if j = em.1 ∧ c = true then true else false) = true := q3
      split at q3
      · rename_i r; exact r.1
      · cases q3
    subst hj
    obtain ⟨W7, hW7⟩ : ∃ W7 : Nat → Bool, W7 = fun k => if k = em.1 then false else if k = em.1 ∧ c = true then true else false := ⟨_, rfl⟩
    have q8' : cWt S7 W7 := by rw [hW7]; exact q8
    have w7 : ∀ k, W7 k = false := fun k => by
      rw [hW7]
      by_cases ek : k = em.1
      · simp [ek]
      · simp [ek]
    have I7 := lkI_97 (W' := W7) hQ q6 q7 q8' I6
    have hma := aMs_b hN A6
    have hmg := gMs_b hN jG0
    obtain ⟨mm, hmm⟩ : ∃ mm, mm = 2050 * (1024 * 128001 + 17600000) + 1024 := ⟨_, rfl⟩
    obtain ⟨kk, hkk⟩ := big_ge (mm + 2) (by omega)
    obtain ⟨S8, g1, g2, g3⟩ := c_prL hk hfw mm S7 A6 W7 jG0 (noS, noS, noS) em.1 x0 (fun _ => wU) 0 kk I7 m1 a6m (fun j hj x hx => ⟨fun _ => (by
      have hx : z.1[j]? = some x := hx
      rw [q7 107 (by decide), q7 108 (by decide), e3 107 (by decide) (by decide) (by decide) (by decide), e3 108 (by decide) (by decide) (by decide) (by decide)]
      exact d5 j (at_lt hx)), fun u q => by rw [a6n j hj] at q; cases q⟩) (fun j q => by rw [w7 j] at q; cases q) ⟨0, by omega, fun _ _ _ => ⟨rfl, rfl, rfl⟩, by have := wCt_b W7; omega⟩ (by omega)
    have f8 : ∀ a, a < 92 → S8.1 a = S2.1 a := fun a ha => by rw [g2.2 a (by omega), q7 a (by omega), e3 a (by omega) (by omega) (by omega) (by omega), d3 a (by omega), c3 a (by omega), b3 a (by omega) (by omega)]
    refine ⟨S8, ?_, by rw [g2.1, q6, e2, s5, hS1], fun a h1 h2 h3 => by rw [g2.2 a (by omega), q7 a (by omega), e3 a (by omega) (by omega) (by omega) (by omega), f5 a h1 h2 h3], g3, fun k hk => by rw [f8 (Q + 4) (by omega)]; exact a4 k hk, fun g x hx => by rw [f8 (Q + 8) (by omega)]; exact a5 g x hx⟩
    unfold ja_X4_prove
    have a1' : ja_X1_placeFields (Q + 1) S1 = some (0, S2) := a1
    have q5' : ja_X7_takeWaiting 93 0 S6 = some ((em.1 : Int), S7) := q5
    have e1' : ja_X7_enter 93 (em.1 : Int) (lc em.1 : Int) 12 0 0 S5 = some (0, S6) := e1
    rw [lt_eq, (jc_Q2 hQ).2.1, lt_eq, ← hS1, s10, (jc_Q hQ).1, a1', bd_some, jc_92_2, b1, bd_some, jc_92_3, show S3.2 92 0 = Q by rw [b2, a2]; exact s10, c1, bd_some, d1, bd_some, show S5.2 92 0 = Q by rw [s5]; exact s10, (jc_Q2 hQ).1, hmn5, lt_eq, if_pos (in_i (N := 48) (by omega)), (jc_Qb hQ).2.1, (jc_Q9 hQ).2.2.2.2.2.2.1, Int.toNat_natCast, hst, hlcm, e1', bd_some, q5', bd_some, hkk]
    have g1' : ja_X4_prove_L103 (kk + mm + 2) 92 (em.1 : Int) 0 S7 = some (0, S8) := g1
    rw [show kk + (mm + 2) = kk + mm + 2 by omega]
    exact g1'
end CPG2
section PKN2
variable {tx : List (List Int)} {p : jP}
/-- the class proves a right program: it ends in the least solution -/
theorem p_prove2 {Q : Nat} (h : pWf tx p) (hk : kX (fun y => th7 y ∨ ∃ x ∈ p.2.2.2.2.1.2.2.2, nbr x y) (fun i => (lTh p.2.2.2.2.1.2.2.2).getD i 0) (lTh p.2.2.2.2.1.2.2.2).length (lDn (lTh p.2.2.2.2.1.2.2.2)) (lUp (lTh p.2.2.2.2.1.2.2.2)) p.1 p.2.1 p.2.2.1 p.2.2.2.1 p.2.2.2.2.1 p.2.2.2.2.2 (pH p) (pLc p) (pTy p) Q) (hs : fSt p.2.2.1) {S : nk_S} (hp : cPg S Q p) (hh : cHt S Q p p.2.2.2.1.length) (h6 : S.1 100 6 = 0 ∧ S.1 100 7 = 0 ∧ S.1 100 8 = 0) : ∃ (mb : Nat) (em : Nat × Nat × Nat × Nat) (S' : nk_S), mnL p.1 p.2.2.2.1 0 = (mb : Int) ∧ p.2.2.2.2.2[mb]? = some em ∧ ja_X4_prove 92 Q S = some (0, S') ∧ S'.2 = (nk_wr (nk_wr S 92 0 Q) 92 1 (Q + 23)).2 ∧ (∀ a, a < 92 ∨ 112 ≤ a → a ≠ Q + 4 → a ≠ Q + 8 → S'.1 a = S.1 a) ∧ prE (fun y => th7 y ∨ ∃ x ∈ p.2.2.2.2.1.2.2.2, nbr x y) (lDn (lTh p.2.2.2.2.1.2.2.2)) (lUp (lTh p.2.2.2.2.1.2.2.2)) p.1 p.2.1 p.2.2.1 p.2.2.2.1 p.2.2.2.2.1 p.2.2.2.2.2 (pH p) (pLc p) (pTy p) em.1 Q S' ∧ (∀ k, k < p.2.1.length → S'.1 (Q + 4) k = (nOf p.2.1 p.2.2.1 k : Int)) ∧ ∀ (g : Nat) (x : List Int × Nat × Int), p.2.2.1[g]? = some x → S'.1 (Q + 8) g = ((nUp p.2.1 p.2.2.1 x.2.1 + cntF (p.2.2.1.take g) x.2.1 : Nat) : Int) := by
  obtain ⟨hok, hw, hA, hft⟩ := id h
  obtain ⟨k1, k2, k3, k4, k5, k6, k7, k8, k9, k10, k11, k12, k13⟩ := id hok
  obtain ⟨mb, ym, m1, m2, m3, m4⟩ := mnL_at p.2.2.2.1 0 k13
  rw [Nat.zero_add] at m1
  obtain ⟨xb, em, m5, m6⟩ := p_el h (at_lt m2)
  have hv : cPh S Q (p.1, p.2.1, p.2.2.1, p.2.2.2.1, p.2.2.2.2.1, p.2.2.2.2.2) := by
    obtain ⟨c1, c2, c3, c4, c5, c6, c7, c8, c9, -⟩ := id hp
    exact ⟨c1, c2, c3, c4, c5, c6, c7, c8, c9, trivial⟩
  obtain ⟨S', s1, s2, s3, s4⟩ := c_prove2 (ym := ym) (mb := mb) (em := em) hk (fun f y hy => ⟨k10 y (List.mem_of_getElem? hy), by have := k6.2 f y hy; omega⟩) (fun k y hy => by
    have hb := hA.2 k y hy
    obtain ⟨xb, e, q1, q2⟩ := p_el h hb
    have := ((hw _ xb e q1 q2).2.2.2.2.2.2.2 k y hy rfl).2.2.2.2.2.2.1
    omega) k6.1 k7.1 (fun y hy => by
    have := (tOk_V (us := p.2.1) (hft y hy) k2).2
    omega) (fun y hy => by
    have := rs_rg k8 y hy
    omega) hv (fun i x hx => by
    obtain ⟨a1, e, a2, a3, a4⟩ := hA.1 i x hx
    obtain ⟨xb, hxb⟩ : ∃ xb, p.2.2.2.1[x.2.2.2.1]? = some xb := ⟨_, List.getElem?_eq_getElem a1⟩
    rw [pH_at hx rfl a2, pLc_at hx rfl hxb, (hv.2.2.2.2.2.1 _ xb hxb).2.2.2.2.2]
    have hb := k8 xb (List.mem_of_getElem? hxb)
    refine ⟨hh _ e a1 a2 i a3 a4, ?_⟩
    have := hb.2.2.2.2.1
    omega) (fun i => ⟨pLc_12 h i, pH_8 i⟩) h6 hs (fun f y hy => k6.2 f y hy) (hp.2.2.2.2.2.2.2.2.2) (by rw [hv.2.2.2.2.1]; exact m1) m2 m3 m6
  exact ⟨mb, em, S', m1, m6, s1, s2, s3, s4⟩
end PKN2
