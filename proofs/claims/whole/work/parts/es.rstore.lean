/-! The reference writes elements. -/
section RST
variable {ns : List (List Int)} {us : List Int} {fl : List (List Int × Nat × Int)} {bl : List jB} {z : jL} {el : List (Nat × Nat × Nat × Nat)} {F : Int → Prop} {dn up : Int → Int} {H lc : Nat → Nat} {ty : Nat → Option (Nat → Int)} {th : Nat → Int} {n P m0 : Nat} {σ : jG} {i : Nat} {x : jC} {u : jQ} {S T : nk_S} {A R : jA} {D : Nat → Bool}
/-- the type of a site -/
theorem rk_st (hk : rKx F th n dn up ns us fl bl z el H lc ty P) (hv : rPv S P (ns, us, fl, bl, z, el) H ty) {s : Nat} (h1 : s < 54) (h2 : sVd z s = true) : S.1 (P + 20) s = rvU (sTp z s) := by
  obtain ⟨b1, b2, -, -, -, -, -, -, -, -, ⟨b11, b11'⟩, b12, -⟩ := hv.1
  obtain ⟨hT, hs, -, huO, h32, h8, hz48, -⟩ := id hk.2.1
  have h3 := (hs s h2).2
  have hrv := rvU_T (t := sTp z s) (Or.inr h3)
  rw [← hrv]
  unfold sTp
  by_cases c : s < z.2.1.length
  · rw [if_pos c]
    obtain ⟨t0, ht0⟩ : ∃ t0, z.2.1[s]? = some t0 := ⟨_, List.getElem?_eq_getElem c⟩
    rw [List.getD_eq_getElem?_getD, ht0, Option.getD_some]
    exact b11' s t0 ht0
  · rw [if_neg c]
    have h48 : 48 ≤ s := by
      unfold sVd at h2
      rw [decide_eq_false c, Bool.false_or, Bool.and_eq_true] at h2
      exact of_decide_eq_true h2.1
    rw [b12 s h48 h1]
    unfold rvT
    rw [if_neg (by omega), if_neg (by omega), if_neg (by omega), if_pos (by omega)]
    omega
/-- slots are kept -/
theorem rX_g {S S' : nk_S} {t : Nat} {u : jQ} (h : ∀ a, 229 ≤ a → a ≤ 237 → S'.1 a = S.1 a) (hr : rX S t u) : rX S' t u := fun k hk => rSo_c (fun j hj => by rw [h (rWk j) (by unfold rWk; omega) (by unfold rWk; omega)]) (hr k hk)
/-- the frame of storing -/
def asF (P : Nat) (S S' : nk_S) : Prop := S'.2 = S.2 ∧ (∀ a, ¬ (P + 39 ≤ a ∧ a ≤ P + 45) → a ≠ 121 → S'.1 a = S.1 a) ∧ ∀ f, f ≠ 37 → f ≠ 39 → S'.1 121 f = S.1 121 f
theorem asF_t {S S' : nk_S} (h : tbF P S S') : asF P S S' := ⟨h.1, h.2.1, fun f h1 _ => h.2.2 f h1⟩
theorem asF_trans {S1 S2 S3 : nk_S} (h : asF P S1 S2) (q : asF P S2 S3) : asF P S1 S3 := ⟨q.1.trans h.1, fun a r x => (q.2.1 a r x).trans (h.2.1 a r x), fun f r x => (q.2.2 f r x).trans (h.2.2 f r x)⟩
theorem asF_r {b : Bool} {c : Int} {S : nk_S} : asF P S (rzW b c S) := by
  unfold rzW
  cases b with
  | false => rw [if_neg (by decide)]; exact ⟨rfl, fun _ _ _ => rfl, fun _ _ _ => rfl⟩
  | true => rw [if_pos rfl]; exact ⟨rfl, fun a _ h => wi_n h, fun f _ h => by rw [wi_at, if_neg h]⟩
theorem vCh_r {b : Bool} {c : Int} {S T : nk_S} {σ' : jG} {R' : jA} (h : vCh th n S σ R T σ' R') : vCh th n S σ R (rzW b c T) σ' R' := by
  have e : (rzW b c T).1 121 37 = T.1 121 37 := by
    unfold rzW
    cases b with
    | false => rw [if_neg (by decide)]
    | true => rw [if_pos rfl, wi_at, if_neg (by decide)]
  unfold vCh at h ⊢
  rw [e]; exact h
theorem nlR_or {a b : Bool} {e : Nat} {r : Nat → Bool} : nlR b e (nlR a e r) = nlR (a || b) e r := by
  unfold nlR
  cases a <;> cases b
  · rfl
  · rfl
  · rfl
  · rw [if_pos rfl, if_pos rfl]
    show sOr (sOr r (onS e)) (onS e) = sOr r (onS e)
    funext j
    unfold sOr
    cases r j <;> cases onS e j <;> rfl
theorem r_asL (hk : rKx F th n dn up ns us fl bl z el H lc ty P) (hv : rPv S P (ns, us, fl, bl, z, el) H ty) (hl : us.length = ns.length) {h : Nat} (h1 : 1 ≤ h) (h8 : h ≤ 8) {w : Nat → Bool} {xx : Int} (hx : cV xx w) {q : jW} (ow : wOk F q) (h0 : q.1 ≠ 0) (hpu : puS F us z q w) (hg : ∀ m, m ≤ z.2.1.length → gOk F us fl bl z (peG us z w q σ m)) {X : jQ} (hX : X (12 + h - 1) = q) (h25 : S.1 121 25 = ((12 + h : Nat) : Int)) {r0 : Nat → Bool} : ∀ (d s m : Nat) (T : nk_S), s + d = z.2.1.length → d < m → asF P S T → rX T (12 + h) X → rGm T P (peG us z w q σ s) → rRm T P bl R → vCh th n S σ R T (peG us z w q σ s) R → cI (T.1 121 39) (nlR (peR us z w q s) 5 r0) → ∃ T', ja_X13_element_L88 m 121 P xx (bi (exB (fun k => w k && (pHl us z k q).isSome) s)) (s : Int) T = some (bi (exB (fun k => w k && (pHl us z k q).isSome) z.2.1.length), nk_wi T' 121 25 (nk_w (((12 + h : Nat) : Int) - 3))) ∧ asF P S T' ∧ rX T' (12 + h) X ∧ rGm T' P (peG us z w q σ z.2.1.length) ∧ rRm T' P bl R ∧ vCh th n S σ R T' (peG us z w q σ z.2.1.length) R ∧ cI (T'.1 121 39) (nlR (peR us z w q z.2.1.length) 5 r0) := by
  obtain ⟨hP, hC, -, hN, hz, -, hps, hbl, hfl⟩ := id hk
  obtain ⟨hT, hso, -, huO, h32, hh8, hz48, -⟩ := id hC
  obtain ⟨-, -, -, -, c27, -, -⟩ := jc_Pc hP
  have e1 : ∀ _ : Unit, nk_w (((12 + h : Nat) : Int) - 1) = ((12 + h - 1 : Nat) : Int) := fun _ => top_w (d := 1) h8 (by omega)
  have hP4 : S.1 P 4 = (z.2.1.length : Int) := hv.1.2.2.2.2.2.2.2.2.2.2.1.1
  intro d
  induction d with
  | zero =>
    intro s m T g1 g2 g3 g4 g5 g6 g7 g8
    obtain ⟨m, rfl⟩ : ∃ q, m = q + 1 := ⟨m - 1, by omega⟩
    obtain rfl : s = z.2.1.length := by omega
    refine ⟨T, ?_, g3, g4, g5, g6, g7, g8⟩
    show ja_X13_element_b88 _ 121 P _ _ _ _ = _
    unfold ja_X13_element_b88
    rw [g3.2.1 P (by omega) (by omega), hP4, if_pos (by omega), g3.2.2 25 (by decide) (by decide), h25, lt_eq, if_pos (bi_01 _)]
  | succ d ih =>
    intro s m T g1 g2 g3 g4 g5 g6 g7 g8
    obtain ⟨m, rfl⟩ : ∃ q, m = q + 1 := ⟨m - 1, by omega⟩
    have es : ∀ _ : Unit, nk_w ((s : Int) + 1) = ((s + 1 : Nat) : Int) := fun _ => w_nat1 (by omega)
    have ei : ∀ _ : Unit, nk_w (2592 + (s : Int)) = ((2592 + s : Nat) : Int) := fun _ => by
      rw [nk_w_id (z := 2592 + (s : Int)) (by omega) (by omega)]; omega
    have t25 : T.1 121 25 = ((12 + h : Nat) : Int) := by rw [g3.2.2 25 (by decide) (by decide), h25]
    have exS : exB (fun k => w k && (pHl us z k q).isSome) (s + 1) = (exB (fun k => w k && (pHl us z k q).isSome) s || (w s && (pHl us z s q).isSome)) := rfl
    have prS : peR us z w q (s + 1) = (peR us z w q s || (decide (q.1 ≠ 1) && (w s && sEx (sMi q.2.2.1 (sOr (pB us z (tEl (sTp z s))) (onS 62)))))) := by
      unfold peR
      show (decide (q.1 ≠ 1) && (exB _ s || _)) = _
      cases decide (q.1 ≠ 1) <;> rfl
    show ∃ T', ja_X13_element_b88 (ja_X13_element_L88 m) 121 P xx _ (s : Int) T = _ ∧ _
    unfold ja_X13_element_b88
    rw [g3.2.1 P (by omega) (by omega), hP4, if_neg (by omega), r_bit hx (by omega)]
    cases hw : w s with
    | false =>
      rw [if_pos (show bi false = 0 from rfl), es (), lt_eq]
      have e : peG us z w q σ (s + 1) = peG us z w q σ s := by rw [peG, if_neg (by rw [hw]; decide)]
      have := ih (s + 1) m T (by omega) (by omega) g3 g4 (by rw [e]; exact g5) g6 (by rw [e]; exact g7) (by rw [prS, hw, Bool.false_and, Bool.and_false, Bool.or_false]; exact g8)
      rw [exS, hw, Bool.false_and, Bool.or_false] at this
      exact this
    | true =>
      obtain ⟨u1, u2, u3, u4, u5⟩ := hpu s (by omega) hw
      have hvd : sVd z s = true := by unfold sVd; rw [decide_eq_true u1]; rfl
      have hst : T.1 (P + 20) s = rvU (sTp z s) := by rw [g3.2.1 (P + 20) (by omega) (by omega)]; exact rk_st hk hv (by omega) hvd
      have htv := (hso s hvd).1
      have hme := m_elt h32 htv T
      rw [if_pos u4] at hme
      have rvt := rvU_s h32 (tV_el htv u4)
      have zt : zTp fl bl z (2592 + s) = tEl (sTp z s) := zTp_e (by omega)
      have ix : rIx (2592 + s) = 2592 + s := by unfold rIx; rw [if_pos (by omega)]
      have hsl : rSo T rWk (12 + h - 1) q := by have := g4 (12 + h - 1) (by omega); rw [hX] at this; exact this
      rw [if_neg (show ¬ bi true = 0 by decide), if_pos (in_i (N := 54) (by omega)), c27, Int.toNat_natCast, hst, hme, bd_some]
      by_cases ct : tEl (sTp z s) = 1
      · have q1 : q.1 = 1 := u3.mp ct
        have hpl : pHl us z s q = some (wBr q) := by unfold pHl; rw [if_pos q1]
        have hvl := u5 _ hpl
        have e : peG us z w q σ (s + 1) = gAd (peG us z w q σ s) (2592 + s) (wBr q) := by rw [peG, if_pos hw, hpl]
        have jo : jnO P (rIx (2592 + s)) T ((peG us z w q σ s).1 (2592 + s)) (wBr q) (ja_X13_joinSlotInto 121 P ((rIx (2592 + s) : Nat) : Int) ((12 + h - 1 : Nat) : Int) T) := jn_slot hP (rIx_lt (by omega)) (by omega) (g5.1 _ (by omega)) ow hsl h0 (jn_k (hg s (by omega)) (w := wBr q) (by rw [zt]; exact hvl) (by rw [zt]; exact u2))
        obtain ⟨T1, b1, b2, b3, b4, b5⟩ := jn_tb hP hN (hg s (by omega)) (k := 2592 + s) (by omega) (w := wBr q) (by rw [zt]; exact hvl) jo g5 g6 hbl hps
        rw [ix] at b1
        rw [if_pos (rvt.2.1.mpr ct), ei (), t25, e1 (), b1, bd_some, es (), lt_eq]
        have := ih (s + 1) m T1 (by omega) (by omega) (asF_trans g3 (asF_t b2)) (rX_t hP b2 g4) (by rw [e]; exact b3) b4 (by rw [e]; exact vCh_trans g7 b5) (by rw [prS, decide_eq_false (show ¬ q.1 ≠ 1 from fun r => r q1), Bool.false_and, Bool.or_false, b2.2.2 39 (by decide)]; exact g8)
        rw [exS, hw, hpl, show ((true && (some (wBr q)).isSome)) = true from rfl, Bool.or_true] at this
        exact this
      · have q1 : ¬ q.1 = 1 := fun r => ct (u3.mpr r)
        have q2 : q.1 = 2 := by have := wOk_k ow; omega
        obtain ⟨fit, hfit⟩ : ∃ fit, fit = sOr (pB us z (tEl (sTp z s))) (onS 62) := ⟨_, rfl⟩
        obtain ⟨v, v1, v2⟩ := rk_sb (S := T) hk (rPv_c (fun a h1 h2 => g3.2.1 a (by omega) (by omega)) (g3.2.1 224 (by omega) (by omega)) hv) hl (tV_el htv u4)
        have cf : cV (nk_lor v 4611686018427387904) fit := by rw [hfit]; exact cV_or v2 cV_62
        have c3 : cV (T.1 232 (12 + h - 1)) q.2.2.1 := hsl.2.2.2.1
        have zE := st_ex ow c3 (cV_not cf)
        have zF := st_ex ow c3 cf
        obtain ⟨E, hE⟩ : ∃ E, E = sEx (sMi q.2.2.1 fit) := ⟨_, rfl⟩
        have zE : nk_land (T.1 232 (12 + h - 1)) (nk_lxor (nk_lor v 4611686018427387904) (-1)) = 0 ↔ E = false := by rw [hE]; exact zE
        rw [if_neg (fun r => ct (rvt.2.1.mp r)), v1, bd_some, lt_eq, t25, e1 (), if_pos (in_i (N := 24) (by omega)), jc_121_29, Int.toNat_natCast]
        -- the error
        obtain ⟨T1, hT1⟩ : ∃ T1, T1 = rzW E 32 T := ⟨_, rfl⟩
        have fr := rzW_f (S := T) (b := E) (c := 32)
        rw [← hT1] at fr
        obtain ⟨f1, f2, f3, f4, f5⟩ := fr
        have a1 : asF P T T1 := by rw [hT1]; exact asF_r
        have raised : cI (T1.1 121 39) (nlR (peR us z w q (s + 1)) 5 r0) := by
          have := rzW_r (b := E) (S := T) cI_c.2.2.2.2.2 g8
          rw [← hT1, nlR_or] at this
          rw [prS, decide_eq_true (show q.1 ≠ 1 from q1), Bool.true_and, hw, Bool.true_and, ← hfit, ← hE]
          exact this
        have code : (if nk_land (T.1 232 (12 + h - 1)) (nk_lxor (nk_lor v 4611686018427387904) (-1)) = 0 then ja_X13_element_b198 (ja_X13_element_L88 m) 121 P xx (bi (exB (fun k => w k && (pHl us z k q).isSome) s)) (s : Int) (nk_lor v 4611686018427387904) T else nk_lt (nk_wi T 121 39 (nk_ior (T.1 121 39) 32)) fun S16 => ja_X13_element_b198 (ja_X13_element_L88 m) 121 P xx (bi (exB (fun k => w k && (pHl us z k q).isSome) s)) (s : Int) (nk_lor v 4611686018427387904) S16) = ja_X13_element_b198 (ja_X13_element_L88 m) 121 P xx (bi (exB (fun k => w k && (pHl us z k q).isSome) s)) (s : Int) (nk_lor v 4611686018427387904) T1 := by
          rw [hT1]
          unfold rzW
          cases hE' : E with
          | false => rw [if_pos (zE.mpr hE'), if_neg (show ¬ false = true by decide)]
          | true => rw [if_neg (fun r => by rw [zE.mp r] at hE'; cases hE'), if_pos rfl, lt_eq]
        rw [code]
        unfold ja_X13_element_b198
        rw [f2, t25, e1 (), if_pos (in_i (N := 24) (by omega)), jc_121_29, Int.toNat_natCast, f4 232 (by decide)]
        have r1 : rGm T1 P (peG us z w q σ s) := rGm_c (fun a h1 h2 => f4 a (by omega)) g5
        have r2 : rRm T1 P bl R := rRm_c (fun a h1 h2 => f4 a (by omega)) g6
        have x1 : rX T1 (12 + h) X := f5 g4
        have g7' : vCh th n S σ R T1 (peG us z w q σ s) R := by rw [hT1]; exact vCh_r g7
        have hpq : pHl us z s q = if sEx (sAnd q.2.2.1 fit) = true then some (wS (sAnd q.2.2.1 fit)) else none := by unfold pHl; rw [if_neg q1, ← hfit]
        cases hF : sEx (sAnd q.2.2.1 fit) with
        | false =>
          have hpl : pHl us z s q = none := by rw [hpq, hF, if_neg (by decide)]
          have e : peG us z w q σ (s + 1) = peG us z w q σ s := by rw [peG, if_pos hw, hpl]
          rw [if_pos (zF.mpr hF), es (), lt_eq]
          have := ih (s + 1) m T1 (by omega) (by omega) (asF_trans g3 a1) x1 (by rw [e]; exact r1) r2 (by rw [e]; exact g7') raised
          rw [exS, hw, hpl, show ((true && (none : Option jW).isSome)) = false from rfl, Bool.or_false] at this
          exact this
        | true =>
          have hpl : pHl us z s q = some (wS (sAnd q.2.2.1 fit)) := by rw [hpq, hF, if_pos rfl]
          have hvl := u5 _ hpl
          have e : peG us z w q σ (s + 1) = gAd (peG us z w q σ s) (2592 + s) (wS (sAnd q.2.2.1 fit)) := by rw [peG, if_pos hw, hpl]
          have jo : jnO P (rIx (2592 + s)) T1 ((peG us z w q σ s).1 (2592 + s)) (wS (sAnd q.2.2.1 fit)) (ja_X13_joinSites 121 P ((rIx (2592 + s) : Nat) : Int) (nk_land (T.1 232 (12 + h - 1)) (nk_lor v 4611686018427387904)) T1) := jn_sites hP (rIx_lt (by omega)) (r1.1 _ (by omega)) (vBr_l hvl) rfl (cV_and c3 cf) (jn_k (hg s (by omega)) (w := wS (sAnd q.2.2.1 fit)) (by rw [zt]; exact hvl) (by rw [zt]; exact u2))
          obtain ⟨T2, b1, b2, b3, b4, b5⟩ := jn_tb hP hN (hg s (by omega)) (k := 2592 + s) (by omega) (w := wS (sAnd q.2.2.1 fit)) (by rw [zt]; exact hvl) jo r1 r2 hbl hps
          rw [ix] at b1
          rw [if_neg (fun r => by rw [zF.mp r] at hF; cases hF), ei (), b1, bd_some, es (), lt_eq]
          have := ih (s + 1) m T2 (by omega) (by omega) (asF_trans (asF_trans g3 a1) (asF_t b2)) (rX_t hP b2 x1) (by rw [e]; exact b3) b4 (by rw [e]; exact vCh_trans g7' b5) (by rw [b2.2.2 39 (by decide)]; exact raised)
          rw [exS, hw, hpl, show ((true && (some (wS (sAnd q.2.2.1 fit))).isSome)) = true from rfl, Bool.or_true] at this
          exact this
end RST
