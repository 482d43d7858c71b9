/-! The run: the reference raises and throws. -/
/-- what a step of the reference leaves as it was -/
def rxG (S S' : nk_S) : Prop := S'.2 = S.2 ∧ (∀ a, a < 121 ∨ (121 < a ∧ a < 239) ∨ a = 248 ∨ 249 < a → S'.1 a = S.1 a) ∧ ∀ f, f < 52 ∨ f = 55 ∨ f = 58 ∨ f = 62 → S'.1 121 f = S.1 121 f
/-- what comes of a step, in the reference -/
def spR (p : jP) (S S' : nk_S) (i : Nat) (T : jT) : Prop := match T with
  | .inl m' => rMm p S' m' ∧ S'.1 121 61 = S.1 121 61 ∧ S'.1 121 59 = S.1 121 59 ∧ S'.1 121 60 = S.1 121 60
  | .inr R => S'.1 121 61 = (R.1 : Int) ∧ S'.1 121 59 = (i : Int) ∧ S'.1 121 60 = (if R.1 = 1 then R.2.1 else S.1 121 60) ∧ rIo S' R.2.2.2.2.2.2.2
section RTS
variable {p : jP} {m m' m1 : jM} {P Q : Nat} {tx : List (List Int)} {x : jC} {t : Nat → Int} {inp : Nat → Int} {S S' : nk_S} {A : jA} {σ : jG} {i : Nat} {v : jV}
theorem rxG_f (h : rxF S S') : rxG S S' := ⟨h.1, h.2.1, fun f hf => h.2.2 f (by omega)⟩
theorem rxG_trans {S1 S2 S3 : nk_S} (h : rxG S1 S2) (k : rxG S2 S3) : rxG S1 S3 := ⟨k.1.trans h.1, fun a q => (k.2.1 a q).trans (h.2.1 a q), fun f q => (k.2.2 f q).trans (h.2.2 f q)⟩
theorem rxG_w {f : Nat} {z : Int} (hf : f = 52 ∨ f = 59 ∨ f = 60 ∨ f = 61 ∨ f = 63) : rxG S (nk_wi S 121 f z) := ⟨rfl, fun a q => wi_n (by omega), fun g q => by rw [wi_at, if_neg (by omega)]⟩
theorem rXx_g (hF : rxG S S') (h : rXx S P p A σ) : rXx S' P p A σ := ⟨h.1, by rw [hF.1]; exact h.2.1, ldR_c h.1 (fun a x y => hF.2.1 a (by have := h.1; omega)) h.2.2⟩
theorem spR_s {S0 : nk_S} {T : jT} (h59 : S.1 121 59 = S0.1 121 59) (h60 : S.1 121 60 = S0.1 121 60) (h61 : S.1 121 61 = S0.1 121 61) (h : spR p S S' i T) : spR p S0 S' i T := by
  cases T with
  | inl m' =>
    obtain ⟨a, b, c, d⟩ := h
    exact ⟨a, by rw [b, h61], by rw [c, h59], by rw [d, h60]⟩
  | inr R =>
    obtain ⟨a, b, c, d⟩ := h
    exact ⟨a, b, by rw [c, h60], d⟩
/-- the catch takes the object -/
theorem r_ctT (h : rMn p S m) {r j : Nat} : ∃ S1 S', ja_X13_push 121 (rV (2, (r : Int))) (nk_wi S 241 m.d 0) = some (0, S1) ∧ S' = nk_wi S1 242 m.d (j : Int) ∧ nk_w (S1.1 121 52 - 1) = (m.d : Int) ∧ S1.2 = S.2 ∧ (∀ a, 121 < a → a < 239 → S1.1 a = S.1 a) ∧ rxF S S' ∧ rMm p S' (((m.drp (m.hs m.d)).psh (2, (r : Int))).go j) := by
  have h0 : rMm p (nk_wi S 241 m.d 0) (m.drp (m.hs m.d)) := by
    obtain ⟨⟨⟨d1, d2⟩, h2, h3, h4⟩, hH, hI⟩ := h
    have tn : ∀ a, a ≠ 241 → (nk_wi S 241 m.d 0).1 a = S.1 a := fun a ha => wi_n ha
    have e : (m.drp (m.hs m.d)).hs (m.drp (m.hs m.d)).d = 0 := by rw [drp_hs]; omega
    refine ⟨⟨⟨⟨by rw [tn 121 (by decide)]; exact d1, d2⟩, fun f hf => by rw [tn 242 (by decide)]; exact h2 f hf, fun f k hf hk => by rw [tn 239 (by decide)]; exact h3 f k hf hk, fun f hf => ?_⟩, rHp_c (S := S) (fun g _ => by rw [tn 121 (by decide)]) (fun a ha => tn a (by omega)) hH, rIo_c (S := S) (fun g _ => by rw [tn 121 (by decide)]) (tn 249 (by decide)) hI⟩, ?_, by omega, fun k hk => by omega⟩
    · have hf : f < m.d := hf
      obtain ⟨q1, q2, q3⟩ := h4 f hf
      have ef : (m.drp (m.hs m.d)).hs f = m.hs f := gU_ne (by omega)
      rw [wi_at, if_neg (by omega), tn 240 (by decide), ef]
      exact ⟨q1, q2, q3⟩
    · rw [e]
      show (nk_wi S 241 m.d 0).1 241 m.d = _
      rw [wi_at, if_pos rfl]; rfl
  obtain ⟨S1, a1, a2, a3⟩ := r_push h0 (by rw [drp_hs]; omega) (2, (r : Int))
  obtain ⟨b1, b2⟩ := r_pc a3 j
  have ed := r_dw a3.1.1 ()
  refine ⟨S1, _, a1, rfl, ed, a2.1, fun a x y => ?_, rxF_trans (rxF_trans (rxF_wi (by omega)) a2) b1, b2⟩
  rw [a2.2.1 a (by omega), wi_n (by omega)]
/-- the catches are looked through -/
theorem r_ctN (hwf : pWf tx p) (hk : pKX p Q) (h : rXx S P p A σ) (hM : rMn p S m) (hi : m.pc m.d = i) (hx : p.2.2.2.2.1.1[i]? = some x) (hi4 : i < 1024) {s : Int} (hs : tV p.2.1 s) {r : Nat} {pl : Int} (rec11 : Nat → Int → Int → Int → nk_S → Option (Int × nk_S)) : ∀ (c k g : Nat), c + k = p.2.2.2.2.1.2.2.1.length → c < g → (mCt p i s c k = none → ja_X13_toss_L34 rec11 g 121 (rV (2, (r : Int))) pl (rvU s) (i : Int) (k : Int) S = rec11 121 (rV (2, (r : Int))) pl (rvU s) (nk_wi S 121 52 (m.d : Int))) ∧ ∀ j, mCt p i s c k = some j → ∃ S', ja_X13_toss_L34 rec11 g 121 (rV (2, (r : Int))) pl (rvU s) (i : Int) (k : Int) S = some (0, S') ∧ rxF S S' ∧ rMm p S' (((m.drp (m.hs m.d)).psh (2, (r : Int))).go j) := by
  obtain ⟨c1, c2, c3, c4, c5, c6, c7, c8⟩ := p_ctx hwf hk
  obtain ⟨x1, x2, x3, x4, x5, x6, x7, x8⟩ := rx_at hwf hk h
  have h64 := hwf.1.2.2.2.2.2.2.2.2.2.2.1.2.2.1
  have ed := r_dw hM.1
  have d2 := hM.1.1.2
  have hcl : ∀ (k : Nat) (y : Nat × Nat × Nat × Nat × Nat), p.2.2.2.2.1.2.2.1[k]? = some y → y.2.2.2.2 < p.2.1.length := fun k y hy => by
    have hb := hwf.2.2.1.2 k y hy
    obtain ⟨xb', e', q1, q2⟩ := p_el hwf hb
    have := ((hwf.2.1 _ xb' e' q1 q2).2.2.2.2.2.2.2 k y hy rfl).2.2.2.2.2.2.1
    have := hwf.1.2.1
    omega
  intro c
  induction c with
  | zero =>
    intro k g h1 h2
    obtain ⟨g, rfl⟩ : ∃ q, g = q + 1 := ⟨g - 1, by omega⟩
    refine ⟨fun _ => ?_, (fun j q => by cases q)⟩
    rw [ja_X13_toss_L34]
    unfold ja_X13_toss_b34
    rw [h.2.1, x4.1, if_pos (by omega), ed (), lt_eq]
  | succ c ih =>
    intro k g h1 h2
    obtain ⟨g, rfl⟩ : ∃ q, g = q + 1 := ⟨g - 1, by omega⟩
    obtain ⟨i1, i2⟩ := ih (k + 1) g (by omega) (by omega)
    obtain ⟨y, hy⟩ : ∃ y, p.2.2.2.2.1.2.2.1[k]? = some y := ⟨_, List.getElem?_eq_getElem (by omega)⟩
    obtain ⟨y1, y2, y3, y4, y5⟩ := x4.2 k y hy
    have hcov := r_cov h.1 (k := k) (by omega) hi4 (S := S) (y := y) y1 y2 y3 (x2 i x hx).2.2.2
    have hyl := hcl k y hy
    have tvy : tV p.2.1 (4 + 2 * (y.2.2.2.2 : Int)) := by unfold tV; omega
    have hbe := m_isBe h.1 x1 c1 c2 hs tvy
    have ery : rvU (4 + 2 * (y.2.2.2.2 : Int)) = 8 + (y.2.2.2.2 : Int) := by
      unfold rvU
      rw [if_neg (by omega), if_neg (by omega), if_neg (by omega), if_neg (by omega), if_pos (by omega)]
      omega
    have e8 : ∀ _ : Unit, nk_w (8 + (y.2.2.2.2 : Int)) = rvU (4 + 2 * (y.2.2.2.2 : Int)) := fun _ => by rw [ery, nk_w_id (by omega) (by omega)]
    have hC : mCt p i s (c + 1) k = if (y.1 = x.2.2.2.1 ∧ y.2.1 ≤ i ∧ i < y.2.2.1) ∧ tLe p.2.1 s (4 + 2 * (y.2.2.2.2 : Int)) = true then some y.2.2.2.1 else mCt p i s c (k + 1) := by rw [mCt, hx, hy]
    have hne : ¬ (p.2.2.2.2.1.2.2.1.length : Int) ≤ (k : Int) := by omega
    have hL : (¬ ((y.1 = x.2.2.2.1 ∧ y.2.1 ≤ i ∧ i < y.2.2.1) ∧ tLe p.2.1 s (4 + 2 * (y.2.2.2.2 : Int)) = true) → ja_X13_toss_L34 rec11 (g + 1) 121 (rV (2, (r : Int))) pl (rvU s) (i : Int) (k : Int) S = ja_X13_toss_L34 rec11 g 121 (rV (2, (r : Int))) pl (rvU s) (i : Int) ((k + 1 : Nat) : Int) S) ∧ ((y.1 = x.2.2.2.1 ∧ y.2.1 ≤ i ∧ i < y.2.2.1) ∧ tLe p.2.1 s (4 + 2 * (y.2.2.2.2 : Int)) = true → ∃ S', ja_X13_toss_L34 rec11 (g + 1) 121 (rV (2, (r : Int))) pl (rvU s) (i : Int) (k : Int) S = some (0, S') ∧ rxF S S' ∧ rMm p S' (((m.drp (m.hs m.d)).psh (2, (r : Int))).go y.2.2.2.1)) := by
      have hdef : ja_X13_toss_L34 rec11 (g + 1) 121 (rV (2, (r : Int))) pl (rvU s) (i : Int) (k : Int) S = ja_X13_toss_b34 rec11 (ja_X13_toss_L34 rec11 g) 121 (rV (2, (r : Int))) pl (rvU s) (i : Int) (k : Int) S := rfl
      rw [hdef]
      unfold ja_X13_toss_b34
      rw [h.2.1, x4.1, hcov, bd_some]
      by_cases cc : y.1 = x.2.2.2.1 ∧ y.2.1 ≤ i ∧ i < y.2.2.1
      · rw [decide_eq_true cc, if_neg hne, if_neg (show ¬ bi true = 0 by decide), if_pos (in_i (N := 64) (by omega)), h.2.1, (jc_Pk h.1).2.2.2.2, Int.toNat_natCast, y5, e8 (), hbe, bd_some]
        cases ct : tLe p.2.1 s (4 + 2 * (y.2.2.2.2 : Int)) with
        | true =>
          refine ⟨fun q => absurd ⟨cc, rfl⟩ q, fun _ => ?_⟩
          rw [if_neg (show ¬ bi true = 0 by decide)]
          obtain ⟨S1, S', a1, a2, a3, a4, a5, a6, a7⟩ := r_ctT hM (r := r) (j := y.2.2.2.1)
          refine ⟨S', ?_, a6, a7⟩
          rw [ed (), if_pos (in_i (N := 64) (by omega)), jc_rm.2.2.1, Int.toNat_natCast, lt_eq, a1, bd_some, a3, if_pos (in_i (N := 64) (by omega)), jc_rm.2.2.2.1, Int.toNat_natCast, a4, h.2.1, (jc_Pk h.1).2.2.2.1, a5 (P + 24) (by have := h.1; omega) (by have := h.1; omega), y4, lt_eq, a2]
        | false =>
          refine ⟨fun _ => ?_, fun q => by cases q.2⟩
          rw [if_pos (show bi false = 0 from rfl), w_nat1 (by omega), lt_eq]
      · refine ⟨fun _ => ?_, fun q => absurd q.1 cc⟩
        rw [if_neg hne, decide_eq_false cc, if_pos (show bi false = 0 from rfl), w_nat1 (by omega), lt_eq]
    rw [hC]
    by_cases ctk : (y.1 = x.2.2.2.1 ∧ y.2.1 ≤ i ∧ i < y.2.2.1) ∧ tLe p.2.1 s (4 + 2 * (y.2.2.2.2 : Int)) = true
    · rw [if_pos ctk]
      refine ⟨(fun q => by cases q), fun j q => ?_⟩
      cases q
      exact hL.2 ctk
    · rw [if_neg ctk, hL.1 ctk]
      exact ⟨i1, i2⟩
theorem r_tossL (hwf : pWf tx p) (hk : pKX p Q) (hm : mOk p m) {r : Nat} (hr1 : 1 ≤ r) (hr : r ≤ m.n) {i : Int} : ∀ (f c g : Nat) (S : nk_S), f ≤ m.d → f < c → f + 1 < g → rXx S P p A σ → rMn p S ((f, m.2) : jM) → ∃ S', ja_X13_toss_L11 g 121 (rV (2, (r : Int))) i (rvU (sTp p.2.2.2.2.1 (m.si (r - 1)))) S = some (0, S') ∧ S'.1 121 63 = S.1 121 63 ∧ rxG S S' ∧ (match mTs p r c ((f, m.2) : jM) with
    | some m' => rMm p S' m' ∧ S'.1 121 61 = S.1 121 61 ∧ S'.1 121 59 = S.1 121 59 ∧ S'.1 121 60 = S.1 121 60
    | none => S'.1 121 61 = 1 ∧ S'.1 121 59 = i ∧ S'.1 121 60 = (m.si (r - 1) : Int) ∧ rIo S' m.2.2.2.2.2) := by
  obtain ⟨c1, c2, c3, c4, c5, c6, c7, c8⟩ := p_ctx hwf hk
  have hn := hm.2.1.2.1
  have hv := hm.2.1.2.2.2.2.1 (r - 1) (by omega)
  have hK := hwf.1.2.2.2.2.2.2.2.2.2.2.1.2.2.1
  obtain ⟨bm, hbm⟩ := big_ge 100 (by decide)
  intro f
  induction f with
  | zero => ?_
  | succ f ih => ?_
  all_goals
    intro c g S hf hc hg h hM
    obtain ⟨c, rfl⟩ : ∃ q, c = q + 1 := ⟨c - 1, by omega⟩
    obtain ⟨g, rfl⟩ : ∃ q, g = q + 1 := ⟨g - 1, by omega⟩
    obtain ⟨x0, t0, q1, q2, q3⟩ := fr_at hm hf
    have hlt1 := at_lt q1
    have hlt2 := hwf.1.2.2.2.2.2.2.2.2.2.2.1.1
    have ed := r_dw hM.1
    have d1 := hM.1.1.1
    have e242 := hM.1.2.1 _ (Nat.le_refl _)
    rw [mTs]
  · have e1 : jM.pc ((0, m.2) : jM) (jM.d ((0, m.2) : jM)) = m.pc 0 := rfl
    have e2 : jM.si ((0, m.2) : jM) (r - 1) = m.si (r - 1) := rfl
    have ed : ∀ _ : Unit, nk_w (S.1 121 52 - 1) = ((0 : Nat) : Int) := ed
    have d1 : S.1 121 52 = ((0 : Nat) : Int) + 1 := d1
    have e242 : S.1 242 0 = (m.pc 0 : Int) := e242
    obtain ⟨g1, g2⟩ := r_ctN hwf hk h hM (i := m.pc 0) rfl q1 (by omega) (c4 _ hv).1 (r := r) (pl := i) (ja_X13_toss_L11 g) _ 0 nk_big (Nat.add_zero _) (by omega)
    have hd : ja_X13_toss_L11 (g + 1) 121 (rV (2, (r : Int))) i (rvU (sTp p.2.2.2.2.1 (m.si (r - 1)))) S = ja_X13_toss_L34 (ja_X13_toss_L11 g) nk_big 121 (rV (2, (r : Int))) i (rvU (sTp p.2.2.2.2.1 (m.si (r - 1)))) (m.pc 0 : Int) ((0 : Nat) : Int) S := by
      rw [ja_X13_toss_L11]
      unfold ja_X13_toss_b11
      rw [if_neg (by omega), ed (), if_pos (in_i (N := 64) (by decide)), jc_rm.2.2.2.1, Int.toNat_natCast, e242, lt_eq]
      rfl
    rw [hd, e1, e2]
    cases hm1 : mCt p (m.pc 0) (sTp p.2.2.2.2.1 (m.si (r - 1))) p.2.2.2.2.1.2.2.1.length 0 with
    | none =>
      obtain ⟨g, rfl⟩ : ∃ q, g = q + 1 := ⟨g - 1, by omega⟩
      obtain ⟨T, hT⟩ : ∃ T, T = nk_wi S 121 52 ((0 : Nat) : Int) := ⟨_, rfl⟩
      have g1 := g1 hm1
      have em : jM.d ((0, m.2) : jM) = 0 := rfl
      rw [em, ← hT] at g1
      have eo : (r : Int) = ((r - 1 + 1 : Nat) : Int) := by omega
      have h44 : S.1 244 (r - 1) = (m.si (r - 1) : Int) := (hM.2.1.2.2.1 (r - 1) (show r - 1 < m.n by omega)).2.1
      have t44 : T.1 244 (r - 1) = (m.si (r - 1) : Int) := by rw [hT, wi_n (by decide)]; exact h44
      have hob : ja_X13_objectOf (rV (2, (r : Int))) T = some (((r - 1 : Nat) : Int), T) := by
        have := r_ob (o := r - 1) (by omega) T
        rw [← eo] at this
        exact this
      refine ⟨nk_wi (nk_wi (nk_wi T 121 60 (m.si (r - 1) : Int)) 121 61 1) 121 59 i, ?_, ?_, ?_, ?_⟩
      · rw [g1, ja_X13_toss_L11]
        unfold ja_X13_toss_b11 ja_X13_ended
        have t52 : T.1 121 52 = 0 := by rw [hT, wi_at, if_pos rfl]; rfl
        rw [t52, if_pos (by omega), hob, bd_some, if_pos (in_i (N := 2000) (by omega)), jc_rm.2.2.2.2.2.1, Int.toNat_natCast, t44, lt_eq, lt_eq, lt_eq, bd_some]
      · rw [wi_at, if_neg (by decide), wi_at, if_neg (by decide), wi_at, if_neg (by decide), hT, wi_at, if_neg (by decide)]
      · rw [hT]
        exact rxG_trans (rxG_trans (rxG_trans (rxG_w (by decide)) (rxG_w (by decide))) (rxG_w (by decide))) (rxG_w (by decide))
      · dsimp only
        rw [if_pos rfl]
        refine ⟨by rw [wi_at, if_neg (by decide), wi_at, if_pos rfl], by rw [wi_at, if_pos rfl], by rw [wi_at, if_neg (by decide), wi_at, if_neg (by decide), wi_at, if_pos rfl], ?_⟩
        exact rIo_c (S := S) (fun g hg => by rw [wi_at, if_neg (by omega), wi_at, if_neg (by omega), wi_at, if_neg (by omega), hT, wi_at, if_neg (by omega)]) (by rw [wi_n (by decide), wi_n (by decide), wi_n (by decide), hT, wi_n (by decide)]) hM.2.2
    | some j =>
      obtain ⟨S', a1, a2, a3⟩ := g2 j hm1
      exact ⟨S', a1, a2.2.2 63 (by omega), rxG_f a2, a3, a2.2.2 61 (by omega), a2.2.2 59 (by omega), a2.2.2 60 (by omega)⟩
  · have e1 : jM.pc ((f + 1, m.2) : jM) (jM.d ((f + 1, m.2) : jM)) = m.pc (f + 1) := rfl
    have e2 : jM.si ((f + 1, m.2) : jM) (r - 1) = m.si (r - 1) := rfl
    have ed : ∀ _ : Unit, nk_w (S.1 121 52 - 1) = ((f + 1 : Nat) : Int) := ed
    have d1 : S.1 121 52 = ((f + 1 : Nat) : Int) + 1 := d1
    have e242 : S.1 242 (f + 1) = (m.pc (f + 1) : Int) := e242
    have hmd := hm.1
    obtain ⟨g1, g2⟩ := r_ctN hwf hk h hM (i := m.pc (f + 1)) rfl q1 (by omega) (c4 _ hv).1 (r := r) (pl := i) (ja_X13_toss_L11 g) _ 0 nk_big (Nat.add_zero _) (by omega)
    have hd : ja_X13_toss_L11 (g + 1) 121 (rV (2, (r : Int))) i (rvU (sTp p.2.2.2.2.1 (m.si (r - 1)))) S = ja_X13_toss_L34 (ja_X13_toss_L11 g) nk_big 121 (rV (2, (r : Int))) i (rvU (sTp p.2.2.2.2.1 (m.si (r - 1)))) (m.pc (f + 1) : Int) ((0 : Nat) : Int) S := by
      rw [ja_X13_toss_L11]
      unfold ja_X13_toss_b11
      rw [if_neg (by omega), ed (), if_pos (in_i (N := 64) (by omega)), jc_rm.2.2.2.1, Int.toNat_natCast, e242, lt_eq]
      rfl
    rw [hd, e1, e2]
    cases hm1 : mCt p (m.pc (f + 1)) (sTp p.2.2.2.2.1 (m.si (r - 1))) p.2.2.2.2.1.2.2.1.length 0 with
    | none =>
      obtain ⟨T, hT⟩ : ∃ T, T = nk_wi S 121 52 ((f + 1 : Nat) : Int) := ⟨_, rfl⟩
      have g1 := g1 hm1
      have em : jM.d ((f + 1, m.2) : jM) = f + 1 := rfl
      rw [em, ← hT] at g1
      have tn : ∀ a, a ≠ 121 → T.1 a = S.1 a := fun a ha => by rw [hT, wi_n ha]
      have tf : ∀ k, T.1 121 k = if k = 52 then ((f + 1 : Nat) : Int) else S.1 121 k := fun k => by rw [hT, wi_at]
      have hG : rxG S T := by rw [hT]; exact rxG_w (by decide)
      have hMT : rMn p T ((f, m.2) : jM) := by
        obtain ⟨⟨-, w2, w3, w4⟩, wH, wI⟩ := hM
        refine ⟨⟨⟨by rw [tf, if_pos rfl]; show ((f + 1 : Nat) : Int) = (f : Int) + 1; omega, show f < 64 by omega⟩, fun k hk' => by rw [tn 242 (by decide)]; exact w2 k (show k ≤ f + 1 from Nat.le_succ_of_le hk'), fun k q hk' hq => by rw [tn 239 (by decide)]; exact w3 k q (show k ≤ f + 1 from Nat.le_succ_of_le hk') hq, fun k hk' => ?_⟩, rHp_c (S := S) (fun g hg => by rw [tf, if_neg (by omega)]) (fun a ha => tn a (by omega)) wH, rIo_c (S := S) (fun g hg => by rw [tf, if_neg (by omega)]) (tn 249 (by decide)) wI⟩
        rw [tn 241 (by decide), tn 240 (by decide)]
        exact w4 k (show k < f + 1 from Nat.lt_succ_of_lt hk')
      obtain ⟨S', z1, z2, z3, z4⟩ := ih c g T (by omega) (by omega) (by omega) (rXx_g hG h) hMT
      refine ⟨S', by rw [g1, z1], by rw [z2, tf, if_neg (by decide)], rxG_trans hG z3, ?_⟩
      dsimp only
      rw [if_neg (show ¬ f + 1 = 0 by omega)]
      have eb : jM.bck ((f + 1, m.2) : jM) = ((f, m.2) : jM) := rfl
      rw [eb]
      cases hts : mTs p r c ((f, m.2) : jM) with
      | some m' =>
        rw [hts] at z4
        obtain ⟨y1, y2, y3, y4⟩ := z4
        exact ⟨y1, by rw [y2, tf, if_neg (by decide)], by rw [y3, tf, if_neg (by decide)], by rw [y4, tf, if_neg (by decide)]⟩
      | none =>
        rw [hts] at z4
        exact z4
    | some j =>
      obtain ⟨S', a1, a2, a3⟩ := g2 j hm1
      exact ⟨S', a1, a2.2.2 63 (by omega), rxG_f a2, a3, a2.2.2 61 (by omega), a2.2.2 59 (by omega), a2.2.2 60 (by omega)⟩
/-- an object is thrown -/
theorem r_toss (hwf : pWf tx p) (hk : pKX p Q) (hm : mOk p m) {r : Nat} (hr1 : 1 ≤ r) (hr : r ≤ m.n) (h : rXx S P p A σ) (hM : rMn p S m) (i : Nat) : ∃ S', ja_X13_toss 121 (rV (2, (r : Int))) (i : Int) S = some (0, S') ∧ S'.1 121 63 = S.1 121 63 ∧ rxG S S' ∧ spR p S S' i (mTw p m r) := by
  have hn := hm.2.1.2.1
  have hd := hm.1
  obtain ⟨bm, hbm⟩ := big_ge 100 (by decide)
  obtain ⟨S', g1, g2, g3, g4⟩ := r_tossL (A := A) (σ := σ) (P := P) hwf hk hm hr1 hr (i := (i : Int)) m.d 64 nk_big S (Nat.le_refl _) (by omega) (by omega) h hM
  have eo : (r : Int) = ((r - 1 + 1 : Nat) : Int) := by omega
  have hob : ja_X13_objectOf (rV (2, (r : Int))) S = some (((r - 1 : Nat) : Int), S) := by
    have := r_ob (o := r - 1) (by omega) S
    rw [← eo] at this
    exact this
  have h43 : S.1 243 (r - 1) = rvU (sTp p.2.2.2.2.1 (m.si (r - 1))) := (hM.2.1.2.2.1 (r - 1) (show r - 1 < m.n by omega)).1
  have em : ((m.d, m.2) : jM) = m := rfl
  rw [em] at g4
  refine ⟨S', ?_, g2, g3, ?_⟩
  · unfold ja_X13_toss
    rw [hob, bd_some, if_pos (in_i (N := 2000) (by omega)), jc_rm.2.2.2.2.1, Int.toNat_natCast, h43, lt_eq, g1]
  · unfold mTw
    cases hts : mTs p r 64 m with
    | some m' =>
      rw [hts] at g4
      exact g4
    | none =>
      rw [hts] at g4
      obtain ⟨y1, y2, y3, y4⟩ := g4
      exact ⟨y1, y2, by rw [y3]; rfl, y4⟩
end RTS
