/-! The class finds what suits. -/
theorem ob_45 : ∀ o : Nat, o < 46 → (((ja_ob 45).getD o 0).toInt = 7 ↔ o = 37 ∨ o = 38) := by decide +kernel
section CSU
variable {ns : List (List Int)} {us : List Int} {fl : List (List Int × Nat × Int)} {bl : List jB} {z : jL} {el : List (Nat × Nat × Nat × Nat)} {F : Int → Prop} {dn up : Int → Int} {H lc : Nat → Nat} {ty : Nat → Option (Nat → Int)} {th : Nat → Int} {n Q : Nat} {i : Nat} {x : jC} {S : nk_S}
theorem cw_all (hC : pCx F dn up ns us fl bl z el H lc ty) (hx : z.1[i]? = some x) : (∃ (a b : Nat) (l : Int), cW ns us fl bl z.2.1 a b l x) ∧ us.length = ns.length ∧ fl.length ≤ 48 ∧ bl.length ≤ 48 ∧ z.1.length ≤ 1024 ∧ z.2.2.1.length ≤ 64 := by
  obtain ⟨hT, hs, hov, huO, h32, h8, hz, hin, hbd, hop⟩ := hC
  obtain ⟨xb, e, M, X, b1, b2, b3, b4, b5, -⟩ := hin i x hx
  obtain ⟨hbo, hcw, hi⟩ := cW_at b5 b3 b4 hx
  exact ⟨⟨_, _, _, hcw⟩, b5.2.2.2.2.1, b5.2.2.2.2.2.2.2.2.2.2.2.2.1, b5.2.2.2.2.2.2.2.2.2.2.2.2.2.1, b5.2.2.2.2.2.2.2.2.2.2.2.2.2.2.1, b5.2.2.2.2.2.2.2.2.2.2.2.2.2.2.2.2⟩
/-- all bodies that a send may mean -/
theorem c_bmL (hQ : Q = 13 ∨ Q = 49) (hC : pCx F dn up ns us fl bl z el H lc ty) (hv : cPh S Q (ns, us, fl, bl, z, el)) (h92 : S.2 92 0 = Q) (hx : z.1[i]? = some x) (hi : i < 1024) (ho : x.1 = 40) {f : Nat} {y : jB} (hf : bl[f]? = some y) (hme : y.me = true) (l2 : bl.length ≤ 48) : ∀ (d c m : Nat) (v : Int), c + d = us.length → d < m → cV v (fun b => exB (fun c => decide (rnS us bl c y = (b : Int))) c) → ∃ r, ja_X4_bodiesMeant_L35 m 92 (i : Int) (f : Int) v (c : Int) S = some (r, S) ∧ cV r (fun b => exB (fun c => decide (rnS us bl c y = (b : Int))) us.length) := by
  have h32 := hC.2.2.2.2.1
  have hop : S.1 (Q + 25) i = (x.1 : Int) := (hv.2.2.2.2.2.2.2.2.1.1.2 i x hx).1
  have hct : S.1 (Q + 1) 0 = (us.length : Int) := hv.1.1
  have hf48 := bl_48 l2 hf
  intro d
  induction d with
  | zero =>
    intro c m v h1 h2 h3
    obtain ⟨m, rfl⟩ : ∃ q, m = q + 1 := ⟨m - 1, by omega⟩
    refine ⟨v, ?_, by rw [← show c = us.length by omega]; exact h3⟩
    show ja_X4_bodiesMeant_b35 _ 92 _ _ _ _ _ = _
    unfold ja_X4_bodiesMeant_b35
    rw [h92, (jc_Q hQ).1, hct, if_pos (by omega)]
  | succ d ih =>
    intro c m v h1 h2 h3
    obtain ⟨m, rfl⟩ : ∃ q, m = q + 1 := ⟨m - 1, by omega⟩
    have ec : ∀ _ : Unit, nk_w ((c : Int) + 1) = ((c + 1 : Nat) : Int) := fun _ => w_nat1 (by omega)
    have hidx : ∀ _ : Unit, nk_w (nk_w ((c : Int) * 48) + (f : Int)) = ((c * 48 + f : Nat) : Int) := fun _ => by
      have h2 : ((c * 48 + f : Nat) : Int) = (c : Int) * 48 + (f : Int) := by omega
      rw [h2, nk_w_id (z := (c : Int) * 48) (by omega) (by omega), nk_w_id (z := (c : Int) * 48 + (f : Int)) (by omega) (by omega)]
    have hrn : S.1 (Q + 22) (c * 48 + f) = rnS us bl c y := hv.2.2.2.2.2.2.2.1 c f y (by show c < us.length; omega) hf
    have hrun : ja_X0_running (Q + 9) (c : Int) (f : Int) S = some (rnS us bl c y, S) := by
      unfold ja_X0_running
      rw [if_neg (by omega), if_neg (by omega), hidx (), if_pos ⟨by omega, by omega⟩, (jc_Qb hQ).2.2.2.2.2, Int.toNat_natCast, hrn]
    by_cases hneg : 0 ≤ rnS us bl c y
    · obtain ⟨b, hb⟩ : ∃ b : Nat, rnS us bl c y = (b : Int) := ⟨(rnS us bl c y).toNat, by omega⟩
      obtain ⟨y', v1, -⟩ := hC.2.2.1 c f b y (by omega) hf hme hb
      have hb48 := bl_48 l2 v1
      obtain ⟨r, r1, r2⟩ := ih (c + 1) m (nk_lor v (nk_lshl 1 (b : Int))) (by omega) (by omega) (cV_e (cV_or h3 (cV_one (n := b) (by omega))) (fun j _ => by
        show (exB _ c || decide (j = b)) = exB _ (c + 1)
        rw [exB_s, hb]
        congr 1
        exact decide_eq_decide.mpr (by omega)))
      refine ⟨r, ?_, r2⟩
      show ja_X4_bodiesMeant_b35 (ja_X4_bodiesMeant_L35 m) 92 _ _ _ _ _ = _
      unfold ja_X4_bodiesMeant_b35
      rw [h92, (jc_Q hQ).1, hct, if_neg (by omega), if_pos (in_i (N := 1024) (by omega)), (jc_Qp hQ).2.1, Int.toNat_natCast, hop, if_pos (by omega), (jc_Q2 hQ).1, hrun, bd_some, if_pos hneg, hb, lt_eq, ec (), lt_eq]
      exact r1
    · obtain ⟨r, r1, r2⟩ := ih (c + 1) m (nk_lor v 0) (by omega) (by omega) (cV_e (cV_or h3 cV_0) (fun j _ => by
        show (exB _ c || false) = exB _ (c + 1)
        rw [exB_s, decide_eq_false (p := rnS us bl c y = (j : Int)) (by omega)]))
      refine ⟨r, ?_, r2⟩
      show ja_X4_bodiesMeant_b35 (ja_X4_bodiesMeant_L35 m) 92 _ _ _ _ _ = _
      unfold ja_X4_bodiesMeant_b35
      rw [h92, (jc_Q hQ).1, hct, if_neg (by omega), if_pos (in_i (N := 1024) (by omega)), (jc_Qp hQ).2.1, Int.toNat_natCast, hop, if_pos (by omega), (jc_Q2 hQ).1, hrun, bd_some, if_neg hneg, lt_eq, ec (), lt_eq]
      exact r1
theorem c_bm (hQ : Q = 13 ∨ Q = 49) (hC : pCx F dn up ns us fl bl z el H lc ty) (hv : cPh S Q (ns, us, fl, bl, z, el)) (h92 : S.2 92 0 = Q) (hx : z.1[i]? = some x) (hi : i < 1024) (ho : x.1 = 39 ∨ x.1 = 40) : ∃ r, ja_X4_bodiesMeant 92 (i : Int) S = some (r, S) ∧ cV r (pSu us bl x) := by
  obtain ⟨⟨a, b, l, p1⟩, hul, l1, l2, l3, l5⟩ := cw_all hC hx
  obtain ⟨f, c, y, q1, q2, q3, -⟩ := p1.2.2.2.2.2.2.1 ho
  have hf48 := bl_48 l2 q2
  have h8 := hC.2.2.2.2.2.1
  have h32 := hC.2.2.2.2.1
  have hcd := hv.2.2.2.2.2.2.2.2.1.1.2 i x hx
  have hct : S.1 (Q + 1) 0 = (us.length : Int) := hv.1.1
  obtain ⟨m, hm⟩ := big_ge 100 (by decide)
  unfold ja_X4_bodiesMeant
  rw [if_pos (in_i (N := 1024) (by omega)), h92, (jc_Qp hQ).2.2.1, (jc_Qp hQ).2.1, Int.toNat_natCast, hcd.2.1, hcd.1, q1, lt_eq]
  by_cases h39 : x.1 = 39
  · refine ⟨nk_lshl 1 (f : Int), ?_, cV_e (cV_one (n := f) (by omega)) (fun j _ => ?_)⟩
    · rw [if_pos (by omega), lt_eq, hm]
      show ja_X4_bodiesMeant_b35 _ 92 _ _ _ _ _ = _
      unfold ja_X4_bodiesMeant_b35
      rw [h92, (jc_Q hQ).1, hct, if_neg (by omega), if_pos (in_i (N := 1024) (by omega)), (jc_Qp hQ).2.1, Int.toNat_natCast, hcd.1, if_neg (by omega)]
    · unfold pSu
      rw [if_pos h39, q1, Int.toNat_natCast]
      rfl
  · have h40 : x.1 = 40 := by omega
    obtain ⟨r, r1, r2⟩ := c_bmL hQ hC hv h92 hx hi h40 q2 (by rw [q3]; exact decide_eq_true h40) l2 us.length 0 nk_big 0 (by omega) (by omega) cV_0
    refine ⟨r, ?_, cV_e r2 (fun j _ => ?_)⟩
    · rw [if_neg (by omega)]
      exact r1
    · unfold pSu
      rw [if_neg h39, q1, Int.toNat_natCast, q2]
/-- what is found for the instructions -/
def fsI (us : List Int) (bl : List jB) (z : jL) (T : nk_S) (i : Nat) : Prop := ∀ x, z.1[i]? = some x → T.1 107 i = 0 ∧ T.1 108 i = 0 ∧ (x.1 = 37 ∨ x.1 = 38 → cV (T.1 109 i) (pB us z x.2.1)) ∧ (x.1 = 39 ∨ x.1 = 40 → cV (T.1 109 i) (pSu us bl x))
theorem cPh_f (hQ : Q = 13 ∨ Q = 49) {S T : nk_S} {p : jP} (h : ∀ a, a < 92 → T.1 a = S.1 a) (hv : cPh S Q p) : cPh T Q p := cPh_c (fun a _ x _ _ _ => h a (by omega)) hv
theorem c_fsI (hQ : Q = 13 ∨ Q = 49) (hC : pCx F dn up ns us fl bl z el H lc ty) (hv : cPh S Q (ns, us, fl, bl, z, el)) (h92 : S.2 92 0 = Q) (hz1 : z.1.length ≤ 1024) : ∀ (d i m : Nat) (T : nk_S), i + d = z.1.length → d < m → T.2 = S.2 → (∀ a, a < 107 ∨ 110 ≤ a → T.1 a = S.1 a) → (∀ i', i' < i → fsI us bl z T i') → ∃ T', ja_X4_findSuiting_L2 m 92 (i : Int) T = ja_X4_findSuiting_L117 nk_big 92 0 T' ∧ T'.2 = S.2 ∧ (∀ a, a < 107 ∨ 110 ≤ a → T'.1 a = S.1 a) ∧ ∀ i', i' < z.1.length → fsI us bl z T' i' := by
  intro d
  induction d with
  | zero =>
    intro i m T h1 h2 t2 tn hd
    obtain ⟨m, rfl⟩ : ∃ q, m = q + 1 := ⟨m - 1, by omega⟩
    refine ⟨T, ?_, t2, tn, fun i' hi' => hd i' (by omega)⟩
    have hc : T.1 Q 3 = (z.1.length : Int) := by rw [tn Q (by omega)]; exact hv.2.2.2.2.2.2.2.2.1.1.1
    show ja_X4_findSuiting_b2 _ 92 _ _ = _
    unfold ja_X4_findSuiting_b2
    rw [t2, h92, hc, if_pos (by omega)]
  | succ d ih =>
    intro i m T h1 h2 t2 tn hd
    obtain ⟨m, rfl⟩ : ∃ q, m = q + 1 := ⟨m - 1, by omega⟩
    obtain ⟨x, hx⟩ : ∃ x, z.1[i]? = some x := ⟨_, List.getElem?_eq_getElem (by omega)⟩
    obtain ⟨⟨a, b, l, p1⟩, hul, l1, l2, l3, l5⟩ := cw_all hC hx
    have hc : T.1 Q 3 = (z.1.length : Int) := by rw [tn Q (by omega)]; exact hv.2.2.2.2.2.2.2.2.1.1.1
    have ei : ∀ _ : Unit, nk_w ((i : Int) + 1) = ((i + 1 : Nat) : Int) := fun _ => w_nat1 (by omega)
    obtain ⟨T1, hT1⟩ : ∃ T1, T1 = nk_wi (nk_wi T 107 i 0) 108 i 0 := ⟨_, rfl⟩
    have t12 : T1.2 = S.2 := by rw [hT1]; exact t2
    have t1n : ∀ a, a < 107 ∨ 109 ≤ a → T1.1 a = T.1 a := fun a ha => by rw [hT1, wi_n (by omega), wi_n (by omega)]
    have hv1 : cPh T1 Q (ns, us, fl, bl, z, el) := cPh_f hQ (fun a ha => by rw [t1n a (by omega), tn a (by omega)]) hv
    have hcd := hv1.2.2.2.2.2.2.2.2.1.1.2 i x hx
    have head : ∀ R, ((if (((ja_ob 45).getD x.1 0).toInt) = 7 then nk_bd (ja_X3_sitesBelow Q x.2.1 T1) fun r20 S21 => nk_lt (nk_wi S21 109 i r20) fun S23 => ja_X4_findSuiting_L2 m 92 ((i + 1 : Nat) : Int) S23 else if (x.1 : Int) = 39 then ja_X4_findSuiting_b98 (ja_X4_findSuiting_L2 m) 92 (i : Int) T1 else if (x.1 : Int) = 40 then ja_X4_findSuiting_b98 (ja_X4_findSuiting_L2 m) 92 (i : Int) T1 else ja_X4_findSuiting_L2 m 92 ((i + 1 : Nat) : Int) T1) = R) → ja_X4_findSuiting_L2 (m + 1) 92 (i : Int) T = R := by
      intro R hR
      show ja_X4_findSuiting_b2 (ja_X4_findSuiting_L2 m) 92 _ _ = _
      unfold ja_X4_findSuiting_b2
      rw [t2, h92, hc, if_neg (by omega), if_pos (in_i (N := 1024) (by omega)), jc_92_4, Int.toNat_natCast, lt_eq, jc_92_5, lt_eq, ← hT1, t12, h92, (jc_Qp hQ).2.1, (jc_Qp hQ).2.2.1, hcd.1, if_pos (in_i (N := 46) (by have := p1.1; omega)), Int.toNat_natCast, hcd.2.1, jc_92_6, ei ()]
      exact hR
    -- the next
    have next : ∀ T2 : nk_S, T2.2 = S.2 → (∀ a, a ≠ 109 → T2.1 a = T1.1 a) → (∀ k, k ≠ i → T2.1 109 k = T1.1 109 k) → ((x.1 = 37 ∨ x.1 = 38 → cV (T2.1 109 i) (pB us z x.2.1)) ∧ (x.1 = 39 ∨ x.1 = 40 → cV (T2.1 109 i) (pSu us bl x))) → ∃ T', ja_X4_findSuiting_L2 m 92 ((i + 1 : Nat) : Int) T2 = ja_X4_findSuiting_L117 nk_big 92 0 T' ∧ T'.2 = S.2 ∧ (∀ a, a < 107 ∨ 110 ≤ a → T'.1 a = S.1 a) ∧ ∀ i', i' < z.1.length → fsI us bl z T' i' := by
      intro T2 g1 g2 g3 g4
      refine ih (i + 1) m T2 (by omega) (by omega) g1 (fun a ha => by rw [g2 a (by omega), t1n a (by omega), tn a ha]) (fun i' hi' y hy => ?_)
      rw [g2 107 (by decide), g2 108 (by decide)]
      by_cases e : i' = i
      · rw [e] at hy ⊢
        rw [hx] at hy
        cases hy
        exact ⟨by rw [hT1, wi_n (by decide), wi_at, if_pos rfl], by rw [hT1, wi_at, if_pos rfl], g4⟩
      · rw [g3 i' e, t1n 109 (by omega)]
        obtain ⟨q1, q2, q3⟩ := hd i' (by omega) y hy
        exact ⟨by rw [hT1, wi_n (by decide), wi_at, if_neg e]; exact q1, by rw [hT1, wi_at, if_neg e, wi_n (by decide)]; exact q2, q3⟩
    by_cases c7 : x.1 = 37 ∨ x.1 = 38
    · have vt : tV us x.2.1 := by
        have : fK x.1 = 7 := by
          rcases c7 with q | q
          · rw [q]; exact fK_ty.2.2.1
          · rw [q]; exact fK_ty.2.2.2
        exact (tOk_V (us := us) (p1.2.2.2.2.1 (Or.inr this)).1 hul).1
      obtain ⟨r, r1, r2⟩ := c_sitesB (S := T1) (z := z) hQ hv1.1 hC.2.2.2.1 hC.2.2.2.2.1 hv1.2.2.2.2.2.2.2.2.1.2.1 hC.2.2.2.2.2.2.1 hC.2.1 vt
      obtain ⟨T', k1, k2⟩ := next (nk_wi T1 109 i r) t12 (fun a ha => wi_n ha) (fun k hk => by rw [wi_at, if_neg hk]) ⟨fun _ => by rw [wi_at, if_pos rfl]; exact r2, fun q => by omega⟩
      refine ⟨T', head _ ?_, k2⟩
      rw [if_pos ((ob_45 x.1 p1.1).mpr c7), r1, bd_some, lt_eq]
      exact k1
    · have n7 : ¬ ((ja_ob 45).getD x.1 0).toInt = 7 := fun q => c7 ((ob_45 x.1 p1.1).mp q)
      by_cases c40 : x.1 = 39 ∨ x.1 = 40
      · obtain ⟨r, r1, r2⟩ := c_bm hQ hC hv1 (by rw [t12]; exact h92) hx (by omega) c40
        obtain ⟨T', k1, k2⟩ := next (nk_wi T1 109 i r) t12 (fun a ha => wi_n ha) (fun k hk => by rw [wi_at, if_neg hk]) ⟨fun q => absurd q c7, fun _ => by rw [wi_at, if_pos rfl]; exact r2⟩
        refine ⟨T', head _ ?_, k2⟩
        have b98 : ja_X4_findSuiting_b98 (ja_X4_findSuiting_L2 m) 92 (i : Int) T1 = ja_X4_findSuiting_L117 nk_big 92 0 T' := by
          unfold ja_X4_findSuiting_b98
          rw [r1, bd_some, if_pos (in_i (N := 1024) (by omega)), jc_92_6, Int.toNat_natCast, lt_eq, ei (), lt_eq]
          exact k1
        rw [if_neg n7]
        rcases c40 with q | q
        · rw [if_pos (by omega)]; exact b98
        · rw [if_neg (by omega), if_pos (by omega)]; exact b98
      · obtain ⟨T', k1, k2⟩ := next T1 t12 (fun a ha => rfl) (fun k hk => rfl) ⟨fun q => absurd q c7, fun q => absurd q c40⟩
        refine ⟨T', head _ ?_, k2⟩
        rw [if_neg n7, if_neg (by omega), if_neg (by omega)]
        exact k1
theorem c_fsC (hQ : Q = 13 ∨ Q = 49) (hC : pCx F dn up ns us fl bl z el H lc ty) (hv : cPh S Q (ns, us, fl, bl, z, el)) (h92 : S.2 92 0 = Q) (hz64 : z.2.2.1.length ≤ 64) (hk : ∀ (k : Nat) (y : Nat × Nat × Nat × Nat × Nat), z.2.2.1[k]? = some y → y.2.2.2.2 < us.length) : ∀ (d c m : Nat) (T : nk_S), c + d = z.2.2.1.length → d < m → T.2 = S.2 → (∀ a, a ≠ 110 → T.1 a = S.1 a) → (∀ (k : Nat) (y : Nat × Nat × Nat × Nat × Nat), k < c → z.2.2.1[k]? = some y → cV (T.1 110 k) (pB us z (4 + 2 * (y.2.2.2.2 : Int)))) → ∃ T', ja_X4_findSuiting_L117 m 92 (c : Int) T = ja_X4_findSuiting_L162 nk_big 92 0 T' ∧ T'.2 = S.2 ∧ (∀ a, a ≠ 110 → T'.1 a = S.1 a) ∧ ∀ (k : Nat) (y : Nat × Nat × Nat × Nat × Nat), z.2.2.1[k]? = some y → cV (T'.1 110 k) (pB us z (4 + 2 * (y.2.2.2.2 : Int))) := by
  have h32 := hC.2.2.2.2.1
  intro d
  induction d with
  | zero =>
    intro c m T h1 h2 t2 tn hd
    obtain ⟨m, rfl⟩ : ∃ q, m = q + 1 := ⟨m - 1, by omega⟩
    refine ⟨T, ?_, t2, tn, fun k y hy => hd k y (by have := at_lt hy; omega) hy⟩
    have hc : T.1 Q 12 = (z.2.2.1.length : Int) := by rw [tn Q (by omega)]; exact hv.2.2.2.2.2.2.2.2.1.2.2.1.1
    show ja_X4_findSuiting_b117 _ 92 _ _ = _
    unfold ja_X4_findSuiting_b117
    rw [t2, h92, hc, if_pos (by omega)]
  | succ d ih =>
    intro c m T h1 h2 t2 tn hd
    obtain ⟨m, rfl⟩ : ∃ q, m = q + 1 := ⟨m - 1, by omega⟩
    obtain ⟨y, hy⟩ : ∃ y, z.2.2.1[c]? = some y := ⟨_, List.getElem?_eq_getElem (by omega)⟩
    have hc : T.1 Q 12 = (z.2.2.1.length : Int) := by rw [tn Q (by omega)]; exact hv.2.2.2.2.2.2.2.2.1.2.2.1.1
    have hv1 : cPh T Q (ns, us, fl, bl, z, el) := cPh_f hQ (fun a ha => tn a (by omega)) hv
    have hcl := hk c y hy
    have hcy : T.1 (Q + 35) c = (y.2.2.2.2 : Int) := (hv1.2.2.2.2.2.2.2.2.1.2.2.1.2 c y hy).2.2.2
    have ec : ∀ _ : Unit, nk_w ((c : Int) + 1) = ((c + 1 : Nat) : Int) := fun _ => w_nat1 (by omega)
    have et : ∀ _ : Unit, nk_w (4 + nk_w (2 * (y.2.2.2.2 : Int))) = 4 + 2 * (y.2.2.2.2 : Int) := fun _ => by
      rw [nk_w_id (z := 2 * (y.2.2.2.2 : Int)) (by omega) (by omega), nk_w_id (z := 4 + 2 * (y.2.2.2.2 : Int)) (by omega) (by omega)]
    obtain ⟨r, r1, r2⟩ := c_sitesB (us := us) (S := T) (z := z) (t := 4 + 2 * (y.2.2.2.2 : Int)) hQ hv1.1 hC.2.2.2.1 hC.2.2.2.2.1 hv1.2.2.2.2.2.2.2.2.1.2.1 hC.2.2.2.2.2.2.1 hC.2.1 (by unfold tV; omega)
    obtain ⟨T', k1, k2⟩ := ih (c + 1) m (nk_wi T 110 c r) (by omega) (by omega) t2 (fun a ha => by rw [wi_n ha]; exact tn a ha) (fun k y' hk' hy' => by
      rw [wi_at]
      by_cases e : k = c
      · rw [if_pos e]
        rw [e, hy] at hy'
        cases hy'
        exact r2
      · rw [if_neg e]; exact hd k y' (by omega) hy')
    refine ⟨T', ?_, k2⟩
    show ja_X4_findSuiting_b117 (ja_X4_findSuiting_L117 m) 92 _ _ = _
    unfold ja_X4_findSuiting_b117
    rw [t2, h92, hc, if_neg (by omega), if_pos (in_i (N := 64) (by omega)), show ja_c Q 16 = Q + 35 by rcases hQ with rfl | rfl <;> rfl, Int.toNat_natCast, hcy, et (), r1, bd_some, jc_92_7, lt_eq, ec (), lt_eq]
    exact k1
theorem c_fsS (hQ : Q = 13 ∨ Q = 49) (hC : pCx F dn up ns us fl bl z el H lc ty) (hv : cPh S Q (ns, us, fl, bl, z, el)) (h92 : S.2 92 0 = Q) : ∀ (d s m : Nat) (T : nk_S), s + d = z.2.1.length → d < m → T.2 = S.2 → (∀ a, a ≠ 111 → T.1 a = S.1 a) → (∀ k, k < s → tAr (sTp z k) = true → cV (T.1 111 k) (pB us z (tEl (sTp z k)))) → ∃ T', ja_X4_findSuiting_L162 m 92 (s : Int) T = some (0, T') ∧ T'.2 = S.2 ∧ (∀ a, a ≠ 111 → T'.1 a = S.1 a) ∧ ∀ k, k < z.2.1.length → tAr (sTp z k) = true → cV (T'.1 111 k) (pB us z (tEl (sTp z k))) := by
  have h32 := hC.2.2.2.2.1
  have hz48 := hC.2.2.2.2.2.2.1
  intro d
  induction d with
  | zero =>
    intro s m T h1 h2 t2 tn hd
    obtain ⟨m, rfl⟩ : ∃ q, m = q + 1 := ⟨m - 1, by omega⟩
    refine ⟨T, ?_, t2, tn, fun k hk => hd k (by omega)⟩
    have hc : T.1 Q 10 = (z.2.1.length : Int) := by rw [tn Q (by omega)]; exact hv.2.2.2.2.2.2.2.2.1.2.1.1
    show ja_X4_findSuiting_b162 _ 92 _ _ = _
    unfold ja_X4_findSuiting_b162
    rw [t2, h92, hc, if_pos (by omega)]
  | succ d ih =>
    intro s m T h1 h2 t2 tn hd
    obtain ⟨m, rfl⟩ : ∃ q, m = q + 1 := ⟨m - 1, by omega⟩
    have hc : T.1 Q 10 = (z.2.1.length : Int) := by rw [tn Q (by omega)]; exact hv.2.2.2.2.2.2.2.2.1.2.1.1
    have hv1 : cPh T Q (ns, us, fl, bl, z, el) := cPh_f hQ (fun a ha => tn a (by omega)) hv
    have es : ∀ _ : Unit, nk_w ((s : Int) + 1) = ((s + 1 : Nat) : Int) := fun _ => w_nat1 (by omega)
    have hty : T.1 (Q + 31) s = sTp z s := by
      obtain ⟨t0, ht0⟩ : ∃ t0, z.2.1[s]? = some t0 := ⟨_, List.getElem?_eq_getElem (by omega)⟩
      rw [hv1.2.2.2.2.2.2.2.2.1.2.1.2.1 s t0 ht0]
      unfold sTp
      rw [if_pos (by omega), List.getD_eq_getElem?_getD, ht0, Option.getD_some]
    have hso := hC.2.1 s (by unfold sVd; rw [decide_eq_true (by omega), Bool.true_or])
    have hb : 0 ≤ sTp z s ∧ sTp z s < 100 := by
      have := hso.1
      unfold tV at this
      omega
    by_cases ha : tAr (sTp z s) = true
    · obtain ⟨r, r1, r2⟩ := c_sitesB (S := T) (z := z) (t := tEl (sTp z s)) hQ hv1.1 hC.2.2.2.1 hC.2.2.2.2.1 hv1.2.2.2.2.2.2.2.2.1.2.1 hC.2.2.2.2.2.2.1 hC.2.1 (tV_el hso.1 ha)
      obtain ⟨T', k1, k2⟩ := ih (s + 1) m (nk_wi T 111 s r) (by omega) (by omega) t2 (fun a ha => by rw [wi_n ha]; exact tn a ha) (fun k hk' hak => by
        rw [wi_at]
        by_cases e : k = s
        · rw [if_pos e, e]; exact r2
        · rw [if_neg e]; exact hd k (by omega) hak)
      refine ⟨T', ?_, k2⟩
      show ja_X4_findSuiting_b162 (ja_X4_findSuiting_L162 m) 92 _ _ = _
      unfold ja_X4_findSuiting_b162
      rw [t2, h92, hc, if_neg (by omega), if_pos (in_i (N := 54) (by omega)), (jc_Q2 hQ).2.2.1, Int.toNat_natCast, hty, c_arrQ hb, bd_some, ha, if_neg (show ¬ bi true = 0 by decide), t2, h92, (jc_Q2 hQ).2.2.1, hty, c_elt hb, bd_some, r1, bd_some, if_pos (in_i (N := 48) (by omega)), jc_92_8, lt_eq, es (), lt_eq]
      exact k1
    · have ha' : tAr (sTp z s) = false := nf_t ha
      obtain ⟨T', k1, k2⟩ := ih (s + 1) m T (by omega) (by omega) t2 tn (fun k hk' hak => by
        have : k ≠ s := fun e => by rw [e] at hak; exact ha hak
        exact hd k (by omega) hak)
      refine ⟨T', ?_, k2⟩
      show ja_X4_findSuiting_b162 (ja_X4_findSuiting_L162 m) 92 _ _ = _
      unfold ja_X4_findSuiting_b162
      rw [t2, h92, hc, if_neg (by omega), if_pos (in_i (N := 54) (by omega)), (jc_Q2 hQ).2.2.1, Int.toNat_natCast, hty, c_arrQ hb, bd_some, ha', if_pos (show bi false = 0 from rfl), es (), lt_eq]
      exact k1
/-- all that suits is found -/
theorem c_fs (hQ : Q = 13 ∨ Q = 49) (hC : pCx F dn up ns us fl bl z el H lc ty) (hv : cPh S Q (ns, us, fl, bl, z, el)) (h92 : S.2 92 0 = Q) (hz : oJL z) (hk : ∀ (k : Nat) (y : Nat × Nat × Nat × Nat × Nat), z.2.2.1[k]? = some y → y.2.2.2.2 < us.length) : ∃ S', ja_X4_findSuiting 92 S = some (0, S') ∧ S'.2 = S.2 ∧ (∀ a, a < 107 ∨ 112 ≤ a → S'.1 a = S.1 a) ∧ cFy S' us bl z ∧ ∀ i, i < z.1.length → S'.1 107 i = 0 ∧ S'.1 108 i = 0 := by
  obtain ⟨m, hm⟩ := big_ge 2000 (by decide)
  have hz1 := hz.1
  have hz48 := hz.2.1
  have hz64 := hz.2.2.1
  obtain ⟨T1, a1, a2, a3, a4⟩ := c_fsI hQ hC hv h92 hz1 z.1.length 0 nk_big S (by omega) (by omega) rfl (fun _ _ => rfl) (fun i' hi' => by omega)
  have hv1 : cPh T1 Q (ns, us, fl, bl, z, el) := cPh_f hQ (fun a ha => a3 a (by omega)) hv
  obtain ⟨T2, b1, b2, b3, b4⟩ := c_fsC hQ hC hv1 (by rw [a2]; exact h92) hz64 hk z.2.2.1.length 0 nk_big T1 (by omega) (by omega) rfl (fun _ _ => rfl) (fun k y hk' => by omega)
  have hv2 : cPh T2 Q (ns, us, fl, bl, z, el) := cPh_f hQ (fun a ha => b3 a (by omega)) hv1
  obtain ⟨T3, c1, c2, c3, c4⟩ := c_fsS hQ hC hv2 (by rw [b2, a2]; exact h92) z.2.1.length 0 nk_big T2 (by omega) (by omega) rfl (fun _ _ => rfl) (fun k hk' => by omega)
  refine ⟨T3, ?_, by rw [c2, b2, a2], fun a ha => by rw [c3 a (by omega), b3 a (by omega), a3 a (by omega)], ⟨⟨fun i x hx ho => ?_, fun c y hy => ?_, fun s hs ha => c4 s hs ha⟩, fun i x hx ho => ?_⟩, fun i hi => ?_⟩
  · have a1' : ja_X4_findSuiting_L2 nk_big 92 0 S = ja_X4_findSuiting_L117 nk_big 92 0 T1 := a1
    have b1' : ja_X4_findSuiting_L117 nk_big 92 0 T1 = ja_X4_findSuiting_L162 nk_big 92 0 T2 := b1
    have c1' : ja_X4_findSuiting_L162 nk_big 92 0 T2 = some (0, T3) := c1
    unfold ja_X4_findSuiting
    rw [a1', b1', c1']
  · rw [c3 109 (by decide), b3 109 (by decide)]
    exact (a4 i (at_lt hx) x hx).2.2.1 ho
  · rw [c3 110 (by decide)]
    exact b4 c y hy
  · rw [c3 109 (by decide), b3 109 (by decide)]
    exact (a4 i (at_lt hx) x hx).2.2.2 ho
  · obtain ⟨x, hx⟩ : ∃ x, z.1[i]? = some x := ⟨_, List.getElem?_eq_getElem hi⟩
    rw [c3 107 (by decide), b3 107 (by decide), c3 108 (by decide), b3 108 (by decide)]
    have := a4 i hi x hx
    exact ⟨this.1, this.2.1⟩
end CSU
