/-! Heights: the class, whole. -/
/-- the first instruction of which the height is wrong -/
def hCk (bl : List jB) (z : jL) (M : Nat → Nat) : Nat → Nat → Option Nat
  | 0, _ => none
  | d + 1, i => match z.1[i]? with
    | none => none
    | some x => if onz (M i) = false ∨ (M i ≠ 0 ∧ hGd (M i) (tkX bl x) (lvX bl x) = 0) then some i else hCk bl z M d (i + 1)
/-- the heights at the beginning -/
def hM0 (st : Nat) : Nat → Nat := fun i => if i = st then 1 else 0
/-- the masks of a body -/
def hMs (bl : List jB) (z : jL) (e : Nat × Nat × Nat × Nat) : Nat → Nat := hIt bl z e 523265 (hM0 e.1, true)
section CHW
variable {ns : List (List Int)} {us : List Int} {fl : List (List Int × Nat × Int)} {bl : List jB} {z : jL} {Q : Nat}
def hFq (Q : Nat) (S S' : nk_S) : Prop := S'.2 = S.2 ∧ (∀ a, a ≠ 86 → a ≠ 87 → a ≠ Q + 30 → S'.1 a = S.1 a) ∧ ∀ i, i ≠ 7 → S'.1 86 i = S.1 86 i
theorem hFq_F {S S' : nk_S} (h : hFr S S') : hFq Q S S' := ⟨h.1, fun a x y _ => h.2.1 a x y, h.2.2⟩
theorem hFq_trans {S1 S2 S3 : nk_S} (h : hFq Q S1 S2) (k : hFq Q S2 S3) : hFq Q S1 S3 := ⟨k.1.trans h.1, fun a x y z => (k.2.1 a x y z).trans (h.2.1 a x y z), fun i x => (k.2.2 i x).trans (h.2.2 i x)⟩
theorem cHv_q (hQ : Q = 13 ∨ Q = 49) {el : List (Nat × Nat × Nat × Nat)} {S S' : nk_S} (h : hFq Q S S') (hv : cHv S Q bl z el) : cHv S' Q bl z el := by
  have k := h.2.1
  unfold cHv cCd cKl cEl at hv ⊢
  rw [h.1, k Q (by omega) (by omega) (by omega), k (Q + 25) (by omega) (by omega) (by omega), k (Q + 26) (by omega) (by omega) (by omega), k (Q + 27) (by omega) (by omega) (by omega), k (Q + 28) (by omega) (by omega) (by omega), k (Q + 29) (by omega) (by omega) (by omega), k (Q + 32) (by omega) (by omega) (by omega), k (Q + 33) (by omega) (by omega) (by omega), k (Q + 34) (by omega) (by omega) (by omega), k (Q + 35) (by omega) (by omega) (by omega), k (Q + 18) (by omega) (by omega) (by omega), k (Q + 19) (by omega) (by omega) (by omega), k (Q + 20) (by omega) (by omega) (by omega), k (Q + 21) (by omega) (by omega) (by omega), k (Q + 13) (by omega) (by omega) (by omega), k (Q + 15) (by omega) (by omega) (by omega)]
  exact hv
theorem c_ckL (hQ : Q = 13 ∨ Q = 49) {el : List (Nat × Nat × Nat × Nat)} {b : Nat} {xb : jB} {e : Nat × Nat × Nat × Nat} (hw : wB ns us fl bl z b xb e) (hb : hBd bl z b e) {M : Nat → Nat} {f : Bool} : ∀ (d i m : Nat) (S : nk_S), cHv S Q bl z el → cHm e S (M, f) → e.1 ≤ i → i + d = e.2.1 → d < m → ∃ S', ja_X9_wrongHeight_L118 m 86 (e.2.1 : Int) (i : Int) S = some (ccA (hCk bl z M d i), S') ∧ hFq Q S S' ∧ cHm e S' (M, f) ∧ (hCk bl z M d i = none → ∀ j, S'.1 (Q + 30) j = if i ≤ j ∧ j < e.2.1 then (hgt (M j) : Int) else S.1 (Q + 30) j) := by
  intro d
  induction d with
  | zero =>
    intro i m S hv hm h1 h2 h3
    obtain ⟨m, rfl⟩ : ∃ q, m = q + 1 := ⟨m - 1, by omega⟩
    refine ⟨S, ?_, hFq_F hFr_rfl, hm, fun _ j => by rw [if_neg (by omega)]⟩
    show ja_X9_wrongHeight_b118 (ja_X9_wrongHeight_L118 m) 86 (e.2.1 : Int) (i : Int) S = _
    unfold ja_X9_wrongHeight_b118
    rw [if_pos (by omega)]
    rfl
  | succ d ih =>
    intro i m S hv hm h1 h2 h3
    obtain ⟨m, rfl⟩ : ∃ q, m = q + 1 := ⟨m - 1, by omega⟩
    have hv0 := hv
    obtain ⟨v1, v2, v3, v4, v5, v6, v7, v8, v9⟩ := hv
    have hlen : e.2.1 ≤ z.1.length := hw.2.2.1
    obtain ⟨x, hx⟩ : ∃ x, z.1[i]? = some x := ⟨z.1[i]'(by omega), List.getElem?_eq_getElem (by omega)⟩
    obtain ⟨hbo, hcw⟩ := hw.2.2.2.1 i x h1 (by omega) hx
    obtain ⟨c1, c2, c3, c4, c5⟩ := v2.2 i x hx
    have hi : i < 1024 := by omega
    have ht := c_takes hQ hi c1 c2 (fun b y hy => (v5 b y hy).1) v6 hcw
    have hl := c_leaves hQ hi c1 c2 (fun b y hy => (v5 b y hy).2) v6 hcw
    obtain ⟨t12, l2⟩ := tk_le12 hcw hb.1
    have hfine := c_fineH hQ v1 hm hi h1 (by omega) ht hl (by omega) (by omega)
    have hM5 := hm.2.2 i
    have hbc := bc_k (M i) hM5
    have hmi : S.1 87 i = (M i : Int) := hm.1 i h1 (by omega)
    rw [hCk, hx]
    dsimp only
    have hstep : ja_X9_wrongHeight_L118 (m + 1) 86 (e.2.1 : Int) (i : Int) S = if 1 < bcE (M i : Int) then some ((i : Int), S) else if (M i : Int) = (hFi (M i) (tkX bl x) (lvX bl x) : Int) then (if (M i : Int) = 0 then ja_X9_wrongHeight_L118 m 86 (e.2.1 : Int) ((i + 1 : Nat) : Int) (nk_wi S (Q + 30) i 0) else nk_bd (ja_J6_numberOfTrailingZeros_0f7a4 (M i : Int) S) fun r13 S14 => ja_X9_wrongHeight_L118 m 86 (e.2.1 : Int) ((i + 1 : Nat) : Int) (nk_wi S14 (Q + 30) i r13)) else some ((i : Int), S) := by
      show ja_X9_wrongHeight_b118 (ja_X9_wrongHeight_L118 m) 86 (e.2.1 : Int) (i : Int) S = _
      unfold ja_X9_wrongHeight_b118
      rw [if_neg (by omega), if_pos (in_i (N := 1024) (by omega)), lt_eq, jc_86_2, Int.toNat_natCast, hmi, bc_eq, bd_some, hfine, bd_some, v1, (jc_Qp hQ).2.2.2.2.2.2.1, w_nat1 (by omega)]
      rfl
    have go : ∀ v : Int, v = (hgt (M i) : Int) → ja_X9_wrongHeight_L118 (m + 1) 86 (e.2.1 : Int) (i : Int) S = ja_X9_wrongHeight_L118 m 86 (e.2.1 : Int) ((i + 1 : Nat) : Int) (nk_wi S (Q + 30) i v) → ¬ (onz (M i) = false ∨ (M i ≠ 0 ∧ hGd (M i) (tkX bl x) (lvX bl x) = 0)) → ∃ S', ja_X9_wrongHeight_L118 (m + 1) 86 (e.2.1 : Int) (i : Int) S = some (ccA (if onz (M i) = false ∨ (M i ≠ 0 ∧ hGd (M i) (tkX bl x) (lvX bl x) = 0) then some i else hCk bl z M d (i + 1)), S') ∧ hFq Q S S' ∧ cHm e S' (M, f) ∧ ((if onz (M i) = false ∨ (M i ≠ 0 ∧ hGd (M i) (tkX bl x) (lvX bl x) = 0) then some i else hCk bl z M d (i + 1)) = none → ∀ j, S'.1 (Q + 30) j = if i ≤ j ∧ j < e.2.1 then (hgt (M j) : Int) else S.1 (Q + 30) j) := by
      intro v hv' hs hno
      rw [if_neg hno]
      obtain ⟨T, hT⟩ : ∃ T, T = nk_wi S (Q + 30) i v := ⟨_, rfl⟩
      rw [← hT] at hs
      have FT : hFq Q S T := ⟨by rw [hT]; rfl, fun a _ _ x => by rw [hT, wi_n x], fun j _ => by rw [hT, wi_n (by omega)]⟩
      have mT : cHm e T (M, f) := ⟨fun j hj hj2 => by rw [hT, wi_n (by omega)]; exact hm.1 j hj hj2, by rw [hT, wi_n (by omega)]; exact hm.2.1, hm.2.2⟩
      obtain ⟨S', i1, i2, i3, i4⟩ := ih (i + 1) m T (cHv_q hQ FT hv0) mT (by omega) (by omega) (by omega)
      refine ⟨S', by rw [hs]; exact i1, hFq_trans FT i2, i3, fun hn j => ?_⟩
      rw [i4 hn j, hT, wi_at]
      by_cases e1 : i + 1 ≤ j ∧ j < e.2.1
      · rw [if_pos e1, if_pos (by omega)]
      · rw [if_neg e1]
        by_cases e2 : j = i
        · rw [if_pos e2, if_pos (by omega), e2, hv']
        · rw [if_neg e2, if_neg (by omega)]
    cases ho : onz (M i) with
    | false =>
      rw [if_pos (hbc.mpr ho)] at hstep
      rw [if_pos (Or.inl rfl)]
      exact ⟨S, hstep, hFq_F hFr_rfl, hm, fun h => by cases h⟩
    | true =>
      have h1' := hH1 (t := tkX bl x) (l := lvX bl x) (by omega) (by omega) hM5 ho
      rw [if_neg (fun h => by rw [hbc.mp h] at ho; cases ho)] at hstep
      rw [ho] at go
      by_cases c0 : M i = 0
      · have e1 : M i = hFi (M i) (tkX bl x) (lvX bl x) := h1'.mpr (Or.inl c0)
        rw [if_pos (show (M i : Int) = (hFi (M i) (tkX bl x) (lvX bl x) : Int) by rw [← e1]), if_pos (show (M i : Int) = 0 by omega)] at hstep
        exact go 0 (by rw [c0]; rfl) hstep (fun h => h.elim (fun h => by cases h) (fun h => h.1 c0))
      · by_cases cg : hGd (M i) (tkX bl x) (lvX bl x) = 0
        · have e1 : ¬ M i = hFi (M i) (tkX bl x) (lvX bl x) := fun h => (h1'.mp h).elim c0 (fun h2 => h2 cg)
          rw [if_neg (show ¬ (M i : Int) = (hFi (M i) (tkX bl x) (lvX bl x) : Int) by omega)] at hstep
          rw [if_pos (Or.inr ⟨c0, cg⟩)]
          exact ⟨S, hstep, hFq_F hFr_rfl, hm, fun h => by cases h⟩
        · have e1 : M i = hFi (M i) (tkX bl x) (lvX bl x) := h1'.mpr (Or.inr cg)
          have hk := onz_k (M i) hM5
          rw [ho] at hk
          rw [if_pos (show (M i : Int) = (hFi (M i) (tkX bl x) (lvX bl x) : Int) by rw [← e1]), if_neg (show ¬ (M i : Int) = 0 by omega), ntz_k S (hk.elim (fun h => by cases h) (fun h => h.elim (fun h => absurd h c0) id)), bd_some] at hstep
          exact go _ rfl hstep (fun h => h.elim (fun h => by cases h) (fun h => cg h.2))
/-- the class looks at the heights of a body -/
theorem c_heights (hQ : Q = 13 ∨ Q = 49) {el : List (Nat × Nat × Nat × Nat)} {b : Nat} {xb : jB} {e : Nat × Nat × Nat × Nat} (he : el[b]? = some e) (hw : wB ns us fl bl z b xb e) (hb : hBd bl z b e) {S : nk_S} (hv : cHv S Q bl z el) : ∃ S', ja_X9_wrongHeight 86 (b : Int) S = some (ccA (hCk bl z (hMs bl z e) (e.2.1 - e.1) e.1), S') ∧ hFq Q S S' ∧ cHm e S' (hMs bl z e, false) ∧ (hCk bl z (hMs bl z e) (e.2.1 - e.1) e.1 = none → ∀ j, S'.1 (Q + 30) j = if e.1 ≤ j ∧ j < e.2.1 then (hgt (hMs bl z e j) : Int) else S.1 (Q + 30) j) := by
  have hv0 := hv
  obtain ⟨v1, v2, v3, v4, v5, v6, v7, v8, v9⟩ := hv
  have hlen : e.2.1 ≤ z.1.length := hw.2.2.1
  have hlt : e.1 < e.2.1 := hw.2.1
  have hb48 := at_lt he
  obtain ⟨bm, hbm⟩ := big_ge 600000 (by decide)
  -- the masks are cleared
  have clr : ∀ (d i m : Nat) (T : nk_S), i + d = e.2.1 → e.1 ≤ i → d < m → ∃ U, ja_X9_wrongHeight_L29 m 86 (e.1 : Int) (e.2.1 : Int) (i : Int) T = ja_X9_wrongHeight_L64 nk_big 86 (e.1 : Int) (e.2.1 : Int) 0 (nk_wi (nk_wi U 87 e.1 1) 86 7 1) ∧ U.2 = T.2 ∧ (∀ a, a ≠ 87 → U.1 a = T.1 a) ∧ ∀ j, U.1 87 j = if i ≤ j ∧ j < e.2.1 then 0 else T.1 87 j := by
    intro d
    induction d with
    | zero =>
      intro i m T h1 h2 h3
      obtain ⟨m, rfl⟩ : ∃ q, m = q + 1 := ⟨m - 1, by omega⟩
      refine ⟨T, ?_, rfl, fun _ _ => rfl, fun j => by rw [if_neg (by omega)]⟩
      show ja_X9_wrongHeight_b29 (ja_X9_wrongHeight_L29 m) 86 (e.1 : Int) (e.2.1 : Int) (i : Int) T = _
      unfold ja_X9_wrongHeight_b29
      rw [if_pos (by omega), if_pos (in_i (N := 1024) (by omega)), lt_eq, lt_eq, jc_86_2, Int.toNat_natCast]
    | succ d ih =>
      intro i m T h1 h2 h3
      obtain ⟨m, rfl⟩ : ∃ q, m = q + 1 := ⟨m - 1, by omega⟩
      obtain ⟨U, u1, u2, u3, u4⟩ := ih (i + 1) m (nk_wi T 87 i 0) (by omega) (by omega) (by omega)
      refine ⟨U, ?_, u2, fun a ha => by rw [u3 a ha, wi_n ha], fun j => ?_⟩
      · rw [← u1]
        show ja_X9_wrongHeight_b29 (ja_X9_wrongHeight_L29 m) 86 (e.1 : Int) (e.2.1 : Int) (i : Int) T = _
        unfold ja_X9_wrongHeight_b29
        rw [if_neg (by omega), if_pos (in_i (N := 1024) (by omega)), lt_eq, lt_eq, jc_86_2, Int.toNat_natCast, w_nat1 (by omega)]
      · rw [u4, wi_at]
        by_cases q : i + 1 ≤ j ∧ j < e.2.1
        · rw [if_pos q, if_pos (by omega)]
        · rw [if_neg q]
          by_cases q2 : j = i
          · rw [if_pos q2, if_pos (by omega)]
          · rw [if_neg q2, if_neg (by omega)]
  obtain ⟨U, u1, u2, u3, u4⟩ := clr (e.2.1 - e.1) e.1 nk_big S (by omega) (Nat.le_refl _) (by omega)
  obtain ⟨T, hT⟩ : ∃ T, T = nk_wi (nk_wi U 87 e.1 1) 86 7 1 := ⟨_, rfl⟩
  rw [← hT] at u1
  have FT : hFr S T := ⟨by rw [hT]; exact u2, fun a x y => by rw [hT, wi_n x, wi_n y, u3 a y], fun i hi => by rw [hT, wi_at, if_neg hi, wi_n (by decide), u3 86 (by decide)]⟩
  have mT : cHm e T (hM0 e.1, true) := by
    refine ⟨fun i hi hi2 => ?_, by rw [hT, wi_at, if_pos rfl]; rfl, fun i => ?_⟩
    · rw [hT, wi_n (by decide), wi_at, u4]
      dsimp only [hM0]
      by_cases q : i = e.1
      · rw [if_pos q, if_pos q]; rfl
      · rw [if_neg q, if_neg q, if_pos ⟨hi, hi2⟩]; rfl
    · dsimp only [hM0]
      split
      · decide
      · decide
  obtain ⟨V, w1, w2, w3⟩ := c_rounds hQ he hw hb 523265 nk_big 0 _ T (cHv_F hQ FT hv0) mT (by omega) (by omega) (by omega)
  obtain ⟨S', s1, s2, s3, s4⟩ := c_ckL hQ hw hb (e.2.1 - e.1) e.1 nk_big V (cHv_F hQ (hFr_trans FT w2) hv0) w3 (Nat.le_refl _) (by omega) (by omega)
  refine ⟨S', ?_, hFq_trans (hFq_F (hFr_trans FT w2)) s2, s3, fun hn j => ?_⟩
  · unfold ja_X9_wrongHeight
    rw [if_pos (in_i (N := 48) (by omega)), v1, (jc_Qf hQ).2.2.2.2, (jc_Qb hQ).2.1, (jc_Qb hQ).2.2.1, Int.toNat_natCast, (v4 b e he).1, (v4 b e he).2.1, lt_eq, lt_eq, u1]
    have w1' : ja_X9_wrongHeight_L64 nk_big 86 (e.1 : Int) (e.2.1 : Int) 0 T = ja_X9_wrongHeight_L118 nk_big 86 (e.2.1 : Int) (e.1 : Int) V := w1
    rw [w1']
    exact s1
  · have := s4 hn j
    rw [(hFr_trans FT w2).2.1 (Q + 30) (by omega) (by omega)] at this
    exact this
end CHW
