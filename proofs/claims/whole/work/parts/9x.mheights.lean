/-! Heights: the reference's look. -/
def hLk (v : Nat) : Nat → Nat → Int → Int
  | 0, _, c => c
  | n + 1, h, c => hLk v n (h + 1) (if v = 1 <<< h then (h : Int) else c)
def hgR (m : Nat) : Int := if m = 0 then -1 else (hgt m : Int)
theorem hLk_k : ∀ m : Nat, m < 512 → (onz m = false ∨ hLk m 9 0 (-1) = hgR m) := by decide +kernel
theorem onz_i : ∀ m : Nat, m < 512 → (nk_iand (m : Int) (nk_w ((m : Int) - 1)) = 0 ↔ onz m = true) := by decide +kernel
section MHX
variable {ns : List (List Int)} {us : List Int} {fl : List (List Int × Nat × Int)} {bl : List jB} {z : jL} {P : Nat}
def rHq (P : Nat) (S S' : nk_S) : Prop := S'.2 = S.2 ∧ (∀ a, a ≠ 121 → a ≠ 225 → a ≠ P + 19 → S'.1 a = S.1 a) ∧ ∀ i, i ≠ 12 → S'.1 121 i = S.1 121 i
theorem rHq_trans {S1 S2 S3 : nk_S} (h : rHq P S1 S2) (k : rHq P S2 S3) : rHq P S1 S3 := ⟨k.1.trans h.1, fun a x y z => (k.2.1 a x y z).trans (h.2.1 a x y z), fun i x => (k.2.2 i x).trans (h.2.2 i x)⟩
theorem rHq_F {S S' : nk_S} (h : rHf P S S') : rHq P S S' := ⟨h.1, fun a x y _ => h.2.1 a x y, h.2.2⟩
theorem rHv_q (hP : P = 122 ∨ P = 168) {el : List (Nat × Nat × Nat × Nat)} {S S' : nk_S} (h : rHq P S S') (hv : rHv S P bl z el) : rHv S' P bl z el := by
  have k := h.2.1
  unfold rHv rCd rKl rEl at hv ⊢
  rw [k P (by omega) (by omega) (by omega), k (P + 15) (by omega) (by omega) (by omega), k (P + 16) (by omega) (by omega) (by omega), k (P + 17) (by omega) (by omega) (by omega), k (P + 18) (by omega) (by omega) (by omega), k 224 (by omega) (by omega) (by omega), k (P + 21) (by omega) (by omega) (by omega), k (P + 22) (by omega) (by omega) (by omega), k (P + 23) (by omega) (by omega) (by omega), k (P + 24) (by omega) (by omega) (by omega), k (P + 25) (by omega) (by omega) (by omega), k (P + 12) (by omega) (by omega) (by omega), k (P + 13) (by omega) (by omega) (by omega), k (P + 8) (by omega) (by omega) (by omega), k (P + 10) (by omega) (by omega) (by omega)]
  exact hv
theorem m_lkL (hP : P = 122 ∨ P = 168) {b i v : Nat} (hi : i < 1024) {rec232 : Nat → Nat → Int → Int → nk_S → Option (Int × nk_S)} : ∀ (n h m : Nat) (S : nk_S), h + n = 9 → n < m → ∃ S', ja_X13_heights_L300 rec232 m 121 P (b : Int) (i : Int) (v : Int) (h : Int) S = rec232 121 P (b : Int) ((i + 1 : Nat) : Int) S' ∧ S'.2 = S.2 ∧ (∀ a, a ≠ P + 19 → S'.1 a = S.1 a) ∧ ∀ j, S'.1 (P + 19) j = if j = i then hLk v n h (S.1 (P + 19) i) else S.1 (P + 19) j := by
  intro n
  induction n with
  | zero =>
    intro h m S h1 h2
    obtain ⟨m, rfl⟩ : ∃ q, m = q + 1 := ⟨m - 1, by omega⟩
    refine ⟨S, ?_, rfl, fun _ _ => rfl, fun j => ?_⟩
    · show ja_X13_heights_b300 rec232 (ja_X13_heights_L300 rec232 m) 121 P (b : Int) (i : Int) (v : Int) (h : Int) S = _
      unfold ja_X13_heights_b300
      rw [if_pos (by omega), lt_eq, w_nat1 (by omega)]
    · by_cases e : j = i
      · rw [if_pos e, e]; rfl
      · rw [if_neg e]
  | succ n ih =>
    intro h m S h1 h2
    obtain ⟨m, rfl⟩ : ∃ q, m = q + 1 := ⟨m - 1, by omega⟩
    obtain ⟨s1, -⟩ := shl1 h (by omega)
    have hstep : ja_X13_heights_L300 rec232 (m + 1) 121 P (b : Int) (i : Int) (v : Int) (h : Int) S = if (v : Int) = ((1 <<< h : Nat) : Int) then ja_X13_heights_L300 rec232 m 121 P (b : Int) (i : Int) (v : Int) ((h + 1 : Nat) : Int) (nk_wi S (P + 19) i (h : Int)) else ja_X13_heights_L300 rec232 m 121 P (b : Int) (i : Int) (v : Int) ((h + 1 : Nat) : Int) S := by
      show ja_X13_heights_b300 rec232 (ja_X13_heights_L300 rec232 m) 121 P (b : Int) (i : Int) (v : Int) (h : Int) S = _
      unfold ja_X13_heights_b300
      rw [if_neg (by omega), s1, if_pos (in_i (N := 1024) (by omega)), (jcP hP 26 (by decide) : ja_c P 26 = P + 19), Int.toNat_natCast, w_nat1 (by omega)]
      rfl
    rw [hLk]
    by_cases c : v = 1 <<< h
    · rw [if_pos (show (v : Int) = ((1 <<< h : Nat) : Int) by rw [c])] at hstep
      obtain ⟨S', i1, i2, i3, i4⟩ := ih (h + 1) m (nk_wi S (P + 19) i (h : Int)) (by omega) (by omega)
      refine ⟨S', by rw [hstep]; exact i1, i2, fun a ha => by rw [i3 a ha, wi_n ha], fun j => ?_⟩
      rw [i4 j, wi_at, wi_at, if_pos rfl]
      by_cases e : j = i
      · rw [if_pos e, if_pos e, if_pos c]
      · rw [if_neg e, if_neg e, if_neg e]
    · have c' : ¬ (v : Int) = ((1 <<< h : Nat) : Int) := fun e => c (by exact_mod_cast e)
      rw [if_neg c'] at hstep
      obtain ⟨S', i1, i2, i3, i4⟩ := ih (h + 1) m S (by omega) (by omega)
      refine ⟨S', by rw [hstep]; exact i1, i2, i3, fun j => ?_⟩
      rw [i4 j, if_neg c]
/-- the answer of the reference's look at heights: the token of the wrong instruction -/
def mHa (z : jL) (r : Option Nat) (o : Option (Int × nk_S)) (S' : nk_S) : Prop := match r with
  | none => o = some (1, S')
  | some i => o = some (0, S') ∧ ∃ x, z.1[i]? = some x ∧ S'.1 121 12 = (x.2.2.2.2 : Int)
theorem m_ckL (hP : P = 122 ∨ P = 168) {el : List (Nat × Nat × Nat × Nat)} {b : Nat} {xb : jB} {e : Nat × Nat × Nat × Nat} (he : el[b]? = some e) (hw : wB ns us fl bl z b xb e) (hb : hBd bl z b e) {M : Nat → Nat} : ∀ (d i m : Nat) (S : nk_S), rHv S P bl z el → rHm e S M → e.1 ≤ i → i + d = e.2.1 → d < m → ∃ S', mHa z (hCk bl z M d i) (ja_X13_heights_L232 m 121 P (b : Int) (i : Int) S) S' ∧ rHq P S S' ∧ rHm e S' M ∧ (hCk bl z M d i = none → ∀ j, S'.1 (P + 19) j = if i ≤ j ∧ j < e.2.1 then hgR (M j) else S.1 (P + 19) j) := by
  intro d
  induction d with
  | zero =>
    intro i m S hv hm h1 h2 h3
    obtain ⟨m, rfl⟩ : ∃ q, m = q + 1 := ⟨m - 1, by omega⟩
    have hb48 := at_lt he
    have v5 := hv.2.2.2.2.1
    have v8 := hv.2.2.2.2.2.2.2.1
    have e13 : S.1 (P + (20 - 7)) b = (e.2.1 : Int) := (hv.2.2.1 b e he).2
    refine ⟨S, ?_, (rHq_F rHf_rfl), hm, fun _ j => by rw [if_neg (by omega)]⟩
    show ja_X13_heights_b232 (ja_X13_heights_L232 m) 121 P (b : Int) (i : Int) S = some (1, S)
    unfold ja_X13_heights_b232
    rw [if_pos (in_i (N := 48) (by omega)), (jcP hP 20 (by decide) : ja_c P 20 = P + 13), Int.toNat_natCast, e13, if_pos (by omega)]
  | succ d ih =>
    intro i m S hv hm h1 h2 h3
    obtain ⟨m, rfl⟩ : ∃ q, m = q + 1 := ⟨m - 1, by omega⟩
    have hv0 := hv
    obtain ⟨v1, v2, v3, v4, v5, v6, v7, v8, v9⟩ := hv
    have hb48 := at_lt he
    have hlen : e.2.1 ≤ z.1.length := hw.2.2.1
    obtain ⟨x, hx⟩ : ∃ x, z.1[i]? = some x := ⟨z.1[i]'(by omega), List.getElem?_eq_getElem (by omega)⟩
    obtain ⟨hbo, hcw⟩ := hw.2.2.2.1 i x h1 (by omega) hx
    have hi : i < 1024 := by omega
    obtain ⟨c1, c2, c3, c4, c5⟩ := v1.2 i x hx
    have ht := m_howM hP hi c1 c2 (fun b y hy => (v4 b y hy).1) v5 hcw
    have hl := m_leavR hP hi c1 c2 (fun b y hy => (v4 b y hy).2) v9 v5 hcw
    obtain ⟨t12, l2⟩ := tk_le12 hcw hb.1
    have hgood := m_good hP hm hi h1 (by omega) ht hl (by omega) (by omega)
    have hM5 := hm.2 i
    have hoi := onz_i (M i) hM5
    have e13 : S.1 (P + (20 - 7)) b = (e.2.1 : Int) := (v3 b e he).2
    have hin : (0 : Int) ≤ (i : Int) ∧ (i : Int) < 1024 := in_i (N := 1024) (by omega)
    have hmi := hm.1 i h1 (by omega)
    rw [hCk, hx]
    dsimp only
    have h277 : ja_X13_heights_b277 121 (i : Int) S = some (0, nk_wi S 121 12 (x.2.2.2.2 : Int)) := by
      unfold ja_X13_heights_b277
      rw [if_pos hin, jc_121_20, Int.toNat_natCast, c5]
      rfl
    have hstep : ja_X13_heights_L232 (m + 1) 121 P (b : Int) (i : Int) S = if nk_iand (M i : Int) (nk_w ((M i : Int) - 1)) = 0 then (if (M i : Int) = 0 then ja_X13_heights_b289 (ja_X13_heights_L232 m) 121 P (b : Int) (i : Int) (M i : Int) S else if (hGd (M i) (tkX bl x) (lvX bl x) : Int) = 0 then some (0, nk_wi S 121 12 (x.2.2.2.2 : Int)) else ja_X13_heights_b289 (ja_X13_heights_L232 m) 121 P (b : Int) (i : Int) (M i : Int) S) else some (0, nk_wi S 121 12 (x.2.2.2.2 : Int)) := by
      show ja_X13_heights_b232 (ja_X13_heights_L232 m) 121 P (b : Int) (i : Int) S = _
      unfold ja_X13_heights_b232
      rw [if_pos (in_i (N := 48) (by omega)), (jcP hP 20 (by decide) : ja_c P 20 = P + 13), Int.toNat_natCast, e13, if_neg (by omega), if_pos hin, lt_eq, jc_121_21, Int.toNat_natCast, hmi, hgood, bd_some, h277]
    have bad : ∃ S', mHa z (some i) (some (0, nk_wi S 121 12 (x.2.2.2.2 : Int))) S' ∧ rHq P S S' ∧ rHm e S' M ∧ ((some i : Option Nat) = none → ∀ j, S'.1 (P + 19) j = if i ≤ j ∧ j < e.2.1 then hgR (M j) else S.1 (P + 19) j) := ⟨_, ⟨rfl, x, hx, by rw [wi_at, if_pos rfl]⟩, ⟨rfl, fun a y _ _ => wi_n y, fun j hj => by rw [wi_at, if_neg hj]⟩, ⟨fun j hj hj2 => by rw [wi_n (by decide)]; exact hm.1 j hj hj2, hm.2⟩, fun h => by cases h⟩
    have go : onz (M i) = true → ∃ S', mHa z (hCk bl z M d (i + 1)) (ja_X13_heights_b289 (ja_X13_heights_L232 m) 121 P (b : Int) (i : Int) (M i : Int) S) S' ∧ rHq P S S' ∧ rHm e S' M ∧ (hCk bl z M d (i + 1) = none → ∀ j, S'.1 (P + 19) j = if i ≤ j ∧ j < e.2.1 then hgR (M j) else S.1 (P + 19) j) := by
      intro ho
      obtain ⟨bm, hbm⟩ := big_ge 100 (by decide)
      obtain ⟨T, t1, t2, t3, t4⟩ := m_lkL (b := b) (v := M i) hP hi (rec232 := ja_X13_heights_L232 m) 9 0 nk_big (nk_wi S (P + 19) i (-1)) (by omega) (by omega)
      have hlk : hLk (M i) 9 0 (-1) = hgR (M i) := by
        rcases hLk_k (M i) hM5 with h | h
        · rw [ho] at h; cases h
        · exact h
      have tn : ∀ a, a ≠ P + 19 → T.1 a = S.1 a := fun a ha => by rw [t3 a ha, wi_n ha]
      have t19 : ∀ j, T.1 (P + 19) j = if j = i then hgR (M i) else S.1 (P + 19) j := fun j => by
        rw [t4 j, wi_at, if_pos rfl, wi_at, hlk]
        by_cases c : j = i
        · rw [if_pos c, if_pos c]
        · rw [if_neg c, if_neg c, if_neg c]
      have FT : rHq P S T := ⟨t2, fun a _ _ y => tn a y, fun j _ => by rw [tn 121 (by omega)]⟩
      have mT : rHm e T M := ⟨fun j hj hj2 => by rw [tn 225 (by omega)]; exact hm.1 j hj hj2, hm.2⟩
      obtain ⟨S', i1, i2, i3, i4⟩ := ih (i + 1) m T (rHv_q hP FT hv0) mT (by omega) (by omega) (by omega)
      refine ⟨S', ?_, rHq_trans FT i2, i3, fun hn j => ?_⟩
      · unfold ja_X13_heights_b289
        rw [if_pos hin, lt_eq, (jcP hP 26 (by decide) : ja_c P 26 = P + 19), Int.toNat_natCast]
        have t1' : ja_X13_heights_L300 (ja_X13_heights_L232 m) nk_big 121 P (b : Int) (i : Int) (M i : Int) 0 (nk_wi S (P + (26 - 7)) i (-1)) = _ := t1
        rw [t1']
        exact i1
      · rw [i4 hn j, t19 j]
        by_cases e1 : i + 1 ≤ j ∧ j < e.2.1
        · rw [if_pos e1, if_pos (by omega)]
        · rw [if_neg e1]
          by_cases e2 : j = i
          · rw [if_pos e2, if_pos (by omega), e2]
          · rw [if_neg e2, if_neg (by omega)]
    cases ho : onz (M i) with
    | false =>
      rw [if_neg (fun h => by rw [hoi.mp h] at ho; cases ho)] at hstep
      rw [if_pos (Or.inl rfl), hstep]
      exact bad
    | true =>
      rw [if_pos (hoi.mpr ho)] at hstep
      by_cases c0 : M i = 0
      · rw [if_pos (show (M i : Int) = 0 by omega)] at hstep
        rw [if_neg (fun h => h.elim (fun h => by cases h) (fun h => h.1 c0)), hstep]
        exact go ho
      · rw [if_neg (show ¬ (M i : Int) = 0 by omega)] at hstep
        by_cases cg : hGd (M i) (tkX bl x) (lvX bl x) = 0
        · rw [if_pos (show (hGd (M i) (tkX bl x) (lvX bl x) : Int) = 0 by omega)] at hstep
          rw [if_pos (Or.inr ⟨c0, cg⟩), hstep]
          exact bad
        · rw [if_neg (show ¬ (hGd (M i) (tkX bl x) (lvX bl x) : Int) = 0 by omega)] at hstep
          rw [if_neg (fun h => h.elim (fun h => by cases h) (fun h => cg h.2)), hstep]
          exact go ho
/-- the reference looks at the heights of a body -/
theorem m_heights (hP : P = 122 ∨ P = 168) {el : List (Nat × Nat × Nat × Nat)} {b : Nat} {xb : jB} {e : Nat × Nat × Nat × Nat} (he : el[b]? = some e) (hw : wB ns us fl bl z b xb e) (hb : hBd bl z b e) {S : nk_S} (hv : rHv S P bl z el) : ∃ S', mHa z (hCk bl z (hMs bl z e) (e.2.1 - e.1) e.1) (ja_X13_heights 121 P (b : Int) S) S' ∧ rHq P S S' ∧ rHm e S' (hMs bl z e) ∧ (hCk bl z (hMs bl z e) (e.2.1 - e.1) e.1 = none → ∀ j, S'.1 (P + 19) j = if e.1 ≤ j ∧ j < e.2.1 then hgR (hMs bl z e j) else S.1 (P + 19) j) := by
  have hv0 := hv
  obtain ⟨v1, v2, v3, v4, v5, v6, v7, v8, v9⟩ := hv
  have hlen : e.2.1 ≤ z.1.length := hw.2.2.1
  have hlt : e.1 < e.2.1 := hw.2.1
  have hb48 := at_lt he
  have hin : (0 : Int) ≤ (b : Int) ∧ (b : Int) < 48 := in_i (N := 48) (by omega)
  obtain ⟨bm, hbm⟩ := big_ge 600000 (by decide)
  have clr : ∀ (d i m : Nat) (T : nk_S), T.1 (P + 12) b = (e.1 : Int) → T.1 (P + 13) b = (e.2.1 : Int) → i + d = e.2.1 → e.1 ≤ i → d < m → ∃ U, ja_X13_heights_L7 m 121 P (b : Int) (i : Int) T = ja_X13_heights_L44 nk_big 121 P (b : Int) 1 (nk_wi U 225 e.1 1) ∧ U.2 = T.2 ∧ (∀ a, a ≠ 225 → U.1 a = T.1 a) ∧ ∀ j, U.1 225 j = if i ≤ j ∧ j < e.2.1 then 0 else T.1 225 j := by
    intro d
    induction d with
    | zero =>
      intro i m T t12 t13 h1 h2 h3
      obtain ⟨m, rfl⟩ : ∃ q, m = q + 1 := ⟨m - 1, by omega⟩
      refine ⟨T, ?_, rfl, fun _ _ => rfl, fun j => by rw [if_neg (by omega)]⟩
      have t12' : T.1 (P + (19 - 7)) b = (e.1 : Int) := t12
      have t13' : T.1 (P + (20 - 7)) b = (e.2.1 : Int) := t13
      show ja_X13_heights_b7 (ja_X13_heights_L7 m) 121 P (b : Int) (i : Int) T = _
      unfold ja_X13_heights_b7
      rw [if_pos hin, (jcP hP 20 (by decide) : ja_c P 20 = P + 13), (jcP hP 19 (by decide) : ja_c P 19 = P + 12), Int.toNat_natCast, t13', t12', if_pos (by omega), if_pos (in_i (N := 1024) (by omega)), lt_eq, jc_121_21, Int.toNat_natCast]
    | succ d ih =>
      intro i m T t12 t13 h1 h2 h3
      obtain ⟨m, rfl⟩ : ∃ q, m = q + 1 := ⟨m - 1, by omega⟩
      have t13' : T.1 (P + (20 - 7)) b = (e.2.1 : Int) := t13
      obtain ⟨U, u1, u2, u3, u4⟩ := ih (i + 1) m (nk_wi T 225 i 0) (by rw [wi_n (by omega)]; exact t12) (by rw [wi_n (by omega)]; exact t13) (by omega) (by omega) (by omega)
      refine ⟨U, ?_, u2, fun a ha => by rw [u3 a ha, wi_n ha], fun j => ?_⟩
      · rw [← u1]
        show ja_X13_heights_b7 (ja_X13_heights_L7 m) 121 P (b : Int) (i : Int) T = _
        unfold ja_X13_heights_b7
        rw [if_pos hin, (jcP hP 20 (by decide) : ja_c P 20 = P + 13), Int.toNat_natCast, t13', if_neg (by omega), if_pos (in_i (N := 1024) (by omega)), lt_eq, lt_eq, jc_121_21, Int.toNat_natCast, w_nat1 (by omega)]
      · rw [u4, wi_at]
        by_cases q : i + 1 ≤ j ∧ j < e.2.1
        · rw [if_pos q, if_pos (by omega)]
        · rw [if_neg q]
          by_cases q2 : j = i
          · rw [if_pos q2, if_pos (by omega)]
          · rw [if_neg q2, if_neg (by omega)]
  obtain ⟨U, u1, u2, u3, u4⟩ := clr (e.2.1 - e.1) e.1 nk_big S (v3 b e he).1 (v3 b e he).2 (by omega) (Nat.le_refl _) (by omega)
  obtain ⟨T, hT⟩ : ∃ T, T = nk_wi U 225 e.1 1 := ⟨_, rfl⟩
  rw [← hT] at u1
  have FT : rHf P S T := ⟨by rw [hT]; exact u2, fun a _ y => by rw [hT, wi_n y, u3 a y], fun i hi => by rw [hT, wi_n (by decide), u3 121 (by decide)]⟩
  have mT : rHm e T (hM0 e.1) := by
    refine ⟨fun i hi hi2 => ?_, fun i => ?_⟩
    · rw [hT, wi_at, u4]
      dsimp only [hM0]
      by_cases q : i = e.1
      · rw [if_pos q, if_pos q]; rfl
      · rw [if_neg q, if_neg q, if_pos ⟨hi, hi2⟩]; rfl
    · dsimp only [hM0]
      split
      · decide
      · decide
  obtain ⟨V, w1, w2, w3⟩ := m_rounds hP he hw hb 523265 nk_big (hM0 e.1, true) T (rHv_F hP FT hv0) mT (by omega) (by omega)
  obtain ⟨S', s1, s2, s3, s4⟩ := m_ckL hP he hw hb (e.2.1 - e.1) e.1 nk_big V (rHv_F hP (rHf_trans FT w2) hv0) w3 (Nat.le_refl _) (by omega) (by omega)
  refine ⟨S', ?_, rHq_trans (rHq_F (rHf_trans FT w2)) s2, s3, fun hn j => ?_⟩
  · have e12' : S.1 (P + (19 - 7)) b = (e.1 : Int) := (v3 b e he).1
    have e0 : ja_X13_heights 121 P (b : Int) S = ja_X13_heights_L232 nk_big 121 P (b : Int) (e.1 : Int) V := by
      unfold ja_X13_heights
      rw [if_pos hin, lt_eq, (jcP hP 19 (by decide) : ja_c P 19 = P + 12), Int.toNat_natCast, e12', u1]
      exact w1
    rw [e0]
    exact s1
  · have := s4 hn j
    rw [(rHf_trans FT w2).2.1 (P + 19) (by omega) (by omega)] at this
    exact this
end MHX
