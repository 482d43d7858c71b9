/-! Types: the reference looks at a body. -/
def rFt (S S' : nk_S) : Prop := S'.2 = S.2 ∧ (∀ a, a ≠ 121 → a ≠ 226 → a ≠ 227 → a ≠ 228 → S'.1 a = S.1 a) ∧ ∀ i, i ≠ 25 → i ≠ 12 → S'.1 121 i = S.1 121 i
theorem rFt_F {S S' : nk_S} (h : rFs S S') : rFt S S' := ⟨h.1, h.2.1, fun i x _ => h.2.2 i x⟩
theorem rFt_trans {S1 S2 S3 : nk_S} (h : rFt S1 S2) (k : rFt S2 S3) : rFt S1 S3 := ⟨k.1.trans h.1, fun a x y z w => (k.2.1 a x y z w).trans (h.2.1 a x y z w), fun i x y => (k.2.2 i x y).trans (h.2.2 i x y)⟩
section MTW
variable {ns : List (List Int)} {us : List Int} {fl : List (List Int × Nat × Int)} {bl : List jB} {z : jL} {el : List (Nat × Nat × Nat × Nat)} {b : Nat} {xb : jB} {e : Nat × Nat × Nat × Nat} {M : Nat → Nat} {P : Nat}
theorem m_fwL (hP : P = 122 ∨ P = 168) (h : tCx ns us fl bl z b xb e M) (he : el[b]? = some e) {X : jX} (hX : tOK us xb.lc.toNat M e X) : ∀ (d i m : Nat) (S : nk_S), rTv S P (ns, us, fl, bl, z, el) e M → rTm M e S X → e.1 ≤ i → i + d = e.2.1 → d < m → ∃ S', mHa z (tFw us fl bl z xb M X d i) (ja_X13_types_L168 m 121 P (b : Int) (i : Int) S) S' ∧ rFt S S' := by
  intro d
  induction d with
  | zero =>
    intro i m S hv hm h0 h1 h2
    obtain ⟨m, rfl⟩ : ∃ q, m = q + 1 := ⟨m - 1, by omega⟩
    have hxb := h.2.2.2.2.2.2.2.2.2.2.2.1
    have hbl := h.2.2.2.2.2.2.2.2.2.2.2.2.2.1
    have hb48 : b < 48 := by have := at_lt hxb; omega
    have e13 : S.1 (P + (20 - 7)) b = (e.2.1 : Int) := ((hv.1.2.2.2.2.2.2.2.1 : rEl S P el) b e he).2
    refine ⟨S, ?_, rFt_F rFs_rfl⟩
    show ja_X13_types_b168 (ja_X13_types_L168 m) 121 P (b : Int) (i : Int) S = _
    unfold ja_X13_types_b168
    rw [if_pos (in_i (N := 48) (by omega)), (jcP hP 20 (by decide) : ja_c P 20 = P + 13), Int.toNat_natCast, e13, if_pos (by omega)]
  | succ d ih =>
    intro i m S hv hm h0 h1 h2
    obtain ⟨m, rfl⟩ : ∃ q, m = q + 1 := ⟨m - 1, by omega⟩
    have hlen := h.1.2.2.1
    have h1024 := h.2.2.2.2.2.2.2.2.2.2.2.2.2.2.1
    have hxb := h.2.2.2.2.2.2.2.2.2.2.2.1
    have hbl := h.2.2.2.2.2.2.2.2.2.2.2.2.2.1
    have hb48 : b < 48 := by have := at_lt hxb; omega
    have e13 : S.1 (P + (20 - 7)) b = (e.2.1 : Int) := ((hv.1.2.2.2.2.2.2.2.1 : rEl S P el) b e he).2
    obtain ⟨x, hx⟩ : ∃ x, z.1[i]? = some x := ⟨z.1[i]'(by omega), List.getElem?_eq_getElem (by omega)⟩
    have h26 := hm.1 i h0 (by omega)
    have hstep : ja_X13_types_L168 (m + 1) 121 P (b : Int) (i : Int) S = if bi (X i).isSome = 0 then ja_X13_types_L168 m 121 P (b : Int) ((i + 1 : Nat) : Int) S else nk_bd (ja_X13_fits 121 P (i : Int) S) fun r7 S8 => if r7 = 0 then some (0, nk_wi S8 121 12 (S8.1 224 i)) else ja_X13_types_L168 m 121 P (b : Int) ((i + 1 : Nat) : Int) S8 := by
      show ja_X13_types_b168 (ja_X13_types_L168 m) 121 P (b : Int) (i : Int) S = _
      unfold ja_X13_types_b168 ja_X13_wrong
      rw [if_pos (in_i (N := 48) (by omega)), (jcP hP 20 (by decide) : ja_c P 20 = P + 13), Int.toNat_natCast, e13, if_neg (by omega), if_pos (in_i (N := 1024) (by omega)), jc_121_22, Int.toNat_natCast, h26, w_nat1 (by omega)]
      rfl
    rw [tFw, hx]
    cases hq : X i with
    | none =>
      rw [hq, if_pos (show bi (none : Option (Nat → Int)).isSome = 0 from rfl)] at hstep
      rw [hstep]
      exact ih (i + 1) m S hv hm (by omega) (by omega) (by omega)
    | some u =>
      rw [hq, if_neg (show ¬ bi (some u).isSome = 0 from fun q => by cases q)] at hstep
      obtain ⟨T, t1, t2, t3⟩ := m_fits hP h hv hm hX hx hq
      have vT := rTv_s hP t2 hv
      rw [t1, bd_some] at hstep
      rw [hstep]
      dsimp only
      cases hh : tHo us fl bl xb x (hgt (M i)) u with
      | true =>
        rw [if_neg (show ¬ bi true = 0 by decide), if_pos rfl]
        obtain ⟨S', s1, s2⟩ := ih (i + 1) m T vT t3 (by omega) (by omega) (by omega)
        exact ⟨S', s1, rFt_trans (rFt_F t2) s2⟩
      | false =>
        rw [if_pos (show bi false = 0 from rfl), if_neg (by decide)]
        have hCd : rCd T P z.1 := vT.1.2.2.2.2.2.2.2.2.2.1
        refine ⟨_, ⟨rfl, x, hx, ?_⟩, rFt_trans (rFt_F t2) ⟨rfl, fun a p _ _ _ => by rw [wi_n p], fun f _ hf => by rw [wi_at, if_neg hf]⟩⟩
        rw [wi_at, if_pos rfl]
        exact (hCd.2 i x hx).2.2.2.2
/-- the reference looks at the types of a body -/
theorem m_tyB (hP : P = 122 ∨ P = 168) (h : tCx ns us fl bl z b xb e M) (he : el[b]? = some e) {S : nk_S} (hv : rTv S P (ns, us, fl, bl, z, el) e M) : ∃ S' X, mHa z (tFw us fl bl z xb M X (e.2.1 - e.1) e.1) (ja_X13_types 121 P (b : Int) S) S' ∧ rFt S S' ∧ tInv us fl bl z b xb M e X ∧ ∀ i, tCl us fl bl z b xb.lc.toNat M X i := by
  obtain ⟨l1, l2, l3⟩ := lc_12 h
  have hlen := h.1.2.2.1
  have hlt := h.1.2.1
  have h1024 := h.2.2.2.2.2.2.2.2.2.2.2.2.2.2.1
  have hxb := h.2.2.2.2.2.2.2.2.2.2.2.1
  have hbl := h.2.2.2.2.2.2.2.2.2.2.2.2.2.1
  have hl := h.2.2.2.2.1
  have h32 := h.2.2.2.2.2.2.1
  have tb := h.2.2.2.2.2.2.2.2.1
  have hb48 : b < 48 := by have := at_lt hxb; omega
  have hin : (0 : Int) ≤ (b : Int) ∧ (b : Int) < 48 := in_i (N := 48) (by omega)
  obtain ⟨bm, hbm⟩ := big_ge 10000000 (by decide)
  have clr : ∀ (d i m : Nat) (T : nk_S), T.1 (P + 12) b = (e.1 : Int) → T.1 (P + 13) b = (e.2.1 : Int) → i + d = e.2.1 → e.1 ≤ i → d < m → ∃ U, ja_X13_types_L7 m 121 P (b : Int) (i : Int) T = ja_X13_types_L47 nk_big 121 P (b : Int) (e.1 : Int) 0 (nk_wi U 226 e.1 1) ∧ U.2 = T.2 ∧ (∀ a, a ≠ 226 → U.1 a = T.1 a) ∧ ∀ j, U.1 226 j = if i ≤ j ∧ j < e.2.1 then 0 else T.1 226 j := by
    intro d
    induction d with
    | zero =>
      intro i m T t12 t13 h1 h2 h3
      obtain ⟨m, rfl⟩ : ∃ q, m = q + 1 := ⟨m - 1, by omega⟩
      refine ⟨T, ?_, rfl, fun _ _ => rfl, fun j => by rw [if_neg (by omega)]⟩
      have t12' : T.1 (P + (19 - 7)) b = (e.1 : Int) := t12
      have t13' : T.1 (P + (20 - 7)) b = (e.2.1 : Int) := t13
      show ja_X13_types_b7 (ja_X13_types_L7 m) 121 P (b : Int) (i : Int) T = _
      unfold ja_X13_types_b7
      rw [if_pos hin, (jcP hP 20 (by decide) : ja_c P 20 = P + 13), (jcP hP 19 (by decide) : ja_c P 19 = P + 12), Int.toNat_natCast, t13', t12', if_pos (by omega), lt_eq, if_pos (in_i (N := 1024) (by omega)), lt_eq, jc_121_22, Int.toNat_natCast]
    | succ d ih =>
      intro i m T t12 t13 h1 h2 h3
      obtain ⟨m, rfl⟩ : ∃ q, m = q + 1 := ⟨m - 1, by omega⟩
      have t13' : T.1 (P + (20 - 7)) b = (e.2.1 : Int) := t13
      obtain ⟨U, u1, u2, u3, u4⟩ := ih (i + 1) m (nk_wi T 226 i 0) (by rw [wi_n (by omega)]; exact t12) (by rw [wi_n (by omega)]; exact t13) (by omega) (by omega) (by omega)
      refine ⟨U, ?_, u2, fun a ha => by rw [u3 a ha, wi_n ha], fun j => ?_⟩
      · rw [← u1]
        show ja_X13_types_b7 (ja_X13_types_L7 m) 121 P (b : Int) (i : Int) T = _
        unfold ja_X13_types_b7
        rw [if_pos hin, (jcP hP 20 (by decide) : ja_c P 20 = P + 13), Int.toNat_natCast, t13', if_neg (by omega), if_pos (in_i (N := 1024) (by omega)), lt_eq, lt_eq, jc_121_22, Int.toNat_natCast, w_nat1 (by omega)]
      · rw [u4, wi_at]
        by_cases q : i + 1 ≤ j ∧ j < e.2.1
        · rw [if_pos q, if_pos (by omega)]
        · rw [if_neg q]
          by_cases q2 : j = i
          · rw [if_pos q2, if_pos (by omega)]
          · rw [if_neg q2, if_neg (by omega)]
  have hE : rEl S P el := hv.1.2.2.2.2.2.2.2.1
  obtain ⟨U, u1, u2, u3, u4⟩ := clr (e.2.1 - e.1) e.1 nk_big S (hE b e he).1 (hE b e he).2 (by omega) (Nat.le_refl _) (by omega)
  obtain ⟨T, hT⟩ : ∃ T, T = nk_wi U 226 e.1 1 := ⟨_, rfl⟩
  rw [← hT] at u1
  have FT : rFs S T := ⟨by rw [hT]; exact u2, fun a _ y _ _ => by rw [hT, wi_n y, u3 a y], fun i _ => by rw [hT, wi_n (by decide), u3 121 (by decide)]⟩
  have t226 : ∀ j, e.1 ≤ j → j < e.2.1 → T.1 226 j = if j = e.1 then 1 else 0 := fun j h1 h2 => by
    rw [hT, wi_at, u4]
    by_cases q : j = e.1
    · rw [if_pos q, if_pos q]
    · rw [if_neg q, if_neg q, if_pos ⟨h1, h2⟩]
  have ini : ∀ (d k m : Nat) (T : nk_S), rTv T P (ns, us, fl, bl, z, el) e M → k + d = 12 → d < m → ∃ U, ja_X13_types_L47 m 121 P (b : Int) (e.1 : Int) (k : Int) T = ja_X13_types_L102 nk_big 121 P (b : Int) (e.1 : Int) 1 U ∧ U.2 = T.2 ∧ (∀ a, a ≠ 227 → U.1 a = T.1 a) ∧ ∀ j, j < 12 → U.1 227 (e.1 * 20 + j) = if k ≤ j then rvU (tIn xb j) else T.1 227 (e.1 * 20 + j) := by
    intro d
    induction d with
    | zero =>
      intro k m T hT h1 h2
      obtain ⟨m, rfl⟩ : ∃ q, m = q + 1 := ⟨m - 1, by omega⟩
      refine ⟨T, ?_, rfl, fun _ _ => rfl, fun j hj => by rw [if_neg (by omega)]⟩
      show ja_X13_types_b47 (ja_X13_types_L47 m) 121 P (b : Int) (e.1 : Int) (k : Int) T = _
      unfold ja_X13_types_b47
      rw [if_pos (by omega)]
    | succ d ih =>
      intro k m T hT h1 h2
      obtain ⟨m, rfl⟩ : ∃ q, m = q + 1 := ⟨m - 1, by omega⟩
      have hB : rB0 T P b xb := hT.1.2.2.2.2.2.2.1 b xb hxb
      have b8 : T.1 (P + (15 - 7)) b = (xb.ps.length : Int) := hB.2.2.1
      have FU : rFs T (nk_wi T 227 (e.1 * 20 + k) (rvU (tIn xb k))) := ⟨rfl, fun a _ _ y _ => by rw [wi_n y], fun f _ => by rw [wi_n (by decide)]⟩
      obtain ⟨U, v1, v2, v3, v4⟩ := ih (k + 1) m (nk_wi T 227 (e.1 * 20 + k) (rvU (tIn xb k))) (rTv_s hP FU hT) (by omega) (by omega)
      refine ⟨U, ?_, v2, fun a ha => by rw [v3 a ha, wi_n ha], fun j hj => ?_⟩
      · rw [← v1]
        show ja_X13_types_b47 (ja_X13_types_L47 m) 121 P (b : Int) (e.1 : Int) (k : Int) T = _
        unfold ja_X13_types_b47
        rw [if_neg (by omega), if_pos hin, (jcP hP 15 (by decide) : ja_c P 15 = P + 8), Int.toNat_natCast, b8, wi20 (by omega), wiadd (by omega), if_pos (in_i (N := 20480) (by omega)), if_pos (in_i (N := 20480) (by omega)), jc_121_23, Int.toNat_natCast, w_nat1 (by omega)]
        unfold tIn
        by_cases c : k < xb.ps.length
        · have hkk : xb.ps[k]? = some (xb.ps.getD k 0) := by rw [List.getD_eq_getElem?_getD, List.getElem?_eq_getElem c, Option.getD_some]
          have e9 : T.1 (P + (16 - 7)) (b * 12 + k) = rvT (xb.ps.getD k 0) := hB.2.2.2.1 k _ (by omega) hkk
          have hm : xb.ps.getD k 0 ∈ xb.ps := List.mem_of_getElem? hkk
          have ev : rvT (xb.ps.getD k 0) = rvU (xb.ps.getD k 0) := rvU_T (tOk_V ((tb xb (List.mem_of_getElem? hxb)).1 _ hm) hl).2
          rw [if_neg (by omega), w_12 hb48 (by omega), if_pos (in_i (N := 576) (by omega)), (jcP hP 16 (by decide) : ja_c P 16 = P + 9), Int.toNat_natCast, e9, ev, if_pos c, lt_eq, lt_eq]
        · rw [if_pos (by omega), if_neg c, lt_eq, lt_eq]
          rfl
      · rw [v4 j hj, wi_at]
        by_cases c : k + 1 ≤ j
        · rw [if_pos c, if_pos (by omega)]
        · rw [if_neg c]
          by_cases c2 : j = k
          · rw [if_pos (by omega), if_pos (by omega), c2]
          · rw [if_neg (by omega), if_neg (by omega)]
  obtain ⟨V, v1, v2, v3, v4⟩ := ini 12 0 nk_big T (rTv_s hP FT hv) (by omega) (by omega)
  have FV : rFs S V := rFs_trans FT ⟨v2, fun a _ _ y _ => v3 a y, fun f _ => by rw [v3 121 (by decide)]⟩
  have mV : rTm M e V (tX0 us xb e) := by
    refine ⟨fun j h1 h2 => ?_, fun j u hj k hk => ?_⟩
    · rw [v3 226 (by decide), t226 j h1 h2]
      by_cases c : j = e.1
      · rw [if_pos c, c, tX0_at]; rfl
      · rw [if_neg c, tX0_ne c]; rfl
    · by_cases c : j = e.1
      · subst c
        rw [tX0_at] at hj
        cases hj
        rw [h.2.1.2.1] at hk
        rw [v4 k (by omega), if_pos (Nat.zero_le _)]
      · rw [tX0_ne c] at hj; cases hj
  have X0i := tX0_inv h
  obtain ⟨R, X, r1, r2, r3, r4, r5⟩ := m_tro hP h he 4097026 nk_big (tX0 us xb e) true V (rTv_s hP FV hv) mV X0i (fun q => by cases q) (by have := tMs_b (tX0 us xb e) X0i.1 (by omega); omega) (by omega)
  obtain ⟨S', s1, s2⟩ := m_fwL hP h he r4.1 (e.2.1 - e.1) e.1 nk_big R (rTv_s hP (rFs_trans FV r2) hv) r3 (Nat.le_refl _) (by omega) (by omega)
  refine ⟨S', X, ?_, rFt_trans (rFt_F (rFs_trans FV r2)) s2, r4, r5⟩
  have e12 : S.1 (P + (19 - 7)) b = (e.1 : Int) := (hE b e he).1
  have eq : ja_X13_types 121 P (b : Int) S = ja_X13_types_L168 nk_big 121 P (b : Int) (e.1 : Int) R := by
    unfold ja_X13_types
    rw [if_pos hin, lt_eq, (jcP hP 19 (by decide) : ja_c P 19 = P + 12), Int.toNat_natCast, e12, u1]
    have v1' : ja_X13_types_L47 nk_big 121 P (b : Int) (e.1 : Int) 0 T = _ := v1
    rw [v1']
    exact r1
  rw [eq]
  exact s1
end MTW
