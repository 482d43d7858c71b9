/-! Types: the class looks at a body. -/
section CTY
variable {ns : List (List Int)} {us : List Int} {fl : List (List Int × Nat × Int)} {bl : List jB} {z : jL} {el : List (Nat × Nat × Nat × Nat)} {b : Nat} {xb : jB} {e : Nat × Nat × Nat × Nat} {M : Nat → Nat} {Q : Nat}
theorem tIn_v (h : tCx ns us fl bl z b xb e M) : ∀ k, tV us (tIn xb k) := by
  intro k
  obtain ⟨-, -, -, -, hl, h8, -, -, tb, -, -, hxb, -⟩ := h
  unfold tIn
  split
  · rename_i hk
    have hm : xb.ps.getD k 0 ∈ xb.ps := by
      rw [List.getD_eq_getElem?_getD, List.getElem?_eq_getElem hk, Option.getD_some]
      exact List.getElem_mem hk
    exact (tOk_V ((tb xb (List.mem_of_getElem? hxb)).1 _ hm) hl).1
  · unfold tV; omega
theorem tIn_rst (h : tCx ns us fl bl z b xb e M) (g : Nat) : rst xb.lc.toNat g (tIn xb) = tIn xb := by
  obtain ⟨l1, l2, l3⟩ := lc_12 h
  funext k
  unfold rst
  by_cases c : rel xb.lc.toNat g k
  · rw [if_pos c]
  · rw [if_neg c]
    unfold tIn
    rw [if_neg (by unfold rel at c; omega)]
/-- the beginning of a body -/
def tX0 (us : List Int) (xb : jB) (e : Nat × Nat × Nat × Nat) : jX := tArr us (fun _ => none) e.1 (tIn xb)
theorem tX0_at : tX0 us xb e e.1 = some (tIn xb) := tArr_at
theorem tX0_ne {i : Nat} (h : i ≠ e.1) : tX0 us xb e i = none := tArr_ne h
theorem tX0_inv (h : tCx ns us fl bl z b xb e M) : tInv us fl bl z b xb M e (tX0 us xb e) := by
  have g0 := h.2.1.1
  have g1 := h.2.1.2.1
  have hlt := h.1.2.1
  have h8 := h.2.2.2.2.2.1
  have hl := h.2.2.2.2.1
  have hr : tRow us xb.lc.toNat (hgt (M e.1)) (tIn xb) := by
    rw [← tIn_rst h (hgt (M e.1))]
    exact rst_row (by omega) (tIn_v h)
  refine ⟨fun i u hi => ?_, ⟨_, tX0_at, vle_refl _⟩, fun i u hi Y hY => ?_⟩
  · by_cases c : i = e.1
    · subst c
      rw [tX0_at] at hi
      cases hi
      exact ⟨Nat.le_refl _, hlt, g0, hr⟩
    · rw [tX0_ne c] at hi; cases hi
  · by_cases c : i = e.1
    · subst c
      rw [tX0_at] at hi
      cases hi
      exact hY.2.1
    · rw [tX0_ne c] at hi; cases hi
theorem tX0_cl {i : Nat} (hi : i ≠ e.1) : tCl us fl bl z b xb.lc.toNat M (tX0 us xb e) i := by
  intro x u hx hu
  rw [tX0_ne hi] at hu
  cases hu
theorem tMs_b (X : jX) (hX : tOK us xb.lc.toNat M e X) (h32 : us.length ≤ 32) : tMs X < 4097025 := by
  have := sm_le (f := fun i => tMi (X i)) (g := fun _ => 4001) (fun i => by
    cases hq : X i with
    | none => exact Nat.le_refl _
    | some u =>
      have := tMi_le h32 (hX i u hq).2.2.2
      show tMi (some u) ≤ 4001
      omega) 1024
  rw [sm_c] at this
  unfold tMs
  omega
/-- the first that the types don't suit -/
theorem c_fwL (hQ : Q = 13 ∨ Q = 49) (h : tCx ns us fl bl z b xb e M) {S : nk_S} (hv : cTv S Q (ns, us, fl, bl, z, el) e M) {X : jX} {W : Nat → Bool} {ch : Bool} (hm : cTm xb.lc.toNat M e S X W ch) (hX : tOK us xb.lc.toNat M e X) : ∀ (d i m : Nat), e.1 ≤ i → i + d = e.2.1 → d < m → ja_X9_wrongType_L190 m 86 (e.2.1 : Int) (i : Int) S = some (ccA (tFw us fl bl z xb M X d i), S) := by
  intro d
  induction d with
  | zero =>
    intro i m h0 h1 h2
    obtain ⟨m, rfl⟩ : ∃ q, m = q + 1 := ⟨m - 1, by omega⟩
    show ja_X9_wrongType_b190 (ja_X9_wrongType_L190 m) 86 (e.2.1 : Int) (i : Int) S = _
    unfold ja_X9_wrongType_b190
    rw [if_pos (by omega)]
    rfl
  | succ d ih =>
    intro i m h0 h1 h2
    obtain ⟨m, rfl⟩ : ∃ q, m = q + 1 := ⟨m - 1, by omega⟩
    have hlen := h.1.2.2.1
    have h1024 := h.2.2.2.2.2.2.2.2.2.2.2.2.2.2.1
    obtain ⟨x, hx⟩ : ∃ x, z.1[i]? = some x := ⟨z.1[i]'(by omega), List.getElem?_eq_getElem (by omega)⟩
    have ih' := ih (i + 1) m (by omega) (by omega) (by omega)
    have h89 := (hm.1 i h0 (by omega)).1
    show ja_X9_wrongType_b190 (ja_X9_wrongType_L190 m) 86 (e.2.1 : Int) (i : Int) S = _
    unfold ja_X9_wrongType_b190
    rw [if_neg (by omega), if_pos (in_i (N := 1024) (by omega)), jc_86_4, Int.toNat_natCast, h89, w_nat1 (by omega)]
    rw [tFw, hx]
    cases hq : X i with
    | none =>
      rw [if_pos (show bi (none : Option (Nat → Int)).isSome = 0 from rfl), lt_eq]
      exact ih'
    | some u =>
      obtain ⟨o1, o2, o3, o4⟩ := hX i u hq
      rw [if_neg (show ¬ bi (some u).isSome = 0 from fun q => by cases q), c_holds hQ h hv o1 o2 hx o3 (fun k => (o4 k).1) (hm.2.1 i u hq), bd_some]
      dsimp only
      cases hh : tHo us fl bl xb x (hgt (M i)) u with
      | true =>
        rw [if_neg (show ¬ bi true = 0 by decide), lt_eq, if_pos rfl]
        exact ih'
      | false =>
        rw [if_pos (show bi false = 0 from rfl), if_neg (by decide)]
        rfl
/-- the class looks at the types of a body -/
theorem c_tyB (hQ : Q = 13 ∨ Q = 49) (h : tCx ns us fl bl z b xb e M) (he : el[b]? = some e) {S : nk_S} (hv : cTv S Q (ns, us, fl, bl, z, el) e M) (h7 : S.1 86 7 = 0) : ∃ S' X, ja_X9_wrongType 86 (b : Int) S = some (ccA (tFw us fl bl z xb M X (e.2.1 - e.1) e.1), S') ∧ tFs S S' ∧ tInv us fl bl z b xb M e X ∧ ∀ i, tCl us fl bl z b xb.lc.toNat M X i := by
  obtain ⟨l1, l2, l3⟩ := lc_12 h
  have hlen := h.1.2.2.1
  have hlt := h.1.2.1
  have h1024 := h.2.2.2.2.2.2.2.2.2.2.2.2.2.2.1
  have hxb := h.2.2.2.2.2.2.2.2.2.2.2.1
  have hbl := h.2.2.2.2.2.2.2.2.2.2.2.2.2.1
  have huO := h.2.2.2.1
  have hl := h.2.2.2.2.1
  have h32 := h.2.2.2.2.2.2.1
  have hb48 : b < 48 := by have := at_lt hxb; omega
  obtain ⟨bm, hbm⟩ := big_ge 10000000 (by decide)
  -- what came is cleared
  have clr : ∀ (d i m : Nat) (T : nk_S), i + d = e.2.1 → e.1 ≤ i → d < m → ∃ U, ja_X9_wrongType_L26 m 86 (b : Int) (Q + 9) (e.1 : Int) (e.2.1 : Int) (i : Int) T = nk_bd (ja_J7_fill_53178 91 20 0 U) (fun _ S3 => ja_X9_wrongType_L66 nk_big 86 (b : Int) (Q + 9) (e.1 : Int) (e.2.1 : Int) 0 S3) ∧ U.2 = T.2 ∧ (∀ a, a ≠ 89 → a ≠ 90 → U.1 a = T.1 a) ∧ (∀ j, U.1 89 j = if i ≤ j ∧ j < e.2.1 then 0 else T.1 89 j) ∧ ∀ j, U.1 90 j = if i ≤ j ∧ j < e.2.1 then 0 else T.1 90 j := by
    intro d
    induction d with
    | zero =>
      intro i m T h1 h2 h3
      obtain ⟨m, rfl⟩ : ∃ q, m = q + 1 := ⟨m - 1, by omega⟩
      refine ⟨T, ?_, rfl, fun _ _ _ => rfl, fun j => by rw [if_neg (by omega)], fun j => by rw [if_neg (by omega)]⟩
      show ja_X9_wrongType_b26 (ja_X9_wrongType_L26 m) 86 (b : Int) (Q + 9) (e.1 : Int) (e.2.1 : Int) (i : Int) T = _
      unfold ja_X9_wrongType_b26
      rw [if_pos (by omega), jc_86_6]
    | succ d ih =>
      intro i m T h1 h2 h3
      obtain ⟨m, rfl⟩ : ∃ q, m = q + 1 := ⟨m - 1, by omega⟩
      obtain ⟨U, u1, u2, u3, u4, u5⟩ := ih (i + 1) m (nk_wi (nk_wi T 89 i 0) 90 i 0) (by omega) (by omega) (by omega)
      refine ⟨U, ?_, u2, fun a ha hb => by rw [u3 a ha hb, wi_n hb, wi_n ha], fun j => ?_, fun j => ?_⟩
      · rw [← u1]
        show ja_X9_wrongType_b26 (ja_X9_wrongType_L26 m) 86 (b : Int) (Q + 9) (e.1 : Int) (e.2.1 : Int) (i : Int) T = _
        unfold ja_X9_wrongType_b26
        rw [if_neg (by omega), if_pos (in_i (N := 1024) (by omega)), lt_eq, lt_eq, lt_eq, jc_86_4, jc_86_5, Int.toNat_natCast, w_nat1 (by omega)]
      · rw [u4, wi_n (by decide), wi_at]
        by_cases q : i + 1 ≤ j ∧ j < e.2.1
        · rw [if_pos q, if_pos (by omega)]
        · rw [if_neg q]
          by_cases q2 : j = i
          · rw [if_pos q2, if_pos (by omega)]
          · rw [if_neg q2, if_neg (by omega)]
      · rw [u5, wi_at, wi_n (by decide)]
        by_cases q : i + 1 ≤ j ∧ j < e.2.1
        · rw [if_pos q, if_pos (by omega)]
        · rw [if_neg q]
          by_cases q2 : j = i
          · rw [if_pos q2, if_pos (by omega)]
          · rw [if_neg q2, if_neg (by omega)]
  obtain ⟨U, u1, u2, u3, u4, u5⟩ := clr (e.2.1 - e.1) e.1 nk_big S (by omega) (Nat.le_refl _) (by omega)
  have FU : tFs S U := ⟨u2, fun a _ _ y w _ => u3 a y w, fun i _ => by rw [u3 86 (by decide) (by decide)]⟩
  obtain ⟨V, v1, v2, v3, v4⟩ := fill_i (l0 := 91) (n := 20) (x := 0) (by decide) U
  have FV : tFs S V := tFs_trans FU (tFs_91 v2 v3)
  -- the parameters
  have par : ∀ (d k m : Nat) (T : nk_S), cTv T Q (ns, us, fl, bl, z, el) e M → k + d = xb.ps.length → d < m → ∃ R, ja_X9_wrongType_L66 m 86 (b : Int) (Q + 9) (e.1 : Int) (e.2.1 : Int) (k : Int) T = nk_bd (ja_X9_arrive 86 (e.1 : Int) xb.lc 0 R) (fun _ S5 => ja_X9_wrongType_L117 nk_big 86 (e.1 : Int) (e.2.1 : Int) 0 (nk_wi S5 86 7 1)) ∧ R.2 = T.2 ∧ (∀ a, a ≠ 91 → R.1 a = T.1 a) ∧ ∀ j, R.1 91 j = if k ≤ j ∧ j < xb.ps.length then xb.ps.getD j 0 else T.1 91 j := by
    intro d
    induction d with
    | zero =>
      intro k m T hT h1 h2
      obtain ⟨m, rfl⟩ : ∃ q, m = q + 1 := ⟨m - 1, by omega⟩
      have hB : ∀ (b : Nat) (y : jB), bl[b]? = some y → cB0 T Q b y := hT.2.2.1.2.2.2.2.2.1
      have e13 : T.1 (Q + 13) b = (xb.ps.length : Int) := (hB b xb hxb).2.2.1
      have e16 : T.1 (Q + 16) b = xb.lc := (hB b xb hxb).2.2.2.2.2
      refine ⟨T, ?_, rfl, fun _ _ => rfl, fun j => by rw [if_neg (by omega)]⟩
      show ja_X9_wrongType_b66 (ja_X9_wrongType_L66 m) 86 (b : Int) (Q + 9) (e.1 : Int) (e.2.1 : Int) (k : Int) T = _
      unfold ja_X9_wrongType_b66
      rw [if_pos (in_i (N := 48) (by omega)), (jcB hQ).1, (jcB hQ).2.2.2, Int.toNat_natCast, e13, e16, if_pos (by omega)]
      simp only [lt_eq]
    | succ d ih =>
      intro k m T hT h1 h2
      obtain ⟨m, rfl⟩ : ∃ q, m = q + 1 := ⟨m - 1, by omega⟩
      have hB : ∀ (b : Nat) (y : jB), bl[b]? = some y → cB0 T Q b y := hT.2.2.1.2.2.2.2.2.1
      have e13 : T.1 (Q + 13) b = (xb.ps.length : Int) := (hB b xb hxb).2.2.1
      have hkk : xb.ps[k]? = some (xb.ps.getD k 0) := by rw [List.getD_eq_getElem?_getD, List.getElem?_eq_getElem (by omega), Option.getD_some]
      have e14 : T.1 (Q + 14) (b * 12 + k) = xb.ps.getD k 0 := (hB b xb hxb).2.2.2.1 k _ (by omega) hkk
      obtain ⟨R, r1, r2, r3, r4⟩ := ih (k + 1) m (nk_wi T 91 k (xb.ps.getD k 0)) (cTv_s hQ (tFs_91 (S := T) rfl (fun a ha => by rw [wi_n ha])) hT) (by omega) (by omega)
      refine ⟨R, ?_, r2, fun a ha => by rw [r3 a ha, wi_n ha], fun j => ?_⟩
      · rw [← r1]
        show ja_X9_wrongType_b66 (ja_X9_wrongType_L66 m) 86 (b : Int) (Q + 9) (e.1 : Int) (e.2.1 : Int) (k : Int) T = _
        unfold ja_X9_wrongType_b66
        rw [if_pos (in_i (N := 48) (by omega)), (jcB hQ).1, Int.toNat_natCast, e13, if_neg (by omega), c_par hQ hb48 (by omega), bd_some, if_pos (in_i (N := 20) (by omega)), e14, jc_86_6, Int.toNat_natCast, lt_eq, lt_eq, w_nat1 (by omega)]
      · rw [r4, wi_at]
        by_cases q : k + 1 ≤ j ∧ j < xb.ps.length
        · rw [if_pos q, if_pos (by omega)]
        · rw [if_neg q]
          by_cases q2 : j = k
          · rw [if_pos q2, if_pos (by omega), q2]
          · rw [if_neg q2, if_neg (by omega)]
  obtain ⟨R, r1, r2, r3, r4⟩ := par xb.ps.length 0 nk_big V (cTv_s hQ FV hv) (by omega) (by omega)
  have FR : tFs S R := tFs_trans FV (tFs_91 r2 r3)
  have vR := cTv_s hQ FR hv
  have r91 : ∀ k, rel xb.lc.toNat 0 k → R.1 91 k = tIn xb k := by
    intro k hk
    rw [r4, v4]
    unfold tIn
    by_cases c : k < xb.ps.length
    · rw [if_pos ⟨by omega, c⟩, if_pos c]
    · rw [if_neg (fun q => c q.2), if_neg c, if_pos (by unfold rel at hk; omega)]
  have m0 : cTm xb.lc.toNat M e R (fun _ => none) (fun _ => false) false := by
    refine ⟨fun i a1 a2 => ?_, (fun i u hi => by cases hi), ?_⟩
    · rw [r3 89 (by decide), r3 90 (by decide), v3 89 (by decide), v3 90 (by decide), u4, u5, if_pos ⟨a1, a2⟩, if_pos ⟨a1, a2⟩]
      exact ⟨rfl, rfl⟩
    · rw [r3 86 (by decide), v3 86 (by decide), u3 86 (by decide) (by decide), h7]; rfl
  have hJ : cJL R Q z := vR.2.2.1.2.2.2.2.2.2.2.2.1
  have h32' : us.length ≤ 32 := by omega
  obtain ⟨A, a1, a2, a3⟩ := c_arr hQ huO h32' (j := e.1) (g := 0) l1 (by omega) (X := fun _ => none) (fun i u hi => by cases hi) h.2.1.2.1 (Nat.le_refl _) hlt hlen h1024 (fun k _ => tIn_v h k) vR.1 vR.2.1 hJ.1.1 vR.2.2.1.1 r91 m0
  rw [tIn_rst h 0] at a3
  rw [l2] at a1
  obtain ⟨B, hB⟩ : ∃ B, B = nk_wi A 86 7 1 := ⟨_, rfl⟩
  have FB : tFs S B := tFs_trans FR (tFs_trans (tFs_F a2) ⟨by rw [hB]; rfl, fun a x _ _ _ _ => by rw [hB, wi_n x], fun j hj => by rw [hB, wi_at, if_neg hj]⟩)
  obtain ⟨W, hW⟩ : ∃ W : Nat → Bool, W = fun i => if i = e.1 ∧ tNw us (fun _ => none) e.1 (tIn xb) = true then true else false := ⟨_, rfl⟩
  rw [← hW] at a3
  have mB : cTm xb.lc.toNat M e B (tX0 us xb e) W true := by
    obtain ⟨m1, m2, m3⟩ := a3
    exact ⟨fun j q1 q2 => by rw [hB, wi_n (by decide), wi_n (by decide)]; exact m1 j q1 q2, fun j u' hj k hk => by rw [hB, wi_n (by decide)]; exact m2 j u' hj k hk, by rw [hB, wi_at, if_pos rfl]; rfl⟩
  have X0i := tX0_inv h
  obtain ⟨S', X', W', q1, q2, q3, q4, q5⟩ := c_tro hQ h he 4097026 nk_big 0 (tX0 us xb e) W true B (cTv_s hQ FB hv) mB X0i (fun i' hi' => by
    refine tX0_cl (fun q => ?_)
    rw [hW] at hi'
    dsimp only at hi'
    rw [if_pos ⟨q, rfl⟩] at hi'
    cases hi') (fun i' hi' => by
    rw [hW] at hi'
    dsimp only at hi'
    by_cases c : i' = e.1
    · exact ⟨_, by rw [c]; exact tX0_at⟩
    · rw [if_neg (fun q => c q.1)] at hi'; cases hi') (fun q => by cases q) (by have := tMs_b (tX0 us xb e) X0i.1 h32'; omega) (by omega) (by omega)
  refine ⟨S', X', ?_, tFs_trans FB q2, q4, q5⟩
  have hE : cEl S Q el := hv.2.2.1.2.2.2.2.2.2.1
  unfold ja_X9_wrongType
  rw [if_pos (in_i (N := 48) (by omega)), hv.1, (jc_Qf hQ).2.2.2.2, (jc_Qb hQ).2.1, (jc_Qb hQ).2.2.1, Int.toNat_natCast, (hE b e he).1, (hE b e he).2.1, lt_eq, lt_eq, u1, v1, bd_some]
  have r1' : ja_X9_wrongType_L66 nk_big 86 (b : Int) (Q + 9) (e.1 : Int) (e.2.1 : Int) 0 V = _ := r1
  have a1' : ja_X9_arrive 86 (e.1 : Int) xb.lc 0 R = some (0, A) := a1
  rw [r1', a1', bd_some, ← hB]
  have q1' : ja_X9_wrongType_L117 nk_big 86 (e.1 : Int) (e.2.1 : Int) 0 B = _ := q1
  rw [q1']
  exact c_fwL hQ h (cTv_s hQ (tFs_trans FB q2) hv) q3 q4.1 (e.2.1 - e.1) e.1 nk_big (Nat.le_refl _) (by omega) (by omega)
end CTY
