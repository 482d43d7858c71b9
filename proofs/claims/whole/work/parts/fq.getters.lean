/-! The answers about a loaded program. -/
section GET
variable {S : nk_S} {Q P mb m0 : Nat} {p : jP} {A : jA} {σ : jG} {F : Int → Prop}
theorem iR_w (x : Int) : iR (nk_w x) := by
  have h1 : -2147483648 ≤ nk_w x := by
    have := Int.le_bmod (x := x) (m := 2 ^ 32) (by decide)
    unfold nk_w
    omega
  have h2 : nk_w x < 2147483648 := by
    have := Int.bmod_lt (x := x) (m := 2 ^ 32) (by decide)
    unfold nk_w
    omega
  unfold iR
  omega
theorem cI_u {x y : Int} {s : Nat → Bool} (h : cI x s) (k : cI y s) : x = y := ib_ext h.1 k.1 (fun j hj => by rw [h.2 j hj, k.2 j hj])
theorem g_set {w : jW} {f : Int} (h : cV f (fBt w)) {o : Nat} (ho : o ≤ 36) : cI (nk_w (nk_land (nk_lushr f (o : Int)) 4095)) (fun j => decide (j < 12) && w.2.2.2.2 (o + j)) := by
  refine ⟨iR_w _, fun j hj => ?_⟩
  have e : lb 4095 j = decide (j < 12) := by
    have := lb_n 4095 j
    rw [show ((4095 : Nat) : Int) = 4095 from rfl] at this
    rw [this, decide_eq_true (show j < 64 by omega), Bool.true_and]
    exact Nat.testBit_two_pow_sub_one 12 j
  rw [ib_w, ib_lb _ hj, lb_and, lb_ushr (by omega), e]
  show _ = (decide (j < 12) && w.2.2.2.2 (o + j))
  by_cases c : j < 12
  · rw [decide_eq_true c, Bool.and_true, Bool.true_and, h.2 (o + j) (by omega)]
    unfold fBt
    rw [if_pos (by omega)]
  · rw [decide_eq_false c, Bool.and_false, Bool.false_and]
theorem g_set0 {w : jW} {f : Int} (h : cV f (fBt w)) : cI (nk_w (nk_land f 4095)) (fun j => decide (j < 12) && w.2.2.2.2 (0 + j)) := by
  have := g_set h (o := 0) (by omega)
  have e : nk_land (nk_lushr f ((0 : Nat) : Int)) 4095 = nk_land f 4095 := lb_ext (lR_and _ _) (lR_and _ _) (fun j _ => by rw [lb_and, lb_and, lb_ushr (by omega), Nat.zero_add])
  rw [e] at this
  exact this
theorem g_kind {w : jW} {f : Int} (h : cV f (fBt w)) (hw : w.1 = 0 ∨ w.1 = 1 ∨ w.1 = 2) : nk_w (nk_lushr f 52) = (w.1 : Int) := by
  have hv : ∀ s : Nat → Bool, (∀ j, j < 64 → fBt w (52 + j) = s j) → cV (nk_lushr f 52) s := fun s hs => ⟨lR_ushr _ _, fun j hj => by
    have := lb_ushr (x := f) (n := 52) (by omega) j
    rw [show ((52 : Nat) : Int) = 52 from rfl] at this
    rw [this]
    by_cases c : 52 + j < 64
    · rw [h.2 _ c]; exact hs j hj
    · rw [lb_hi f (by omega), ← hs j hj]
      unfold fBt
      rw [if_neg (by omega), if_neg (by omega), if_neg (by omega), if_neg (by omega)]⟩
  have fb : ∀ j, fBt w (52 + j) = if j = 0 then decide (w.1 = 1) else if j = 1 then decide (w.1 = 2) else false := fun j => by
    unfold fBt
    rw [if_neg (by omega), if_neg (by omega)]
    by_cases c : j = 0
    · rw [if_pos (by omega), if_pos c]
    · rw [if_neg (by omega), if_neg c]
      by_cases c1 : j = 1
      · rw [if_pos (by omega), if_pos c1]
      · rw [if_neg (by omega), if_neg c1]
  rcases hw with q | q | q
  · have : nk_lushr f 52 = 0 := cV_u (hv noS (fun j _ => by
      rw [fb, q]
      split
      · rfl
      · split <;> rfl)) cV_0
    rw [this, q]; rfl
  · have : nk_lushr f 52 = nk_lshl 1 ((0 : Nat) : Int) := cV_u (hv (onS 0) (fun j _ => by
      rw [fb, q]
      unfold onS
      by_cases c : j = 0
      · rw [if_pos c, decide_eq_true c]; rfl
      · rw [if_neg c, decide_eq_false c]; split <;> rfl)) (cV_one (by decide))
    rw [this, q]; rfl
  · have : nk_lushr f 52 = nk_lshl 1 ((1 : Nat) : Int) := cV_u (hv (onS 1) (fun j _ => by
      rw [fb, q]
      unfold onS
      by_cases c : j = 0
      · rw [if_pos c, decide_eq_false (show ¬ j = 1 by omega)]; rfl
      · rw [if_neg c]
        by_cases c1 : j = 1
        · rw [if_pos c1, decide_eq_true c1]; rfl
        · rw [if_neg c1, decide_eq_false c1])) (cV_one (by decide))
    rw [this, q]; rfl
theorem g_bit {w : jW} {f : Int} (h : cV f (fBt w)) : (nk_land f 4503599627370496 = 0 ↔ w.1 ≠ 1) ∧ (nk_land f 9007199254740992 = 0 ↔ w.1 ≠ 2) := by
  have e1 : (4503599627370496 : Int) = nk_lshl 1 ((52 : Nat) : Int) := by decide +kernel
  have e2 : (9007199254740992 : Int) = nk_lshl 1 ((53 : Nat) : Int) := by decide +kernel
  have g : ∀ n : Nat, n < 64 → (nk_land f (nk_lshl 1 (n : Int)) = 0 ↔ fBt w n = false) := fun n hn => by
    rw [cV_z (cV_and h (cV_one hn))]
    constructor
    · intro q
      have := q n hn
      unfold sAnd onS at this
      rw [decide_eq_true rfl, Bool.and_true] at this
      exact this
    · intro q j hj
      unfold sAnd onS
      by_cases c : j = n
      · rw [c, q, Bool.false_and]
      · rw [decide_eq_false c, Bool.and_false]
  rw [e1, e2, g 52 (by omega), g 53 (by omega), fBt_k.1, fBt_k.2, decide_eq_false_iff_not, decide_eq_false_iff_not]
  exact ⟨Iff.rfl, Iff.rfl⟩
theorem wOk_k2 {w : jW} (h : wOk F w) : w.1 = 0 ∨ w.1 = 1 ∨ w.1 = 2 := by
  rcases h.2.2 with q | ⟨q, -⟩ | ⟨q, -⟩
  · rw [q]; exact Or.inl rfl
  · exact Or.inr (Or.inl q)
  · exact Or.inr (Or.inr q)
theorem jc_st : ja_c (ja_c (ja_c 0 10) 2) 2 = 96 ∧ ja_c (ja_c (ja_c 0 10) 2) 1 = 95 ∧ ja_c (ja_c (ja_c 0 10) 2) 0 = 94 ∧ ja_c (ja_c 0 10) 4 = 107 ∧ ja_c (ja_c 0 10) 5 = 108 ∧ ja_c (ja_c (ja_c 0 10) 3) 2 = 103 ∧ ja_c (ja_c (ja_c 0 10) 3) 5 = 106 := ⟨rfl, rfl, rfl, rfl, rfl, rfl, rfl⟩
theorem jc_rs (hP : P = 122 ∨ P = 168) : ja_c P 34 = P + 27 ∧ ja_c P 26 = P + 19 ∧ ja_c P 35 = P + 28 ∧ ja_c P 36 = P + 29 ∧ ja_c P 37 = P + 30 ∧ ja_c P 38 = P + 31 ∧ ja_c P 39 = P + 32 ∧ ja_c P 40 = P + 33 ∧ ja_c P 41 = P + 34 ∧ ja_c P 42 = P + 35 ∧ ja_c P 43 = P + 36 := by
  rcases hP with rfl | rfl <;> exact ⟨rfl, rfl, rfl, rfl, rfl, rfl, rfl, rfl, rfl, rfl, rfl⟩
/-- what is known where a program is loaded -/
def LD (S : nk_S) (Q P : Nat) (p : jP) (A : jA) (σ : jG) (mb m0 : Nat) : Prop := (Q = 13 ∨ Q = 49) ∧ (P = 122 ∨ P = 168) ∧ S.2 0 4 = Q ∧ S.2 121 0 = P ∧ S.1 0 6 = 1 ∧ S.1 121 2 = 1 ∧ ldK p A σ mb m0 ∧ ldC S Q p A σ ∧ ldR S P p A σ
theorem jR_ld (h : jRest S) : (S.1 0 6 = 0 ∧ S.1 121 2 = 0) ∨ ∃ Q P p A σ mb m0, LD S Q P p A σ mb m0 := by
  obtain ⟨-, h2, h3, -, h5⟩ := h
  rcases h5 with q | ⟨q1, q2, p, A, σ, mb, m0, q3, q4, q5⟩
  · exact Or.inl q
  · exact Or.inr ⟨_, _, p, A, σ, mb, m0, by omega, by omega, rfl, rfl, q1, q2, q3, q4, q5⟩
/-- the numbers of the loaded program, both sides -/
theorem ld_nums (h : LD S Q P p A σ mb m0) : (S.1 Q 3 = (p.2.2.2.2.1.1.length : Int) ∧ S.1 P 3 = (p.2.2.2.2.1.1.length : Int)) ∧ (S.1 Q 10 = (p.2.2.2.2.1.2.1.length : Int) ∧ S.1 P 4 = (p.2.2.2.2.1.2.1.length : Int)) ∧ (S.1 (Q + 9) 0 = (p.2.2.2.1.length : Int) ∧ S.1 P 2 = (p.2.2.2.1.length : Int)) ∧ (S.1 (Q + 9) 1 = (mb : Int) ∧ S.1 P 6 = (mb : Int)) ∧ (S.1 (Q + 1) 0 = (p.2.1.length : Int) ∧ S.1 P 0 = ((p.1.length - 8 : Nat) : Int)) ∧ S.1 (Q + 23) 0 = S.1 P 7 ∧ (p.2.2.2.2.1.1.length ≤ 1024 ∧ p.2.2.2.2.1.2.1.length ≤ 48 ∧ p.2.2.2.1.length ≤ 48 ∧ mb < p.2.2.2.1.length ∧ p.2.1.length = p.1.length ∧ 8 ≤ p.1.length ∧ p.1.length ≤ 32) := by
  obtain ⟨hQ, hP, -, -, -, -, hK, hC, hR⟩ := h
  obtain ⟨⟨tx, hwf⟩, -, hkx, ⟨ym, em, e1, e2, -⟩, -⟩ := hK
  obtain ⟨k1, k2, k3, k4, k5, k6, k7, k8, k9, k10, k11, k12, k13⟩ := id hwf.1
  obtain ⟨T, t1, t2⟩ := hR.1
  obtain ⟨c1, c2, c3, c4, c5, c6, c7, c8, c9, -⟩ := hC.1
  have tP : ∀ i, S.1 P i = T.1 P i := fun i => by rw [t1 P (by omega)]
  obtain ⟨r1, r2, r3, r4, r5, r6, r7, r8, r9, r10, r11, r12, r13, n', r14⟩ := t2
  refine ⟨⟨c9.1.1, by rw [tP]; exact r10.1⟩, ⟨c9.2.1.1, by rw [tP]; exact r11.1⟩, ⟨c4, by rw [tP]; exact r5⟩, ⟨by rw [c5]; exact e1, by rw [tP, r6]; exact e1⟩, ⟨c1.1, by rw [tP]; exact r1⟩, ?_, k11.1, k11.2.1, k7.1, at_lt e2, k2, k3, k4⟩
  obtain ⟨n, -, d1, d2, d3⟩ := c9.2.2.2
  have hT26 : T.1 (P + 26) = S.1 (P + 26) := t1 _ (by omega)
  rw [d1, tP, r14.1]
  have := (srt_same d2 r14.2.1 (fun y => by rw [d3 y, r14.2.2 y])).1
  omega
/-- one slot of a state, both sides -/
theorem g_slot (h : LD S Q P p A σ mb m0) (a b : Int) : ∃ w f v, ja_X11_factsAt 0 a b S = some (f, S) ∧ ja_X11_valueAt 0 a b S = some (v, S) ∧ cSt v f w ∧ wOk (pFF p) w ∧ ((ja_X13_slot 121 a b S = some (-1, S) ∧ w = wU) ∨ ∃ k : Nat, k < 20480 ∧ ja_X13_slot 121 a b S = some ((k : Int), S) ∧ rSo S (rSt P) k w) := by
  obtain ⟨n1, -, -, -, -, -, hl, -⟩ := ld_nums h
  obtain ⟨hQ, hP, e4, e0, e6, e2, hK, hC, hR⟩ := h
  obtain ⟨⟨tx, hwf⟩, -, hkx, -, hIn, -⟩ := hK
  obtain ⟨j96, j95, j94, -⟩ := jc_st
  obtain ⟨j34, j26, -⟩ := jc_rs hP
  have U0 : cSt 0 0 wU := ⟨fBt_U, fun _ => rfl, (fun q => by cases q), (fun q => by cases q)⟩
  -- no slot
  have nos : ja_X11_slotAt 0 a b S = some (-1, S) → ja_X13_slot 121 a b S = some (-1, S) → ∃ w f v, ja_X11_factsAt 0 a b S = some (f, S) ∧ ja_X11_valueAt 0 a b S = some (v, S) ∧ cSt v f w ∧ wOk (pFF p) w ∧ ((ja_X13_slot 121 a b S = some (-1, S) ∧ w = wU) ∨ ∃ k : Nat, k < 20480 ∧ ja_X13_slot 121 a b S = some ((k : Int), S) ∧ rSo S (rSt P) k w) := fun q1 q2 => by
    refine ⟨wU, 0, 0, ?_, ?_, U0, wU_ok, Or.inl ⟨q2, rfl⟩⟩
    · unfold ja_X11_factsAt; rw [q1, bd_some, if_neg (by decide)]
    · unfold ja_X11_valueAt; rw [q1, bd_some, if_neg (by decide)]
  by_cases ca : 0 ≤ a ∧ a < (p.2.2.2.2.1.1.length : Int)
  · obtain ⟨i, rfl⟩ : ∃ i : Nat, a = (i : Int) := ⟨a.toNat, by omega⟩
    have isI : ja_X11_isInstruction 0 (i : Int) S = some (1, S) := by
      unfold ja_X11_isInstruction
      rw [e6, if_neg (by decide), if_neg (by omega), e4, n1.1, if_neg (by omega)]
    have isC : ja_X13_isCode 121 (i : Int) S = some (1, S) := by
      unfold ja_X13_isCode
      rw [e2, if_neg (by decide), if_neg (by omega), e0, n1.2, if_neg (by omega)]
    obtain ⟨x, hx⟩ : ∃ x, p.2.2.2.2.1.1[i]? = some x := ⟨_, List.getElem?_eq_getElem (by omega)⟩
    obtain ⟨a1, e, a2, a3, a4⟩ := hwf.2.2.1.1 i x hx
    have hbl := hwf.1.2.2.2.2.2.2.1.1
    have h96 := hC.2.2.1.1 i (by omega)
    have h27 := hR.2.2.1.1 i (by omega)
    have hHl := hC.2.1 i x hx
    have h29 : S.1 (Q + 29) i = (x.2.2.2.1 : Int) := (hC.1.2.2.2.2.2.2.2.2.1.1.2 i x hx).2.2.2.2
    have lc12 := pLc_12 hwf i
    have H8 := pH_8 (p := p) i
    cases hA : A i with
    | none =>
      rw [hA] at h96 h27
      have h96 : S.1 96 i = 0 := h96
      have h27 : S.1 (P + 27) i = 0 := h27
      refine nos ?_ ?_
      · unfold ja_X11_slotAt
        rw [isI, bd_some, if_neg (by decide)]
        by_cases b0 : b < 0
        · rw [if_pos b0]
        · rw [if_neg b0]
          by_cases b20 : 20 ≤ b
          · rw [if_pos b20]
          · rw [if_neg b20, if_pos (in_i (N := 1024) (by omega)), j96, Int.toNat_natCast, h96, if_pos rfl]
      · unfold ja_X13_slot
        rw [isC, bd_some, if_neg (by decide), if_pos (in_i (N := 1024) (by omega)), e0, j34, Int.toNat_natCast, h27, if_pos rfl]
    | some u =>
      rw [hA] at h96 h27
      have h96 : S.1 96 i = 1 := h96
      have h27 : S.1 (P + 27) i = 1 := h27
      obtain ⟨x', t, b1, b2, b3⟩ := hIn.1 i u hA
      have h19 := hR.2.1 i t b2
      obtain ⟨hh, hhe⟩ : ∃ hh, hh = pH p i := ⟨_, rfl⟩
      obtain ⟨ll, hle⟩ : ∃ ll, ll = pLc p i := ⟨_, rfl⟩
      have hro0 := fun k => hR.2.2.1.2 i u hA k
      have hco0 := fun k => hC.2.2.1.2 i u hA k
      have hrw0 : ∀ k, ¬ rel (pLc p i) (pH p i) k → u k = wU := fun k => b3.2 k
      rw [← hhe] at h19 hHl H8 hro0 hco0 hrw0
      rw [← hle] at hHl lc12 hco0 hrw0
      clear hhe hle
      by_cases b0 : b < 0
      · refine nos ?_ ?_
        · unfold ja_X11_slotAt
          rw [isI, bd_some, if_neg (by decide), if_pos b0]
        · unfold ja_X13_slot
          rw [isC, bd_some, if_neg (by decide), if_pos (in_i (N := 1024) (by omega)), e0, j34, Int.toNat_natCast, h27, if_neg (by decide), if_pos b0]
      have e12 : ∀ _ : Unit, nk_w (12 + (hh : Int)) = ((12 + hh : Nat) : Int) := fun _ => by rw [nk_w_id (by omega) (by omega)]; omega
      by_cases bh : (12 + hh : Nat) ≤ b
      · refine nos ?_ ?_
        · unfold ja_X11_slotAt
          rw [isI, bd_some, if_neg (by decide), if_neg b0]
          by_cases b20 : 20 ≤ b
          · rw [if_pos b20]
          · rw [if_neg b20, if_pos (in_i (N := 1024) (by omega)), j96, Int.toNat_natCast, h96, if_neg (by decide), if_pos (by omega), e4, (jc_Qp hQ).2.2.2.2.2.2.1, hHl.1, nk_w_id (by omega) (by omega), if_pos (by omega)]
            unfold ja_X11_slotAt_b94
            rw [if_pos rfl]
        · unfold ja_X13_slot
          rw [isC, bd_some, if_neg (by decide), if_pos (in_i (N := 1024) (by omega)), e0, j34, j26, Int.toNat_natCast, h27, if_neg (by decide), if_neg b0, h19, e12 (), if_pos bh]
      · obtain ⟨k, rfl⟩ : ∃ k : Nat, b = (k : Int) := ⟨b.toNat, by omega⟩
        have hk : k < 12 + hh := by omega
        have eix : ∀ _ : Unit, nk_w (nk_w ((i : Int) * 20) + (k : Int)) = ((i * 20 + k : Nat) : Int) := fun _ => by
          rw [nk_w_id (z := (i : Int) * 20) (by omega) (by omega), nk_w_id (by omega) (by omega)]
          omega
        have hrs : ja_X13_slot 121 (i : Int) (k : Int) S = some (((i * 20 + k : Nat) : Int), S) := by
          unfold ja_X13_slot
          rw [isC, bd_some, if_neg (by decide), if_pos (in_i (N := 1024) (by omega)), e0, j34, j26, Int.toNat_natCast, h27, if_neg (by decide), if_neg b0, h19, e12 (), if_neg bh, eix ()]
        have hro := hro0 k hk
        by_cases cr : rel (ll) (hh) k
        · have hcs : ja_X11_slotAt 0 (i : Int) (k : Int) S = some (((i * 20 + k : Nat) : Int), S) := by
            unfold ja_X11_slotAt
            rw [isI, bd_some, if_neg (by decide), if_neg b0, if_neg (by omega), if_pos (in_i (N := 1024) (by omega)), j96, Int.toNat_natCast, h96, if_neg (by decide), e4, (jc_Qp hQ).2.2.2.2.2.1, (jc_Qp hQ).2.2.2.2.2.2.1, (jc_Q2 hQ).1, (jc_Q9 hQ).2.2.2.2.2.2.1]
            by_cases c12 : 12 ≤ k
            · rw [if_pos (by omega), hHl.1, nk_w_id (by omega) (by omega), if_neg (by omega)]
              unfold ja_X11_slotAt_b94
              rw [if_neg (by decide), eix ()]
            · rw [if_neg (by omega), h29, if_pos (in_i (N := 48) (by omega)), Int.toNat_natCast, hHl.2, if_neg (by unfold rel at cr; omega)]
              unfold ja_X11_slotAt_b94
              rw [if_neg (by decide), eix ()]
          refine ⟨u k, S.1 95 (i * 20 + k), S.1 94 (i * 20 + k), ?_, ?_, hco0 k cr, b3.1.1 k, Or.inr ⟨i * 20 + k, by omega, hrs, hro⟩⟩
          · unfold ja_X11_factsAt
            rw [hcs, bd_some, if_pos (by omega), if_pos (in_i (N := 20480) (by omega)), j95, Int.toNat_natCast]
          · unfold ja_X11_valueAt
            rw [hcs, bd_some, if_pos (by omega), if_pos (in_i (N := 20480) (by omega)), j94, Int.toNat_natCast]
        · have hcs : ja_X11_slotAt 0 (i : Int) (k : Int) S = some (-1, S) := by
            have k12 : k < 12 := by unfold rel at cr; omega
            unfold ja_X11_slotAt
            rw [isI, bd_some, if_neg (by decide), if_neg b0, if_neg (by omega), if_pos (in_i (N := 1024) (by omega)), j96, Int.toNat_natCast, h96, if_neg (by decide), e4, (jc_Qp hQ).2.2.2.2.2.1, (jc_Qp hQ).2.2.2.2.2.2.1, (jc_Q2 hQ).1, (jc_Q9 hQ).2.2.2.2.2.2.1, if_neg (by omega), h29, if_pos (in_i (N := 48) (by omega)), Int.toNat_natCast, hHl.2, if_pos (by unfold rel at cr; omega)]
            unfold ja_X11_slotAt_b94
            rw [if_pos rfl]
          have hwU := hrw0 k cr
          rw [hwU] at hro
          refine ⟨wU, 0, 0, ?_, ?_, U0, wU_ok, Or.inr ⟨i * 20 + k, by omega, hrs, hro⟩⟩
          · unfold ja_X11_factsAt; rw [hcs, bd_some, if_neg (by decide)]
          · unfold ja_X11_valueAt; rw [hcs, bd_some, if_neg (by decide)]
  · have isI : ja_X11_isInstruction 0 a S = some (0, S) := by
      unfold ja_X11_isInstruction
      rw [e6, if_neg (by decide), e4, n1.1]
      by_cases c : a < 0
      · rw [if_pos c]
      · rw [if_neg c, if_pos (by omega)]
    have isC : ja_X13_isCode 121 a S = some (0, S) := by
      unfold ja_X13_isCode
      rw [e2, if_neg (by decide), e0, n1.2]
      by_cases c : a < 0
      · rw [if_pos c]
      · rw [if_neg c, if_pos (by omega)]
    refine nos ?_ ?_
    · unfold ja_X11_slotAt; rw [isI, bd_some, if_pos rfl]
    · unfold ja_X13_slot; rw [isC, bd_some, if_pos rfl]
/-- where nothing is loaded there is no slot -/
theorem g_none (h6 : S.1 0 6 = 0) (h2 : S.1 121 2 = 0) (a b : Int) : ja_X11_factsAt 0 a b S = some (0, S) ∧ ja_X11_valueAt 0 a b S = some (0, S) ∧ ja_X13_slot 121 a b S = some (-1, S) := by
  have isI : ja_X11_isInstruction 0 a S = some (0, S) := by
    unfold ja_X11_isInstruction
    rw [h6, if_pos rfl]
  have isC : ja_X13_isCode 121 a S = some (0, S) := by
    unfold ja_X13_isCode
    rw [h2, if_pos rfl]
  have q1 : ja_X11_slotAt 0 a b S = some (-1, S) := by unfold ja_X11_slotAt; rw [isI, bd_some, if_pos rfl]
  refine ⟨?_, ?_, ?_⟩
  · unfold ja_X11_factsAt; rw [q1, bd_some, if_neg (by decide)]
  · unfold ja_X11_valueAt; rw [q1, bd_some, if_neg (by decide)]
  · unfold ja_X13_slot; rw [isC, bd_some, if_pos rfl]
/-- one slot, whatever is loaded -/
theorem g_any (h : jRest S) (a b : Int) : ∃ w f v, ja_X11_factsAt 0 a b S = some (f, S) ∧ ja_X11_valueAt 0 a b S = some (v, S) ∧ cSt v f w ∧ (∃ F, wOk F w ∧ ∀ y, F y → iR y) ∧ ((ja_X13_slot 121 a b S = some (-1, S) ∧ w = wU) ∨ ∃ k : Nat, k < 20480 ∧ ja_X13_slot 121 a b S = some ((k : Int), S) ∧ rSo S (rSt (S.2 121 0)) k w ∧ (S.2 121 0 = 122 ∨ S.2 121 0 = 168)) := by
  rcases jR_ld h with ⟨q1, q2⟩ | ⟨Q, P, p, A, σ, mb, m0, hl⟩
  · obtain ⟨g1, g2, g3⟩ := g_none q1 q2 a b
    exact ⟨wU, 0, 0, g1, g2, ⟨fBt_U, fun _ => rfl, (fun q => by cases q), (fun q => by cases q)⟩, ⟨fun _ => False, wU_ok, fun y q => q.elim⟩, Or.inl ⟨g3, rfl⟩⟩
  · obtain ⟨w, f, v, g1, g2, g3, g4, g5⟩ := g_slot hl a b
    refine ⟨w, f, v, g1, g2, g3, ⟨pFF p, g4, fun y q => hl.2.2.2.2.2.2.1.2.2.1.2.1.1.1 y q⟩, ?_⟩
    rcases g5 with q | ⟨k, k1, k2, k3⟩
    · exact Or.inl q
    · exact Or.inr ⟨k, k1, k2, by rw [hl.2.2.2.1]; exact k3, by rw [hl.2.2.2.1]; exact hl.2.1⟩
end GET
