/-! The class's ranges. -/
theorem mxL (a c : Int) (S : nk_S) : ja_J9_max_f86c9 a c S = some (max a c, S) := by
  unfold ja_J9_max_f86c9
  by_cases q : a < c
  · rw [if_pos q, Int.max_eq_right (by omega)]
  · rw [if_neg q, Int.max_eq_left (by omega)]
theorem mnL' (a c : Int) (S : nk_S) : ja_J9_min_f86c9 a c S = some (min a c, S) := by
  unfold ja_J9_min_f86c9
  by_cases q : c < a
  · rw [if_pos q, Int.min_eq_right (by omega)]
  · rw [if_neg q, Int.min_eq_left (by omega)]
theorem mxI (a c : Int) (S : nk_S) : ja_J9_max_7cf53 a c S = some (max a c, S) := by
  unfold ja_J9_max_7cf53
  by_cases q : a < c
  · rw [if_pos q, Int.max_eq_right (by omega)]
  · rw [if_neg q, Int.max_eq_left (by omega)]
theorem mnI (a c : Int) (S : nk_S) : ja_J9_min_7cf53 a c S = some (min a c, S) := by
  unfold ja_J9_min_7cf53
  by_cases q : c < a
  · rw [if_pos q, Int.min_eq_right (by omega)]
  · rw [if_neg q, Int.min_eq_left (by omega)]
/-- a range that is nothing, or a range -/
def kPk (o : Option jR) : Int := match o with
  | none => 9223372034707292160
  | some r => pk r
def iR2 (r : jR) : Prop := iR r.1 ∧ iR r.2
theorem lo_e {r : jR} (h : iR2 r) (S : nk_S) : ja_X5_lowest (pk r) S = some (r.1, S) := by
  unfold ja_X5_lowest
  rw [pk_lo h.1]
theorem hi_e {r : jR} (h : iR2 r) (S : nk_S) : ja_X5_highest (pk r) S = some (r.2, S) := by
  unfold ja_X5_highest
  rw [pk_hi h.2]
theorem no_pk : (9223372034707292160 : Int) = pk (2147483647, -2147483648) := by decide
theorem kPk_n {o : Option jR} (h : ∀ r, o = some r → iR2 r ∧ r.1 ≤ r.2) (S : nk_S) : ja_X5_isNothing (kPk o) S = some (bi o.isNone, S) := by
  unfold ja_X5_isNothing kPk
  cases o with
  | none =>
    dsimp only
    rw [no_pk, pk_lo (by unfold iR; omega), pk_hi (by unfold iR; omega)]
    rfl
  | some r =>
    obtain ⟨h1, h2⟩ := h r rfl
    dsimp only
    rw [pk_lo h1.1, pk_hi h1.2, if_pos h2]
    rfl
theorem single_e {r : jR} (h : iR2 r) (S : nk_S) : ja_X5_isSingle (pk r) S = some (bi (decide (r.1 = r.2)), S) := by
  unfold ja_X5_isSingle
  rw [pk_lo h.1, pk_hi h.2]
  by_cases c : r.1 = r.2
  · rw [if_pos c, decide_eq_true c]; rfl
  · rw [if_neg c, decide_eq_false c]; rfl
theorem rAll_pk : (-9223372034707292161 : Int) = pk rAll := by decide
theorem W_id {x : Int} (h : lR x) : nk_W x = x := by
  unfold lR at h
  exact nk_W_id (by omega) (by omega)
section CRG
variable {F : Int → Prop} {dn up : Int → Int} {R n : Nat}
theorem F_iR (hT : thG F dn up) {v : Int} (h : F v) : iR v := hT.1 v h
theorem rOk_iR (hT : thG F dn up) {r : jR} (h : rOk F r) : iR2 r := ⟨hT.1 _ h.1, hT.1 _ h.2.1⟩
theorem c_aro (hR : R = 36 ∨ R = 72) (hT : thG F dn up) {S : nk_S} (hC : tC S R n F) (hn : n ≤ 3079) {l h : Int} (hl : l ≤ h) : ja_X5_around R l h S = some (pk (rAr dn up l h), S) := by
  obtain ⟨t1, t2, t3, t4, t5, t6, t7, t8⟩ := id hT
  obtain ⟨b1, b2, b3⟩ := hC
  obtain ⟨bm, hbm⟩ := big_ge 10000 (by decide)
  unfold ja_X5_around rAr
  by_cases c1 : l < -2147483648
  · rw [if_pos c1, if_pos (Or.inl c1), ← rAll_pk]
  rw [if_neg c1]
  by_cases c2 : 2147483647 < h
  · rw [if_pos c2, if_pos (Or.inr c2), ← rAll_pk]
  rw [if_neg c2, if_neg (show ¬ 2147483647 < l by omega), if_pos (show -2147483648 ≤ h by omega), if_neg (show ¬ (l < -2147483648 ∨ 2147483647 < h) by omega)]
  have pl : ∀ x : Int, ∃ p : Nat, ja_X5_placeOf R x S = some ((p : Int), S) ∧ p ≤ n ∧ (∀ i, i < p → S.1 (R + 1) i < x) ∧ ∀ i, p ≤ i → i < n → x ≤ S.1 (R + 1) i := by
    intro x
    obtain ⟨p, p1, p2⟩ := pl_L (x := x) hR hn b2 n 0 n nk_big (by omega) (by omega) (by omega) (Nat.le_refl _) (fun i hi => by omega) (fun i h1 h2 => by omega)
    refine ⟨p, ?_, p2⟩
    unfold ja_X5_placeOf
    rw [lt_eq, b1]
    exact p1
  have wl : nk_w l = l := nk_w_id (by omega) (by omega)
  have wh : nk_w h = h := nk_w_id (by omega) (by omega)
  rw [wl, wh]
  obtain ⟨p, p1, p2, p3, p4⟩ := pl l
  obtain ⟨q, q1, q2, q3, q4⟩ := pl h
  obtain ⟨d1, d2, d3⟩ := t7 l (by omega)
  obtain ⟨u1, u2, u3⟩ := t8 h (by omega)
  have hq : q < n := by
    obtain ⟨i, i1, i2⟩ := (b3 2147483647).mpr t6
    by_cases c : q < n
    · exact c
    · have := q3 i (by omega); omega
  have hup : S.1 (R + 1) q = up h := by
    have f1 := q4 q (Nat.le_refl _) hq
    have f2 : F (S.1 (R + 1) q) := (b3 _).mp ⟨q, hq, rfl⟩
    have f3 := u3 _ f2 f1
    obtain ⟨i, i1, i2⟩ := (b3 (up h)).mpr u1
    have : q ≤ i := by
      by_cases c : q ≤ i
      · exact c
      · have := q3 i (by omega); omega
    by_cases c : q = i
    · rw [c]; exact i2
    · have := b2 q i (by omega) i1; omega
  have e61 : ja_X5_around_b61 R l (p : Int) (q : Int) S = some (pk (dn l, up h), S) := by
    have e109 : ja_X5_around_b109 R (q : Int) (dn l) S = some (pk (dn l, up h), S) := by
      unfold ja_X5_around_b109 ja_X5_around_b132 ja_X5_pack
      rw [b1, if_neg (by omega), if_pos (in_i (N := 3079) (by omega)), jc_R hR, Int.toNat_natCast, hup, pk_e (t1 _ d1), bd_some]
    have e90 : ¬ F l → ja_X5_around_b90 R (p : Int) (q : Int) S = some (pk (dn l, up h), S) := by
      intro hnf
      have hp0 : 0 < p := by
        obtain ⟨i, i1, i2⟩ := (b3 (-2147483648)).mpr t2
        by_cases c : 0 < p
        · exact c
        · have := p4 i (by omega) i1
          have : l = -2147483648 := by omega
          rw [this] at hnf
          exact absurd t2 hnf
      unfold ja_X5_around_b90
      have hdn : S.1 (R + 1) (p - 1) = dn l := by
        have f1 := p3 (p - 1) (by omega)
        have f2 : F (S.1 (R + 1) (p - 1)) := (b3 _).mp ⟨p - 1, by omega, rfl⟩
        have f3 := d3 _ f2 (by omega)
        obtain ⟨i, i1, i2⟩ := (b3 (dn l)).mpr d1
        have hne : dn l ≠ l := fun w => hnf (by rw [← w]; exact d1)
        have : i < p := by
          by_cases c : i < p
          · exact c
          · have := p4 i (by omega) i1; omega
        by_cases c : i = p - 1
        · rw [← c]; exact i2
        · have := b2 i (p - 1) (by omega) (by omega); omega
      rw [if_neg (by omega), show (p : Int) - 1 = (p : Int) - ((1 : Nat) : Int) by omega, wisub (by omega) (by omega), if_pos (in_i (N := 3079) (by omega)), jc_R hR, Int.toNat_natCast, hdn]
      exact e109
    unfold ja_X5_around_b61
    rw [b1]
    by_cases c : n ≤ p
    · rw [if_pos (by omega)]
      refine e90 (fun w => ?_)
      obtain ⟨i, i1, i2⟩ := (b3 l).mpr w
      have := p3 i (by omega); omega
    · rw [if_neg (by omega), if_pos (in_i (N := 3079) (by omega)), jc_R hR, Int.toNat_natCast]
      by_cases d : S.1 (R + 1) p = l
      · have hF : F l := (b3 l).mp ⟨p, by omega, d⟩
        rw [if_pos d, wl]
        have : dn l = l := dn_F hT hF
        rw [this] at e109 ⊢
        exact e109
      · rw [if_neg d]
        refine e90 (fun w => ?_)
        obtain ⟨i, i1, i2⟩ := (b3 l).mpr w
        have f1 := p4 p (Nat.le_refl _) (by omega)
        have : p ≤ i := by
          by_cases c' : p ≤ i
          · exact c'
          · have := p3 i (by omega); omega
        by_cases c' : p = i
        · rw [c'] at d; exact d i2
        · have := b2 p i (by omega) i1; omega
  rw [p1, bd_some]
  by_cases c : l = h
  · rw [if_pos c]
    have : p = q := by
      rw [c] at p1
      rw [p1] at q1
      have := congrArg (fun o => o.map Prod.fst) q1
      simp at this
      omega
    rw [this] at e61 ⊢
    exact e61
  · rw [if_neg c, q1, bd_some]
    exact e61
theorem prod_b {x y : Int} (hx : iR x) (hy : -2147483648 ≤ y ∧ y ≤ 2147483648) : lR (x * y) := by
  unfold iR at hx
  have h1 := mul_bt (y := y) hx.1 hx.2
  unfold lR
  omega
theorem c_product (hR : R = 36 ∨ R = 72) (hT : thG F dn up) {S : nk_S} (hC : tC S R n F) (hn : n ≤ 3079) {a : jR} (ha : iR2 a) {l h : Int} (hl : -2147483648 ≤ l ∧ l ≤ 2147483648) (hh : -2147483648 ≤ h ∧ h ≤ 2147483648) : ja_X5_product R (pk a) l h S = some (pk (kMul dn up a l h), S) := by
  unfold ja_X5_product
  simp only [lo_e ha, hi_e ha, bd_some, lt_eq, W_id (prod_b ha.1 hl), W_id (prod_b ha.1 hh), W_id (prod_b ha.2 hl), W_id (prod_b ha.2 hh), mnL', mxL]
  have e := c_aro hR hT hC hn (mn_mx a.1 l h a.2)
  unfold mn4 mx4 at e
  rw [e, bd_some]
  rfl
theorem c_kOk {o : Option jR} (hT : thG F dn up) (h : ∀ r, o = some r → rOk F r) : ∀ r, o = some r → iR2 r ∧ r.1 ≤ r.2 := fun r hr => ⟨rOk_iR hT (h r hr), (h r hr).2.2⟩
theorem c_cut (hR : R = 36 ∨ R = 72) (hT : thG F dn up) {S : nk_S} (hC : tC S R n F) (hn : n ≤ 3079) {a : jR} (ha : iR2 a) (l h : Int) : ja_X5_cut R (pk a) l h S = some (kPk (kCut dn up a l h), S) := by
  unfold ja_X5_cut kCut
  simp only [lo_e ha, hi_e ha, bd_some, mnL', mxL]
  by_cases c : min a.2 h < max a.1 l
  · rw [if_neg (by omega), if_pos c]; rfl
  · rw [if_pos (by omega), if_neg c, c_aro hR hT hC hn (by omega), bd_some]; rfl
theorem c_common {a c : jR} (ha : iR2 a) (hc : iR2 c) (S : nk_S) : ja_X5_common (pk a) (pk c) S = some (kPk (kCom a c), S) := by
  unfold ja_X5_common kCom
  simp only [lo_e ha, hi_e ha, lo_e hc, hi_e hc, bd_some, mnI, mxI]
  by_cases q : min a.2 c.2 < max a.1 c.1
  · rw [if_neg (by omega), if_pos q]; rfl
  · rw [if_pos (by omega), if_neg q]
    unfold ja_X5_pack
    rw [pk_e (by unfold iR2 iR at *; omega), bd_some]; rfl
theorem c_without (hR : R = 36 ∨ R = 72) (hT : thG F dn up) {S : nk_S} (hC : tC S R n F) (hn : n ≤ 3079) {a c : jR} (ha : iR2 a) (hc : iR2 c) : ja_X5_without R (pk a) (pk c) S = some (kPk (kWo dn up a c), S) := by
  have ha' := ha
  unfold iR2 iR at ha'
  unfold ja_X5_without kWo
  rw [single_e hc, bd_some]
  by_cases q : c.1 = c.2
  · rw [decide_eq_true q, if_neg (show ¬ bi true = 0 by decide), if_pos q, lo_e hc, bd_some, lo_e ha, bd_some, hi_e ha, bd_some]
    have e66 : ∀ l h : Int, ja_X5_without_b66 R l h S = some (kPk (if h < l then none else some (rAr dn up l h)), S) := by
      intro l h
      unfold ja_X5_without_b66
      by_cases w : h < l
      · rw [if_neg (by omega), if_pos w]; rfl
      · rw [if_pos (by omega), if_neg w, c_aro hR hT hC hn (by omega), bd_some]; rfl
    have e47 : ∀ l : Int, ja_X5_without_b47 R c.1 a.2 l S = some (kPk (if (if a.2 = c.1 then a.2 - 1 else a.2) < l then none else some (rAr dn up l (if a.2 = c.1 then a.2 - 1 else a.2))), S) := by
      intro l
      unfold ja_X5_without_b47
      by_cases w : a.2 = c.1
      · rw [if_pos w, if_pos w, W_id (by unfold lR; omega), e66]
      · rw [if_neg w, if_neg w, e66]
    by_cases w : a.1 = c.1
    · rw [if_pos w, if_pos w, W_id (by unfold lR; omega), e47]
    · rw [if_neg w, if_neg w, e47]
  · rw [decide_eq_false q, if_pos (show bi false = 0 from rfl), if_neg q]; rfl
theorem c_plus (hR : R = 36 ∨ R = 72) (hT : thG F dn up) {S : nk_S} (hC : tC S R n F) (hn : n ≤ 3079) {a : jR} (ha : iR2 a) (hl : a.1 ≤ a.2) {m : Int} (hm : iR m) : ja_X5_plus R (pk a) m S = some (pk (kPlus dn up a m), S) := by
  have ha' := ha
  unfold iR2 iR at ha'
  unfold iR at hm
  unfold ja_X5_plus kPlus
  rw [lo_e ha, bd_some, hi_e ha, bd_some, W_id (by unfold lR; omega), W_id (by unfold lR; omega), c_aro hR hT hC hn (by omega), bd_some]
theorem c_negative (hR : R = 36 ∨ R = 72) (hT : thG F dn up) {S : nk_S} (hC : tC S R n F) (hn : n ≤ 3079) {a : jR} (ha : iR2 a) (hl : a.1 ≤ a.2) : ja_X5_negative R (pk a) S = some (pk (kNeg dn up a), S) := by
  have ha' := ha
  unfold iR2 iR at ha'
  unfold ja_X5_negative kNeg
  rw [hi_e ha, bd_some, lo_e ha, bd_some, W_id (by unfold lR; omega), W_id (by unfold lR; omega), c_aro hR hT hC hn (by omega), bd_some]
theorem abs_e {x : Int} (h : iR x) (S : nk_S) : ja_J9_abs_067f4 x S = some (kAbs x, S) := by
  unfold iR at h
  unfold ja_J9_abs_067f4 kAbs
  by_cases c : 0 ≤ x
  · rw [if_pos c, Int.max_eq_left (by omega)]
  · rw [if_neg c, Int.max_eq_right (by omega), W_id (by unfold lR; omega)]
theorem c_remainder (hR : R = 36 ∨ R = 72) (hT : thG F dn up) {S : nk_S} (hC : tC S R n F) (hn : n ≤ 3079) {a c : jR} (ha : iR2 a) (hc : iR2 c) (hl : a.1 ≤ a.2) : ja_X5_remainder R (pk a) (pk c) S = some (kPk (kRem dn up a c), S) := by
  have ha' := ha
  have hc' := hc
  unfold iR2 iR at ha' hc'
  unfold ja_X5_remainder kRem
  rw [lo_e ha, bd_some, hi_e ha, bd_some, lo_e hc, bd_some, abs_e hc.1, bd_some, hi_e hc, bd_some, abs_e hc.2, bd_some, mxL, bd_some]
  have hb : 0 ≤ max (kAbs c.1) (kAbs c.2) ∧ max (kAbs c.1) (kAbs c.2) ≤ 2147483648 := by unfold kAbs; omega
  generalize max (kAbs c.1) (kAbs c.2) = m at *
  rw [lt_eq, W_id (by unfold lR; omega)]
  by_cases d1 : m - 1 < 0
  · rw [if_neg (by omega), if_pos d1]; rfl
  rw [if_pos (by omega), if_neg d1]
  by_cases d2 : 0 ≤ a.1
  · rw [if_neg (by omega), if_pos d2, mnL', bd_some, c_aro hR hT hC hn (by omega), bd_some]; rfl
  · rw [if_pos (by omega), if_neg d2, W_id (by unfold lR; omega), mxL, bd_some]
    unfold ja_X5_remainder_b95
    by_cases d3 : a.2 ≤ 0
    · rw [if_neg (by omega), if_pos d3, c_aro hR hT hC hn (by omega), bd_some]; rfl
    · rw [if_pos (by omega), if_neg d3, mnL', bd_some, c_aro hR hT hC hn (by omega), bd_some]; rfl
theorem c_conj (hR : R = 36 ∨ R = 72) (hT : thG F dn up) {S : nk_S} (hC : tC S R n F) (hn : n ≤ 3079) {a c : jR} (ha : iR2 a) (hc : iR2 c) (hl : a.1 ≤ a.2) (hm : c.1 ≤ c.2) : ja_X5_conjunction R (pk a) (pk c) S = some (pk (kAnd dn up a c), S) := by
  unfold ja_X5_conjunction ja_X5_conjunction_b12 kAnd
  simp only [lo_e ha, lo_e hc, bd_some]
  by_cases d1 : 0 ≤ a.1
  · rw [if_neg (by omega), if_pos d1]
    by_cases d2 : 0 ≤ c.1
    · rw [if_neg (by omega), if_pos d2]
      unfold ja_X5_conjunction_b26
      rw [if_neg (by decide), if_neg (by decide), hi_e ha, bd_some, hi_e hc, bd_some, mnI, bd_some, c_aro hR hT hC hn (by omega), bd_some]
    · rw [if_pos (by omega), if_neg d2]
      unfold ja_X5_conjunction_b26 ja_X5_conjunction_b56
      rw [if_neg (by decide), if_pos rfl, if_neg (by decide), hi_e ha, bd_some, c_aro hR hT hC hn (by omega), bd_some]
  · rw [if_pos (by omega), if_neg d1]
    by_cases d2 : 0 ≤ c.1
    · rw [if_neg (by omega), if_pos d2]
      unfold ja_X5_conjunction_b26 ja_X5_conjunction_b56
      rw [if_pos rfl, if_pos rfl, if_neg (by decide), hi_e hc, bd_some, c_aro hR hT hC hn (by omega), bd_some]
    · rw [if_pos (by omega), if_neg d2]
      unfold ja_X5_conjunction_b26 ja_X5_conjunction_b56
      rw [if_pos rfl, if_pos rfl, if_pos rfl, ← rAll_pk]
theorem lshl_p : ∀ k : Nat, k < 33 → nk_lshl 1 (k : Int) = ((2 ^ k : Nat) : Int) := by decide +kernel
theorem nlz_0 (S : nk_S) : ja_J6_numberOfLeadingZeros_0f7a4 0 S = some (32, S) := rfl
theorem c_disj (hR : R = 36 ∨ R = 72) (hT : thG F dn up) {S : nk_S} (hC : tC S R n F) (hn : n ≤ 3079) {a c : jR} (ha : iR2 a) (hc : iR2 c) (hl : a.1 ≤ a.2) (hm : c.1 ≤ c.2) : ja_X5_disjunction R (pk a) (pk c) S = some (pk (kOr dn up a c), S) := by
  have ha' := ha
  have hc' := hc
  unfold iR2 iR at ha' hc'
  unfold ja_X5_disjunction kOr
  rw [lo_e ha, bd_some]
  by_cases d1 : a.1 < 0
  · rw [if_pos d1, if_pos (Or.inl d1), ← rAll_pk]
  rw [if_neg d1, lo_e hc, bd_some]
  by_cases d2 : c.1 < 0
  · rw [if_neg (by omega), if_pos (Or.inr d2), ← rAll_pk]
  rw [if_pos (by omega), if_neg (by omega), hi_e ha, bd_some, hi_e hc, bd_some, mxI, bd_some]
  have hb : 0 ≤ max a.2 c.2 ∧ max a.2 c.2 ≤ 2147483647 := by omega
  generalize max a.2 c.2 = m at *
  by_cases d3 : m ≤ 0
  · have e0 : m = 0 := by omega
    rw [e0, nlz_0, bd_some, show nk_lshl 1 (nk_w (32 - 32)) = 1 by decide +kernel, W_id (by unfold lR; omega), c_aro hR hT hC hn (by omega), bd_some]
    rfl
  · obtain ⟨k, hk⟩ : ∃ k : Nat, m = (k : Int) := ⟨m.toNat, by omega⟩
    have h1 : 2 ^ k.log2 ≤ k := Nat.log2_self_le (by omega)
    have h2 : k < 2 ^ (k.log2 + 1) := Nat.lt_log2_self
    have h3 : k.log2 < 31 := (Nat.log2_lt (by omega)).mpr (by omega)
    have e1 : nk_w (32 - (31 - (k.log2 : Int))) = ((k.log2 + 1 : Nat) : Int) := by
      rw [show (32 : Int) - (31 - (k.log2 : Int)) = ((k.log2 + 1 : Nat) : Int) by omega]
      exact nk_w_id (by omega) (by omega)
    have h4 : 2 ^ (k.log2 + 1) ≤ 2 ^ 31 := Nat.pow_le_pow_right (by decide) (by omega)
    have h5 := Nat.one_le_two_pow (n := k.log2 + 1)
    have h4' : (2 : Nat) ^ 31 = 2147483648 := by decide
    rw [hk, nl_n h1 h2 h3, bd_some, e1]
    clear e1
    rw [lshl_p _ (by omega), W_id (by unfold lR; omega), c_aro hR hT hC hn (by omega), bd_some]
    unfold kUp
    rw [if_neg (by omega), Int.toNat_natCast]
theorem i32_n (y : Int32) : y.toInt = ((y.toBitVec.toNat : Nat) : Int).bmod (2 ^ 32) := by
  rw [← Int32.toInt_toBitVec, BitVec.toInt_eq_toNat_bmod]
theorem iand31 (x : Int) : nk_iand x 31 = x % 32 := by
  unfold nk_iand
  rw [i32_n, Int32.toBitVec_and, BitVec.toNat_and, Int32.toBitVec_ofInt, Int32.toBitVec_ofInt, BitVec.toNat_ofInt, show (BitVec.ofInt 32 31).toNat = 2 ^ 5 - 1 by decide, Nat.and_two_pow_sub_one_eq_mod, show (2 : Nat) ^ 5 = 32 by decide]
  have e : (((x % ((2 ^ 32 : Nat) : Int)).toNat % 32 : Nat) : Int) = x % 32 := by
    rw [show ((2 ^ 32 : Nat) : Int) = 4294967296 by decide]
    omega
  rw [e]
  exact Int.bmod_eq_of_le (by show -(2147483648 : Int) ≤ _; omega) (by show _ < (2147483648 : Int); omega)
theorem sh_3 : ∀ n : Nat, n < 32 → (Int32.ofInt (n : Int) &&& 31).toBitVec.smod 32 = BitVec.ofNat 32 n := by decide +kernel
theorem ishr_e {x : Int} (h : iR x) {k : Nat} (hk : k < 32) : nk_ishr x (k : Int) = x / ((2 ^ k : Nat) : Int) := by
  unfold nk_ishr
  unfold iR at h
  have e : (Int32.ofInt x).toInt = x := by
    rw [Int32.toInt_ofInt]
    exact Int.bmod_eq_of_le (by show -(2147483648 : Int) ≤ _; omega) (by show _ < (2147483648 : Int); omega)
  rw [← Int32.toInt_toBitVec, Int32.toBitVec_shiftRight, sh_3 k hk, BitVec.sshiftRight_eq', BitVec.toNat_ofNat, Nat.mod_eq_of_lt (by omega), BitVec.toInt_sshiftRight, Int32.toInt_toBitVec, e, Int.shiftRight_eq_div_pow]
theorem c_shifted (hR : R = 36 ∨ R = 72) (hT : thG F dn up) {S : nk_S} (hC : tC S R n F) (hn : n ≤ 3079) {a c : jR} (ha : iR2 a) (hc : iR2 c) (hl : a.1 ≤ a.2) : ja_X5_shifted R (pk a) (pk c) S = some (pk (kShr dn up a c), S) := by
  unfold ja_X5_shifted kShr
  rw [single_e hc, bd_some]
  by_cases q : c.1 = c.2
  · rw [decide_eq_true q, if_neg (show ¬ bi true = 0 by decide), if_pos q, lo_e ha, bd_some, lo_e hc, bd_some, hi_e ha, bd_some, lo_e hc, bd_some, iand31]
    have e : c.1 % 32 = (((c.1 % 32).toNat : Nat) : Int) := by omega
    have e2 : kPw c.1 = ((2 ^ (c.1 % 32).toNat : Nat) : Int) := rfl
    rw [e, ishr_e ha.1 (by omega), ishr_e ha.2 (by omega), ← e2, c_aro hR hT hC hn (kShr_n hl), bd_some]
  · rw [decide_eq_false q, if_pos (show bi false = 0 from rfl), if_neg q, lo_e ha, bd_some, mnI, bd_some, hi_e ha, bd_some, mxI, bd_some, c_aro hR hT hC hn (by omega), bd_some]
theorem ldiv_e {x y : Int} (hx : iR x) (hy : iR y) : nk_ldiv x y = x.tdiv y := by
  unfold iR at hx hy
  unfold nk_ldiv
  rw [Int64.toInt_div, lI (by unfold lR; omega), lI (by unfold lR; omega)]
  have b : -2147483648 ≤ x.tdiv y ∧ x.tdiv y ≤ 2147483648 := by
    have h1 : (x.tdiv y).natAbs = x.natAbs / y.natAbs := Int.natAbs_tdiv x y
    have h2 : x.natAbs / y.natAbs ≤ x.natAbs := Nat.div_le_self _ _
    have h3 : x.natAbs ≤ 2147483648 := by omega
    rw [← h1] at h2
    generalize x.tdiv y = t at *
    omega
  exact bm_id (by unfold lR; omega)
theorem kPw_b (x : Int) : 1 ≤ kPw x ∧ kPw x ≤ 2147483648 := by
  refine ⟨kPw_1 x, ?_⟩
  have h4 : 2 ^ (x % 32).toNat ≤ 2 ^ 31 := Nat.pow_le_pow_right (by decide) (by omega)
  exact Int.ofNat_le.mpr h4
def qS (o : Option jR) : jR := match o with
  | none => (9223372036854775807, -9223372036854775808)
  | some r => r
def qB (o : Option jR) : Prop := ∀ r, o = some r → -2147483648 ≤ r.1 ∧ r.1 ≤ r.2 ∧ r.2 ≤ 2147483648
theorem c_quoStep {a c : jR} (ha : iR2 a) (hc : iR2 c) {d : Int} (hd : iR d) {o : Option jR} (ho : qB o) {rec13 : Nat → Int → Int → Int → Int → Int → nk_S → Option (Int × nk_S)} {k : Nat} (hk : k < 10) (S : nk_S) : ja_X5_quotient_b59 rec13 R (pk a) (pk c) (qS o).1 (qS o).2 (k : Int) d S = rec13 R (pk a) (pk c) (qS (kQ a c d o)).1 (qS (kQ a c d o)).2 ((k + 1 : Nat) : Int) S ∧ qB (kQ a c d o) := by
  unfold ja_X5_quotient_b59 kQ
  rw [w_nat1 (by omega)]
  by_cases c0 : d = 0
  · rw [if_pos c0, if_pos (Or.inl c0), lt_eq]; exact ⟨rfl, ho⟩
  rw [if_neg c0, lo_e hc, bd_some]
  by_cases c1 : d < c.1
  · rw [if_pos c1, if_pos (Or.inr (Or.inl c1)), lt_eq]; exact ⟨rfl, ho⟩
  rw [if_neg c1, hi_e hc, bd_some]
  by_cases c2 : c.2 < d
  · rw [if_pos c2, if_pos (Or.inr (Or.inr c2)), lt_eq]; exact ⟨rfl, ho⟩
  rw [if_neg c2, if_neg (by omega), lo_e ha, bd_some, if_pos c0, lt_eq, hi_e ha, bd_some, if_pos c0, lt_eq, ldiv_e ha.1 hd, ldiv_e ha.2 hd, mnL', bd_some, mnL', bd_some, mxL, bd_some, mxL, bd_some, lt_eq]
  have bnd : ∀ x : Int, iR x → -2147483648 ≤ x.tdiv d ∧ x.tdiv d ≤ 2147483648 := by
    intro x hx
    unfold iR at hx
    have h1 : (x.tdiv d).natAbs = x.natAbs / d.natAbs := Int.natAbs_tdiv x d
    have h2 : x.natAbs / d.natAbs ≤ x.natAbs := Nat.div_le_self _ _
    have h3 : x.natAbs ≤ 2147483648 := by omega
    rw [← h1] at h2
    clear h1
    generalize x.tdiv d = t at *
    omega
  have q1 := bnd a.1 ha.1
  have q2 := bnd a.2 ha.2
  cases o with
  | none =>
    unfold qS
    dsimp only
    rw [Int.min_eq_right (by omega), Int.max_eq_right (by omega)]
    refine ⟨rfl, fun r hr => ?_⟩
    cases hr
    dsimp only
    omega
  | some r =>
    refine ⟨rfl, fun r' hr => ?_⟩
    cases hr
    have := ho r rfl
    dsimp only
    omega
theorem c_quotient (hR : R = 36 ∨ R = 72) (hT : thG F dn up) {S : nk_S} (hC : tC S R n F) (hn : n ≤ 3079) {a c : jR} (ha : iR2 a) (hc : iR2 c) : ja_X5_quotient R (pk a) (pk c) S = some (kPk (match kQs a c with
  | none => none
  | some r => some (rAr dn up r.1 r.2)), S) := by
  obtain ⟨bm, hbm⟩ := big_ge 10 (by decide)
  have hb0 : qB none := fun r hr => by cases hr
  unfold ja_X5_quotient
  rw [hbm]
  show ja_X5_quotient_b13 (ja_X5_quotient_L13 (bm + 9)) R (pk a) (pk c) (qS none).1 (qS none).2 ((0 : Nat) : Int) S = _
  unfold ja_X5_quotient_b13
  rw [if_neg (by decide), if_pos (by decide)]
  obtain ⟨s1, b1⟩ := c_quoStep (R := R) ha hc (d := -1) (by unfold iR; omega) hb0 (rec13 := ja_X5_quotient_L13 (bm + 9)) (k := 0) (by decide) S
  rw [s1]
  show ja_X5_quotient_b13 (ja_X5_quotient_L13 (bm + 8)) R (pk a) (pk c) _ _ ((1 : Nat) : Int) S = _
  unfold ja_X5_quotient_b13
  rw [if_neg (by decide), if_neg (by decide), if_pos (by decide)]
  obtain ⟨s2, b2⟩ := c_quoStep (R := R) ha hc (d := 1) (by unfold iR; omega) b1 (rec13 := ja_X5_quotient_L13 (bm + 8)) (k := 1) (by decide) S
  rw [s2]
  show ja_X5_quotient_b13 (ja_X5_quotient_L13 (bm + 7)) R (pk a) (pk c) _ _ ((2 : Nat) : Int) S = _
  unfold ja_X5_quotient_b13
  rw [if_neg (by decide), if_neg (by decide), if_neg (by decide), if_pos (by decide), lo_e hc, bd_some]
  obtain ⟨s3, b3⟩ := c_quoStep (R := R) ha hc (d := c.1) hc.1 b2 (rec13 := ja_X5_quotient_L13 (bm + 7)) (k := 2) (by decide) S
  rw [s3]
  show ja_X5_quotient_b13 (ja_X5_quotient_L13 (bm + 6)) R (pk a) (pk c) _ _ ((3 : Nat) : Int) S = _
  unfold ja_X5_quotient_b13
  rw [if_neg (by decide), if_neg (by decide), if_neg (by decide), if_neg (by decide), hi_e hc, bd_some]
  obtain ⟨s4, b4⟩ := c_quoStep (R := R) ha hc (d := c.2) hc.2 b3 (rec13 := ja_X5_quotient_L13 (bm + 6)) (k := 3) (by decide) S
  rw [s4]
  show ja_X5_quotient_b13 (ja_X5_quotient_L13 (bm + 5)) R (pk a) (pk c) (qS (kQs a c)).1 (qS (kQs a c)).2 ((4 : Nat) : Int) S = _
  have b4' : qB (kQs a c) := b4
  unfold ja_X5_quotient_b13
  rw [if_pos (by decide)]
  cases hq : kQs a c with
  | none =>
    unfold qS
    dsimp only
    rw [if_neg (by decide)]
    rfl
  | some r =>
    have := b4' r hq
    unfold qS
    dsimp only
    rw [if_pos (by omega), c_aro hR hT hC hn (by omega), bd_some]
    rfl
/-- what a calculation gives -/
theorem c_calc (hR : R = 36 ∨ R = 72) (hT : thG F dn up) {S : nk_S} (hC : tC S R n F) (hn : n ≤ 3079) {a c : jR} (ha : iR2 a) (hc : iR2 c) (hl : a.1 ≤ a.2) (hm : c.1 ≤ c.2) {op : Nat} (hop : 8 ≤ op ∧ op ≤ 17) : ja_X5_calculate R (op : Int) (pk a) (pk c) S = some (kPk (kCalc dn up op a c), S) := by
  have ha' := ha
  have hc' := hc
  unfold iR2 iR at ha' hc'
  unfold ja_X5_calculate kCalc
  by_cases c8 : op = 8
  · rw [if_pos (by omega), if_pos c8, lo_e ha, bd_some, lo_e hc, bd_some, hi_e ha, bd_some, hi_e hc, bd_some, W_id (by unfold lR; omega), W_id (by unfold lR; omega), c_aro hR hT hC hn (by omega), bd_some]; rfl
  rw [if_neg (by omega), if_neg c8]
  by_cases c9 : op = 9
  · rw [if_pos (by omega), if_pos c9, lo_e ha, bd_some, hi_e hc, bd_some, hi_e ha, bd_some, lo_e hc, bd_some, W_id (by unfold lR; omega), W_id (by unfold lR; omega), c_aro hR hT hC hn (by omega), bd_some]; rfl
  rw [if_neg (by omega), if_neg c9]
  by_cases c10 : op = 10
  · rw [if_pos (by omega), if_pos c10, lo_e hc, bd_some, hi_e hc, bd_some, c_product hR hT hC hn ha (by omega) (by omega), bd_some]; rfl
  rw [if_neg (by omega), if_neg c10]
  by_cases c11 : op = 11
  · rw [if_pos (by omega), if_pos c11, c_quotient hR hT hC hn ha hc, bd_some]; rfl
  rw [if_neg (by omega), if_neg c11]
  by_cases c12 : op = 12
  · rw [if_pos (by omega), if_pos c12, c_remainder hR hT hC hn ha hc hl, bd_some]
  rw [if_neg (by omega), if_neg c12]
  by_cases c13 : op = 13
  · rw [if_pos (by omega), if_pos c13, c_conj hR hT hC hn ha hc hl hm, bd_some]; rfl
  rw [if_neg (by omega), if_neg c13]
  have e152 : ja_X5_calculate_b152 R (pk a) (pk c) S = some (kPk (some (kOr dn up a c)), S) := by
    unfold ja_X5_calculate_b152
    rw [c_disj hR hT hC hn ha hc hl hm, bd_some]; rfl
  by_cases c14 : op = 14
  · rw [if_pos (by omega), if_pos (by omega)]; exact e152
  rw [if_neg (by omega)]
  by_cases c15 : op = 15
  · rw [if_pos (by omega), if_pos (by omega)]; exact e152
  rw [if_neg (show ¬ (op : Int) = 15 by omega), if_neg (show ¬ (op = 14 ∨ op = 15) by omega)]
  by_cases c16 : op = 16
  · rw [if_pos (show (op : Int) = 16 by omega), if_pos c16, single_e hc, bd_some]
    unfold kShl
    by_cases q : c.1 = c.2
    · have e : c.1 % 32 = (((c.1 % 32).toNat : Nat) : Int) := by omega
      have e2 : kPw c.1 = ((2 ^ (c.1 % 32).toNat : Nat) : Int) := rfl
      have h4 := kPw_b c.1
      rw [decide_eq_true q, if_neg (show ¬ bi true = 0 by decide), if_pos q, lo_e hc, bd_some, lo_e hc, bd_some, iand31, e, lshl_p _ (by omega), ← e2, c_product hR hT hC hn ha ⟨by omega, h4.2⟩ ⟨by omega, h4.2⟩, bd_some]; rfl
    · rw [decide_eq_false q, if_pos (show bi false = 0 from rfl), if_neg q, rAll_pk]; rfl
  rw [if_neg (show ¬ (op : Int) = 16 by omega), if_neg c16, c_shifted hR hT hC hn ha hc hl, bd_some]; rfl
end CRG
