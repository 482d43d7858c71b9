/-! The reference calculates. -/
theorem land31 (x : Int) : nk_land x 31 = x % 32 := by
  rw [land_n, show uN 31 = 2 ^ 5 - 1 by decide, Nat.and_two_pow_sub_one_eq_mod, show (2 : Nat) ^ 5 = 32 by decide]
  have e : ((uN x % 32 : Nat) : Int) = x % 32 := by unfold uN; omega
  rw [e, bm_id (by unfold lR; omega)]
theorem lshr_e {x : Int} (h : lR x) {k : Nat} (hk : k < 32) : nk_lshr x (k : Int) = x / ((2 ^ k : Nat) : Int) := by
  unfold nk_lshr
  rw [← Int64.toInt_toBitVec, Int64.toBitVec_shiftRight, sh_n k (by omega), BitVec.sshiftRight_eq', BitVec.toNat_ofNat, Nat.mod_eq_of_lt (by omega), BitVec.toInt_sshiftRight, Int64.toInt_toBitVec, lI h, Int.shiftRight_eq_div_pow]
/-- the working row, its height and what is raised -/
def nFr (S S' : nk_S) : Prop := S'.2 = S.2 ∧ (∀ a, a < 229 ∨ 237 < a → a ≠ 121 → S'.1 a = S.1 a) ∧ ∀ f, f ≠ 25 → f ≠ 39 → f ≠ 40 → S'.1 121 f = S.1 121 f
theorem nFr_rfl {S : nk_S} : nFr S S := ⟨rfl, fun _ _ _ => rfl, fun _ _ _ _ => rfl⟩
theorem nFr_trans {S1 S2 S3 : nk_S} (h : nFr S1 S2) (q : nFr S2 S3) : nFr S1 S3 := ⟨q.1.trans h.1, fun a r x => (q.2.1 a r x).trans (h.2.1 a r x), fun f r x y => (q.2.2 f r x y).trans (h.2.2 f r x y)⟩
theorem nFr_u {S S' : nk_S} (h : uFr S S') : nFr S S' := ⟨h.1, h.2.1, fun f h1 _ _ => h.2.2 f h1⟩
/-- no more is raised, nothing thrown -/
def nRz (S S' : nk_S) : Prop := S'.1 121 39 = S.1 121 39 ∧ S'.1 121 40 = S.1 121 40
theorem nRz_u {S S' : nk_S} (h : uFr S S') : nRz S S' := ⟨h.2.2 39 (by decide), h.2.2 40 (by decide)⟩
section RNU
variable {F : Int → Prop} {dn up : Int → Int} {S : nk_S} {P n : Nat}
theorem rAr_all (hT : thG F dn up) : rAr dn up (-2147483648) 2147483647 = rAll := by
  obtain ⟨t1, t2, t3, t4, t5, t6, t7, t8⟩ := id hT
  unfold rAr rAll
  rw [if_neg (by omega), (dnF_s hT t2).1, (dnF_s hT t6).2]
/-- a range is left where the row ends -/
theorem r_lv (hP : P = 122 ∨ P = 168) (hT : thG F dn up) (ht : rTn S P n F) (hn : n ≤ 3079) {t : Nat} (h24 : t < 24) {u : jQ} (hr : rRw S t u) {l h : Int} (hlh : l ≤ h) : ∃ S', ja_X13_leaveRange 121 P l h S = some (0, S') ∧ uFr S S' ∧ rRw S' (t + 1) (qUp u t (wR (rAr dn up l h))) := r_leaveR hP hT ht hn h24 hr (by omega) (by omega)
theorem r_product (hP : P = 122 ∨ P = 168) (hT : thG F dn up) (ht : rTn S P n F) (hn : n ≤ 3079) {t : Nat} (h24 : t < 24) {u : jQ} (hr : rRw S t u) {a : jR} (ha : iR2 a) {l h : Int} (hl : -2147483648 ≤ l ∧ l ≤ 2147483648) (hh : -2147483648 ≤ h ∧ h ≤ 2147483648) : ∃ S', ja_X13_product 121 P a.1 a.2 l h S = some (0, S') ∧ uFr S S' ∧ rRw S' (t + 1) (qUp u t (wR (kMul dn up a l h))) := by
  obtain ⟨S', s1, s2⟩ := r_lv hP hT ht hn h24 hr (mn_mx a.1 l h a.2)
  refine ⟨S', ?_, s2⟩
  unfold ja_X13_product
  simp only [bd_some, W_id (prod_b ha.1 hl), W_id (prod_b ha.1 hh), W_id (prod_b ha.2 hl), W_id (prod_b ha.2 hh), mnL', mxL]
  unfold mn4 mx4 at s1
  rw [s1, bd_some]
def q3A (o : Option jR) : Int := match o with
  | none => 0
  | some _ => 1
def q3L (o : Option jR) : Int := match o with
  | none => 0
  | some r => r.1
def q3H (o : Option jR) : Int := match o with
  | none => 0
  | some r => r.2
theorem r_quoStep {a c : jR} (ha : iR2 a) {d : Int} (hd : iR d) (o : Option jR) {rc : Nat → Nat → Int → Int → Int → Int → Int → Int → Int → Int → nk_S → Option (Int × nk_S)} {k : Nat} (hk : k < 10) : ja_X13_quotient_b52 rc 121 P a.1 a.2 c.1 c.2 (q3A o) (q3L o) (q3H o) (k : Int) d S = rc 121 P a.1 a.2 c.1 c.2 (q3A (kQ a c d o)) (q3L (kQ a c d o)) (q3H (kQ a c d o)) ((k + 1 : Nat) : Int) S := by
  unfold ja_X13_quotient_b52 kQ
  rw [w_nat1 (by omega)]
  by_cases c0 : d = 0
  · rw [if_pos c0, if_pos (Or.inl c0), lt_eq]
  rw [if_neg c0]
  by_cases c1 : d < c.1
  · rw [if_pos c1, if_pos (Or.inr (Or.inl c1)), lt_eq]
  rw [if_neg c1]
  by_cases c2 : c.2 < d
  · rw [if_neg (by omega), if_pos (Or.inr (Or.inr c2)), lt_eq]
  rw [if_pos (show d ≤ c.2 by omega), if_neg (show ¬ (d = 0 ∨ d < c.1 ∨ c.2 < d) by omega), if_pos c0, lt_eq, if_pos c0, lt_eq, ldiv_e ha.1 hd, ldiv_e ha.2 hd]
  unfold ja_X13_quotient_b120 ja_X13_quotient_b149
  cases o with
  | none =>
    rw [if_pos (show q3A none = 0 from rfl), mnL', bd_some, if_pos (show q3A none = 0 from rfl), mxL, bd_some, w_nat1 (by omega), lt_eq]
    rfl
  | some r =>
    rw [if_neg (show ¬ q3A (some r) = 0 from (by show ¬ (1 : Int) = 0; decide)), mnL', bd_some, mnL', bd_some, if_neg (show ¬ q3A (some r) = 0 from (by show ¬ (1 : Int) = 0; decide)), mxL, bd_some, mxL, bd_some, w_nat1 (by omega), lt_eq]
    rfl
theorem kQ_b {a c : jR} (ha : iR2 a) {d : Int} {o : Option jR} (ho : qB o) : qB (kQ a c d o) := by
  have bnd : d ≠ 0 → ∀ x : Int, iR x → -2147483648 ≤ x.tdiv d ∧ x.tdiv d ≤ 2147483648 := by
    intro _ x hx
    unfold iR at hx
    have h1 : (x.tdiv d).natAbs = x.natAbs / d.natAbs := Int.natAbs_tdiv x d
    have h2 : x.natAbs / d.natAbs ≤ x.natAbs := Nat.div_le_self _ _
    have h3 : x.natAbs ≤ 2147483648 := by omega
    rw [← h1] at h2
    clear h1
    generalize x.tdiv d = t at *
    omega
  intro r hr
  unfold kQ at hr
  by_cases c0 : d = 0 ∨ d < c.1 ∨ c.2 < d
  · rw [if_pos c0] at hr; exact ho r hr
  rw [if_neg c0] at hr
  have q1 := bnd (by omega) a.1 ha.1
  have q2 := bnd (by omega) a.2 ha.2
  cases o with
  | none =>
    cases hr
    dsimp only
    omega
  | some r0 =>
    cases hr
    have := ho r0 rfl
    dsimp only
    omega
/-- division by zero is raised -/
def rz8 (c : jR) (S : nk_S) : nk_S := if c.1 ≤ 0 ∧ 0 ≤ c.2 then nk_wi S 121 39 (nk_ior (S.1 121 39) 8) else S
theorem r_zero {c : jR} : ja_X13_raisedByZero 121 c.1 c.2 S = some (0, rz8 c S) := by
  unfold ja_X13_raisedByZero rz8
  by_cases c1 : 0 < c.1
  · rw [if_pos c1, if_neg (by omega)]
  rw [if_neg c1]
  by_cases c2 : c.2 < 0
  · rw [if_pos c2, if_neg (by omega)]
  rw [if_neg c2, if_pos (by omega), lt_eq]
theorem rz8_f {c : jR} : nFr S (rz8 c S) ∧ (rz8 c S).1 121 39 = (if c.1 ≤ 0 ∧ 0 ≤ c.2 then nk_ior (S.1 121 39) 8 else S.1 121 39) ∧ (rz8 c S).1 121 40 = S.1 121 40 ∧ (∀ {t : Nat} {u : jQ}, rRw S t u → rRw (rz8 c S) t u) := by
  unfold rz8
  by_cases c1 : c.1 ≤ 0 ∧ 0 ≤ c.2
  · rw [if_pos c1, if_pos c1]
    exact ⟨⟨rfl, fun a _ h => wi_n h, fun f _ h _ => by rw [wi_at, if_neg h]⟩, by rw [wi_at, if_pos rfl], by rw [wi_at, if_neg (by decide)], fun {t u} hr => ⟨by rw [wi_at, if_neg (by decide)]; exact hr.1, fun k hk => rSo_c (fun q hq => by rw [wi_n (by unfold rWk; omega)]) (hr.2 k hk)⟩⟩
  · rw [if_neg c1, if_neg c1]
    exact ⟨nFr_rfl, rfl, rfl, fun hr => hr⟩
theorem r_quotient (hP : P = 122 ∨ P = 168) (hT : thG F dn up) (ht : rTn S P n F) (hn : n ≤ 3079) {t : Nat} (h24 : t < 24) {u : jQ} (hr : rRw S t u) {a c : jR} (ha : iR2 a) (hc : iR2 c) : ∃ S', ja_X13_quotient 121 P a.1 a.2 c.1 c.2 S = some (bi (match kQs a c with
  | none => none
  | some r => some (rAr dn up r.1 r.2) : Option jR).isSome, S') ∧ uFr (rz8 c S) S' ∧ ∀ r, (match kQs a c with
  | none => none
  | some r => some (rAr dn up r.1 r.2) : Option jR) = some r → rRw S' (t + 1) (qUp u t (wR r)) := by
  obtain ⟨bm, hbm⟩ := big_ge 10 (by decide)
  have b4 : qB (kQs a c) := kQ_b ha (kQ_b ha (kQ_b ha (kQ_b ha (fun r hr => by cases hr))))
  unfold ja_X13_quotient
  rw [hbm]
  have e : ja_X13_quotient_L12 (bm + 10) 121 P a.1 a.2 c.1 c.2 0 0 0 0 S = ja_X13_quotient_L12 (bm + 6) 121 P a.1 a.2 c.1 c.2 (q3A (kQs a c)) (q3L (kQs a c)) (q3H (kQs a c)) ((4 : Nat) : Int) S := by
    show ja_X13_quotient_b12 (ja_X13_quotient_L12 (bm + 9)) 121 P a.1 a.2 c.1 c.2 (q3A none) (q3L none) (q3H none) ((0 : Nat) : Int) S = _
    unfold ja_X13_quotient_b12
    rw [if_neg (by decide), if_pos (by decide), r_quoStep ha (by unfold iR; omega) none (k := 0) (by decide)]
    show ja_X13_quotient_b12 (ja_X13_quotient_L12 (bm + 8)) 121 P a.1 a.2 c.1 c.2 _ _ _ ((1 : Nat) : Int) S = _
    unfold ja_X13_quotient_b12
    rw [if_neg (by decide), if_neg (by decide), if_pos (by decide), r_quoStep ha (by unfold iR; omega) _ (k := 1) (by decide)]
    show ja_X13_quotient_b12 (ja_X13_quotient_L12 (bm + 7)) 121 P a.1 a.2 c.1 c.2 _ _ _ ((2 : Nat) : Int) S = _
    unfold ja_X13_quotient_b12
    rw [if_neg (by decide), if_neg (by decide), if_neg (by decide), if_pos (by decide), r_quoStep ha hc.1 _ (k := 2) (by decide)]
    show ja_X13_quotient_b12 (ja_X13_quotient_L12 (bm + 6)) 121 P a.1 a.2 c.1 c.2 _ _ _ ((3 : Nat) : Int) S = _
    unfold ja_X13_quotient_b12
    rw [if_neg (by decide), if_neg (by decide), if_neg (by decide), if_neg (by decide), r_quoStep ha hc.2 _ (k := 3) (by decide)]
    rfl
  rw [e]
  show ∃ S', ja_X13_quotient_b12 (ja_X13_quotient_L12 (bm + 5)) 121 P a.1 a.2 c.1 c.2 _ _ _ ((4 : Nat) : Int) S = _ ∧ _
  unfold ja_X13_quotient_b12
  rw [if_pos (by decide), r_zero, bd_some]
  cases hq : kQs a c with
  | none =>
    rw [if_pos (show q3A none = 0 from rfl), if_pos (show q3A none = 0 ∨ q3A none = 1 from Or.inl rfl)]
    exact ⟨_, rfl, uFr_rfl, fun r h => by cases h⟩
  | some r =>
    have := b4 r hq
    obtain ⟨f1, f2, f3, f4⟩ := rz8_f (S := S) (c := c)
    obtain ⟨S', s1, s2, s3⟩ := r_lv hP hT (rTn_c (fun a h1 h2 => f1.2.1 a (by omega) h2) hP ht) hn h24 (f4 hr) (show r.1 ≤ r.2 by omega)
    rw [if_neg (show ¬ q3A (some r) = 0 from (by show ¬ (1 : Int) = 0; decide)), show q3L (some r) = r.1 from rfl, show q3H (some r) = r.2 from rfl, s1, bd_some, if_pos (show q3A (some r) = 0 ∨ q3A (some r) = 1 from Or.inr rfl)]
    exact ⟨S', rfl, s2, fun q h => by cases h; exact s3⟩
theorem r_rest (hP : P = 122 ∨ P = 168) (hT : thG F dn up) (ht : rTn S P n F) (hn : n ≤ 3079) {t : Nat} (h24 : t < 24) {u : jQ} (hr : rRw S t u) {a c : jR} (ha : iR2 a) (hc : iR2 c) (hl : a.1 ≤ a.2) (hlc : c.1 ≤ c.2) : ∃ S', ja_X13_rest 121 P a.1 a.2 c.1 c.2 S = some (bi (kRem dn up a c).isSome, S') ∧ uFr (rz8 c S) S' ∧ ∀ r, kRem dn up a c = some r → rRw S' (t + 1) (qUp u t (wR r)) := by
  have ha' := ha
  have hc' := hc
  unfold iR2 iR at ha' hc'
  obtain ⟨f1, f2, f3, f4⟩ := rz8_f (S := S) (c := c)
  have htz := rTn_c (fun a h1 h2 => f1.2.1 a (by omega) h2) hP ht
  have ea : ∀ x : Int, -2147483648 ≤ x → x ≤ 2147483647 → (if 0 ≤ x then x else nk_W (-x)) = kAbs x := fun x h1 h2 => by
    unfold kAbs
    by_cases q : 0 ≤ x
    · rw [if_pos q, Int.max_eq_left (by omega)]
    · rw [if_neg q, W_id (by unfold lR; omega), Int.max_eq_right (by omega)]
  have b24 : ja_X13_rest_b24 121 P a.1 a.2 c.1 c.2 (rz8 c S) = ja_X13_rest_b54 121 P a.1 a.2 (kAbs c.1) (kAbs c.2) (rz8 c S) := by
    unfold ja_X13_rest_b24 ja_X13_rest_b39
    rw [← ea c.1 (by omega) (by omega), ← ea c.2 (by omega) (by omega)]
    by_cases q1 : 0 ≤ c.1
    · rw [if_pos q1, if_pos q1]
      by_cases q2 : 0 ≤ c.2
      · rw [if_pos q2, if_pos q2]
      · rw [if_neg q2, if_neg q2]
    · rw [if_neg q1, if_neg q1]
      by_cases q2 : 0 ≤ c.2
      · rw [if_pos q2, if_pos q2]
      · rw [if_neg q2, if_neg q2]
  have hb : 0 ≤ max (kAbs c.1) (kAbs c.2) ∧ max (kAbs c.1) (kAbs c.2) ≤ 2147483648 := by unfold kAbs; omega
  have hz : max (kAbs c.1) (kAbs c.2) - 1 < 0 ↔ c.1 = 0 ∧ c.2 = 0 := by unfold kAbs; omega
  have main : ¬ (c.1 = 0 ∧ c.2 = 0) → ∃ S', ja_X13_rest_b24 121 P a.1 a.2 c.1 c.2 (rz8 c S) = some (bi (kRem dn up a c).isSome, S') ∧ uFr (rz8 c S) S' ∧ ∀ r, kRem dn up a c = some r → rRw S' (t + 1) (qUp u t (wR r)) := fun hne => by
    rw [b24]
    unfold ja_X13_rest_b54 kRem
    rw [mxL, bd_some, if_neg (fun q => hne (hz.mp q))]
    have hz' : ¬ max (kAbs c.1) (kAbs c.2) - 1 < 0 := fun q => hne (hz.mp q)
    clear b24 hz
    generalize max (kAbs c.1) (kAbs c.2) = m at *
    rw [lt_eq, W_id (x := m - 1) (by unfold lR; omega)]
    by_cases d2 : 0 ≤ a.1
    · obtain ⟨S', s1, s2, s3⟩ := r_lv hP hT htz hn h24 (f4 hr) (show (0 : Int) ≤ min a.2 (m - 1) by omega)
      rw [if_neg (by omega), if_pos d2, mnL', bd_some, s1, bd_some]
      exact ⟨S', rfl, s2, fun r h => by cases h; exact s3⟩
    · rw [if_pos (by omega), if_neg d2, W_id (by unfold lR; omega), mxL, bd_some]
      unfold ja_X13_rest_b110
      by_cases d3 : a.2 ≤ 0
      · obtain ⟨S', s1, s2, s3⟩ := r_lv hP hT htz hn h24 (f4 hr) (show max a.1 (-(m - 1)) ≤ 0 by omega)
        rw [if_neg (by omega), if_pos d3, s1, bd_some]
        exact ⟨S', rfl, s2, fun r h => by cases h; exact s3⟩
      · obtain ⟨S', s1, s2, s3⟩ := r_lv hP hT htz hn h24 (f4 hr) (show max a.1 (-(m - 1)) ≤ min a.2 (m - 1) by omega)
        rw [if_pos (by omega), if_neg d3, mnL', bd_some, s1, bd_some]
        exact ⟨S', rfl, s2, fun r h => by cases h; exact s3⟩
  unfold ja_X13_rest
  rw [r_zero, bd_some]
  by_cases q1 : c.1 = 0
  · rw [if_pos q1]
    by_cases q2 : c.2 = 0
    · rw [if_pos q2]
      have : kRem dn up a c = none := by unfold kRem; rw [if_pos (hz.mpr ⟨q1, q2⟩)]
      rw [this]
      exact ⟨_, rfl, uFr_rfl, fun r h => by cases h⟩
    · rw [if_neg q2]; exact main (fun q => q2 q.2)
  · rw [if_neg q1]; exact main (fun q => q1 q.1)
/-- the least 2^k - 1 that is not below -/
theorem r_orL {a c : jR} (ha : iR2 a) (hc : iR2 c) : ∀ (d k m : Nat), k + d = 31 → d < m → (k = 0 ∨ ((2 ^ (k - 1) : Nat) : Int) - 1 < max a.2 c.2) → ja_X13_numbers_L312 m 121 P a.1 a.2 c.1 c.2 (((2 ^ k : Nat) : Int) - 1) S = if a.1 < 0 then ja_X13_numbers_b365 121 P S else if c.1 < 0 then ja_X13_numbers_b365 121 P S else nk_bd (ja_X13_leaveRange 121 P 0 (kUp (max a.2 c.2)) S) fun _ S2 => some (1, S2) := by
  have ha' := ha
  have hc' := hc
  unfold iR2 iR at ha' hc'
  intro d
  induction d with
  | zero =>
    intro k m h1 h2 h3
    obtain ⟨m, rfl⟩ : ∃ q, m = q + 1 := ⟨m - 1, by omega⟩
    obtain rfl : k = 31 := by omega
    show ja_X13_numbers_b312 _ 121 P a.1 a.2 c.1 c.2 _ S = _
    unfold ja_X13_numbers_b312
    have e31 : ((2 ^ 31 : Nat) : Int) - 1 = 2147483647 := by decide
    have e30 : ((2 ^ (31 - 1) : Nat) : Int) - 1 = 1073741823 := by decide
    rw [e30] at h3
    rw [e31, if_neg (by omega), if_pos (by omega)]
    have hu : kUp (max a.2 c.2) = 2147483647 := by
      unfold kUp
      rw [if_neg (by omega)]
      have : (max a.2 c.2).toNat.log2 = 30 := by
        have l1 : (max a.2 c.2).toNat ≠ 0 := by omega
        rw [Nat.log2_eq_iff l1]
        have : (2 : Nat) ^ 30 = 1073741824 := by decide
        have : (2 : Nat) ^ (30 + 1) = 2147483648 := by decide
        omega
      rw [this]
      decide
    rw [hu]
  | succ d ih =>
    intro k m h1 h2 h3
    obtain ⟨m, rfl⟩ : ∃ q, m = q + 1 := ⟨m - 1, by omega⟩
    have p1 := Nat.one_le_two_pow (n := k)
    have p2 : (2 : Nat) ^ (k + 1) = 2 * 2 ^ k := by rw [Nat.pow_succ]; omega
    have p3 : 2 ^ k ≤ 2 ^ 30 := Nat.pow_le_pow_right (by decide) (by omega)
    have p4 : (2 : Nat) ^ 30 = 1073741824 := by decide
    show ja_X13_numbers_b312 (ja_X13_numbers_L312 m) 121 P a.1 a.2 c.1 c.2 _ S = _
    unfold ja_X13_numbers_b312
    by_cases hq : max a.2 c.2 ≤ ((2 ^ k : Nat) : Int) - 1
    · have hu : kUp (max a.2 c.2) = ((2 ^ k : Nat) : Int) - 1 := by
        unfold kUp
        by_cases hm : max a.2 c.2 ≤ 0
        · rw [if_pos hm]
          rcases h3 with q | q
          · rw [q]; decide
          · have := Nat.one_le_two_pow (n := k - 1)
            omega
        · rw [if_neg hm]
          rcases h3 with q | q
          · rw [q] at hq
            have : (((2 : Nat) ^ 0 : Nat) : Int) - 1 = 0 := by decide
            omega
          · by_cases hk : k = 0
            · rw [hk] at hq
              have : (((2 : Nat) ^ 0 : Nat) : Int) - 1 = 0 := by decide
              omega
            · have l1 : (max a.2 c.2).toNat ≠ 0 := by omega
              have e : k - 1 + 1 = k := by omega
              have : (max a.2 c.2).toNat.log2 = k - 1 := by
                rw [Nat.log2_eq_iff l1, e]
                omega
              rw [this, e]
      rw [if_neg (by omega), if_pos (by omega), hu]
    · have rc : ja_X13_numbers_b328 (ja_X13_numbers_L312 m) 121 P a.1 a.2 c.1 c.2 (((2 ^ k : Nat) : Int) - 1) S = if a.1 < 0 then ja_X13_numbers_b365 121 P S else if c.1 < 0 then ja_X13_numbers_b365 121 P S else nk_bd (ja_X13_leaveRange 121 P 0 (kUp (max a.2 c.2)) S) fun _ S2 => some (1, S2) := by
        unfold ja_X13_numbers_b328
        rw [W_id (x := 2 * (((2 ^ k : Nat) : Int) - 1)) (by unfold lR; omega), W_id (x := 2 * (((2 ^ k : Nat) : Int) - 1) + 1) (by unfold lR; omega), lt_eq, show 2 * (((2 ^ k : Nat) : Int) - 1) + 1 = ((2 ^ (k + 1) : Nat) : Int) - 1 by omega]
        exact ih (k + 1) m (by omega) (by omega) (Or.inr (by rw [show k + 1 - 1 = k by omega]; omega))
      by_cases q1 : ((2 ^ k : Nat) : Int) - 1 < a.2
      · rw [if_pos q1]; exact rc
      · rw [if_neg q1, if_neg (by omega)]; exact rc
end RNU
