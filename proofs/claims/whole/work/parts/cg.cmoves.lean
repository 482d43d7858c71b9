/-! The class moves and calculates. -/
/-- the bits of an int -/
def cI (x : Int) (s : Nat → Bool) : Prop := iR x ∧ ∀ j, j < 32 → ib x j = s j
theorem ib_or (x y : Int) (j : Nat) : ib (nk_ior x y) j = (ib x j || ib y j) := by
  unfold ib nk_ior
  rw [Int32.ofInt_toInt, Int32.toBitVec_or, BitVec.getLsbD_or]
theorem iR_or (x y : Int) : iR (nk_ior x y) := by
  unfold nk_ior iR
  have h1 := Int32.minValue_le_toInt (Int32.ofInt x ||| Int32.ofInt y)
  have h2 := Int32.toInt_le (Int32.ofInt x ||| Int32.ofInt y)
  have e1 : Int32.minValue.toInt = -2147483648 := by decide
  have e2 : Int32.maxValue.toInt = 2147483647 := by decide
  omega
theorem cI_or {x y : Int} {s t : Nat → Bool} (h : cI x s) (k : cI y t) : cI (nk_ior x y) (sOr s t) := ⟨iR_or _ _, fun j hj => by rw [ib_or, h.2 j hj, k.2 j hj]; rfl⟩
theorem ib_shl : ∀ e : Nat, e < 10 → ∀ j, j < 32 → ib (nk_ishl 1 (e : Int)) j = decide (j = e) := by decide +kernel
theorem iR_shl : ∀ e : Nat, e < 10 → -2147483648 ≤ nk_ishl 1 (e : Int) ∧ nk_ishl 1 (e : Int) ≤ 2147483647 := by decide +kernel
theorem cI_on {e : Nat} (he : e < 10) : cI (nk_ishl 1 (e : Int)) (onS e) := ⟨iR_shl e he, fun j hj => ib_shl e he j hj⟩
/-- what may change while an instruction is looked at -/
def eFr (S S' : nk_S) : Prop := S'.2 = S.2 ∧ (∀ a, a ≠ 92 → a ≠ 93 → a ≠ 98 → a ≠ 99 → S'.1 a = S.1 a) ∧ ∀ f, f ≠ 9 → f ≠ 10 → S'.1 92 f = S.1 92 f
theorem eFr_w {S S' : nk_S} (h : wFr S S') : eFr S S' := ⟨h.1, fun a _ x y z => h.2.1 a x y z, fun f _ _ => by rw [h.2.1 92 (by decide) (by decide) (by decide)]⟩
theorem eFr_trans {S1 S2 S3 : nk_S} (h : eFr S1 S2) (k : eFr S2 S3) : eFr S1 S3 := ⟨k.1.trans h.1, fun a x y z w => (k.2.1 a x y z w).trans (h.2.1 a x y z w), fun f x y => (k.2.2 f x y).trans (h.2.2 f x y)⟩
theorem eFr_rfl {S : nk_S} : eFr S S := ⟨rfl, fun _ _ _ _ _ => rfl, fun _ _ _ => rfl⟩
theorem cPv_e {S S' : nk_S} {Q : Nat} (hQ : Q = 13 ∨ Q = 49) {p : jP} {H lc : Nat → Nat} (hf : eFr S S') (hv : cPv S Q p H lc) : cPv S' Q p H lc := cPv_c hQ hf.1 (fun a ha => hf.2.1 a (by omega) (by omega) (by omega) (by omega)) hv
/-- the errors that are noted -/
def cRs (S : nk_S) (r l : Nat → Bool) : Prop := cI (S.1 92 9) r ∧ cV (S.1 92 10) l
theorem cRs_w {S S' : nk_S} {r l : Nat → Bool} (h : wFr S S') (k : cRs S r l) : cRs S' r l := by
  have e : S'.1 92 = S.1 92 := h.2.1 92 (by decide) (by decide) (by decide)
  unfold cRs
  rw [e]; exact k
section CMV
variable {F : Int → Prop} {S : nk_S} {Q : Nat} {p : jP} {H lc : Nat → Nat} {us : List Int} {z : jL} {t : Nat → Int} {u : jQ} {i : Nat} {x : jC} {G : jZ} {σ : jG} {l h : Nat}
theorem c_raise {r s : Nat → Bool} (k : cRs S r s) (hr : cRw l h S u) {e : Nat} (he : e < 6) : ∃ S', ja_X4_raise 92 (e : Int) S = some (0, S') ∧ eFr S S' ∧ cRs S' (sOr r (onS e)) (sOr s (onS (48 + e))) ∧ cRw l h S' u := by
  refine ⟨nk_wi (nk_wi S 92 9 (nk_ior (S.1 92 9) (nk_ishl 1 (e : Int)))) 92 10 (nk_lor (S.1 92 10) (nk_lshl 1 ((48 + e : Nat) : Int))), ?_, ⟨rfl, fun a x _ _ _ => by rw [wi_n x, wi_n x], fun f x y => by rw [wi_at, if_neg y, wi_at, if_neg x]⟩, ⟨?_, ?_⟩, ?_⟩
  · unfold ja_X4_raise
    have e10 : (nk_wi S 92 9 (nk_ior (S.1 92 9) (nk_ishl 1 (e : Int)))).1 92 10 = S.1 92 10 := by rw [wi_at, if_neg (by decide)]
    have ew : nk_w (48 + (e : Int)) = ((48 + e : Nat) : Int) := by
      rw [nk_w_id (by omega) (by omega)]; omega
    rw [lt_eq, lt_eq, e10, ew]
  · rw [wi_at, if_neg (by decide), wi_at, if_pos rfl]
    exact cI_or k.1 (cI_on (by omega))
  · rw [wi_at, if_pos rfl]
    exact cV_or k.2 (cV_one (by omega))
  · unfold cRw
    rw [wi_n (by decide), wi_n (by decide), wi_n (by decide), wi_n (by decide), wi_n (by decide), wi_n (by decide)]
    exact hr
theorem c_top0 (hr : cRw l h S u) (h8 : h ≤ 8) : ja_X7_fromTop 93 0 S = some (((12 + h - 1 : Nat) : Int), S) := by
  unfold ja_X7_fromTop
  rw [hr.2.1, wi12 (by omega), show ((12 + h : Nat) : Int) - 1 = ((12 + h : Nat) : Int) - ((1 : Nat) : Int) by omega, wisub (by omega) (by omega), Int.sub_zero, nk_w_id (by omega) (by omega)]
/-- the height behind a move -/
def mvH (o h : Nat) : Nat := if o = 0 ∨ o = 1 ∨ o = 2 ∨ o = 5 then h + 1 else if o = 4 ∨ o = 7 then h else h - 1
theorem c_moves (hQ : Q = 13 ∨ Q = 49) (hT : thG F (zDn G) (zUp G)) (hF : F = fun y => th7 y ∨ ∃ x ∈ p.2.2.2.2.1.2.2.2, nbr x y) (hv : cPv S Q p H lc) (hz : oJL p.2.2.2.2.1) (hx : p.2.2.2.2.1.1[i]? = some x) (hr : cRw (lc i) (H i) S u) (hok : vOk F us z (lc i) t u) (ho : x.1 ≤ 7 ∨ x.1 = 45) (h8 : mvH x.1 (H i) ≤ 8) (h0 : x.1 = 0 → iR x.2.1) (ha : x.1 = 2 ∨ x.1 = 3 ∨ x.1 = 4 → 0 ≤ x.2.1 ∧ x.2.1.toNat < lc i) (h4 : x.1 = 4 → (u x.2.1.toNat).1 = 1 ∧ iR x.2.2.1) (h1 : x.1 = 3 ∨ x.1 = 5 ∨ x.1 = 6 ∨ x.1 = 45 → 1 ≤ H i) (h2 : x.1 = 7 → 2 ≤ H i) : ∃ S' v, ja_X4_moves 92 (i : Int) (x.1 : Int) S = some (1, S') ∧ wFr S S' ∧ pGo G σ x (H i) u = some v ∧ cRw (lc i) (mvH x.1 (H i)) S' v := by
  have hi : i < 1024 := by
    have := (List.getElem?_eq_some_iff.mp hx).1
    have := hz.1
    omega
  have hH8 := (hv.2.2.2.2 i).2
  have hl12 := (hv.2.2.2.2 i).1
  have hcd := hv.2.2.1.2.2.2.2.2.2.2.2.1.1.2 i x hx
  obtain ⟨n, n1, n2⟩ := cPv_t hv hz
  rw [← hF] at n2
  have hR : Q + 23 = 36 ∨ Q + 23 = 72 := by omega
  have top := c_top0 hr hH8
  unfold ja_X4_moves
  rw [if_pos (in_i (N := 1024) (by omega)), hv.1, (jc_Qp hQ).2.2.1, Int.toNat_natCast, hcd.2.1, lt_eq, jc_92_2, top, bd_some]
  by_cases c0 : x.1 = 0
  · have e : mvH x.1 (H i) = H i + 1 := by unfold mvH; rw [if_pos (by omega)]
    rw [e] at h8 ⊢
    have hp : ja_X5_pack x.2.1 x.2.1 S = some (pk (x.2.1, x.2.1), S) := by unfold ja_X5_pack; rw [pk_e (h0 c0)]
    obtain ⟨S', s1, s2, s3⟩ := c_push hr (by omega) (cSt_R (r := (x.2.1, x.2.1)))
    refine ⟨S', _, ?_, s2, ?_, s3⟩
    · rw [if_pos (by omega), hp, bd_some, s1, bd_some]
    · unfold pGo; rw [if_pos c0]
  rw [if_neg (show ¬ (x.1 : Int) = 0 by omega)]
  by_cases c1 : x.1 = 1
  · have e : mvH x.1 (H i) = H i + 1 := by unfold mvH; rw [if_pos (by omega)]
    rw [e] at h8 ⊢
    obtain ⟨S', s1, s2, s3⟩ := c_push hr (by omega) (cSt_S (v := 4611686018427387904) (s := onS 62) ⟨by unfold lR; decide, lk_62⟩)
    refine ⟨S', _, ?_, s2, ?_, s3⟩
    · rw [if_pos (by omega), s1, bd_some]
    · unfold pGo; rw [if_neg c0, if_pos c1]
  rw [if_neg (show ¬ (x.1 : Int) = 1 by omega)]
  by_cases c2 : x.1 = 2
  · have e : mvH x.1 (H i) = H i + 1 := by unfold mvH; rw [if_pos (by omega)]
    rw [e] at h8 ⊢
    obtain ⟨a1, a2⟩ := ha (by omega)
    obtain ⟨a, hA⟩ : ∃ a, a = x.2.1.toNat := ⟨_, rfl⟩
    have ea : x.2.1 = (a : Int) := by omega
    rw [← hA] at a2
    have hs := hr.2.2 a (by unfold rel; omega)
    have hnn : (u a).2.2.2.1 = none := by
      cases hq : (u a).2.2.2.1 with
      | none => rfl
      | some k => have := (hok.2.1 a k hq).2.2.2.2; omega
    have hld := c_load (show a < 12 by omega) hs.1 hnn
    obtain ⟨S', s1, s2, s3⟩ := c_push hr (by omega) (v := S.1 98 a) (f := nk_lor (S.1 99 a) (nk_lshl ((a + 1 : Nat) : Int) 48)) (w := wCp (u a) (some a)) ⟨hld, hs.2.1, hs.2.2.1, hs.2.2.2⟩
    refine ⟨S', _, ?_, s2, ?_, s3⟩
    · rw [if_pos (by omega), ea, if_pos (in_i (N := 20) (by omega)), jc_93_4, jc_93_5, Int.toNat_natCast, w_nat1 (by omega), s1, bd_some]
    · unfold pGo; rw [if_neg c0, if_neg c1, if_pos c2, ← hA]
  rw [if_neg (show ¬ (x.1 : Int) = 2 by omega)]
  by_cases c3 : x.1 = 3
  · have e : mvH x.1 (H i) = H i - 1 := by unfold mvH; rw [if_neg (by omega), if_neg (by omega)]
    rw [e] at h8 ⊢
    obtain ⟨a1, a2⟩ := ha (by omega)
    obtain ⟨a, hA⟩ : ∃ a, a = x.2.1.toNat := ⟨_, rfl⟩
    have ea : x.2.1 = (a : Int) := by omega
    rw [← hA] at a2
    obtain ⟨S', s1, s2, s3⟩ := c_store hr hok.1 a2 (h1 (by omega)) hH8 hl12
    refine ⟨S', _, ?_, s2, ?_, s3⟩
    · rw [if_pos (by omega), ea, s1, bd_some]
    · unfold pGo; rw [if_neg c0, if_neg c1, if_neg c2, if_pos c3, ← hA]
  rw [if_neg (show ¬ (x.1 : Int) = 3 by omega)]
  by_cases c4 : x.1 = 4
  · have e : mvH x.1 (H i) = H i := by unfold mvH; rw [if_neg (by omega), if_pos (by omega)]
    rw [e] at h8 ⊢
    obtain ⟨a1, a2⟩ := ha (by omega)
    obtain ⟨k1, k2⟩ := h4 c4
    obtain ⟨a, hA⟩ : ∃ a, a = x.2.1.toNat := ⟨_, rfl⟩
    have ea : x.2.1 = (a : Int) := by omega
    rw [← hA] at a2 k1
    obtain ⟨S1, s1, s2, s3⟩ := c_change hr hok.1 (show a < 12 by omega) hH8 hl12
    have v1 := cPv_w hQ s2 hv
    obtain ⟨n', n1', n2'⟩ := cPv_t v1 hz
    rw [← hF] at n2'
    have st := s3.2.2 a (by unfold rel; omega)
    have stv : S1.1 98 a = pk (u a).2.1 := st.2.2.1 k1
    have oa := (wOk_1 (hok.1 a) k1).1
    have hpl := c_plus hR hT n2' n1' (rOk_iR hT oa) oa.2.2 k2
    have hup := cRw_up s3 (cSt_R (r := kPlus (zDn G) (zUp G) (u a).2.1 x.2.2.1)) (k := a) (T := nk_wi (nk_wi S1 98 a (pk (kPlus (zDn G) (zUp G) (u a).2.1 x.2.2.1))) 99 a 4503599627370496) (by rw [wi_n (by decide), wi_n (by decide)]) (by rw [wi_n (by decide), wi_n (by decide)]) (fun i => by rw [wi_n (by decide), wi_at]) (fun i => by rw [wi_at, wi_n (by decide)])
    refine ⟨_, _, ?_, wFr_trans s2 (wFr_trans (wFr_98 _ _) (wFr_99 _ _)), ?_, hup⟩
    · rw [if_pos (by omega), hv.1, (jc_Qp hQ).2.2.2.1, hcd.2.2.1, lt_eq, ea, s1, bd_some, if_pos (in_i (N := 20) (by omega)), jc_93_4, jc_93_5, Int.toNat_natCast, v1.2.1, stv, hpl, bd_some, lt_eq, lt_eq]
    · unfold pGo; rw [if_neg c0, if_neg c1, if_neg c2, if_neg c3, if_pos c4, ← hA]
  rw [if_neg (show ¬ (x.1 : Int) = 4 by omega)]
  by_cases c5 : x.1 = 5
  · have e : mvH x.1 (H i) = H i + 1 := by unfold mvH; rw [if_pos (by omega)]
    rw [e] at h8 ⊢
    have h1' := h1 (by omega)
    have hs := hr.2.2 (12 + H i - 1) (by unfold rel; omega)
    obtain ⟨S', s1, s2, s3⟩ := c_push hr (by omega) hs
    refine ⟨S', _, ?_, s2, ?_, s3⟩
    · rw [if_pos (by omega), if_pos (in_i (N := 20) (by omega)), jc_93_4, jc_93_5, Int.toNat_natCast, s1, bd_some]
    · unfold pGo; rw [if_neg c0, if_neg c1, if_neg c2, if_neg c3, if_neg c4, if_pos c5]
  rw [if_neg (show ¬ (x.1 : Int) = 5 by omega)]
  by_cases c7 : x.1 = 7
  · have e : mvH x.1 (H i) = H i := by unfold mvH; rw [if_neg (by omega), if_pos (by omega)]
    rw [e] at h8 ⊢
    obtain ⟨S', s1, s2, s3⟩ := c_swap hr (h2 c7) hH8
    refine ⟨S', _, ?_, s2, ?_, s3⟩
    · rw [if_neg (by omega), if_pos (by omega), s1, bd_some]
    · unfold pGo; rw [if_neg c0, if_neg c1, if_neg c2, if_neg c3, if_neg c4, if_neg c5, if_neg (by omega), if_pos c7]
  have e : mvH x.1 (H i) = H i - 1 := by unfold mvH; rw [if_neg (by omega), if_neg (by omega)]
  rw [e] at h8 ⊢
  obtain ⟨S', s1, s2, s3⟩ := c_drop hr (n := 1) (h1 (by omega)) hH8
  have s1' : ja_X7_drop 93 1 S = some (0, S') := s1
  refine ⟨S', u, ?_, s2, ?_, s3⟩
  · unfold ja_X4_moves_b250
    rw [jc_92_2, s1', bd_some]
    by_cases c6 : x.1 = 6
    · rw [if_pos (by omega)]
    · rw [if_neg (by omega), if_neg (by omega)]
  · unfold pGo; rw [if_neg c0, if_neg c1, if_neg c2, if_neg c3, if_neg c4, if_neg c5, if_pos (by omega)]
end CMV
