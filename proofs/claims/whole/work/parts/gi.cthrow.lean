/-! The run: the class raises errors and looks for catches. -/
section CTH
variable {p : jP} {m m' m1 : jM} {Q : Nat} {tx : List (List Int)} {x : jC} {t : Nat → Int} {inp : Nat → Int} {S S' : nk_S} {A : jA} {σ : jG} {i : Nat}
/-- the errors found at an instruction -/
noncomputable def fnd (p : jP) (A : jA) (σ : jG) (i : Nat) (x : jC) (e : Nat) : Bool := match A i with
  | none => false
  | some u => pFd (pZZ p) σ x (pH p i) u e || (decide (e = 9) && !pMv (pZZ p) σ x (pH p i) u)
theorem fnd_c (h : ldC S Q p A σ) (hx : p.2.2.2.2.1.1[i]? = some x) : cI (S.1 107 i) (fnd p A σ i x) := by
  obtain ⟨h1, h2⟩ := h.2.2.2.2.1 i x hx
  cases hA : A i with
  | none =>
    rw [(h1 hA).1]
    refine cI_e cI_0 (fun j => ?_)
    unfold fnd
    rw [hA]; rfl
  | some u =>
    refine cI_e (h2 u hA).1 (fun j => ?_)
    unfold fnd
    rw [hA]
theorem sh_u3 : ∀ n : Nat, n < 32 → ((Int32.ofInt (n : Int)).toUInt32 &&& Int32.toUInt32 31).toBitVec % 32 = BitVec.ofNat 32 n := by decide +kernel
theorem ib_ushr {x : Int} {n : Nat} (hn : n < 32) (j : Nat) : ib (nk_iushr x (n : Int)) j = ib x (n + j) := by
  unfold ib nk_iushr
  rw [Int32.ofInt_toInt]
  show ((Int32.ofInt x).toUInt32 >>> ((Int32.ofInt (n : Int)).toUInt32 &&& Int32.toUInt32 31)).toBitVec.getLsbD j = _
  rw [UInt32.toBitVec_shiftRight, sh_u3 n hn, BitVec.ushiftRight_eq', BitVec.toNat_ofNat, Nat.mod_eq_of_lt (by omega), BitVec.getLsbD_ushiftRight]
  rfl
theorem bit_us {v : Int} {s : Nat → Bool} (hv : cI v s) {k : Nat} (hk : k < 32) : nk_iand (nk_iushr v (k : Int)) 1 = bi (s k) := by
  refine ib_ext (iR_t _) (by cases s k <;> (unfold iR bi; dsimp only; omega)) (fun j hj => ?_)
  rw [ib_and, ik_one j hj]
  by_cases c : j = 0
  · rw [c, ib_ushr hk, Nat.add_zero, hv.2 k hk]
    cases s k <;> rfl
  · rw [decide_eq_false c, Bool.and_false]
    cases hs : s k with
    | false => exact (ib_0 j hj).symm
    | true =>
      show false = ib 1 j
      rw [ik_one j hj, decide_eq_false c]

theorem x_113 {f : Nat} {v : Int} (hf : f ≠ 5 ∧ f ≠ 8 ∧ f ≠ 11 ∧ f ≠ 17) (hc : cMm S m) : cMm (nk_wi S 113 f v) m := by
  have tn : ∀ a, a ≠ 113 → (nk_wi S 113 f v).1 a = S.1 a := fun a ha => wi_n ha
  have tf : ∀ g, g ≠ f → (nk_wi S 113 f v).1 113 g = S.1 113 g := fun g hg => by rw [wi_at, if_neg hg]
  obtain ⟨⟨r1, r2⟩, r3, r4⟩ := hc.1
  exact ⟨⟨⟨by rw [tf 5 (by omega)]; exact r1, r2⟩, fun g hg => by rw [tn 115 (by decide), tn 116 (by decide)]; exact r3 g hg, fun g k hg hk => by rw [tn 114 (by decide)]; exact r4 g k hg hk⟩, cHp_c (S := S) (tf 8 (by omega)) (fun a ha => tn a (by omega)) hc.2.1, cIo_c (S := S) (tf 11 (by omega)) (tf 17 (by omega)) (tn 120 (by decide)) hc.2.2⟩
/-- an error is raised -/
theorem x_raise (h : cXx S Q p A σ) (hT : hTy p m) (hc : cMm S m) (hx : p.2.2.2.2.1.1[i]? = some x) (hi : i < 1024) {e : Nat} (he : e < 6) {T : nk_S} (hTT : T = if fnd p A σ i x e = true then S else nk_wi S 113 13 1) : (mMk p m (48 + e) 0 = none → ja_X2_raise 113 (i : Int) (e : Int) S = some (0, nk_wi (nk_wi T 113 12 3) 113 15 (i : Int))) ∧ ∀ m1, mMk p m (48 + e) 0 = some m1 → ∃ S', ja_X2_raise 113 (i : Int) (e : Int) S = some (((m.n + 1 : Nat) : Int), S') ∧ mkF T S' ∧ cMm S' m1 := by
  have hb := bit_us (fnd_c h.2.2 hx) (k := e) (by omega)
  have hcT : cMm T m := by
    rw [hTT]
    split
    · exact hc
    · exact x_113 (by decide) hc
  have ew : nk_w (48 + (e : Int)) = ((48 + e : Nat) : Int) := by rw [nk_w_id (by omega) (by omega)]; omega
  have hr : ja_X2_raise 113 (i : Int) (e : Int) S = ja_X2_make 113 (i : Int) ((48 + e : Nat) : Int) 0 T := by
    unfold ja_X2_raise ja_X2_raise_b21
    have j107 : ja_c (ja_c 113 0) 4 = 107 := rfl
    rw [if_pos (in_i (N := 1024) (by omega)), j107, Int.toNat_natCast, hb, ew, hTT]
    cases fnd p A σ i x e with
    | true => rw [if_neg (show ¬ bi true = 0 by decide), if_pos rfl, bd_eta]
    | false => rw [if_pos (show bi false = 0 from rfl), lt_eq, if_neg (by decide), bd_eta]
  obtain ⟨g1, g2⟩ := x_make (i := i) (s := 48 + e) (sz := 0) hT hcT (by omega)
  rw [hr]
  exact ⟨g1, g2⟩
/-- catches of other bodies are passed over -/
theorem mCt_skip {s : Int} {x : jC} (hx : p.2.2.2.2.1.1[i]? = some x) : ∀ (c0 c k : Nat), (∀ k', k ≤ k' → k' < k + c0 → ∀ y, p.2.2.2.2.1.2.2.1[k']? = some y → y.1 ≠ x.2.2.2.1) → mCt p i s (c0 + c) k = mCt p i s c (k + c0) := by
  intro c0
  induction c0 with
  | zero => intro c k _; rw [Nat.zero_add]; rfl
  | succ c0 ih =>
    intro c k h
    rw [show c0 + 1 + c = (c0 + c) + 1 by omega, mCt, hx]
    have hih := ih c (k + 1) (fun k' h1 h2 => h k' (by omega) (by omega))
    rw [show k + 1 + c0 = k + (c0 + 1) by omega] at hih
    cases hy : p.2.2.2.2.1.2.2.1[k]? with
    | none => exact hih
    | some y =>
      dsimp only
      rw [if_neg (fun q => h k (Nat.le_refl _) (by omega) y hy q.1.1)]
      exact hih
theorem mCt_none {s : Int} {x : jC} (hx : p.2.2.2.2.1.1[i]? = some x) (c k : Nat) (h : ∀ k', k ≤ k' → k' < k + c → ∀ y, p.2.2.2.2.1.2.2.1[k']? = some y → y.1 ≠ x.2.2.2.1) : mCt p i s c k = none := by
  have := mCt_skip (s := s) hx c 0 k h
  rw [Nat.add_zero] at this
  rw [this]; rfl
/-- behind the catches of a body there is none -/
theorem mCt_cut {s : Int} {x : jC} (hx : p.2.2.2.2.1.1[i]? = some x) {a b k : Nat} (h : ∀ k', k + b ≤ k' → k' < k + a → ∀ y, p.2.2.2.2.1.2.2.1[k']? = some y → y.1 ≠ x.2.2.2.1) : mCt p i s a k = mCt p i s (min a b) k := by
  induction a generalizing b k with
  | zero => rw [Nat.zero_min]
  | succ a ih =>
    cases b with
    | zero => rw [Nat.min_zero]; exact mCt_none hx _ _ (fun k' h1 h2 => h k' (by omega) h2)
    | succ b =>
      rw [show min (a + 1) (b + 1) = min a b + 1 by omega, mCt, mCt, hx, ih (b := b) (k := k + 1) (fun k' h1 h2 => h k' (by omega) (by omega))]
theorem x_catL (hwf : pWf tx p) (hk : pKX p Q) (h : cXx S Q p A σ) (hx : p.2.2.2.2.1.1[i]? = some x) (hi : i < 1024) {s : Int} (hs : tV p.2.1 s) {e : Nat × Nat × Nat × Nat} (he : p.2.2.2.2.2[x.2.2.2.1]? = some e) (hb48 : x.2.2.2.1 < 48) (hl : e.2.2.2 ≤ p.2.2.2.2.1.2.2.1.length) (h64 : p.2.2.2.2.1.2.2.1.length ≤ 64) (hr : ∀ (k : Nat) (y : Nat × Nat × Nat × Nat × Nat), p.2.2.2.2.1.2.2.1[k]? = some y → (y.1 = x.2.2.2.1 ↔ e.2.2.1 ≤ k ∧ k < e.2.2.2)) (hcl : ∀ (k : Nat) (y : Nat × Nat × Nat × Nat × Nat), p.2.2.2.2.1.2.2.1[k]? = some y → y.2.2.2.2 < p.2.1.length) : ∀ (d c f : Nat), c + d = e.2.2.2 → e.2.2.1 ≤ c → d < f → ∃ r : Int, ja_X2_catchOf_L24 f 113 (i : Int) s (x.2.2.2.1 : Int) (c : Int) S = some (r, S) ∧ (mCt p i s d c = none → r = -1) ∧ ∀ j, mCt p i s d c = some j → ∃ c' : Nat, r = (c' : Int) ∧ c' < 64 ∧ S.1 (Q + 34) c' = (j : Int) := by
  obtain ⟨c1, c2, c3, c4, c5, c6, c7, c8⟩ := p_ctx hwf hk
  have hend : S.1 (Q + 21) x.2.2.2.1 = (e.2.2.2 : Int) := (h.2.2.1.2.2.2.2.2.2.1 _ e he).2.2.2
  intro d
  induction d with
  | zero =>
    intro c f h1 h2 h3
    obtain ⟨f, rfl⟩ : ∃ q, f = q + 1 := ⟨f - 1, by omega⟩
    refine ⟨-1, ?_, fun _ => rfl, fun j q => by cases q⟩
    show ja_X2_catchOf_b24 (ja_X2_catchOf_L24 f) 113 (i : Int) s (x.2.2.2.1 : Int) (c : Int) S = _
    unfold ja_X2_catchOf_b24
    rw [if_pos (in_i (N := 48) (by omega)), h.2.1, (jc_Q2 h.1).1, (jc_Qb h.1).2.2.2.2.1, Int.toNat_natCast, hend, if_pos (by omega)]
  | succ d ih =>
    intro c f h1 h2 h3
    obtain ⟨f, rfl⟩ : ∃ q, f = q + 1 := ⟨f - 1, by omega⟩
    have es : ∀ _ : Unit, nk_w ((c : Int) + 1) = ((c + 1 : Nat) : Int) := fun _ => w_nat1 (by omega)
    obtain ⟨y, hy⟩ : ∃ y, p.2.2.2.2.1.2.2.1[c]? = some y := ⟨_, List.getElem?_eq_getElem (by omega)⟩
    have hyb := (hr c y hy).mpr ⟨h2, by omega⟩
    obtain ⟨k1, k2, k3, k4⟩ := h.2.2.1.2.2.2.2.2.2.2.2.1.2.2.1.2 c y hy
    have hyc := hcl c y hy
    have e4 : ∀ _ : Unit, nk_w (4 + nk_w (2 * (y.2.2.2.2 : Int))) = 4 + 2 * (y.2.2.2.2 : Int) := fun _ => by
      rw [nk_w_id (z := 2 * (y.2.2.2.2 : Int)) (by omega) (by omega), nk_w_id (by omega) (by omega)]
    have tv : tV p.2.1 (4 + 2 * (y.2.2.2.2 : Int)) := by unfold tV; omega
    obtain ⟨r, g1, g2, g3⟩ := ih (c + 1) f (by omega) (by omega) (by omega)
    have hct : mCt p i s (d + 1) c = if (y.1 = x.2.2.2.1 ∧ y.2.1 ≤ i ∧ i < y.2.2.1) ∧ tLe p.2.1 s (4 + 2 * (y.2.2.2.2 : Int)) = true then some y.2.2.2.1 else mCt p i s d (c + 1) := by
      rw [mCt, hy, hx]
    have hcov := c_cov (z := p.2.2.2.2.1) h.1 h.2.2.1.2.2.2.2.2.2.2.2.1.2.2.1 (k := c) (i := i) hy h64
    have hbe := c_isBe (S := S) h.1 h.2.2.1.1 c1 c2 hs tv
    have hb24 : ja_X2_catchOf_L24 (f + 1) 113 (i : Int) s (x.2.2.2.1 : Int) (c : Int) S = (if bi (decide (y.2.1 ≤ i ∧ i < y.2.2.1)) = 0 then ja_X2_catchOf_L24 f 113 (i : Int) s (x.2.2.2.1 : Int) ((c + 1 : Nat) : Int) S else if bi (tLe p.2.1 s (4 + 2 * (y.2.2.2.2 : Int))) = 0 then ja_X2_catchOf_L24 f 113 (i : Int) s (x.2.2.2.1 : Int) ((c + 1 : Nat) : Int) S else some ((c : Int), S)) := by
      show ja_X2_catchOf_b24 (ja_X2_catchOf_L24 f) 113 (i : Int) s (x.2.2.2.1 : Int) (c : Int) S = _
      unfold ja_X2_catchOf_b24
      rw [if_pos (in_i (N := 48) (by omega)), h.2.1, (jc_Q2 h.1).1, (jc_Qb h.1).2.2.2.2.1, Int.toNat_natCast, hend, if_neg (by omega), hcov, bd_some, es (), lt_eq, if_pos (in_i (N := 64) (by omega)), h.2.1, (jc_Q h.1).1, (jc_Qp h.1).2.2.2.2.2.2.2.2.2.2.2, Int.toNat_natCast, k4, e4 (), hbe, bd_some, lt_eq]
    rw [hb24, hct]
    by_cases cv : y.2.1 ≤ i ∧ i < y.2.2.1
    · rw [decide_eq_true cv, if_neg (show ¬ bi true = 0 by decide)]
      cases hle : tLe p.2.1 s (4 + 2 * (y.2.2.2.2 : Int)) with
      | true =>
        rw [if_neg (show ¬ bi true = 0 by decide), if_pos ⟨⟨hyb, cv⟩, rfl⟩]
        exact ⟨(c : Int), rfl, (fun q => by cases q), (fun j q => by cases q; exact ⟨c, rfl, by omega, k3⟩)⟩
      | false =>
        rw [if_pos (show bi false = 0 from rfl), if_neg (fun q => by cases q.2)]
        exact ⟨r, g1, g2, g3⟩
    · rw [decide_eq_false cv, if_pos (show bi false = 0 from rfl), if_neg (fun q => cv q.1.2)]
      exact ⟨r, g1, g2, g3⟩
/-- the catch that takes -/
theorem x_catch (hwf : pWf tx p) (hk : pKX p Q) (h : cXx S Q p A σ) (hx : p.2.2.2.2.1.1[i]? = some x) (hi : i < 1024) {s : Int} (hs : tV p.2.1 s) : ∃ r : Int, ja_X2_catchOf 113 (i : Int) s S = some (r, S) ∧ (mCt p i s p.2.2.2.2.1.2.2.1.length 0 = none → r = -1) ∧ ∀ j, mCt p i s p.2.2.2.2.1.2.2.1.length 0 = some j → ∃ c' : Nat, r = (c' : Int) ∧ c' < 64 ∧ S.1 (Q + 34) c' = (j : Int) := by
  obtain ⟨a1, e, a2, a3, a4⟩ := hwf.2.2.1.1 i x hx
  obtain ⟨k1, k2, k3, k4, k5, k6, k7, k8, k9, k10, k11, k12, k13⟩ := id hwf.1
  obtain ⟨xb, hxb⟩ : ∃ xb, p.2.2.2.1[x.2.2.2.1]? = some xb := ⟨_, List.getElem?_eq_getElem a1⟩
  have hwb := hwf.2.1 _ xb e hxb a2
  have h64 := k11.2.2.1
  have hr := hwb.2.2.2.2.2.2.1
  have hcl : ∀ (k : Nat) (y : Nat × Nat × Nat × Nat × Nat), p.2.2.2.2.1.2.2.1[k]? = some y → y.2.2.2.2 < p.2.1.length := fun k y hy => by
    have hb := hwf.2.2.1.2 k y hy
    obtain ⟨xb', e', q1, q2⟩ := p_el hwf hb
    have := ((hwf.2.1 _ xb' e' q1 q2).2.2.2.2.2.2.2 k y hy rfl).2.2.2.2.2.2.1
    omega
  obtain ⟨bm, hbm⟩ := big_ge 100 (by decide)
  have hle := hwb.2.2.2.2.1
  have hle2 := hwb.2.2.2.2.2.1
  obtain ⟨r, g1, g2, g3⟩ := x_catL hwf hk h hx hi hs a2 (by have := k7.1; omega) hle2 h64 hr hcl (e.2.2.2 - e.2.2.1) e.2.2.1 nk_big (by omega) (Nat.le_refl _) (by omega)
  have hst : S.1 (Q + 20) x.2.2.2.1 = (e.2.2.1 : Int) := (h.2.2.1.2.2.2.2.2.2.1 _ e a2).2.2.1
  have hm1 : mCt p i s p.2.2.2.2.1.2.2.1.length 0 = mCt p i s (p.2.2.2.2.1.2.2.1.length - e.2.2.1) e.2.2.1 := by
    have := mCt_skip (s := s) hx e.2.2.1 (p.2.2.2.2.1.2.2.1.length - e.2.2.1) 0 (fun k' _ h2 y hy q => by have := (hr k' y hy).mp q; omega)
    rw [Nat.zero_add, show e.2.2.1 + (p.2.2.2.2.1.2.2.1.length - e.2.2.1) = p.2.2.2.2.1.2.2.1.length by omega] at this
    exact this
  have hm2 : mCt p i s (p.2.2.2.2.1.2.2.1.length - e.2.2.1) e.2.2.1 = mCt p i s (e.2.2.2 - e.2.2.1) e.2.2.1 := by
    have := mCt_cut (s := s) (a := p.2.2.2.2.1.2.2.1.length - e.2.2.1) (b := e.2.2.2 - e.2.2.1) (k := e.2.2.1) hx (fun k' h1 h2 y hy q => by have := (hr k' y hy).mp q; omega)
    rw [Nat.min_eq_right (by omega)] at this
    exact this
  refine ⟨r, ?_, ?_, ?_⟩
  · unfold ja_X2_catchOf
    rw [if_pos (in_i (N := 1024) (by omega)), h.2.1, (jc_Qp h.1).2.2.2.2.2.1, (jc_Q2 h.1).1, (jc_Qb h.1).2.2.2.1, Int.toNat_natCast, (cx_op h hx).2.2.2, lt_eq, if_pos (in_i (N := 48) (by have := k7.1; omega)), Int.toNat_natCast, hst, lt_eq, g1]
  · rw [hm1, hm2]; exact g2
  · rw [hm1, hm2]; exact g3
end CTH
