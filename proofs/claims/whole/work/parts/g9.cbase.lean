/-! The run: the class's cells; push, drop, next. -/
/-- a value in the class's cells -/
def mCv (v : jV) : Int := if v.1 = 1 then 4294967296 + v.2 % 4294967296 else if v.1 = 2 then 8589934592 + v.2 else 0
/-- the class's machine: its bodies -/
def cFr (S : nk_S) (m : jM) : Prop := (S.1 113 5 = (m.d : Int) ∧ m.d < 64) ∧ (∀ f, f ≤ m.d → S.1 115 f = (m.pc f : Int) ∧ S.1 116 f = (m.hs f : Int) ∧ m.hs f ≤ 8) ∧ ∀ f k, f ≤ m.d → k < 12 ∨ (12 ≤ k ∧ k < 12 + m.hs f) → S.1 114 (f * 20 + k) = mCv (m.vs f k)
/-- its heap -/
def cHp (S : nk_S) (h : Nat × (Nat → Nat) × (Nat → Nat) × (Nat → jV)) : Prop := S.1 113 8 = (h.1 : Int) ∧ (∀ o, o < h.1 → S.1 117 o = (h.2.1 o : Int)) ∧ (∀ o, o ≤ h.1 → S.1 118 o = (h.2.2.1 o : Int)) ∧ ∀ j, j < h.2.2.1 h.1 → S.1 119 j = (h.2.2.2 j).2
/-- what it has read and written -/
def cIo (S : nk_S) (r : Nat × Nat × (Nat → Int)) : Prop := S.1 113 11 = (r.1 : Int) ∧ S.1 113 17 = (r.2.1 : Int) ∧ ∀ k, k < r.2.1 → k < 256 → S.1 120 k = r.2.2 k
def cMm (S : nk_S) (m : jM) : Prop := cFr S m ∧ cHp S m.2.2.2.2.1 ∧ cIo S m.2.2.2.2.2
/-- what changes while the class's machine works -/
def mkF (S S' : nk_S) : Prop := S'.2 = S.2 ∧ (∀ a, a < 113 ∨ 120 < a → S'.1 a = S.1 a) ∧ ∀ f, f = 12 ∨ f = 13 ∨ f = 14 ∨ f = 15 ∨ f = 16 ∨ f = 19 → S'.1 113 f = S.1 113 f
section CBA
variable {S S' : nk_S} {m : jM}
theorem mkF_rfl : mkF S S := ⟨rfl, fun _ _ => rfl, fun _ _ => rfl⟩
theorem mkF_trans {S1 S2 S3 : nk_S} (h : mkF S1 S2) (k : mkF S2 S3) : mkF S1 S3 := ⟨k.1.trans h.1, fun a q => (k.2.1 a q).trans (h.2.1 a q), fun f q => (k.2.2 f q).trans (h.2.2 f q)⟩
theorem mkF_wi {a k : Nat} {v : Int} (h : 113 < a ∧ a ≤ 120) : mkF S (nk_wi S a k v) := ⟨rfl, fun b q => wi_n (by omega), fun f q => by rw [wi_n (by omega)]⟩
theorem mCv_i {n : Int} : nk_lor 4294967296 (nk_land n 4294967295) = mCv (1, n) := by
  have e : (4294967296 : Int) = nk_lshl 1 32 := by decide +kernel
  have := pk_e (l := 1) (h := n) (by unfold iR; omega)
  rw [← e] at this
  rw [this]
  unfold pk mCv
  dsimp only
  rw [if_pos rfl]
  omega
theorem mCv_r {r : Int} (h0 : 0 ≤ r) (h1 : r < 2147483648) : nk_lor 8589934592 r = mCv (2, r) := by
  have e : (8589934592 : Int) = nk_lshl 2 32 := by decide +kernel
  have := pk_e (l := 2) (h := r) (by unfold iR; omega)
  rw [← e, land32, Int.emod_eq_of_lt h0 (by omega)] at this
  rw [this]
  unfold pk mCv
  dsimp only
  rw [if_neg (by decide), if_pos rfl, Int.emod_eq_of_lt h0 (by omega)]
  omega
theorem mCv_n {v : jV} (h : vWf m v) (hn : m.n ≤ 2000) : nk_w (mCv v) = v.2 := by
  unfold mCv
  rcases h with q | q | q
  · rw [if_neg (by omega), if_neg (by omega), q.2]; rfl
  · rw [if_pos q.1]
    obtain ⟨a, b⟩ := q.2
    rw [nw_c (c := v.2) (by omega)]
    exact nk_w_id a (by omega)
  · rw [if_neg (by omega), if_pos q.1]
    rw [nw_c (c := v.2) (by omega)]
    exact nk_w_id (by omega) (by omega)
theorem jc_ma : ja_c 113 2 = 114 ∧ ja_c 113 3 = 115 ∧ ja_c 113 4 = 116 ∧ ja_c 113 6 = 117 ∧ ja_c 113 7 = 118 ∧ ja_c 113 9 = 119 ∧ ja_c 113 10 = 112 ∧ ja_c 113 18 = 120 := ⟨rfl, rfl, rfl, rfl, rfl, rfl, rfl, rfl⟩
theorem cHp_c {h : Nat × (Nat → Nat) × (Nat → Nat) × (Nat → jV)} (h8 : S'.1 113 8 = S.1 113 8) (k : ∀ a, a = 117 ∨ a = 118 ∨ a = 119 → S'.1 a = S.1 a) (q : cHp S h) : cHp S' h := by
  unfold cHp at q ⊢
  rw [h8, k 117 (by omega), k 118 (by omega), k 119 (by omega)]
  exact q
theorem cIo_c {r : Nat × Nat × (Nat → Int)} (h1 : S'.1 113 11 = S.1 113 11) (h2 : S'.1 113 17 = S.1 113 17) (k : S'.1 120 = S.1 120) (q : cIo S r) : cIo S' r := by
  unfold cIo at q ⊢
  rw [h1, h2, k]
  exact q
/-- the body that runs changes -/
theorem cFr_set {m' : jM} (h : cFr S m) (hd : m'.d = m.d) (h5 : S'.1 113 5 = S.1 113 5) (hl : ∀ f, f < m.d → m'.pc f = m.pc f ∧ m'.hs f = m.hs f ∧ m'.vs f = m.vs f) (c5 : ∀ f, f < m.d → S'.1 115 f = S.1 115 f) (c6 : ∀ f, f < m.d → S'.1 116 f = S.1 116 f) (c4 : ∀ j, j < m.d * 20 → S'.1 114 j = S.1 114 j) (t5 : S'.1 115 m.d = (m'.pc m.d : Int)) (t6 : S'.1 116 m.d = (m'.hs m.d : Int)) (t8 : m'.hs m.d ≤ 8) (t4 : ∀ k, k < 12 ∨ (12 ≤ k ∧ k < 12 + m'.hs m.d) → S'.1 114 (m.d * 20 + k) = mCv (m'.vs m.d k)) : cFr S' m' := by
  obtain ⟨⟨h1, h64⟩, h2, h3⟩ := h
  refine ⟨⟨by rw [h5, hd]; exact h1, by rw [hd]; exact h64⟩, fun f hf => ?_, fun f k hf hk => ?_⟩
  · rw [hd] at hf
    by_cases e : f = m.d
    · rw [e]; exact ⟨t5, t6, t8⟩
    · obtain ⟨q1, q2, q3⟩ := hl f (by omega)
      rw [c5 f (by omega), c6 f (by omega), q1, q2]
      exact h2 f hf
  · rw [hd] at hf
    by_cases e : f = m.d
    · rw [e] at hk ⊢; exact t4 k hk
    · obtain ⟨q1, q2, q3⟩ := hl f (by omega)
      rw [q2] at hk
      have h8 := (h2 f hf).2.2
      rw [c4 _ (by omega), q3]
      exact h3 f k hf hk
/-- the body's cells alone are written -/
def mbF (m : jM) (S S' : nk_S) : Prop := S'.2 = S.2 ∧ (∀ a, a < 114 ∨ 116 < a → S'.1 a = S.1 a) ∧ (∀ f, f < m.d → S'.1 115 f = S.1 115 f) ∧ (∀ f, f < m.d → S'.1 116 f = S.1 116 f) ∧ ∀ j, j < m.d * 20 → S'.1 114 j = S.1 114 j
theorem mbF_m (h : mbF m S S') : mkF S S' := ⟨h.1, fun a q => h.2.1 a (by omega), fun f _ => by rw [h.2.1 113 (by omega)]⟩
theorem mbF_trans {S1 S2 S3 : nk_S} {m2 : jM} (hd : m2.d = m.d) (h : mbF m S1 S2) (k : mbF m2 S2 S3) : mbF m S1 S3 := by
  obtain ⟨k1, k2, k3, k4, k5⟩ := k
  rw [hd] at k3 k4 k5
  exact ⟨k1.trans h.1, fun a q => (k2 a q).trans (h.2.1 a q), fun f q => (k3 f q).trans (h.2.2.1 f q), fun f q => (k4 f q).trans (h.2.2.2.1 f q), fun f q => (k5 f q).trans (h.2.2.2.2 f q)⟩
theorem mbF_rfl : mbF m S S := ⟨rfl, fun _ _ => rfl, fun _ _ => rfl, fun _ _ => rfl, fun _ _ => rfl⟩
theorem cMm_b {m' : jM} (h : cMm S m) (hF : mbF m S S') (e5 : m'.2.2.2.2 = m.2.2.2.2) (hd : m'.d = m.d) (hl : ∀ f, f < m.d → m'.pc f = m.pc f ∧ m'.hs f = m.hs f ∧ m'.vs f = m.vs f) (t5 : S'.1 115 m.d = (m'.pc m.d : Int)) (t6 : S'.1 116 m.d = (m'.hs m.d : Int)) (t8 : m'.hs m.d ≤ 8) (t4 : ∀ k, k < 12 ∨ (12 ≤ k ∧ k < 12 + m'.hs m.d) → S'.1 114 (m.d * 20 + k) = mCv (m'.vs m.d k)) : cMm S' m' := by
  obtain ⟨h1, h2, h3⟩ := h
  have e := hF.2.1 113 (by omega)
  refine ⟨cFr_set h1 hd (by rw [e]) hl hF.2.2.1 hF.2.2.2.1 hF.2.2.2.2 t5 t6 t8 t4, ?_, ?_⟩
  · rw [e5]; exact cHp_c (by rw [e]) (fun a _ => hF.2.1 a (by omega)) h2
  · rw [e5]; exact cIo_c (by rw [e]) (by rw [e]) (hF.2.1 120 (by omega)) h3
theorem x_from (h : cMm S m) {k : Nat} (hk : k ≤ 11 + m.hs m.d) : ja_X2_fromTop 113 (k : Int) S = some (((m.d * 20 + (11 + m.hs m.d - k) : Nat) : Int), S) := by
  obtain ⟨⟨⟨h1, hd⟩, h2, -⟩, -⟩ := h
  obtain ⟨-, q2, hh⟩ := h2 m.d (Nat.le_refl _)
  unfold ja_X2_fromTop
  rw [h1, if_pos (in_i (N := 64) (by omega)), jc_113_4, Int.toNat_natCast, q2, nk_w_id (z := (m.d : Int) * 20) (by omega) (by omega), nk_w_id (z := (m.d : Int) * 20 + 12) (by omega) (by omega), nk_w_id (z := (m.d : Int) * 20 + 12 + (m.hs m.d : Int)) (by omega) (by omega), nk_w_id (z := (m.d : Int) * 20 + 12 + (m.hs m.d : Int) - 1) (by omega) (by omega), nk_w_id (z := (m.d : Int) * 20 + 12 + (m.hs m.d : Int) - 1 - (k : Int)) (by omega) (by omega)]
  congr 2
  omega
theorem x_cell (h : cMm S m) {k : Nat} (hk : k < m.hs m.d) : S.1 114 (m.d * 20 + (11 + m.hs m.d - k)) = mCv (m.top k) := h.1.2.2 m.d _ (Nat.le_refl _) (by omega)
theorem x_num (h : cMm S m) (hn : m.n ≤ 2000) {k : Nat} (hk : k < m.hs m.d) (hw : vWf m (m.top k)) : ja_X2_numberAt 113 (k : Int) S = some ((m.top k).2, S) := by
  have hd := h.1.1.2
  have hh := (h.1.2.1 m.d (Nat.le_refl _)).2.2
  unfold ja_X2_numberAt
  rw [x_from h (by omega), bd_some, if_pos (in_i (N := 1280) (by omega)), jc_113_2, Int.toNat_natCast, x_cell h hk, mCv_n hw hn]
theorem x_push (h : cMm S m) (hh : m.hs m.d < 8) (v : jV) : ∃ S', ja_X2_push 113 (mCv v) S = some (0, S') ∧ mbF m S S' ∧ cMm S' (m.psh v) := by
  obtain ⟨⟨⟨h1, hd⟩, h2, h3⟩, -⟩ := id h
  obtain ⟨e115, e116, -⟩ := h2 m.d (Nat.le_refl _)
  obtain ⟨T, hT⟩ : ∃ T, T = nk_wi S 116 m.d ((m.hs m.d + 1 : Nat) : Int) := ⟨_, rfl⟩
  have tn : ∀ a, a ≠ 116 → T.1 a = S.1 a := fun a ha => by rw [hT, wi_n ha]
  have t116 : ∀ f, T.1 116 f = if f = m.d then ((m.hs m.d + 1 : Nat) : Int) else S.1 116 f := fun f => by rw [hT, wi_at]
  obtain ⟨T2, hT2⟩ : ∃ T2, T2 = nk_wi T 114 (m.d * 20 + (12 + m.hs m.d)) (mCv v) := ⟨_, rfl⟩
  have un : ∀ a, a ≠ 114 → T2.1 a = T.1 a := fun a ha => by rw [hT2, wi_n ha]
  have u114 : ∀ j, T2.1 114 j = if j = m.d * 20 + (12 + m.hs m.d) then mCv v else S.1 114 j := fun j => by rw [hT2, wi_at, tn 114 (by decide)]
  have hft : ja_X2_fromTop 113 0 T = some (((m.d * 20 + (12 + m.hs m.d) : Nat) : Int), T) := by
    unfold ja_X2_fromTop
    rw [tn 113 (by decide), h1, if_pos (in_i (N := 64) (by omega)), jc_113_4, Int.toNat_natCast, t116, if_pos rfl, nk_w_id (z := (m.d : Int) * 20) (by omega) (by omega), nk_w_id (z := (m.d : Int) * 20 + 12) (by omega) (by omega), nk_w_id (z := (m.d : Int) * 20 + 12 + ((m.hs m.d + 1 : Nat) : Int)) (by omega) (by omega), nk_w_id (z := (m.d : Int) * 20 + 12 + ((m.hs m.d + 1 : Nat) : Int) - 1) (by omega) (by omega), nk_w_id (z := (m.d : Int) * 20 + 12 + ((m.hs m.d + 1 : Nat) : Int) - 1 - 0) (by omega) (by omega)]
    congr 2
    omega
  have hF : mbF m S T2 := ⟨by rw [hT2, hT]; rfl, fun a ha => by rw [un a (by omega), tn a (by omega)], fun f hf => by rw [un 115 (by decide), tn 115 (by decide)], fun f hf => by rw [un 116 (by decide), t116, if_neg (by omega)], fun j hj => by rw [u114, if_neg (by omega)]⟩
  refine ⟨T2, ?_, hF, cMm_b h hF rfl rfl (fun f hf => ⟨rfl, ?_, ?_⟩) (by rw [un 115 (by decide), tn 115 (by decide)]; exact e115) ?_ ?_ (fun k hk => ?_)⟩
  · unfold ja_X2_push
    rw [h1, if_pos (in_i (N := 64) (by omega)), jc_113_4, jc_113_2, Int.toNat_natCast, e116, if_neg (by omega), w_nat1 (by omega), lt_eq, ← hT, hft, bd_some, if_pos (in_i (N := 1280) (by omega)), Int.toNat_natCast, lt_eq, ← hT2]
  · exact gU_ne (by omega)
  · exact gU_ne (by omega)
  · show _ = ((gU m.hs m.d (m.hs m.d + 1) m.d : Nat) : Int)
    rw [gU_at, un 116 (by decide), t116, if_pos rfl]
  · show gU m.hs m.d (m.hs m.d + 1) m.d ≤ 8
    rw [gU_at]; omega
  · have hk : k < 12 ∨ (12 ≤ k ∧ k < 12 + gU m.hs m.d (m.hs m.d + 1) m.d) := hk
    rw [gU_at] at hk
    rw [u114]
    show _ = mCv (gU m.vs m.d (gU (m.vs m.d) (12 + m.hs m.d) v) m.d k)
    rw [gU_at]
    unfold gU
    by_cases e2 : k = 12 + m.hs m.d
    · rw [if_pos (by omega), if_pos e2]
    · rw [if_neg (by omega), if_neg e2]
      exact h3 m.d k (Nat.le_refl _) (by omega)
theorem x_drop (h : cMm S m) {k : Nat} (hk : k ≤ m.hs m.d) : ∃ S', ja_X2_drop 113 (k : Int) S = some (0, S') ∧ mbF m S S' ∧ cMm S' (m.drp k) := by
  obtain ⟨⟨⟨h1, hd⟩, h2, h3⟩, -⟩ := id h
  obtain ⟨e115, e116, hh⟩ := h2 m.d (Nat.le_refl _)
  have ew : ∀ _ : Unit, nk_w ((m.hs m.d : Int) - (k : Int)) = ((m.hs m.d - k : Nat) : Int) := fun _ => by
    rw [nk_w_id (by omega) (by omega)]; omega
  obtain ⟨T, hT⟩ : ∃ T, T = nk_wi S 116 m.d ((m.hs m.d - k : Nat) : Int) := ⟨_, rfl⟩
  have tn : ∀ a, a ≠ 116 → T.1 a = S.1 a := fun a ha => by rw [hT, wi_n ha]
  have t116 : ∀ f, T.1 116 f = if f = m.d then ((m.hs m.d - k : Nat) : Int) else S.1 116 f := fun f => by rw [hT, wi_at]
  have hF : mbF m S T := ⟨by rw [hT]; rfl, fun a ha => tn a (by omega), fun f hf => by rw [tn 115 (by decide)], fun f hf => by rw [t116, if_neg (by omega)], fun j hj => by rw [tn 114 (by decide)]⟩
  refine ⟨T, ?_, hF, cMm_b h hF rfl rfl (fun f hf => ⟨rfl, gU_ne (by omega), rfl⟩) (by rw [tn 115 (by decide)]; exact e115) ?_ ?_ (fun j hj => ?_)⟩
  · unfold ja_X2_drop
    rw [h1, if_pos (in_i (N := 64) (by omega)), jc_113_4, Int.toNat_natCast, e116, ew (), lt_eq, ← hT]
  · show _ = ((gU m.hs m.d (m.hs m.d - k) m.d : Nat) : Int)
    rw [gU_at, t116, if_pos rfl]
  · show gU m.hs m.d (m.hs m.d - k) m.d ≤ 8
    rw [gU_at]; omega
  · have hj : j < 12 ∨ (12 ≤ j ∧ j < 12 + gU m.hs m.d (m.hs m.d - k) m.d) := hj
    rw [gU_at] at hj
    rw [tn 114 (by decide)]
    exact h3 m.d j (Nat.le_refl _) (by omega)
/-- a slot of the body that runs is written -/
theorem x_sto (h : cMm S m) {k : Nat} (hk : k < 12 ∨ (12 ≤ k ∧ k < 12 + m.hs m.d)) (v : jV) : mbF m S (nk_wi S 114 (m.d * 20 + k) (mCv v)) ∧ cMm (nk_wi S 114 (m.d * 20 + k) (mCv v)) (m.sto k v) := by
  obtain ⟨⟨⟨h1, hd⟩, h2, h3⟩, -⟩ := id h
  obtain ⟨e115, e116, hh⟩ := h2 m.d (Nat.le_refl _)
  obtain ⟨T, hT⟩ : ∃ T, T = nk_wi S 114 (m.d * 20 + k) (mCv v) := ⟨_, rfl⟩
  have tn : ∀ a, a ≠ 114 → T.1 a = S.1 a := fun a ha => by rw [hT, wi_n ha]
  have t114 : ∀ j, T.1 114 j = if j = m.d * 20 + k then mCv v else S.1 114 j := fun f => by rw [hT, wi_at]
  rw [← hT]
  have hF : mbF m S T := ⟨by rw [hT]; rfl, fun a ha => tn a (by omega), fun f hf => by rw [tn 115 (by decide)], fun f hf => by rw [tn 116 (by decide)], fun j hj => by rw [t114, if_neg (by omega)]⟩
  refine ⟨hF, cMm_b h hF rfl rfl (fun f hf => ⟨rfl, rfl, gU_ne (by omega)⟩) (by rw [tn 115 (by decide)]; exact e115) (by rw [tn 116 (by decide)]; exact e116) hh (fun j hj => ?_)⟩
  rw [t114]
  show _ = mCv (gU m.vs m.d (gU (m.vs m.d) k v) m.d j)
  rw [gU_at]
  unfold gU
  by_cases e : j = k
  · rw [if_pos (by omega), if_pos e]
  · rw [if_neg (by omega), if_neg e]
    exact h3 m.d j (Nat.le_refl _) hj
/-- it goes on elsewhere -/
theorem x_goto (h : cMm S m) (j : Nat) : mbF m S (nk_wi S 115 m.d (j : Int)) ∧ cMm (nk_wi S 115 m.d (j : Int)) (m.go j) := by
  obtain ⟨⟨⟨h1, hd⟩, h2, h3⟩, -⟩ := id h
  obtain ⟨e115, e116, hh⟩ := h2 m.d (Nat.le_refl _)
  obtain ⟨T, hT⟩ : ∃ T, T = nk_wi S 115 m.d (j : Int) := ⟨_, rfl⟩
  have tn : ∀ a, a ≠ 115 → T.1 a = S.1 a := fun a ha => by rw [hT, wi_n ha]
  have t115 : ∀ f, T.1 115 f = if f = m.d then (j : Int) else S.1 115 f := fun f => by rw [hT, wi_at]
  rw [← hT]
  have hF : mbF m S T := ⟨by rw [hT]; rfl, fun a ha => tn a (by omega), fun f hf => by rw [t115, if_neg (by omega)], fun f hf => by rw [tn 116 (by decide)], fun j hj => by rw [tn 114 (by decide)]⟩
  refine ⟨hF, cMm_b h hF rfl rfl (fun f hf => ⟨gU_ne (by omega), rfl, rfl⟩) ?_ (by rw [tn 116 (by decide)]; exact e116) hh (fun k hk => by rw [tn 114 (by decide)]; exact h3 m.d k (Nat.le_refl _) hk)⟩
  show _ = ((gU m.pc m.d j m.d : Nat) : Int)
  rw [gU_at, t115, if_pos rfl]
theorem x_next (h : cMm S m) (hp : m.pc m.d < 1024) : ∃ S', ja_X2_next 113 S = some (0, S') ∧ mbF m S S' ∧ cMm S' m.nxt := by
  obtain ⟨⟨⟨h1, hd⟩, h2, h3⟩, -⟩ := id h
  obtain ⟨e115, e116, hh⟩ := h2 m.d (Nat.le_refl _)
  obtain ⟨g1, g2⟩ := x_goto h (m.pc m.d + 1)
  refine ⟨_, ?_, g1, g2⟩
  unfold ja_X2_next
  rw [h1, if_pos (in_i (N := 64) (by omega)), jc_113_3, Int.toNat_natCast, e115, w_nat1 (by omega), lt_eq]
theorem x_leave (h : cMm S m) (hp : m.pc m.d < 1024) {k : Nat} (hk : k ≤ m.hs m.d) (h8 : m.hs m.d - k < 8) (v : jV) : ∃ S', ja_X2_leave 113 (k : Int) (mCv v) S = some (0, S') ∧ mbF m S S' ∧ cMm S' (m.lev k v) := by
  obtain ⟨S1, a1, a2, a3⟩ := x_drop h hk
  obtain ⟨S2, b1, b2, b3⟩ := x_push a3 (by show gU m.hs m.d (m.hs m.d - k) m.d < 8; rw [gU_at]; exact h8) v
  obtain ⟨S3, c1, c2, c3⟩ := x_next b3 hp
  refine ⟨S3, ?_, mbF_trans (m2 := (m.drp k).psh v) rfl (mbF_trans (m2 := m.drp k) rfl a2 b2) c2, c3⟩
  unfold ja_X2_leave
  rw [a1, bd_some, b1, bd_some, c1, bd_some]
end CBA
