/-! The run: the reference's cells; push, pop, next. -/
/-- a value in the reference's cells -/
def rV (v : jV) : Int := if v.1 = 1 then v.2 else if v.1 = 2 then 1099511627776 + v.2 else 1125899906842624
/-- the reference's machine: its bodies; of the top one only the place and the locals -/
def rFn (S : nk_S) (m : jM) : Prop := (S.1 121 52 = (m.d : Int) + 1 ∧ m.d < 64) ∧ (∀ f, f ≤ m.d → S.1 242 f = (m.pc f : Int)) ∧ (∀ f k, f ≤ m.d → k < 12 → S.1 239 (f * 12 + k) = rV (m.vs f k)) ∧ ∀ f, f < m.d → S.1 241 f = (m.hs f : Int) ∧ m.hs f ≤ 8 ∧ ∀ k, k < m.hs f → S.1 240 (f * 8 + k) = rV (m.vs f (12 + k))
/-- the stack of the top one -/
def rFq (S : nk_S) (m : jM) : Prop := S.1 241 m.d = (m.hs m.d : Int) ∧ m.hs m.d ≤ 8 ∧ ∀ k, k < m.hs m.d → S.1 240 (m.d * 8 + k) = rV (m.vs m.d (12 + k))
/-- its heap -/
def rHp (p : jP) (S : nk_S) (h : Nat × (Nat → Nat) × (Nat → Nat) × (Nat → jV)) : Prop := S.1 121 53 = (h.1 : Int) ∧ S.1 121 54 = (h.2.2.1 h.1 : Int) ∧ (∀ o, o < h.1 → S.1 243 o = rvU (sTp p.2.2.2.2.1 (h.2.1 o)) ∧ S.1 244 o = (h.2.1 o : Int) ∧ S.1 245 o = (h.2.2.1 o : Int) ∧ S.1 246 o = ((h.2.2.1 (o + 1) - h.2.2.1 o : Nat) : Int)) ∧ ∀ j, j < h.2.2.1 h.1 → S.1 247 j = rV (h.2.2.2 j)
/-- what it has read and written -/
def rIo (S : nk_S) (r : Nat × Nat × (Nat → Int)) : Prop := S.1 121 56 = min (r.1 : Int) (S.1 121 55) ∧ S.1 121 57 = (r.2.1 : Int) ∧ ∀ k, k < r.2.1 → k < 256 → S.1 249 k = r.2.2 k
def rMn (p : jP) (S : nk_S) (m : jM) : Prop := rFn S m ∧ rHp p S m.2.2.2.2.1 ∧ rIo S m.2.2.2.2.2
def rMm (p : jP) (S : nk_S) (m : jM) : Prop := rMn p S m ∧ rFq S m
/-- what changes while the reference's machine works -/
def rxF (S S' : nk_S) : Prop := S'.2 = S.2 ∧ (∀ a, a < 121 ∨ (121 < a ∧ a < 239) ∨ a = 248 ∨ 249 < a → S'.1 a = S.1 a) ∧ ∀ f, f < 52 ∨ f = 55 ∨ 57 < f → S'.1 121 f = S.1 121 f
section RBA
variable {S S' : nk_S} {m : jM} {p : jP}
theorem rxF_rfl : rxF S S := ⟨rfl, fun _ _ => rfl, fun _ _ => rfl⟩
theorem rxF_trans {S1 S2 S3 : nk_S} (h : rxF S1 S2) (k : rxF S2 S3) : rxF S1 S3 := ⟨k.1.trans h.1, fun a q => (k.2.1 a q).trans (h.2.1 a q), fun f q => (k.2.2 f q).trans (h.2.2 f q)⟩
theorem rxF_wi {a k : Nat} {v : Int} (h : 239 ≤ a ∧ a ≤ 249 ∧ a ≠ 248) : rxF S (nk_wi S a k v) := ⟨rfl, fun b q => wi_n (by omega), fun f q => by rw [wi_n (by omega)]⟩
theorem rxF_w1 {k : Nat} {v : Int} (h : 52 ≤ k ∧ k ≤ 57 ∧ k ≠ 55) : rxF S (nk_wi S 121 k v) := ⟨rfl, fun b q => wi_n (by omega), fun f q => by rw [wi_at, if_neg (by omega)]⟩
theorem jc_rm : ja_c 121 41 = 239 ∧ ja_c 121 42 = 240 ∧ ja_c 121 43 = 241 ∧ ja_c 121 44 = 242 ∧ ja_c 121 45 = 243 ∧ ja_c 121 46 = 244 ∧ ja_c 121 47 = 245 ∧ ja_c 121 48 = 246 ∧ ja_c 121 49 = 247 ∧ ja_c 121 50 = 248 ∧ ja_c 121 51 = 249 := ⟨rfl, rfl, rfl, rfl, rfl, rfl, rfl, rfl, rfl, rfl, rfl⟩
theorem rHp_c {h : Nat × (Nat → Nat) × (Nat → Nat) × (Nat → jV)} (h8 : ∀ f, f = 53 ∨ f = 54 → S'.1 121 f = S.1 121 f) (k : ∀ a, 243 ≤ a ∧ a ≤ 247 → S'.1 a = S.1 a) (q : rHp p S h) : rHp p S' h := by
  unfold rHp at q ⊢
  rw [h8 53 (by omega), h8 54 (by omega), k 243 (by omega), k 244 (by omega), k 245 (by omega), k 246 (by omega), k 247 (by omega)]
  exact q
theorem rIo_c {r : Nat × Nat × (Nat → Int)} (h1 : ∀ f, f = 55 ∨ f = 56 ∨ f = 57 → S'.1 121 f = S.1 121 f) (k : S'.1 249 = S.1 249) (q : rIo S r) : rIo S' r := by
  unfold rIo at q ⊢
  rw [h1 55 (by omega), h1 56 (by omega), h1 57 (by omega), k]
  exact q
theorem rFn_c (h1 : S'.1 121 52 = S.1 121 52) (k : ∀ a, 239 ≤ a ∧ a ≤ 242 → S'.1 a = S.1 a) (q : rFn S m) : rFn S' m := by
  unfold rFn at q ⊢
  rw [h1, k 239 (by omega), k 240 (by omega), k 241 (by omega), k 242 (by omega)]
  exact q
theorem rFq_c (k : ∀ a, 239 ≤ a ∧ a ≤ 242 → S'.1 a = S.1 a) (q : rFq S m) : rFq S' m := by
  unfold rFq at q ⊢
  rw [k 240 (by omega), k 241 (by omega)]
  exact q
/-- fields that the machine's view does not hold -/
theorem rMm_w {f : Nat} {v : Int} (hf : 58 ≤ f) (h : rMm p S m) : rMm p (nk_wi S 121 f v) m := by
  have k1 : ∀ g, g < 58 → (nk_wi S 121 f v).1 121 g = S.1 121 g := fun g hg => by rw [wi_at, if_neg (by omega)]
  have k2 : ∀ a, a ≠ 121 → (nk_wi S 121 f v).1 a = S.1 a := fun a ha => wi_n ha
  exact ⟨⟨rFn_c (S := S) (k1 52 (by omega)) (fun a ha => k2 a (by omega)) h.1.1, rHp_c (S := S) (fun g hg => k1 g (by omega)) (fun a ha => k2 a (by omega)) h.1.2.1, rIo_c (S := S) (fun g hg => k1 g (by omega)) (k2 249 (by omega)) h.1.2.2⟩, rFq_c (S := S) (fun a ha => k2 a (by omega)) h.2⟩
theorem rMn_w {f : Nat} {v : Int} (hf : 58 ≤ f) (h : rMn p S m) : rMn p (nk_wi S 121 f v) m := by
  have k1 : ∀ g, g < 58 → (nk_wi S 121 f v).1 121 g = S.1 121 g := fun g hg => by rw [wi_at, if_neg (by omega)]
  have k2 : ∀ a, a ≠ 121 → (nk_wi S 121 f v).1 a = S.1 a := fun a ha => wi_n ha
  exact ⟨rFn_c (S := S) (k1 52 (by omega)) (fun a ha => k2 a (by omega)) h.1, rHp_c (S := S) (fun g hg => k1 g (by omega)) (fun a ha => k2 a (by omega)) h.2.1, rIo_c (S := S) (fun g hg => k1 g (by omega)) (k2 249 (by omega)) h.2.2⟩
theorem r_dw (h : rFn S m) : ∀ _ : Unit, nk_w (S.1 121 52 - 1) = (m.d : Int) := fun _ => by
  obtain ⟨⟨h1, h2⟩, -⟩ := h
  rw [h1, nk_w_id (by omega) (by omega)]
  omega
/-- a value is popped -/
theorem r_pop (h : rMm p S m) (hh : 0 < m.hs m.d) : ∃ S', ja_X13_pop 121 S = some (rV (m.top 0), S') ∧ rxF S S' ∧ rMm p S' (m.drp 1) := by
  obtain ⟨j41, j42, j43, j44, -⟩ := jc_rm
  have ed := r_dw h.1.1
  obtain ⟨⟨⟨⟨d1, d2⟩, h2, h3, h4⟩, hH, hI⟩, t1, t2, t3⟩ := h
  obtain ⟨T, hT⟩ : ∃ T, T = nk_wi S 241 m.d ((m.hs m.d - 1 : Nat) : Int) := ⟨_, rfl⟩
  have tn : ∀ a, a ≠ 241 → T.1 a = S.1 a := fun a ha => by rw [hT, wi_n ha]
  have t241 : ∀ f, T.1 241 f = if f = m.d then ((m.hs m.d - 1 : Nat) : Int) else S.1 241 f := fun f => by rw [hT, wi_at]
  have e1 : ∀ _ : Unit, nk_w ((m.hs m.d : Int) - 1) = ((m.hs m.d - 1 : Nat) : Int) := fun _ => by rw [nk_w_id (by omega) (by omega)]; omega
  have e2 : ∀ _ : Unit, nk_w (nk_w ((m.d : Int) * 8) + ((m.hs m.d - 1 : Nat) : Int)) = ((m.d * 8 + (m.hs m.d - 1) : Nat) : Int) := fun _ => by
    rw [nk_w_id (z := (m.d : Int) * 8) (by omega) (by omega), nk_w_id (by omega) (by omega)]; omega
  have edT : nk_w (T.1 121 52 - 1) = (m.d : Int) := by rw [tn 121 (by decide)]; exact ed ()
  refine ⟨T, ?_, by rw [hT]; exact rxF_wi (by omega), ⟨⟨⟨⟨by rw [tn 121 (by decide)]; exact d1, d2⟩, fun f hf => by rw [tn 242 (by decide)]; exact h2 f hf, fun f k hf hk => by rw [tn 239 (by decide)]; exact h3 f k hf hk, fun f hf => ?_⟩, rHp_c (S := S) (fun g _ => by rw [tn 121 (by decide)]) (fun a ha => tn a (by omega)) hH, rIo_c (S := S) (fun g _ => by rw [tn 121 (by decide)]) (tn 249 (by decide)) hI⟩, ?_, ?_, fun k hk => ?_⟩⟩
  · unfold ja_X13_pop
    rw [ed (), if_pos (in_i (N := 64) (by omega)), j43, Int.toNat_natCast, t1, e1 (), lt_eq, ← hT, edT, if_pos (in_i (N := 64) (by omega)), Int.toNat_natCast, t241, if_pos rfl, e2 (), if_pos (in_i (N := 512) (by omega)), j42, Int.toNat_natCast, tn 240 (by decide), t3 _ (by omega)]
    unfold jM.top
    rw [show 12 + (m.hs m.d - 1) = 11 + m.hs m.d - 0 by omega]
  · have hf : f < m.d := hf
    obtain ⟨q1, q2, q3⟩ := h4 f hf
    have e : (m.drp 1).hs f = m.hs f := gU_ne (by omega)
    rw [t241, if_neg (by omega), tn 240 (by decide), e]
    exact ⟨q1, q2, q3⟩
  · have e : (m.drp 1).hs (m.drp 1).d = m.hs m.d - 1 := gU_at
    rw [e]
    show T.1 241 m.d = _
    rw [t241, if_pos rfl]
  · have e : (m.drp 1).hs (m.drp 1).d = m.hs m.d - 1 := gU_at
    rw [e]; omega
  · have e : (m.drp 1).hs (m.drp 1).d = m.hs m.d - 1 := gU_at
    rw [e] at hk
    rw [tn 240 (by decide)]
    exact t3 k (by omega)
/-- a value is pushed -/
theorem r_push (h : rMm p S m) (hh : m.hs m.d < 8) (v : jV) : ∃ S', ja_X13_push 121 (rV v) S = some (0, S') ∧ rxF S S' ∧ rMm p S' (m.psh v) := by
  obtain ⟨j41, j42, j43, j44, -⟩ := jc_rm
  have ed := r_dw h.1.1
  obtain ⟨⟨⟨⟨d1, d2⟩, h2, h3, h4⟩, hH, hI⟩, t1, t2, t3⟩ := h
  obtain ⟨T, hT⟩ : ∃ T, T = nk_wi (nk_wi S 240 (m.d * 8 + m.hs m.d) (rV v)) 241 m.d ((m.hs m.d + 1 : Nat) : Int) := ⟨_, rfl⟩
  have tn : ∀ a, a ≠ 241 → a ≠ 240 → T.1 a = S.1 a := fun a ha hb => by rw [hT, wi_n ha, wi_n hb]
  have t241 : ∀ f, T.1 241 f = if f = m.d then ((m.hs m.d + 1 : Nat) : Int) else S.1 241 f := fun f => by rw [hT, wi_at, wi_n (by decide)]
  have t240 : ∀ f, T.1 240 f = if f = m.d * 8 + m.hs m.d then rV v else S.1 240 f := fun f => by rw [hT, wi_n (by decide), wi_at]
  have e2 : ∀ _ : Unit, nk_w (nk_w ((m.d : Int) * 8) + (m.hs m.d : Int)) = ((m.d * 8 + m.hs m.d : Nat) : Int) := fun _ => by
    rw [nk_w_id (z := (m.d : Int) * 8) (by omega) (by omega), nk_w_id (by omega) (by omega)]; omega
  have ed1 : nk_w ((nk_wi S 240 (m.d * 8 + m.hs m.d) (rV v)).1 121 52 - 1) = (m.d : Int) := by rw [wi_n (by decide)]; exact ed ()
  have hvs : ∀ f, f ≠ m.d → (m.psh v).vs f = m.vs f := fun f hf => gU_ne hf
  have hvd : (m.psh v).vs m.d = gU (m.vs m.d) (12 + m.hs m.d) v := gU_at
  refine ⟨T, ?_, by rw [hT]; exact rxF_trans (rxF_wi (by omega)) (rxF_wi (by omega)), ⟨⟨⟨⟨by rw [tn 121 (by decide) (by decide)]; exact d1, d2⟩, fun f hf => by rw [tn 242 (by decide) (by decide)]; exact h2 f hf, fun f k hf hk => ?_, fun f hf => ?_⟩, rHp_c (S := S) (fun g _ => by rw [tn 121 (by decide) (by decide)]) (fun a ha => tn a (by omega) (by omega)) hH, rIo_c (S := S) (fun g _ => by rw [tn 121 (by decide) (by decide)]) (tn 249 (by decide) (by decide)) hI⟩, ?_, ?_, fun k hk => ?_⟩⟩
  · unfold ja_X13_push
    rw [ed (), if_pos (in_i (N := 64) (by omega)), j43, Int.toNat_natCast, t1, e2 (), if_pos (in_i (N := 512) (by omega)), j42, Int.toNat_natCast, lt_eq, ed1, if_pos (in_i (N := 64) (by omega)), Int.toNat_natCast, wi_n (show 241 ≠ 240 by decide), t1, w_nat1 (by omega), lt_eq, ← hT]
  · rw [tn 239 (by decide) (by decide)]
    by_cases c : f = m.d
    · rw [c, hvd, gU_ne (by omega)]; exact h3 m.d k (Nat.le_refl _) hk
    · rw [hvs f c]; exact h3 f k hf hk
  · have hf : f < m.d := hf
    obtain ⟨q1, q2, q3⟩ := h4 f hf
    have e : (m.psh v).hs f = m.hs f := gU_ne (by omega)
    rw [t241, if_neg (by omega), e]
    refine ⟨q1, q2, fun k hk => ?_⟩
    rw [t240, if_neg (by omega), hvs f (by omega)]
    exact q3 k hk
  · have e : (m.psh v).hs (m.psh v).d = m.hs m.d + 1 := gU_at
    rw [e]
    show T.1 241 m.d = _
    rw [t241, if_pos rfl]
  · have e : (m.psh v).hs (m.psh v).d = m.hs m.d + 1 := gU_at
    rw [e]; omega
  · have e : (m.psh v).hs (m.psh v).d = m.hs m.d + 1 := gU_at
    rw [e] at hk
    have hvd' : (m.psh v).vs (m.psh v).d = gU (m.vs m.d) (12 + m.hs m.d) v := hvd
    have hd' : (m.psh v).d = m.d := rfl
    rw [hvd', hd', t240]
    by_cases c : k = m.hs m.d
    · rw [c, if_pos rfl, gU_at]
    · rw [if_neg (by omega), gU_ne (by omega)]
      exact t3 k (by omega)
/-- the place of the top body is set -/
theorem r_pc (h : rMm p S m) (j : Nat) : rxF S (nk_wi S 242 m.d (j : Int)) ∧ rMm p (nk_wi S 242 m.d (j : Int)) (m.go j) := by
  obtain ⟨⟨⟨⟨d1, d2⟩, h2, h3, h4⟩, hH, hI⟩, t1, t2, t3⟩ := h
  have tn : ∀ a, a ≠ 242 → (nk_wi S 242 m.d (j : Int)).1 a = S.1 a := fun a ha => wi_n ha
  refine ⟨rxF_wi (by omega), ⟨⟨⟨⟨by rw [tn 121 (by decide)]; exact d1, d2⟩, fun f hf => ?_, fun f k hf hk => by rw [tn 239 (by decide)]; exact h3 f k hf hk, fun f hf => by rw [tn 240 (by decide), tn 241 (by decide)]; exact h4 f hf⟩, rHp_c (S := S) (fun g _ => by rw [tn 121 (by decide)]) (fun a ha => tn a (by omega)) hH, rIo_c (S := S) (fun g _ => by rw [tn 121 (by decide)]) (tn 249 (by decide)) hI⟩, by rw [tn 241 (by decide)]; exact t1, t2, fun k hk => by rw [tn 240 (by decide)]; exact t3 k hk⟩⟩
  rw [wi_at]
  show _ = ((gU m.pc m.d j f : Nat) : Int)
  by_cases c : f = m.d
  · rw [if_pos c, c, gU_at]
  · rw [if_neg c, gU_ne c]; exact h2 f hf
theorem r_next (h : rMm p S m) (hp : m.pc m.d < 100000) : ∃ S', ja_X13_next 121 S = some (0, S') ∧ rxF S S' ∧ rMm p S' m.nxt := by
  have ed := r_dw h.1.1
  obtain ⟨g1, g2⟩ := r_pc h (m.pc m.d + 1)
  have d2 := h.1.1.1.2
  have e := h.1.1.2.1 m.d (Nat.le_refl _)
  refine ⟨_, ?_, g1, g2⟩
  unfold ja_X13_next
  rw [ed (), if_pos (in_i (N := 64) (by omega)), jc_rm.2.2.2.1, Int.toNat_natCast, e, w_nat1 (by omega), lt_eq]
/-- a local is read -/
theorem r_loc (h : rMn p S m) {k : Nat} (hk : k < 12) : ja_X13_local 121 (k : Int) S = some (rV (m.loc k), S) := by
  have ed := r_dw h.1
  have d2 := h.1.1.2
  have e2 : ∀ _ : Unit, nk_w (nk_w ((m.d : Int) * 12) + (k : Int)) = ((m.d * 12 + k : Nat) : Int) := fun _ => by
    rw [nk_w_id (z := (m.d : Int) * 12) (by omega) (by omega), nk_w_id (by omega) (by omega)]; omega
  unfold ja_X13_local
  rw [ed (), e2 (), if_pos (in_i (N := 768) (by omega)), jc_rm.1, Int.toNat_natCast, h.1.2.2.1 m.d k (Nat.le_refl _) hk]
  rfl
/-- a local is written -/
theorem r_sto (h : rMm p S m) {k : Nat} (hk : k < 12) (v : jV) : rxF S (nk_wi S 239 (m.d * 12 + k) (rV v)) ∧ rMm p (nk_wi S 239 (m.d * 12 + k) (rV v)) (m.sto k v) := by
  obtain ⟨⟨⟨⟨d1, d2⟩, h2, h3, h4⟩, hH, hI⟩, t1, t2, t3⟩ := h
  have tn : ∀ a, a ≠ 239 → (nk_wi S 239 (m.d * 12 + k) (rV v)).1 a = S.1 a := fun a ha => wi_n ha
  have hvs : ∀ f, f ≠ m.d → (m.sto k v).vs f = m.vs f := fun f hf => gU_ne hf
  have hvd : (m.sto k v).vs m.d = gU (m.vs m.d) k v := gU_at
  refine ⟨rxF_wi (by omega), ⟨⟨⟨⟨by rw [tn 121 (by decide)]; exact d1, d2⟩, fun f hf => by rw [tn 242 (by decide)]; exact h2 f hf, fun f q hf hq => ?_, fun f hf => ?_⟩, rHp_c (S := S) (fun g _ => by rw [tn 121 (by decide)]) (fun a ha => tn a (by omega)) hH, rIo_c (S := S) (fun g _ => by rw [tn 121 (by decide)]) (tn 249 (by decide)) hI⟩, by rw [tn 241 (by decide)]; exact t1, t2, fun q hq => ?_⟩⟩
  · rw [wi_at]
    by_cases c : f = m.d
    · rw [c, hvd]
      by_cases c2 : q = k
      · rw [c2, if_pos rfl, gU_at]
      · rw [if_neg (by omega), gU_ne c2]; exact h3 m.d q (Nat.le_refl _) hq
    · rw [if_neg (by omega), hvs f c]; exact h3 f q hf hq
  · have hf : f < m.d := hf
    rw [tn 240 (by decide), tn 241 (by decide), hvs f (by omega)]
    exact h4 f hf
  · have hvd' : (m.sto k v).vs (m.sto k v).d = gU (m.vs m.d) k v := hvd
    have hd' : (m.sto k v).d = m.d := rfl
    rw [tn 240 (by decide), hvd', gU_ne (by omega)]
    exact t3 q hq
theorem drp_drp {a b : Nat} : (m.drp a).drp b = m.drp (a + b) := by
  have : gU (gU m.hs m.d (m.hs m.d - a)) m.d (gU m.hs m.d (m.hs m.d - a) m.d - b) = gU m.hs m.d (m.hs m.d - (a + b)) := by
    funext f
    unfold gU
    by_cases c : f = m.d
    · rw [if_pos c, if_pos c, if_pos rfl]; omega
    · rw [if_neg c, if_neg c, if_neg c]
  show ((m.d, m.pc, gU (gU m.hs m.d (m.hs m.d - a)) m.d (gU m.hs m.d (m.hs m.d - a) m.d - b), m.2.2.2) : jM) = _
  rw [this]
  rfl
theorem drp_top {a k : Nat} (h : a + k < m.hs m.d) : (m.drp a).top k = m.top (a + k) := by
  unfold jM.top
  show m.vs m.d (11 + gU m.hs m.d (m.hs m.d - a) m.d - k) = _
  rw [gU_at, show 11 + (m.hs m.d - a) - k = 11 + m.hs m.d - (a + k) by omega]
theorem drp_hs {a : Nat} : (m.drp a).hs (m.drp a).d = m.hs m.d - a := gU_at
/-- two values are popped -/
theorem r_pop2 (h : rMm p S m) (hh : 2 ≤ m.hs m.d) : ∃ S1 S', ja_X13_pop 121 S = some (rV (m.top 0), S1) ∧ ja_X13_pop 121 S1 = some (rV (m.top 1), S') ∧ rxF S S' ∧ rMm p S' (m.drp 2) := by
  obtain ⟨S1, a1, a2, a3⟩ := r_pop h (by omega)
  obtain ⟨S2, b1, b2, b3⟩ := r_pop a3 (by rw [drp_hs]; omega)
  rw [drp_top (by omega)] at b1
  rw [drp_drp] at b3
  exact ⟨S1, S2, a1, b1, rxF_trans a2 b2, b3⟩
/-- a value is left in the place of k others -/
theorem r_lev {k : Nat} (h : rMm p S (m.drp k)) (hk : m.hs m.d - k < 8) (hp : m.pc m.d < 100000) (v : jV) : ∃ S1 S', ja_X13_push 121 (rV v) S = some (0, S1) ∧ ja_X13_next 121 S1 = some (0, S') ∧ rxF S S' ∧ rMm p S' (m.lev k v) := by
  obtain ⟨S1, a1, a2, a3⟩ := r_push h (by rw [drp_hs]; exact hk) v
  obtain ⟨S2, b1, b2, b3⟩ := r_next a3 hp
  exact ⟨S1, S2, a1, b1, rxF_trans a2 b2, b3⟩
end RBA
