/-! The reference adds to its table. -/
/-- a value without copy and facts -/
def vBr (F : Int → Prop) (w : jW) : Prop := wOk F w ∧ w.2.2.2.1 = none ∧ w.2.2.2.2 = noS ∧ w.1 ≠ 0
/-- what joining a value does -/
def jnO (P k : Nat) (S : nk_S) (o : Option jW) (w : jW) (f : Option (Int × nk_S)) : Prop := ∃ S' c, f = some (0, S') ∧ vFr P k S S' ∧ rVo S' P k (oJ o (some w)) ∧ S'.1 121 37 = (if c = true then 1 else S.1 121 37) ∧ (c = true ↔ oJ o (some w) ≠ o)
/-- what changes with the table -/
def tbF (P : Nat) (S S' : nk_S) : Prop := S'.2 = S.2 ∧ (∀ a, ¬ (P + 39 ≤ a ∧ a ≤ P + 45) → a ≠ 121 → S'.1 a = S.1 a) ∧ ∀ f, f ≠ 37 → S'.1 121 f = S.1 121 f
/-- nothing has changed, or it is told and there is less to come -/
def vCh (th : Nat → Int) (n : Nat) (S : nk_S) (σ : jG) (R : jA) (S' : nk_S) (σ' : jG) (R' : jA) : Prop := (S'.1 121 37 = S.1 121 37 ∧ σ' = σ ∧ R' = R) ∨ (S'.1 121 37 = 1 ∧ gMs th n σ' + aMs th n R' < gMs th n σ + aMs th n R)
section RJN
variable {F : Int → Prop} {S : nk_S} {P : Nat} {us : List Int} {fl : List (List Int × Nat × Int)} {bl : List jB} {z : jL} {th : Nat → Int} {n : Nat}
theorem vBr_1 {w : jW} (h : vBr F w) (h1 : w.1 = 1) : w = (1, w.2.1, noS, none, noS) := by
  obtain ⟨a, b, c, d⟩ := h
  have := (wOk_1 a h1).2
  obtain ⟨w1, w2, w3, w4, w5⟩ := w
  dsimp only at *
  rw [h1, this, b, c]
theorem vBr_2 {w : jW} (h : vBr F w) (h2 : w.1 = 2) : w = wS w.2.2.1 ∧ ∀ j, w.2.2.1 j = true → j < 63 := by
  obtain ⟨a, b, c, d⟩ := h
  have q := wOk_2 a h2
  refine ⟨?_, fun j hj => by have := q.2.2 j hj; omega⟩
  obtain ⟨w1, w2, w3, w4, w5⟩ := w
  dsimp only at *
  rw [h2, q.1, b, c]
  rfl
theorem vBr_l {t : Int} {w : jW} (h : vl1 F us z t w) : vBr F w := ⟨h.1.1, h.2.1, h.2.2.1, h.2.2.2⟩
theorem vBr_k {w : jW} (h : vBr F w) : w.1 = 1 ∨ w.1 = 2 := by
  have := wOk_k h.1
  have := h.2.2.2
  omega
theorem vBr_w {w : jW} (h : wOk F w) (h0 : w.1 ≠ 0) : vBr F (wBr w) := by
  refine ⟨⟨fun k hk => (by cases hk), fun j hj => (by cases hj), ?_⟩, rfl, rfl, h0⟩
  rcases h.2.2 with q | q | q
  · rw [q] at h0; exact absurd rfl h0
  · exact Or.inr (Or.inl q)
  · exact Or.inr (Or.inr q)
theorem jn_range (hP : P = 122 ∨ P = 168) {k : Nat} (hk : k < 3324) {o : Option jW} (ho : rVo S P k o) {w : jW} (hw : vBr F w) (h1 : w.1 = 1) (hb : ∀ v, o = some v → vBr F v ∧ v.1 = w.1) : jnO P k S o w (ja_X13_joinRange 121 P (k : Int) w.2.1.1 w.2.1.2 S) :=
  r_jRange hP hk ho h1 (wOk_1 hw.1 h1).2 (vBr_1 hw h1) (fun v hv => vBr_1 (hb v hv).1 (by rw [(hb v hv).2, h1]))
theorem jn_sites (hP : P = 122 ∨ P = 168) {k : Nat} (hk : k < 3324) {o : Option jW} (ho : rVo S P k o) {w : jW} (hw : vBr F w) (h2 : w.1 = 2) {x : Int} (hx : cV x w.2.2.1) (hb : ∀ v, o = some v → vBr F v ∧ v.1 = w.1) : jnO P k S o w (ja_X13_joinSites 121 P (k : Int) x S) := by
  have e := (vBr_2 hw h2).1
  have := r_jSites hP hk ho hx (vBr_2 hw h2).2 (fun v hv => vBr_2 (hb v hv).1 (by rw [(hb v hv).2, h2]))
  rw [← e] at this
  exact this
theorem jn_slot (hP : P = 122 ∨ P = 168) {k s : Nat} (hk : k < 3324) (hs : s < 24) {o : Option jW} (ho : rVo S P k o) {w : jW} (ow : wOk F w) (hw : rSo S rWk s w) (h0 : w.1 ≠ 0) (hb : ∀ v, o = some v → vBr F v ∧ v.1 = w.1) : jnO P k S o (wBr w) (ja_X13_joinSlotInto 121 P (k : Int) (s : Int) S) := by
  have bw := vBr_w ow h0
  have z0 : S.1 229 s = (w.1 : Int) := hw.1
  have z1 : S.1 230 s = w.2.1.1 := hw.2.1
  have z2 : S.1 231 s = w.2.1.2 := hw.2.2.1
  unfold ja_X13_joinSlotInto
  rw [if_pos (in_i (N := 24) (by omega)), jc_121_26, jc_121_27, jc_121_28, jc_121_29, Int.toNat_natCast, z0]
  rcases vBr_k bw with q | q
  · have q' : w.1 = 1 := q
    obtain ⟨S', c, g1, g2⟩ := jn_range hP hk ho bw q hb
    have g1 : ja_X13_joinRange 121 P (k : Int) w.2.1.1 w.2.1.2 S = some (0, S') := g1
    rw [q', if_pos (show ((1 : Nat) : Int) = 1 from rfl), z1, z2, g1, bd_some]
    exact ⟨S', c, rfl, g2⟩
  · have q' : w.1 = 2 := q
    obtain ⟨S', c, g1, g2⟩ := jn_sites hP hk ho bw q (x := S.1 232 s) hw.2.2.2.1 hb
    rw [q', if_neg (show ¬ ((2 : Nat) : Int) = 1 by decide), if_pos (show ((2 : Nat) : Int) = 2 from rfl), g1, bd_some]
    exact ⟨S', c, rfl, g2⟩
theorem jn_none (hP : P = 122 ∨ P = 168) (hF : F 0) {k : Nat} (hk : k < 3324) {o : Option jW} (ho : rVo S P k o) {t y : Int} (hy : y = 0 ↔ t = 1) (hb : ∀ v, o = some v → vBr F v ∧ v.1 = (wNl t).1) : jnO P k S o (wNl t) (ja_X13_joinNothing 121 P (k : Int) y S) := by
  unfold ja_X13_joinNothing
  unfold wNl at hb ⊢
  by_cases q : t = 1
  · rw [if_pos q] at hb ⊢
    have bw : vBr F (wR (0, 0)) := ⟨⟨fun k hk => (by cases hk), fun j hj => (by cases hj), Or.inr (Or.inl ⟨rfl, ⟨hF, hF, Int.le_refl _⟩, rfl⟩)⟩, rfl, rfl, by decide⟩
    obtain ⟨S', c, g1, g2⟩ := jn_range hP hk ho bw rfl hb
    have g1 : ja_X13_joinRange 121 P (k : Int) 0 0 S = some (0, S') := g1
    rw [if_pos (hy.mpr q), g1, bd_some]
    exact ⟨S', c, rfl, g2⟩
  · rw [if_neg q] at hb ⊢
    have bw : vBr F (wS (onS 62)) := ⟨⟨fun k hk => (by cases hk), fun j hj => (by cases hj), Or.inr (Or.inr ⟨rfl, rfl, ⟨62, by show decide (62 = 62) = true; decide⟩, fun j hj => Or.inr (of_decide_eq_true hj)⟩)⟩, rfl, rfl, by decide⟩
    obtain ⟨S', c, g1, g2⟩ := jn_sites hP hk ho bw rfl (x := 4611686018427387904) cV_62 hb
    rw [if_neg (fun r => q (hy.mp r)), g1, bd_some]
    exact ⟨S', c, rfl, g2⟩
theorem tbF_v {k : Nat} {S S' : nk_S} (h : vFr P k S S') : tbF P S S' := ⟨h.1, fun a h1 h2 => h.2.1 a (by omega) h2, h.2.2.1⟩
theorem tbF_rfl : tbF P S S := ⟨rfl, fun _ _ _ => rfl, fun _ _ => rfl⟩
theorem tbF_trans {S1 S2 S3 : nk_S} (h : tbF P S1 S2) (q : tbF P S2 S3) : tbF P S1 S3 := ⟨q.1.trans h.1, fun a r x => (q.2.1 a r x).trans (h.2.1 a r x), fun f r => (q.2.2 f r).trans (h.2.2 f r)⟩
theorem vCh_rfl {σ : jG} {R : jA} : vCh th n S σ R S σ R := Or.inl ⟨rfl, rfl, rfl⟩
theorem vCh_trans {S1 S2 S3 : nk_S} {σ1 σ2 σ3 : jG} {R1 R2 R3 : jA} (h : vCh th n S1 σ1 R1 S2 σ2 R2) (k : vCh th n S2 σ2 R2 S3 σ3 R3) : vCh th n S1 σ1 R1 S3 σ3 R3 := by
  rcases h with ⟨a, b, c⟩ | ⟨a, b⟩
  · rcases k with ⟨d, e, f⟩ | ⟨d, e⟩
    · exact Or.inl ⟨d.trans a, e.trans b, f.trans c⟩
    · right; rw [b, c] at e; exact ⟨d, e⟩
  · rcases k with ⟨d, e, f⟩ | ⟨d, e⟩
    · right; rw [e, f]; exact ⟨d.trans a, b⟩
    · right; exact ⟨d, by omega⟩
theorem rIx_lt {k : Nat} (h : k < 2748) : rIx k < 3324 := by unfold rIx; split <;> omega
theorem rIx_inj {j k : Nat} (h : rIx j = rIx k) : j = k := by unfold rIx at h; split at h <;> split at h <;> omega
/-- the table with one value more -/
theorem jn_tb (hP : P = 122 ∨ P = 168) (hN : thN F th n) {σ : jG} {R : jA} (hg : gOk F us fl bl z σ) {k : Nat} (hk : k < 2748) {w : jW} (hw : vl1 F us z (zTp fl bl z k) w) {f : Option (Int × nk_S)} (h : jnO P (rIx k) S (σ.1 k) w f) (hG : rGm S P σ) (hR : rRm S P bl R) (hl : bl.length ≤ 48) (hps : ∀ (b : Nat) (y : jB), bl[b]? = some y → y.ps.length ≤ 12) : ∃ S', f = some (0, S') ∧ tbF P S S' ∧ rGm S' P (gAd σ k w) ∧ rRm S' P bl R ∧ vCh th n S σ R S' (gAd σ k w) R := by
  obtain ⟨S', c, g1, g2, g3, g4, g5⟩ := h
  have ot : ∀ j, j ≠ rIx k → ∀ a, P + 39 ≤ a → a ≤ P + 42 → S'.1 a j = S.1 a j := fun j hj a h1 h2 => g2.2.2.2 a j hj (by omega)
  refine ⟨S', g1, tbF_v g2, ⟨fun j hj => ?_, fun b hb => ?_, fun b hb => ?_⟩, fun b y hy => ⟨?_, fun q m hm => ?_, fun r q m hm => ?_⟩, ?_⟩
  · unfold gAd
    dsimp only
    by_cases e : j = k
    · rw [if_pos e, e]; exact g3
    · rw [if_neg e]
      exact rVo_c (ot (rIx j) (fun q => e (rIx_inj q))) (hG.1 j hj)
  · rw [g2.2.1 (P + 43) (by omega) (by omega)]; exact hG.2.1 b hb
  · rw [g2.2.1 (P + 45) (by omega) (by omega)]; exact hG.2.2 b hb
  · rw [g2.2.1 (P + 44) (by omega) (by omega)]; exact (hR b y hy).1
  · have hb := at_lt hy
    exact rVo_c (ot _ (by unfold rIx; split <;> omega)) ((hR b y hy).2.1 q m hm)
  · have hb := at_lt hy
    have := hps b y hy
    exact rVo_c (ot _ (by unfold rIx; split <;> omega)) ((hR b y hy).2.2 r q m hm)
  · by_cases e : oJ (σ.1 k) (some w) = σ.1 k
    · left
      have hc : ¬ c = true := fun q => g5.mp q e
      refine ⟨by rw [g4, if_neg hc], ?_, rfl⟩
      unfold gAd
      refine Prod.ext (funext fun j => ?_) rfl
      dsimp only
      by_cases q : j = k
      · rw [if_pos q, e, q]
      · rw [if_neg q]
    · right
      refine ⟨by rw [g4, if_pos (g5.mpr e)], ?_⟩
      have := gMs_ad hN hg hk hw (fun q => e (by
        have := congrFun (congrArg Prod.fst q) k
        unfold gAd at this
        dsimp only at this
        rw [if_pos rfl] at this
        exact this))
      omega
end RJN
theorem lb_shr0 {x : Int} {n : Nat} (hn : n < 64) : lb (nk_lshr x (n : Int)) 0 = lb x n := by
  unfold lb nk_lshr
  rw [Int64.ofInt_toInt, Int64.toBitVec_shiftRight, sh_n n hn, BitVec.sshiftRight_eq', BitVec.toNat_ofNat, Nat.mod_eq_of_lt (by omega), BitVec.getLsbD_sshiftRight]
  simp [hn]
theorem r_bit {v : Int} {s : Nat → Bool} (hv : cV v s) {k : Nat} (hk : k < 64) : nk_land (nk_lshr v (k : Int)) 1 = bi (s k) := by
  refine lb_ext (lR_and _ _) (by cases s k <;> (unfold lR bi; dsimp only; omega)) (fun j hj => ?_)
  rw [lb_and, lk_one j hj]
  by_cases c : j = 0
  · rw [c, lb_shr0 hk, hv.2 k hk]
    cases s k <;> rfl
  · rw [decide_eq_false c, Bool.and_false]
    cases hs : s k with
    | false => exact (lb_0 j).symm
    | true =>
      show false = lb 1 j
      rw [lk_one j hj, decide_eq_false c]
