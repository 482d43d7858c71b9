/-! The proof: what an instruction leaves is of the types that it leaves. -/
def zTp (fl : List (List Int × Nat × Int)) (bl : List jB) (z : jL) (k : Nat) : Int := if k < 2592 then (match fl[k % 48]? with
  | some y => y.2.2
  | none => 0) else if k < 2646 then tEl (sTp z (k - 2592)) else if k < 2700 then 1 else (match bl[k - 2700]? with
  | some y => y.rs
  | none => 0)
/-- a value of the table -/
def vl1 (F : Int → Prop) (us : List Int) (z : jL) (t : Int) (w : jW) : Prop := uOk1 F us z t w ∧ w.2.2.2.1 = none ∧ w.2.2.2.2 = noS ∧ w.1 ≠ 0
def gOk (F : Int → Prop) (us : List Int) (fl : List (List Int × Nat × Int)) (bl : List jB) (z : jL) (σ : jG) : Prop := (∀ k w, σ.1 k = some w → k < 2748 ∧ vl1 F us z (zTp fl bl z k) w) ∧ (∀ b s, σ.2.2 b s = true → sVd z s = true) ∧ ∀ (b : Nat) (y : jB), σ.2.1 b = true → bl[b]? = some y → y.rs ≠ -1 → σ.1 (2700 + b) ≠ none
/-- bodies that run for one another are alike -/
def pOv (us : List Int) (bl : List jB) : Prop := ∀ (c f b : Nat) (y : jB), c < us.length → bl[f]? = some y → y.me = true → rnS us bl c y = (b : Int) → ∃ y', bl[b]? = some y' ∧ y'.me = true ∧ y'.ps.length = y.ps.length ∧ y'.rs = y.rs ∧ y'.ps.drop 1 = y.ps.drop 1 ∧ anc us c y'.ow = true ∧ y'.ps[0]? = some (4 + 2 * (y'.ow : Int))
theorem lt_tab : (lvT 0 = 1 ∧ tkT 0 = 0) ∧ (lvT 1 = 1 ∧ tkT 1 = 0) ∧ (lvT 2 = 1 ∧ tkT 2 = 0) ∧ lvT 4 = 0 ∧ lvT 6 = 0 ∧ lvT 45 = 0 ∧ lvT 19 = 0 ∧ (lvT 18 = 1 ∧ tkT 18 = 1) ∧ (lvT 30 = 1 ∧ tkT 30 = 0) ∧ (lvT 31 = 1 ∧ tkT 31 = 1) ∧ (lvT 32 = 1 ∧ tkT 32 = 1) ∧ (lvT 33 = 1 ∧ tkT 33 = 2) ∧ lvT 34 = 0 ∧ (lvT 35 = 1 ∧ tkT 35 = 1) ∧ lvT 36 = 0 ∧ (lvT 37 = 1 ∧ tkT 37 = 1) ∧ (lvT 38 = 1 ∧ tkT 38 = 1) ∧ (lvT 44 = 1 ∧ tkT 44 = 0) := by decide +kernel
theorem lt_cal : ∀ o : Nat, o < 46 → 8 ≤ o ∧ o ≤ 17 → lvT o = 1 ∧ tkT o = 2 := by decide +kernel
section PGK
variable {ns : List (List Int)} {us : List Int} {fl : List (List Int × Nat × Int)} {bl : List jB} {z : jL} {el : List (Nat × Nat × Nat × Nat)} {b : Nat} {xb : jB} {e : Nat × Nat × Nat × Nat} {M : Nat → Nat} {F : Int → Prop} {dn up : Int → Int} {H : Nat → Nat}
theorem tPf_0 {sl : List Int} {x : jC} {h : Nat} {t : Nat → Int} (hn : x.1 ≠ 3 ∧ x.1 ≠ 5 ∧ x.1 ≠ 7) (h0 : lvX bl x = 0) : tPf fl bl sl x h t = some t := by
  unfold tPf
  rw [if_neg hn.1, if_neg hn.2.1, if_neg hn.2.2, if_pos h0]
theorem tPf_1 {sl : List Int} {x : jC} {h low : Nat} {t : Nat → Int} {s : Int} (hn : x.1 ≠ 3 ∧ x.1 ≠ 5 ∧ x.1 ≠ 7) (h0 : lvX bl x = 1) (hl : 12 + h - tkX bl x = low) (ht : tLf fl bl sl x t low = s) (hs : s ≠ -3) : tPf fl bl sl x h t = some (tUp t low s) := by
  unfold tPf
  rw [if_neg hn.1, if_neg hn.2.1, if_neg hn.2.2, if_neg (by omega), hl, ht, if_neg hs]
theorem wJn_v {t : Int} {a c : jW} (ht : t = 1 ∨ 2 ≤ t) (ha : vl1 F us z t a) (hc : vl1 F us z t c) : vl1 F us z t (wJn a c) := by
  obtain ⟨⟨a1, a2, a3⟩, a4, a5, a6⟩ := ha
  obtain ⟨⟨c1, c2, c3⟩, c4, c5, c6⟩ := hc
  have hk : a.1 = c.1 := by
    rcases ht with q | q
    · rw [a2.1 q, c2.1 q]
    · rw [(a2.2 q).1, (c2.2 q).1]
  have e : wJn a c = (a.1, rJn a.2.1 c.2.1, sOr a.2.2.1 c.2.2.1, none, noS) := by
    unfold wJn
    rw [if_pos ⟨hk, a6⟩, a4, c4, if_pos rfl, a5, c5]
    rfl
  refine ⟨⟨wJn_ok a1 c1, ?_, fun j => ?_⟩, ?_, ?_, ?_⟩
  · rw [e]
    refine ⟨a2.1, fun q => ⟨(a2.2 q).1, fun s hs => ?_⟩⟩
    have hs : (a.2.2.1 s || c.2.2.1 s) = true := hs
    rw [Bool.or_eq_true] at hs
    exact hs.elim ((a2.2 q).2 s) ((c2.2 q).2 s)
  · rw [e]; intro _ q; cases q
  · rw [e]
  · rw [e]
  · rw [e]; exact a6
theorem fJ_v {t : Int} (ht : t = 1 ∨ 2 ≤ t) {f : Nat → Option jW} {s : Nat → Bool} : ∀ n, (∀ m w, m < n → s m = true → f m = some w → vl1 F us z t w) → ∀ w, fJ f s n = some w → vl1 F us z t w := by
  intro n
  induction n with
  | zero => intro _ w hw; cases hw
  | succ n ih =>
    intro hf w hw
    rw [fJ] at hw
    have ih' := ih (fun m w hm => hf m w (by omega))
    cases ha : fJ f s n with
    | none =>
      rw [ha] at hw
      by_cases c : s n = true
      · rw [if_pos c] at hw; exact hf n w (by omega) c hw
      · rw [if_neg c] at hw; cases hw
    | some p =>
      rw [ha] at hw
      have hp := ih' p ha
      by_cases c : s n = true
      · rw [if_pos c] at hw
        cases hb : f n with
        | none => rw [hb] at hw; cases hw; exact hp
        | some r =>
          rw [hb] at hw
          cases hw
          exact wJn_v ht hp (hf n r (by omega) c hb)
      · rw [if_neg c] at hw; cases hw; exact hp
theorem wCh_u {t : Int} {w : jW} (h : uOk1 F us z t w) (a : Nat) : uOk1 F us z t (wCh w a) := by
  obtain ⟨⟨a1, a2, a3⟩, b, c⟩ := h
  refine ⟨⟨fun k hk => ?_, fun j hj => ?_, ?_⟩, b, fun j h2 hj => ?_⟩
  · have hk : (if w.2.2.2.1 = some a then none else w.2.2.2.1) = some k := hk
    split at hk
    · cases hk
    · exact a1 k hk
  · have hj : (w.2.2.2.2 j && !decide (j % 12 = a)) = true := hj
    rw [Bool.and_eq_true] at hj
    exact a2 j hj.1
  · rcases a3 with q | q | q
    · left; rw [q]; rfl
    · exact Or.inr (Or.inl q)
    · exact Or.inr (Or.inr q)
  · have hj : (w.2.2.2.2 j && !decide (j % 12 = a)) = true := hj
    rw [Bool.and_eq_true] at hj
    exact c j h2 hj.1
theorem qCh_ok {lc : Nat} {t : Nat → Int} {v : jQ} (h : vOk F us z lc t v) (a : Nat) : vOk F us z lc t (qCh v a) ∧ ∀ s, (qCh v a s).2.2.2.1 ≠ some a := by
  refine ⟨⟨fun k => (wCh_u (vOk_1 h k) a).1, fun s k hk => ?_, fun k => (wCh_u (vOk_1 h k) a).2.1, fun k => (wCh_u (vOk_1 h k) a).2.2⟩, fun s hs => ?_⟩
  · have hk : (if (v s).2.2.2.1 = some a then none else (v s).2.2.2.1) = some k := hk
    split at hk
    · cases hk
    · exact h.2.1 s k hk
  · have hs : (if (v s).2.2.2.1 = some a then none else (v s).2.2.2.1) = some a := hs
    split at hs
    · cases hs
    · rename_i q; exact q hs
/-- an array's sites are arrays of what is below -/
theorem tEl_le (hu : uOk us) (h32 : us.length ≤ 32) {s t : Int} (h : tLe us s t = true) (ha : tAr t = true) (hs : 3 ≤ s) : tLe us (tEl s) (tEl t) = true ∧ tAr s = true := by
  have ha' : t = 3 ∨ (4 < t ∧ t % 2 = 1) := by
    unfold tAr at ha
    simpa using ha
  rcases (tLe_iff s t).mp h with q | q | ⟨q1, q2, q | q | ⟨q3, q4, q5, q6⟩⟩
  · rw [q]; exact ⟨tLe_refl _, ha⟩
  · omega
  · omega
  · omega
  · have hsa : tAr s = true := by
      unfold tAr
      have : 4 < s ∧ s % 2 = 1 := by omega
      simp [this]
    have := (tE_mono (us := us) h (by omega)).2
    rw [if_pos hsa, if_pos ha] at this
    exact ⟨this, hsa⟩
theorem wNl_v (hT : thG F dn up) (hz : z.2.1.length ≤ 48) {t : Int} (ht : t = 1 ∨ 2 ≤ t) : vl1 F us z t (wNl t) := by
  unfold wNl
  by_cases c : t = 1
  · rw [if_pos c, c]
    exact ⟨u1_R0 ⟨hT.2.2.2.1, hT.2.2.2.1, Int.le_refl _⟩, rfl, rfl, (by show 1 ≠ 0; decide)⟩
  · rw [if_neg c]
    exact ⟨u1_S0 ⟨62, onS_at 62⟩ (fun j hj => Or.inl (onS_eq hj)) (sV_54 hz) c, rfl, rfl, (by show 2 ≠ 0; decide)⟩
end PGK
