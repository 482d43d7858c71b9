/-! The proof: what is known is of the types. -/
def wTy (us : List Int) (z : jL) (t : Int) (w : jW) : Prop := (t = 1 → w.1 = 1) ∧ (2 ≤ t → w.1 = 2 ∧ ∀ s, w.2.2.1 s = true → s = 62 ∨ pB us z t s = true)
def qTy (us : List Int) (z : jL) (t : Nat → Int) (u : jQ) : Prop := ∀ k, wTy us z (t k) (u k)
section PTY
variable {ns : List (List Int)} {us : List Int} {fl : List (List Int × Nat × Int)} {bl : List jB} {z : jL} {b : Nat} {xb : jB} {e : Nat × Nat × Nat × Nat} {M : Nat → Nat} {F : Int → Prop}
/-- the types of sites are types -/
def sOk (us : List Int) (z : jL) : Prop := ∀ s, sVd z s = true → tV us (sTp z s) ∧ 3 ≤ sTp z s
theorem pB_le (hu : uOk us) (h32 : us.length ≤ 32) (hs : sOk us z) {t t' : Int} (vt' : tV us t') (h : tLe us t t' = true) {s : Nat} (hb : pB us z t s = true) : pB us z t' s = true := by
  unfold pB at hb ⊢
  rw [Bool.and_eq_true] at hb ⊢
  exact ⟨hb.1, tLe_trans hu h32 (hs s hb.1).1 vt' hb.2 h⟩
theorem wTy_le (hu : uOk us) (h32 : us.length ≤ 32) (hs : sOk us z) {t t' : Int} (vt' : tV us t') (h : tLe us t t' = true) {w : jW} (hw : wTy us z t w) : wTy us z t' w := by
  rcases (tLe_iff t t').mp h with q | q | ⟨q1, q2, -⟩
  · rw [← q]; exact hw
  · exact ⟨fun r => by omega, fun r => by omega⟩
  · refine ⟨fun r => by omega, fun _ => ⟨(hw.2 q1).1, fun s hs' => ?_⟩⟩
    rcases (hw.2 q1).2 s hs' with r | r
    · exact Or.inl r
    · exact Or.inr (pB_le hu h32 hs vt' h r)
theorem tLe_nz {t t' : Int} (h : tLe us t t' = true) (h0 : t' ≠ 0) : t = t' ∨ (2 ≤ t ∧ 2 < t') := by
  rcases (tLe_iff t t').mp h with q | q | ⟨q1, q2, -⟩
  · exact Or.inl q
  · exact absurd q h0
  · exact Or.inr ⟨q1, q2⟩
theorem allR_at {f : Nat → Bool} : ∀ (d k : Nat), allR f d k = true → ∀ j, k ≤ j → j < k + d → f j = true := by
  intro d
  induction d with
  | zero => intro k _ j h1 h2; omega
  | succ d ih =>
    intro k h j h1 h2
    rw [allR, Bool.and_eq_true] at h
    by_cases c : j = k
    · rw [c]; exact h.1
    · exact ih (k + 1) h.2 j (by omega) (by omega)
theorem tAr_2 {t : Int} (h : (decide (t = 2) || tAr t) = true) : 2 ≤ t := by
  rw [Bool.or_eq_true] at h
  rcases h with r | r
  · have := of_decide_eq_true r; omega
  · unfold tAr at r
    by_cases e3 : t = 3
    · omega
    · simp [e3] at r
      omega
theorem tEl_nz {t : Int} (h : tAr t = true) : tEl t = 1 ∨ 4 ≤ tEl t := by
  unfold tAr at h
  unfold tEl
  by_cases c : t = 3
  · rw [if_pos c]; exact Or.inl rfl
  · rw [if_neg c]
    right
    have : 4 < t := by
      simp [c] at h
      exact h.1
    omega
/-- the kinds that an instruction wants are there -/
theorem pKd_of (h : tCx ns us fl bl z b xb e M) {i : Nat} {x : jC} (h1 : e.1 ≤ i) (h2 : i < e.2.1) (hx : z.1[i]? = some x) (h0 : M i ≠ 0) {t : Nat → Int} (ht : ∀ k, tV us (t k)) {u : jQ} (hsd : x.1 = 40 → 1 ≤ tkX bl x) (hq : qTy us z t u) (ho : tHo us fl bl xb x (hgt (M i)) t = true) : pKd bl x (hgt (M i)) u := by
  obtain ⟨hbo, hcw, hi⟩ := cW_at h h1 h2 hx
  obtain ⟨t1, t2, t3⟩ := tk_b h h1 h2 hx h0
  obtain ⟨g, hg⟩ : ∃ g, g = hgt (M i) := ⟨_, rfl⟩
  rw [← hg] at ho t1 t2 t3 ⊢
  have K1 : ∀ k, t k = 1 → (u k).1 = 1 := fun k q => (hq k).1 q
  have K2 : ∀ k, 2 ≤ t k → (u k).1 = 2 := fun k q => ((hq k).2 q).1
  have KN : ∀ k, t k = 1 ∨ 2 ≤ t k → (u k).1 ≠ 0 := fun k q => by
    rcases q with q | q
    · rw [K1 k q]; decide
    · rw [K2 k q]; decide
  have gen : ∀ _ : Unit, (x.1 ≠ 2 ∧ x.1 ≠ 4 ∧ x.1 ≠ 43 ∧ ¬ (x.1 = 39 ∨ x.1 = 40)) → ∀ k, k < tkT x.1 → tSu us fl xb x (wn x.1 k) (t (12 + g - tkT x.1)) (t (12 + g - tkT x.1 + k)) = true := by
    intro _ hn k hk
    rw [tHo_g hn, (tkX_n hn.2.2.2).1] at ho
    exact allR_at _ _ ho k (by omega) (by omega)
  have tke : ¬ (x.1 = 39 ∨ x.1 = 40) → tkT x.1 ≤ g := fun hn => by rw [← (tkX_n (bl := bl) hn).1]; exact t1
  have tpos : ∀ k, 0 ≤ t k := fun k => (ht k).1
  have nz : ∀ k, t k ≠ 0 → (u k).1 ≠ 0 := fun k q => KN k (by have := tpos k; omega)
  have leq : ∀ k t', t' ≠ 0 → (t' = 1 ∨ 2 ≤ t') → tLe us (t k) t' = true → (u k).1 ≠ 0 ∧ (2 ≤ t' → (u k).1 = 2) := by
    intro k t' h0 h1 h2
    rcases tLe_nz h2 h0 with q | q
    · rw [← q] at h1 ⊢
      exact ⟨KN k h1, K2 k⟩
    · exact ⟨KN k (Or.inr q.1), fun _ => K2 k q.1⟩
  have s0 : ∀ (a c : Nat), a = c → t a = t c := fun a c q => by rw [q]
  refine ⟨fun c => ?_, fun c => ?_, fun c => ?_, fun c => ?_, fun c => ?_, fun c => ?_, fun c => ?_, fun c => ?_, fun c => ?_, fun c => ?_, fun c => ?_, fun c => ?_⟩
  · unfold tHo at ho
    rw [if_pos c] at ho
    exact nz _ (of_decide_eq_true ho)
  · unfold tHo at ho
    rw [if_neg (by omega), if_pos c] at ho
    exact K1 _ (of_decide_eq_true ho)
  · obtain ⟨a1, a2, a3⟩ := tk_w2 x.1 hcw.1 c
    have hn : x.1 ≠ 2 ∧ x.1 ≠ 4 ∧ x.1 ≠ 43 ∧ ¬ (x.1 = 39 ∨ x.1 = 40) := ⟨by omega, by omega, by omega, by omega⟩
    have b1 := gen () hn 0 (by omega)
    have b2 := gen () hn 1 (by omega)
    have hg2 := tke hn.2.2.2
    rw [a1, a2] at b1
    rw [a1, a3] at b2
    have b1' : t (12 + g - 2 + 0) = 1 := of_decide_eq_true b1
    have b2' : t (12 + g - 2 + 1) = 1 := of_decide_eq_true b2
    rw [show 12 + g - 2 + 1 = 12 + g - 1 by omega] at b2'
    exact ⟨K1 _ b2', K1 _ b1', by omega⟩
  · by_cases c45 : x.1 = 18 ∨ x.1 = 31 ∨ x.1 = 45
    · obtain ⟨a1, a2⟩ := tk_I x.1 hcw.1 c45
      have hn : x.1 ≠ 2 ∧ x.1 ≠ 4 ∧ x.1 ≠ 43 ∧ ¬ (x.1 = 39 ∨ x.1 = 40) := ⟨by omega, by omega, by omega, by omega⟩
      have b1 := gen () hn 0 (by omega)
      have hg1 := tke hn.2.2.2
      rw [a1, a2] at b1
      have b1' : t (12 + g - 1 + 0) = 1 := of_decide_eq_true b1
      exact ⟨K1 _ b1', by omega⟩
    · exact absurd c c45
  · have hn : x.1 ≠ 2 ∧ x.1 ≠ 4 ∧ x.1 ≠ 43 ∧ ¬ (x.1 = 39 ∨ x.1 = 40) := ⟨by omega, by omega, by omega, by omega⟩
    have hg1 := tke hn.2.2.2
    have cc : x.1 = 26 ∨ x.1 = 27 ∨ x.1 = 37 ∨ x.1 = 38 ∨ x.1 = 32 ∨ x.1 = 35 ∨ x.1 = 41 := by omega
    clear c
    have r26 : ∀ _ : Unit, x.1 = 26 ∨ x.1 = 27 ∨ x.1 = 37 ∨ x.1 = 38 → (u (12 + g - 1)).1 = 2 ∧ 1 ≤ g := by
      intro _ q
      obtain ⟨a1, a2⟩ := tk_R x.1 hcw.1 q
      have b1 := gen () hn 0 (by omega)
      rw [a1, a2] at b1
      have b1' : 2 ≤ t (12 + g - 1 + 0) := of_decide_eq_true b1
      exact ⟨K2 _ b1', by omega⟩
    rcases cc with q | q | q | q | q | q | q
    · exact r26 () (by omega)
    · exact r26 () (by omega)
    · exact r26 () (by omega)
    · exact r26 () (by omega)
    · have b1 := gen () hn 0 (by rw [q, tk_sp.1]; decide)
      rw [q, tk_sp.1] at b1 hg1
      have b1' : (decide (t (12 + g - 1 + 0) = 2) || tAr (t (12 + g - 1 + 0))) = true := b1
      rw [Nat.add_zero] at b1'
      exact ⟨K2 _ (tAr_2 b1'), by omega⟩
    · have b1 := gen () hn 0 (by rw [q, tk_sp.2.2.2.1]; decide)
      rw [q, tk_sp.2.2.2.1] at b1 hg1
      have b1' : tLe us (t (12 + g - 1 + 0)) (4 + 2 * x.2.2.1) = true := b1
      obtain ⟨f, c, y, q1, q2, q3, q4, -⟩ := tFty_v h hcw (Or.inl q)
      rw [Nat.add_zero] at b1'
      exact ⟨(leq _ _ (by omega) (by omega) b1').2 (by omega), by omega⟩
    · have b1 := gen () hn 0 (by rw [q, tk_sp.2.2.2.2.2.1]; decide)
      rw [q, tk_sp.2.2.2.2.2.1] at b1 hg1
      have b1' : tLe us (t (12 + g - 1 + 0)) 6 = true := b1
      rw [Nat.add_zero] at b1'
      exact ⟨(leq _ _ (by omega) (by omega) b1').2 (by omega), by omega⟩
  · obtain ⟨a1, a2, a3⟩ := tk_RR x.1 hcw.1 c
    have hn : x.1 ≠ 2 ∧ x.1 ≠ 4 ∧ x.1 ≠ 43 ∧ ¬ (x.1 = 39 ∨ x.1 = 40) := ⟨by omega, by omega, by omega, by omega⟩
    have b1 := gen () hn 0 (by omega)
    have b2 := gen () hn 1 (by omega)
    have hg2 := tke hn.2.2.2
    rw [a1, a2] at b1
    rw [a1, a3] at b2
    have b1' : 2 ≤ t (12 + g - 2 + 0) := of_decide_eq_true b1
    have b2' : 2 ≤ t (12 + g - 2 + 1) := of_decide_eq_true b2
    rw [show 12 + g - 2 + 1 = 12 + g - 1 by omega] at b2'
    exact ⟨K2 _ b2', K2 _ b1', by omega⟩
  · have hn : x.1 ≠ 2 ∧ x.1 ≠ 4 ∧ x.1 ≠ 43 ∧ ¬ (x.1 = 39 ∨ x.1 = 40) := ⟨by omega, by omega, by omega, by omega⟩
    have b1 := gen () hn 0 (by rw [c, tk_sp.2.1]; decide)
    have b2 := gen () hn 1 (by rw [c, tk_sp.2.1]; decide)
    have hg2 := tke hn.2.2.2
    rw [c, tk_sp.2.1] at b1 b2 hg2
    have b1' : (decide (t (12 + g - 2 + 0) = 2) || tAr (t (12 + g - 2 + 0))) = true := b1
    have b2' : t (12 + g - 2 + 1) = 1 := of_decide_eq_true b2
    rw [show 12 + g - 2 + 1 = 12 + g - 1 by omega] at b2'
    rw [Nat.add_zero] at b1'
    exact ⟨K1 _ b2', K2 _ (tAr_2 b1'), by omega⟩
  · have hn : x.1 ≠ 2 ∧ x.1 ≠ 4 ∧ x.1 ≠ 43 ∧ ¬ (x.1 = 39 ∨ x.1 = 40) := ⟨by omega, by omega, by omega, by omega⟩
    have b1 := gen () hn 0 (by rw [c, tk_sp.2.2.1]; decide)
    have b2 := gen () hn 1 (by rw [c, tk_sp.2.2.1]; decide)
    have b3 := gen () hn 2 (by rw [c, tk_sp.2.2.1]; decide)
    have hg2 := tke hn.2.2.2
    rw [c, tk_sp.2.2.1] at b1 b2 b3 hg2
    have b1' : (decide (t (12 + g - 3 + 0) = 2) || tAr (t (12 + g - 3 + 0))) = true := b1
    have b2' : t (12 + g - 3 + 1) = 1 := of_decide_eq_true b2
    have b3' : (if t (12 + g - 3) = 2 then decide (t (12 + g - 3 + 2) ≠ 0) else tLe us (t (12 + g - 3 + 2)) (tEl (t (12 + g - 3)))) = true := b3
    rw [show 12 + g - 3 + 1 = 12 + g - 2 by omega] at b2'
    rw [show 12 + g - 3 + 2 = 12 + g - 1 by omega] at b3'
    rw [Nat.add_zero] at b1'
    refine ⟨?_, K1 _ b2', K2 _ (tAr_2 b1'), by omega⟩
    by_cases c2 : t (12 + g - 3) = 2
    · rw [if_pos c2] at b3'
      exact nz _ (of_decide_eq_true b3')
    · rw [if_neg c2] at b3'
      rw [decide_eq_false c2, Bool.false_or] at b1'
      have := tEl_nz b1'
      exact (leq _ _ (by omega) (by omega) b3').1
  · have hn : x.1 ≠ 2 ∧ x.1 ≠ 4 ∧ x.1 ≠ 43 ∧ ¬ (x.1 = 39 ∨ x.1 = 40) := ⟨by omega, by omega, by omega, by omega⟩
    have b1 := gen () hn 0 (by rw [c, tk_sp.2.2.2.2.1]; decide)
    have b2 := gen () hn 1 (by rw [c, tk_sp.2.2.2.2.1]; decide)
    have hg2 := tke hn.2.2.2
    rw [c, tk_sp.2.2.2.2.1] at b1 b2 hg2
    have b1' : tLe us (t (12 + g - 2 + 0)) (4 + 2 * x.2.2.1) = true := b1
    have b2' : tLe us (t (12 + g - 2 + 1)) (tFty fl x) = true := b2
    obtain ⟨f, c', y, q1, q2, q3, q4, q5, q6, q7, q8⟩ := tFty_v h hcw (Or.inr c)
    rw [show 12 + g - 2 + 1 = 12 + g - 1 by omega] at b2'
    rw [Nat.add_zero] at b1'
    exact ⟨(leq _ _ (by omega) (by omega) b2').1, (leq _ _ (by omega) (by omega) b1').2 (by omega), by omega⟩
  · refine ⟨t1, fun k hk => ?_⟩
    unfold tHo at ho
    rw [if_neg (by omega), if_neg (by omega), if_neg (by omega), if_pos c] at ho
    have b1 := allR_at _ _ ho k (by omega) (by omega)
    obtain ⟨f, c', y, q1, q2, q3, q4, q5, q6, q7, q8, q9⟩ := told_v h hcw c
    rcases q8 k (by omega) with r | r
    · exact (leq _ _ (by omega) (by omega) b1).1
    · exact (leq _ _ (by omega) (by omega) b1).1
  · obtain ⟨f, c', y, q1, q2, q3, q4, q5, q6, q7, q8, q9⟩ := told_v h hcw (Or.inr c)
    have hm := hcw.2.2.2.2.2.2.1 (Or.inr c)
    obtain ⟨f2, c2, y2, m1, m2, m3, -⟩ := hm
    have h1p : 1 ≤ tkX bl x := hsd c
    unfold tHo at ho
    rw [if_neg (by omega), if_neg (by omega), if_neg (by omega), if_pos (Or.inr c)] at ho
    have b1 := allR_at _ _ ho 0 (by omega) (by omega)
    have et : tTold bl x 0 = 4 + 2 * x.2.2.1 := by unfold tTold; rw [if_pos ⟨rfl, c⟩]
    rw [et, Nat.add_zero] at b1
    exact ⟨(leq _ _ (by omega) (by omega) b1).2 (by omega), h1p⟩
  · have hn : x.1 ≠ 2 ∧ x.1 ≠ 4 ∧ x.1 ≠ 43 ∧ ¬ (x.1 = 39 ∨ x.1 = 40) := ⟨by omega, by omega, by omega, by omega⟩
    have b1 := gen () hn 0 (by rw [c, tk_sp.2.2.2.2.2.2]; decide)
    have hg2 := tke hn.2.2.2
    rw [c, tk_sp.2.2.2.2.2.2] at b1 hg2
    have b1' : (decide (xb.rs ≠ -1) && tLe us (t (12 + g - 1 + 0)) xb.rs) = true := b1
    rw [Bool.and_eq_true, Nat.add_zero] at b1'
    have hxb := h.2.2.2.2.2.2.2.2.2.2.2.1
    have tb := (h.2.2.2.2.2.2.2.2.1 xb (List.mem_of_getElem? hxb)).2
    have hrs : xb.rs ≠ -1 := of_decide_eq_true b1'.1
    have := (tOk_V (tb.resolve_left hrs) h.2.2.2.2.1).2
    exact ⟨(leq _ _ (by omega) (by omega) b1'.2).1, by omega⟩
end PTY
