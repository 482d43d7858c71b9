/-! The proof: what the bits of a slot mean of it. -/
def wX (w : jW) : Prop := (∀ k, k < 12 → w.2.2.2.2 (24 + k) = true → 0 ≤ w.2.1.1) ∧ ∀ k, k < 12 → w.2.2.2.2 (36 + k) = true → w.2.2.1 62 = false
def qX (u : jQ) : Prop := ∀ k, wX (u k)
/-- lengths are not below 0 -/
def tXl (σ : jG) : Prop := (∀ k w, σ.1 k = some w → wX w) ∧ ∀ s w, s < 54 → σ.1 (2646 + s) = some w → 0 ≤ w.2.1.1
section PMX
variable {F : Int → Prop} {dn up : Int → Int} {G : jZ} {σ : jG} {u v : jQ}
theorem wX_n {w : jW} (h : w.2.2.2.2 = noS) : wX w := ⟨(fun k _ q => by rw [h] at q; cases q), (fun k _ q => by rw [h] at q; cases q)⟩
theorem wX_R (r : jR) : wX (wR r) := wX_n rfl
theorem wX_U : wX wU := wX_n rfl
theorem wX_S (a : Nat → Bool) : wX (wS a) := wX_n rfl
theorem wX_br (w : jW) : wX (wBr w) := wX_n rfl
theorem wX_nl (t : Int) : wX (wNl t) := by
  unfold wNl
  split
  · exact wX_R _
  · exact wX_S _
theorem wX_J {a c : jW} (ha : wX a) (hc : wX c) : wX (wJn a c) := by
  unfold wJn
  split
  · refine ⟨fun k hk q => ?_, fun k hk q => ?_⟩
    · have q : (a.2.2.2.2 (24 + k) && c.2.2.2.2 (24 + k)) = true := q
      rw [Bool.and_eq_true] at q
      have h1 := ha.1 k hk q.1
      have h2 := hc.1 k hk q.2
      show 0 ≤ min a.2.1.1 c.2.1.1
      omega
    · have q : (a.2.2.2.2 (36 + k) && c.2.2.2.2 (36 + k)) = true := q
      rw [Bool.and_eq_true] at q
      show (a.2.2.1 62 || c.2.2.1 62) = false
      rw [ha.2 k hk q.1, hc.2 k hk q.2]; rfl
  · exact wX_U
theorem qX_up (h : qX u) {k : Nat} {w : jW} (hw : wX w) : qX (qUp u k w) := by
  intro j
  by_cases e : j = k
  · rw [e, qUp_at]; exact hw
  · rw [qUp_ne e]; exact h j
theorem qX_rs (h : qX u) (l g : Nat) : qX (qRs l g u) := by
  intro j
  unfold qRs
  split
  · exact h j
  · exact wX_U
theorem wX_ch {w : jW} (h : wX w) (a : Nat) : wX (wCh w a) := by
  refine ⟨fun k hk q => ?_, fun k hk q => ?_⟩
  · have q : (w.2.2.2.2 (24 + k) && !decide ((24 + k) % 12 = a)) = true := q
    rw [Bool.and_eq_true] at q
    exact h.1 k hk q.1
  · have q : (w.2.2.2.2 (36 + k) && !decide ((36 + k) % 12 = a)) = true := q
    rw [Bool.and_eq_true] at q
    exact h.2 k hk q.1
theorem wX_st {w : jW} (h : wX w) (K : Nat → Bool) : wX (wSt w (sAnd w.2.2.1 K)) := by
  refine ⟨fun k hk q => h.1 k hk q, fun k hk q => ?_⟩
  show (w.2.2.1 62 && K 62) = false
  rw [h.2 k hk q, Bool.false_and]
theorem qX_kp (h : qX u) {s : Nat} {K : Nat → Bool} (hv : qKp u s K = some v) : qX v := by
  unfold qKp at hv
  split at hv
  · cases hv; exact h
  · split at hv
    · cases hv
      exact qX_up h (wX_st (h _) K)
    · cases hv
theorem com_lo {a c q : jR} (h : kCom a c = some q) : q.1 = max a.1 c.1 := by
  unfold kCom at h
  split at h
  · cases h
  · cases h; rfl
theorem qX_nr (h : qX u) {s : Nat} {r : jR} {f : Nat → Bool} (hf : ∀ k, k < 12 → f (24 + k) = true → 0 ≤ r.1) (hf2 : ∀ k, k < 12 → f (36 + k) = false) (hv : qNr u s r f = some v) : qX v := by
  unfold qNr at hv
  split at hv
  · cases hv; exact h
  · rename_i k _
    split at hv
    · cases hv
    · rename_i q hq
      cases hv
      have e := com_lo hq
      refine qX_up h ⟨fun j hj b => ?_, fun j hj b => ?_⟩
      · have b : ((u k).2.2.2.2 (24 + j) || f (24 + j)) = true := b
        rw [Bool.or_eq_true] at b
        show 0 ≤ q.1
        rcases b with b | b
        · have := (h k).1 j hj b; omega
        · have := hf j hj b; omega
      · have b : ((u k).2.2.2.2 (36 + j) || f (36 + j)) = true := b
        rw [hf2 j hj, Bool.or_false] at b
        exact (h k).2 j hj b
theorem qX_dr (h : qX u) {r : Nat} (hv : pDr u r = some v) : qX v := by
  unfold pDr at hv
  split at hv
  · exact qX_kp h hv
  · cases hv
/-- copies are of locals -/
def qC2 (u : jQ) : Prop := ∀ k c, (u k).2.2.2.1 = some c → c < 12
theorem qC2_dr (h : qC2 u) {r : Nat} (hv : pDr u r = some v) : qC2 v := by
  unfold pDr at hv
  split at hv
  · unfold qKp at hv
    split at hv
    · cases hv; exact h
    · split at hv
      · rename_i k _ _
        cases hv
        intro j c
        by_cases e : j = k
        · rw [e, qUp_at]; exact h k c
        · rw [qUp_ne e]; exact h j c
      · cases hv
  · cases hv
theorem qX_ix (h : qX u) (hc : qC2 u) {r x : Nat} (hv : pIx dn up σ u r x = some v) : qX v := by
  have key : ∀ b, 24 ≤ b → oOn (u r).2.2.2.1 12 b = false := by
    intro b hb
    cases hr : (u r).2.2.2.1 with
    | none => rfl
    | some k =>
      have := hc r k hr
      show decide (b = 12 + k) = false
      exact decide_eq_false (by omega)
  unfold pIx at hv
  split at hv
  · cases hv
  · split at hv
    · cases hv
    · exact qX_nr h (fun k hk q => by rw [key _ (by omega)] at q; cases q) (fun k hk => key _ (by omega)) hv
theorem fJ_X {f : Nat → Option jW} {s : Nat → Bool} (h : ∀ m w, f m = some w → wX w) : ∀ n w, fJ f s n = some w → wX w := by
  intro n
  induction n with
  | zero => intro w q; cases q
  | succ n ih =>
    intro w q
    have q : oJ (fJ f s n) (if s n = true then f n else none) = some w := q
    have hb : ∀ v, (if s n = true then f n else none) = some v → wX v := by
      intro v hv
      split at hv
      · exact h n v hv
      · cases hv
    revert q hb
    generalize (if s n = true then f n else none) = o
    cases hf : fJ f s n with
    | none => intro q hb; exact hb w q
    | some a =>
      cases o with
      | none => intro q hb; cases q; exact ih _ hf
      | some c => intro q hb; cases q; exact wX_J (ih _ hf) (hb c rfl)
theorem wJn_lo {a c : jW} (ha : 0 ≤ a.2.1.1) (hc : 0 ≤ c.2.1.1) : 0 ≤ (wJn a c).2.1.1 := by
  unfold wJn
  split
  · show 0 ≤ min a.2.1.1 c.2.1.1; omega
  · show (0 : Int) ≤ 0; omega
theorem fJ_lo {f : Nat → Option jW} {s : Nat → Bool} : ∀ n, (∀ m w, m < n → f m = some w → 0 ≤ w.2.1.1) → ∀ w, fJ f s n = some w → 0 ≤ w.2.1.1 := by
  intro n
  induction n with
  | zero => intro _ w q; cases q
  | succ n ih =>
    intro h w q
    have q : oJ (fJ f s n) (if s n = true then f n else none) = some w := q
    have hb : ∀ v, (if s n = true then f n else none) = some v → 0 ≤ v.2.1.1 := by
      intro v hv
      split at hv
      · exact h n v (by omega) hv
      · cases hv
    have ih := ih (fun m w hm => h m w (by omega))
    revert q hb
    generalize (if s n = true then f n else none) = o
    cases hf : fJ f s n with
    | none => intro q hb; exact hb w q
    | some a =>
      cases o with
      | none => intro q hb; cases q; exact ih _ hf
      | some c => intro q hb; cases q; exact wJn_lo (ih _ hf) (hb c rfl)
theorem pGo_X (hσ : tXl σ) {x : jC} {h : Nat} (hu : qX u) (hc : qC2 u) (hn : x.1 = 31 → x.2.2.1.toNat ≠ 62) (hv : pGo G σ x h u = some v) : qX v := by
  unfold pGo at hv
  by_cases c : x.1 = 0
  · rw [if_pos c] at hv; cases hv; exact qX_up hu (wX_R _)
  rw [if_neg c] at hv; clear c
  by_cases c : x.1 = 1
  · rw [if_pos c] at hv; cases hv; exact qX_up hu (wX_S _)
  rw [if_neg c] at hv; clear c
  by_cases c : x.1 = 2
  · rw [if_pos c] at hv; cases hv; exact qX_up hu (hu _)
  rw [if_neg c] at hv; clear c
  by_cases c : x.1 = 3
  · rw [if_pos c] at hv; cases hv; exact qX_up (fun k => wX_ch (hu k) _) (wX_ch (hu _) _)
  rw [if_neg c] at hv; clear c
  by_cases c : x.1 = 4
  · rw [if_pos c] at hv; cases hv; exact qX_up (fun k => wX_ch (hu k) _) (wX_R _)
  rw [if_neg c] at hv; clear c
  by_cases c : x.1 = 5
  · rw [if_pos c] at hv; cases hv; exact qX_up hu (hu _)
  rw [if_neg c] at hv; clear c
  by_cases c : x.1 = 6 ∨ x.1 = 45 ∨ x.1 = 19
  · rw [if_pos c] at hv; cases hv; exact hu
  rw [if_neg c] at hv; clear c
  by_cases c : x.1 = 7
  · rw [if_pos c] at hv; cases hv; exact qX_up (qX_up hu (hu _)) (hu _)
  rw [if_neg c] at hv; clear c
  by_cases c : 8 ≤ x.1 ∧ x.1 ≤ 17
  · rw [if_pos c] at hv
    obtain ⟨r, r1, r2⟩ := oB_some hv
    cases r2; exact qX_up hu (wX_R _)
  rw [if_neg c] at hv; clear c
  by_cases c : x.1 = 18
  · rw [if_pos c] at hv; cases hv; exact qX_up hu (wX_R _)
  rw [if_neg c] at hv; clear c
  by_cases c : x.1 = 30
  · rw [if_pos c] at hv; cases hv; exact qX_up hu (wX_S _)
  rw [if_neg c] at hv; clear c
  by_cases c : x.1 = 31
  · rw [if_pos c] at hv
    split at hv
    · cases hv
    · cases hv
      refine qX_up hu ⟨fun k hk q => show (0 : Int) ≤ 0 by omega, fun k hk q => ?_⟩
      exact decide_eq_false (fun e => hn c e.symm)
  rw [if_neg c] at hv; clear c
  by_cases c : x.1 = 32
  · rw [if_pos c] at hv
    obtain ⟨a, a1, a2⟩ := oB_some hv
    obtain ⟨l, l1, l2⟩ := oB_some a2
    cases l2
    refine qX_up (qX_dr hu a1) ⟨fun k hk q => ?_, fun k hk q => rfl⟩
    exact fJ_lo 54 (fun s w hs hw => hσ.2 s w hs hw) l l1
  rw [if_neg c] at hv; clear c
  by_cases c : x.1 = 33
  · rw [if_pos c] at hv
    obtain ⟨a, a1, a2⟩ := oB_some hv
    obtain ⟨b, b1, b2⟩ := oB_some a2
    obtain ⟨l, l1, l2⟩ := oB_some b2
    cases l2
    exact qX_up (qX_ix (qX_dr hu a1) (qC2_dr hc a1) b1) (fJ_X (fun m w q => hσ.1 _ w q) 54 l l1)
  rw [if_neg c] at hv; clear c
  by_cases c : x.1 = 34
  · rw [if_pos c] at hv
    obtain ⟨a, a1, a2⟩ := oB_some hv
    obtain ⟨b, b1, b2⟩ := oB_some a2
    split at b2
    · cases b2; exact qX_ix (qX_dr hu a1) (qC2_dr hc a1) b1
    · cases b2
  rw [if_neg c] at hv; clear c
  by_cases c : x.1 = 35
  · rw [if_pos c] at hv
    obtain ⟨a, a1, a2⟩ := oB_some hv
    obtain ⟨l, l1, l2⟩ := oB_some a2
    cases l2
    exact qX_up (qX_dr hu a1) (fJ_X (fun m w q => hσ.1 _ w q) 54 l l1)
  rw [if_neg c] at hv; clear c
  by_cases c : x.1 = 36
  · rw [if_pos c] at hv; exact qX_dr hu hv
  rw [if_neg c] at hv; clear c
  by_cases c : x.1 = 37
  · rw [if_pos c] at hv
    split at hv
    · exact qX_kp (qX_up hu (wX_st (hu _) _)) hv
    · cases hv
  rw [if_neg c] at hv; clear c
  by_cases c : x.1 = 38
  · rw [if_pos c] at hv; cases hv; exact qX_up hu (wX_R _)
  rw [if_neg c] at hv; clear c
  by_cases c : x.1 = 39 ∨ x.1 = 40
  · rw [if_pos c] at hv
    obtain ⟨a, a1, a2⟩ := oB_some hv
    have ha : qX a := by
      split at a1
      · exact qX_dr hu a1
      · cases a1; exact hu
    split at a2
    · split at a2
      · cases a2; exact ha
      · obtain ⟨l, l1, l2⟩ := oB_some a2
        cases l2
        refine qX_up ha ?_
        unfold pRt at l1
        refine fJ_X (fun b v q => ?_) 48 l l1
        split at q
        · exact hσ.1 _ _ q
        · cases q
    · cases a2
  rw [if_neg c] at hv; clear c
  by_cases c : x.1 = 44
  · rw [if_pos c] at hv; cases hv; exact qX_up hu (wX_R _)
  rw [if_neg c] at hv; cases hv
/-- what is cut stays above -/
theorem ar_lo (hT : thG F dn up) {l h : Int} (h0 : 0 ≤ l) (hh : h ≤ 2147483647) : 0 ≤ (rAr dn up l h).1 := by
  unfold rAr
  rw [if_neg (by omega)]
  exact (hT.2.2.2.2.2.2.1 l (by omega)).2.2 0 hT.2.2.2.1 h0
theorem cut_lo (hT : thG F dn up) {a q : jR} {l h : Int} (ha : rOk F a) (h0 : 0 ≤ a.1) (hq : kCut dn up a l h = some q) : 0 ≤ q.1 := by
  have := (hT.1 _ ha.2.1).2
  unfold kCut at hq
  split at hq
  · cases hq
  · cases hq
    exact ar_lo hT (by omega) (by omega)
theorem wo_lo (hT : thG F dn up) {a c q : jR} (ha : rOk F a) (h0 : 0 ≤ a.1) (hq : kWo dn up a c = some q) : 0 ≤ q.1 := by
  have := (hT.1 _ ha.2.1).2
  unfold kWo at hq
  by_cases e : c.1 = c.2
  · rw [if_pos e] at hq
    by_cases f : (if a.2 = c.1 then a.2 - 1 else a.2) < (if a.1 = c.1 then a.1 + 1 else a.1)
    · rw [if_pos f] at hq; cases hq
    · rw [if_neg f] at hq
      cases hq
      refine ar_lo hT ?_ ?_
      · split <;> omega
      · split <;> omega
  · rw [if_neg e] at hq; cases hq; exact h0
theorem bit_rk {w : jW} (hw : wOk F w) (h2 : ∀ j, w.1 = 2 → w.2.2.2.2 j = true → 36 ≤ j) {k : Nat} (hk : k < 12) (hb : w.2.2.2.2 (24 + k) = true) : rOk F w.2.1 := by
  rcases hw.2.2 with q | q | q
  · rw [q] at hb; cases hb
  · exact q.2.1
  · have := h2 _ q.1 hb; omega
theorem pOrd_X (hT : thG F dn up) (hw : ∀ k, wOk F (u k)) (h2 : ∀ k j, (u k).1 = 2 → (u k).2.2.2.2 j = true → 36 ≤ j) (h : qX u) {a c : Nat} {ls : Bool} (hv : pOrd dn up u a c ls = some v) : qX v := by
  have cp : ∀ b, 24 ≤ b → oOn (u c).2.2.2.1 0 b = false := by
    intro b hb
    cases hr : (u c).2.2.2.1 with
    | none => rfl
    | some k =>
      have := (hw c).1 k hr
      show decide (b = 0 + k) = false
      exact decide_eq_false (by omega)
  unfold pOrd at hv
  split at hv
  · rename_i l r hl hr
    cases hv
    have hbit : ∀ b, 24 ≤ b → ((u a).2.2.2.2 b || (decide (b < 24) && (u c).2.2.2.2 b) || (ls && decide (12 ≤ b) && decide (b < 24) && (u c).2.2.2.2 (b + 12)) || (ls && oOn (u c).2.2.2.1 0 b)) = true → (u a).2.2.2.2 b = true := by
      intro b hb q
      rw [cp b hb, decide_eq_false (show ¬ b < 24 by omega), Bool.false_and, Bool.and_false, Bool.and_false, Bool.false_and, Bool.or_false, Bool.or_false, Bool.or_false] at q
      exact q
    refine qX_up (qX_up h ⟨fun k hk q => ?_, fun k hk q => ?_⟩) ⟨fun k hk q => ?_, fun k hk q => ?_⟩
    · have q := hbit _ (by omega) q
      exact cut_lo hT (bit_rk (hw a) (h2 a) hk q) ((h a).1 k hk q) hl
    · have q := hbit _ (by omega) q
      exact (h a).2 k hk q
    · exact cut_lo hT (bit_rk (hw c) (h2 c) hk q) ((h c).1 k hk q) hr
    · exact (h c).2 k hk q
  · cases hv
theorem pEq_X (h : qX u) {a c : Nat} (hv : pEq u a c = some v) : qX v := by
  unfold pEq at hv
  split at hv
  · rename_i r hr
    cases hv
    have e := com_lo hr
    have hl : ∀ k, k < 12 → (u a).2.2.2.2 (24 + k) = true ∨ (u c).2.2.2.2 (24 + k) = true → 0 ≤ r.1 := by
      intro k hk q
      rcases q with q | q
      · have := (h a).1 k hk q; omega
      · have := (h c).1 k hk q; omega
    have i2 : ∀ k, iS (sOr (u a).2.2.2.2 (u c).2.2.2.2) (36 + k) = false := fun k => by
      unfold iS
      rw [decide_eq_false (by omega), Bool.false_and]
    have i1 : ∀ k, iS (sOr (u a).2.2.2.2 (u c).2.2.2.2) (24 + k) = true → (u a).2.2.2.2 (24 + k) = true ∨ (u c).2.2.2.2 (24 + k) = true := fun k q => by
      unfold iS sOr at q
      rw [Bool.and_eq_true, Bool.or_eq_true] at q
      exact q.2
    refine qX_up (qX_up h ⟨fun k hk q => ?_, fun k hk q => ?_⟩) ⟨fun k hk q => ?_, fun k hk q => ?_⟩
    · have q : ((u a).2.2.2.2 (24 + k) || iS (sOr (u a).2.2.2.2 (u c).2.2.2.2) (24 + k)) = true := q
      rw [Bool.or_eq_true] at q
      exact hl k hk (q.elim Or.inl (i1 k))
    · have q : ((u a).2.2.2.2 (36 + k) || iS (sOr (u a).2.2.2.2 (u c).2.2.2.2) (36 + k)) = true := q
      rw [i2, Bool.or_false] at q
      exact (h a).2 k hk q
    · have q : ((u c).2.2.2.2 (24 + k) || iS (sOr (u a).2.2.2.2 (u c).2.2.2.2) (24 + k)) = true := q
      rw [Bool.or_eq_true] at q
      exact hl k hk (q.elim Or.inr (i1 k))
    · have q : ((u c).2.2.2.2 (36 + k) || iS (sOr (u a).2.2.2.2 (u c).2.2.2.2) (36 + k)) = true := q
      rw [i2, Bool.or_false] at q
      exact (h c).2 k hk q
  · cases hv
theorem pNe_X (hT : thG F dn up) (hw : ∀ k, wOk F (u k)) (h2 : ∀ k j, (u k).1 = 2 → (u k).2.2.2.2 j = true → 36 ≤ j) (h : qX u) {a c : Nat} (hv : pNe dn up u a c = some v) : qX v := by
  unfold pNe at hv
  split at hv
  · rename_i l r hl hr
    cases hv
    refine qX_up (qX_up h ⟨fun k hk q => ?_, fun k hk q => ?_⟩) ⟨fun k hk q => ?_, fun k hk q => ?_⟩
    · exact wo_lo hT (bit_rk (hw a) (h2 a) hk q) ((h a).1 k hk q) hl
    · exact (h a).2 k hk q
    · exact wo_lo hT (bit_rk (hw c) (h2 c) hk q) ((h c).1 k hk q) hr
    · exact (h c).2 k hk q
  · cases hv
theorem qPs_X (h : qX u) {s : Nat} (hv : qPs u s = some v) : qX v := by
  refine qX_nr h (fun k hk q => ?_) (fun k hk => ?_) hv
  · unfold iS at q
    rw [Bool.and_eq_true] at q
    exact (h s).1 k hk q.2
  · unfold iS
    rw [decide_eq_false (by omega), Bool.false_and]
theorem pWy_X (hT : thG F dn up) (hw : ∀ k, wOk F (u k)) (h2 : ∀ k j, (u k).1 = 2 → (u k).2.2.2.2 j = true → 36 ≤ j) (h : qX u) {rl g : Nat} (hv : pWy dn up rl u g = some v) : qX v := by
  unfold pWy at hv
  by_cases c : rl ≤ 25
  · rw [if_pos c] at hv
    obtain ⟨a, a1, a2⟩ := oB_some hv
    obtain ⟨b, b1, b2⟩ := oB_some a2
    have ha : qX a := by
      split at a1
      · exact pEq_X h a1
      split at a1
      · exact pNe_X hT hw h2 h a1
      split at a1
      · exact pOrd_X hT hw h2 h a1
      split at a1
      · exact pOrd_X hT hw h2 h a1
      split at a1
      · exact pOrd_X hT hw h2 h a1
      exact pOrd_X hT hw h2 h a1
    exact qPs_X (qPs_X ha b1) b2
  rw [if_neg c] at hv
  by_cases c26 : rl = 26 ∨ rl = 27
  · rw [if_pos c26] at hv
    generalize (if rl = 26 then onS 62 else sAl) = K at hv
    split at hv
    · exact qX_kp h hv
    · cases hv
  rw [if_neg c26] at hv
  split at hv
  · split at hv
    · obtain ⟨a, a1, a2⟩ := oB_some hv
      exact qX_kp (qX_kp h a1) a2
    · cases hv
  · cases hv; exact h
theorem pEn_X {y : jB} (low : Nat) {o : Option Nat} : qX (pEn y u low o) := by
  intro k
  unfold pEn
  split
  · cases o with
    | none => exact wX_br _
    | some s =>
      dsimp only
      split
      · exact wX_S _
      · exact wX_br _
  · exact wX_U
theorem pEd_X (hT : thG F (zDn G) (zUp G)) (hw : ∀ k, wOk F (u k)) (h2 : ∀ k j, (u k).1 = 2 → (u k).2.2.2.2 j = true → 36 ≤ j) (hσ : tXl σ) (hu : qX u) {i : Nat} {x : jC} (hn : x.1 = 31 → x.2.2.1.toNat ≠ 62) {lc : Nat → Nat} {j : Nat} {w : jQ} (hE : pEd G σ i x u lc j w) : qX w := by
  rcases hE with ⟨a1, v, a2, a3, a4⟩ | ⟨a1, a2, v, a3, a4⟩ | ⟨k, y, a1, a2, a3, a4, a5, a6, a7⟩ | ⟨a1, y, e', a2, a3, a4, a5⟩ | ⟨a1, a2, s, b, y, y', e', a3, a4, a5, a6, a7, a8, a9, a10⟩
  · rw [a4]
    exact qX_rs (pGo_X hσ hu (fun k c q => (hw k).1 c q) hn a2) _ _
  · rw [a3]
    rcases a4 with ⟨f1, -⟩ | ⟨f1, -⟩
    · exact qX_rs (pWy_X hT hw h2 hu f1) _ _
    · exact qX_rs (pWy_X hT hw h2 hu f1) _ _
  · rw [a7]
    exact qX_rs (qX_up hu (wX_S _)) _ _
  · rw [a5]
    exact qX_rs (pEn_X _) _ _
  · rw [a10]
    exact qX_rs (pEn_X _) _ _
theorem nl_lo (t : Int) : (wNl t).2.1.1 = 0 := by
  unfold wNl
  split <;> rfl
theorem pCo_lo {x : jC} {h s : Nat} {w : jW} (hs : s < 54) (hv : pCo G σ x h u (2646 + s) = some w) : 0 ≤ w.2.1.1 := by
  unfold pCo at hv
  split at hv
  · rw [if_neg (by omega)] at hv; cases hv
  split at hv
  · split at hv
    · cases hv
    split at hv
    · cases hv
      show (0 : Int) ≤ max _ 0
      omega
    split at hv
    · cases hv; rw [nl_lo]; omega
    · cases hv
  split at hv
  · obtain ⟨a, a1, a2⟩ := oB_some hv
    obtain ⟨b, b1, b2⟩ := oB_some a2
    rw [if_neg (by omega)] at b2; cases b2
  split at hv
  · obtain ⟨a, a1, a2⟩ := oB_some hv
    rw [if_neg (by omega)] at a2; cases a2
  split at hv
  · rw [if_neg (by omega)] at hv; cases hv
  · cases hv
end PMX
